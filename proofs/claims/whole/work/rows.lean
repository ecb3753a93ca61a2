section
-- ===== PART A: goes FIRST, ahead of the names: the tables' words, and 'selects' of the private methods out of them =====
/-- a private method of a class that the tables say can be made, by its rows of tables_1 -/
def lw_okq (q : MethodName × Nat) : Prop := (q.1.cls ≠ "java/lang/invoke/MethodHandle" ∧ q.1.cls ≠ "java/lang/invoke/VarHandle") ∧ Cond.instantiable q.1.cls q.2 ∈ tables_1 ∧ Cond.privateMethod q.1 ∈ tables_1 ∧ Cond.instanceMethod q.1 ∈ tables_1
theorem lw_p0 : lw_okq (⟨"Slugwire$Line", "isSent", "(I)Z"⟩, 9) := ⟨⟨by decide +kernel, by decide +kernel⟩, List.mem_of_getElem? (i := 161) (by decide +kernel), List.mem_of_getElem? (i := 237) (by decide +kernel), List.mem_of_getElem? (i := 238) (by decide +kernel)⟩
theorem lw_p1 : lw_okq (⟨"Slugwire", "countKilled", "()I"⟩, 10) := ⟨⟨by decide +kernel, by decide +kernel⟩, List.mem_of_getElem? (i := 30) (by decide +kernel), List.mem_of_getElem? (i := 254) (by decide +kernel), List.mem_of_getElem? (i := 255) (by decide +kernel)⟩
theorem lw_p2 : lw_okq (⟨"Slugwire", "countCorrections", "()I"⟩, 10) := ⟨⟨by decide +kernel, by decide +kernel⟩, List.mem_of_getElem? (i := 30) (by decide +kernel), List.mem_of_getElem? (i := 258) (by decide +kernel), List.mem_of_getElem? (i := 259) (by decide +kernel)⟩
theorem lw_p3 : lw_okq (⟨"Slugwire", "countTruths", "()I"⟩, 10) := ⟨⟨by decide +kernel, by decide +kernel⟩, List.mem_of_getElem? (i := 30) (by decide +kernel), List.mem_of_getElem? (i := 262) (by decide +kernel), List.mem_of_getElem? (i := 263) (by decide +kernel)⟩
theorem lw_p4 : lw_okq (⟨"Slugwire", "countUnproven", "()I"⟩, 10) := ⟨⟨by decide +kernel, by decide +kernel⟩, List.mem_of_getElem? (i := 30) (by decide +kernel), List.mem_of_getElem? (i := 266) (by decide +kernel), List.mem_of_getElem? (i := 267) (by decide +kernel)⟩
theorem lw_p5 : lw_okq (⟨"Slugwire", "countFirsts", "()I"⟩, 10) := ⟨⟨by decide +kernel, by decide +kernel⟩, List.mem_of_getElem? (i := 30) (by decide +kernel), List.mem_of_getElem? (i := 270) (by decide +kernel), List.mem_of_getElem? (i := 271) (by decide +kernel)⟩
theorem lw_p6 : lw_okq (⟨"Slugwire", "isFirst", "(II)Z"⟩, 10) := ⟨⟨by decide +kernel, by decide +kernel⟩, List.mem_of_getElem? (i := 30) (by decide +kernel), List.mem_of_getElem? (i := 274) (by decide +kernel), List.mem_of_getElem? (i := 275) (by decide +kernel)⟩
theorem lw_p7 : lw_okq (⟨"Slugwire", "firstHad", "(II)I"⟩, 10) := ⟨⟨by decide +kernel, by decide +kernel⟩, List.mem_of_getElem? (i := 30) (by decide +kernel), List.mem_of_getElem? (i := 278) (by decide +kernel), List.mem_of_getElem? (i := 279) (by decide +kernel)⟩
theorem lw_p8 : lw_okq (⟨"Slugwire", "firstHadAnywhere", "(I)I"⟩, 10) := ⟨⟨by decide +kernel, by decide +kernel⟩, List.mem_of_getElem? (i := 30) (by decide +kernel), List.mem_of_getElem? (i := 282) (by decide +kernel), List.mem_of_getElem? (i := 283) (by decide +kernel)⟩
theorem lw_p9 : lw_okq (⟨"Slugwire$Line", "hasAtDesk", "(II)Z"⟩, 9) := ⟨⟨by decide +kernel, by decide +kernel⟩, List.mem_of_getElem? (i := 161) (by decide +kernel), List.mem_of_getElem? (i := 286) (by decide +kernel), List.mem_of_getElem? (i := 287) (by decide +kernel)⟩
theorem lw_p10 : lw_okq (⟨"Slugwire", "factAt", "(II)LSlugwire$Fact;"⟩, 10) := ⟨⟨by decide +kernel, by decide +kernel⟩, List.mem_of_getElem? (i := 30) (by decide +kernel), List.mem_of_getElem? (i := 290) (by decide +kernel), List.mem_of_getElem? (i := 291) (by decide +kernel)⟩
theorem lw_p11 : lw_okq (⟨"Slugwire", "countWrongAnywhere", "()I"⟩, 10) := ⟨⟨by decide +kernel, by decide +kernel⟩, List.mem_of_getElem? (i := 30) (by decide +kernel), List.mem_of_getElem? (i := 294) (by decide +kernel), List.mem_of_getElem? (i := 295) (by decide +kernel)⟩
theorem lw_p12 : lw_okq (⟨"Slugwire", "countWrong", "(I)I"⟩, 10) := ⟨⟨by decide +kernel, by decide +kernel⟩, List.mem_of_getElem? (i := 30) (by decide +kernel), List.mem_of_getElem? (i := 298) (by decide +kernel), List.mem_of_getElem? (i := 299) (by decide +kernel)⟩
theorem lw_p13 : lw_okq (⟨"Slugwire", "toldAtDesk", "(III)I"⟩, 10) := ⟨⟨by decide +kernel, by decide +kernel⟩, List.mem_of_getElem? (i := 30) (by decide +kernel), List.mem_of_getElem? (i := 302) (by decide +kernel), List.mem_of_getElem? (i := 303) (by decide +kernel)⟩
theorem lw_p14 : lw_okq (⟨"Slugwire", "isDropped", "(II)Z"⟩, 10) := ⟨⟨by decide +kernel, by decide +kernel⟩, List.mem_of_getElem? (i := 30) (by decide +kernel), List.mem_of_getElem? (i := 306) (by decide +kernel), List.mem_of_getElem? (i := 307) (by decide +kernel)⟩
theorem lw_p15 : lw_okq (⟨"java/lang/Throwable", "fillInStackTrace", "(I)Ljava/lang/Throwable;"⟩, 6) := ⟨⟨by decide +kernel, by decide +kernel⟩, List.mem_of_getElem? (i := 348) (by decide +kernel), List.mem_of_getElem? (i := 346) (by decide +kernel), List.mem_of_getElem? (i := 347) (by decide +kernel)⟩
def lw_privs_1 : List (MethodName × Nat) := [(⟨"Slugwire$Line", "isSent", "(I)Z"⟩, 9), (⟨"Slugwire", "countKilled", "()I"⟩, 10), (⟨"Slugwire", "countCorrections", "()I"⟩, 10), (⟨"Slugwire", "countTruths", "()I"⟩, 10), (⟨"Slugwire", "countUnproven", "()I"⟩, 10), (⟨"Slugwire", "countFirsts", "()I"⟩, 10), (⟨"Slugwire", "isFirst", "(II)Z"⟩, 10), (⟨"Slugwire", "firstHad", "(II)I"⟩, 10), (⟨"Slugwire", "firstHadAnywhere", "(I)I"⟩, 10), (⟨"Slugwire$Line", "hasAtDesk", "(II)Z"⟩, 9), (⟨"Slugwire", "factAt", "(II)LSlugwire$Fact;"⟩, 10), (⟨"Slugwire", "countWrongAnywhere", "()I"⟩, 10), (⟨"Slugwire", "countWrong", "(I)I"⟩, 10), (⟨"Slugwire", "toldAtDesk", "(III)I"⟩, 10), (⟨"Slugwire", "isDropped", "(II)Z"⟩, 10), (⟨"java/lang/Throwable", "fillInStackTrace", "(I)Ljava/lang/Throwable;"⟩, 6)]
theorem lw_r1 : ∀ q ∈ lw_privs_1, lw_okq q := List.forall_mem_cons.mpr ⟨lw_p0, List.forall_mem_cons.mpr ⟨lw_p1, List.forall_mem_cons.mpr ⟨lw_p2, List.forall_mem_cons.mpr ⟨lw_p3, List.forall_mem_cons.mpr ⟨lw_p4, List.forall_mem_cons.mpr ⟨lw_p5, List.forall_mem_cons.mpr ⟨lw_p6, List.forall_mem_cons.mpr ⟨lw_p7, List.forall_mem_cons.mpr ⟨lw_p8, List.forall_mem_cons.mpr ⟨lw_p9, List.forall_mem_cons.mpr ⟨lw_p10, List.forall_mem_cons.mpr ⟨lw_p11, List.forall_mem_cons.mpr ⟨lw_p12, List.forall_mem_cons.mpr ⟨lw_p13, List.forall_mem_cons.mpr ⟨lw_p14, List.forall_mem_cons.mpr ⟨lw_p15, fun _ h => absurd h List.not_mem_nil⟩⟩⟩⟩⟩⟩⟩⟩⟩⟩⟩⟩⟩⟩⟩⟩
theorem lw_p16 : lw_okq (⟨"Slugwire", "digestStories", "(J)J"⟩, 10) := ⟨⟨by decide +kernel, by decide +kernel⟩, List.mem_of_getElem? (i := 30) (by decide +kernel), List.mem_of_getElem? (i := 378) (by decide +kernel), List.mem_of_getElem? (i := 379) (by decide +kernel)⟩
theorem lw_p17 : lw_okq (⟨"Slugwire", "checkFact", "(II)V"⟩, 10) := ⟨⟨by decide +kernel, by decide +kernel⟩, List.mem_of_getElem? (i := 30) (by decide +kernel), List.mem_of_getElem? (i := 386) (by decide +kernel), List.mem_of_getElem? (i := 387) (by decide +kernel)⟩
theorem lw_p18 : lw_okq (⟨"Slugwire", "checkStory", "(I)V"⟩, 10) := ⟨⟨by decide +kernel, by decide +kernel⟩, List.mem_of_getElem? (i := 30) (by decide +kernel), List.mem_of_getElem? (i := 390) (by decide +kernel), List.mem_of_getElem? (i := 391) (by decide +kernel)⟩
theorem lw_p19 : lw_okq (⟨"Slugwire$Fact", "countSayers", "()I"⟩, 5) := ⟨⟨by decide +kernel, by decide +kernel⟩, List.mem_of_getElem? (i := 86) (by decide +kernel), List.mem_of_getElem? (i := 411) (by decide +kernel), List.mem_of_getElem? (i := 412) (by decide +kernel)⟩
theorem lw_p20 : lw_okq (⟨"Slugwire$Fact", "countValues", "()I"⟩, 5) := ⟨⟨by decide +kernel, by decide +kernel⟩, List.mem_of_getElem? (i := 86) (by decide +kernel), List.mem_of_getElem? (i := 415) (by decide +kernel), List.mem_of_getElem? (i := 416) (by decide +kernel)⟩
theorem lw_p21 : lw_okq (⟨"Slugwire$Fact", "isSaidAhead", "(I)Z"⟩, 5) := ⟨⟨by decide +kernel, by decide +kernel⟩, List.mem_of_getElem? (i := 86) (by decide +kernel), List.mem_of_getElem? (i := 419) (by decide +kernel), List.mem_of_getElem? (i := 420) (by decide +kernel)⟩
theorem lw_p22 : lw_okq (⟨"Slugwire$Fact", "strongest", "(LSlugwire$Sources;LSlugwire$Tally;ZI)I"⟩, 5) := ⟨⟨by decide +kernel, by decide +kernel⟩, List.mem_of_getElem? (i := 86) (by decide +kernel), List.mem_of_getElem? (i := 436) (by decide +kernel), List.mem_of_getElem? (i := 437) (by decide +kernel)⟩
theorem lw_p23 : lw_okq (⟨"Slugwire$Tally", "weigh", "(LSlugwire$Sources;[II)V"⟩, 5) := ⟨⟨by decide +kernel, by decide +kernel⟩, List.mem_of_getElem? (i := 61) (by decide +kernel), List.mem_of_getElem? (i := 440) (by decide +kernel), List.mem_of_getElem? (i := 441) (by decide +kernel)⟩
theorem lw_p24 : lw_okq (⟨"Slugwire$Tally", "addRoot", "(I)V"⟩, 5) := ⟨⟨by decide +kernel, by decide +kernel⟩, List.mem_of_getElem? (i := 61) (by decide +kernel), List.mem_of_getElem? (i := 446) (by decide +kernel), List.mem_of_getElem? (i := 447) (by decide +kernel)⟩
theorem lw_p25 : lw_okq (⟨"Slugwire$Tally", "proofGrade", "()I"⟩, 5) := ⟨⟨by decide +kernel, by decide +kernel⟩, List.mem_of_getElem? (i := 61) (by decide +kernel), List.mem_of_getElem? (i := 450) (by decide +kernel), List.mem_of_getElem? (i := 451) (by decide +kernel)⟩
theorem lw_p26 : lw_okq (⟨"Slugwire", "hasValues", "(IIZ)Z"⟩, 10) := ⟨⟨by decide +kernel, by decide +kernel⟩, List.mem_of_getElem? (i := 30) (by decide +kernel), List.mem_of_getElem? (i := 462) (by decide +kernel), List.mem_of_getElem? (i := 463) (by decide +kernel)⟩
theorem lw_p27 : lw_okq (⟨"Slugwire$Fact", "valueToFile", "(Z)I"⟩, 5) := ⟨⟨by decide +kernel, by decide +kernel⟩, List.mem_of_getElem? (i := 86) (by decide +kernel), List.mem_of_getElem? (i := 469) (by decide +kernel), List.mem_of_getElem? (i := 470) (by decide +kernel)⟩
theorem lw_p28 : lw_okq (⟨"Slugwire", "forceOf", "(II)I"⟩, 10) := ⟨⟨by decide +kernel, by decide +kernel⟩, List.mem_of_getElem? (i := 30) (by decide +kernel), List.mem_of_getElem? (i := 482) (by decide +kernel), List.mem_of_getElem? (i := 483) (by decide +kernel)⟩
theorem lw_p29 : lw_okq (⟨"Slugwire", "digestTakes", "(J)J"⟩, 10) := ⟨⟨by decide +kernel, by decide +kernel⟩, List.mem_of_getElem? (i := 30) (by decide +kernel), List.mem_of_getElem? (i := 486) (by decide +kernel), List.mem_of_getElem? (i := 487) (by decide +kernel)⟩
theorem lw_p30 : lw_okq (⟨"Slugwire", "checkTake", "(I)V"⟩, 10) := ⟨⟨by decide +kernel, by decide +kernel⟩, List.mem_of_getElem? (i := 30) (by decide +kernel), List.mem_of_getElem? (i := 494) (by decide +kernel), List.mem_of_getElem? (i := 495) (by decide +kernel)⟩
theorem lw_p31 : lw_okq (⟨"Slugwire", "digestLines", "(J)J"⟩, 10) := ⟨⟨by decide +kernel, by decide +kernel⟩, List.mem_of_getElem? (i := 30) (by decide +kernel), List.mem_of_getElem? (i := 504) (by decide +kernel), List.mem_of_getElem? (i := 505) (by decide +kernel)⟩
def lw_privs_2 : List (MethodName × Nat) := [(⟨"Slugwire", "digestStories", "(J)J"⟩, 10), (⟨"Slugwire", "checkFact", "(II)V"⟩, 10), (⟨"Slugwire", "checkStory", "(I)V"⟩, 10), (⟨"Slugwire$Fact", "countSayers", "()I"⟩, 5), (⟨"Slugwire$Fact", "countValues", "()I"⟩, 5), (⟨"Slugwire$Fact", "isSaidAhead", "(I)Z"⟩, 5), (⟨"Slugwire$Fact", "strongest", "(LSlugwire$Sources;LSlugwire$Tally;ZI)I"⟩, 5), (⟨"Slugwire$Tally", "weigh", "(LSlugwire$Sources;[II)V"⟩, 5), (⟨"Slugwire$Tally", "addRoot", "(I)V"⟩, 5), (⟨"Slugwire$Tally", "proofGrade", "()I"⟩, 5), (⟨"Slugwire", "hasValues", "(IIZ)Z"⟩, 10), (⟨"Slugwire$Fact", "valueToFile", "(Z)I"⟩, 5), (⟨"Slugwire", "forceOf", "(II)I"⟩, 10), (⟨"Slugwire", "digestTakes", "(J)J"⟩, 10), (⟨"Slugwire", "checkTake", "(I)V"⟩, 10), (⟨"Slugwire", "digestLines", "(J)J"⟩, 10)]
theorem lw_r2 : ∀ q ∈ lw_privs_2, lw_okq q := List.forall_mem_cons.mpr ⟨lw_p16, List.forall_mem_cons.mpr ⟨lw_p17, List.forall_mem_cons.mpr ⟨lw_p18, List.forall_mem_cons.mpr ⟨lw_p19, List.forall_mem_cons.mpr ⟨lw_p20, List.forall_mem_cons.mpr ⟨lw_p21, List.forall_mem_cons.mpr ⟨lw_p22, List.forall_mem_cons.mpr ⟨lw_p23, List.forall_mem_cons.mpr ⟨lw_p24, List.forall_mem_cons.mpr ⟨lw_p25, List.forall_mem_cons.mpr ⟨lw_p26, List.forall_mem_cons.mpr ⟨lw_p27, List.forall_mem_cons.mpr ⟨lw_p28, List.forall_mem_cons.mpr ⟨lw_p29, List.forall_mem_cons.mpr ⟨lw_p30, List.forall_mem_cons.mpr ⟨lw_p31, fun _ h => absurd h List.not_mem_nil⟩⟩⟩⟩⟩⟩⟩⟩⟩⟩⟩⟩⟩⟩⟩⟩
theorem lw_p32 : lw_okq (⟨"Slugwire", "checkLine", "(I)V"⟩, 10) := ⟨⟨by decide +kernel, by decide +kernel⟩, List.mem_of_getElem? (i := 30) (by decide +kernel), List.mem_of_getElem? (i := 512) (by decide +kernel), List.mem_of_getElem? (i := 513) (by decide +kernel)⟩
theorem lw_p33 : lw_okq (⟨"Slugwire$Line", "countWaiting", "()I"⟩, 9) := ⟨⟨by decide +kernel, by decide +kernel⟩, List.mem_of_getElem? (i := 161) (by decide +kernel), List.mem_of_getElem? (i := 517) (by decide +kernel), List.mem_of_getElem? (i := 518) (by decide +kernel)⟩
theorem lw_p34 : lw_okq (⟨"Slugwire$Line", "countWordsLeft", "()I"⟩, 9) := ⟨⟨by decide +kernel, by decide +kernel⟩, List.mem_of_getElem? (i := 161) (by decide +kernel), List.mem_of_getElem? (i := 521) (by decide +kernel), List.mem_of_getElem? (i := 522) (by decide +kernel)⟩
theorem lw_p35 : lw_okq (⟨"Slugwire", "countTold", "(I)I"⟩, 10) := ⟨⟨by decide +kernel, by decide +kernel⟩, List.mem_of_getElem? (i := 30) (by decide +kernel), List.mem_of_getElem? (i := 525) (by decide +kernel), List.mem_of_getElem? (i := 526) (by decide +kernel)⟩
theorem lw_p36 : lw_okq (⟨"Slugwire$Line", "copyFrom", "(LSlugwire$Line;)V"⟩, 9) := ⟨⟨by decide +kernel, by decide +kernel⟩, List.mem_of_getElem? (i := 161) (by decide +kernel), List.mem_of_getElem? (i := 535) (by decide +kernel), List.mem_of_getElem? (i := 536) (by decide +kernel)⟩
theorem lw_p37 : lw_okq (⟨"Slugwire$Line", "enqueue", "(IIII)V"⟩, 9) := ⟨⟨by decide +kernel, by decide +kernel⟩, List.mem_of_getElem? (i := 161) (by decide +kernel), List.mem_of_getElem? (i := 542) (by decide +kernel), List.mem_of_getElem? (i := 543) (by decide +kernel)⟩
theorem lw_p38 : lw_okq (⟨"Slugwire$Line", "runUntilHad", "(II)I"⟩, 9) := ⟨⟨by decide +kernel, by decide +kernel⟩, List.mem_of_getElem? (i := 161) (by decide +kernel), List.mem_of_getElem? (i := 546) (by decide +kernel), List.mem_of_getElem? (i := 547) (by decide +kernel)⟩
theorem lw_p39 : lw_okq (⟨"Slugwire$Line", "runMinute", "(I)I"⟩, 9) := ⟨⟨by decide +kernel, by decide +kernel⟩, List.mem_of_getElem? (i := 161) (by decide +kernel), List.mem_of_getElem? (i := 550) (by decide +kernel), List.mem_of_getElem? (i := 551) (by decide +kernel)⟩
theorem lw_p40 : lw_okq (⟨"Slugwire$Line", "mostUrgent", "(I)I"⟩, 9) := ⟨⟨by decide +kernel, by decide +kernel⟩, List.mem_of_getElem? (i := 161) (by decide +kernel), List.mem_of_getElem? (i := 554) (by decide +kernel), List.mem_of_getElem? (i := 555) (by decide +kernel)⟩
theorem lw_p41 : lw_okq (⟨"Slugwire$Line", "isRunning", "(I)Z"⟩, 9) := ⟨⟨by decide +kernel, by decide +kernel⟩, List.mem_of_getElem? (i := 161) (by decide +kernel), List.mem_of_getElem? (i := 566) (by decide +kernel), List.mem_of_getElem? (i := 567) (by decide +kernel)⟩
theorem lw_p42 : lw_okq (⟨"Slugwire", "digestDesks", "(J)J"⟩, 10) := ⟨⟨by decide +kernel, by decide +kernel⟩, List.mem_of_getElem? (i := 30) (by decide +kernel), List.mem_of_getElem? (i := 570) (by decide +kernel), List.mem_of_getElem? (i := 571) (by decide +kernel)⟩
theorem lw_p43 : lw_okq (⟨"Slugwire", "checkSource", "(I)V"⟩, 10) := ⟨⟨by decide +kernel, by decide +kernel⟩, List.mem_of_getElem? (i := 30) (by decide +kernel), List.mem_of_getElem? (i := 588) (by decide +kernel), List.mem_of_getElem? (i := 589) (by decide +kernel)⟩
theorem lw_p44 : lw_okq (⟨"Slugwire$Sources", "add", "(II)I"⟩, 3) := ⟨⟨by decide +kernel, by decide +kernel⟩, List.mem_of_getElem? (i := 38) (by decide +kernel), List.mem_of_getElem? (i := 609) (by decide +kernel), List.mem_of_getElem? (i := 610) (by decide +kernel)⟩
theorem lw_p45 : lw_okq (⟨"Slugwire$Fact", "settle", "(LSlugwire$Sources;LSlugwire$Tally;)V"⟩, 5) := ⟨⟨by decide +kernel, by decide +kernel⟩, List.mem_of_getElem? (i := 86) (by decide +kernel), List.mem_of_getElem? (i := 637) (by decide +kernel), List.mem_of_getElem? (i := 638) (by decide +kernel)⟩
theorem lw_p46 : lw_okq (⟨"Slugwire", "checkRoomForTake", "()V"⟩, 10) := ⟨⟨by decide +kernel, by decide +kernel⟩, List.mem_of_getElem? (i := 30) (by decide +kernel), List.mem_of_getElem? (i := 673) (by decide +kernel), List.mem_of_getElem? (i := 674) (by decide +kernel)⟩
theorem lw_p47 : lw_okq (⟨"Slugwire", "addTake", "(IIIZII)I"⟩, 10) := ⟨⟨by decide +kernel, by decide +kernel⟩, List.mem_of_getElem? (i := 30) (by decide +kernel), List.mem_of_getElem? (i := 678) (by decide +kernel), List.mem_of_getElem? (i := 679) (by decide +kernel)⟩
def lw_privs_3 : List (MethodName × Nat) := [(⟨"Slugwire", "checkLine", "(I)V"⟩, 10), (⟨"Slugwire$Line", "countWaiting", "()I"⟩, 9), (⟨"Slugwire$Line", "countWordsLeft", "()I"⟩, 9), (⟨"Slugwire", "countTold", "(I)I"⟩, 10), (⟨"Slugwire$Line", "copyFrom", "(LSlugwire$Line;)V"⟩, 9), (⟨"Slugwire$Line", "enqueue", "(IIII)V"⟩, 9), (⟨"Slugwire$Line", "runUntilHad", "(II)I"⟩, 9), (⟨"Slugwire$Line", "runMinute", "(I)I"⟩, 9), (⟨"Slugwire$Line", "mostUrgent", "(I)I"⟩, 9), (⟨"Slugwire$Line", "isRunning", "(I)Z"⟩, 9), (⟨"Slugwire", "digestDesks", "(J)J"⟩, 10), (⟨"Slugwire", "checkSource", "(I)V"⟩, 10), (⟨"Slugwire$Sources", "add", "(II)I"⟩, 3), (⟨"Slugwire$Fact", "settle", "(LSlugwire$Sources;LSlugwire$Tally;)V"⟩, 5), (⟨"Slugwire", "checkRoomForTake", "()V"⟩, 10), (⟨"Slugwire", "addTake", "(IIIZII)I"⟩, 10)]
theorem lw_r3 : ∀ q ∈ lw_privs_3, lw_okq q := List.forall_mem_cons.mpr ⟨lw_p32, List.forall_mem_cons.mpr ⟨lw_p33, List.forall_mem_cons.mpr ⟨lw_p34, List.forall_mem_cons.mpr ⟨lw_p35, List.forall_mem_cons.mpr ⟨lw_p36, List.forall_mem_cons.mpr ⟨lw_p37, List.forall_mem_cons.mpr ⟨lw_p38, List.forall_mem_cons.mpr ⟨lw_p39, List.forall_mem_cons.mpr ⟨lw_p40, List.forall_mem_cons.mpr ⟨lw_p41, List.forall_mem_cons.mpr ⟨lw_p42, List.forall_mem_cons.mpr ⟨lw_p43, List.forall_mem_cons.mpr ⟨lw_p44, List.forall_mem_cons.mpr ⟨lw_p45, List.forall_mem_cons.mpr ⟨lw_p46, List.forall_mem_cons.mpr ⟨lw_p47, fun _ h => absurd h List.not_mem_nil⟩⟩⟩⟩⟩⟩⟩⟩⟩⟩⟩⟩⟩⟩⟩⟩
theorem lw_p48 : lw_okq (⟨"Slugwire", "runOnAllLines", "(I)V"⟩, 10) := ⟨⟨by decide +kernel, by decide +kernel⟩, List.mem_of_getElem? (i := 30) (by decide +kernel), List.mem_of_getElem? (i := 682) (by decide +kernel), List.mem_of_getElem? (i := 683) (by decide +kernel)⟩
theorem lw_p49 : lw_okq (⟨"Slugwire$Line", "start", "(ILSlugwire$Take;)V"⟩, 9) := ⟨⟨by decide +kernel, by decide +kernel⟩, List.mem_of_getElem? (i := 161) (by decide +kernel), List.mem_of_getElem? (i := 686) (by decide +kernel), List.mem_of_getElem? (i := 687) (by decide +kernel)⟩
theorem lw_p50 : lw_okq (⟨"Slugwire$Line", "stop", "(I)V"⟩, 9) := ⟨⟨by decide +kernel, by decide +kernel⟩, List.mem_of_getElem? (i := 161) (by decide +kernel), List.mem_of_getElem? (i := 708) (by decide +kernel), List.mem_of_getElem? (i := 709) (by decide +kernel)⟩
theorem lw_p51 : lw_okq (⟨"SlugwireModel", "isNoSource", "(I)Z"⟩, 6) := ⟨⟨by decide +kernel, by decide +kernel⟩, List.mem_of_getElem? (i := 783) (by decide +kernel), List.mem_of_getElem? (i := 845) (by decide +kernel), List.mem_of_getElem? (i := 846) (by decide +kernel)⟩
theorem lw_p52 : lw_okq (⟨"SlugwireModel", "start", "(ZI)Z"⟩, 6) := ⟨⟨by decide +kernel, by decide +kernel⟩, List.mem_of_getElem? (i := 783) (by decide +kernel), List.mem_of_getElem? (i := 856) (by decide +kernel), List.mem_of_getElem? (i := 857) (by decide +kernel)⟩
theorem lw_p53 : lw_okq (⟨"SlugwireModel", "refuse", "(ZI)Z"⟩, 6) := ⟨⟨by decide +kernel, by decide +kernel⟩, List.mem_of_getElem? (i := 783) (by decide +kernel), List.mem_of_getElem? (i := 860) (by decide +kernel), List.mem_of_getElem? (i := 861) (by decide +kernel)⟩
theorem lw_p54 : lw_okq (⟨"java/util/ArrayList", "add", "(Ljava/lang/Object;[Ljava/lang/Object;I)V"⟩, 3) := ⟨⟨by decide +kernel, by decide +kernel⟩, List.mem_of_getElem? (i := 789) (by decide +kernel), List.mem_of_getElem? (i := 900) (by decide +kernel), List.mem_of_getElem? (i := 901) (by decide +kernel)⟩
theorem lw_p55 : lw_okq (⟨"java/util/ArrayList", "grow", "()[Ljava/lang/Object;"⟩, 3) := ⟨⟨by decide +kernel, by decide +kernel⟩, List.mem_of_getElem? (i := 789) (by decide +kernel), List.mem_of_getElem? (i := 904) (by decide +kernel), List.mem_of_getElem? (i := 905) (by decide +kernel)⟩
theorem lw_p56 : lw_okq (⟨"java/util/ArrayList", "grow", "(I)[Ljava/lang/Object;"⟩, 3) := ⟨⟨by decide +kernel, by decide +kernel⟩, List.mem_of_getElem? (i := 789) (by decide +kernel), List.mem_of_getElem? (i := 908) (by decide +kernel), List.mem_of_getElem? (i := 909) (by decide +kernel)⟩
theorem lw_p57 : lw_okq (⟨"SlugwireModel", "isNoFact", "(II)Z"⟩, 6) := ⟨⟨by decide +kernel, by decide +kernel⟩, List.mem_of_getElem? (i := 783) (by decide +kernel), List.mem_of_getElem? (i := 1017) (by decide +kernel), List.mem_of_getElem? (i := 1018) (by decide +kernel)⟩
theorem lw_p58 : lw_okq (⟨"SlugwireModel", "isNoStory", "(I)Z"⟩, 6) := ⟨⟨by decide +kernel, by decide +kernel⟩, List.mem_of_getElem? (i := 783) (by decide +kernel), List.mem_of_getElem? (i := 1021) (by decide +kernel), List.mem_of_getElem? (i := 1022) (by decide +kernel)⟩
theorem lw_p59 : lw_okq (⟨"SlugwireModel", "fact", "(II)LSlugwireModel$Fact;"⟩, 6) := ⟨⟨by decide +kernel, by decide +kernel⟩, List.mem_of_getElem? (i := 783) (by decide +kernel), List.mem_of_getElem? (i := 1025) (by decide +kernel), List.mem_of_getElem? (i := 1026) (by decide +kernel)⟩
theorem lw_p60 : lw_okq (⟨"SlugwireModel", "proof", "(LSlugwireModel$Fact;I)I"⟩, 6) := ⟨⟨by decide +kernel, by decide +kernel⟩, List.mem_of_getElem? (i := 783) (by decide +kernel), List.mem_of_getElem? (i := 1030) (by decide +kernel), List.mem_of_getElem? (i := 1031) (by decide +kernel)⟩
theorem lw_p61 : lw_okq (⟨"SlugwireModel", "roots", "(LSlugwireModel$Fact;II)I"⟩, 6) := ⟨⟨by decide +kernel, by decide +kernel⟩, List.mem_of_getElem? (i := 783) (by decide +kernel), List.mem_of_getElem? (i := 1034) (by decide +kernel), List.mem_of_getElem? (i := 1035) (by decide +kernel)⟩
theorem lw_p62 : lw_okq (⟨"SlugwireModel", "isNoLine", "(I)Z"⟩, 6) := ⟨⟨by decide +kernel, by decide +kernel⟩, List.mem_of_getElem? (i := 783) (by decide +kernel), List.mem_of_getElem? (i := 1051) (by decide +kernel), List.mem_of_getElem? (i := 1052) (by decide +kernel)⟩
theorem lw_p63 : lw_okq (⟨"SlugwireModel", "heard", "(LSlugwireModel$Fact;)I"⟩, 6) := ⟨⟨by decide +kernel, by decide +kernel⟩, List.mem_of_getElem? (i := 783) (by decide +kernel), List.mem_of_getElem? (i := 1113) (by decide +kernel), List.mem_of_getElem? (i := 1114) (by decide +kernel)⟩
def lw_privs_4 : List (MethodName × Nat) := [(⟨"Slugwire", "runOnAllLines", "(I)V"⟩, 10), (⟨"Slugwire$Line", "start", "(ILSlugwire$Take;)V"⟩, 9), (⟨"Slugwire$Line", "stop", "(I)V"⟩, 9), (⟨"SlugwireModel", "isNoSource", "(I)Z"⟩, 6), (⟨"SlugwireModel", "start", "(ZI)Z"⟩, 6), (⟨"SlugwireModel", "refuse", "(ZI)Z"⟩, 6), (⟨"java/util/ArrayList", "add", "(Ljava/lang/Object;[Ljava/lang/Object;I)V"⟩, 3), (⟨"java/util/ArrayList", "grow", "()[Ljava/lang/Object;"⟩, 3), (⟨"java/util/ArrayList", "grow", "(I)[Ljava/lang/Object;"⟩, 3), (⟨"SlugwireModel", "isNoFact", "(II)Z"⟩, 6), (⟨"SlugwireModel", "isNoStory", "(I)Z"⟩, 6), (⟨"SlugwireModel", "fact", "(II)LSlugwireModel$Fact;"⟩, 6), (⟨"SlugwireModel", "proof", "(LSlugwireModel$Fact;I)I"⟩, 6), (⟨"SlugwireModel", "roots", "(LSlugwireModel$Fact;II)I"⟩, 6), (⟨"SlugwireModel", "isNoLine", "(I)Z"⟩, 6), (⟨"SlugwireModel", "heard", "(LSlugwireModel$Fact;)I"⟩, 6)]
theorem lw_r4 : ∀ q ∈ lw_privs_4, lw_okq q := List.forall_mem_cons.mpr ⟨lw_p48, List.forall_mem_cons.mpr ⟨lw_p49, List.forall_mem_cons.mpr ⟨lw_p50, List.forall_mem_cons.mpr ⟨lw_p51, List.forall_mem_cons.mpr ⟨lw_p52, List.forall_mem_cons.mpr ⟨lw_p53, List.forall_mem_cons.mpr ⟨lw_p54, List.forall_mem_cons.mpr ⟨lw_p55, List.forall_mem_cons.mpr ⟨lw_p56, List.forall_mem_cons.mpr ⟨lw_p57, List.forall_mem_cons.mpr ⟨lw_p58, List.forall_mem_cons.mpr ⟨lw_p59, List.forall_mem_cons.mpr ⟨lw_p60, List.forall_mem_cons.mpr ⟨lw_p61, List.forall_mem_cons.mpr ⟨lw_p62, List.forall_mem_cons.mpr ⟨lw_p63, fun _ h => absurd h List.not_mem_nil⟩⟩⟩⟩⟩⟩⟩⟩⟩⟩⟩⟩⟩⟩⟩⟩
theorem lw_p64 : lw_okq (⟨"SlugwireModel", "truth", "(LSlugwireModel$Fact;)I"⟩, 6) := ⟨⟨by decide +kernel, by decide +kernel⟩, List.mem_of_getElem? (i := 783) (by decide +kernel), List.mem_of_getElem? (i := 1117) (by decide +kernel), List.mem_of_getElem? (i := 1118) (by decide +kernel)⟩
theorem lw_p65 : lw_okq (⟨"SlugwireModel", "strongest", "(LSlugwireModel$Fact;Z)I"⟩, 6) := ⟨⟨by decide +kernel, by decide +kernel⟩, List.mem_of_getElem? (i := 783) (by decide +kernel), List.mem_of_getElem? (i := 1121) (by decide +kernel), List.mem_of_getElem? (i := 1122) (by decide +kernel)⟩
theorem lw_p66 : lw_okq (⟨"SlugwireModel", "force", "(LSlugwireModel$Fact;I)I"⟩, 6) := ⟨⟨by decide +kernel, by decide +kernel⟩, List.mem_of_getElem? (i := 783) (by decide +kernel), List.mem_of_getElem? (i := 1128) (by decide +kernel), List.mem_of_getElem? (i := 1129) (by decide +kernel)⟩
theorem lw_p67 : lw_okq (⟨"SlugwireModel", "add", "(LSlugwireModel$Take;)V"⟩, 6) := ⟨⟨by decide +kernel, by decide +kernel⟩, List.mem_of_getElem? (i := 783) (by decide +kernel), List.mem_of_getElem? (i := 1133) (by decide +kernel), List.mem_of_getElem? (i := 1134) (by decide +kernel)⟩
theorem lw_p68 : lw_okq (⟨"SlugwireModel", "isNoTake", "(I)Z"⟩, 6) := ⟨⟨by decide +kernel, by decide +kernel⟩, List.mem_of_getElem? (i := 783) (by decide +kernel), List.mem_of_getElem? (i := 1191) (by decide +kernel), List.mem_of_getElem? (i := 1192) (by decide +kernel)⟩
theorem lw_p69 : lw_okq (⟨"SlugwireModel$Line", "next", "(Ljava/util/ArrayList;I)I"⟩, 7) := ⟨⟨by decide +kernel, by decide +kernel⟩, List.mem_of_getElem? (i := 977) (by decide +kernel), List.mem_of_getElem? (i := 1207) (by decide +kernel), List.mem_of_getElem? (i := 1208) (by decide +kernel)⟩
theorem lw_p70 : lw_okq (⟨"SlugwireModel", "ofFactNow", "(III)I"⟩, 6) := ⟨⟨by decide +kernel, by decide +kernel⟩, List.mem_of_getElem? (i := 783) (by decide +kernel), List.mem_of_getElem? (i := 1227) (by decide +kernel), List.mem_of_getElem? (i := 1228) (by decide +kernel)⟩
theorem lw_p71 : lw_okq (⟨"SlugwireModel", "had", "(II)I"⟩, 6) := ⟨⟨by decide +kernel, by decide +kernel⟩, List.mem_of_getElem? (i := 783) (by decide +kernel), List.mem_of_getElem? (i := 1237) (by decide +kernel), List.mem_of_getElem? (i := 1238) (by decide +kernel)⟩
theorem lw_p72 : lw_okq (⟨"SlugwireModel", "isWith", "(III)Z"⟩, 6) := ⟨⟨by decide +kernel, by decide +kernel⟩, List.mem_of_getElem? (i := 783) (by decide +kernel), List.mem_of_getElem? (i := 1241) (by decide +kernel), List.mem_of_getElem? (i := 1242) (by decide +kernel)⟩
theorem lw_p73 : lw_okq (⟨"SlugwireModel", "isFirst", "(II)Z"⟩, 6) := ⟨⟨by decide +kernel, by decide +kernel⟩, List.mem_of_getElem? (i := 783) (by decide +kernel), List.mem_of_getElem? (i := 1249) (by decide +kernel), List.mem_of_getElem? (i := 1250) (by decide +kernel)⟩
theorem lw_p74 : lw_okq (⟨"SlugwireModel", "ofTakeNow", "(II)I"⟩, 6) := ⟨⟨by decide +kernel, by decide +kernel⟩, List.mem_of_getElem? (i := 783) (by decide +kernel), List.mem_of_getElem? (i := 1261) (by decide +kernel), List.mem_of_getElem? (i := 1262) (by decide +kernel)⟩
theorem lw_p75 : lw_okq (⟨"SlugwireModel", "saysNow", "(II)I"⟩, 6) := ⟨⟨by decide +kernel, by decide +kernel⟩, List.mem_of_getElem? (i := 783) (by decide +kernel), List.mem_of_getElem? (i := 1269) (by decide +kernel), List.mem_of_getElem? (i := 1270) (by decide +kernel)⟩
theorem lw_p76 : lw_okq (⟨"SlugwireModel", "stateNow", "(II)I"⟩, 6) := ⟨⟨by decide +kernel, by decide +kernel⟩, List.mem_of_getElem? (i := 783) (by decide +kernel), List.mem_of_getElem? (i := 1277) (by decide +kernel), List.mem_of_getElem? (i := 1278) (by decide +kernel)⟩
theorem lw_p77 : lw_okq (⟨"SlugwireModel", "isDropped", "(LSlugwireModel$Line;I)Z"⟩, 6) := ⟨⟨by decide +kernel, by decide +kernel⟩, List.mem_of_getElem? (i := 783) (by decide +kernel), List.mem_of_getElem? (i := 1281) (by decide +kernel), List.mem_of_getElem? (i := 1282) (by decide +kernel)⟩
theorem lw_p78 : lw_okq (⟨"SlugwireModel", "tellsNow", "(III)I"⟩, 6) := ⟨⟨by decide +kernel, by decide +kernel⟩, List.mem_of_getElem? (i := 783) (by decide +kernel), List.mem_of_getElem? (i := 1289) (by decide +kernel), List.mem_of_getElem? (i := 1290) (by decide +kernel)⟩
theorem lw_p79 : lw_okq (⟨"SlugwireModel", "ofLineNow", "(II)I"⟩, 6) := ⟨⟨by decide +kernel, by decide +kernel⟩, List.mem_of_getElem? (i := 783) (by decide +kernel), List.mem_of_getElem? (i := 1297) (by decide +kernel), List.mem_of_getElem? (i := 1298) (by decide +kernel)⟩
def lw_privs_5 : List (MethodName × Nat) := [(⟨"SlugwireModel", "truth", "(LSlugwireModel$Fact;)I"⟩, 6), (⟨"SlugwireModel", "strongest", "(LSlugwireModel$Fact;Z)I"⟩, 6), (⟨"SlugwireModel", "force", "(LSlugwireModel$Fact;I)I"⟩, 6), (⟨"SlugwireModel", "add", "(LSlugwireModel$Take;)V"⟩, 6), (⟨"SlugwireModel", "isNoTake", "(I)Z"⟩, 6), (⟨"SlugwireModel$Line", "next", "(Ljava/util/ArrayList;I)I"⟩, 7), (⟨"SlugwireModel", "ofFactNow", "(III)I"⟩, 6), (⟨"SlugwireModel", "had", "(II)I"⟩, 6), (⟨"SlugwireModel", "isWith", "(III)Z"⟩, 6), (⟨"SlugwireModel", "isFirst", "(II)Z"⟩, 6), (⟨"SlugwireModel", "ofTakeNow", "(II)I"⟩, 6), (⟨"SlugwireModel", "saysNow", "(II)I"⟩, 6), (⟨"SlugwireModel", "stateNow", "(II)I"⟩, 6), (⟨"SlugwireModel", "isDropped", "(LSlugwireModel$Line;I)Z"⟩, 6), (⟨"SlugwireModel", "tellsNow", "(III)I"⟩, 6), (⟨"SlugwireModel", "ofLineNow", "(II)I"⟩, 6)]
theorem lw_r5 : ∀ q ∈ lw_privs_5, lw_okq q := List.forall_mem_cons.mpr ⟨lw_p64, List.forall_mem_cons.mpr ⟨lw_p65, List.forall_mem_cons.mpr ⟨lw_p66, List.forall_mem_cons.mpr ⟨lw_p67, List.forall_mem_cons.mpr ⟨lw_p68, List.forall_mem_cons.mpr ⟨lw_p69, List.forall_mem_cons.mpr ⟨lw_p70, List.forall_mem_cons.mpr ⟨lw_p71, List.forall_mem_cons.mpr ⟨lw_p72, List.forall_mem_cons.mpr ⟨lw_p73, List.forall_mem_cons.mpr ⟨lw_p74, List.forall_mem_cons.mpr ⟨lw_p75, List.forall_mem_cons.mpr ⟨lw_p76, List.forall_mem_cons.mpr ⟨lw_p77, List.forall_mem_cons.mpr ⟨lw_p78, List.forall_mem_cons.mpr ⟨lw_p79, fun _ h => absurd h List.not_mem_nil⟩⟩⟩⟩⟩⟩⟩⟩⟩⟩⟩⟩⟩⟩⟩⟩
theorem lw_p80 : lw_okq (⟨"SlugwireModel", "waiting", "(LSlugwireModel$Line;Z)I"⟩, 6) := ⟨⟨by decide +kernel, by decide +kernel⟩, List.mem_of_getElem? (i := 783) (by decide +kernel), List.mem_of_getElem? (i := 1301) (by decide +kernel), List.mem_of_getElem? (i := 1302) (by decide +kernel)⟩
theorem lw_p81 : lw_okq (⟨"SlugwireModel", "told", "(IZ)I"⟩, 6) := ⟨⟨by decide +kernel, by decide +kernel⟩, List.mem_of_getElem? (i := 783) (by decide +kernel), List.mem_of_getElem? (i := 1306) (by decide +kernel), List.mem_of_getElem? (i := 1307) (by decide +kernel)⟩
theorem lw_p82 : lw_okq (⟨"SlugwireModel", "manyNow", "(I)I"⟩, 6) := ⟨⟨by decide +kernel, by decide +kernel⟩, List.mem_of_getElem? (i := 783) (by decide +kernel), List.mem_of_getElem? (i := 1314) (by decide +kernel), List.mem_of_getElem? (i := 1315) (by decide +kernel)⟩
theorem lw_p83 : lw_okq (⟨"SlugwireModel", "takesOf", "(I)I"⟩, 6) := ⟨⟨by decide +kernel, by decide +kernel⟩, List.mem_of_getElem? (i := 783) (by decide +kernel), List.mem_of_getElem? (i := 1318) (by decide +kernel), List.mem_of_getElem? (i := 1319) (by decide +kernel)⟩
theorem lw_p84 : lw_okq (⟨"SlugwireModel", "facts", "(I)I"⟩, 6) := ⟨⟨by decide +kernel, by decide +kernel⟩, List.mem_of_getElem? (i := 783) (by decide +kernel), List.mem_of_getElem? (i := 1322) (by decide +kernel), List.mem_of_getElem? (i := 1323) (by decide +kernel)⟩
theorem lw_p85 : lw_okq (⟨"SlugwireModel", "wrong", "()I"⟩, 6) := ⟨⟨by decide +kernel, by decide +kernel⟩, List.mem_of_getElem? (i := 783) (by decide +kernel), List.mem_of_getElem? (i := 1326) (by decide +kernel), List.mem_of_getElem? (i := 1327) (by decide +kernel)⟩
theorem lw_p86 : lw_okq (⟨"SlugwireModel", "arrivesNow", "(LSlugwireModel$Line;Ljava/util/ArrayList;I)I"⟩, 6) := ⟨⟨by decide +kernel, by decide +kernel⟩, List.mem_of_getElem? (i := 783) (by decide +kernel), List.mem_of_getElem? (i := 1345) (by decide +kernel), List.mem_of_getElem? (i := 1346) (by decide +kernel)⟩
theorem lw_p87 : lw_okq (⟨"SlugwireModel", "wouldArriveNow", "(III)I"⟩, 6) := ⟨⟨by decide +kernel, by decide +kernel⟩, List.mem_of_getElem? (i := 783) (by decide +kernel), List.mem_of_getElem? (i := 1353) (by decide +kernel), List.mem_of_getElem? (i := 1354) (by decide +kernel)⟩
theorem lw_p88 : lw_okq (⟨"SlugwireModel", "needsNow", "(IIII)I"⟩, 6) := ⟨⟨by decide +kernel, by decide +kernel⟩, List.mem_of_getElem? (i := 783) (by decide +kernel), List.mem_of_getElem? (i := 1385) (by decide +kernel), List.mem_of_getElem? (i := 1386) (by decide +kernel)⟩
theorem lw_p89 : lw_okq (⟨"SlugwireModel", "isTruth", "(LSlugwireModel$Fact;III)Z"⟩, 6) := ⟨⟨by decide +kernel, by decide +kernel⟩, List.mem_of_getElem? (i := 783) (by decide +kernel), List.mem_of_getElem? (i := 1389) (by decide +kernel), List.mem_of_getElem? (i := 1390) (by decide +kernel)⟩
theorem lw_p90 : lw_okq (⟨"SlugwireModel", "leadNow", "(II)I"⟩, 6) := ⟨⟨by decide +kernel, by decide +kernel⟩, List.mem_of_getElem? (i := 783) (by decide +kernel), List.mem_of_getElem? (i := 1397) (by decide +kernel), List.mem_of_getElem? (i := 1398) (by decide +kernel)⟩
def lw_privs_6 : List (MethodName × Nat) := [(⟨"SlugwireModel", "waiting", "(LSlugwireModel$Line;Z)I"⟩, 6), (⟨"SlugwireModel", "told", "(IZ)I"⟩, 6), (⟨"SlugwireModel", "manyNow", "(I)I"⟩, 6), (⟨"SlugwireModel", "takesOf", "(I)I"⟩, 6), (⟨"SlugwireModel", "facts", "(I)I"⟩, 6), (⟨"SlugwireModel", "wrong", "()I"⟩, 6), (⟨"SlugwireModel", "arrivesNow", "(LSlugwireModel$Line;Ljava/util/ArrayList;I)I"⟩, 6), (⟨"SlugwireModel", "wouldArriveNow", "(III)I"⟩, 6), (⟨"SlugwireModel", "needsNow", "(IIII)I"⟩, 6), (⟨"SlugwireModel", "isTruth", "(LSlugwireModel$Fact;III)Z"⟩, 6), (⟨"SlugwireModel", "leadNow", "(II)I"⟩, 6)]
theorem lw_r6 : ∀ q ∈ lw_privs_6, lw_okq q := List.forall_mem_cons.mpr ⟨lw_p80, List.forall_mem_cons.mpr ⟨lw_p81, List.forall_mem_cons.mpr ⟨lw_p82, List.forall_mem_cons.mpr ⟨lw_p83, List.forall_mem_cons.mpr ⟨lw_p84, List.forall_mem_cons.mpr ⟨lw_p85, List.forall_mem_cons.mpr ⟨lw_p86, List.forall_mem_cons.mpr ⟨lw_p87, List.forall_mem_cons.mpr ⟨lw_p88, List.forall_mem_cons.mpr ⟨lw_p89, List.forall_mem_cons.mpr ⟨lw_p90, fun _ h => absurd h List.not_mem_nil⟩⟩⟩⟩⟩⟩⟩⟩⟩⟩⟩
def lw_privs : List (MethodName × Nat) := lw_privs_1 ++ (lw_privs_2 ++ (lw_privs_3 ++ (lw_privs_4 ++ (lw_privs_5 ++ (lw_privs_6)))))
def lw_tbl : List Cond := k2_sels lw_privs ++ tables_1
theorem lw_privs_ok : ∀ q ∈ lw_privs, lw_okq q := by
  show ∀ q ∈ lw_privs_1 ++ (lw_privs_2 ++ (lw_privs_3 ++ (lw_privs_4 ++ (lw_privs_5 ++ (lw_privs_6))))), lw_okq q
  exact List.forall_mem_append.mpr ⟨lw_r1, List.forall_mem_append.mpr ⟨lw_r2, List.forall_mem_append.mpr ⟨lw_r3, List.forall_mem_append.mpr ⟨lw_r4, List.forall_mem_append.mpr ⟨lw_r5, lw_r6⟩⟩⟩⟩⟩
/-- the streams that the claim lets the run draw from -/
abbrev lw_cs : List Choice := [Jvm.Choice.named "NaN.bits"]
theorem lw_bits : nanBits ∈ lw_cs := by first | decide | exact List.mem_cons_self | simp [lw_cs, nanBits]
/-! ===== BEGIN words of one list among another's, by their places ===== -/
theorem goodIn_r {big : List Cond} (ws : List Cond) (ps : List Nat) (hp : ws = ps.filterMap (fun i => big[i]?)) (h : ws.all goodWord = true) : GoodIn big ws := by
  intro w hw
  have h1 := List.all_eq_true.mp h w hw
  rw [hp] at hw
  obtain ⟨i, -, hi⟩ := List.mem_filterMap.mp hw
  have hm : w ∈ big := by first | exact List.mem_of_getElem? hi | exact List.getElem?_mem hi
  exact ⟨hm, good_of_word h1⟩
theorem goodIn_app {big a b : List Cond} (ha : GoodIn big a) (hb : GoodIn big b) : GoodIn big (a ++ b) := fun w h => (List.mem_append.mp h).elim (ha w) (hb w)
theorem goodIn_ca {big a b : List Cond} {c : Cond} (ha : GoodIn big (c :: a)) (hb : GoodIn big b) : GoodIn big (c :: (a ++ b)) := fun w h => (List.mem_cons.mp h).elim (fun e => ha w (List.mem_cons.mpr (Or.inl e))) (fun h => (List.mem_append.mp h).elim (fun h => ha w (List.mem_cons.mpr (Or.inr h))) (hb w))
theorem goodIn_sub {big ws : List Cond} (hm : ∀ w ∈ ws, w ∈ big) (h : ws.all goodWord = true) : GoodIn big ws := fun w hw => ⟨hm w hw, good_of_word (List.all_eq_true.mp h w hw)⟩
/-! ===== END ===== -/

/-! ===== BEGIN exceptions that leave a method, and their catching by the caller (launches without stack traces) ===== -/
section VXA
/-! The laws vx_back, vx_callV, vx_callS, vx_callSW, vx_throw0, vx_throwS follow proofs of the library, with one case more: JvmDerived/Free/Laws.lean (Back.of_free), Shelf42/LK1.lean (callV, callS), Shelf/KitTraced.lean (throwNew0V, throwNewS). -/
/-- where a method has thrown q: the class by its name, the cell, what was written, the world -/
def vx_T (XC : String → State → State → Prop) (st : State) (q : Addr) (t : State) (mc ms : Nat) (free : Addr → Prop) : Prop :=
  ∃ (E : String) (ce : Cell) (L : List Loc), XC E st t ∧ t.heap[q]? = some ce ∧ ce.vm = .none ∧ st.vm.findClass E = some ce.cls ∧ st.WarmedH t.vm ∧ st.sameButNew ({ t with vm := st.vm } : State) L mc ms ∧ ∀ z ∈ L, free z.base
def vx_Q (Qc : Array Value → State → Outcome → State → Prop) (XC : String → State → State → Prop) (mc ms : Nat) (free : Addr → Prop) : Array Value → State → Outcome → State → Prop := fun a st o t =>
  (Qc a st o t ∧ ∃ L, FrameEnd st o t L mc ms ∧ ∀ q ∈ L, free q.base) ∨ ∃ q, o = .threw q ∧ vx_T XC st q t mc ms free
/-- a callee that returns or throws -/
def vx_Met (l : Launch) (y : MethodName) (ws : List Cond) (rm : Room) (Pc : Array Value → State → Prop) (Qc : Array Value → State → Outcome → State → Prop) (XC : String → State → State → Prop) (mc ms : Nat) (free : Addr → Prop) : Prop :=
  MetFree l y (headSpec ws rm) Pc (fun _ _ _ _ _ => True) (vx_Q Qc XC mc ms free)
def vx_Post (XC : String → State → State → Prop) (mc ms : Nat) (free : Addr → Prop) : Pt → Array Value → Addr → Pt → Prop := fun A a q B =>
  ∃ (g : JFrame) (mk : MethodId) (t : State) (L : List Loc) (E : String) (ce : Cell), B.U.heap = t.heap ∧ B.U.vm = t.vm ∧ XC E (A.U.calling g mk a) t ∧ t.heap[q]? = some ce ∧ ce.vm = .none ∧ A.U.vm.findClass E = some ce.cls ∧ B.locs = A.locs ++ L ∧ (∀ z ∈ L, free z.base) ∧ B.cells = A.cells + mc ∧ B.slots = A.slots + ms
def vx_Back (l : Launch) (R : Room) (p : Program) (e : Env) (below : List Frame) (s : State) (sargs : Array Value) (y : MethodName) (len W9 : Nat)
    (Pre : Pt → Array Value → Prop) (Post : Pt → Array Value → Option Value → Pt → Prop) (PostX : Pt → Array Value → Addr → Pt → Prop) : Prop :=
  ∀ (m : MethodId) (meth : Method) (c : Code) (A : Pt) (g : JFrame) (ig : Instr) (mk : MethodId) (a : Array Value),
    Stand p l e R s m sargs below meth c A.U A.locs A.cells A.slots → g.method = m → g.locals.size = c.maxLocals → decode c.code g.pc = .ok (ig, len) →
    2 * g.monitorRoom + (g.stack.map fun v => v.category).sum ≤ W9 → A.U.methodNamed? y = some mk → Pre A a →
    (∃ (v : Option Value) (B : Pt), Stand p l e R s m sargs below meth c B.U B.locs B.cells B.slots ∧ Post A a v B ∧
      Steps p.tables e below (doInvoke e (A.U.setTop g) [] mk a).1 (B.U.setTop { g with pc := g.pc + len, stack := v.toList ++ g.stack })) ∨
    (∃ (q : Addr) (B : Pt), Stand p l e R s m sargs below meth c B.U B.locs B.cells B.slots ∧ PostX A a q B ∧
      Steps p.tables e below (doInvoke e (A.U.setTop g) [] mk a).1 ((B.U.setTop g).pushFrame (.throwing q)))
section Payer
variable {l : Launch} {R : Room} {p : Program} {e : Env} {below : List Frame} {s : State} {sargs : Array Value} {y : MethodName} {len W9 : Nat}
theorem vx_back {ws : List Cond} {rm : Room} {Pc : Array Value → State → Prop} {Qc : Array Value → State → Outcome → State → Prop} {XC : String → State → State → Prop} {mc ms : Nat} {free : Addr → Prop} {bytes : ByteArray} {maxL : Nat} {ret : Option FieldType}
    (hM : vx_Met l y ws rm Pc Qc XC mc ms free) (hblind : FrameBlind Pc) (hrc : rm.cells = mc) (hrs : rm.slots = ms)
    (hframes : rm.frames + 1 ≤ R.frames) (hlocals : W9 + (maxL + 11) + rm.locals ≤ R.locals)
    (hws : ∀ w ∈ ws, ∀ a' U, s.WarmedH U.vm → w.before a' U = true) (hcode : Cond.code y bytes maxL ret ∈ ws) (hinit : ∀ a' U, s.WarmedH U.vm → (Cond.initialized y.cls).before a' U = true) :
    vx_Back l R p e below s sargs y len W9 (PreOf R mc ms Pc) (PostOf Qc mc ms free) (vx_Post XC mc ms free) := by
  intro m meth c A g ig mk a X hg hsize hdg hW hn hp
  have h1 : (headSpec ws rm).pre.before a A.U = true := atoms_intro fun w hw => hws w hw _ _ X.warmed
  have h2 : (Cond.code y bytes maxL ret).before a A.U = true := hws _ hcode _ _ X.warmed
  have h3 : (Cond.initialized y.cls).before a A.U = true := hinit _ _ X.warmed
  have h4 : A.cells + (headSpec ws rm).room.cells ≤ R.cells := by rw [show (headSpec ws rm).room.cells = mc from hrc]; exact hp.1
  have h5 : A.slots + (headSpec ws rm).room.slots ≤ R.slots := by rw [show (headSpec ws rm).room.slots = ms from hrs]; exact hp.2.1
  have hPc : Pc a (A.U.calling g mk a) := hblind _ _ _ _ hp.2.2
  obtain ⟨U, Ls, c0, s0⟩ := A
  dsimp only [Pt.U, Pt.locs, Pt.cells, Pt.slots] at h1 h2 h3 h4 h5 X hn hPc ⊢
  obtain ⟨methY, cY, hmY, hcY, -, hlY, -, -, -, -⟩ := Cond.code_spec hn h2
  obtain ⟨kY, hkY, -⟩ := className_of_methodNamed hn
  have hinitY : kY.init = .initialized := Cond.initialized_spec (findClass_of_methodNamed hn) hkY h3
  have h : At U g.method c below := by rw [hg]; exact X.here
  have hlocals9 : W9 + (maxL + 11) + (headSpec ws rm).room.locals ≤ R.locals := hlocals
  have happ : (headSpec ws rm).appliesLoose y e.platform (U.calling g mk a) = true :=
    Spec.appliesLoose_calling (g := g) h hdg hn hkY hinitY
      (X.room_calling (g := g) (R' := (headSpec ws rm).room) hsize hmY hcY hframes (by rw [hlY]; omega) h4 h5) h1
  obtain ⟨mid, hmid⟩ := h.above
  have hfr : (U.setTop g).frames = (.java g :: mid) ++ below := by rw [State.frames_setTop' g h.top, hmid]; rfl
  obtain ⟨o, s₂, hsteps, -, hend, hq⟩ := Steps.callFree hM p X.admits X.cas X.clock (acts := []) hfr happ hPc trivial
  have hq' : vx_Q Qc XC mc ms free a (U.calling g mk a) o s₂ := hq
  rw [State.frames_setTop' g h.top] at hend
  obtain ⟨g₀, hg0⟩ := Option.isSome_iff_exists.mp h.top
  obtain ⟨r, hr⟩ := State.topJava?_eq_some.mp hg0
  have hr' : (({ U with heap := s₂.heap, slotsUsed := s₂.slotsUsed } : State).setVm s₂.vm).frames = .java g₀ :: r := hr
  rcases hq' with ⟨hqc, L, hfe, hL⟩ | ⟨q, rfl, E, ce, L, hx, hce, hcv, hcl, hW₂, hsm, hL⟩
  · obtain ⟨⟨v, rfl⟩, hW₂, e2, q2, q3, q4, q5, q6⟩ := id hfe
    have e3 : s₂ = ({ (U.calling g mk a).setFrames s₂.frames with heap := s₂.heap, slotsUsed := s₂.slotsUsed } : State).setVm s₂.vm := by
      have : s₂ = ({ s₂ with vm := (U.calling g mk a).vm } : State).setVm s₂.vm := rfl
      rw [e2] at this
      exact this
    obtain ⟨c₂, i₂, len₂, hc₂, hd₂, hf₂⟩ := hend
    have hW' : U.WarmedH s₂.vm := hW₂
    have hcc : c₂ = c := by
      have h1 : s₂.code? g.method = U.code? g.method := by
        rw [State.code?_eq, State.code?_eq, hW'.alike.method?]
      exact Option.some.inj (hc₂.symm.trans (h1.trans h.code))
    subst hcc
    have hlen : len₂ = len := by rw [hdg] at hd₂; cases hd₂; rfl
    subst hlen
    have hs₂ : s₂ = (({ U with heap := s₂.heap, slotsUsed := s₂.slotsUsed } : State).setVm s₂.vm).setTop { g with pc := g.pc + len₂, stack := v.toList ++ g.stack } := by
      refine e3.trans ?_
      rw [hf₂, State.calling_eq h.top, State.setFrames_setFrames, State.setTop_of_frames _ hr', hr]
      rfl
    have hsame : U.sameButNew ({ U with heap := s₂.heap, slotsUsed := s₂.slotsUsed } : State) L mc ms := by
      refine ⟨?_, q2, q3, q4, q5, q6⟩
      obtain ⟨t, ht, -⟩ := State.frames_cons hr
      show ({ U with heap := s₂.heap, slotsUsed := s₂.slotsUsed } : State) = { U.setFrames U.frames with heap := s₂.heap, slotsUsed := s₂.slotsUsed }
      rw [State.setFrames_self ht]
    subst hg
    refine Or.inl ⟨v, ⟨(({ U with heap := s₂.heap, slotsUsed := s₂.slotsUsed } : State).setVm s₂.vm), Ls ++ L, c0 + mc, s0 + ms⟩,
      ⟨X.admits, X.cas, X.clock, X.frames, X.room, X.hears, X.method, X.code, (X.here.setHeapUsed s₂.heap s₂.slotsUsed).setVm hW'.alike, X.tail, State.WarmedH.trans X.warmed hW', X.limits, X.bytes, X.same.trans (hsame.setVm s.vm)⟩,
      ⟨g, mk, s₂, L, rfl, rfl, hqc, rfl, hL, rfl, rfl⟩, ?_⟩
    show Steps p.tables e below _ ((({ U with heap := s₂.heap, slotsUsed := s₂.slotsUsed } : State).setVm s₂.vm).setTop { g with pc := g.pc + len₂, stack := v.toList ++ g.stack })
    rw [← hs₂]
    exact hsteps
  · obtain ⟨e2, q2, q3, q4, q5, q6⟩ := id hsm
    have e3 : s₂ = ({ (U.calling g mk a).setFrames s₂.frames with heap := s₂.heap, slotsUsed := s₂.slotsUsed } : State).setVm s₂.vm := by
      have : s₂ = ({ s₂ with vm := (U.calling g mk a).vm } : State).setVm s₂.vm := rfl
      rw [e2] at this
      exact this
    have hf₂ : s₂.frames = .throwing q :: .java g :: U.frames.tail := hend
    have hW' : U.WarmedH s₂.vm := hW₂
    have hs₂ : s₂ = ((({ U with heap := s₂.heap, slotsUsed := s₂.slotsUsed } : State).setVm s₂.vm).setTop g).pushFrame (.throwing q) := by
      refine e3.trans ?_
      rw [hf₂, State.calling_eq h.top, State.setFrames_setFrames, State.pushFrame, State.frames_setTop _ hr', State.setTop_of_frames _ hr', State.setFrames_setFrames, hr]
      rfl
    have hsame : U.sameButNew ({ U with heap := s₂.heap, slotsUsed := s₂.slotsUsed } : State) L mc ms := by
      refine ⟨?_, q2, q3, q4, q5, q6⟩
      obtain ⟨t, ht, -⟩ := State.frames_cons hr
      show ({ U with heap := s₂.heap, slotsUsed := s₂.slotsUsed } : State) = { U.setFrames U.frames with heap := s₂.heap, slotsUsed := s₂.slotsUsed }
      rw [State.setFrames_self ht]
    subst hg
    refine Or.inr ⟨q, ⟨(({ U with heap := s₂.heap, slotsUsed := s₂.slotsUsed } : State).setVm s₂.vm), Ls ++ L, c0 + mc, s0 + ms⟩,
      ⟨X.admits, X.cas, X.clock, X.frames, X.room, X.hears, X.method, X.code, (X.here.setHeapUsed s₂.heap s₂.slotsUsed).setVm hW'.alike, X.tail, State.WarmedH.trans X.warmed hW', X.limits, X.bytes, X.same.trans (hsame.setVm s.vm)⟩,
      ⟨g, mk, s₂, L, E, ce, rfl, rfl, hx, hce, hcv, hcl, rfl, hL, rfl, rfl⟩, ?_⟩
    show Steps p.tables e below _ (((({ U with heap := s₂.heap, slotsUsed := s₂.slotsUsed } : State).setVm s₂.vm).setTop g).pushFrame (.throwing q))
    rw [← hs₂]
    exact hsteps
end Payer
section Calls
variable {p : Program} {l : Launch} {e : Env} {R : Room} {s : State} {m : MethodId} {args : Array Value} {below : List Frame} {meth : Method} {c : Code} {T : State} {locs : List Loc} {cells slots : Nat}
theorem vx_callV (X : Stand p l e R s m args below meth c T locs cells slots) (hexec : p.tables.exec = Jvm.exec) {own C : String} {index : Nat} {y : MethodName} {bytes : ByteArray} {maxL : Nat} {ret : Option FieldType}
    (hown : s.vm.findClass own = some m.cls) (hlink : (Cond.methodLink own index y).before args s = true) (hinst : (Cond.instanceMethod y).before args s = true) (hsel : (Cond.selects C y y).before args s = true)
    (hcode : (Cond.code y bytes maxL ret).before args s = true) (hy : y.cls ≠ "java/lang/invoke/MethodHandle" ∧ y.cls ≠ "java/lang/invoke/VarHandle")
    {W9 : Nat} {Pre : Pt → Array Value → Prop} {Post : Pt → Array Value → Option Value → Pt → Prop} {PostX : Pt → Array Value → Addr → Pt → Prop} (hK : vx_Back l R p e below s args y 3 W9 Pre Post PostX)
    {b : Addr} {cellB : Cell} (hcell : T.heap[b]? = some cellB) (hobj : cellB.vm.isStatics = false) (hcls : s.vm.findClass C = some cellB.cls)
    {g : JFrame} (hg : g.method = m) (hsize : g.locals.size = c.maxLocals) {argsL rest : List Value} (hlen : ∀ sig, parseMethodDescriptor y.desc = some sig → argsL.length = sig.parameters.length)
    (hstack : g.stack = argsL.reverse ++ .ref b :: rest) (hW : 2 * g.monitorRoom + (rest.map fun v => v.category).sum ≤ W9) (hdg : decode c.code g.pc = .ok (.invokevirtual index, 3))
    (hpre : ∀ vm₁, s.WarmedH vm₁ → Pre ⟨T.setVm vm₁, locs, cells, slots⟩ (Value.ref b :: argsL).toArray) :
    (∃ (v : Option Value) (vm₁ : Vm) (B : Pt), s.WarmedH vm₁ ∧ Stand p l e R s m args below meth c B.U B.locs B.cells B.slots ∧ Post ⟨T.setVm vm₁, locs, cells, slots⟩ (Value.ref b :: argsL).toArray v B ∧
      ∀ target, Steps p.tables e below (B.U.setTop { g with pc := g.pc + 3, stack := v.toList ++ rest }) target → Steps p.tables e below (T.setTop g) target) ∨
    (∃ (q : Addr) (vm₁ : Vm) (B : Pt), s.WarmedH vm₁ ∧ Stand p l e R s m args below meth c B.U B.locs B.cells B.slots ∧ PostX ⟨T.setVm vm₁, locs, cells, slots⟩ (Value.ref b :: argsL).toArray q B ∧
      Steps p.tables e below (T.setTop g) ((B.U.setTop { g with stack := rest }).pushFrame (.throwing q))) := by
  obtain ⟨mk, methM, hnamed, hmethM, hstM, habM⟩ := Cond.instanceMethod_spec hinst
  obtain ⟨methM', cM, hmethM', -, -, -, -, -, -, hsigM⟩ := Cond.code_spec hnamed hcode
  cases hmethM.symm.trans hmethM'
  obtain ⟨c2, r2, m2, q1, q2, q3, q4, kP, hkP, hkPi⟩ := Cond.selects_spec hsel
  cases hcls.symm.trans q1
  cases (State.methodFound?_of_named hnamed hy).symm.trans q2
  cases hnamed.symm.trans q3
  have hselP : selectMethod e.platform s.vm cellB.cls mk = .method mk := by rw [Launch.admits_selectMethod X.admits]; exact q4
  obtain ⟨vm₁, X₁, hstep₁⟩ := X.invokevirtual hexec hown hlink hnamed hmethM hstM hkP hkPi hy (a := b) (cell := cellB) hcell
    (fun z h => by rw [h] at hobj; cases hobj) hselP hmethM habM hkP hkPi (g := g) hg (argsL := argsL) (rest := rest) (hlen _ hsigM) hstack hdg
  rcases hK m meth c ⟨T.setVm vm₁, locs, cells, slots⟩ { g with stack := rest } (.invokevirtual index) mk (Value.ref b :: argsL).toArray X₁ hg hsize hdg hW (X₁.named hnamed) (hpre vm₁ X₁.warmed) with ⟨v, B, X', hpost, hsteps⟩ | ⟨q, B, X', hpost, hsteps⟩
  · exact Or.inl ⟨v, vm₁, B, X₁.warmed, X', hpost, fun target h => hstep₁ _ fun acts => by rw [doInvoke_state]; exact hsteps.trans h⟩
  · exact Or.inr ⟨q, vm₁, B, X₁.warmed, X', hpost, hstep₁ _ fun acts => by rw [doInvoke_state]; exact hsteps⟩
theorem vx_callS (X : Stand p l e R s m args below meth c T locs cells slots) (hexec : p.tables.exec = Jvm.exec) {own : String} {index : Nat} {y : MethodName} {bytes : ByteArray} {maxL : Nat} {ret : Option FieldType}
    (hown : s.vm.findClass own = some m.cls) (hlink : (Cond.methodLink own index y).before args s = true) (hstat : (Cond.static y).before args s = true) (hinit : (Cond.initialized y.cls).before args s = true)
    (hcode : (Cond.code y bytes maxL ret).before args s = true) (hy : y.cls ≠ "java/lang/invoke/MethodHandle" ∧ y.cls ≠ "java/lang/invoke/VarHandle")
    {W9 : Nat} {Pre : Pt → Array Value → Prop} {Post : Pt → Array Value → Option Value → Pt → Prop} {PostX : Pt → Array Value → Addr → Pt → Prop} (hK : vx_Back l R p e below s args y 3 W9 Pre Post PostX)
    {g : JFrame} (hg : g.method = m) (hsize : g.locals.size = c.maxLocals) {argsL rest : List Value} (hlen : ∀ sig, parseMethodDescriptor y.desc = some sig → argsL.length = sig.parameters.length)
    (hstack : g.stack = argsL.reverse ++ rest) (hW : 2 * g.monitorRoom + (rest.map fun v => v.category).sum ≤ W9) (hdg : decode c.code g.pc = .ok (.invokestatic index, 3))
    (hpre : ∀ vm₁, s.WarmedH vm₁ → Pre ⟨T.setVm vm₁, locs, cells, slots⟩ argsL.toArray) :
    (∃ (v : Option Value) (vm₁ : Vm) (B : Pt), s.WarmedH vm₁ ∧ Stand p l e R s m args below meth c B.U B.locs B.cells B.slots ∧ Post ⟨T.setVm vm₁, locs, cells, slots⟩ argsL.toArray v B ∧
      ∀ target, Steps p.tables e below (B.U.setTop { g with pc := g.pc + 3, stack := v.toList ++ rest }) target → Steps p.tables e below (T.setTop g) target) ∨
    (∃ (q : Addr) (vm₁ : Vm) (B : Pt), s.WarmedH vm₁ ∧ Stand p l e R s m args below meth c B.U B.locs B.cells B.slots ∧ PostX ⟨T.setVm vm₁, locs, cells, slots⟩ argsL.toArray q B ∧
      Steps p.tables e below (T.setTop g) ((B.U.setTop { g with stack := rest }).pushFrame (.throwing q))) := by
  obtain ⟨mk, hnamed⟩ := Cond.code_named hcode
  obtain ⟨methM, cM, hmethM, -, -, -, -, -, -, hsigM⟩ := Cond.code_spec hnamed hcode
  have hstatic : methM.isStatic = true := Cond.static_spec hnamed hmethM hstat
  obtain ⟨kP, hkP, -⟩ := className_of_methodNamed hnamed
  have hinitP : kP.init = .initialized := Cond.initialized_spec (findClass_of_methodNamed hnamed) hkP hinit
  obtain ⟨vm₁, X₁, hstep₁⟩ := X.invokestatic hexec hown hlink hnamed hmethM hstatic hkP hinitP hy (g := g) hg (argsL := argsL) (rest := rest) (hlen _ hsigM) hstack hdg
  rcases hK m meth c ⟨T.setVm vm₁, locs, cells, slots⟩ { g with stack := rest } (.invokestatic index) mk argsL.toArray X₁ hg hsize hdg hW (X₁.named hnamed) (hpre vm₁ X₁.warmed) with ⟨v, B, X', hpost, hsteps⟩ | ⟨q, B, X', hpost, hsteps⟩
  · exact Or.inl ⟨v, vm₁, B, X₁.warmed, X', hpost, fun target h => hstep₁ _ fun acts => by rw [doInvoke_state]; exact hsteps.trans h⟩
  · exact Or.inr ⟨q, vm₁, B, X₁.warmed, X', hpost, hstep₁ _ fun acts => by rw [doInvoke_state]; exact hsteps⟩
end Calls
theorem vx_cls {s : State} {T : State} {vm₁ : Vm} {E : String} {k : ClassId} (hW : s.WarmedH vm₁) (h : (T.setVm vm₁).vm.findClass E = some k) : s.vm.findClass E = some k := by
  have h1 : vm₁.findClass E = some k := h
  rw [hW.alike.findClass] at h1
  exact h1
/-- the method's frame g, with q thrown over it -/
def vx_W (p : Program) (l : Launch) (e : Env) (R : Room) (s : State) (m : MethodId) (args : Array Value) (below : List Frame) (meth : Method) (c : Code) (H : Heap) (locs : List Loc) (cells slots : Nat) (Q : State → Prop) (g : JFrame) (q : Addr) : Prop :=
  ∀ T : State, T.heap = H → Stand p l e R s m args below meth c T locs cells slots → ∃ t, Steps p.tables e below ((T.setTop g).pushFrame (.throwing q)) t ∧ Q t
def vx_Run (p : Program) (l : Launch) (e : Env) (R : Room) (s : State) (m : MethodId) (args : Array Value) (below : List Frame) (meth : Method) (c : Code) (H : Heap) (locs : List Loc) (cells slots mc ms : Nat) (g : JFrame) (rest : List Value) (Qa : State → Outcome → State → Prop) (XC : String → State → State → Prop) (free : Addr → Prop) : Prop :=
  ∀ T : State, T.heap = H → Stand p l e R s m args below meth c T locs cells slots →
    (∃ (v : Option Value) (st₀ t T' : State) (L : List Loc), st₀.heap = H ∧ Stand p l e R s m args below meth c T' (locs ++ L) (cells + mc) (slots + ms) ∧ (∀ q ∈ L, free q.base) ∧ T'.heap = t.heap ∧ T'.vm = t.vm ∧ Qa st₀ (.returned v) t ∧
      Goes p e below T g T' { g with pc := g.pc + 3, stack := v.toList ++ rest }) ∨
    (∃ (q : Addr) (st₀ t T' : State) (L : List Loc) (E : String) (ce : Cell), st₀.heap = H ∧ Stand p l e R s m args below meth c T' (locs ++ L) (cells + mc) (slots + ms) ∧ (∀ z ∈ L, free z.base) ∧ T'.heap = t.heap ∧ T'.vm = t.vm ∧ XC E st₀ t ∧ t.heap[q]? = some ce ∧ ce.vm = .none ∧ s.vm.findClass E = some ce.cls ∧
      Steps p.tables e below (T.setTop g) ((T'.setTop { g with stack := rest }).pushFrame (.throwing q)))
def vx_X {S : Type} (px : S → Prop) (B : String → S → State → Prop) (A : Nat → Prop) : String → State → State → Prop := fun E st t => ∃ u : S, px u ∧ B E u t ∧ va_F A st t
section Runs
variable {p : Program} {l : Launch} {e : Env} {R : Room} {s : State} {m : MethodId} {args : Array Value} {below : List Frame} {meth : Method} {c : Code} {H : Heap} {locs : List Loc} {cells slots : Nat}
variable {y : MethodName} {bytes cc : ByteArray} {maxL nL mc ms n index : Nat} {ret : Option FieldType} {ws : List Cond} {rm : Room} {Pc : Array Value → State → Prop} {Qc : Array Value → State → Outcome → State → Prop} {XC : String → State → State → Prop} {free : Addr → Prop} {Ts : List Cond} {own C : String} {b : Addr} {As rest : List Value} {g : JFrame}
theorem vx_callBack (cb : CallB R s args own index y bytes maxL ret ws rm mc ms n) (hM : vx_Met l y ws rm Pc Qc XC mc ms free) (hbl : FrameBlind Pc) : vx_Back l R p e below s args y 3 8 (PreOf R mc ms Pc) (PostOf Qc mc ms free) (vx_Post XC mc ms free) := by
  obtain ⟨hrc, hrs, hfr, hlo, hws, hcw, -, hini, -⟩ := cb
  exact vx_back (bytes := bytes) (maxL := maxL) (ret := ret) hM hbl hrc hrs hfr hlo hws hcw (fun a' U hW => word_at hW (Or.inl (by first | rfl | simp [Cond.onTables, Cond.keeps, Cond.steady])) hini)
theorem vx_runV (S : CallFix p m c cc nL s args Ts own) (hM : vx_Met l y ws rm Pc Qc XC mc ms free) (cw : CallW R s args own C index y bytes maxL ret ws rm mc ms n) (hp : PreV s H C b Pc As)
    (hg : g.method = m) (hn : As.length = n) (hsize : g.locals.size = nL) (hstack : g.stack = As.reverse ++ .ref b :: rest) (hW : 2 * g.monitorRoom + (rest.map fun v => v.category).sum ≤ 8) (hdg : decode cc g.pc = .ok (.invokevirtual index, 3)) (hf : cells + mc ≤ R.cells ∧ slots + ms ≤ R.slots) :
    vx_Run p l e R s m args below meth c H locs cells slots mc ms g rest (Qc (Value.ref b :: As).toArray) XC free := by
  have hK : vx_Back l R p e below s args y 3 8 (PreOf R mc ms Pc) (PostOf Qc mc ms free) (vx_Post XC mc ms free) := vx_callBack cw.1 hM hp.1
  obtain ⟨⟨-, -, -, -, -, -, hcode, -, hy, hlen, hl⟩, hin, hse⟩ := cw
  obtain ⟨hx, hb, hml, ho, -⟩ := S
  obtain ⟨-, ⟨cellB, hcB, hoB, hclB⟩, hPc⟩ := hp
  intro T hT X
  rcases vx_callV X hx (C := C) (bytes := bytes) (maxL := maxL) (ret := ret) ho hl hin hse hcode hy hK (by rw [hT]; exact hcB) hoB hclB hg (hsize.trans hml.symm) (argsL := As) (rest := rest) (fun sig h => hn.trans (hlen sig h)) hstack hW (by rw [hb]; exact hdg)
    (fun vm₁ hW₁ => ⟨hf.1, hf.2, hPc (T.setVm vm₁) hT hW₁⟩) with ⟨v, vm₁, ⟨U', l2, c2, s2⟩, hW₁, X', ⟨g', mk, t, L, e1, e2, hq, h1, hL, h2, h3⟩, st⟩ | ⟨q, vm₁, ⟨U', l2, c2, s2⟩, hW₁, X', ⟨g', mk, t, L, E, ce, e1, e2, hq, hce, hcv, hcl, h1, hL, h2, h3⟩, st⟩
  · dsimp only [Pt.U, Pt.locs, Pt.cells, Pt.slots] at X' e1 e2 h1 h2 h3 st
    subst h1; subst h2; subst h3
    exact Or.inl ⟨v, (T.setVm vm₁).calling g' mk (Value.ref b :: As).toArray, t, U', L, hT, X', hL, e1, e2, hq, st⟩
  · dsimp only [Pt.U, Pt.locs, Pt.cells, Pt.slots] at X' e1 e2 h1 h2 h3 st hcl
    subst h1; subst h2; subst h3
    exact Or.inr ⟨q, (T.setVm vm₁).calling g' mk (Value.ref b :: As).toArray, t, U', L, E, ce, hT, X', hL, e1, e2, hq, hce, hcv, vx_cls hW₁ hcl, st⟩
theorem vx_runS (S : CallFix p m c cc nL s args Ts own) (hM : vx_Met l y ws rm Pc Qc XC mc ms free) (cw : CallB R s args own index y bytes maxL ret ws rm mc ms n ∧ (Cond.static y).before args s = true) (hp : PreS s H Pc As)
    (hg : g.method = m) (hn : As.length = n) (hsize : g.locals.size = nL) (hstack : g.stack = As.reverse ++ rest) (hW : 2 * g.monitorRoom + (rest.map fun v => v.category).sum ≤ 8) (hdg : decode cc g.pc = .ok (.invokestatic index, 3)) (hf : cells + mc ≤ R.cells ∧ slots + ms ≤ R.slots) :
    vx_Run p l e R s m args below meth c H locs cells slots mc ms g rest (Qc As.toArray) XC free := by
  have hK : vx_Back l R p e below s args y 3 8 (PreOf R mc ms Pc) (PostOf Qc mc ms free) (vx_Post XC mc ms free) := vx_callBack cw.1 hM hp.1
  obtain ⟨⟨-, -, -, -, -, -, hcode, hini, hy, hlen, hl⟩, hstt⟩ := cw
  obtain ⟨hx, hb, hml, ho, -⟩ := S
  intro T hT X
  rcases vx_callS X hx (bytes := bytes) (maxL := maxL) (ret := ret) ho hl hstt hini hcode hy hK hg (hsize.trans hml.symm) (argsL := As) (rest := rest) (fun sig h => hn.trans (hlen sig h)) hstack hW (by rw [hb]; exact hdg)
    (fun vm₁ hW₁ => ⟨hf.1, hf.2, hp.2 (T.setVm vm₁) hT hW₁⟩) with ⟨v, vm₁, ⟨U', l2, c2, s2⟩, hW₁, X', ⟨g', mk, t, L, e1, e2, hq, h1, hL, h2, h3⟩, st⟩ | ⟨q, vm₁, ⟨U', l2, c2, s2⟩, hW₁, X', ⟨g', mk, t, L, E, ce, e1, e2, hq, hce, hcv, hcl, h1, hL, h2, h3⟩, st⟩
  · dsimp only [Pt.U, Pt.locs, Pt.cells, Pt.slots] at X' e1 e2 h1 h2 h3 st
    subst h1; subst h2; subst h3
    exact Or.inl ⟨v, (T.setVm vm₁).calling g' mk As.toArray, t, U', L, hT, X', hL, e1, e2, hq, st⟩
  · dsimp only [Pt.U, Pt.locs, Pt.cells, Pt.slots] at X' e1 e2 h1 h2 h3 st hcl
    subst h1; subst h2; subst h3
    exact Or.inr ⟨q, (T.setVm vm₁).calling g' mk As.toArray, t, U', L, E, ce, hT, X', hL, e1, e2, hq, hce, hcv, vx_cls hW₁ hcl, st⟩
end Runs
section Rows
variable {p : Program} {l : Launch} {e : Env} {R : Room} {s : State} {m : MethodId} {args : Array Value} {below : List Frame} {meth : Method} {c : Code} {H : Heap} {locs : List Loc} {cells slots : Nat} {Q : State → Prop}
variable {mc ms : Nat} {free : Addr → Prop} {A0 A1 : Nat → Prop} {H0 : Heap} {a : Array Value} {pc : Nat} {ls : Array Slot} {st0 rest : List Value}
theorem vx_keep {st₀ t T' : State} {L : List Loc} (h0 : st₀.heap = H) (e1 : T'.heap = t.heap) (hS : va_S A0 H0 H locs) (hA : ∀ q, q < H.size → A1 q → A0 q) (hf : ∀ q, free q → A0 q) (hL : ∀ q ∈ L, free q.base) (hF : va_F A1 st₀ t) :
    H.size ≤ T'.heap.size ∧ (∀ q : Nat, q < H.size → ¬ A1 q → T'.heap[q]? = H[q]?) ∧ va_S A0 H0 T'.heap (locs ++ L) := by
  obtain ⟨hz, hk⟩ := hF
  rw [h0] at hz hk
  exact ⟨by rw [e1]; exact hz, fun q h1 h2 => by rw [e1]; exact hk q h1 h2,
    ⟨Nat.le_trans hS.1 (by rw [e1]; exact hz), fun q h1 h2 => by rw [e1, hk q (Nat.lt_of_lt_of_le h1 hS.1) (fun z => h2 (hA q (Nat.lt_of_lt_of_le h1 hS.1) z))]; exact hS.2.1 q h1 h2, fun q hq => by
      rcases List.mem_append.mp hq with h | h
      · exact hS.2.2 q h
      · exact hf _ (hL q h)⟩⟩
theorem vx_calli {S SX : Type} {post : Int32 → S → Prop} {px : SX → Prop} {B : S → State → Prop} {BX : String → SX → State → Prop} {AX : Nat → Prop} (hr : vx_Run p l e R s m args below meth c H locs cells slots mc ms (F0 m pc ls st0) rest (va_Qi post B A1 a) (vx_X px BX AX) free) (hS : va_S A0 H0 H locs) (hA : ∀ q, q < H.size → A1 q → A0 q) (hf : ∀ q, free q → A0 q) (hAX : ∀ q, q < H.size → AX q → A0 q)
    (kx : ∀ (E : String) (ce : Cell) (q9 : Addr) (u : SX) (t : State) (H1 : Heap) (locs1 : List Loc), t.heap = H1 → s.vm.Alike t.vm → px u → BX E u t → H.size ≤ H1.size → (∀ q : Nat, q < H.size → ¬ AX q → H1[q]? = H[q]?) → va_S A0 H0 H1 locs1 → H1[q9]? = some ce → ce.vm = .none → s.vm.findClass E = some ce.cls → vx_W p l e R s m args below meth c H1 locs1 (cells + mc) (slots + ms) Q (F0 m pc ls rest) q9)
    (kk : ∀ (r : Int32) (u : S) (t : State) (H1 : Heap) (locs1 : List Loc), t.heap = H1 → s.vm.Alike t.vm → post r u → B u t → H.size ≤ H1.size → (∀ q : Nat, q < H.size → ¬ A1 q → H1[q]? = H[q]?) → va_S A0 H0 H1 locs1 → W p l e R s m args below meth c H1 locs1 (cells + mc) (slots + ms) Q (F0 m (pc + 3) ls (.int r :: rest))) : W p l e R s m args below meth c H locs cells slots Q (F0 m pc ls st0) := by
  intro T hT X
  rcases hr T hT X with ⟨v, st₀, t, T', L, h0, X', hL, e1, e2, ⟨⟨r, u, hv, hp, hb⟩, hF⟩, st⟩ | ⟨q, st₀, t, T', L, E, ce, h0, X', hL, e1, e2, ⟨u, hp, hb, hF⟩, hce, hcv, hcl, st⟩
  · cases hv
    obtain ⟨k1, k2, k3⟩ := vx_keep h0 e1 hS hA hf hL hF
    obtain ⟨t2, a1, b1⟩ := kk r u t T'.heap (locs ++ L) e1.symm (by rw [← e2]; exact X'.warmed.alike) hp hb k1 k2 k3 T' rfl X'
    exact ⟨t2, st t2 a1, b1⟩
  · obtain ⟨k1, k2, k3⟩ := vx_keep h0 e1 hS hAX hf hL hF
    obtain ⟨t2, a1, b1⟩ := kx E ce q u t T'.heap (locs ++ L) e1.symm (by rw [← e2]; exact X'.warmed.alike) hp hb k1 k2 k3 (by rw [e1]; exact hce) hcv hcl T' rfl X'
    exact ⟨t2, st.trans a1, b1⟩
theorem vx_calll {S SX : Type} {post : Int64 → S → Prop} {px : SX → Prop} {B : S → State → Prop} {BX : String → SX → State → Prop} {AX : Nat → Prop} (hr : vx_Run p l e R s m args below meth c H locs cells slots mc ms (F0 m pc ls st0) rest (va_Ql post B A1 a) (vx_X px BX AX) free) (hS : va_S A0 H0 H locs) (hA : ∀ q, q < H.size → A1 q → A0 q) (hf : ∀ q, free q → A0 q) (hAX : ∀ q, q < H.size → AX q → A0 q)
    (kx : ∀ (E : String) (ce : Cell) (q9 : Addr) (u : SX) (t : State) (H1 : Heap) (locs1 : List Loc), t.heap = H1 → s.vm.Alike t.vm → px u → BX E u t → H.size ≤ H1.size → (∀ q : Nat, q < H.size → ¬ AX q → H1[q]? = H[q]?) → va_S A0 H0 H1 locs1 → H1[q9]? = some ce → ce.vm = .none → s.vm.findClass E = some ce.cls → vx_W p l e R s m args below meth c H1 locs1 (cells + mc) (slots + ms) Q (F0 m pc ls rest) q9)
    (kk : ∀ (r : Int64) (u : S) (t : State) (H1 : Heap) (locs1 : List Loc), t.heap = H1 → s.vm.Alike t.vm → post r u → B u t → H.size ≤ H1.size → (∀ q : Nat, q < H.size → ¬ A1 q → H1[q]? = H[q]?) → va_S A0 H0 H1 locs1 → W p l e R s m args below meth c H1 locs1 (cells + mc) (slots + ms) Q (F0 m (pc + 3) ls (.long r :: rest))) : W p l e R s m args below meth c H locs cells slots Q (F0 m pc ls st0) := by
  intro T hT X
  rcases hr T hT X with ⟨v, st₀, t, T', L, h0, X', hL, e1, e2, ⟨⟨r, u, hv, hp, hb⟩, hF⟩, st⟩ | ⟨q, st₀, t, T', L, E, ce, h0, X', hL, e1, e2, ⟨u, hp, hb, hF⟩, hce, hcv, hcl, st⟩
  · cases hv
    obtain ⟨k1, k2, k3⟩ := vx_keep h0 e1 hS hA hf hL hF
    obtain ⟨t2, a1, b1⟩ := kk r u t T'.heap (locs ++ L) e1.symm (by rw [← e2]; exact X'.warmed.alike) hp hb k1 k2 k3 T' rfl X'
    exact ⟨t2, st t2 a1, b1⟩
  · obtain ⟨k1, k2, k3⟩ := vx_keep h0 e1 hS hAX hf hL hF
    obtain ⟨t2, a1, b1⟩ := kx E ce q u t T'.heap (locs ++ L) e1.symm (by rw [← e2]; exact X'.warmed.alike) hp hb k1 k2 k3 (by rw [e1]; exact hce) hcv hcl T' rfl X'
    exact ⟨t2, st.trans a1, b1⟩
theorem vx_callf {S SX : Type} {post : UInt32 → S → Prop} {px : SX → Prop} {B : S → State → Prop} {BX : String → SX → State → Prop} {AX : Nat → Prop} (hr : vx_Run p l e R s m args below meth c H locs cells slots mc ms (F0 m pc ls st0) rest (va_Qf post B A1 a) (vx_X px BX AX) free) (hS : va_S A0 H0 H locs) (hA : ∀ q, q < H.size → A1 q → A0 q) (hf : ∀ q, free q → A0 q) (hAX : ∀ q, q < H.size → AX q → A0 q)
    (kx : ∀ (E : String) (ce : Cell) (q9 : Addr) (u : SX) (t : State) (H1 : Heap) (locs1 : List Loc), t.heap = H1 → s.vm.Alike t.vm → px u → BX E u t → H.size ≤ H1.size → (∀ q : Nat, q < H.size → ¬ AX q → H1[q]? = H[q]?) → va_S A0 H0 H1 locs1 → H1[q9]? = some ce → ce.vm = .none → s.vm.findClass E = some ce.cls → vx_W p l e R s m args below meth c H1 locs1 (cells + mc) (slots + ms) Q (F0 m pc ls rest) q9)
    (kk : ∀ (r : UInt32) (u : S) (t : State) (H1 : Heap) (locs1 : List Loc), t.heap = H1 → s.vm.Alike t.vm → post r u → B u t → H.size ≤ H1.size → (∀ q : Nat, q < H.size → ¬ A1 q → H1[q]? = H[q]?) → va_S A0 H0 H1 locs1 → W p l e R s m args below meth c H1 locs1 (cells + mc) (slots + ms) Q (F0 m (pc + 3) ls (.float r :: rest))) : W p l e R s m args below meth c H locs cells slots Q (F0 m pc ls st0) := by
  intro T hT X
  rcases hr T hT X with ⟨v, st₀, t, T', L, h0, X', hL, e1, e2, ⟨⟨r, u, hv, hp, hb⟩, hF⟩, st⟩ | ⟨q, st₀, t, T', L, E, ce, h0, X', hL, e1, e2, ⟨u, hp, hb, hF⟩, hce, hcv, hcl, st⟩
  · cases hv
    obtain ⟨k1, k2, k3⟩ := vx_keep h0 e1 hS hA hf hL hF
    obtain ⟨t2, a1, b1⟩ := kk r u t T'.heap (locs ++ L) e1.symm (by rw [← e2]; exact X'.warmed.alike) hp hb k1 k2 k3 T' rfl X'
    exact ⟨t2, st t2 a1, b1⟩
  · obtain ⟨k1, k2, k3⟩ := vx_keep h0 e1 hS hAX hf hL hF
    obtain ⟨t2, a1, b1⟩ := kx E ce q u t T'.heap (locs ++ L) e1.symm (by rw [← e2]; exact X'.warmed.alike) hp hb k1 k2 k3 (by rw [e1]; exact hce) hcv hcl T' rfl X'
    exact ⟨t2, st.trans a1, b1⟩
theorem vx_calld {S SX : Type} {post : UInt64 → S → Prop} {px : SX → Prop} {B : S → State → Prop} {BX : String → SX → State → Prop} {AX : Nat → Prop} (hr : vx_Run p l e R s m args below meth c H locs cells slots mc ms (F0 m pc ls st0) rest (va_Qd post B A1 a) (vx_X px BX AX) free) (hS : va_S A0 H0 H locs) (hA : ∀ q, q < H.size → A1 q → A0 q) (hf : ∀ q, free q → A0 q) (hAX : ∀ q, q < H.size → AX q → A0 q)
    (kx : ∀ (E : String) (ce : Cell) (q9 : Addr) (u : SX) (t : State) (H1 : Heap) (locs1 : List Loc), t.heap = H1 → s.vm.Alike t.vm → px u → BX E u t → H.size ≤ H1.size → (∀ q : Nat, q < H.size → ¬ AX q → H1[q]? = H[q]?) → va_S A0 H0 H1 locs1 → H1[q9]? = some ce → ce.vm = .none → s.vm.findClass E = some ce.cls → vx_W p l e R s m args below meth c H1 locs1 (cells + mc) (slots + ms) Q (F0 m pc ls rest) q9)
    (kk : ∀ (r : UInt64) (u : S) (t : State) (H1 : Heap) (locs1 : List Loc), t.heap = H1 → s.vm.Alike t.vm → post r u → B u t → H.size ≤ H1.size → (∀ q : Nat, q < H.size → ¬ A1 q → H1[q]? = H[q]?) → va_S A0 H0 H1 locs1 → W p l e R s m args below meth c H1 locs1 (cells + mc) (slots + ms) Q (F0 m (pc + 3) ls (.double r :: rest))) : W p l e R s m args below meth c H locs cells slots Q (F0 m pc ls st0) := by
  intro T hT X
  rcases hr T hT X with ⟨v, st₀, t, T', L, h0, X', hL, e1, e2, ⟨⟨r, u, hv, hp, hb⟩, hF⟩, st⟩ | ⟨q, st₀, t, T', L, E, ce, h0, X', hL, e1, e2, ⟨u, hp, hb, hF⟩, hce, hcv, hcl, st⟩
  · cases hv
    obtain ⟨k1, k2, k3⟩ := vx_keep h0 e1 hS hA hf hL hF
    obtain ⟨t2, a1, b1⟩ := kk r u t T'.heap (locs ++ L) e1.symm (by rw [← e2]; exact X'.warmed.alike) hp hb k1 k2 k3 T' rfl X'
    exact ⟨t2, st t2 a1, b1⟩
  · obtain ⟨k1, k2, k3⟩ := vx_keep h0 e1 hS hAX hf hL hF
    obtain ⟨t2, a1, b1⟩ := kx E ce q u t T'.heap (locs ++ L) e1.symm (by rw [← e2]; exact X'.warmed.alike) hp hb k1 k2 k3 (by rw [e1]; exact hce) hcv hcl T' rfl X'
    exact ⟨t2, st.trans a1, b1⟩
theorem vx_callv {S SX : Type} {post : S → Prop} {px : SX → Prop} {B : S → State → Prop} {BX : String → SX → State → Prop} {AX : Nat → Prop} (hr : vx_Run p l e R s m args below meth c H locs cells slots mc ms (F0 m pc ls st0) rest (va_Qv post B A1 a) (vx_X px BX AX) free) (hS : va_S A0 H0 H locs) (hA : ∀ q, q < H.size → A1 q → A0 q) (hf : ∀ q, free q → A0 q) (hAX : ∀ q, q < H.size → AX q → A0 q)
    (kx : ∀ (E : String) (ce : Cell) (q9 : Addr) (u : SX) (t : State) (H1 : Heap) (locs1 : List Loc), t.heap = H1 → s.vm.Alike t.vm → px u → BX E u t → H.size ≤ H1.size → (∀ q : Nat, q < H.size → ¬ AX q → H1[q]? = H[q]?) → va_S A0 H0 H1 locs1 → H1[q9]? = some ce → ce.vm = .none → s.vm.findClass E = some ce.cls → vx_W p l e R s m args below meth c H1 locs1 (cells + mc) (slots + ms) Q (F0 m pc ls rest) q9)
    (kk : ∀ (u : S) (t : State) (H1 : Heap) (locs1 : List Loc), t.heap = H1 → s.vm.Alike t.vm → post u → B u t → H.size ≤ H1.size → (∀ q : Nat, q < H.size → ¬ A1 q → H1[q]? = H[q]?) → va_S A0 H0 H1 locs1 → W p l e R s m args below meth c H1 locs1 (cells + mc) (slots + ms) Q (F0 m (pc + 3) ls (rest))) : W p l e R s m args below meth c H locs cells slots Q (F0 m pc ls st0) := by
  intro T hT X
  rcases hr T hT X with ⟨v, st₀, t, T', L, h0, X', hL, e1, e2, ⟨⟨u, hv, hp, hb⟩, hF⟩, st⟩ | ⟨q, st₀, t, T', L, E, ce, h0, X', hL, e1, e2, ⟨u, hp, hb, hF⟩, hce, hcv, hcl, st⟩
  · cases hv
    obtain ⟨k1, k2, k3⟩ := vx_keep h0 e1 hS hA hf hL hF
    obtain ⟨t2, a1, b1⟩ := kk u t T'.heap (locs ++ L) e1.symm (by rw [← e2]; exact X'.warmed.alike) hp hb k1 k2 k3 T' rfl X'
    exact ⟨t2, st t2 a1, b1⟩
  · obtain ⟨k1, k2, k3⟩ := vx_keep h0 e1 hS hAX hf hL hF
    obtain ⟨t2, a1, b1⟩ := kx E ce q u t T'.heap (locs ++ L) e1.symm (by rw [← e2]; exact X'.warmed.alike) hp hb k1 k2 k3 (by rw [e1]; exact hce) hcv hcl T' rfl X'
    exact ⟨t2, st.trans a1, b1⟩
/-- caught by the row x of this method's table; the rows ahead don't take it -/
theorem vx_catch {own name : String} {E : String} {ce : Cell} {q : Addr} (hown : s.vm.findClass own = some m.cls) (pre : List ExceptionTableEntry) (x : ExceptionTableEntry) (suf : List ExceptionTableEntry) (hsplit : c.exceptionTable.toList = pre ++ x :: suf)
    (hpass : ∀ z ∈ pre, covers z pc = false ∨ (z.catchType ≠ 0 ∧ ∃ nm : String, (Cond.classLink own z.catchType nm).before args s = true ∧ va_Nc E nm s)) (hx : covers x pc = true) (h0 : x.catchType ≠ 0)
    (hlink : (Cond.classLink own x.catchType name).before args s = true) (hcast : (Cond.castable E name).before args s = true) (hcell : H[q]? = some ce) (hv : ce.vm = .none) (hcl : s.vm.findClass E = some ce.cls)
    (kk : W p l e R s m args below meth c H locs cells slots Q (F0 m x.handlerPc ls [.ref q])) : vx_W p l e R s m args below meth c H locs cells slots Q (F0 m pc ls rest) q := by
  intro T hT X
  have hpl : e.platform.magicAccessors = ({} : Platform).magicAccessors := by rw [X.admits.platform]
  obtain ⟨c3, c4, hc3, hc4, hasg⟩ := Cond.castable_spec hcast
  cases Option.some.inj (hc3.symm.trans hcl)
  obtain ⟨c5, hc5, hcl5⟩ := Cond.classLink_spec hown hlink e.platform hpl
  cases Option.some.inj (hc4.symm.trans hc5)
  obtain ⟨vm', X', st⟩ := X.thenCaughtThrough q (g := F0 m pc ls rest) rfl (Steps.refl _) (by rw [hT]; exact hcell) (by rw [hv]; rfl) (by obtain ⟨k9, h9, -⟩ := Vm.findClass_spec hcl; exact ⟨k9, h9⟩) pre x suf hsplit
    (fun z hz => by
      rcases hpass z hz with h | ⟨hz0, nm, hl1, hn1⟩
      · exact Or.inl h
      · obtain ⟨c6, hc6, hcl6⟩ := Cond.classLink_spec hown hl1 e.platform hpl
        obtain ⟨a8, b8, h1, h2, h3⟩ := hn1
        cases Option.some.inj (h1.symm.trans hcl)
        cases Option.some.inj (h2.symm.trans hc6)
        exact Or.inr ⟨hz0, _, hcl6, h3⟩) hx (Or.inr ⟨h0, c4, hcl5, hasg⟩)
  obtain ⟨t, a1, b1⟩ := kk (T.setVm vm') hT X'
  exact ⟨t, st.trans a1, b1⟩
end Rows
section Ends
variable {p : Program} {l : Launch} {e : Env} {R : Room} {s : State} {m : MethodId} {args : Array Value} {below : List Frame} {meth : Method} {c : Code} {H : Heap} {locs : List Loc} {cells slots : Nat} {Q : State → Prop}
variable {mc ms : Nat} {free : Addr → Prop} {A0 A1 : Nat → Prop} {H0 : Heap} {a : Array Value} {ls : Array Slot} {st0 rest : List Value}
variable {Qc : Array Value → State → Outcome → State → Prop} {XC : String → State → State → Prop}
/-- what a body that may throw owes at its end -/
def vx_MQ (below : List Frame) (Qc : Array Value → State → Outcome → State → Prop) (XC : String → State → State → Prop) (a : Array Value) (s : State) (mc ms : Nat) (free : Addr → Prop) : State → Prop := fun t =>
  ∃ o, t.status = .running ∧ Ended t below o ∧ vx_Q Qc XC mc ms free a s o t
theorem vx_ret {g : JFrame} {mc ms : Nat} (k : W p l e R s m args below meth c H locs cells slots (MQ below Qc args s mc ms free) g) : W p l e R s m args below meth c H locs cells slots (vx_MQ below Qc XC args s mc ms free) g := by
  intro T hT X
  obtain ⟨t, a1, o, b1, b2, b3, b4⟩ := k T hT X
  exact ⟨t, a1, o, b1, b2, Or.inl ⟨b3, b4⟩⟩
/-- not caught here: it goes on to the caller -/
theorem vx_widen {g : JFrame} {q : Addr} {k n : Nat} (h1 : cells ≤ k) (h2 : slots ≤ n) (kk : vx_W p l e R s m args below meth c H locs k n Q g q) : vx_W p l e R s m args below meth c H locs cells slots Q g q := fun T hT X => kk T hT (stand_widen X h1 h2)
theorem vx_out {pc : Nat} {E : String} {ce : Cell} {q : Addr} {mc ms : Nat} (hout : ∀ x ∈ c.exceptionTable.toList, covers x pc = false) (hlocks : meth.locks = false) (hcell : H[q]? = some ce) (hv : ce.vm = .none) (hcl : s.vm.findClass E = some ce.cls)
    (hx : ∀ t : State, t.heap = H → s.vm.Alike t.vm → XC E s t) (hf : ∀ z ∈ locs, free z.base) (hc : cells ≤ mc) (hs : slots ≤ ms) :
    vx_W p l e R s m args below meth c H locs cells slots (vx_MQ below Qc XC args s mc ms free) (F0 m pc ls rest) q := by
  intro T hT X
  obtain ⟨st1, hrun, hend, hW, hsm⟩ := X.leaveThrown q (g := F0 m pc ls rest) rfl rfl rfl hout hlocks
  have hcell9 : (T.setFrames (.throwing q :: below)).heap[q]? = some ce := by
    show T.heap[q]? = some ce
    rw [hT]; exact hcell
  exact ⟨_, st1, .threw q, hrun, hend, Or.inr ⟨q, rfl, E, ce, locs, hx _ hT hW.alike, hcell9, hv, hcl, hW, hsm.mono hc hs, hf⟩⟩
theorem vx_frame {U : State} {k n : Nat} (h : s.sameButNew ({ U with vm := s.vm } : State) locs k n) : s.heap.size ≤ U.heap.size ∧ ∀ q : Nat, q < s.heap.size → (∀ z ∈ locs, z.base ≠ q) → U.heap[q]? = s.heap[q]? := by
  obtain ⟨-, h2, -, -, -, h6⟩ := h
  refine ⟨h2, fun q hq hz => ?_⟩
  obtain ⟨c9, e1, e2, e3, e4⟩ := h6 q _ (Array.getElem?_eq_getElem hq)
  have hs : c9.slots = (s.heap[q]).slots := Array.ext_getElem? fun i => e4 i fun hm => hz _ hm rfl
  have h9 : c9 = s.heap[q] := by
    rw [hs] at e2
    exact e2
  have e5 : U.heap[q]? = some c9 := e1
  rw [e5, h9, Array.getElem?_eq_getElem hq]
/-- the words of a throw but the four that speak of the heap -/
def vx_no (w : Cond) : Bool := decide (w ≠ .isRef (.static Bundle.tN "UNASSIGNED_STACK" Bundle.steD)) && decide (w ≠ .isRef (.static Bundle.tN "SUPPRESSED_SENTINEL" Bundle.listD)) && decide (w ≠ .laysStatic Bundle.tN "UNASSIGNED_STACK" Bundle.steD) && decide (w ≠ .laysStatic Bundle.tN "SUPPRESSED_SENTINEL" Bundle.listD)
def vx_at0 (own : String) (ic : Nat) (X : String) (names : List String) : List Cond := (Bundle.ownAtoms0 own ic X names).filter vx_no
def vx_atS (own : String) (ic : Nat) (X : String) (names : List String) : List Cond := (Bundle.ownAtoms own ic X names).filter vx_no
/-- a word that the tables alone decide, or a good one -/
def vx_ot (w : Cond) : Bool := w.onTables || goodWord w
theorem vx_ot_at {args a' : Array Value} {s U : State} {w : Cond} (hW : s.WarmedH U.vm) (hvm : s.vm = U.vm) (hg : vx_ot w = true) (h : w.before args s = true) : w.before a' U = true := by
  simp only [vx_ot, Bool.or_eq_true] at hg
  rcases hg with hg | hg
  · exact va_tabs hg hvm h
  · exact word_at hW (good_of_word hg) h
/-- a list's words: the good ones out of the method's own list, the others by premises of their own -/
theorem vx_hat {args : Array Value} {s : State} {L B : List Cond} (h1 : ∀ w ∈ L.filter goodWord, w.before args s = true) (h2 : ∀ w ∈ L.filter (fun w => !goodWord w), w ∈ B) (h3 : ∀ w ∈ B, w.before args s = true) : ∀ w ∈ L, w.before args s = true := by
  intro w hw
  by_cases g : goodWord w = true
  · exact h1 w (List.mem_filter.mpr ⟨hw, g⟩)
  · refine h3 w (h2 w (List.mem_filter.mpr ⟨hw, ?_⟩))
    show (!goodWord w) = true
    cases hgw : goodWord w
    · rfl
    · exact absurd hgw g
theorem vx_c {args : Array Value} {s : State} {w : Cond} {B : List Cond} (h : w.before args s = true) (t : ∀ w ∈ B, w.before args s = true) : ∀ w' ∈ w :: B, w'.before args s = true := fun w' h' => (List.mem_cons.mp h').elim (fun e => by rw [e]; exact h) (t w')
theorem vx_n {args : Array Value} {s : State} : ∀ w ∈ ([] : List Cond), w.before args s = true := fun _ h => nomatch h
theorem vx_own {args : Array Value} {s : State} {L : List Cond} (h1 : ∀ w ∈ L.filter vx_no, w.before args s = true)
    (hU : (Cond.isRef (.static Bundle.tN "UNASSIGNED_STACK" Bundle.steD)).before args s = true) (hN : (Cond.isRef (.static Bundle.tN "SUPPRESSED_SENTINEL" Bundle.listD)).before args s = true)
    (lU : (Cond.laysStatic Bundle.tN "UNASSIGNED_STACK" Bundle.steD).before args s = true) (lN : (Cond.laysStatic Bundle.tN "SUPPRESSED_SENTINEL" Bundle.listD).before args s = true) : ∀ w ∈ L, w.before args s = true := by
  intro w hw
  by_cases e1 : w = .isRef (.static Bundle.tN "UNASSIGNED_STACK" Bundle.steD)
  · rw [e1]; exact hU
  · by_cases e2 : w = .isRef (.static Bundle.tN "SUPPRESSED_SENTINEL" Bundle.listD)
    · rw [e2]; exact hN
    · by_cases e3 : w = .laysStatic Bundle.tN "UNASSIGNED_STACK" Bundle.steD
      · rw [e3]; exact lU
      · by_cases e4 : w = .laysStatic Bundle.tN "SUPPRESSED_SENTINEL" Bundle.listD
        · rw [e4]; exact lN
        · exact h1 w (List.mem_filter.mpr ⟨hw, by unfold vx_no; rw [decide_eq_true e1, decide_eq_true e2, decide_eq_true e3, decide_eq_true e4]; rfl⟩)
/-- where a static field lies, its class's statics cell in H -/
def vx_L (C n d : String) (A : Nat → Prop) (U : State) (H : Heap) : Prop := ∃ (c : ClassId) (k : Class) (i : Nat) (f : Field) (a : Nat) (cell : Cell), U.vm.findClass C = some c ∧ U.fieldFound? C n d = some (c, k, i, f) ∧ f.isStatic = true ∧ k.statics = some a ∧ H[a]? = some cell ∧ cell.vm.isStatics = true ∧ cell.cls = c ∧ f.slot < cell.slots.size ∧ k.staticTypes[f.slot]? = some f.type ∧ ¬ A a
theorem vx_L.moved {C n d : String} {A : Nat → Prop} {u U : State} {H : Heap} (hvm : u.vm.Alike U.vm) (h : vx_L C n d A u H) : vx_L C n d A U H := by
  obtain ⟨c, k, i, f, a, cell, h1, h2, h3, h4, h5, h6, h7, h8, h9, h10⟩ := h
  obtain ⟨k', hi', he⟩ := State.fieldFound?_setVm hvm h2
  exact ⟨c, k', i, f, a, cell, by rw [hvm.findClass]; exact h1, hi', h3, by rw [he]; exact h4, h5, h6, h7, h8, by rw [he]; exact h9, h10⟩
theorem vx_L.kept {C n d : String} {A : Nat → Prop} {U : State} {H H1 : Heap} (h : vx_L C n d A U H) (hq : ∀ a : Nat, a < H.size → ¬ A a → H1[a]? = H[a]?) : vx_L C n d A U H1 := by
  obtain ⟨c, k, i, f, a, cell, h1, h2, h3, h4, h5, h6, h7, h8, h9, h10⟩ := h
  exact ⟨c, k, i, f, a, cell, h1, h2, h3, h4, by rw [hq a (Array.getElem?_eq_some_iff.mp h5).1 h10]; exact h5, h6, h7, h8, h9, h10⟩
theorem vx_L.narrow {C n d : String} {A B : Nat → Prop} {U : State} {H : Heap} (h : vx_L C n d A U H) (hAB : ∀ q, B q → A q) : vx_L C n d B U H := by
  obtain ⟨c, k, i, f, a, cell, h1, h2, h3, h4, h5, h6, h7, h8, h9, h10⟩ := h
  exact ⟨c, k, i, f, a, cell, h1, h2, h3, h4, h5, h6, h7, h8, h9, fun z => h10 (hAB _ z)⟩
theorem vx_L.word {C n d : String} {A : Nat → Prop} {s : State} {args : Array Value} (h : vx_L C n d A s s.heap) : (Cond.laysStatic C n d).before args s = true := by
  obtain ⟨c, k, i, f, a, cell, h1, h2, h3, h4, h5, h6, h7, h8, h9, -⟩ := h
  show (Cond.laysStatic C n d).holds args s none s [] = true
  exact Cond.laysStatic_of h1 h2 h3 h4 h5 h6 h7 h8 h9
/-- .. and what it holds: null or some reference -/
def vx_Zq (C n d : String) (A : Nat → Prop) (U : State) (H : Heap) : Prop := va_Zq C n d A U H ∧ vx_L C n d A U H
theorem vx_Zq.moved {C n d : String} {A : Nat → Prop} {u U : State} {H : Heap} (hvm : u.vm.Alike U.vm) (h : vx_Zq C n d A u H) : vx_Zq C n d A U H := ⟨va_Zq.moved hvm h.1, vx_L.moved hvm h.2⟩
theorem vx_Zq.kept {C n d : String} {A : Nat → Prop} {U : State} {H H1 : Heap} (h : vx_Zq C n d A U H) (hq : ∀ a : Nat, a < H.size → ¬ A a → H1[a]? = H[a]?) : vx_Zq C n d A U H1 := ⟨va_Zq.kept h.1 hq, vx_L.kept h.2 hq⟩
theorem vx_Zq.narrow {C n d : String} {A B : Nat → Prop} {U : State} {H : Heap} (h : vx_Zq C n d A U H) (hAB : ∀ q, B q → A q) : vx_Zq C n d B U H := ⟨va_Zq.narrow h.1 hAB, vx_L.narrow h.2 hAB⟩
theorem vx_Zqof {args : Array Value} {s : State} {C n d : String} {A : Nat → Prop} (hl : (Cond.laysStatic C n d).before args s = true) (hini : (Cond.initialized C).before args s = true) (h : (Cond.isRef (.static C n d)).before args s = true) (hA : ∀ a : Nat, a < s.heap.size → ¬ A a) : vx_Zq C n d A s s.heap := by
  refine ⟨va_Zqof hl hini h hA, ?_⟩
  obtain ⟨c, k, i, f, a, cell, h1, h2, h3, h4, h5, h6, h7, h8, h9⟩ := Cond.laysStatic_spec hl
  exact ⟨c, k, i, f, a, cell, h1, h2, h3, h4, h5, h6, h7, h8, h9, hA a (Array.getElem?_eq_some_iff.mp h5).1⟩
theorem vx_isRef {C n d : String} {v : Value} {A : Nat → Prop} {s : State} {args : Array Value} (h : va_Z C n d v A s s.heap) (hv : v.isRef = true) : (Cond.isRef (.static C n d)).before args s = true := by
  obtain ⟨cf, kf, fi, f, a, cell, h1, h2, h3, h4, h5, h6, h7, -⟩ := h
  have he : (Term.static C n d).eval args s none [] s = some v := by
    simp [Term.eval, State.fieldNamed?, h1, h2, h4, h5, h6, h7]
  simp only [Cond.before, Cond.holds, Cond.value, he]
  cases v <;> simp_all [Value.isRef]
theorem vx_isRefq {C n d : String} {A : Nat → Prop} {s : State} {args : Array Value} (h : va_Zq C n d A s s.heap) : (Cond.isRef (.static C n d)).before args s = true := by
  rcases h with h | ⟨t, h⟩
  · exact vx_isRef h rfl
  · exact vx_isRef h rfl
/-- the same frame, seen from here: as if the method were called anew in this heap -/
theorem vx_rebase {T : State} (X : Stand p l e R s m args below meth c T locs cells slots) {R' : Room} (hf : R'.frames ≤ R.frames) (hl : R'.locals ≤ R.locals) (hc : cells + R'.cells ≤ R.cells) (hs : slots + R'.slots ≤ R.slots) :
    Stand p l e R' ((T.setVm s.vm).setFrames (.invoking m args :: below)) m args below meth c T [] 0 0 := by
  have htop : (T.setVm s.vm).topJava?.isSome := X.here.top
  have hF : ((T.setVm s.vm).setFrames (.invoking m args :: below)).frames = .invoking m args :: below := State.frames_setFrames _ (State.cur_lt_of_top htop)
  obtain ⟨g₀, hg0⟩ := Option.isSome_iff_exists.mp htop
  obtain ⟨r, hr⟩ := State.topJava?_eq_some.mp hg0
  have hl9 : e.platform.stackLimits (T.setVm s.vm).me = e.platform.stackLimits s.me := X.limits
  have hb9 : (T.setVm s.vm).me.stackBytes = s.me.stackBytes := X.bytes
  refine ⟨X.admits, X.cas, X.clock, hF, ?_, X.hears, X.method, X.code, X.here, X.tail, X.warmed, ?_, ?_, ?_⟩
  · have h := X.room
    have hU : ((T.setVm s.vm).setFrames (.invoking m args :: below)).localsInUse = s.localsInUse := by
      rw [State.localsInUse_invoking hF (meth := meth) (c := c) X.method X.code, State.localsInUse_invoking X.frames X.method X.code]
    simp only [State.hasRoom, Bool.and_eq_true, decide_eq_true_eq] at h ⊢
    obtain ⟨⟨⟨⟨h1, h2, h3, h4, h5, h6⟩, h7⟩, h8⟩, h9⟩ := h
    rw [X.frames, List.length_cons] at h2 h3
    have q1 := X.heapSize
    have q2 := X.used
    simp only [hF, hU, List.length_cons, State.stackLimits_setFrames, State.stackBytes_setFrames, hl9, hb9]
    refine ⟨⟨⟨⟨by omega, by omega, by omega, by omega, by omega, h6⟩, ?_⟩, ?_⟩, X.book⟩
    · show T.heap.size + R'.cells ≤ e.platform.maxCells
      omega
    · show T.slotsUsed + R'.slots ≤ e.platform.maxSlots
      omega
  · rw [State.stackLimits_setFrames]; rfl
  · rw [State.stackBytes_setFrames]; rfl
  · refine ⟨?_, Nat.le_refl _, Nat.le_refl _, ?_, ?_, fun a c9 h9 => ⟨c9, h9, rfl, rfl, fun _ _ => rfl⟩⟩
    · obtain ⟨t, ht, -⟩ := State.frames_cons hr
      show T.setVm s.vm = { ((T.setVm s.vm).setFrames (.invoking m args :: below)).setFrames (T.setVm s.vm).frames with heap := T.heap, slotsUsed := T.slotsUsed }
      rw [State.setFrames_setFrames, State.setFrames_self ht]
      rfl
    · show T.slotsUsed = T.slotsUsed + ((T.heap.toList.drop T.heap.size).map (·.slots.size)).sum
      rw [List.drop_eq_nil_of_le (Nat.le_of_eq Array.length_toList)]
      rfl
    · show ((T.heap.toList.drop T.heap.size).map (·.slots.size)).sum ≤ 0
      rw [List.drop_eq_nil_of_le (Nat.le_of_eq Array.length_toList)]
      exact Nat.le_refl _
/-- 'throw new E()': new; dup; invokespecial; athrow -/
theorem vx_throw0 {cc : ByteArray} {pc : Nat} (hexec : p.tables.exec = Jvm.exec) (hb : c.code = cc) (hl : l.stackTraces = false) {own cls : String} {names : List String} {ik ic mc ms : Nat} {A : Nat → Prop}
    (hown : s.vm.findClass own = some m.cls) (hcls : Bundle.fit cls = true) (hnames : ∀ n ∈ names, Bundle.fit n = true)
    (hk : (Cond.classLink own ik cls).before args s = true) (hini : (Cond.initialized cls).before args s = true) (hat : ∀ w ∈ vx_at0 own ic cls names, w.before args s = true)
    (hgood : ∀ w ∈ Cond.classLink own ik cls :: Cond.initialized cls :: vx_at0 own ic cls names, vx_ot w = true)
    (hU : vx_Zq Bundle.tN "UNASSIGNED_STACK" Bundle.steD A s s.heap) (hN : vx_Zq Bundle.tN "SUPPRESSED_SENTINEL" Bundle.listD A s s.heap) (hS : va_S A s.heap H locs) (hsize : ls.size = c.maxLocals)
    (d0 : decode cc pc = .ok (.new ik, 3)) (d3 : decode cc (pc + 3) = .ok (.dup, 1)) (d4 : decode cc (pc + 4) = .ok (.invokespecial ic, 3)) (d7 : decode cc (pc + 7) = .ok (.athrow, 1))
    (hout : ∀ x ∈ c.exceptionTable.toList, covers x (pc + 7) = false)
    (hRframes : names.length + 3 < R.frames) (hRlocals : (rest.map fun v => v.category).sum + (13 * (names.length + 1) + 42) ≤ R.locals) (hRcells : cells + 1 ≤ R.cells) (hRslots : slots + 6 ≤ R.slots) (hlocks : meth.locks = false)
    (hx : ∀ t : State, s.vm.Alike t.vm → H.size ≤ t.heap.size → (∀ q : Nat, q < H.size → t.heap[q]? = H[q]?) → XC cls s t)
    (hf : ∀ z ∈ locs, free z.base) (hc : cells + 1 ≤ mc) (hs : slots + 6 ≤ ms) :
    W p l e R s m args below meth c H locs cells slots (vx_MQ below Qc XC args s mc ms free) (F0 m pc ls rest) := by
  intro T hT X
  have htr : e.platform.stackTraces = false := (show e.platform.stackTraces = l.stackTraces by rw [X.admits.platform]).trans hl
  have Y := vx_rebase X (R' := { frames := R.frames, locals := R.locals, cells := 1, slots := 6 }) (Nat.le_refl _) (Nat.le_refl _) hRcells hRslots
  obtain ⟨s', hA⟩ : ∃ z, z = (T.setVm s.vm).setFrames (.invoking m args :: below) := ⟨_, rfl⟩
  rw [← hA] at Y
  have hvm : s'.vm = s.vm := by rw [hA]; rfl
  have hhp : s'.heap = H := by rw [hA]; exact hT
  have hW0 : s.WarmedH s'.vm := by rw [hvm]; exact State.WarmedH.refl s
  have hat' : ∀ w ∈ vx_at0 own ic cls names, w.before args s' = true := fun w hw => vx_ot_at hW0 hvm.symm (hgood w (List.mem_cons_of_mem _ (List.mem_cons_of_mem _ hw))) (hat w hw)
  have hk' : (Cond.classLink own ik cls).before args s' = true := vx_ot_at hW0 hvm.symm (hgood _ List.mem_cons_self) hk
  have hini' : (Cond.initialized cls).before args s' = true := vx_ot_at hW0 hvm.symm (hgood _ (List.mem_cons_of_mem _ List.mem_cons_self)) hini
  have hU' : vx_Zq Bundle.tN "UNASSIGNED_STACK" Bundle.steD A s' s'.heap := by rw [hhp]; exact vx_Zq.moved hW0.alike (hU.kept hS.2.1)
  have hN' : vx_Zq Bundle.tN "SUPPRESSED_SENTINEL" Bundle.listD A s' s'.heap := by rw [hhp]; exact vx_Zq.moved hW0.alike (hN.kept hS.2.1)
  have h : ∀ w ∈ Bundle.ownAtoms0 own ic cls names, w.before args s' = true := vx_own hat' (vx_isRefq hU'.1) (vx_isRefq hN'.1) hU'.2.word hN'.2.word
  have hown' : s'.vm.findClass own = some m.cls := by rw [hvm]; exact hown
  have hins : (Cond.instantiable cls 6).before args s' = true := h _ (by simp [Bundle.ownAtoms0])
  obtain ⟨vm₁, cX, kX, hfX, hkX, -, -, X₁, st1⟩ := Y.newCold hexec (own := own) (C := cls) (index := ik) (n := 6) hown' hk' hins hini'
    (g := F0 m pc ls rest) rfl (by rw [hb]; exact d0) (Nat.le_refl _) (Nat.le_refl _)
  generalize hT1 : (T.setVm vm₁).pushCell { cls := cX, slots := kX.instanceTypes.map defaultValue, vm := .none } = T1 at X₁ st1
  have hcat : (Value.ref T.heap.size).category = 1 := rfl
  have hcellA : T1.heap[T.heap.size]? = some (freshCell cX kX) := by rw [← hT1]; exact State.heap_pushCell_size _ _
  have d3' : decode c.code (pc + 3) = .ok (.dup, 1) := by rw [hb]; exact d3
  obtain ⟨U, hsteps, hrun, hend, hW, hsame, ce, hce, hO⟩ := X₁.ctorThrow0 hexec htr (own := own) (cls := cls) (names := names) (ic := ic) hown' hcls hnames h (fun x hx => nomatch hx) hfX hkX hcellA (by rw [hhp, hT]; exact Nat.le_refl _)
    (g := { method := m, pc := pc + 4, locals := ls, stack := .ref T.heap.size :: .ref T.heap.size :: rest, locked := none }) rfl hsize rfl rfl (rest := rest) rfl
    (by rw [hb]; exact d4) (by rw [hb]; exact d7) hout hRframes (by simp only [List.map_cons, List.sum_cons, hcat]; omega) hlocks
  obtain ⟨f1, f2⟩ := vx_frame hsame
  rw [hhp] at f1 f2
  have hWs : s.WarmedH U.vm := State.WarmedH.trans hW0 hW
  have hcl : s.vm.findClass cls = some ce.cls := by
    have h9 := hO.cls
    rw [hvm] at h9
    exact h9
  have hall : s.sameButNew ({ U with vm := s.vm } : State) locs mc ms := by
    subst hA
    obtain ⟨e1, e2⟩ := hsame
    rw [State.setFrames_setFrames] at e1
    have h2 : (T.setVm s.vm).sameButNew ({ U with vm := s.vm } : State) [] (0 + 1) (0 + 6) := ⟨e1, e2⟩
    have h3 := X.same.trans h2
    rw [List.append_nil] at h3
    exact h3.mono hc hs
  refine ⟨U, ?_, .threw T.heap.size, hrun, hend, Or.inr ⟨T.heap.size, rfl, cls, ce, locs, hx U hWs.alike f1 (fun q hq => f2 q hq (fun z hz => nomatch hz)), hce, hO.vm, hcl, hWs, hall, hf⟩⟩
  refine st1 _ ?_
  show Steps p.tables e below (T1.setTop { method := m, pc := pc + 3, locals := ls, stack := .ref T.heap.size :: rest, locked := none }) _
  jvm_step X₁.here [X₁.here.top, hexec, d3', Value.category]
  exact hsteps
/-- 'throw new E("text")': new; dup; ldc; invokespecial; athrow -/
theorem vx_throwS {cc : ByteArray} {pc : Nat} (hexec : p.tables.exec = Jvm.exec) (hb : c.code = cc) (hl : l.stackTraces = false) {own cls text : String} {names : List String} {ik is ic mc ms sa : Nat} {A : Nat → Prop}
    (hown : s.vm.findClass own = some m.cls) (hcls : Bundle.fit cls = true) (hnames : ∀ n ∈ names, Bundle.fit n = true)
    (hk : (Cond.classLink own ik cls).before args s = true) (hini : (Cond.initialized cls).before args s = true) (hstr : vk_R own is text sa s) (hat : ∀ w ∈ vx_atS own ic cls names, w.before args s = true)
    (hgood : ∀ w ∈ Cond.classLink own ik cls :: Cond.initialized cls :: vx_atS own ic cls names, vx_ot w = true)
    (hU : vx_Zq Bundle.tN "UNASSIGNED_STACK" Bundle.steD A s s.heap) (hN : vx_Zq Bundle.tN "SUPPRESSED_SENTINEL" Bundle.listD A s s.heap) (hS : va_S A s.heap H locs) (hsize : ls.size = c.maxLocals)
    (d0 : decode cc pc = .ok (.new ik, 3)) (d3 : decode cc (pc + 3) = .ok (.dup, 1)) (d4 : decode cc (pc + 4) = .ok (.ldc is, 2)) (d6 : decode cc (pc + 6) = .ok (.invokespecial ic, 3)) (d9 : decode cc (pc + 9) = .ok (.athrow, 1))
    (hout : ∀ x ∈ c.exceptionTable.toList, covers x (pc + 9) = false)
    (hRframes : names.length + 3 < R.frames) (hRlocals : (rest.map fun v => v.category).sum + (13 * (names.length + 1) + 43) ≤ R.locals) (hRcells : cells + 1 ≤ R.cells) (hRslots : slots + 6 ≤ R.slots) (hlocks : meth.locks = false)
    (hx : ∀ t : State, s.vm.Alike t.vm → H.size ≤ t.heap.size → (∀ q : Nat, q < H.size → t.heap[q]? = H[q]?) → XC cls s t)
    (hf : ∀ z ∈ locs, free z.base) (hc : cells + 1 ≤ mc) (hs : slots + 6 ≤ ms) :
    W p l e R s m args below meth c H locs cells slots (vx_MQ below Qc XC args s mc ms free) (F0 m pc ls rest) := by
  intro T hT X
  have htr : e.platform.stackTraces = false := (show e.platform.stackTraces = l.stackTraces by rw [X.admits.platform]).trans hl
  have Y := vx_rebase X (R' := { frames := R.frames, locals := R.locals, cells := 1, slots := 6 }) (Nat.le_refl _) (Nat.le_refl _) hRcells hRslots
  obtain ⟨s', hA⟩ : ∃ z, z = (T.setVm s.vm).setFrames (.invoking m args :: below) := ⟨_, rfl⟩
  rw [← hA] at Y
  have hvm : s'.vm = s.vm := by rw [hA]; rfl
  have hhp : s'.heap = H := by rw [hA]; exact hT
  have hW0 : s.WarmedH s'.vm := by rw [hvm]; exact State.WarmedH.refl s
  have hat' : ∀ w ∈ vx_atS own ic cls names, w.before args s' = true := fun w hw => vx_ot_at hW0 hvm.symm (hgood w (List.mem_cons_of_mem _ (List.mem_cons_of_mem _ hw))) (hat w hw)
  have hk' : (Cond.classLink own ik cls).before args s' = true := vx_ot_at hW0 hvm.symm (hgood _ List.mem_cons_self) hk
  have hini' : (Cond.initialized cls).before args s' = true := vx_ot_at hW0 hvm.symm (hgood _ (List.mem_cons_of_mem _ List.mem_cons_self)) hini
  have hU' : vx_Zq Bundle.tN "UNASSIGNED_STACK" Bundle.steD A s' s'.heap := by rw [hhp]; exact vx_Zq.moved hW0.alike (hU.kept hS.2.1)
  have hN' : vx_Zq Bundle.tN "SUPPRESSED_SENTINEL" Bundle.listD A s' s'.heap := by rw [hhp]; exact vx_Zq.moved hW0.alike (hN.kept hS.2.1)
  have h : ∀ w ∈ Bundle.ownAtoms own ic cls names, w.before args s' = true := vx_own hat' (vx_isRefq hU'.1) (vx_isRefq hN'.1) hU'.2.word hN'.2.word
  have hown' : s'.vm.findClass own = some m.cls := by rw [hvm]; exact hown
  have hins : (Cond.instantiable cls 6).before args s' = true := h _ (by simp [Bundle.ownAtoms])
  obtain ⟨vm₁, cX, kX, hfX, hkX, -, -, X₁, st1⟩ := Y.newCold hexec (own := own) (C := cls) (index := ik) (n := 6) hown' hk' hins hini'
    (g := F0 m pc ls rest) rfl (by rw [hb]; exact d0) (Nat.le_refl _) (Nat.le_refl _)
  generalize hT1 : (T.setVm vm₁).pushCell { cls := cX, slots := kX.instanceTypes.map defaultValue, vm := .none } = T1 at X₁ st1
  have hcat : (Value.ref T.heap.size).category = 1 := rfl
  have hcellA : T1.heap[T.heap.size]? = some (freshCell cX kX) := by rw [← hT1]; exact State.heap_pushCell_size _ _
  have d3' : decode c.code (pc + 3) = .ok (.dup, 1) := by rw [hb]; exact d3
  have d4' : decode c.code (pc + 4) = .ok (.ldc is, 2) := by rw [hb]; exact d4
  have hstr' : vk_R own is text sa s' := vk_R.warm hW0 hstr
  obtain ⟨U, hsteps, hrun, hend, hW, hsame, ce, hce, hO⟩ := X₁.ctorThrowS hexec htr (own := own) (cls := cls) (names := names) (ic := ic) hown' hcls hnames h (fun x hx => nomatch hx) hfX hkX hcellA (by rw [hhp, hT]; exact Nat.le_refl _) (msg := .ref sa) rfl
    (g := { method := m, pc := pc + 6, locals := ls, stack := .ref sa :: .ref T.heap.size :: .ref T.heap.size :: rest, locked := none }) rfl hsize rfl rfl (rest := rest) rfl
    (by rw [hb]; exact d6) (by rw [hb]; exact d9) hout hRframes (by simp only [List.map_cons, List.sum_cons, hcat]; omega) hlocks
  obtain ⟨f1, f2⟩ := vx_frame hsame
  rw [hhp] at f1 f2
  have hWs : s.WarmedH U.vm := State.WarmedH.trans hW0 hW
  have hcl : s.vm.findClass cls = some ce.cls := by
    have h9 := hO.cls
    rw [hvm] at h9
    exact h9
  have hall : s.sameButNew ({ U with vm := s.vm } : State) locs mc ms := by
    subst hA
    obtain ⟨e1, e2⟩ := hsame
    rw [State.setFrames_setFrames] at e1
    have h2 : (T.setVm s.vm).sameButNew ({ U with vm := s.vm } : State) [] (0 + 1) (0 + 6) := ⟨e1, e2⟩
    have h3 := X.same.trans h2
    rw [List.append_nil] at h3
    exact h3.mono hc hs
  refine ⟨U, ?_, .threw T.heap.size, hrun, hend, Or.inr ⟨T.heap.size, rfl, cls, ce, locs, hx U hWs.alike f1 (fun q hq => f2 q hq (fun z hz => nomatch hz)), hce, hO.vm, hcl, hWs, hall, hf⟩⟩
  refine st1 _ ?_
  show Steps p.tables e below (T1.setTop { method := m, pc := pc + 3, locals := ls, stack := .ref T.heap.size :: rest, locked := none }) _
  jvm_step X₁.here [X₁.here.top, hexec, d3', Value.category]
  exact X₁.ldcString hexec (own := own) (text := text) (index := is) (a := sa) hown' hstr'.1 hstr'.2
    (g := { method := m, pc := pc + 4, locals := ls, stack := .ref T.heap.size :: .ref T.heap.size :: rest, locked := none }) rfl d4' _ hsteps
/-- 'throw new E("text")', the text by a wide index -/
theorem vx_throwSW {cc : ByteArray} {pc : Nat} (hexec : p.tables.exec = Jvm.exec) (hb : c.code = cc) (hl : l.stackTraces = false) {own cls text : String} {names : List String} {ik is ic mc ms sa : Nat} {A : Nat → Prop}
    (hown : s.vm.findClass own = some m.cls) (hcls : Bundle.fit cls = true) (hnames : ∀ n ∈ names, Bundle.fit n = true)
    (hk : (Cond.classLink own ik cls).before args s = true) (hini : (Cond.initialized cls).before args s = true) (hstr : vk_R own is text sa s) (hat : ∀ w ∈ vx_atS own ic cls names, w.before args s = true)
    (hgood : ∀ w ∈ Cond.classLink own ik cls :: Cond.initialized cls :: vx_atS own ic cls names, vx_ot w = true)
    (hU : vx_Zq Bundle.tN "UNASSIGNED_STACK" Bundle.steD A s s.heap) (hN : vx_Zq Bundle.tN "SUPPRESSED_SENTINEL" Bundle.listD A s s.heap) (hS : va_S A s.heap H locs) (hsize : ls.size = c.maxLocals)
    (d0 : decode cc pc = .ok (.new ik, 3)) (d3 : decode cc (pc + 3) = .ok (.dup, 1)) (d4 : decode cc (pc + 4) = .ok (.ldc_w is, 3)) (d7 : decode cc (pc + 7) = .ok (.invokespecial ic, 3)) (d10 : decode cc (pc + 10) = .ok (.athrow, 1))
    (hout : ∀ x ∈ c.exceptionTable.toList, covers x (pc + 10) = false)
    (hRframes : names.length + 3 < R.frames) (hRlocals : (rest.map fun v => v.category).sum + (13 * (names.length + 1) + 43) ≤ R.locals) (hRcells : cells + 1 ≤ R.cells) (hRslots : slots + 6 ≤ R.slots) (hlocks : meth.locks = false)
    (hx : ∀ t : State, s.vm.Alike t.vm → H.size ≤ t.heap.size → (∀ q : Nat, q < H.size → t.heap[q]? = H[q]?) → XC cls s t)
    (hf : ∀ z ∈ locs, free z.base) (hc : cells + 1 ≤ mc) (hs : slots + 6 ≤ ms) :
    W p l e R s m args below meth c H locs cells slots (vx_MQ below Qc XC args s mc ms free) (F0 m pc ls rest) := by
  intro T hT X
  have htr : e.platform.stackTraces = false := (show e.platform.stackTraces = l.stackTraces by rw [X.admits.platform]).trans hl
  have Y := vx_rebase X (R' := { frames := R.frames, locals := R.locals, cells := 1, slots := 6 }) (Nat.le_refl _) (Nat.le_refl _) hRcells hRslots
  obtain ⟨s', hA⟩ : ∃ z, z = (T.setVm s.vm).setFrames (.invoking m args :: below) := ⟨_, rfl⟩
  rw [← hA] at Y
  have hvm : s'.vm = s.vm := by rw [hA]; rfl
  have hhp : s'.heap = H := by rw [hA]; exact hT
  have hW0 : s.WarmedH s'.vm := by rw [hvm]; exact State.WarmedH.refl s
  have hat' : ∀ w ∈ vx_atS own ic cls names, w.before args s' = true := fun w hw => vx_ot_at hW0 hvm.symm (hgood w (List.mem_cons_of_mem _ (List.mem_cons_of_mem _ hw))) (hat w hw)
  have hk' : (Cond.classLink own ik cls).before args s' = true := vx_ot_at hW0 hvm.symm (hgood _ List.mem_cons_self) hk
  have hini' : (Cond.initialized cls).before args s' = true := vx_ot_at hW0 hvm.symm (hgood _ (List.mem_cons_of_mem _ List.mem_cons_self)) hini
  have hU' : vx_Zq Bundle.tN "UNASSIGNED_STACK" Bundle.steD A s' s'.heap := by rw [hhp]; exact vx_Zq.moved hW0.alike (hU.kept hS.2.1)
  have hN' : vx_Zq Bundle.tN "SUPPRESSED_SENTINEL" Bundle.listD A s' s'.heap := by rw [hhp]; exact vx_Zq.moved hW0.alike (hN.kept hS.2.1)
  have h : ∀ w ∈ Bundle.ownAtoms own ic cls names, w.before args s' = true := vx_own hat' (vx_isRefq hU'.1) (vx_isRefq hN'.1) hU'.2.word hN'.2.word
  have hown' : s'.vm.findClass own = some m.cls := by rw [hvm]; exact hown
  have hins : (Cond.instantiable cls 6).before args s' = true := h _ (by simp [Bundle.ownAtoms])
  obtain ⟨vm₁, cX, kX, hfX, hkX, -, -, X₁, st1⟩ := Y.newCold hexec (own := own) (C := cls) (index := ik) (n := 6) hown' hk' hins hini'
    (g := F0 m pc ls rest) rfl (by rw [hb]; exact d0) (Nat.le_refl _) (Nat.le_refl _)
  generalize hT1 : (T.setVm vm₁).pushCell { cls := cX, slots := kX.instanceTypes.map defaultValue, vm := .none } = T1 at X₁ st1
  have hcat : (Value.ref T.heap.size).category = 1 := rfl
  have hcellA : T1.heap[T.heap.size]? = some (freshCell cX kX) := by rw [← hT1]; exact State.heap_pushCell_size _ _
  have d3' : decode c.code (pc + 3) = .ok (.dup, 1) := by rw [hb]; exact d3
  have d4' : decode c.code (pc + 4) = .ok (.ldc_w is, 3) := by rw [hb]; exact d4
  have hstr' : vk_R own is text sa s' := vk_R.warm hW0 hstr
  obtain ⟨U, hsteps, hrun, hend, hW, hsame, ce, hce, hO⟩ := X₁.ctorThrowS hexec htr (own := own) (cls := cls) (names := names) (ic := ic) hown' hcls hnames h (fun x hx => nomatch hx) hfX hkX hcellA (by rw [hhp, hT]; exact Nat.le_refl _) (msg := .ref sa) rfl
    (g := { method := m, pc := pc + 7, locals := ls, stack := .ref sa :: .ref T.heap.size :: .ref T.heap.size :: rest, locked := none }) rfl hsize rfl rfl (rest := rest) rfl
    (by rw [hb]; exact d7) (by rw [hb]; exact d10) hout hRframes (by simp only [List.map_cons, List.sum_cons, hcat]; omega) hlocks
  obtain ⟨f1, f2⟩ := vx_frame hsame
  rw [hhp] at f1 f2
  have hWs : s.WarmedH U.vm := State.WarmedH.trans hW0 hW
  have hcl : s.vm.findClass cls = some ce.cls := by
    have h9 := hO.cls
    rw [hvm] at h9
    exact h9
  have hall : s.sameButNew ({ U with vm := s.vm } : State) locs mc ms := by
    subst hA
    obtain ⟨e1, e2⟩ := hsame
    rw [State.setFrames_setFrames] at e1
    have h2 : (T.setVm s.vm).sameButNew ({ U with vm := s.vm } : State) [] (0 + 1) (0 + 6) := ⟨e1, e2⟩
    have h3 := X.same.trans h2
    rw [List.append_nil] at h3
    exact h3.mono hc hs
  refine ⟨U, ?_, .threw T.heap.size, hrun, hend, Or.inr ⟨T.heap.size, rfl, cls, ce, locs, hx U hWs.alike f1 (fun q hq => f2 q hq (fun z hz => nomatch hz)), hce, hO.vm, hcl, hWs, hall, hf⟩⟩
  refine st1 _ ?_
  show Steps p.tables e below (T1.setTop { method := m, pc := pc + 3, locals := ls, stack := .ref T.heap.size :: rest, locked := none }) _
  jvm_step X₁.here [X₁.here.top, hexec, d3', Value.category]
  exact X₁.ldcStringW hexec (own := own) (text := text) (index := is) (a := sa) hown' hstr'.1 hstr'.2
    (g := { method := m, pc := pc + 4, locals := ls, stack := .ref T.heap.size :: .ref T.heap.size :: rest, locked := none }) rfl d4' _ hsteps
end Ends
section Bodies
variable {l : Launch}
theorem vx_ofW {y : MethodName} {ws ws' : List Cond} {rm : Room} {Pc : Array Value → State → Prop} {Qc : Array Value → State → Outcome → State → Prop} {XC : String → State → State → Prop} {mc ms : Nat} {free : Addr → Prop} {cc : ByteArray} {maxL : Nat} {ret : Option FieldType}
    (hy : plainName y.cls = true) (hw : ws = Cond.code y cc maxL ret :: ws')
    (body : ∀ p e s m args below meth c s₁, BodyLoose p l y (headSpec ws rm) cc maxL ret e s m args below meth c s₁ → c.maxLocals = maxL → (∀ x ∈ c.exceptionTable.toList, False) → Pc args s →
      W p l e (headSpec ws rm).room s m args below meth c s.heap [] 0 0 (vx_MQ below Qc XC args s mc ms free) (entryFrame m args maxL)) : vx_Met l y ws rm Pc Qc XC mc ms free := by
  refine MetFree.of_bodyS (code := cc) (maxLocals := maxL) (ret := ret) hy ?_ ?_
  · intro args s m h hn
    obtain ⟨meth, c, h1, h2, h3, h4, h5, h6, -, -⟩ := Cond.code_spec hn (atoms_spec (ws := ws) h _ (by rw [hw]; exact List.mem_cons_self))
    exact ⟨meth, c, h1, h2, h3, h4, h5, h6⟩
  · intro p e s m args below meth c s₁ B hml hP _
    have hh0 : s₁.heap = s.heap := by rw [B.state]; rfl
    have ht : ∀ x ∈ c.exceptionTable.toList, False := by
      obtain ⟨meth9, c9, h1, h2, -, -, -, -, h7, -⟩ := Cond.code_spec B.named (atoms_spec (ws := ws) B.pre _ (by rw [hw]; exact List.mem_cons_self))
      cases Option.some.inj (h1.symm.trans B.method)
      cases Option.some.inj (h2.symm.trans (Stand.of_body B).code)
      intro x hx
      rw [Array.isEmpty_iff.mp h7] at hx
      cases hx
    obtain ⟨t, a1, o, b1, b2, b3⟩ := body p e s m args below meth c s₁ B hml ht hP s₁ hh0 (Stand.of_body B)
    exact ⟨t, o, a1, b1, b2, b3⟩
/-- the table of a body with handlers -/
theorem vx_table {p : Program} {x y : MethodName} {S : Spec} {cc bytes : ByteArray} {maxL maxL' : Nat} {ret ret' : Option FieldType} {e : Env} {s s₁ : State} {m : MethodId} {args : Array Value} {below : List Frame} {meth : Method} {c : Code} {hh : List (Nat × Nat × Nat × Nat)}
    (B : BodyLoose p l y S cc maxL ret e s m args below meth c s₁) (h : (Cond.codeWith y bytes maxL' ret' hh).before args s = true) : c.exceptionTable.toList = tableOf hh := by
  obtain ⟨m9, meth9, c9, hn9, h1, h2, -, -, h6, -⟩ := Cond.codeWith_spec h
  cases Option.some.inj (hn9.symm.trans B.named)
  cases Option.some.inj (h1.symm.trans B.method)
  cases Option.some.inj (h2.symm.trans (Stand.of_body B).code)
  rw [← h6, table_eq]
end Bodies
end VXA
/-! ===== END ===== -/
/-! ===== BEGIN a static call of a method with an exception table ===== -/
section VXS
variable {p : Program} {l : Launch} {e : Env} {R : Room} {s : State} {m : MethodId} {args : Array Value} {below : List Frame} {meth : Method} {c : Code} {T : State} {H : Heap} {locs : List Loc} {cells slots : Nat}
abbrev vx_CSW (R : Room) (s : State) (args : Array Value) (own : String) (index : Nat) (y : MethodName) (bytes : ByteArray) (maxL : Nat) (ret : Option FieldType) (hh : List (Nat × Nat × Nat × Nat)) (ws : List Cond) (rm : Room) (mc ms n : Nat) : Prop :=
  (rm.cells = mc ∧ rm.slots = ms ∧ rm.frames + 1 ≤ R.frames ∧ 8 + (maxL + 11) + rm.locals ≤ R.locals ∧ (∀ w ∈ ws, ∀ (a' : Array Value) (U : State), s.WarmedH U.vm → w.before a' U = true) ∧ Cond.codeWith y bytes maxL ret hh ∈ ws) ∧
  (Cond.codeWith y bytes maxL ret hh).before args s = true ∧ (Cond.initialized y.cls).before args s = true ∧ (y.cls ≠ "java/lang/invoke/MethodHandle" ∧ y.cls ≠ "java/lang/invoke/VarHandle") ∧
  (∀ sig, parseMethodDescriptor y.desc = some sig → n = sig.parameters.length) ∧ (Cond.methodLink own index y).before args s = true ∧ (Cond.static y).before args s = true
theorem vx_cwSW {own : String} {index maxL mc ms : Nat} {y : MethodName} {bytes : ByteArray} {ret : Option FieldType} {hh : List (Nat × Nat × Nat × Nat)} {Ts ws ws' : List Cond} {rm : Room} (n : Nat) (ht : ∀ w ∈ Ts, w.before args s = true) (hT : GoodIn Ts (va_wsS own index y ws)) (hw : ws = Cond.codeWith y bytes maxL ret hh :: ws') (hrc : rm.cells = mc) (hrs : rm.slots = ms)
    (hd : y.cls ≠ "java/lang/invoke/MethodHandle" ∧ y.cls ≠ "java/lang/invoke/VarHandle" ∧ (parseMethodDescriptor y.desc).map (fun d => d.parameters.length) = some n) (hR : rm.frames + 1 ≤ R.frames ∧ 8 + (maxL + 11) + rm.locals ≤ R.locals) :
    vx_CSW R s args own index y bytes maxL ret hh ws rm mc ms n := by
  have ok : ∀ w ∈ va_wsS own index y ws, w.before args s = true := fun w h => ht w (hT w h).1
  have hG : GoodIn Ts ws := fun w h => hT w (by unfold va_wsS; exact List.mem_append_right _ h)
  have hc : Cond.codeWith y bytes maxL ret hh ∈ ws := by rw [hw]; exact List.mem_cons_self
  refine ⟨⟨hrc, hrs, hR.1, hR.2, pay_in ht hG, hc⟩, ht _ (hG _ hc).1, ok _ (by simp [va_wsS]), ⟨hd.1, hd.2.1⟩, fun sig h => ?_, ok _ (by simp [va_wsS]), ok _ (by simp [va_wsS])⟩
  have h2 := hd.2.2
  rw [h] at h2
  exact (Option.some.inj h2).symm
theorem vx_callSW (X : Stand p l e R s m args below meth c T locs cells slots) (hexec : p.tables.exec = Jvm.exec) {own : String} {index : Nat} {y : MethodName} {bytes : ByteArray} {maxL : Nat} {ret : Option FieldType} {hh : List (Nat × Nat × Nat × Nat)}
    (hown : s.vm.findClass own = some m.cls) (hlink : (Cond.methodLink own index y).before args s = true) (hstat : (Cond.static y).before args s = true) (hinit : (Cond.initialized y.cls).before args s = true)
    (hcode : (Cond.codeWith y bytes maxL ret hh).before args s = true) (hy : y.cls ≠ "java/lang/invoke/MethodHandle" ∧ y.cls ≠ "java/lang/invoke/VarHandle")
    {W9 : Nat} {Pre : Pt → Array Value → Prop} {Post : Pt → Array Value → Option Value → Pt → Prop} (hK : Back l R p e below s args y 3 W9 Pre Post)
    {g : JFrame} (hg : g.method = m) (hsize : g.locals.size = c.maxLocals) {argsL rest : List Value} (hlen : ∀ sig, parseMethodDescriptor y.desc = some sig → argsL.length = sig.parameters.length)
    (hstack : g.stack = argsL.reverse ++ rest) (hW : 2 * g.monitorRoom + (rest.map fun v => v.category).sum ≤ W9) (hdg : decode c.code g.pc = .ok (.invokestatic index, 3))
    (hpre : ∀ vm₁, s.WarmedH vm₁ → Pre ⟨T.setVm vm₁, locs, cells, slots⟩ argsL.toArray) :
    ∃ (v : Option Value) (vm₁ : Vm) (B : Pt), s.WarmedH vm₁ ∧ Stand p l e R s m args below meth c B.U B.locs B.cells B.slots ∧ Post ⟨T.setVm vm₁, locs, cells, slots⟩ argsL.toArray v B ∧
      ∀ target, Steps p.tables e below (B.U.setTop { g with pc := g.pc + 3, stack := v.toList ++ rest }) target → Steps p.tables e below (T.setTop g) target := by
  obtain ⟨mk, methM, cM, hnamed, hmethM, -, -, -, -, -, -, hsigM⟩ := Cond.codeWith_spec hcode
  have hstatic : methM.isStatic = true := Cond.static_spec hnamed hmethM hstat
  obtain ⟨kP, hkP, -⟩ := className_of_methodNamed hnamed
  have hinitP : kP.init = .initialized := Cond.initialized_spec (findClass_of_methodNamed hnamed) hkP hinit
  obtain ⟨vm₁, X₁, hstep₁⟩ := X.invokestatic hexec hown hlink hnamed hmethM hstatic hkP hinitP hy (g := g) hg (argsL := argsL) (rest := rest) (hlen _ hsigM) hstack hdg
  obtain ⟨v, B, X', hpost, hsteps⟩ := hK m meth c ⟨T.setVm vm₁, locs, cells, slots⟩ { g with stack := rest } (.invokestatic index) mk argsL.toArray X₁ hg hsize hdg hW (X₁.named hnamed) (hpre vm₁ X₁.warmed)
  exact ⟨v, vm₁, B, X₁.warmed, X', hpost, fun target h => hstep₁ _ fun acts => by rw [doInvoke_state]; exact hsteps.trans h⟩
theorem vx_runSW {y : MethodName} {bytes cc : ByteArray} {maxL nL mc ms n index : Nat} {ret : Option FieldType} {hh : List (Nat × Nat × Nat × Nat)} {ws : List Cond} {rm : Room} {Pc : Array Value → State → Prop} {Qc : Array Value → State → Outcome → State → Prop} {free : Addr → Prop} {Ts : List Cond} {own : String} {As rest : List Value} {g : JFrame}
    (S : CallFix p m c cc nL s args Ts own) (hM : Met l y ws rm Pc Qc mc ms free) (cw : vx_CSW R s args own index y bytes maxL ret hh ws rm mc ms n) (hp : PreS s H Pc As)
    (hg : g.method = m) (hn : As.length = n) (hsize : g.locals.size = nL) (hstack : g.stack = As.reverse ++ rest) (hW : 2 * g.monitorRoom + (rest.map fun v => v.category).sum ≤ 8) (hdg : decode cc g.pc = .ok (.invokestatic index, 3)) (hf : cells + mc ≤ R.cells ∧ slots + ms ≤ R.slots) :
    va_Run p l e R s m args below meth c H locs cells slots mc ms g rest (Qc As.toArray) (free) := by
  obtain ⟨⟨hrc, hrs, hfr, hlo, hws, hcw⟩, hcode, hini, hy, hlen, hl, hstt⟩ := cw
  have hK : Back l R p e below s args y 3 8 (PreOf R mc ms Pc) (PostOf Qc mc ms free) := va_backW (hh := hh) (bytes := bytes) (maxL := maxL) (ret := ret) hM hp.1 hrc hrs hfr hlo hws hcw (fun a' U hW => word_at hW (Or.inl (by first | rfl | simp [Cond.onTables, Cond.keeps, Cond.steady])) hini)
  obtain ⟨hx, hb, hml, ho, -⟩ := S
  intro T hT X
  obtain ⟨v, vm₁, ⟨U', l2, c2, s2⟩, hW₁, X', ⟨g', mk, t, L, e1, e2, hq, h1, hL, h2, h3⟩, st⟩ := vx_callSW X hx (hh := hh) (bytes := bytes) (maxL := maxL) (ret := ret) ho hl hstt hini hcode hy hK hg (hsize.trans hml.symm) (argsL := As) (rest := rest) (fun sig h => hn.trans (hlen sig h)) hstack hW (by rw [hb]; exact hdg)
    (fun vm₁ hW₁ => ⟨hf.1, hf.2, hp.2 (T.setVm vm₁) hT hW₁⟩)
  dsimp only [Pt.U, Pt.locs, Pt.cells, Pt.slots] at X' e1 e2 h1 h2 h3 st
  subst h1; subst h2; subst h3
  exact ⟨v, (T.setVm vm₁).calling g' mk As.toArray, t, U', L, hT, X', hL, e1, e2, hq, st⟩
/-- not caught here, past rows that name other classes: it goes on to the caller -/
theorem vx_outP {p : Program} {l : Launch} {e : Env} {R : Room} {s : State} {m : MethodId} {args : Array Value} {below : List Frame} {meth : Method} {c : Code} {H : Heap} {locs : List Loc} {cells slots : Nat} {free : Addr → Prop} {ls : Array Slot} {rest : List Value} {Qc : Array Value → State → Outcome → State → Prop} {XC : String → State → State → Prop}
    {pc : Nat} {own E : String} {ce : Cell} {q : Addr} {mc ms : Nat} (hown : s.vm.findClass own = some m.cls) (hlocks : meth.locks = false)
    (hpass : ∀ z ∈ c.exceptionTable.toList, covers z pc = false ∨ (z.catchType ≠ 0 ∧ ∃ nm : String, (Cond.classLink own z.catchType nm).before args s = true ∧ va_Nc E nm s)) (hcell : H[q]? = some ce) (hv : ce.vm = .none) (hcl : s.vm.findClass E = some ce.cls)
    (hx : ∀ t : State, t.heap = H → s.vm.Alike t.vm → XC E s t) (hf : ∀ z ∈ locs, free z.base) (hc : cells ≤ mc) (hs : slots ≤ ms) :
    vx_W p l e R s m args below meth c H locs cells slots (vx_MQ below Qc XC args s mc ms free) (F0 m pc ls rest) q := by
  intro T hT X
  have hpl : e.platform.magicAccessors = ({} : Platform).magicAccessors := by rw [X.admits.platform]
  obtain ⟨vm', hW', X', st⟩ := X.outThrough hlocks q (g := F0 m pc ls rest) rfl rfl rfl (cell := ce) (by rw [hT]; exact hcell) (by rw [hv]; rfl)
    (by obtain ⟨k9, h9, -⟩ := Vm.findClass_spec hcl; exact ⟨k9, h9⟩) (fun z hz => by
      rcases hpass z hz with h | ⟨hz0, nm, hl1, hn1⟩
      · exact Or.inl h
      · obtain ⟨c6, hc6, hcl6⟩ := Cond.classLink_spec hown hl1 e.platform hpl
        obtain ⟨a8, b8, h1, h2, h3⟩ := hn1
        cases Option.some.inj (h1.symm.trans hcl)
        cases Option.some.inj (h2.symm.trans hc6)
        exact Or.inr ⟨hz0, _, hcl6, h3⟩)
  obtain ⟨g₀, hfr⟩ := X'.frames_eq
  have hcell9 : ((T.setVm vm').setFrames (.throwing q :: below)).heap[q]? = some ce := by
    show T.heap[q]? = some ce
    rw [hT]; exact hcell
  have hend : Ended ((T.setVm vm').setFrames (.throwing q :: below)) below (.threw q) := State.frames_setFrames _ (State.cur_lt_of_frames hfr)
  refine ⟨(T.setVm vm').setFrames (.throwing q :: below), ?_, .threw q, X'.here.running, hend, Or.inr ⟨q, rfl, E, ce, locs, hx _ hT (X'.ends _).1.alike, hcell9, hv, hcl, (X'.ends _).1, (X'.ends _).2.mono hc hs, hf⟩⟩
  rw [X.pushThrowing_eq]
  exact st
/-- a thing of a world lies in the heap -/
theorem vx_lt {D : va_G} {cl : List vw_C} {ws : va_W} {H1 : Heap} (h : va_P D cl ws H1) {k : Nat} {q : Nat × va_E} (hk : ws[k]? = some q) : q.1 < H1.size := (h k q hk).lt
end VXS
/-! ===== END ===== -/
/-! ===== BEGIN methods with a table of their own: called by a name, returning or throwing ===== -/
section VXH
/-! vx_backW, vx_callVX, vx_callSX, vx_callVW, vx_runVW, vx_runVX, vx_runSX, vx_ofWH follow the same proofs as their sisters above (Free/Laws.lean, Shelf42/LK1.lean); vx_outP calls Shelf42/NT130.lean (outThrough). -/
section
variable {l : Launch} {R : Room} {p : Program} {e : Env} {below : List Frame} {s : State} {sargs : Array Value} {y : MethodName} {len W9 : Nat}
theorem vx_backW {ws : List Cond} {rm : Room} {Pc : Array Value → State → Prop} {Qc : Array Value → State → Outcome → State → Prop} {XC : String → State → State → Prop} {mc ms : Nat} {free : Addr → Prop} {bytes : ByteArray} {maxL : Nat} {ret : Option FieldType} {hh : List (Nat × Nat × Nat × Nat)}
    (hM : vx_Met l y ws rm Pc Qc XC mc ms free) (hblind : FrameBlind Pc) (hrc : rm.cells = mc) (hrs : rm.slots = ms)
    (hframes : rm.frames + 1 ≤ R.frames) (hlocals : W9 + (maxL + 11) + rm.locals ≤ R.locals)
    (hws : ∀ w ∈ ws, ∀ a' U, s.WarmedH U.vm → w.before a' U = true) (hcode : Cond.codeWith y bytes maxL ret hh ∈ ws) (hinit : ∀ a' U, s.WarmedH U.vm → (Cond.initialized y.cls).before a' U = true) :
    vx_Back l R p e below s sargs y len W9 (PreOf R mc ms Pc) (PostOf Qc mc ms free) (vx_Post XC mc ms free) := by
  intro m meth c A g ig mk a X hg hsize hdg hW hn hp
  have h1 : (headSpec ws rm).pre.before a A.U = true := atoms_intro fun w hw => hws w hw _ _ X.warmed
  have h2 : (Cond.codeWith y bytes maxL ret hh).before a A.U = true := hws _ hcode _ _ X.warmed
  have h3 : (Cond.initialized y.cls).before a A.U = true := hinit _ _ X.warmed
  have h4 : A.cells + (headSpec ws rm).room.cells ≤ R.cells := by rw [show (headSpec ws rm).room.cells = mc from hrc]; exact hp.1
  have h5 : A.slots + (headSpec ws rm).room.slots ≤ R.slots := by rw [show (headSpec ws rm).room.slots = ms from hrs]; exact hp.2.1
  have hPc : Pc a (A.U.calling g mk a) := hblind _ _ _ _ hp.2.2
  obtain ⟨U, Ls, c0, s0⟩ := A
  dsimp only [Pt.U, Pt.locs, Pt.cells, Pt.slots] at h1 h2 h3 h4 h5 X hn hPc ⊢
  obtain ⟨m9, methY, cY, hn9, hmY, hcY, -, hlY, -⟩ := Cond.codeWith_spec h2
  cases Option.some.inj (hn9.symm.trans hn)
  obtain ⟨kY, hkY, -⟩ := className_of_methodNamed hn
  have hinitY : kY.init = .initialized := Cond.initialized_spec (findClass_of_methodNamed hn) hkY h3
  have h : At U g.method c below := by rw [hg]; exact X.here
  have hlocals9 : W9 + (maxL + 11) + (headSpec ws rm).room.locals ≤ R.locals := hlocals
  have happ : (headSpec ws rm).appliesLoose y e.platform (U.calling g mk a) = true :=
    Spec.appliesLoose_calling (g := g) h hdg hn hkY hinitY
      (X.room_calling (g := g) (R' := (headSpec ws rm).room) hsize hmY hcY hframes (by rw [hlY]; omega) h4 h5) h1
  obtain ⟨mid, hmid⟩ := h.above
  have hfr : (U.setTop g).frames = (.java g :: mid) ++ below := by rw [State.frames_setTop' g h.top, hmid]; rfl
  obtain ⟨o, s₂, hsteps, -, hend, hq⟩ := Steps.callFree hM p X.admits X.cas X.clock (acts := []) hfr happ hPc trivial
  have hq' : vx_Q Qc XC mc ms free a (U.calling g mk a) o s₂ := hq
  rw [State.frames_setTop' g h.top] at hend
  obtain ⟨g₀, hg0⟩ := Option.isSome_iff_exists.mp h.top
  obtain ⟨r, hr⟩ := State.topJava?_eq_some.mp hg0
  have hr' : (({ U with heap := s₂.heap, slotsUsed := s₂.slotsUsed } : State).setVm s₂.vm).frames = .java g₀ :: r := hr
  rcases hq' with ⟨hqc, L, hfe, hL⟩ | ⟨q, rfl, E, ce, L, hx, hce, hcv, hcl, hW₂, hsm, hL⟩
  · obtain ⟨⟨v, rfl⟩, hW₂, e2, q2, q3, q4, q5, q6⟩ := id hfe
    have e3 : s₂ = ({ (U.calling g mk a).setFrames s₂.frames with heap := s₂.heap, slotsUsed := s₂.slotsUsed } : State).setVm s₂.vm := by
      have : s₂ = ({ s₂ with vm := (U.calling g mk a).vm } : State).setVm s₂.vm := rfl
      rw [e2] at this
      exact this
    obtain ⟨c₂, i₂, len₂, hc₂, hd₂, hf₂⟩ := hend
    have hW' : U.WarmedH s₂.vm := hW₂
    have hcc : c₂ = c := by
      have h1 : s₂.code? g.method = U.code? g.method := by
        rw [State.code?_eq, State.code?_eq, hW'.alike.method?]
      exact Option.some.inj (hc₂.symm.trans (h1.trans h.code))
    subst hcc
    have hlen : len₂ = len := by rw [hdg] at hd₂; cases hd₂; rfl
    subst hlen
    have hs₂ : s₂ = (({ U with heap := s₂.heap, slotsUsed := s₂.slotsUsed } : State).setVm s₂.vm).setTop { g with pc := g.pc + len₂, stack := v.toList ++ g.stack } := by
      refine e3.trans ?_
      rw [hf₂, State.calling_eq h.top, State.setFrames_setFrames, State.setTop_of_frames _ hr', hr]
      rfl
    have hsame : U.sameButNew ({ U with heap := s₂.heap, slotsUsed := s₂.slotsUsed } : State) L mc ms := by
      refine ⟨?_, q2, q3, q4, q5, q6⟩
      obtain ⟨t, ht, -⟩ := State.frames_cons hr
      show ({ U with heap := s₂.heap, slotsUsed := s₂.slotsUsed } : State) = { U.setFrames U.frames with heap := s₂.heap, slotsUsed := s₂.slotsUsed }
      rw [State.setFrames_self ht]
    subst hg
    refine Or.inl ⟨v, ⟨(({ U with heap := s₂.heap, slotsUsed := s₂.slotsUsed } : State).setVm s₂.vm), Ls ++ L, c0 + mc, s0 + ms⟩,
      ⟨X.admits, X.cas, X.clock, X.frames, X.room, X.hears, X.method, X.code, (X.here.setHeapUsed s₂.heap s₂.slotsUsed).setVm hW'.alike, X.tail, State.WarmedH.trans X.warmed hW', X.limits, X.bytes, X.same.trans (hsame.setVm s.vm)⟩,
      ⟨g, mk, s₂, L, rfl, rfl, hqc, rfl, hL, rfl, rfl⟩, ?_⟩
    show Steps p.tables e below _ ((({ U with heap := s₂.heap, slotsUsed := s₂.slotsUsed } : State).setVm s₂.vm).setTop { g with pc := g.pc + len₂, stack := v.toList ++ g.stack })
    rw [← hs₂]
    exact hsteps
  · obtain ⟨e2, q2, q3, q4, q5, q6⟩ := id hsm
    have e3 : s₂ = ({ (U.calling g mk a).setFrames s₂.frames with heap := s₂.heap, slotsUsed := s₂.slotsUsed } : State).setVm s₂.vm := by
      have : s₂ = ({ s₂ with vm := (U.calling g mk a).vm } : State).setVm s₂.vm := rfl
      rw [e2] at this
      exact this
    have hf₂ : s₂.frames = .throwing q :: .java g :: U.frames.tail := hend
    have hW' : U.WarmedH s₂.vm := hW₂
    have hs₂ : s₂ = ((({ U with heap := s₂.heap, slotsUsed := s₂.slotsUsed } : State).setVm s₂.vm).setTop g).pushFrame (.throwing q) := by
      refine e3.trans ?_
      rw [hf₂, State.calling_eq h.top, State.setFrames_setFrames, State.pushFrame, State.frames_setTop _ hr', State.setTop_of_frames _ hr', State.setFrames_setFrames, hr]
      rfl
    have hsame : U.sameButNew ({ U with heap := s₂.heap, slotsUsed := s₂.slotsUsed } : State) L mc ms := by
      refine ⟨?_, q2, q3, q4, q5, q6⟩
      obtain ⟨t, ht, -⟩ := State.frames_cons hr
      show ({ U with heap := s₂.heap, slotsUsed := s₂.slotsUsed } : State) = { U.setFrames U.frames with heap := s₂.heap, slotsUsed := s₂.slotsUsed }
      rw [State.setFrames_self ht]
    subst hg
    refine Or.inr ⟨q, ⟨(({ U with heap := s₂.heap, slotsUsed := s₂.slotsUsed } : State).setVm s₂.vm), Ls ++ L, c0 + mc, s0 + ms⟩,
      ⟨X.admits, X.cas, X.clock, X.frames, X.room, X.hears, X.method, X.code, (X.here.setHeapUsed s₂.heap s₂.slotsUsed).setVm hW'.alike, X.tail, State.WarmedH.trans X.warmed hW', X.limits, X.bytes, X.same.trans (hsame.setVm s.vm)⟩,
      ⟨g, mk, s₂, L, E, ce, rfl, rfl, hx, hce, hcv, hcl, rfl, hL, rfl, rfl⟩, ?_⟩
    show Steps p.tables e below _ (((({ U with heap := s₂.heap, slotsUsed := s₂.slotsUsed } : State).setVm s₂.vm).setTop g).pushFrame (.throwing q))
    rw [← hs₂]
    exact hsteps
end
variable {p : Program} {l : Launch} {e : Env} {R : Room} {s : State} {m : MethodId} {args : Array Value} {below : List Frame} {meth : Method} {c : Code} {T : State} {H : Heap} {locs : List Loc} {cells slots : Nat}
theorem vx_callVX (X : Stand p l e R s m args below meth c T locs cells slots) (hexec : p.tables.exec = Jvm.exec) {own C : String} {index : Nat} {y : MethodName} {bytes : ByteArray} {maxL : Nat} {ret : Option FieldType} {hh : List (Nat × Nat × Nat × Nat)}
    (hown : s.vm.findClass own = some m.cls) (hlink : (Cond.methodLink own index y).before args s = true) (hinst : (Cond.instanceMethod y).before args s = true) (hsel : (Cond.selects C y y).before args s = true)
    (hcode : (Cond.codeWith y bytes maxL ret hh).before args s = true) (hy : y.cls ≠ "java/lang/invoke/MethodHandle" ∧ y.cls ≠ "java/lang/invoke/VarHandle")
    {W9 : Nat} {Pre : Pt → Array Value → Prop} {Post : Pt → Array Value → Option Value → Pt → Prop} {PostX : Pt → Array Value → Addr → Pt → Prop} (hK : vx_Back l R p e below s args y 3 W9 Pre Post PostX)
    {b : Addr} {cellB : Cell} (hcell : T.heap[b]? = some cellB) (hobj : cellB.vm.isStatics = false) (hcls : s.vm.findClass C = some cellB.cls)
    {g : JFrame} (hg : g.method = m) (hsize : g.locals.size = c.maxLocals) {argsL rest : List Value} (hlen : ∀ sig, parseMethodDescriptor y.desc = some sig → argsL.length = sig.parameters.length)
    (hstack : g.stack = argsL.reverse ++ .ref b :: rest) (hW : 2 * g.monitorRoom + (rest.map fun v => v.category).sum ≤ W9) (hdg : decode c.code g.pc = .ok (.invokevirtual index, 3))
    (hpre : ∀ vm₁, s.WarmedH vm₁ → Pre ⟨T.setVm vm₁, locs, cells, slots⟩ (Value.ref b :: argsL).toArray) :
    (∃ (v : Option Value) (vm₁ : Vm) (B : Pt), s.WarmedH vm₁ ∧ Stand p l e R s m args below meth c B.U B.locs B.cells B.slots ∧ Post ⟨T.setVm vm₁, locs, cells, slots⟩ (Value.ref b :: argsL).toArray v B ∧
      ∀ target, Steps p.tables e below (B.U.setTop { g with pc := g.pc + 3, stack := v.toList ++ rest }) target → Steps p.tables e below (T.setTop g) target) ∨
    (∃ (q : Addr) (vm₁ : Vm) (B : Pt), s.WarmedH vm₁ ∧ Stand p l e R s m args below meth c B.U B.locs B.cells B.slots ∧ PostX ⟨T.setVm vm₁, locs, cells, slots⟩ (Value.ref b :: argsL).toArray q B ∧
      Steps p.tables e below (T.setTop g) ((B.U.setTop { g with stack := rest }).pushFrame (.throwing q))) := by
  obtain ⟨mk, methM, hnamed, hmethM, hstM, habM⟩ := Cond.instanceMethod_spec hinst
  obtain ⟨m8, methM', cM, hn8, hmethM', -, -, -, -, -, -, hsigM⟩ := Cond.codeWith_spec hcode
  cases Option.some.inj (hn8.symm.trans hnamed)
  cases hmethM.symm.trans hmethM'
  obtain ⟨c2, r2, m2, q1, q2, q3, q4, kP, hkP, hkPi⟩ := Cond.selects_spec hsel
  cases hcls.symm.trans q1
  cases (State.methodFound?_of_named hnamed hy).symm.trans q2
  cases hnamed.symm.trans q3
  have hselP : selectMethod e.platform s.vm cellB.cls mk = .method mk := by rw [Launch.admits_selectMethod X.admits]; exact q4
  obtain ⟨vm₁, X₁, hstep₁⟩ := X.invokevirtual hexec hown hlink hnamed hmethM hstM hkP hkPi hy (a := b) (cell := cellB) hcell
    (fun z h => by rw [h] at hobj; cases hobj) hselP hmethM habM hkP hkPi (g := g) hg (argsL := argsL) (rest := rest) (hlen _ hsigM) hstack hdg
  rcases hK m meth c ⟨T.setVm vm₁, locs, cells, slots⟩ { g with stack := rest } (.invokevirtual index) mk (Value.ref b :: argsL).toArray X₁ hg hsize hdg hW (X₁.named hnamed) (hpre vm₁ X₁.warmed) with ⟨v, B, X', hpost, hsteps⟩ | ⟨q, B, X', hpost, hsteps⟩
  · exact Or.inl ⟨v, vm₁, B, X₁.warmed, X', hpost, fun target h => hstep₁ _ fun acts => by rw [doInvoke_state]; exact hsteps.trans h⟩
  · exact Or.inr ⟨q, vm₁, B, X₁.warmed, X', hpost, hstep₁ _ fun acts => by rw [doInvoke_state]; exact hsteps⟩
theorem vx_callSX (X : Stand p l e R s m args below meth c T locs cells slots) (hexec : p.tables.exec = Jvm.exec) {own : String} {index : Nat} {y : MethodName} {bytes : ByteArray} {maxL : Nat} {ret : Option FieldType} {hh : List (Nat × Nat × Nat × Nat)}
    (hown : s.vm.findClass own = some m.cls) (hlink : (Cond.methodLink own index y).before args s = true) (hstat : (Cond.static y).before args s = true) (hinit : (Cond.initialized y.cls).before args s = true)
    (hcode : (Cond.codeWith y bytes maxL ret hh).before args s = true) (hy : y.cls ≠ "java/lang/invoke/MethodHandle" ∧ y.cls ≠ "java/lang/invoke/VarHandle")
    {W9 : Nat} {Pre : Pt → Array Value → Prop} {Post : Pt → Array Value → Option Value → Pt → Prop} {PostX : Pt → Array Value → Addr → Pt → Prop} (hK : vx_Back l R p e below s args y 3 W9 Pre Post PostX)
    {g : JFrame} (hg : g.method = m) (hsize : g.locals.size = c.maxLocals) {argsL rest : List Value} (hlen : ∀ sig, parseMethodDescriptor y.desc = some sig → argsL.length = sig.parameters.length)
    (hstack : g.stack = argsL.reverse ++ rest) (hW : 2 * g.monitorRoom + (rest.map fun v => v.category).sum ≤ W9) (hdg : decode c.code g.pc = .ok (.invokestatic index, 3))
    (hpre : ∀ vm₁, s.WarmedH vm₁ → Pre ⟨T.setVm vm₁, locs, cells, slots⟩ argsL.toArray) :
    (∃ (v : Option Value) (vm₁ : Vm) (B : Pt), s.WarmedH vm₁ ∧ Stand p l e R s m args below meth c B.U B.locs B.cells B.slots ∧ Post ⟨T.setVm vm₁, locs, cells, slots⟩ argsL.toArray v B ∧
      ∀ target, Steps p.tables e below (B.U.setTop { g with pc := g.pc + 3, stack := v.toList ++ rest }) target → Steps p.tables e below (T.setTop g) target) ∨
    (∃ (q : Addr) (vm₁ : Vm) (B : Pt), s.WarmedH vm₁ ∧ Stand p l e R s m args below meth c B.U B.locs B.cells B.slots ∧ PostX ⟨T.setVm vm₁, locs, cells, slots⟩ argsL.toArray q B ∧
      Steps p.tables e below (T.setTop g) ((B.U.setTop { g with stack := rest }).pushFrame (.throwing q))) := by
  obtain ⟨mk, methM, cM, hnamed, hmethM, -, -, -, -, -, -, hsigM⟩ := Cond.codeWith_spec hcode
  have hstatic : methM.isStatic = true := Cond.static_spec hnamed hmethM hstat
  obtain ⟨kP, hkP, -⟩ := className_of_methodNamed hnamed
  have hinitP : kP.init = .initialized := Cond.initialized_spec (findClass_of_methodNamed hnamed) hkP hinit
  obtain ⟨vm₁, X₁, hstep₁⟩ := X.invokestatic hexec hown hlink hnamed hmethM hstatic hkP hinitP hy (g := g) hg (argsL := argsL) (rest := rest) (hlen _ hsigM) hstack hdg
  rcases hK m meth c ⟨T.setVm vm₁, locs, cells, slots⟩ { g with stack := rest } (.invokestatic index) mk argsL.toArray X₁ hg hsize hdg hW (X₁.named hnamed) (hpre vm₁ X₁.warmed) with ⟨v, B, X', hpost, hsteps⟩ | ⟨q, B, X', hpost, hsteps⟩
  · exact Or.inl ⟨v, vm₁, B, X₁.warmed, X', hpost, fun target h => hstep₁ _ fun acts => by rw [doInvoke_state]; exact hsteps.trans h⟩
  · exact Or.inr ⟨q, vm₁, B, X₁.warmed, X', hpost, hstep₁ _ fun acts => by rw [doInvoke_state]; exact hsteps⟩
theorem vx_callVW (X : Stand p l e R s m args below meth c T locs cells slots) (hexec : p.tables.exec = Jvm.exec) {own C : String} {index : Nat} {y : MethodName} {bytes : ByteArray} {maxL : Nat} {ret : Option FieldType} {hh : List (Nat × Nat × Nat × Nat)}
    (hown : s.vm.findClass own = some m.cls) (hlink : (Cond.methodLink own index y).before args s = true) (hinst : (Cond.instanceMethod y).before args s = true) (hsel : (Cond.selects C y y).before args s = true)
    (hcode : (Cond.codeWith y bytes maxL ret hh).before args s = true) (hy : y.cls ≠ "java/lang/invoke/MethodHandle" ∧ y.cls ≠ "java/lang/invoke/VarHandle")
    {W9 : Nat} {Pre : Pt → Array Value → Prop} {Post : Pt → Array Value → Option Value → Pt → Prop} (hK : Back l R p e below s args y 3 W9 Pre Post)
    {b : Addr} {cellB : Cell} (hcell : T.heap[b]? = some cellB) (hobj : cellB.vm.isStatics = false) (hcls : s.vm.findClass C = some cellB.cls)
    {g : JFrame} (hg : g.method = m) (hsize : g.locals.size = c.maxLocals) {argsL rest : List Value} (hlen : ∀ sig, parseMethodDescriptor y.desc = some sig → argsL.length = sig.parameters.length)
    (hstack : g.stack = argsL.reverse ++ .ref b :: rest) (hW : 2 * g.monitorRoom + (rest.map fun v => v.category).sum ≤ W9) (hdg : decode c.code g.pc = .ok (.invokevirtual index, 3))
    (hpre : ∀ vm₁, s.WarmedH vm₁ → Pre ⟨T.setVm vm₁, locs, cells, slots⟩ (Value.ref b :: argsL).toArray) :
    ∃ (v : Option Value) (vm₁ : Vm) (B : Pt), s.WarmedH vm₁ ∧ Stand p l e R s m args below meth c B.U B.locs B.cells B.slots ∧ Post ⟨T.setVm vm₁, locs, cells, slots⟩ (Value.ref b :: argsL).toArray v B ∧
      ∀ target, Steps p.tables e below (B.U.setTop { g with pc := g.pc + 3, stack := v.toList ++ rest }) target → Steps p.tables e below (T.setTop g) target := by
  obtain ⟨mk, methM, hnamed, hmethM, hstM, habM⟩ := Cond.instanceMethod_spec hinst
  obtain ⟨m8, methM', cM, hn8, hmethM', -, -, -, -, -, -, hsigM⟩ := Cond.codeWith_spec hcode
  cases Option.some.inj (hn8.symm.trans hnamed)
  cases hmethM.symm.trans hmethM'
  obtain ⟨c2, r2, m2, q1, q2, q3, q4, kP, hkP, hkPi⟩ := Cond.selects_spec hsel
  cases hcls.symm.trans q1
  cases (State.methodFound?_of_named hnamed hy).symm.trans q2
  cases hnamed.symm.trans q3
  have hselP : selectMethod e.platform s.vm cellB.cls mk = .method mk := by rw [Launch.admits_selectMethod X.admits]; exact q4
  obtain ⟨vm₁, X₁, hstep₁⟩ := X.invokevirtual hexec hown hlink hnamed hmethM hstM hkP hkPi hy (a := b) (cell := cellB) hcell
    (fun z h => by rw [h] at hobj; cases hobj) hselP hmethM habM hkP hkPi (g := g) hg (argsL := argsL) (rest := rest) (hlen _ hsigM) hstack hdg
  obtain ⟨v, B, X', hpost, hsteps⟩ := hK m meth c ⟨T.setVm vm₁, locs, cells, slots⟩ { g with stack := rest } (.invokevirtual index) mk (Value.ref b :: argsL).toArray X₁ hg hsize hdg hW (X₁.named hnamed) (hpre vm₁ X₁.warmed)
  exact ⟨v, vm₁, B, X₁.warmed, X', hpost, fun target h => hstep₁ _ fun acts => by rw [doInvoke_state]; exact hsteps.trans h⟩
abbrev vx_CVW (R : Room) (s : State) (args : Array Value) (own C : String) (index : Nat) (y : MethodName) (bytes : ByteArray) (maxL : Nat) (ret : Option FieldType) (hh : List (Nat × Nat × Nat × Nat)) (ws : List Cond) (rm : Room) (mc ms n : Nat) : Prop :=
  (rm.cells = mc ∧ rm.slots = ms ∧ rm.frames + 1 ≤ R.frames ∧ 8 + (maxL + 11) + rm.locals ≤ R.locals ∧ (∀ w ∈ ws, ∀ (a' : Array Value) (U : State), s.WarmedH U.vm → w.before a' U = true) ∧ Cond.codeWith y bytes maxL ret hh ∈ ws) ∧
  (Cond.codeWith y bytes maxL ret hh).before args s = true ∧ (Cond.initialized y.cls).before args s = true ∧ (y.cls ≠ "java/lang/invoke/MethodHandle" ∧ y.cls ≠ "java/lang/invoke/VarHandle") ∧
  (∀ sig, parseMethodDescriptor y.desc = some sig → n = sig.parameters.length) ∧ (Cond.methodLink own index y).before args s = true ∧ (Cond.instanceMethod y).before args s = true ∧ (Cond.selects C y y).before args s = true
theorem vx_cwVW {own C : String} {index maxL mc ms : Nat} {y : MethodName} {bytes : ByteArray} {ret : Option FieldType} {hh : List (Nat × Nat × Nat × Nat)} {Ts ws ws' : List Cond} {rm : Room} (n : Nat) (ht : ∀ w ∈ Ts, w.before args s = true) (hT : GoodIn Ts (wsV own index C y ws)) (hw : ws = Cond.codeWith y bytes maxL ret hh :: ws') (hrc : rm.cells = mc) (hrs : rm.slots = ms)
    (hd : y.cls = C ∧ y.cls ≠ "java/lang/invoke/MethodHandle" ∧ y.cls ≠ "java/lang/invoke/VarHandle" ∧ (parseMethodDescriptor y.desc).map (fun d => d.parameters.length) = some n) (hR : rm.frames + 1 ≤ R.frames ∧ 8 + (maxL + 11) + rm.locals ≤ R.locals) :
    vx_CVW R s args own C index y bytes maxL ret hh ws rm mc ms n := by
  obtain ⟨hC, hd⟩ := hd
  subst hC
  have ok : ∀ w ∈ wsV own index y.cls y ws, w.before args s = true := fun w h => ht w (hT w h).1
  have hG : GoodIn Ts ws := fun w h => hT w (by unfold wsV; exact List.mem_append_right _ h)
  have hc : Cond.codeWith y bytes maxL ret hh ∈ ws := by rw [hw]; exact List.mem_cons_self
  refine ⟨⟨hrc, hrs, hR.1, hR.2, pay_in ht hG, hc⟩, ht _ (hG _ hc).1, ok _ (by simp [wsV]), ⟨hd.1, hd.2.1⟩, fun sig h => ?_, ok _ (by simp [wsV]), ok _ (by simp [wsV]), ok _ (by simp [wsV])⟩
  have h2 := hd.2.2
  rw [h] at h2
  exact (Option.some.inj h2).symm
theorem vx_runVW {y : MethodName} {bytes cc : ByteArray} {maxL nL mc ms n index : Nat} {ret : Option FieldType} {hh : List (Nat × Nat × Nat × Nat)} {ws : List Cond} {rm : Room} {Pc : Array Value → State → Prop} {Qc : Array Value → State → Outcome → State → Prop} {free : Addr → Prop} {Ts : List Cond} {own C : String} {b : Addr} {As rest : List Value} {g : JFrame}
    (S : CallFix p m c cc nL s args Ts own) (hM : Met l y ws rm Pc Qc mc ms free) (cw : vx_CVW R s args own C index y bytes maxL ret hh ws rm mc ms n) (hp : PreV s H C b Pc As)
    (hg : g.method = m) (hn : As.length = n) (hsize : g.locals.size = nL) (hstack : g.stack = As.reverse ++ .ref b :: rest) (hW : 2 * g.monitorRoom + (rest.map fun v => v.category).sum ≤ 8) (hdg : decode cc g.pc = .ok (.invokevirtual index, 3)) (hf : cells + mc ≤ R.cells ∧ slots + ms ≤ R.slots) :
    va_Run p l e R s m args below meth c H locs cells slots mc ms g rest (Qc (Value.ref b :: As).toArray) free := by
  obtain ⟨⟨hrc, hrs, hfr, hlo, hws, hcw⟩, hcode, hini, hy, hlen, hl, hin, hse⟩ := cw
  have hK : Back l R p e below s args y 3 8 (PreOf R mc ms Pc) (PostOf Qc mc ms free) := va_backW (hh := hh) (bytes := bytes) (maxL := maxL) (ret := ret) hM hp.1 hrc hrs hfr hlo hws hcw (fun a' U hW => word_at hW (Or.inl (by first | rfl | simp [Cond.onTables, Cond.keeps, Cond.steady])) hini)
  obtain ⟨hx, hb, hml, ho, -⟩ := S
  obtain ⟨-, ⟨cellB, hcB, hoB, hclB⟩, hPc⟩ := hp
  intro T hT X
  obtain ⟨v, vm₁, ⟨U', l2, c2, s2⟩, hW₁, X', ⟨g', mk, t, L, e1, e2, hq, h1, hL, h2, h3⟩, st⟩ := vx_callVW X hx (C := C) (hh := hh) (bytes := bytes) (maxL := maxL) (ret := ret) ho hl hin hse hcode hy hK (by rw [hT]; exact hcB) hoB hclB hg (hsize.trans hml.symm) (argsL := As) (rest := rest) (fun sig h => hn.trans (hlen sig h)) hstack hW (by rw [hb]; exact hdg)
    (fun vm₁ hW₁ => ⟨hf.1, hf.2, hPc (T.setVm vm₁) hT hW₁⟩)
  dsimp only [Pt.U, Pt.locs, Pt.cells, Pt.slots] at X' e1 e2 h1 h2 h3 st
  subst h1; subst h2; subst h3
  exact ⟨v, (T.setVm vm₁).calling g' mk (Value.ref b :: As).toArray, t, U', L, hT, X', hL, e1, e2, hq, st⟩
section
variable {y : MethodName} {bytes cc : ByteArray} {maxL nL mc ms n index : Nat} {ret : Option FieldType} {ws : List Cond} {rm : Room} {Pc : Array Value → State → Prop} {Qc : Array Value → State → Outcome → State → Prop} {XC : String → State → State → Prop} {free : Addr → Prop} {Ts : List Cond} {own C : String} {b : Addr} {As rest : List Value} {g : JFrame}
theorem vx_runVX {hh : List (Nat × Nat × Nat × Nat)} (S : CallFix p m c cc nL s args Ts own) (hM : vx_Met l y ws rm Pc Qc XC mc ms free) (cw : vx_CVW R s args own C index y bytes maxL ret hh ws rm mc ms n) (hp : PreV s H C b Pc As)
    (hg : g.method = m) (hn : As.length = n) (hsize : g.locals.size = nL) (hstack : g.stack = As.reverse ++ .ref b :: rest) (hW : 2 * g.monitorRoom + (rest.map fun v => v.category).sum ≤ 8) (hdg : decode cc g.pc = .ok (.invokevirtual index, 3)) (hf : cells + mc ≤ R.cells ∧ slots + ms ≤ R.slots) :
    vx_Run p l e R s m args below meth c H locs cells slots mc ms g rest (Qc (Value.ref b :: As).toArray) XC free := by
  obtain ⟨⟨hrc, hrs, hfr, hlo, hws, hcw⟩, hcode, hini, hy, hlen, hl, hin, hse⟩ := cw
  have hK : vx_Back l R p e below s args y 3 8 (PreOf R mc ms Pc) (PostOf Qc mc ms free) (vx_Post XC mc ms free) := vx_backW (hh := hh) (bytes := bytes) (maxL := maxL) (ret := ret) hM hp.1 hrc hrs hfr hlo hws hcw (fun a' U hW => word_at hW (Or.inl (by first | rfl | simp [Cond.onTables, Cond.keeps, Cond.steady])) hini)
  obtain ⟨hx, hb, hml, ho, -⟩ := S
  obtain ⟨-, ⟨cellB, hcB, hoB, hclB⟩, hPc⟩ := hp
  intro T hT X
  rcases vx_callVX X hx (C := C) (hh := hh) (bytes := bytes) (maxL := maxL) (ret := ret) ho hl hin hse hcode hy hK (by rw [hT]; exact hcB) hoB hclB hg (hsize.trans hml.symm) (argsL := As) (rest := rest) (fun sig h => hn.trans (hlen sig h)) hstack hW (by rw [hb]; exact hdg)
    (fun vm₁ hW₁ => ⟨hf.1, hf.2, hPc (T.setVm vm₁) hT hW₁⟩) with ⟨v, vm₁, ⟨U', l2, c2, s2⟩, hW₁, X', ⟨g', mk, t, L, e1, e2, hq, h1, hL, h2, h3⟩, st⟩ | ⟨q, vm₁, ⟨U', l2, c2, s2⟩, hW₁, X', ⟨g', mk, t, L, E, ce, e1, e2, hq, hce, hcv, hcl, h1, hL, h2, h3⟩, st⟩
  · dsimp only [Pt.U, Pt.locs, Pt.cells, Pt.slots] at X' e1 e2 h1 h2 h3 st
    subst h1; subst h2; subst h3
    exact Or.inl ⟨v, (T.setVm vm₁).calling g' mk (Value.ref b :: As).toArray, t, U', L, hT, X', hL, e1, e2, hq, st⟩
  · dsimp only [Pt.U, Pt.locs, Pt.cells, Pt.slots] at X' e1 e2 h1 h2 h3 st hcl
    subst h1; subst h2; subst h3
    exact Or.inr ⟨q, (T.setVm vm₁).calling g' mk (Value.ref b :: As).toArray, t, U', L, E, ce, hT, X', hL, e1, e2, hq, hce, hcv, vx_cls hW₁ hcl, st⟩
theorem vx_runSX {hh : List (Nat × Nat × Nat × Nat)} (S : CallFix p m c cc nL s args Ts own) (hM : vx_Met l y ws rm Pc Qc XC mc ms free) (cw : vx_CSW R s args own index y bytes maxL ret hh ws rm mc ms n) (hp : PreS s H Pc As)
    (hg : g.method = m) (hn : As.length = n) (hsize : g.locals.size = nL) (hstack : g.stack = As.reverse ++ rest) (hW : 2 * g.monitorRoom + (rest.map fun v => v.category).sum ≤ 8) (hdg : decode cc g.pc = .ok (.invokestatic index, 3)) (hf : cells + mc ≤ R.cells ∧ slots + ms ≤ R.slots) :
    vx_Run p l e R s m args below meth c H locs cells slots mc ms g rest (Qc As.toArray) XC free := by
  obtain ⟨⟨hrc, hrs, hfr, hlo, hws, hcw⟩, hcode, hini, hy, hlen, hl, hstt⟩ := cw
  have hK : vx_Back l R p e below s args y 3 8 (PreOf R mc ms Pc) (PostOf Qc mc ms free) (vx_Post XC mc ms free) := vx_backW (hh := hh) (bytes := bytes) (maxL := maxL) (ret := ret) hM hp.1 hrc hrs hfr hlo hws hcw (fun a' U hW => word_at hW (Or.inl (by first | rfl | simp [Cond.onTables, Cond.keeps, Cond.steady])) hini)
  obtain ⟨hx, hb, hml, ho, -⟩ := S
  intro T hT X
  rcases vx_callSX X hx (hh := hh) (bytes := bytes) (maxL := maxL) (ret := ret) ho hl hstt hini hcode hy hK hg (hsize.trans hml.symm) (argsL := As) (rest := rest) (fun sig h => hn.trans (hlen sig h)) hstack hW (by rw [hb]; exact hdg)
    (fun vm₁ hW₁ => ⟨hf.1, hf.2, hp.2 (T.setVm vm₁) hT hW₁⟩) with ⟨v, vm₁, ⟨U', l2, c2, s2⟩, hW₁, X', ⟨g', mk, t, L, e1, e2, hq, h1, hL, h2, h3⟩, st⟩ | ⟨q, vm₁, ⟨U', l2, c2, s2⟩, hW₁, X', ⟨g', mk, t, L, E, ce, e1, e2, hq, hce, hcv, hcl, h1, hL, h2, h3⟩, st⟩
  · dsimp only [Pt.U, Pt.locs, Pt.cells, Pt.slots] at X' e1 e2 h1 h2 h3 st
    subst h1; subst h2; subst h3
    exact Or.inl ⟨v, (T.setVm vm₁).calling g' mk As.toArray, t, U', L, hT, X', hL, e1, e2, hq, st⟩
  · dsimp only [Pt.U, Pt.locs, Pt.cells, Pt.slots] at X' e1 e2 h1 h2 h3 st hcl
    subst h1; subst h2; subst h3
    exact Or.inr ⟨q, (T.setVm vm₁).calling g' mk As.toArray, t, U', L, E, ce, hT, X', hL, e1, e2, hq, hce, hcv, vx_cls hW₁ hcl, st⟩
end
end VXH
theorem vx_ofWH {l : Launch} {y : MethodName} {ws ws' : List Cond} {rm : Room} {Pc : Array Value → State → Prop} {Qc : Array Value → State → Outcome → State → Prop} {XC : String → State → State → Prop} {mc ms : Nat} {free : Addr → Prop} {cc : ByteArray} {maxL : Nat} {ret : Option FieldType} {hh : List (Nat × Nat × Nat × Nat)}
    (hy : plainName y.cls = true) (hw : ws = Cond.codeWith y cc maxL ret hh :: ws')
    (body : ∀ p e s m args below meth c s₁, BodyLoose p l y (headSpec ws rm) cc maxL ret e s m args below meth c s₁ → c.maxLocals = maxL → Pc args s →
      W p l e (headSpec ws rm).room s m args below meth c s.heap [] 0 0 (vx_MQ below Qc XC args s mc ms free) (entryFrame m args maxL)) : vx_Met l y ws rm Pc Qc XC mc ms free := by
  refine MetFree.of_bodyS (code := cc) (maxLocals := maxL) (ret := ret) hy ?_ ?_
  · intro args s m h hn
    obtain ⟨m9, meth, c, hn9, h1, h2, h3, h4, -, h5, h6, -⟩ := Cond.codeWith_spec (atoms_spec (ws := ws) h _ (by rw [hw]; exact List.mem_cons_self))
    cases hn.symm.trans hn9
    exact ⟨meth, c, h1, h2, h3, h4, h5, h6⟩
  · intro p e s m args below meth c s₁ B hml hP _
    have hh0 : s₁.heap = s.heap := by rw [B.state]; rfl
    obtain ⟨t, a1, o, b1, b2, b3⟩ := body p e s m args below meth c s₁ B hml hP s₁ hh0 (Stand.of_body B)
    exact ⟨t, o, a1, b1, b2, b3⟩
/-! ===== END ===== -/

def RX0 : String := "Slugwire$Fact"
def TX0 : u_T := fun k => match k with
  | 0 => ("Slugwire$Fact", "said", "[I", true)
  | 1 => ("Slugwire$Fact", "truth", "I", false)
  | 2 => ("Slugwire$Fact", "truthForce", "I", false)
  | 3 => ("Slugwire$Fact", "heard", "I", false)
  | _ => ("Slugwire$Fact", "rivalAt", "I", false)
def tyX0 : Nat → FieldType := fun k => match k with
  | 0 => .array .int
  | 1 => .int
  | 2 => .int
  | 3 => .int
  | _ => .int
abbrev wsX00 : List Cond := u_ws RX0 TX0 5
theorem nmX0 : ∀ a, a < 5 → ∀ b, b < 5 → a ≠ b → (TX0 a).2.1 ≠ (TX0 b).2.1 := by decide +kernel
theorem tyX0_ok : ∀ k, k < 5 → parseFieldDescriptor (TX0 k).2.2.1 = some (tyX0 k) := by decide +kernel
abbrev cX0_init : ByteArray := prog_2_method_1_code
def yX0_init : MethodName := ⟨RX0, "<init>", "()V"⟩
abbrev cX0_settle : ByteArray := prog_2_method_2_code
def yX0_settle : MethodName := ⟨RX0, "settle", "(LSlugwire$Sources;LSlugwire$Tally;)V"⟩
abbrev cX0_strongest : ByteArray := prog_2_method_3_code
def yX0_strongest : MethodName := ⟨RX0, "strongest", "(LSlugwire$Sources;LSlugwire$Tally;ZI)I"⟩
abbrev cX0_valueToFile : ByteArray := prog_2_method_4_code
def yX0_valueToFile : MethodName := ⟨RX0, "valueToFile", "(Z)I"⟩
abbrev cX0_countSayers : ByteArray := prog_2_method_5_code
def yX0_countSayers : MethodName := ⟨RX0, "countSayers", "()I"⟩
abbrev cX0_countValues : ByteArray := prog_2_method_6_code
def yX0_countValues : MethodName := ⟨RX0, "countValues", "()I"⟩
abbrev cX0_isSaidAhead : ByteArray := prog_2_method_7_code
def yX0_isSaidAhead : MethodName := ⟨RX0, "isSaidAhead", "(I)Z"⟩
def RX1 : String := "Slugwire$Line"
def TX1 : u_T := fun k => match k with
  | 0 => ("Slugwire$Line", "left", "[I", true)
  | 1 => ("Slugwire$Line", "kindOf", "[I", true)
  | 2 => ("Slugwire$Line", "holdOf", "[I", true)
  | 3 => ("Slugwire$Line", "sentAt", "[I", true)
  | 4 => ("Slugwire$Line", "speed", "I", false)
  | 5 => ("Slugwire$Line", "lag", "I", false)
  | 6 => ("Slugwire$Line", "downFor", "I", false)
  | 7 => ("Slugwire$Line", "wordsSent", "I", false)
  | _ => ("Slugwire$Line", "end", "I", false)
def tyX1 : Nat → FieldType := fun k => match k with
  | 0 => .array .int
  | 1 => .array .int
  | 2 => .array .int
  | 3 => .array .int
  | 4 => .int
  | 5 => .int
  | 6 => .int
  | 7 => .int
  | _ => .int
abbrev wsX10 : List Cond := u_ws RX1 TX1 9
theorem nmX1 : ∀ a, a < 9 → ∀ b, b < 9 → a ≠ b → (TX1 a).2.1 ≠ (TX1 b).2.1 := by decide +kernel
theorem tyX1_ok : ∀ k, k < 9 → parseFieldDescriptor (TX1 k).2.2.1 = some (tyX1 k) := by decide +kernel
abbrev cX1_init : ByteArray := prog_3_method_1_code
def yX1_init : MethodName := ⟨RX1, "<init>", "()V"⟩
abbrev cX1_copyFrom : ByteArray := prog_3_method_2_code
def yX1_copyFrom : MethodName := ⟨RX1, "copyFrom", "(LSlugwire$Line;)V"⟩
abbrev cX1_start : ByteArray := prog_3_method_3_code
def yX1_start : MethodName := ⟨RX1, "start", "(ILSlugwire$Take;)V"⟩
abbrev cX1_enqueue : ByteArray := prog_3_method_4_code
def yX1_enqueue : MethodName := ⟨RX1, "enqueue", "(IIII)V"⟩
abbrev cX1_stop : ByteArray := prog_3_method_5_code
def yX1_stop : MethodName := ⟨RX1, "stop", "(I)V"⟩
abbrev cX1_isRunning : ByteArray := prog_3_method_6_code
def yX1_isRunning : MethodName := ⟨RX1, "isRunning", "(I)Z"⟩
abbrev cX1_isSent : ByteArray := prog_3_method_7_code
def yX1_isSent : MethodName := ⟨RX1, "isSent", "(I)Z"⟩
abbrev cX1_hasAtDesk : ByteArray := prog_3_method_8_code
def yX1_hasAtDesk : MethodName := ⟨RX1, "hasAtDesk", "(II)Z"⟩
abbrev cX1_runMinute : ByteArray := prog_3_method_9_code
def yX1_runMinute : MethodName := ⟨RX1, "runMinute", "(I)I"⟩
abbrev cX1_mostUrgent : ByteArray := prog_3_method_10_code
def yX1_mostUrgent : MethodName := ⟨RX1, "mostUrgent", "(I)I"⟩
abbrev cX1_runUntilHad : ByteArray := prog_3_method_11_code
def yX1_runUntilHad : MethodName := ⟨RX1, "runUntilHad", "(II)I"⟩
abbrev cX1_countWaiting : ByteArray := prog_3_method_12_code
def yX1_countWaiting : MethodName := ⟨RX1, "countWaiting", "()I"⟩
abbrev cX1_countWordsLeft : ByteArray := prog_3_method_13_code
def yX1_countWordsLeft : MethodName := ⟨RX1, "countWordsLeft", "()I"⟩
def RX2 : String := "Slugwire$Sources"
def TX2 : u_T := fun k => match k with
  | 0 => ("Slugwire$Sources", "weight", "[I", true)
  | 1 => ("Slugwire$Sources", "root", "[I", true)
  | _ => ("Slugwire$Sources", "count", "I", false)
def tyX2 : Nat → FieldType := fun k => match k with
  | 0 => .array .int
  | 1 => .array .int
  | _ => .int
abbrev wsX20 : List Cond := u_ws RX2 TX2 3
theorem nmX2 : ∀ a, a < 3 → ∀ b, b < 3 → a ≠ b → (TX2 a).2.1 ≠ (TX2 b).2.1 := by decide +kernel
theorem tyX2_ok : ∀ k, k < 3 → parseFieldDescriptor (TX2 k).2.2.1 = some (tyX2 k) := by decide +kernel
abbrev cX2_init : ByteArray := prog_4_method_1_code
def yX2_init : MethodName := ⟨RX2, "<init>", "()V"⟩
abbrev cX2_add : ByteArray := prog_4_method_2_code
def yX2_add : MethodName := ⟨RX2, "add", "(II)I"⟩
def RX3 : String := "Slugwire$Take"
def TX3 : u_T := fun k => match k with
  | 0 => ("Slugwire$Take", "values", "[I", true)
  | 1 => ("Slugwire$Take", "story", "I", false)
  | 2 => ("Slugwire$Take", "kind", "I", false)
  | 3 => ("Slugwire$Take", "factSet", "I", false)
  | 4 => ("Slugwire$Take", "words", "I", false)
  | 5 => ("Slugwire$Take", "hold", "I", false)
  | 6 => ("Slugwire$Take", "isGuarded", "Z", false)
  | 7 => ("Slugwire$Take", "target", "I", false)
  | 8 => ("Slugwire$Take", "killedBy", "I", false)
  | _ => ("Slugwire$Take", "filedAt", "I", false)
def tyX3 : Nat → FieldType := fun k => match k with
  | 0 => .array .int
  | 1 => .int
  | 2 => .int
  | 3 => .int
  | 4 => .int
  | 5 => .int
  | 6 => .boolean
  | 7 => .int
  | 8 => .int
  | _ => .int
abbrev wsX30 : List Cond := u_ws RX3 TX3 10
theorem nmX3 : ∀ a, a < 10 → ∀ b, b < 10 → a ≠ b → (TX3 a).2.1 ≠ (TX3 b).2.1 := by decide +kernel
theorem tyX3_ok : ∀ k, k < 10 → parseFieldDescriptor (TX3 k).2.2.1 = some (tyX3 k) := by decide +kernel
abbrev cX3_init : ByteArray := prog_5_method_1_code
def yX3_init : MethodName := ⟨RX3, "<init>", "()V"⟩
def RX4 : String := "Slugwire$Tally"
def TX4 : u_T := fun k => match k with
  | 0 => ("Slugwire$Tally", "strongestOfRoot", "[I", true)
  | 1 => ("Slugwire$Tally", "roots", "I", false)
  | 2 => ("Slugwire$Tally", "namedRoots", "I", false)
  | 3 => ("Slugwire$Tally", "officialRoots", "I", false)
  | _ => ("Slugwire$Tally", "force", "I", false)
def tyX4 : Nat → FieldType := fun k => match k with
  | 0 => .array .int
  | 1 => .int
  | 2 => .int
  | 3 => .int
  | _ => .int
abbrev wsX40 : List Cond := u_ws RX4 TX4 5
theorem nmX4 : ∀ a, a < 5 → ∀ b, b < 5 → a ≠ b → (TX4 a).2.1 ≠ (TX4 b).2.1 := by decide +kernel
theorem tyX4_ok : ∀ k, k < 5 → parseFieldDescriptor (TX4 k).2.2.1 = some (tyX4 k) := by decide +kernel
abbrev cX4_init : ByteArray := prog_6_method_1_code
def yX4_init : MethodName := ⟨RX4, "<init>", "()V"⟩
abbrev cX4_weigh : ByteArray := prog_6_method_2_code
def yX4_weigh : MethodName := ⟨RX4, "weigh", "(LSlugwire$Sources;[II)V"⟩
abbrev cX4_addRoot : ByteArray := prog_6_method_3_code
def yX4_addRoot : MethodName := ⟨RX4, "addRoot", "(I)V"⟩
abbrev cX4_proofGrade : ByteArray := prog_6_method_4_code
def yX4_proofGrade : MethodName := ⟨RX4, "proofGrade", "()I"⟩
def RX5 : String := "Slugwire"
def TX5 : u_T := fun k => match k with
  | 0 => ("Slugwire", "sources", "LSlugwire$Sources;", true)
  | 1 => ("Slugwire", "tally", "LSlugwire$Tally;", true)
  | 2 => ("Slugwire", "factRows", "[LSlugwire$Fact;", true)
  | 3 => ("Slugwire", "takes", "[LSlugwire$Take;", true)
  | 4 => ("Slugwire", "lines", "[LSlugwire$Line;", true)
  | 5 => ("Slugwire", "trial", "LSlugwire$Line;", true)
  | 6 => ("Slugwire", "storyCount", "I", false)
  | 7 => ("Slugwire", "takeCount", "I", false)
  | 8 => ("Slugwire", "lineCount", "I", false)
  | _ => ("Slugwire", "now", "I", false)
def tyX5 : Nat → FieldType := fun k => match k with
  | 0 => .object "Slugwire$Sources"
  | 1 => .object "Slugwire$Tally"
  | 2 => .array (.object "Slugwire$Fact")
  | 3 => .array (.object "Slugwire$Take")
  | 4 => .array (.object "Slugwire$Line")
  | 5 => .object "Slugwire$Line"
  | 6 => .int
  | 7 => .int
  | 8 => .int
  | _ => .int
abbrev wsX50 : List Cond := u_ws RX5 TX5 10
theorem nmX5 : ∀ a, a < 10 → ∀ b, b < 10 → a ≠ b → (TX5 a).2.1 ≠ (TX5 b).2.1 := by decide +kernel
theorem tyX5_ok : ∀ k, k < 10 → parseFieldDescriptor (TX5 k).2.2.1 = some (tyX5 k) := by decide +kernel
abbrev cX5_init : ByteArray := prog_1_method_1_code
def yX5_init : MethodName := ⟨RX5, "<init>", "()V"⟩
abbrev cX5_source : ByteArray := prog_1_method_2_code
def yX5_source : MethodName := ⟨RX5, "source", "(II)I"⟩
abbrev cX5_story : ByteArray := prog_1_method_3_code
def yX5_story : MethodName := ⟨RX5, "story", "()I"⟩
abbrev cX5_line : ByteArray := prog_1_method_4_code
def yX5_line : MethodName := ⟨RX5, "line", "(II)I"⟩
abbrev cX5_report : ByteArray := prog_1_method_5_code
def yX5_report : MethodName := ⟨RX5, "report", "(IIII)I"⟩
abbrev cX5_retract : ByteArray := prog_1_method_6_code
def yX5_retract : MethodName := ⟨RX5, "retract", "(III)I"⟩
abbrev cX5_rival : ByteArray := prog_1_method_7_code
def yX5_rival : MethodName := ⟨RX5, "rival", "(II)Z"⟩
abbrev cX5_down : ByteArray := prog_1_method_8_code
def yX5_down : MethodName := ⟨RX5, "down", "(II)I"⟩
abbrev cX5_file : ByteArray := prog_1_method_9_code
def yX5_file : MethodName := ⟨RX5, "file", "(IIIZI)I"⟩
abbrev cX5_correct : ByteArray := prog_1_method_10_code
def yX5_correct : MethodName := ⟨RX5, "correct", "(II)I"⟩
abbrev cX5_kill : ByteArray := prog_1_method_11_code
def yX5_kill : MethodName := ⟨RX5, "kill", "(I)I"⟩
abbrev cX5_pass : ByteArray := prog_1_method_12_code
def yX5_pass : MethodName := ⟨RX5, "pass", "(I)I"⟩
abbrev cX5_areIndependent : ByteArray := prog_1_method_13_code
def yX5_areIndependent : MethodName := ⟨RX5, "areIndependent", "(II)Z"⟩
abbrev cX5_ofFact : ByteArray := prog_1_method_14_code
def yX5_ofFact : MethodName := ⟨RX5, "ofFact", "(III)I"⟩
abbrev cX5_proof : ByteArray := prog_1_method_15_code
def yX5_proof : MethodName := ⟨RX5, "proof", "(IIIZ)I"⟩
abbrev cX5_ofTake : ByteArray := prog_1_method_16_code
def yX5_ofTake : MethodName := ⟨RX5, "ofTake", "(II)I"⟩
abbrev cX5_says : ByteArray := prog_1_method_17_code
def yX5_says : MethodName := ⟨RX5, "says", "(II)I"⟩
abbrev cX5_state : ByteArray := prog_1_method_18_code
def yX5_state : MethodName := ⟨RX5, "state", "(II)I"⟩
abbrev cX5_tells : ByteArray := prog_1_method_19_code
def yX5_tells : MethodName := ⟨RX5, "tells", "(III)I"⟩
abbrev cX5_ofLine : ByteArray := prog_1_method_20_code
def yX5_ofLine : MethodName := ⟨RX5, "ofLine", "(II)I"⟩
abbrev cX5_many : ByteArray := prog_1_method_21_code
def yX5_many : MethodName := ⟨RX5, "many", "(I)I"⟩
abbrev cX5_meanDelay : ByteArray := prog_1_method_22_code
def yX5_meanDelay : MethodName := ⟨RX5, "meanDelay", "()D"⟩
abbrev cX5_arrives : ByteArray := prog_1_method_23_code
def yX5_arrives : MethodName := ⟨RX5, "arrives", "(II)I"⟩
abbrev cX5_wouldArrive : ByteArray := prog_1_method_24_code
def yX5_wouldArrive : MethodName := ⟨RX5, "wouldArrive", "(III)I"⟩
abbrev cX5_needs : ByteArray := prog_1_method_25_code
def yX5_needs : MethodName := ⟨RX5, "needs", "(IIII)I"⟩
abbrev cX5_lead : ByteArray := prog_1_method_26_code
def yX5_lead : MethodName := ⟨RX5, "lead", "(II)I"⟩
abbrev cX5_digest : ByteArray := prog_1_method_27_code
def yX5_digest : MethodName := ⟨RX5, "digest", "()J"⟩
abbrev cX5_digestStories : ByteArray := prog_1_method_28_code
def yX5_digestStories : MethodName := ⟨RX5, "digestStories", "(J)J"⟩
abbrev cX5_digestTakes : ByteArray := prog_1_method_29_code
def yX5_digestTakes : MethodName := ⟨RX5, "digestTakes", "(J)J"⟩
abbrev cX5_digestLines : ByteArray := prog_1_method_30_code
def yX5_digestLines : MethodName := ⟨RX5, "digestLines", "(J)J"⟩
abbrev cX5_digestDesks : ByteArray := prog_1_method_31_code
def yX5_digestDesks : MethodName := ⟨RX5, "digestDesks", "(J)J"⟩
abbrev cX5_checkSource : ByteArray := prog_1_method_32_code
def yX5_checkSource : MethodName := ⟨RX5, "checkSource", "(I)V"⟩
abbrev cX5_checkStory : ByteArray := prog_1_method_33_code
def yX5_checkStory : MethodName := ⟨RX5, "checkStory", "(I)V"⟩
abbrev cX5_checkFact : ByteArray := prog_1_method_34_code
def yX5_checkFact : MethodName := ⟨RX5, "checkFact", "(II)V"⟩
abbrev cX5_checkTake : ByteArray := prog_1_method_35_code
def yX5_checkTake : MethodName := ⟨RX5, "checkTake", "(I)V"⟩
abbrev cX5_checkLine : ByteArray := prog_1_method_36_code
def yX5_checkLine : MethodName := ⟨RX5, "checkLine", "(I)V"⟩
abbrev cX5_checkValue : ByteArray := prog_1_method_37_code
def yX5_checkValue : MethodName := ⟨RX5, "checkValue", "(I)V"⟩
abbrev cX5_checkWeight : ByteArray := prog_1_method_38_code
def yX5_checkWeight : MethodName := ⟨RX5, "checkWeight", "(I)V"⟩
abbrev cX5_checkRoomForTake : ByteArray := prog_1_method_39_code
def yX5_checkRoomForTake : MethodName := ⟨RX5, "checkRoomForTake", "()V"⟩
abbrev cX5_factAt : ByteArray := prog_1_method_40_code
def yX5_factAt : MethodName := ⟨RX5, "factAt", "(II)LSlugwire$Fact;"⟩
abbrev cX5_isInSet : ByteArray := prog_1_method_41_code
def yX5_isInSet : MethodName := ⟨RX5, "isInSet", "(II)Z"⟩
abbrev cX5_hasValues : ByteArray := prog_1_method_42_code
def yX5_hasValues : MethodName := ⟨RX5, "hasValues", "(IIZ)Z"⟩
abbrev cX5_forceOf : ByteArray := prog_1_method_43_code
def yX5_forceOf : MethodName := ⟨RX5, "forceOf", "(II)I"⟩
abbrev cX5_firstHad : ByteArray := prog_1_method_44_code
def yX5_firstHad : MethodName := ⟨RX5, "firstHad", "(II)I"⟩
abbrev cX5_firstHadAnywhere : ByteArray := prog_1_method_45_code
def yX5_firstHadAnywhere : MethodName := ⟨RX5, "firstHadAnywhere", "(I)I"⟩
abbrev cX5_isFirst : ByteArray := prog_1_method_46_code
def yX5_isFirst : MethodName := ⟨RX5, "isFirst", "(II)Z"⟩
abbrev cX5_countTruths : ByteArray := prog_1_method_47_code
def yX5_countTruths : MethodName := ⟨RX5, "countTruths", "()I"⟩
abbrev cX5_countUnproven : ByteArray := prog_1_method_48_code
def yX5_countUnproven : MethodName := ⟨RX5, "countUnproven", "()I"⟩
abbrev cX5_countFirsts : ByteArray := prog_1_method_49_code
def yX5_countFirsts : MethodName := ⟨RX5, "countFirsts", "()I"⟩
abbrev cX5_wordsFor : ByteArray := prog_1_method_50_code
def yX5_wordsFor : MethodName := ⟨RX5, "wordsFor", "(II)I"⟩
abbrev cX5_addTake : ByteArray := prog_1_method_51_code
def yX5_addTake : MethodName := ⟨RX5, "addTake", "(IIIZII)I"⟩
abbrev cX5_runOnAllLines : ByteArray := prog_1_method_52_code
def yX5_runOnAllLines : MethodName := ⟨RX5, "runOnAllLines", "(I)V"⟩
abbrev cX5_countKilled : ByteArray := prog_1_method_53_code
def yX5_countKilled : MethodName := ⟨RX5, "countKilled", "()I"⟩
abbrev cX5_countCorrections : ByteArray := prog_1_method_54_code
def yX5_countCorrections : MethodName := ⟨RX5, "countCorrections", "()I"⟩
abbrev cX5_isDropped : ByteArray := prog_1_method_55_code
def yX5_isDropped : MethodName := ⟨RX5, "isDropped", "(II)Z"⟩
abbrev cX5_toldAtDesk : ByteArray := prog_1_method_56_code
def yX5_toldAtDesk : MethodName := ⟨RX5, "toldAtDesk", "(III)I"⟩
abbrev cX5_countTold : ByteArray := prog_1_method_57_code
def yX5_countTold : MethodName := ⟨RX5, "countTold", "(I)I"⟩
abbrev cX5_countWrong : ByteArray := prog_1_method_58_code
def yX5_countWrong : MethodName := ⟨RX5, "countWrong", "(I)I"⟩
abbrev cX5_countWrongAnywhere : ByteArray := prog_1_method_59_code
def yX5_countWrongAnywhere : MethodName := ⟨RX5, "countWrongAnywhere", "()I"⟩
def RX6 : String := "SlugwireModel$Fact"
def TX6 : u_T := fun k => match k with
  | 0 => ("SlugwireModel$Fact", "says", "[I", true)
  | _ => ("SlugwireModel$Fact", "rival", "I", false)
def tyX6 : Nat → FieldType := fun k => match k with
  | 0 => .array .int
  | _ => .int
abbrev wsX60 : List Cond := u_ws RX6 TX6 2
theorem nmX6 : ∀ a, a < 2 → ∀ b, b < 2 → a ≠ b → (TX6 a).2.1 ≠ (TX6 b).2.1 := by decide +kernel
theorem tyX6_ok : ∀ k, k < 2 → parseFieldDescriptor (TX6 k).2.2.1 = some (tyX6 k) := by decide +kernel
abbrev cX6_init : ByteArray := prog_9_method_1_code
def yX6_init : MethodName := ⟨RX6, "<init>", "()V"⟩
def RX7 : String := "SlugwireModel$Line"
def TX7 : u_T := fun k => match k with
  | 0 => ("SlugwireModel$Line", "speed", "I", true)
  | 1 => ("SlugwireModel$Line", "lag", "I", true)
  | 2 => ("SlugwireModel$Line", "down", "I", false)
  | 3 => ("SlugwireModel$Line", "sent", "I", false)
  | 4 => ("SlugwireModel$Line", "runs", "[Z", true)
  | 5 => ("SlugwireModel$Line", "left", "[I", true)
  | _ => ("SlugwireModel$Line", "sentAt", "[I", true)
def tyX7 : Nat → FieldType := fun k => match k with
  | 0 => .int
  | 1 => .int
  | 2 => .int
  | 3 => .int
  | 4 => .array .boolean
  | 5 => .array .int
  | _ => .array .int
abbrev wsX70 : List Cond := u_ws RX7 TX7 7
theorem nmX7 : ∀ a, a < 7 → ∀ b, b < 7 → a ≠ b → (TX7 a).2.1 ≠ (TX7 b).2.1 := by decide +kernel
theorem tyX7_ok : ∀ k, k < 7 → parseFieldDescriptor (TX7 k).2.2.1 = some (tyX7 k) := by decide +kernel
abbrev cX7_init : ByteArray := prog_10_method_1_code
def yX7_init : MethodName := ⟨RX7, "<init>", "(II)V"⟩
abbrev cX7_copy : ByteArray := prog_10_method_2_code
def yX7_copy : MethodName := ⟨RX7, "copy", "()LSlugwireModel$Line;"⟩
abbrev cX7_run : ByteArray := prog_10_method_3_code
def yX7_run : MethodName := ⟨RX7, "run", "(II)V"⟩
abbrev cX7_isWaiting : ByteArray := prog_10_method_4_code
def yX7_isWaiting : MethodName := ⟨RX7, "isWaiting", "(I)Z"⟩
abbrev cX7_next : ByteArray := prog_10_method_5_code
def yX7_next : MethodName := ⟨RX7, "next", "(Ljava/util/ArrayList;I)I"⟩
abbrev cX7_minute : ByteArray := prog_10_method_6_code
def yX7_minute : MethodName := ⟨RX7, "minute", "(Ljava/util/ArrayList;I)I"⟩
abbrev cX7_hasIt : ByteArray := prog_10_method_7_code
def yX7_hasIt : MethodName := ⟨RX7, "hasIt", "(II)Z"⟩
def RX8 : String := "SlugwireModel$Source"
def TX8 : u_T := fun k => match k with
  | 0 => ("SlugwireModel$Source", "weight", "I", true)
  | 1 => ("SlugwireModel$Source", "of", "I", true)
  | _ => ("SlugwireModel$Source", "root", "I", true)
def tyX8 : Nat → FieldType := fun k => match k with
  | 0 => .int
  | 1 => .int
  | _ => .int
abbrev wsX80 : List Cond := u_ws RX8 TX8 3
theorem nmX8 : ∀ a, a < 3 → ∀ b, b < 3 → a ≠ b → (TX8 a).2.1 ≠ (TX8 b).2.1 := by decide +kernel
theorem tyX8_ok : ∀ k, k < 3 → parseFieldDescriptor (TX8 k).2.2.1 = some (tyX8 k) := by decide +kernel
abbrev cX8_init : ByteArray := prog_11_method_1_code
def yX8_init : MethodName := ⟨RX8, "<init>", "(III)V"⟩
def RX9 : String := "SlugwireModel$Take"
def TX9 : u_T := fun k => match k with
  | 0 => ("SlugwireModel$Take", "story", "I", true)
  | 1 => ("SlugwireModel$Take", "kind", "I", true)
  | 2 => ("SlugwireModel$Take", "facts", "I", true)
  | 3 => ("SlugwireModel$Take", "values", "[I", true)
  | 4 => ("SlugwireModel$Take", "isGuarded", "Z", true)
  | 5 => ("SlugwireModel$Take", "words", "I", true)
  | 6 => ("SlugwireModel$Take", "hold", "I", true)
  | 7 => ("SlugwireModel$Take", "of", "I", true)
  | 8 => ("SlugwireModel$Take", "filed", "I", true)
  | _ => ("SlugwireModel$Take", "isKilled", "Z", false)
def tyX9 : Nat → FieldType := fun k => match k with
  | 0 => .int
  | 1 => .int
  | 2 => .int
  | 3 => .array .int
  | 4 => .boolean
  | 5 => .int
  | 6 => .int
  | 7 => .int
  | 8 => .int
  | _ => .boolean
abbrev wsX90 : List Cond := u_ws RX9 TX9 10
theorem nmX9 : ∀ a, a < 10 → ∀ b, b < 10 → a ≠ b → (TX9 a).2.1 ≠ (TX9 b).2.1 := by decide +kernel
theorem tyX9_ok : ∀ k, k < 10 → parseFieldDescriptor (TX9 k).2.2.1 = some (tyX9 k) := by decide +kernel
abbrev cX9_init : ByteArray := prog_12_method_1_code
def yX9_init : MethodName := ⟨RX9, "<init>", "(IIIZIIII)V"⟩
def RX10 : String := "SlugwireModel"
def TX10 : u_T := fun k => match k with
  | 0 => ("SlugwireModel", "thrown", "I", false)
  | 1 => ("SlugwireModel", "now", "I", false)
  | 2 => ("SlugwireModel", "sources", "Ljava/util/ArrayList;", true)
  | 3 => ("SlugwireModel", "stories", "Ljava/util/ArrayList;", true)
  | 4 => ("SlugwireModel", "takes", "Ljava/util/ArrayList;", true)
  | _ => ("SlugwireModel", "lines", "Ljava/util/ArrayList;", true)
def tyX10 : Nat → FieldType := fun k => match k with
  | 0 => .int
  | 1 => .int
  | 2 => .object "java/util/ArrayList"
  | 3 => .object "java/util/ArrayList"
  | 4 => .object "java/util/ArrayList"
  | _ => .object "java/util/ArrayList"
abbrev wsX100 : List Cond := u_ws RX10 TX10 6
theorem nmX10 : ∀ a, a < 6 → ∀ b, b < 6 → a ≠ b → (TX10 a).2.1 ≠ (TX10 b).2.1 := by decide +kernel
theorem tyX10_ok : ∀ k, k < 6 → parseFieldDescriptor (TX10 k).2.2.1 = some (tyX10 k) := by decide +kernel
abbrev cX10_isIn : ByteArray := prog_8_method_1_code
def yX10_isIn : MethodName := ⟨RX10, "isIn", "(III)Z"⟩
abbrev cX10_has : ByteArray := prog_8_method_2_code
def yX10_has : MethodName := ⟨RX10, "has", "(II)Z"⟩
abbrev cX10_init : ByteArray := prog_8_method_3_code
def yX10_init : MethodName := ⟨RX10, "<init>", "()V"⟩
abbrev cX10_thrown : ByteArray := prog_8_method_4_code
def yX10_thrown : MethodName := ⟨RX10, "thrown", "()I"⟩
abbrev cX10_refuse : ByteArray := prog_8_method_5_code
def yX10_refuse : MethodName := ⟨RX10, "refuse", "(ZI)Z"⟩
abbrev cX10_start : ByteArray := prog_8_method_6_code
def yX10_start : MethodName := ⟨RX10, "start", "(ZI)Z"⟩
abbrev cX10_isNoSource : ByteArray := prog_8_method_7_code
def yX10_isNoSource : MethodName := ⟨RX10, "isNoSource", "(I)Z"⟩
abbrev cX10_isNoStory : ByteArray := prog_8_method_8_code
def yX10_isNoStory : MethodName := ⟨RX10, "isNoStory", "(I)Z"⟩
abbrev cX10_isNoFact : ByteArray := prog_8_method_9_code
def yX10_isNoFact : MethodName := ⟨RX10, "isNoFact", "(II)Z"⟩
abbrev cX10_isNoLine : ByteArray := prog_8_method_10_code
def yX10_isNoLine : MethodName := ⟨RX10, "isNoLine", "(I)Z"⟩
abbrev cX10_isNoTake : ByteArray := prog_8_method_11_code
def yX10_isNoTake : MethodName := ⟨RX10, "isNoTake", "(I)Z"⟩
abbrev cX10_fact : ByteArray := prog_8_method_12_code
def yX10_fact : MethodName := ⟨RX10, "fact", "(II)LSlugwireModel$Fact;"⟩
abbrev cX10_roots : ByteArray := prog_8_method_13_code
def yX10_roots : MethodName := ⟨RX10, "roots", "(LSlugwireModel$Fact;II)I"⟩
abbrev cX10_force : ByteArray := prog_8_method_14_code
def yX10_force : MethodName := ⟨RX10, "force", "(LSlugwireModel$Fact;I)I"⟩
abbrev cX10_proof : ByteArray := prog_8_method_15_code
def yX10_proof : MethodName := ⟨RX10, "proof", "(LSlugwireModel$Fact;I)I"⟩
abbrev cX10_strongest : ByteArray := prog_8_method_16_code
def yX10_strongest : MethodName := ⟨RX10, "strongest", "(LSlugwireModel$Fact;Z)I"⟩
abbrev cX10_isSaid : ByteArray := prog_8_method_17_code
def yX10_isSaid : MethodName := ⟨RX10, "isSaid", "(LSlugwireModel$Fact;I)Z"⟩
abbrev cX10_truth : ByteArray := prog_8_method_18_code
def yX10_truth : MethodName := ⟨RX10, "truth", "(LSlugwireModel$Fact;)I"⟩
abbrev cX10_heard : ByteArray := prog_8_method_19_code
def yX10_heard : MethodName := ⟨RX10, "heard", "(LSlugwireModel$Fact;)I"⟩
abbrev cX10_saying : ByteArray := prog_8_method_20_code
def yX10_saying : MethodName := ⟨RX10, "saying", "(LSlugwireModel$Fact;)I"⟩
abbrev cX10_values : ByteArray := prog_8_method_21_code
def yX10_values : MethodName := ⟨RX10, "values", "(LSlugwireModel$Fact;)I"⟩
abbrev cX10_source : ByteArray := prog_8_method_22_code
def yX10_source : MethodName := ⟨RX10, "source", "(II)I"⟩
abbrev cX10_story : ByteArray := prog_8_method_23_code
def yX10_story : MethodName := ⟨RX10, "story", "()I"⟩
abbrev cX10_line : ByteArray := prog_8_method_24_code
def yX10_line : MethodName := ⟨RX10, "line", "(II)I"⟩
abbrev cX10_report : ByteArray := prog_8_method_25_code
def yX10_report : MethodName := ⟨RX10, "report", "(IIII)I"⟩
abbrev cX10_retract : ByteArray := prog_8_method_26_code
def yX10_retract : MethodName := ⟨RX10, "retract", "(III)I"⟩
abbrev cX10_rival : ByteArray := prog_8_method_27_code
def yX10_rival : MethodName := ⟨RX10, "rival", "(II)Z"⟩
abbrev cX10_down : ByteArray := prog_8_method_28_code
def yX10_down : MethodName := ⟨RX10, "down", "(II)I"⟩
abbrev cX10_words : ByteArray := prog_8_method_29_code
def yX10_words : MethodName := ⟨RX10, "words", "(II)I"⟩
abbrev cX10_add : ByteArray := prog_8_method_30_code
def yX10_add : MethodName := ⟨RX10, "add", "(LSlugwireModel$Take;)V"⟩
abbrev cX10_file : ByteArray := prog_8_method_31_code
def yX10_file : MethodName := ⟨RX10, "file", "(IIIZI)I"⟩
abbrev cX10_correct : ByteArray := prog_8_method_32_code
def yX10_correct : MethodName := ⟨RX10, "correct", "(II)I"⟩
abbrev cX10_kill : ByteArray := prog_8_method_33_code
def yX10_kill : MethodName := ⟨RX10, "kill", "(I)I"⟩
abbrev cX10_pass : ByteArray := prog_8_method_34_code
def yX10_pass : MethodName := ⟨RX10, "pass", "(I)I"⟩
abbrev cX10_areIndependent : ByteArray := prog_8_method_35_code
def yX10_areIndependent : MethodName := ⟨RX10, "areIndependent", "(II)Z"⟩
abbrev cX10_isWith : ByteArray := prog_8_method_36_code
def yX10_isWith : MethodName := ⟨RX10, "isWith", "(III)Z"⟩
abbrev cX10_had : ByteArray := prog_8_method_37_code
def yX10_had : MethodName := ⟨RX10, "had", "(II)I"⟩
abbrev cX10_isFirst : ByteArray := prog_8_method_38_code
def yX10_isFirst : MethodName := ⟨RX10, "isFirst", "(II)Z"⟩
abbrev cX10_ofFactNow : ByteArray := prog_8_method_39_code
def yX10_ofFactNow : MethodName := ⟨RX10, "ofFactNow", "(III)I"⟩
abbrev cX10_ofFact : ByteArray := prog_8_method_40_code
def yX10_ofFact : MethodName := ⟨RX10, "ofFact", "(III)I"⟩
abbrev cX10_proof_ : ByteArray := prog_8_method_41_code
def yX10_proof_ : MethodName := ⟨RX10, "proof", "(IIIZ)I"⟩
abbrev cX10_ofTakeNow : ByteArray := prog_8_method_42_code
def yX10_ofTakeNow : MethodName := ⟨RX10, "ofTakeNow", "(II)I"⟩
abbrev cX10_ofTake : ByteArray := prog_8_method_43_code
def yX10_ofTake : MethodName := ⟨RX10, "ofTake", "(II)I"⟩
abbrev cX10_saysNow : ByteArray := prog_8_method_44_code
def yX10_saysNow : MethodName := ⟨RX10, "saysNow", "(II)I"⟩
abbrev cX10_says : ByteArray := prog_8_method_45_code
def yX10_says : MethodName := ⟨RX10, "says", "(II)I"⟩
abbrev cX10_isDropped : ByteArray := prog_8_method_46_code
def yX10_isDropped : MethodName := ⟨RX10, "isDropped", "(LSlugwireModel$Line;I)Z"⟩
abbrev cX10_stateNow : ByteArray := prog_8_method_47_code
def yX10_stateNow : MethodName := ⟨RX10, "stateNow", "(II)I"⟩
abbrev cX10_state : ByteArray := prog_8_method_48_code
def yX10_state : MethodName := ⟨RX10, "state", "(II)I"⟩
abbrev cX10_tellsNow : ByteArray := prog_8_method_49_code
def yX10_tellsNow : MethodName := ⟨RX10, "tellsNow", "(III)I"⟩
abbrev cX10_tells : ByteArray := prog_8_method_50_code
def yX10_tells : MethodName := ⟨RX10, "tells", "(III)I"⟩
abbrev cX10_told : ByteArray := prog_8_method_51_code
def yX10_told : MethodName := ⟨RX10, "told", "(IZ)I"⟩
abbrev cX10_waiting : ByteArray := prog_8_method_52_code
def yX10_waiting : MethodName := ⟨RX10, "waiting", "(LSlugwireModel$Line;Z)I"⟩
abbrev cX10_ofLineNow : ByteArray := prog_8_method_53_code
def yX10_ofLineNow : MethodName := ⟨RX10, "ofLineNow", "(II)I"⟩
abbrev cX10_ofLine : ByteArray := prog_8_method_54_code
def yX10_ofLine : MethodName := ⟨RX10, "ofLine", "(II)I"⟩
abbrev cX10_facts : ByteArray := prog_8_method_55_code
def yX10_facts : MethodName := ⟨RX10, "facts", "(I)I"⟩
abbrev cX10_takesOf : ByteArray := prog_8_method_56_code
def yX10_takesOf : MethodName := ⟨RX10, "takesOf", "(I)I"⟩
abbrev cX10_wrong : ByteArray := prog_8_method_57_code
def yX10_wrong : MethodName := ⟨RX10, "wrong", "()I"⟩
abbrev cX10_manyNow : ByteArray := prog_8_method_58_code
def yX10_manyNow : MethodName := ⟨RX10, "manyNow", "(I)I"⟩
abbrev cX10_many : ByteArray := prog_8_method_59_code
def yX10_many : MethodName := ⟨RX10, "many", "(I)I"⟩
abbrev cX10_meanDelay : ByteArray := prog_8_method_60_code
def yX10_meanDelay : MethodName := ⟨RX10, "meanDelay", "()D"⟩
abbrev cX10_arrivesNow : ByteArray := prog_8_method_61_code
def yX10_arrivesNow : MethodName := ⟨RX10, "arrivesNow", "(LSlugwireModel$Line;Ljava/util/ArrayList;I)I"⟩
abbrev cX10_arrives : ByteArray := prog_8_method_62_code
def yX10_arrives : MethodName := ⟨RX10, "arrives", "(II)I"⟩
abbrev cX10_wouldArriveNow : ByteArray := prog_8_method_63_code
def yX10_wouldArriveNow : MethodName := ⟨RX10, "wouldArriveNow", "(III)I"⟩
abbrev cX10_wouldArrive : ByteArray := prog_8_method_64_code
def yX10_wouldArrive : MethodName := ⟨RX10, "wouldArrive", "(III)I"⟩
abbrev cX10_isTruth : ByteArray := prog_8_method_65_code
def yX10_isTruth : MethodName := ⟨RX10, "isTruth", "(LSlugwireModel$Fact;III)Z"⟩
abbrev cX10_needsNow : ByteArray := prog_8_method_66_code
def yX10_needsNow : MethodName := ⟨RX10, "needsNow", "(IIII)I"⟩
abbrev cX10_needs : ByteArray := prog_8_method_67_code
def yX10_needs : MethodName := ⟨RX10, "needs", "(IIII)I"⟩
abbrev cX10_leadNow : ByteArray := prog_8_method_68_code
def yX10_leadNow : MethodName := ⟨RX10, "leadNow", "(II)I"⟩
abbrev cX10_lead : ByteArray := prog_8_method_69_code
def yX10_lead : MethodName := ⟨RX10, "lead", "(II)I"⟩
abbrev cX10_add_ : ByteArray := prog_8_method_70_code
def yX10_add_ : MethodName := ⟨RX10, "add", "(JJ)J"⟩
abbrev cX10_digest : ByteArray := prog_8_method_71_code
def yX10_digest : MethodName := ⟨RX10, "digest", "()J"⟩
def RJx145de : String := "java/io/Serializable"
def TJx145de : u_T := fun k => match k with
  | _ => ("", "", "", false)
def tyJx145de : Nat → FieldType := fun k => match k with
  | _ => .int
abbrev wsJx145de0 : List Cond := u_ws RJx145de TJx145de 0
theorem nmJx145de : ∀ a, a < 0 → ∀ b, b < 0 → a ≠ b → (TJx145de a).2.1 ≠ (TJx145de b).2.1 := by decide +kernel
theorem tyJx145de_ok : ∀ k, k < 0 → parseFieldDescriptor (TJx145de k).2.2.1 = some (tyJx145de k) := by decide +kernel
def RJx8e188 : String := "java/lang/Cloneable"
def TJx8e188 : u_T := fun k => match k with
  | _ => ("", "", "", false)
def tyJx8e188 : Nat → FieldType := fun k => match k with
  | _ => .int
abbrev wsJx8e1880 : List Cond := u_ws RJx8e188 TJx8e188 0
theorem nmJx8e188 : ∀ a, a < 0 → ∀ b, b < 0 → a ≠ b → (TJx8e188 a).2.1 ≠ (TJx8e188 b).2.1 := by decide +kernel
theorem tyJx8e188_ok : ∀ k, k < 0 → parseFieldDescriptor (TJx8e188 k).2.2.1 = some (tyJx8e188 k) := by decide +kernel
def RJ6 : String := "java/lang/Integer"
def TJ6 : u_T := fun k => match k with
  | _ => ("", "", "", false)
def tyJ6 : Nat → FieldType := fun k => match k with
  | _ => .int
abbrev wsJ60 : List Cond := u_ws RJ6 TJ6 0
theorem nmJ6 : ∀ a, a < 0 → ∀ b, b < 0 → a ≠ b → (TJ6 a).2.1 ≠ (TJ6 b).2.1 := by decide +kernel
theorem tyJ6_ok : ∀ k, k < 0 → parseFieldDescriptor (TJ6 k).2.2.1 = some (tyJ6 k) := by decide +kernel
abbrev cJ6_bitCount_0f7a4 : ByteArray := prog_19_method_49_code
def yJ6_bitCount_0f7a4 : MethodName := ⟨RJ6, "bitCount", "(I)I"⟩
def RJxab1ab : String := "java/lang/Iterable"
def TJxab1ab : u_T := fun k => match k with
  | _ => ("", "", "", false)
def tyJxab1ab : Nat → FieldType := fun k => match k with
  | _ => .int
abbrev wsJxab1ab0 : List Cond := u_ws RJxab1ab TJxab1ab 0
theorem nmJxab1ab : ∀ a, a < 0 → ∀ b, b < 0 → a ≠ b → (TJxab1ab a).2.1 ≠ (TJxab1ab b).2.1 := by decide +kernel
theorem tyJxab1ab_ok : ∀ k, k < 0 → parseFieldDescriptor (TJxab1ab k).2.2.1 = some (tyJxab1ab k) := by decide +kernel
def RJ9 : String := "java/lang/Math"
def TJ9 : u_T := fun k => match k with
  | _ => ("", "", "", false)
def tyJ9 : Nat → FieldType := fun k => match k with
  | _ => .int
abbrev wsJ90 : List Cond := u_ws RJ9 TJ9 0
theorem nmJ9 : ∀ a, a < 0 → ∀ b, b < 0 → a ≠ b → (TJ9 a).2.1 ≠ (TJ9 b).2.1 := by decide +kernel
theorem tyJ9_ok : ∀ k, k < 0 → parseFieldDescriptor (TJ9 k).2.2.1 = some (tyJ9 k) := by decide +kernel
abbrev cJ9_max_7cf53 : ByteArray := prog_21_method_65_code
def yJ9_max_7cf53 : MethodName := ⟨RJ9, "max", "(II)I"⟩
abbrev cJ9_min_7cf53 : ByteArray := prog_21_method_69_code
def yJ9_min_7cf53 : MethodName := ⟨RJ9, "min", "(II)I"⟩
def RJ0 : String := "java/lang/String"
def TJ0 : u_T := fun k => match k with
  | _ => ("", "", "", false)
def tyJ0 : Nat → FieldType := fun k => match k with
  | _ => .int
abbrev wsJ00 : List Cond := u_ws RJ0 TJ0 0
theorem nmJ0 : ∀ a, a < 0 → ∀ b, b < 0 → a ≠ b → (TJ0 a).2.1 ≠ (TJ0 b).2.1 := by decide +kernel
theorem tyJ0_ok : ∀ k, k < 0 → parseFieldDescriptor (TJ0 k).2.2.1 = some (tyJ0 k) := by decide +kernel
def RJ10 : String := "java/lang/System"
def TJ10 : u_T := fun k => match k with
  | _ => ("", "", "", false)
def tyJ10 : Nat → FieldType := fun k => match k with
  | _ => .int
abbrev wsJ100 : List Cond := u_ws RJ10 TJ10 0
theorem nmJ10 : ∀ a, a < 0 → ∀ b, b < 0 → a ≠ b → (TJ10 a).2.1 ≠ (TJ10 b).2.1 := by decide +kernel
theorem tyJ10_ok : ∀ k, k < 0 → parseFieldDescriptor (TJ10 k).2.2.1 = some (tyJ10 k) := by decide +kernel
def RJxa1e45 : String := "java/util/AbstractCollection"
def TJxa1e45 : u_T := fun k => match k with
  | _ => ("", "", "", false)
def tyJxa1e45 : Nat → FieldType := fun k => match k with
  | _ => .int
abbrev wsJxa1e450 : List Cond := u_ws RJxa1e45 TJxa1e45 0
theorem nmJxa1e45 : ∀ a, a < 0 → ∀ b, b < 0 → a ≠ b → (TJxa1e45 a).2.1 ≠ (TJxa1e45 b).2.1 := by decide +kernel
theorem tyJxa1e45_ok : ∀ k, k < 0 → parseFieldDescriptor (TJxa1e45 k).2.2.1 = some (tyJxa1e45 k) := by decide +kernel
abbrev cJxa1e45_init_da8c8 : ByteArray := prog_26_method_1_code
def yJxa1e45_init_da8c8 : MethodName := ⟨RJxa1e45, "<init>", "()V"⟩
def RJxc12de : String := "java/util/AbstractList"
def TJxc12de : u_T := fun k => match k with
  | _ => ("", "", "", false)
def tyJxc12de : Nat → FieldType := fun k => match k with
  | _ => .int
abbrev wsJxc12de0 : List Cond := u_ws RJxc12de TJxc12de 0
theorem nmJxc12de : ∀ a, a < 0 → ∀ b, b < 0 → a ≠ b → (TJxc12de a).2.1 ≠ (TJxc12de b).2.1 := by decide +kernel
theorem tyJxc12de_ok : ∀ k, k < 0 → parseFieldDescriptor (TJxc12de k).2.2.1 = some (tyJxc12de k) := by decide +kernel
abbrev cJxc12de_init_da8c8 : ByteArray := prog_27_method_1_code
def yJxc12de_init_da8c8 : MethodName := ⟨RJxc12de, "<init>", "()V"⟩
def RJx35411 : String := "java/util/ArrayList$Itr"
def TJx35411 : u_T := fun k => match k with
  | 0 => ("java/util/ArrayList$Itr", "cursor", "I", false)
  | 1 => ("java/util/ArrayList$Itr", "lastRet", "I", false)
  | 2 => ("java/util/ArrayList$Itr", "expectedModCount", "I", false)
  | _ => ("java/util/ArrayList$Itr", "this$0", "Ljava/util/ArrayList;", true)
def tyJx35411 : Nat → FieldType := fun k => match k with
  | 0 => .int
  | 1 => .int
  | 2 => .int
  | _ => .object "java/util/ArrayList"
abbrev wsJx354110 : List Cond := u_ws RJx35411 TJx35411 4
theorem nmJx35411 : ∀ a, a < 4 → ∀ b, b < 4 → a ≠ b → (TJx35411 a).2.1 ≠ (TJx35411 b).2.1 := by decide +kernel
theorem tyJx35411_ok : ∀ k, k < 4 → parseFieldDescriptor (TJx35411 k).2.2.1 = some (tyJx35411 k) := by decide +kernel
abbrev cJx35411_init_45d68 : ByteArray := prog_29_method_1_code
def yJx35411_init_45d68 : MethodName := ⟨RJx35411, "<init>", "(Ljava/util/ArrayList;)V"⟩
abbrev cJx35411_hasNext_aae02 : ByteArray := prog_29_method_2_code
def yJx35411_hasNext_aae02 : MethodName := ⟨RJx35411, "hasNext", "()Z"⟩
abbrev cJx35411_next_0502b : ByteArray := prog_29_method_3_code
def yJx35411_next_0502b : MethodName := ⟨RJx35411, "next", "()Ljava/lang/Object;"⟩
abbrev cJx35411_checkForComodification_da8c8 : ByteArray := prog_29_method_6_code
def yJx35411_checkForComodification_da8c8 : MethodName := ⟨RJx35411, "checkForComodification", "()V"⟩
def RJx4a65c : String := "java/util/ArrayList"
def TJx4a65c : u_T := fun k => match k with
  | 0 => ("java/util/AbstractList", "modCount", "I", false)
  | 1 => ("java/util/ArrayList", "elementData", "[Ljava/lang/Object;", false)
  | _ => ("java/util/ArrayList", "size", "I", false)
def tyJx4a65c : Nat → FieldType := fun k => match k with
  | 0 => .int
  | 1 => .array (.object "java/lang/Object")
  | _ => .int
abbrev wsJx4a65c0 : List Cond := u_ws RJx4a65c TJx4a65c 3
theorem nmJx4a65c : ∀ a, a < 3 → ∀ b, b < 3 → a ≠ b → (TJx4a65c a).2.1 ≠ (TJx4a65c b).2.1 := by decide +kernel
theorem tyJx4a65c_ok : ∀ k, k < 3 → parseFieldDescriptor (TJx4a65c k).2.2.1 = some (tyJx4a65c k) := by decide +kernel
abbrev cJx4a65c_init_da8c8 : ByteArray := prog_28_method_2_code
def yJx4a65c_init_da8c8 : MethodName := ⟨RJx4a65c, "<init>", "()V"⟩
abbrev cJx4a65c_init_4bcb3 : ByteArray := prog_28_method_3_code
def yJx4a65c_init_4bcb3 : MethodName := ⟨RJx4a65c, "<init>", "(Ljava/util/Collection;)V"⟩
abbrev cJx4a65c_grow_92f84 : ByteArray := prog_28_method_6_code
def yJx4a65c_grow_92f84 : MethodName := ⟨RJx4a65c, "grow", "(I)[Ljava/lang/Object;"⟩
abbrev cJx4a65c_grow_d5877 : ByteArray := prog_28_method_7_code
def yJx4a65c_grow_d5877 : MethodName := ⟨RJx4a65c, "grow", "()[Ljava/lang/Object;"⟩
abbrev cJx4a65c_size_8abf5 : ByteArray := prog_28_method_8_code
def yJx4a65c_size_8abf5 : MethodName := ⟨RJx4a65c, "size", "()I"⟩
abbrev cJx4a65c_toArray_d5877 : ByteArray := prog_28_method_16_code
def yJx4a65c_toArray_d5877 : MethodName := ⟨RJx4a65c, "toArray", "()[Ljava/lang/Object;"⟩
abbrev cJx4a65c_elementData_915e3 : ByteArray := prog_28_method_18_code
def yJx4a65c_elementData_915e3 : MethodName := ⟨RJx4a65c, "elementData", "(I)Ljava/lang/Object;"⟩
abbrev cJx4a65c_get_915e3 : ByteArray := prog_28_method_20_code
def yJx4a65c_get_915e3 : MethodName := ⟨RJx4a65c, "get", "(I)Ljava/lang/Object;"⟩
abbrev cJx4a65c_add_72be8 : ByteArray := prog_28_method_24_code
def yJx4a65c_add_72be8 : MethodName := ⟨RJx4a65c, "add", "(Ljava/lang/Object;[Ljava/lang/Object;I)V"⟩
abbrev cJx4a65c_add_9ea2d : ByteArray := prog_28_method_25_code
def yJx4a65c_add_9ea2d : MethodName := ⟨RJx4a65c, "add", "(Ljava/lang/Object;)Z"⟩
abbrev cJx4a65c_iterator_32c93 : ByteArray := prog_28_method_55_code
def yJx4a65c_iterator_32c93 : MethodName := ⟨RJx4a65c, "iterator", "()Ljava/util/Iterator;"⟩
def RJ7 : String := "java/util/Arrays"
def TJ7 : u_T := fun k => match k with
  | _ => ("", "", "", false)
def tyJ7 : Nat → FieldType := fun k => match k with
  | _ => .int
abbrev wsJ70 : List Cond := u_ws RJ7 TJ7 0
theorem nmJ7 : ∀ a, a < 0 → ∀ b, b < 0 → a ≠ b → (TJ7 a).2.1 ≠ (TJ7 b).2.1 := by decide +kernel
theorem tyJ7_ok : ∀ k, k < 0 → parseFieldDescriptor (TJ7 k).2.2.1 = some (tyJ7 k) := by decide +kernel
abbrev cJ7_fill_53178 : ByteArray := prog_30_method_103_code
def yJ7_fill_53178 : MethodName := ⟨RJ7, "fill", "([II)V"⟩
abbrev cJ7_copyOf_1904c : ByteArray := prog_30_method_119_code
def yJ7_copyOf_1904c : MethodName := ⟨RJ7, "copyOf", "([Ljava/lang/Object;I)[Ljava/lang/Object;"⟩
abbrev cJ7_copyOf_6403c : ByteArray := prog_30_method_120_code
def yJ7_copyOf_6403c : MethodName := ⟨RJ7, "copyOf", "([Ljava/lang/Object;ILjava/lang/Class;)[Ljava/lang/Object;"⟩
def RJx5ef63 : String := "java/util/Collection"
def TJx5ef63 : u_T := fun k => match k with
  | _ => ("", "", "", false)
def tyJx5ef63 : Nat → FieldType := fun k => match k with
  | _ => .int
abbrev wsJx5ef630 : List Cond := u_ws RJx5ef63 TJx5ef63 0
theorem nmJx5ef63 : ∀ a, a < 0 → ∀ b, b < 0 → a ≠ b → (TJx5ef63 a).2.1 ≠ (TJx5ef63 b).2.1 := by decide +kernel
theorem tyJx5ef63_ok : ∀ k, k < 0 → parseFieldDescriptor (TJx5ef63 k).2.2.1 = some (tyJx5ef63 k) := by decide +kernel
def RJx4d0d8 : String := "java/util/Iterator"
def TJx4d0d8 : u_T := fun k => match k with
  | _ => ("", "", "", false)
def tyJx4d0d8 : Nat → FieldType := fun k => match k with
  | _ => .int
abbrev wsJx4d0d80 : List Cond := u_ws RJx4d0d8 TJx4d0d8 0
theorem nmJx4d0d8 : ∀ a, a < 0 → ∀ b, b < 0 → a ≠ b → (TJx4d0d8 a).2.1 ≠ (TJx4d0d8 b).2.1 := by decide +kernel
theorem tyJx4d0d8_ok : ∀ k, k < 0 → parseFieldDescriptor (TJx4d0d8 k).2.2.1 = some (tyJx4d0d8 k) := by decide +kernel
def RJxbd725 : String := "java/util/List"
def TJxbd725 : u_T := fun k => match k with
  | _ => ("", "", "", false)
def tyJxbd725 : Nat → FieldType := fun k => match k with
  | _ => .int
abbrev wsJxbd7250 : List Cond := u_ws RJxbd725 TJxbd725 0
theorem nmJxbd725 : ∀ a, a < 0 → ∀ b, b < 0 → a ≠ b → (TJxbd725 a).2.1 ≠ (TJxbd725 b).2.1 := by decide +kernel
theorem tyJxbd725_ok : ∀ k, k < 0 → parseFieldDescriptor (TJxbd725 k).2.2.1 = some (tyJxbd725 k) := by decide +kernel
def RJ15 : String := "java/util/Objects"
def TJ15 : u_T := fun k => match k with
  | _ => ("", "", "", false)
def tyJ15 : Nat → FieldType := fun k => match k with
  | _ => .int
abbrev wsJ150 : List Cond := u_ws RJ15 TJ15 0
theorem nmJ15 : ∀ a, a < 0 → ∀ b, b < 0 → a ≠ b → (TJ15 a).2.1 ≠ (TJ15 b).2.1 := by decide +kernel
theorem tyJ15_ok : ∀ k, k < 0 → parseFieldDescriptor (TJ15 k).2.2.1 = some (tyJ15 k) := by decide +kernel
abbrev cJ15_checkIndex_7cf53 : ByteArray := prog_34_method_17_code
def yJ15_checkIndex_7cf53 : MethodName := ⟨RJ15, "checkIndex", "(II)I"⟩
def RJxf0a74 : String := "java/util/RandomAccess"
def TJxf0a74 : u_T := fun k => match k with
  | _ => ("", "", "", false)
def tyJxf0a74 : Nat → FieldType := fun k => match k with
  | _ => .int
abbrev wsJxf0a740 : List Cond := u_ws RJxf0a74 TJxf0a74 0
theorem nmJxf0a74 : ∀ a, a < 0 → ∀ b, b < 0 → a ≠ b → (TJxf0a74 a).2.1 ≠ (TJxf0a74 b).2.1 := by decide +kernel
theorem tyJxf0a74_ok : ∀ k, k < 0 → parseFieldDescriptor (TJxf0a74 k).2.2.1 = some (tyJxf0a74 k) := by decide +kernel
def RJxa66e6 : String := "java/util/SequencedCollection"
def TJxa66e6 : u_T := fun k => match k with
  | _ => ("", "", "", false)
def tyJxa66e6 : Nat → FieldType := fun k => match k with
  | _ => .int
abbrev wsJxa66e60 : List Cond := u_ws RJxa66e6 TJxa66e6 0
theorem nmJxa66e6 : ∀ a, a < 0 → ∀ b, b < 0 → a ≠ b → (TJxa66e6 a).2.1 ≠ (TJxa66e6 b).2.1 := by decide +kernel
theorem tyJxa66e6_ok : ∀ k, k < 0 → parseFieldDescriptor (TJxa66e6 k).2.2.1 = some (tyJxa66e6 k) := by decide +kernel
def RJ8 : String := "jdk/internal/util/ArraysSupport"
def TJ8 : u_T := fun k => match k with
  | _ => ("", "", "", false)
def tyJ8 : Nat → FieldType := fun k => match k with
  | _ => .int
abbrev wsJ80 : List Cond := u_ws RJ8 TJ8 0
theorem nmJ8 : ∀ a, a < 0 → ∀ b, b < 0 → a ≠ b → (TJ8 a).2.1 ≠ (TJ8 b).2.1 := by decide +kernel
theorem tyJ8_ok : ∀ k, k < 0 → parseFieldDescriptor (TJ8 k).2.2.1 = some (tyJ8 k) := by decide +kernel
abbrev cJ8_newLength_cabcc : ByteArray := prog_37_method_27_code
def yJ8_newLength_cabcc : MethodName := ⟨RJ8, "newLength", "(III)I"⟩
abbrev cJ8_hugeLength_7cf53 : ByteArray := prog_37_method_28_code
def yJ8_hugeLength_7cf53 : MethodName := ⟨RJ8, "hugeLength", "(II)I"⟩
def RJ3 : String := "jdk/internal/util/Preconditions"
def TJ3 : u_T := fun k => match k with
  | _ => ("", "", "", false)
def tyJ3 : Nat → FieldType := fun k => match k with
  | _ => .int
abbrev wsJ30 : List Cond := u_ws RJ3 TJ3 0
theorem nmJ3 : ∀ a, a < 0 → ∀ b, b < 0 → a ≠ b → (TJ3 a).2.1 ≠ (TJ3 b).2.1 := by decide +kernel
theorem tyJ3_ok : ∀ k, k < 0 → parseFieldDescriptor (TJ3 k).2.2.1 = some (tyJ3 k) := by decide +kernel
abbrev cJ3_checkIndex_8e157 : ByteArray := prog_38_method_11_code
def yJ3_checkIndex_8e157 : MethodName := ⟨RJ3, "checkIndex", "(IILjava/util/function/BiFunction;)I"⟩
def RL : String := "SlugwireLaw"
abbrev cL_source : ByteArray := method_3_code
def yL_source : MethodName := ⟨RL, "source", "(LSlugwire;II[J)I"⟩
abbrev cL_story : ByteArray := method_4_code
def yL_story : MethodName := ⟨RL, "story", "(LSlugwire;[J)I"⟩
abbrev cL_line : ByteArray := method_5_code
def yL_line : MethodName := ⟨RL, "line", "(LSlugwire;II[J)I"⟩
abbrev cL_report : ByteArray := method_6_code
def yL_report : MethodName := ⟨RL, "report", "(LSlugwire;IIII[J)I"⟩
abbrev cL_retract : ByteArray := method_7_code
def yL_retract : MethodName := ⟨RL, "retract", "(LSlugwire;III[J)I"⟩
abbrev cL_rival : ByteArray := method_8_code
def yL_rival : MethodName := ⟨RL, "rival", "(LSlugwire;II[J)I"⟩
abbrev cL_down : ByteArray := method_9_code
def yL_down : MethodName := ⟨RL, "down", "(LSlugwire;II[J)I"⟩
abbrev cL_file : ByteArray := method_10_code
def yL_file : MethodName := ⟨RL, "file", "(LSlugwire;IIIZI[J)I"⟩
abbrev cL_correct : ByteArray := method_11_code
def yL_correct : MethodName := ⟨RL, "correct", "(LSlugwire;II[J)I"⟩
abbrev cL_kill : ByteArray := method_12_code
def yL_kill : MethodName := ⟨RL, "kill", "(LSlugwire;I[J)I"⟩
abbrev cL_pass : ByteArray := method_13_code
def yL_pass : MethodName := ⟨RL, "pass", "(LSlugwire;I[J)I"⟩
abbrev cL_areIndependent : ByteArray := method_14_code
def yL_areIndependent : MethodName := ⟨RL, "areIndependent", "(LSlugwire;II[J)I"⟩
abbrev cL_ofFact : ByteArray := method_15_code
def yL_ofFact : MethodName := ⟨RL, "ofFact", "(LSlugwire;III[J)I"⟩
abbrev cL_proof : ByteArray := method_16_code
def yL_proof : MethodName := ⟨RL, "proof", "(LSlugwire;IIIZ[J)I"⟩
abbrev cL_ofTake : ByteArray := method_17_code
def yL_ofTake : MethodName := ⟨RL, "ofTake", "(LSlugwire;II[J)I"⟩
abbrev cL_says : ByteArray := method_18_code
def yL_says : MethodName := ⟨RL, "says", "(LSlugwire;II[J)I"⟩
abbrev cL_state : ByteArray := method_19_code
def yL_state : MethodName := ⟨RL, "state", "(LSlugwire;II[J)I"⟩
abbrev cL_tells : ByteArray := method_20_code
def yL_tells : MethodName := ⟨RL, "tells", "(LSlugwire;III[J)I"⟩
abbrev cL_ofLine : ByteArray := method_21_code
def yL_ofLine : MethodName := ⟨RL, "ofLine", "(LSlugwire;II[J)I"⟩
abbrev cL_many : ByteArray := method_22_code
def yL_many : MethodName := ⟨RL, "many", "(LSlugwire;I[J)I"⟩
abbrev cL_arrives : ByteArray := method_23_code
def yL_arrives : MethodName := ⟨RL, "arrives", "(LSlugwire;II[J)I"⟩
abbrev cL_wouldArrive : ByteArray := method_24_code
def yL_wouldArrive : MethodName := ⟨RL, "wouldArrive", "(LSlugwire;III[J)I"⟩
abbrev cL_needs : ByteArray := method_25_code
def yL_needs : MethodName := ⟨RL, "needs", "(LSlugwire;IIII[J)I"⟩
abbrev cL_lead : ByteArray := method_26_code
def yL_lead : MethodName := ⟨RL, "lead", "(LSlugwire;II[J)I"⟩
abbrev cL_law : ByteArray := code
def yL_law : MethodName := ⟨RL, "law", "([I)Z"⟩
abbrev vwCl : List vw_C := [(RJx35411, TJx35411, 4), (RJx4a65c, TJx4a65c, 3), (RX0, TX0, 5), (RX1, TX1, 9), (RX2, TX2, 3), (RX3, TX3, 10), (RX4, TX4, 5), (RX5, TX5, 10), (RX6, TX6, 2), (RX7, TX7, 7), (RX8, TX8, 3), (RX9, TX9, 10), (RX10, TX10, 6)]
theorem inX0 : ∀ w ∈ wsX00, w ∈ lw_tbl := by decide +kernel
theorem inX1 : ∀ w ∈ wsX10, w ∈ lw_tbl := by decide +kernel
theorem inX2 : ∀ w ∈ wsX20, w ∈ lw_tbl := by decide +kernel
theorem inX3 : ∀ w ∈ wsX30, w ∈ lw_tbl := by decide +kernel
theorem inX4 : ∀ w ∈ wsX40, w ∈ lw_tbl := by decide +kernel
theorem inX5 : ∀ w ∈ wsX50, w ∈ lw_tbl := by decide +kernel
theorem inX6 : ∀ w ∈ wsX60, w ∈ lw_tbl := by decide +kernel
theorem inX7 : ∀ w ∈ wsX70, w ∈ lw_tbl := by decide +kernel
theorem inX8 : ∀ w ∈ wsX80, w ∈ lw_tbl := by decide +kernel
theorem inX9 : ∀ w ∈ wsX90, w ∈ lw_tbl := by decide +kernel
theorem inX10 : ∀ w ∈ wsX100, w ∈ lw_tbl := by decide +kernel
theorem inJx145de : ∀ w ∈ wsJx145de0, w ∈ lw_tbl := by decide +kernel
theorem inJx8e188 : ∀ w ∈ wsJx8e1880, w ∈ lw_tbl := by decide +kernel
theorem inJ6 : ∀ w ∈ wsJ60, w ∈ lw_tbl := by decide +kernel
theorem inJxab1ab : ∀ w ∈ wsJxab1ab0, w ∈ lw_tbl := by decide +kernel
theorem inJ9 : ∀ w ∈ wsJ90, w ∈ lw_tbl := by decide +kernel
theorem inJ0 : ∀ w ∈ wsJ00, w ∈ lw_tbl := by decide +kernel
theorem inJ10 : ∀ w ∈ wsJ100, w ∈ lw_tbl := by decide +kernel
theorem inJxa1e45 : ∀ w ∈ wsJxa1e450, w ∈ lw_tbl := by decide +kernel
theorem inJxc12de : ∀ w ∈ wsJxc12de0, w ∈ lw_tbl := by decide +kernel
theorem inJx35411 : ∀ w ∈ wsJx354110, w ∈ lw_tbl := by decide +kernel
theorem inJx4a65c : ∀ w ∈ wsJx4a65c0, w ∈ lw_tbl := by decide +kernel
theorem inJ7 : ∀ w ∈ wsJ70, w ∈ lw_tbl := by decide +kernel
theorem inJx5ef63 : ∀ w ∈ wsJx5ef630, w ∈ lw_tbl := by decide +kernel
theorem inJx4d0d8 : ∀ w ∈ wsJx4d0d80, w ∈ lw_tbl := by decide +kernel
theorem inJxbd725 : ∀ w ∈ wsJxbd7250, w ∈ lw_tbl := by decide +kernel
theorem inJ15 : ∀ w ∈ wsJ150, w ∈ lw_tbl := by decide +kernel
theorem inJxf0a74 : ∀ w ∈ wsJxf0a740, w ∈ lw_tbl := by decide +kernel
theorem inJxa66e6 : ∀ w ∈ wsJxa66e60, w ∈ lw_tbl := by decide +kernel
theorem inJ8 : ∀ w ∈ wsJ80, w ∈ lw_tbl := by decide +kernel
theorem inJ3 : ∀ w ∈ wsJ30, w ∈ lw_tbl := by decide +kernel
end
section
theorem dX0_init_0 : decode cX0_init 0 = .ok (.aload_n 0, 1) := by decide +kernel
theorem dX0_init_1 : decode cX0_init 1 = .ok (.invokespecial 3, 3) := by decide +kernel
theorem dX0_init_4 : decode cX0_init 4 = .ok (.aload_n 0, 1) := by decide +kernel
theorem dX0_init_5 : decode cX0_init 5 = .ok (.bipush 10, 2) := by decide +kernel
theorem dX0_init_7 : decode cX0_init 7 = .ok (.newarray .int, 2) := by decide +kernel
theorem dX0_init_9 : decode cX0_init 9 = .ok (.putfield 9, 3) := by decide +kernel
theorem dX0_init_12 : decode cX0_init 12 = .ok (.aload_n 0, 1) := by decide +kernel
theorem dX0_init_13 : decode cX0_init 13 = .ok (.iconst (-1), 1) := by decide +kernel
theorem dX0_init_14 : decode cX0_init 14 = .ok (.putfield 15, 3) := by decide +kernel
theorem dX0_init_17 : decode cX0_init 17 = .ok (.aload_n 0, 1) := by decide +kernel
theorem dX0_init_18 : decode cX0_init 18 = .ok (.iconst (-1), 1) := by decide +kernel
theorem dX0_init_19 : decode cX0_init 19 = .ok (.putfield 19, 3) := by decide +kernel
theorem dX0_init_22 : decode cX0_init 22 = .ok (.aload_n 0, 1) := by decide +kernel
theorem dX0_init_23 : decode cX0_init 23 = .ok (.iconst (-1), 1) := by decide +kernel
theorem dX0_init_24 : decode cX0_init 24 = .ok (.putfield 22, 3) := by decide +kernel
theorem dX0_init_27 : decode cX0_init 27 = .ok (.aload_n 0, 1) := by decide +kernel
theorem dX0_init_28 : decode cX0_init 28 = .ok (.getfield 9, 3) := by decide +kernel
theorem dX0_init_31 : decode cX0_init 31 = .ok (.iconst (-1), 1) := by decide +kernel
theorem dX0_init_32 : decode cX0_init 32 = .ok (.invokestatic 25, 3) := by decide +kernel
theorem dX0_init_35 : decode cX0_init 35 = .ok (.return_, 1) := by decide +kernel
theorem dX0_settle_0 : decode cX0_settle 0 = .ok (.aload_n 0, 1) := by decide +kernel
theorem dX0_settle_1 : decode cX0_settle 1 = .ok (.aload_n 0, 1) := by decide +kernel
theorem dX0_settle_2 : decode cX0_settle 2 = .ok (.aload_n 1, 1) := by decide +kernel
theorem dX0_settle_3 : decode cX0_settle 3 = .ok (.aload_n 2, 1) := by decide +kernel
theorem dX0_settle_4 : decode cX0_settle 4 = .ok (.iconst 1, 1) := by decide +kernel
theorem dX0_settle_5 : decode cX0_settle 5 = .ok (.iconst (-1), 1) := by decide +kernel
theorem dX0_settle_6 : decode cX0_settle 6 = .ok (.invokevirtual 31, 3) := by decide +kernel
theorem dX0_settle_9 : decode cX0_settle 9 = .ok (.putfield 15, 3) := by decide +kernel
theorem dX0_settle_12 : decode cX0_settle 12 = .ok (.aload_n 0, 1) := by decide +kernel
theorem dX0_settle_13 : decode cX0_settle 13 = .ok (.iconst 0, 1) := by decide +kernel
theorem dX0_settle_14 : decode cX0_settle 14 = .ok (.putfield 35, 3) := by decide +kernel
theorem dX0_settle_17 : decode cX0_settle 17 = .ok (.aload_n 0, 1) := by decide +kernel
theorem dX0_settle_18 : decode cX0_settle 18 = .ok (.getfield 15, 3) := by decide +kernel
theorem dX0_settle_21 : decode cX0_settle 21 = .ok (.iconst (-1), 1) := by decide +kernel
theorem dX0_settle_22 : decode cX0_settle 22 = .ok (.if_icmp .eq 24, 3) := by decide +kernel
theorem dX0_settle_25 : decode cX0_settle 25 = .ok (.aload_n 2, 1) := by decide +kernel
theorem dX0_settle_26 : decode cX0_settle 26 = .ok (.aload_n 1, 1) := by decide +kernel
theorem dX0_settle_27 : decode cX0_settle 27 = .ok (.aload_n 0, 1) := by decide +kernel
theorem dX0_settle_28 : decode cX0_settle 28 = .ok (.getfield 9, 3) := by decide +kernel
theorem dX0_settle_31 : decode cX0_settle 31 = .ok (.aload_n 0, 1) := by decide +kernel
theorem dX0_settle_32 : decode cX0_settle 32 = .ok (.getfield 15, 3) := by decide +kernel
theorem dX0_settle_35 : decode cX0_settle 35 = .ok (.invokevirtual 38, 3) := by decide +kernel
theorem dX0_settle_38 : decode cX0_settle 38 = .ok (.aload_n 0, 1) := by decide +kernel
theorem dX0_settle_39 : decode cX0_settle 39 = .ok (.aload_n 2, 1) := by decide +kernel
theorem dX0_settle_40 : decode cX0_settle 40 = .ok (.getfield 44, 3) := by decide +kernel
theorem dX0_settle_43 : decode cX0_settle 43 = .ok (.putfield 35, 3) := by decide +kernel
theorem dX0_settle_46 : decode cX0_settle 46 = .ok (.aload_n 0, 1) := by decide +kernel
theorem dX0_settle_47 : decode cX0_settle 47 = .ok (.aload_n 0, 1) := by decide +kernel
theorem dX0_settle_48 : decode cX0_settle 48 = .ok (.getfield 15, 3) := by decide +kernel
theorem dX0_settle_51 : decode cX0_settle 51 = .ok (.iconst (-1), 1) := by decide +kernel
theorem dX0_settle_52 : decode cX0_settle 52 = .ok (.if_icmp .eq 10, 3) := by decide +kernel
theorem dX0_settle_55 : decode cX0_settle 55 = .ok (.aload_n 0, 1) := by decide +kernel
theorem dX0_settle_56 : decode cX0_settle 56 = .ok (.getfield 15, 3) := by decide +kernel
theorem dX0_settle_59 : decode cX0_settle 59 = .ok (.goto 11, 3) := by decide +kernel
theorem dX0_settle_62 : decode cX0_settle 62 = .ok (.aload_n 0, 1) := by decide +kernel
theorem dX0_settle_63 : decode cX0_settle 63 = .ok (.aload_n 1, 1) := by decide +kernel
theorem dX0_settle_64 : decode cX0_settle 64 = .ok (.aload_n 2, 1) := by decide +kernel
theorem dX0_settle_65 : decode cX0_settle 65 = .ok (.iconst 0, 1) := by decide +kernel
theorem dX0_settle_66 : decode cX0_settle 66 = .ok (.iconst (-1), 1) := by decide +kernel
theorem dX0_settle_67 : decode cX0_settle 67 = .ok (.invokevirtual 31, 3) := by decide +kernel
theorem dX0_settle_70 : decode cX0_settle 70 = .ok (.putfield 19, 3) := by decide +kernel
theorem dX0_settle_73 : decode cX0_settle 73 = .ok (.return_, 1) := by decide +kernel
theorem dX0_strongest_0 : decode cX0_strongest 0 = .ok (.iconst (-1), 1) := by decide +kernel
theorem dX0_strongest_1 : decode cX0_strongest 1 = .ok (.istore 5, 2) := by decide +kernel
theorem dX0_strongest_3 : decode cX0_strongest 3 = .ok (.iconst 0, 1) := by decide +kernel
theorem dX0_strongest_4 : decode cX0_strongest 4 = .ok (.istore 6, 2) := by decide +kernel
theorem dX0_strongest_6 : decode cX0_strongest 6 = .ok (.iconst 0, 1) := by decide +kernel
theorem dX0_strongest_7 : decode cX0_strongest 7 = .ok (.istore 7, 2) := by decide +kernel
theorem dX0_strongest_9 : decode cX0_strongest 9 = .ok (.iload 7, 2) := by decide +kernel
theorem dX0_strongest_11 : decode cX0_strongest 11 = .ok (.aload_n 1, 1) := by decide +kernel
theorem dX0_strongest_12 : decode cX0_strongest 12 = .ok (.getfield 47, 3) := by decide +kernel
theorem dX0_strongest_15 : decode cX0_strongest 15 = .ok (.if_icmp .ge 100, 3) := by decide +kernel
theorem dX0_strongest_18 : decode cX0_strongest 18 = .ok (.aload_n 0, 1) := by decide +kernel
theorem dX0_strongest_19 : decode cX0_strongest 19 = .ok (.getfield 9, 3) := by decide +kernel
theorem dX0_strongest_22 : decode cX0_strongest 22 = .ok (.iload 7, 2) := by decide +kernel
theorem dX0_strongest_24 : decode cX0_strongest 24 = .ok (.iaload, 1) := by decide +kernel
theorem dX0_strongest_25 : decode cX0_strongest 25 = .ok (.istore 8, 2) := by decide +kernel
theorem dX0_strongest_27 : decode cX0_strongest 27 = .ok (.iload 8, 2) := by decide +kernel
theorem dX0_strongest_29 : decode cX0_strongest 29 = .ok (.iconst (-1), 1) := by decide +kernel
theorem dX0_strongest_30 : decode cX0_strongest 30 = .ok (.if_icmp .eq 79, 3) := by decide +kernel
theorem dX0_strongest_33 : decode cX0_strongest 33 = .ok (.iload 8, 2) := by decide +kernel
theorem dX0_strongest_35 : decode cX0_strongest 35 = .ok (.iload 4, 2) := by decide +kernel
theorem dX0_strongest_37 : decode cX0_strongest 37 = .ok (.if_icmp .eq 72, 3) := by decide +kernel
theorem dX0_strongest_40 : decode cX0_strongest 40 = .ok (.aload_n 2, 1) := by decide +kernel
theorem dX0_strongest_41 : decode cX0_strongest 41 = .ok (.aload_n 1, 1) := by decide +kernel
theorem dX0_strongest_42 : decode cX0_strongest 42 = .ok (.aload_n 0, 1) := by decide +kernel
theorem dX0_strongest_43 : decode cX0_strongest 43 = .ok (.getfield 9, 3) := by decide +kernel
theorem dX0_strongest_46 : decode cX0_strongest 46 = .ok (.iload 8, 2) := by decide +kernel
theorem dX0_strongest_48 : decode cX0_strongest 48 = .ok (.invokevirtual 38, 3) := by decide +kernel
theorem dX0_strongest_51 : decode cX0_strongest 51 = .ok (.aload_n 2, 1) := by decide +kernel
theorem dX0_strongest_52 : decode cX0_strongest 52 = .ok (.getfield 44, 3) := by decide +kernel
theorem dX0_strongest_55 : decode cX0_strongest 55 = .ok (.iload 6, 2) := by decide +kernel
theorem dX0_strongest_57 : decode cX0_strongest 57 = .ok (.if_icmp .gt 19, 3) := by decide +kernel
theorem dX0_strongest_60 : decode cX0_strongest 60 = .ok (.aload_n 2, 1) := by decide +kernel
theorem dX0_strongest_61 : decode cX0_strongest 61 = .ok (.getfield 44, 3) := by decide +kernel
theorem dX0_strongest_64 : decode cX0_strongest 64 = .ok (.iload 6, 2) := by decide +kernel
theorem dX0_strongest_66 : decode cX0_strongest 66 = .ok (.if_icmp .ne 14, 3) := by decide +kernel
theorem dX0_strongest_69 : decode cX0_strongest 69 = .ok (.iload 8, 2) := by decide +kernel
theorem dX0_strongest_71 : decode cX0_strongest 71 = .ok (.iload 5, 2) := by decide +kernel
theorem dX0_strongest_73 : decode cX0_strongest 73 = .ok (.if_icmp .ge 7, 3) := by decide +kernel
theorem dX0_strongest_76 : decode cX0_strongest 76 = .ok (.iconst 1, 1) := by decide +kernel
theorem dX0_strongest_77 : decode cX0_strongest 77 = .ok (.goto 4, 3) := by decide +kernel
theorem dX0_strongest_80 : decode cX0_strongest 80 = .ok (.iconst 0, 1) := by decide +kernel
theorem dX0_strongest_81 : decode cX0_strongest 81 = .ok (.istore 9, 2) := by decide +kernel
theorem dX0_strongest_83 : decode cX0_strongest 83 = .ok (.iload 9, 2) := by decide +kernel
theorem dX0_strongest_85 : decode cX0_strongest 85 = .ok (.ifCond .eq 24, 3) := by decide +kernel
theorem dX0_strongest_88 : decode cX0_strongest 88 = .ok (.iload_n 3, 1) := by decide +kernel
theorem dX0_strongest_89 : decode cX0_strongest 89 = .ok (.ifCond .eq 10, 3) := by decide +kernel
theorem dX0_strongest_92 : decode cX0_strongest 92 = .ok (.aload_n 2, 1) := by decide +kernel
theorem dX0_strongest_93 : decode cX0_strongest 93 = .ok (.invokevirtual 52, 3) := by decide +kernel
theorem dX0_strongest_96 : decode cX0_strongest 96 = .ok (.ifCond .le 13, 3) := by decide +kernel
theorem dX0_strongest_99 : decode cX0_strongest 99 = .ok (.iload 8, 2) := by decide +kernel
theorem dX0_strongest_101 : decode cX0_strongest 101 = .ok (.istore 5, 2) := by decide +kernel
theorem dX0_strongest_103 : decode cX0_strongest 103 = .ok (.aload_n 2, 1) := by decide +kernel
theorem dX0_strongest_104 : decode cX0_strongest 104 = .ok (.getfield 44, 3) := by decide +kernel
theorem dX0_strongest_107 : decode cX0_strongest 107 = .ok (.istore 6, 2) := by decide +kernel
theorem dX0_strongest_109 : decode cX0_strongest 109 = .ok (.iinc 7 1, 3) := by decide +kernel
theorem dX0_strongest_112 : decode cX0_strongest 112 = .ok (.goto (-103), 3) := by decide +kernel
theorem dX0_strongest_115 : decode cX0_strongest 115 = .ok (.iload 5, 2) := by decide +kernel
theorem dX0_strongest_117 : decode cX0_strongest 117 = .ok (.ireturn, 1) := by decide +kernel
theorem dX0_valueToFile_0 : decode cX0_valueToFile 0 = .ok (.iload_n 1, 1) := by decide +kernel
theorem dX0_valueToFile_1 : decode cX0_valueToFile 1 = .ok (.ifCond .eq 10, 3) := by decide +kernel
theorem dX0_valueToFile_4 : decode cX0_valueToFile 4 = .ok (.aload_n 0, 1) := by decide +kernel
theorem dX0_valueToFile_5 : decode cX0_valueToFile 5 = .ok (.getfield 19, 3) := by decide +kernel
theorem dX0_valueToFile_8 : decode cX0_valueToFile 8 = .ok (.goto 7, 3) := by decide +kernel
theorem dX0_valueToFile_11 : decode cX0_valueToFile 11 = .ok (.aload_n 0, 1) := by decide +kernel
theorem dX0_valueToFile_12 : decode cX0_valueToFile 12 = .ok (.getfield 15, 3) := by decide +kernel
theorem dX0_valueToFile_15 : decode cX0_valueToFile 15 = .ok (.ireturn, 1) := by decide +kernel
theorem dX0_countSayers_0 : decode cX0_countSayers 0 = .ok (.iconst 0, 1) := by decide +kernel
theorem dX0_countSayers_1 : decode cX0_countSayers 1 = .ok (.istore_n 1, 1) := by decide +kernel
theorem dX0_countSayers_2 : decode cX0_countSayers 2 = .ok (.iconst 0, 1) := by decide +kernel
theorem dX0_countSayers_3 : decode cX0_countSayers 3 = .ok (.istore_n 2, 1) := by decide +kernel
theorem dX0_countSayers_4 : decode cX0_countSayers 4 = .ok (.iload_n 2, 1) := by decide +kernel
theorem dX0_countSayers_5 : decode cX0_countSayers 5 = .ok (.aload_n 0, 1) := by decide +kernel
theorem dX0_countSayers_6 : decode cX0_countSayers 6 = .ok (.getfield 9, 3) := by decide +kernel
theorem dX0_countSayers_9 : decode cX0_countSayers 9 = .ok (.arraylength, 1) := by decide +kernel
theorem dX0_countSayers_10 : decode cX0_countSayers 10 = .ok (.if_icmp .ge 22, 3) := by decide +kernel
theorem dX0_countSayers_13 : decode cX0_countSayers 13 = .ok (.aload_n 0, 1) := by decide +kernel
theorem dX0_countSayers_14 : decode cX0_countSayers 14 = .ok (.getfield 9, 3) := by decide +kernel
theorem dX0_countSayers_17 : decode cX0_countSayers 17 = .ok (.iload_n 2, 1) := by decide +kernel
theorem dX0_countSayers_18 : decode cX0_countSayers 18 = .ok (.iaload, 1) := by decide +kernel
theorem dX0_countSayers_19 : decode cX0_countSayers 19 = .ok (.iconst (-1), 1) := by decide +kernel
theorem dX0_countSayers_20 : decode cX0_countSayers 20 = .ok (.if_icmp .eq 6, 3) := by decide +kernel
theorem dX0_countSayers_23 : decode cX0_countSayers 23 = .ok (.iinc 1 1, 3) := by decide +kernel
theorem dX0_countSayers_26 : decode cX0_countSayers 26 = .ok (.iinc 2 1, 3) := by decide +kernel
theorem dX0_countSayers_29 : decode cX0_countSayers 29 = .ok (.goto (-25), 3) := by decide +kernel
theorem dX0_countSayers_32 : decode cX0_countSayers 32 = .ok (.iload_n 1, 1) := by decide +kernel
theorem dX0_countSayers_33 : decode cX0_countSayers 33 = .ok (.ireturn, 1) := by decide +kernel
theorem dX0_countValues_0 : decode cX0_countValues 0 = .ok (.iconst 0, 1) := by decide +kernel
theorem dX0_countValues_1 : decode cX0_countValues 1 = .ok (.istore_n 1, 1) := by decide +kernel
theorem dX0_countValues_2 : decode cX0_countValues 2 = .ok (.iconst 0, 1) := by decide +kernel
theorem dX0_countValues_3 : decode cX0_countValues 3 = .ok (.istore_n 2, 1) := by decide +kernel
theorem dX0_countValues_4 : decode cX0_countValues 4 = .ok (.iload_n 2, 1) := by decide +kernel
theorem dX0_countValues_5 : decode cX0_countValues 5 = .ok (.aload_n 0, 1) := by decide +kernel
theorem dX0_countValues_6 : decode cX0_countValues 6 = .ok (.getfield 9, 3) := by decide +kernel
theorem dX0_countValues_9 : decode cX0_countValues 9 = .ok (.arraylength, 1) := by decide +kernel
theorem dX0_countValues_10 : decode cX0_countValues 10 = .ok (.if_icmp .ge 30, 3) := by decide +kernel
theorem dX0_countValues_13 : decode cX0_countValues 13 = .ok (.aload_n 0, 1) := by decide +kernel
theorem dX0_countValues_14 : decode cX0_countValues 14 = .ok (.getfield 9, 3) := by decide +kernel
theorem dX0_countValues_17 : decode cX0_countValues 17 = .ok (.iload_n 2, 1) := by decide +kernel
theorem dX0_countValues_18 : decode cX0_countValues 18 = .ok (.iaload, 1) := by decide +kernel
theorem dX0_countValues_19 : decode cX0_countValues 19 = .ok (.iconst (-1), 1) := by decide +kernel
theorem dX0_countValues_20 : decode cX0_countValues 20 = .ok (.if_icmp .eq 14, 3) := by decide +kernel
theorem dX0_countValues_23 : decode cX0_countValues 23 = .ok (.aload_n 0, 1) := by decide +kernel
theorem dX0_countValues_24 : decode cX0_countValues 24 = .ok (.iload_n 2, 1) := by decide +kernel
theorem dX0_countValues_25 : decode cX0_countValues 25 = .ok (.invokevirtual 56, 3) := by decide +kernel
theorem dX0_countValues_28 : decode cX0_countValues 28 = .ok (.ifCond .ne 6, 3) := by decide +kernel
theorem dX0_countValues_31 : decode cX0_countValues 31 = .ok (.iinc 1 1, 3) := by decide +kernel
theorem dX0_countValues_34 : decode cX0_countValues 34 = .ok (.iinc 2 1, 3) := by decide +kernel
theorem dX0_countValues_37 : decode cX0_countValues 37 = .ok (.goto (-33), 3) := by decide +kernel
theorem dX0_countValues_40 : decode cX0_countValues 40 = .ok (.iload_n 1, 1) := by decide +kernel
theorem dX0_countValues_41 : decode cX0_countValues 41 = .ok (.ireturn, 1) := by decide +kernel
theorem dX0_isSaidAhead_0 : decode cX0_isSaidAhead 0 = .ok (.iconst 0, 1) := by decide +kernel
theorem dX0_isSaidAhead_1 : decode cX0_isSaidAhead 1 = .ok (.istore_n 2, 1) := by decide +kernel
theorem dX0_isSaidAhead_2 : decode cX0_isSaidAhead 2 = .ok (.iload_n 2, 1) := by decide +kernel
theorem dX0_isSaidAhead_3 : decode cX0_isSaidAhead 3 = .ok (.iload_n 1, 1) := by decide +kernel
theorem dX0_isSaidAhead_4 : decode cX0_isSaidAhead 4 = .ok (.if_icmp .ge 26, 3) := by decide +kernel
theorem dX0_isSaidAhead_7 : decode cX0_isSaidAhead 7 = .ok (.aload_n 0, 1) := by decide +kernel
theorem dX0_isSaidAhead_8 : decode cX0_isSaidAhead 8 = .ok (.getfield 9, 3) := by decide +kernel
theorem dX0_isSaidAhead_11 : decode cX0_isSaidAhead 11 = .ok (.iload_n 2, 1) := by decide +kernel
theorem dX0_isSaidAhead_12 : decode cX0_isSaidAhead 12 = .ok (.iaload, 1) := by decide +kernel
theorem dX0_isSaidAhead_13 : decode cX0_isSaidAhead 13 = .ok (.aload_n 0, 1) := by decide +kernel
theorem dX0_isSaidAhead_14 : decode cX0_isSaidAhead 14 = .ok (.getfield 9, 3) := by decide +kernel
theorem dX0_isSaidAhead_17 : decode cX0_isSaidAhead 17 = .ok (.iload_n 1, 1) := by decide +kernel
theorem dX0_isSaidAhead_18 : decode cX0_isSaidAhead 18 = .ok (.iaload, 1) := by decide +kernel
theorem dX0_isSaidAhead_19 : decode cX0_isSaidAhead 19 = .ok (.if_icmp .ne 5, 3) := by decide +kernel
theorem dX0_isSaidAhead_22 : decode cX0_isSaidAhead 22 = .ok (.iconst 1, 1) := by decide +kernel
theorem dX0_isSaidAhead_23 : decode cX0_isSaidAhead 23 = .ok (.ireturn, 1) := by decide +kernel
theorem dX0_isSaidAhead_24 : decode cX0_isSaidAhead 24 = .ok (.iinc 2 1, 3) := by decide +kernel
theorem dX0_isSaidAhead_27 : decode cX0_isSaidAhead 27 = .ok (.goto (-25), 3) := by decide +kernel
theorem dX0_isSaidAhead_30 : decode cX0_isSaidAhead 30 = .ok (.iconst 0, 1) := by decide +kernel
theorem dX0_isSaidAhead_31 : decode cX0_isSaidAhead 31 = .ok (.ireturn, 1) := by decide +kernel
theorem dX1_init_0 : decode cX1_init 0 = .ok (.aload_n 0, 1) := by decide +kernel
theorem dX1_init_1 : decode cX1_init 1 = .ok (.invokespecial 3, 3) := by decide +kernel
theorem dX1_init_4 : decode cX1_init 4 = .ok (.aload_n 0, 1) := by decide +kernel
theorem dX1_init_5 : decode cX1_init 5 = .ok (.bipush 61, 2) := by decide +kernel
theorem dX1_init_7 : decode cX1_init 7 = .ok (.newarray .int, 2) := by decide +kernel
theorem dX1_init_9 : decode cX1_init 9 = .ok (.putfield 11, 3) := by decide +kernel
theorem dX1_init_12 : decode cX1_init 12 = .ok (.aload_n 0, 1) := by decide +kernel
theorem dX1_init_13 : decode cX1_init 13 = .ok (.bipush 61, 2) := by decide +kernel
theorem dX1_init_15 : decode cX1_init 15 = .ok (.newarray .int, 2) := by decide +kernel
theorem dX1_init_17 : decode cX1_init 17 = .ok (.putfield 15, 3) := by decide +kernel
theorem dX1_init_20 : decode cX1_init 20 = .ok (.aload_n 0, 1) := by decide +kernel
theorem dX1_init_21 : decode cX1_init 21 = .ok (.bipush 61, 2) := by decide +kernel
theorem dX1_init_23 : decode cX1_init 23 = .ok (.newarray .int, 2) := by decide +kernel
theorem dX1_init_25 : decode cX1_init 25 = .ok (.putfield 18, 3) := by decide +kernel
theorem dX1_init_28 : decode cX1_init 28 = .ok (.aload_n 0, 1) := by decide +kernel
theorem dX1_init_29 : decode cX1_init 29 = .ok (.bipush 61, 2) := by decide +kernel
theorem dX1_init_31 : decode cX1_init 31 = .ok (.newarray .int, 2) := by decide +kernel
theorem dX1_init_33 : decode cX1_init 33 = .ok (.putfield 21, 3) := by decide +kernel
theorem dX1_init_36 : decode cX1_init 36 = .ok (.aload_n 0, 1) := by decide +kernel
theorem dX1_init_37 : decode cX1_init 37 = .ok (.getfield 11, 3) := by decide +kernel
theorem dX1_init_40 : decode cX1_init 40 = .ok (.iconst (-1), 1) := by decide +kernel
theorem dX1_init_41 : decode cX1_init 41 = .ok (.invokestatic 24, 3) := by decide +kernel
theorem dX1_init_44 : decode cX1_init 44 = .ok (.aload_n 0, 1) := by decide +kernel
theorem dX1_init_45 : decode cX1_init 45 = .ok (.getfield 21, 3) := by decide +kernel
theorem dX1_init_48 : decode cX1_init 48 = .ok (.iconst (-1), 1) := by decide +kernel
theorem dX1_init_49 : decode cX1_init 49 = .ok (.invokestatic 24, 3) := by decide +kernel
theorem dX1_init_52 : decode cX1_init 52 = .ok (.return_, 1) := by decide +kernel
theorem dX1_copyFrom_0 : decode cX1_copyFrom 0 = .ok (.aload_n 1, 1) := by decide +kernel
theorem dX1_copyFrom_1 : decode cX1_copyFrom 1 = .ok (.getfield 11, 3) := by decide +kernel
theorem dX1_copyFrom_4 : decode cX1_copyFrom 4 = .ok (.iconst 0, 1) := by decide +kernel
theorem dX1_copyFrom_5 : decode cX1_copyFrom 5 = .ok (.aload_n 0, 1) := by decide +kernel
theorem dX1_copyFrom_6 : decode cX1_copyFrom 6 = .ok (.getfield 11, 3) := by decide +kernel
theorem dX1_copyFrom_9 : decode cX1_copyFrom 9 = .ok (.iconst 0, 1) := by decide +kernel
theorem dX1_copyFrom_10 : decode cX1_copyFrom 10 = .ok (.bipush 61, 2) := by decide +kernel
theorem dX1_copyFrom_12 : decode cX1_copyFrom 12 = .ok (.invokestatic 30, 3) := by decide +kernel
theorem dX1_copyFrom_15 : decode cX1_copyFrom 15 = .ok (.aload_n 1, 1) := by decide +kernel
theorem dX1_copyFrom_16 : decode cX1_copyFrom 16 = .ok (.getfield 15, 3) := by decide +kernel
theorem dX1_copyFrom_19 : decode cX1_copyFrom 19 = .ok (.iconst 0, 1) := by decide +kernel
theorem dX1_copyFrom_20 : decode cX1_copyFrom 20 = .ok (.aload_n 0, 1) := by decide +kernel
theorem dX1_copyFrom_21 : decode cX1_copyFrom 21 = .ok (.getfield 15, 3) := by decide +kernel
theorem dX1_copyFrom_24 : decode cX1_copyFrom 24 = .ok (.iconst 0, 1) := by decide +kernel
theorem dX1_copyFrom_25 : decode cX1_copyFrom 25 = .ok (.bipush 61, 2) := by decide +kernel
theorem dX1_copyFrom_27 : decode cX1_copyFrom 27 = .ok (.invokestatic 30, 3) := by decide +kernel
theorem dX1_copyFrom_30 : decode cX1_copyFrom 30 = .ok (.aload_n 1, 1) := by decide +kernel
theorem dX1_copyFrom_31 : decode cX1_copyFrom 31 = .ok (.getfield 18, 3) := by decide +kernel
theorem dX1_copyFrom_34 : decode cX1_copyFrom 34 = .ok (.iconst 0, 1) := by decide +kernel
theorem dX1_copyFrom_35 : decode cX1_copyFrom 35 = .ok (.aload_n 0, 1) := by decide +kernel
theorem dX1_copyFrom_36 : decode cX1_copyFrom 36 = .ok (.getfield 18, 3) := by decide +kernel
theorem dX1_copyFrom_39 : decode cX1_copyFrom 39 = .ok (.iconst 0, 1) := by decide +kernel
theorem dX1_copyFrom_40 : decode cX1_copyFrom 40 = .ok (.bipush 61, 2) := by decide +kernel
theorem dX1_copyFrom_42 : decode cX1_copyFrom 42 = .ok (.invokestatic 30, 3) := by decide +kernel
theorem dX1_copyFrom_45 : decode cX1_copyFrom 45 = .ok (.aload_n 1, 1) := by decide +kernel
theorem dX1_copyFrom_46 : decode cX1_copyFrom 46 = .ok (.getfield 21, 3) := by decide +kernel
theorem dX1_copyFrom_49 : decode cX1_copyFrom 49 = .ok (.iconst 0, 1) := by decide +kernel
theorem dX1_copyFrom_50 : decode cX1_copyFrom 50 = .ok (.aload_n 0, 1) := by decide +kernel
theorem dX1_copyFrom_51 : decode cX1_copyFrom 51 = .ok (.getfield 21, 3) := by decide +kernel
theorem dX1_copyFrom_54 : decode cX1_copyFrom 54 = .ok (.iconst 0, 1) := by decide +kernel
theorem dX1_copyFrom_55 : decode cX1_copyFrom 55 = .ok (.bipush 61, 2) := by decide +kernel
theorem dX1_copyFrom_57 : decode cX1_copyFrom 57 = .ok (.invokestatic 30, 3) := by decide +kernel
theorem dX1_copyFrom_60 : decode cX1_copyFrom 60 = .ok (.aload_n 0, 1) := by decide +kernel
theorem dX1_copyFrom_61 : decode cX1_copyFrom 61 = .ok (.aload_n 1, 1) := by decide +kernel
theorem dX1_copyFrom_62 : decode cX1_copyFrom 62 = .ok (.getfield 36, 3) := by decide +kernel
theorem dX1_copyFrom_65 : decode cX1_copyFrom 65 = .ok (.putfield 36, 3) := by decide +kernel
theorem dX1_copyFrom_68 : decode cX1_copyFrom 68 = .ok (.aload_n 0, 1) := by decide +kernel
theorem dX1_copyFrom_69 : decode cX1_copyFrom 69 = .ok (.aload_n 1, 1) := by decide +kernel
theorem dX1_copyFrom_70 : decode cX1_copyFrom 70 = .ok (.getfield 40, 3) := by decide +kernel
theorem dX1_copyFrom_73 : decode cX1_copyFrom 73 = .ok (.putfield 40, 3) := by decide +kernel
theorem dX1_copyFrom_76 : decode cX1_copyFrom 76 = .ok (.aload_n 0, 1) := by decide +kernel
theorem dX1_copyFrom_77 : decode cX1_copyFrom 77 = .ok (.aload_n 1, 1) := by decide +kernel
theorem dX1_copyFrom_78 : decode cX1_copyFrom 78 = .ok (.getfield 43, 3) := by decide +kernel
theorem dX1_copyFrom_81 : decode cX1_copyFrom 81 = .ok (.putfield 43, 3) := by decide +kernel
theorem dX1_copyFrom_84 : decode cX1_copyFrom 84 = .ok (.aload_n 0, 1) := by decide +kernel
theorem dX1_copyFrom_85 : decode cX1_copyFrom 85 = .ok (.aload_n 1, 1) := by decide +kernel
theorem dX1_copyFrom_86 : decode cX1_copyFrom 86 = .ok (.getfield 46, 3) := by decide +kernel
theorem dX1_copyFrom_89 : decode cX1_copyFrom 89 = .ok (.putfield 46, 3) := by decide +kernel
theorem dX1_copyFrom_92 : decode cX1_copyFrom 92 = .ok (.aload_n 0, 1) := by decide +kernel
theorem dX1_copyFrom_93 : decode cX1_copyFrom 93 = .ok (.aload_n 1, 1) := by decide +kernel
theorem dX1_copyFrom_94 : decode cX1_copyFrom 94 = .ok (.getfield 49, 3) := by decide +kernel
theorem dX1_copyFrom_97 : decode cX1_copyFrom 97 = .ok (.putfield 49, 3) := by decide +kernel
theorem dX1_copyFrom_100 : decode cX1_copyFrom 100 = .ok (.return_, 1) := by decide +kernel
theorem dX1_start_0 : decode cX1_start 0 = .ok (.aload_n 0, 1) := by decide +kernel
theorem dX1_start_1 : decode cX1_start 1 = .ok (.iload_n 1, 1) := by decide +kernel
theorem dX1_start_2 : decode cX1_start 2 = .ok (.aload_n 2, 1) := by decide +kernel
theorem dX1_start_3 : decode cX1_start 3 = .ok (.getfield 52, 3) := by decide +kernel
theorem dX1_start_6 : decode cX1_start 6 = .ok (.aload_n 2, 1) := by decide +kernel
theorem dX1_start_7 : decode cX1_start 7 = .ok (.getfield 57, 3) := by decide +kernel
theorem dX1_start_10 : decode cX1_start 10 = .ok (.aload_n 2, 1) := by decide +kernel
theorem dX1_start_11 : decode cX1_start 11 = .ok (.getfield 60, 3) := by decide +kernel
theorem dX1_start_14 : decode cX1_start 14 = .ok (.invokevirtual 63, 3) := by decide +kernel
theorem dX1_start_17 : decode cX1_start 17 = .ok (.return_, 1) := by decide +kernel
theorem dX1_enqueue_0 : decode cX1_enqueue 0 = .ok (.aload_n 0, 1) := by decide +kernel
theorem dX1_enqueue_1 : decode cX1_enqueue 1 = .ok (.getfield 11, 3) := by decide +kernel
theorem dX1_enqueue_4 : decode cX1_enqueue 4 = .ok (.iload_n 1, 1) := by decide +kernel
theorem dX1_enqueue_5 : decode cX1_enqueue 5 = .ok (.iload_n 3, 1) := by decide +kernel
theorem dX1_enqueue_6 : decode cX1_enqueue 6 = .ok (.iastore, 1) := by decide +kernel
theorem dX1_enqueue_7 : decode cX1_enqueue 7 = .ok (.aload_n 0, 1) := by decide +kernel
theorem dX1_enqueue_8 : decode cX1_enqueue 8 = .ok (.getfield 15, 3) := by decide +kernel
theorem dX1_enqueue_11 : decode cX1_enqueue 11 = .ok (.iload_n 1, 1) := by decide +kernel
theorem dX1_enqueue_12 : decode cX1_enqueue 12 = .ok (.iload_n 2, 1) := by decide +kernel
theorem dX1_enqueue_13 : decode cX1_enqueue 13 = .ok (.iastore, 1) := by decide +kernel
theorem dX1_enqueue_14 : decode cX1_enqueue 14 = .ok (.aload_n 0, 1) := by decide +kernel
theorem dX1_enqueue_15 : decode cX1_enqueue 15 = .ok (.getfield 18, 3) := by decide +kernel
theorem dX1_enqueue_18 : decode cX1_enqueue 18 = .ok (.iload_n 1, 1) := by decide +kernel
theorem dX1_enqueue_19 : decode cX1_enqueue 19 = .ok (.iload 4, 2) := by decide +kernel
theorem dX1_enqueue_21 : decode cX1_enqueue 21 = .ok (.iastore, 1) := by decide +kernel
theorem dX1_enqueue_22 : decode cX1_enqueue 22 = .ok (.aload_n 0, 1) := by decide +kernel
theorem dX1_enqueue_23 : decode cX1_enqueue 23 = .ok (.iload_n 1, 1) := by decide +kernel
theorem dX1_enqueue_24 : decode cX1_enqueue 24 = .ok (.iconst 1, 1) := by decide +kernel
theorem dX1_enqueue_25 : decode cX1_enqueue 25 = .ok (.iadd, 1) := by decide +kernel
theorem dX1_enqueue_26 : decode cX1_enqueue 26 = .ok (.putfield 49, 3) := by decide +kernel
theorem dX1_enqueue_29 : decode cX1_enqueue 29 = .ok (.return_, 1) := by decide +kernel
theorem dX1_stop_0 : decode cX1_stop 0 = .ok (.aload_n 0, 1) := by decide +kernel
theorem dX1_stop_1 : decode cX1_stop 1 = .ok (.getfield 11, 3) := by decide +kernel
theorem dX1_stop_4 : decode cX1_stop 4 = .ok (.iload_n 1, 1) := by decide +kernel
theorem dX1_stop_5 : decode cX1_stop 5 = .ok (.iconst (-1), 1) := by decide +kernel
theorem dX1_stop_6 : decode cX1_stop 6 = .ok (.iastore, 1) := by decide +kernel
theorem dX1_stop_7 : decode cX1_stop 7 = .ok (.return_, 1) := by decide +kernel
theorem dX1_isRunning_0 : decode cX1_isRunning 0 = .ok (.aload_n 0, 1) := by decide +kernel
theorem dX1_isRunning_1 : decode cX1_isRunning 1 = .ok (.getfield 11, 3) := by decide +kernel
theorem dX1_isRunning_4 : decode cX1_isRunning 4 = .ok (.iload_n 1, 1) := by decide +kernel
theorem dX1_isRunning_5 : decode cX1_isRunning 5 = .ok (.iaload, 1) := by decide +kernel
theorem dX1_isRunning_6 : decode cX1_isRunning 6 = .ok (.iconst (-1), 1) := by decide +kernel
theorem dX1_isRunning_7 : decode cX1_isRunning 7 = .ok (.if_icmp .eq 7, 3) := by decide +kernel
theorem dX1_isRunning_10 : decode cX1_isRunning 10 = .ok (.iconst 1, 1) := by decide +kernel
theorem dX1_isRunning_11 : decode cX1_isRunning 11 = .ok (.goto 4, 3) := by decide +kernel
theorem dX1_isRunning_14 : decode cX1_isRunning 14 = .ok (.iconst 0, 1) := by decide +kernel
theorem dX1_isRunning_15 : decode cX1_isRunning 15 = .ok (.ireturn, 1) := by decide +kernel
theorem dX1_isSent_0 : decode cX1_isSent 0 = .ok (.aload_n 0, 1) := by decide +kernel
theorem dX1_isSent_1 : decode cX1_isSent 1 = .ok (.getfield 11, 3) := by decide +kernel
theorem dX1_isSent_4 : decode cX1_isSent 4 = .ok (.iload_n 1, 1) := by decide +kernel
theorem dX1_isSent_5 : decode cX1_isSent 5 = .ok (.iaload, 1) := by decide +kernel
theorem dX1_isSent_6 : decode cX1_isSent 6 = .ok (.ifCond .ne 7, 3) := by decide +kernel
theorem dX1_isSent_9 : decode cX1_isSent 9 = .ok (.iconst 1, 1) := by decide +kernel
theorem dX1_isSent_10 : decode cX1_isSent 10 = .ok (.goto 4, 3) := by decide +kernel
theorem dX1_isSent_13 : decode cX1_isSent 13 = .ok (.iconst 0, 1) := by decide +kernel
theorem dX1_isSent_14 : decode cX1_isSent 14 = .ok (.ireturn, 1) := by decide +kernel
theorem dX1_hasAtDesk_0 : decode cX1_hasAtDesk 0 = .ok (.aload_n 0, 1) := by decide +kernel
theorem dX1_hasAtDesk_1 : decode cX1_hasAtDesk 1 = .ok (.getfield 11, 3) := by decide +kernel
theorem dX1_hasAtDesk_4 : decode cX1_hasAtDesk 4 = .ok (.iload_n 1, 1) := by decide +kernel
theorem dX1_hasAtDesk_5 : decode cX1_hasAtDesk 5 = .ok (.iaload, 1) := by decide +kernel
theorem dX1_hasAtDesk_6 : decode cX1_hasAtDesk 6 = .ok (.ifCond .ne 22, 3) := by decide +kernel
theorem dX1_hasAtDesk_9 : decode cX1_hasAtDesk 9 = .ok (.aload_n 0, 1) := by decide +kernel
theorem dX1_hasAtDesk_10 : decode cX1_hasAtDesk 10 = .ok (.getfield 21, 3) := by decide +kernel
theorem dX1_hasAtDesk_13 : decode cX1_hasAtDesk 13 = .ok (.iload_n 1, 1) := by decide +kernel
theorem dX1_hasAtDesk_14 : decode cX1_hasAtDesk 14 = .ok (.iaload, 1) := by decide +kernel
theorem dX1_hasAtDesk_15 : decode cX1_hasAtDesk 15 = .ok (.aload_n 0, 1) := by decide +kernel
theorem dX1_hasAtDesk_16 : decode cX1_hasAtDesk 16 = .ok (.getfield 40, 3) := by decide +kernel
theorem dX1_hasAtDesk_19 : decode cX1_hasAtDesk 19 = .ok (.iadd, 1) := by decide +kernel
theorem dX1_hasAtDesk_20 : decode cX1_hasAtDesk 20 = .ok (.iload_n 2, 1) := by decide +kernel
theorem dX1_hasAtDesk_21 : decode cX1_hasAtDesk 21 = .ok (.if_icmp .gt 7, 3) := by decide +kernel
theorem dX1_hasAtDesk_24 : decode cX1_hasAtDesk 24 = .ok (.iconst 1, 1) := by decide +kernel
theorem dX1_hasAtDesk_25 : decode cX1_hasAtDesk 25 = .ok (.goto 4, 3) := by decide +kernel
theorem dX1_hasAtDesk_28 : decode cX1_hasAtDesk 28 = .ok (.iconst 0, 1) := by decide +kernel
theorem dX1_hasAtDesk_29 : decode cX1_hasAtDesk 29 = .ok (.ireturn, 1) := by decide +kernel
theorem dX1_runMinute_0 : decode cX1_runMinute 0 = .ok (.aload_n 0, 1) := by decide +kernel
theorem dX1_runMinute_1 : decode cX1_runMinute 1 = .ok (.getfield 43, 3) := by decide +kernel
theorem dX1_runMinute_4 : decode cX1_runMinute 4 = .ok (.ifCond .le 15, 3) := by decide +kernel
theorem dX1_runMinute_7 : decode cX1_runMinute 7 = .ok (.aload_n 0, 1) := by decide +kernel
theorem dX1_runMinute_8 : decode cX1_runMinute 8 = .ok (.dup, 1) := by decide +kernel
theorem dX1_runMinute_9 : decode cX1_runMinute 9 = .ok (.getfield 43, 3) := by decide +kernel
theorem dX1_runMinute_12 : decode cX1_runMinute 12 = .ok (.iconst 1, 1) := by decide +kernel
theorem dX1_runMinute_13 : decode cX1_runMinute 13 = .ok (.isub, 1) := by decide +kernel
theorem dX1_runMinute_14 : decode cX1_runMinute 14 = .ok (.putfield 43, 3) := by decide +kernel
theorem dX1_runMinute_17 : decode cX1_runMinute 17 = .ok (.iconst 0, 1) := by decide +kernel
theorem dX1_runMinute_18 : decode cX1_runMinute 18 = .ok (.ireturn, 1) := by decide +kernel
theorem dX1_runMinute_19 : decode cX1_runMinute 19 = .ok (.iconst 0, 1) := by decide +kernel
theorem dX1_runMinute_20 : decode cX1_runMinute 20 = .ok (.istore_n 2, 1) := by decide +kernel
theorem dX1_runMinute_21 : decode cX1_runMinute 21 = .ok (.aload_n 0, 1) := by decide +kernel
theorem dX1_runMinute_22 : decode cX1_runMinute 22 = .ok (.getfield 36, 3) := by decide +kernel
theorem dX1_runMinute_25 : decode cX1_runMinute 25 = .ok (.istore_n 3, 1) := by decide +kernel
theorem dX1_runMinute_26 : decode cX1_runMinute 26 = .ok (.iconst 0, 1) := by decide +kernel
theorem dX1_runMinute_27 : decode cX1_runMinute 27 = .ok (.istore 4, 2) := by decide +kernel
theorem dX1_runMinute_29 : decode cX1_runMinute 29 = .ok (.iload 4, 2) := by decide +kernel
theorem dX1_runMinute_31 : decode cX1_runMinute 31 = .ok (.aload_n 0, 1) := by decide +kernel
theorem dX1_runMinute_32 : decode cX1_runMinute 32 = .ok (.getfield 36, 3) := by decide +kernel
theorem dX1_runMinute_35 : decode cX1_runMinute 35 = .ok (.if_icmp .ge 90, 3) := by decide +kernel
theorem dX1_runMinute_38 : decode cX1_runMinute 38 = .ok (.iload_n 3, 1) := by decide +kernel
theorem dX1_runMinute_39 : decode cX1_runMinute 39 = .ok (.ifCond .le 86, 3) := by decide +kernel
theorem dX1_runMinute_42 : decode cX1_runMinute 42 = .ok (.aload_n 0, 1) := by decide +kernel
theorem dX1_runMinute_43 : decode cX1_runMinute 43 = .ok (.iload_n 1, 1) := by decide +kernel
theorem dX1_runMinute_44 : decode cX1_runMinute 44 = .ok (.invokevirtual 67, 3) := by decide +kernel
theorem dX1_runMinute_47 : decode cX1_runMinute 47 = .ok (.istore 5, 2) := by decide +kernel
theorem dX1_runMinute_49 : decode cX1_runMinute 49 = .ok (.iload 5, 2) := by decide +kernel
theorem dX1_runMinute_51 : decode cX1_runMinute 51 = .ok (.iconst (-1), 1) := by decide +kernel
theorem dX1_runMinute_52 : decode cX1_runMinute 52 = .ok (.if_icmp .ne 5, 3) := by decide +kernel
theorem dX1_runMinute_55 : decode cX1_runMinute 55 = .ok (.iload_n 2, 1) := by decide +kernel
theorem dX1_runMinute_56 : decode cX1_runMinute 56 = .ok (.ireturn, 1) := by decide +kernel
theorem dX1_runMinute_57 : decode cX1_runMinute 57 = .ok (.iload_n 3, 1) := by decide +kernel
theorem dX1_runMinute_58 : decode cX1_runMinute 58 = .ok (.aload_n 0, 1) := by decide +kernel
theorem dX1_runMinute_59 : decode cX1_runMinute 59 = .ok (.getfield 11, 3) := by decide +kernel
theorem dX1_runMinute_62 : decode cX1_runMinute 62 = .ok (.iload 5, 2) := by decide +kernel
theorem dX1_runMinute_64 : decode cX1_runMinute 64 = .ok (.iaload, 1) := by decide +kernel
theorem dX1_runMinute_65 : decode cX1_runMinute 65 = .ok (.invokestatic 71, 3) := by decide +kernel
theorem dX1_runMinute_68 : decode cX1_runMinute 68 = .ok (.istore 6, 2) := by decide +kernel
theorem dX1_runMinute_70 : decode cX1_runMinute 70 = .ok (.aload_n 0, 1) := by decide +kernel
theorem dX1_runMinute_71 : decode cX1_runMinute 71 = .ok (.getfield 11, 3) := by decide +kernel
theorem dX1_runMinute_74 : decode cX1_runMinute 74 = .ok (.iload 5, 2) := by decide +kernel
theorem dX1_runMinute_76 : decode cX1_runMinute 76 = .ok (.dup2, 1) := by decide +kernel
theorem dX1_runMinute_77 : decode cX1_runMinute 77 = .ok (.iaload, 1) := by decide +kernel
theorem dX1_runMinute_78 : decode cX1_runMinute 78 = .ok (.iload 6, 2) := by decide +kernel
theorem dX1_runMinute_80 : decode cX1_runMinute 80 = .ok (.isub, 1) := by decide +kernel
theorem dX1_runMinute_81 : decode cX1_runMinute 81 = .ok (.iastore, 1) := by decide +kernel
theorem dX1_runMinute_82 : decode cX1_runMinute 82 = .ok (.iload_n 3, 1) := by decide +kernel
theorem dX1_runMinute_83 : decode cX1_runMinute 83 = .ok (.iload 6, 2) := by decide +kernel
theorem dX1_runMinute_85 : decode cX1_runMinute 85 = .ok (.isub, 1) := by decide +kernel
theorem dX1_runMinute_86 : decode cX1_runMinute 86 = .ok (.istore_n 3, 1) := by decide +kernel
theorem dX1_runMinute_87 : decode cX1_runMinute 87 = .ok (.aload_n 0, 1) := by decide +kernel
theorem dX1_runMinute_88 : decode cX1_runMinute 88 = .ok (.dup, 1) := by decide +kernel
theorem dX1_runMinute_89 : decode cX1_runMinute 89 = .ok (.getfield 46, 3) := by decide +kernel
theorem dX1_runMinute_92 : decode cX1_runMinute 92 = .ok (.iload 6, 2) := by decide +kernel
theorem dX1_runMinute_94 : decode cX1_runMinute 94 = .ok (.iadd, 1) := by decide +kernel
theorem dX1_runMinute_95 : decode cX1_runMinute 95 = .ok (.putfield 46, 3) := by decide +kernel
theorem dX1_runMinute_98 : decode cX1_runMinute 98 = .ok (.aload_n 0, 1) := by decide +kernel
theorem dX1_runMinute_99 : decode cX1_runMinute 99 = .ok (.getfield 11, 3) := by decide +kernel
theorem dX1_runMinute_102 : decode cX1_runMinute 102 = .ok (.iload 5, 2) := by decide +kernel
theorem dX1_runMinute_104 : decode cX1_runMinute 104 = .ok (.iaload, 1) := by decide +kernel
theorem dX1_runMinute_105 : decode cX1_runMinute 105 = .ok (.ifCond .ne 14, 3) := by decide +kernel
theorem dX1_runMinute_108 : decode cX1_runMinute 108 = .ok (.aload_n 0, 1) := by decide +kernel
theorem dX1_runMinute_109 : decode cX1_runMinute 109 = .ok (.getfield 21, 3) := by decide +kernel
theorem dX1_runMinute_112 : decode cX1_runMinute 112 = .ok (.iload 5, 2) := by decide +kernel
theorem dX1_runMinute_114 : decode cX1_runMinute 114 = .ok (.iload_n 1, 1) := by decide +kernel
theorem dX1_runMinute_115 : decode cX1_runMinute 115 = .ok (.iastore, 1) := by decide +kernel
theorem dX1_runMinute_116 : decode cX1_runMinute 116 = .ok (.iinc 2 1, 3) := by decide +kernel
theorem dX1_runMinute_119 : decode cX1_runMinute 119 = .ok (.iinc 4 1, 3) := by decide +kernel
theorem dX1_runMinute_122 : decode cX1_runMinute 122 = .ok (.goto (-93), 3) := by decide +kernel
theorem dX1_runMinute_125 : decode cX1_runMinute 125 = .ok (.iload_n 2, 1) := by decide +kernel
theorem dX1_runMinute_126 : decode cX1_runMinute 126 = .ok (.ireturn, 1) := by decide +kernel
theorem dX1_mostUrgent_0 : decode cX1_mostUrgent 0 = .ok (.iconst (-1), 1) := by decide +kernel
theorem dX1_mostUrgent_1 : decode cX1_mostUrgent 1 = .ok (.istore_n 2, 1) := by decide +kernel
theorem dX1_mostUrgent_2 : decode cX1_mostUrgent 2 = .ok (.iconst 0, 1) := by decide +kernel
theorem dX1_mostUrgent_3 : decode cX1_mostUrgent 3 = .ok (.istore_n 3, 1) := by decide +kernel
theorem dX1_mostUrgent_4 : decode cX1_mostUrgent 4 = .ok (.iload_n 3, 1) := by decide +kernel
theorem dX1_mostUrgent_5 : decode cX1_mostUrgent 5 = .ok (.aload_n 0, 1) := by decide +kernel
theorem dX1_mostUrgent_6 : decode cX1_mostUrgent 6 = .ok (.getfield 49, 3) := by decide +kernel
theorem dX1_mostUrgent_9 : decode cX1_mostUrgent 9 = .ok (.if_icmp .ge 62, 3) := by decide +kernel
theorem dX1_mostUrgent_12 : decode cX1_mostUrgent 12 = .ok (.aload_n 0, 1) := by decide +kernel
theorem dX1_mostUrgent_13 : decode cX1_mostUrgent 13 = .ok (.getfield 11, 3) := by decide +kernel
theorem dX1_mostUrgent_16 : decode cX1_mostUrgent 16 = .ok (.iload_n 3, 1) := by decide +kernel
theorem dX1_mostUrgent_17 : decode cX1_mostUrgent 17 = .ok (.iaload, 1) := by decide +kernel
theorem dX1_mostUrgent_18 : decode cX1_mostUrgent 18 = .ok (.ifCond .le 17, 3) := by decide +kernel
theorem dX1_mostUrgent_21 : decode cX1_mostUrgent 21 = .ok (.aload_n 0, 1) := by decide +kernel
theorem dX1_mostUrgent_22 : decode cX1_mostUrgent 22 = .ok (.getfield 18, 3) := by decide +kernel
theorem dX1_mostUrgent_25 : decode cX1_mostUrgent 25 = .ok (.iload_n 3, 1) := by decide +kernel
theorem dX1_mostUrgent_26 : decode cX1_mostUrgent 26 = .ok (.iaload, 1) := by decide +kernel
theorem dX1_mostUrgent_27 : decode cX1_mostUrgent 27 = .ok (.iload_n 1, 1) := by decide +kernel
theorem dX1_mostUrgent_28 : decode cX1_mostUrgent 28 = .ok (.if_icmp .gt 7, 3) := by decide +kernel
theorem dX1_mostUrgent_31 : decode cX1_mostUrgent 31 = .ok (.iconst 1, 1) := by decide +kernel
theorem dX1_mostUrgent_32 : decode cX1_mostUrgent 32 = .ok (.goto 4, 3) := by decide +kernel
theorem dX1_mostUrgent_35 : decode cX1_mostUrgent 35 = .ok (.iconst 0, 1) := by decide +kernel
theorem dX1_mostUrgent_36 : decode cX1_mostUrgent 36 = .ok (.istore 4, 2) := by decide +kernel
theorem dX1_mostUrgent_38 : decode cX1_mostUrgent 38 = .ok (.iload 4, 2) := by decide +kernel
theorem dX1_mostUrgent_40 : decode cX1_mostUrgent 40 = .ok (.ifCond .eq 25, 3) := by decide +kernel
theorem dX1_mostUrgent_43 : decode cX1_mostUrgent 43 = .ok (.iload_n 2, 1) := by decide +kernel
theorem dX1_mostUrgent_44 : decode cX1_mostUrgent 44 = .ok (.iconst (-1), 1) := by decide +kernel
theorem dX1_mostUrgent_45 : decode cX1_mostUrgent 45 = .ok (.if_icmp .eq 18, 3) := by decide +kernel
theorem dX1_mostUrgent_48 : decode cX1_mostUrgent 48 = .ok (.aload_n 0, 1) := by decide +kernel
theorem dX1_mostUrgent_49 : decode cX1_mostUrgent 49 = .ok (.getfield 15, 3) := by decide +kernel
theorem dX1_mostUrgent_52 : decode cX1_mostUrgent 52 = .ok (.iload_n 3, 1) := by decide +kernel
theorem dX1_mostUrgent_53 : decode cX1_mostUrgent 53 = .ok (.iaload, 1) := by decide +kernel
theorem dX1_mostUrgent_54 : decode cX1_mostUrgent 54 = .ok (.aload_n 0, 1) := by decide +kernel
theorem dX1_mostUrgent_55 : decode cX1_mostUrgent 55 = .ok (.getfield 15, 3) := by decide +kernel
theorem dX1_mostUrgent_58 : decode cX1_mostUrgent 58 = .ok (.iload_n 2, 1) := by decide +kernel
theorem dX1_mostUrgent_59 : decode cX1_mostUrgent 59 = .ok (.iaload, 1) := by decide +kernel
theorem dX1_mostUrgent_60 : decode cX1_mostUrgent 60 = .ok (.if_icmp .ge 5, 3) := by decide +kernel
theorem dX1_mostUrgent_63 : decode cX1_mostUrgent 63 = .ok (.iload_n 3, 1) := by decide +kernel
theorem dX1_mostUrgent_64 : decode cX1_mostUrgent 64 = .ok (.istore_n 2, 1) := by decide +kernel
theorem dX1_mostUrgent_65 : decode cX1_mostUrgent 65 = .ok (.iinc 3 1, 3) := by decide +kernel
theorem dX1_mostUrgent_68 : decode cX1_mostUrgent 68 = .ok (.goto (-64), 3) := by decide +kernel
theorem dX1_mostUrgent_71 : decode cX1_mostUrgent 71 = .ok (.iload_n 2, 1) := by decide +kernel
theorem dX1_mostUrgent_72 : decode cX1_mostUrgent 72 = .ok (.ireturn, 1) := by decide +kernel
theorem dX1_runUntilHad_0 : decode cX1_runUntilHad 0 = .ok (.iconst 1, 1) := by decide +kernel
theorem dX1_runUntilHad_1 : decode cX1_runUntilHad 1 = .ok (.istore_n 3, 1) := by decide +kernel
theorem dX1_runUntilHad_2 : decode cX1_runUntilHad 2 = .ok (.iload_n 3, 1) := by decide +kernel
theorem dX1_runUntilHad_3 : decode cX1_runUntilHad 3 = .ok (.aload_n 0, 1) := by decide +kernel
theorem dX1_runUntilHad_4 : decode cX1_runUntilHad 4 = .ok (.getfield 40, 3) := by decide +kernel
theorem dX1_runUntilHad_7 : decode cX1_runUntilHad 7 = .ok (.iadd, 1) := by decide +kernel
theorem dX1_runUntilHad_8 : decode cX1_runUntilHad 8 = .ok (.bipush 99, 2) := by decide +kernel
theorem dX1_runUntilHad_10 : decode cX1_runUntilHad 10 = .ok (.if_icmp .gt 32, 3) := by decide +kernel
theorem dX1_runUntilHad_13 : decode cX1_runUntilHad 13 = .ok (.aload_n 0, 1) := by decide +kernel
theorem dX1_runUntilHad_14 : decode cX1_runUntilHad 14 = .ok (.iload_n 2, 1) := by decide +kernel
theorem dX1_runUntilHad_15 : decode cX1_runUntilHad 15 = .ok (.iload_n 3, 1) := by decide +kernel
theorem dX1_runUntilHad_16 : decode cX1_runUntilHad 16 = .ok (.iadd, 1) := by decide +kernel
theorem dX1_runUntilHad_17 : decode cX1_runUntilHad 17 = .ok (.invokevirtual 77, 3) := by decide +kernel
theorem dX1_runUntilHad_20 : decode cX1_runUntilHad 20 = .ok (.pop, 1) := by decide +kernel
theorem dX1_runUntilHad_21 : decode cX1_runUntilHad 21 = .ok (.aload_n 0, 1) := by decide +kernel
theorem dX1_runUntilHad_22 : decode cX1_runUntilHad 22 = .ok (.iload_n 1, 1) := by decide +kernel
theorem dX1_runUntilHad_23 : decode cX1_runUntilHad 23 = .ok (.invokevirtual 80, 3) := by decide +kernel
theorem dX1_runUntilHad_26 : decode cX1_runUntilHad 26 = .ok (.ifCond .eq 10, 3) := by decide +kernel
theorem dX1_runUntilHad_29 : decode cX1_runUntilHad 29 = .ok (.iload_n 3, 1) := by decide +kernel
theorem dX1_runUntilHad_30 : decode cX1_runUntilHad 30 = .ok (.aload_n 0, 1) := by decide +kernel
theorem dX1_runUntilHad_31 : decode cX1_runUntilHad 31 = .ok (.getfield 40, 3) := by decide +kernel
theorem dX1_runUntilHad_34 : decode cX1_runUntilHad 34 = .ok (.iadd, 1) := by decide +kernel
theorem dX1_runUntilHad_35 : decode cX1_runUntilHad 35 = .ok (.ireturn, 1) := by decide +kernel
theorem dX1_runUntilHad_36 : decode cX1_runUntilHad 36 = .ok (.iinc 3 1, 3) := by decide +kernel
theorem dX1_runUntilHad_39 : decode cX1_runUntilHad 39 = .ok (.goto (-37), 3) := by decide +kernel
theorem dX1_runUntilHad_42 : decode cX1_runUntilHad 42 = .ok (.iconst (-1), 1) := by decide +kernel
theorem dX1_runUntilHad_43 : decode cX1_runUntilHad 43 = .ok (.ireturn, 1) := by decide +kernel
theorem dX1_countWaiting_0 : decode cX1_countWaiting 0 = .ok (.iconst 0, 1) := by decide +kernel
theorem dX1_countWaiting_1 : decode cX1_countWaiting 1 = .ok (.istore_n 1, 1) := by decide +kernel
theorem dX1_countWaiting_2 : decode cX1_countWaiting 2 = .ok (.iconst 0, 1) := by decide +kernel
theorem dX1_countWaiting_3 : decode cX1_countWaiting 3 = .ok (.istore_n 2, 1) := by decide +kernel
theorem dX1_countWaiting_4 : decode cX1_countWaiting 4 = .ok (.iload_n 2, 1) := by decide +kernel
theorem dX1_countWaiting_5 : decode cX1_countWaiting 5 = .ok (.aload_n 0, 1) := by decide +kernel
theorem dX1_countWaiting_6 : decode cX1_countWaiting 6 = .ok (.getfield 49, 3) := by decide +kernel
theorem dX1_countWaiting_9 : decode cX1_countWaiting 9 = .ok (.if_icmp .ge 21, 3) := by decide +kernel
theorem dX1_countWaiting_12 : decode cX1_countWaiting 12 = .ok (.aload_n 0, 1) := by decide +kernel
theorem dX1_countWaiting_13 : decode cX1_countWaiting 13 = .ok (.getfield 11, 3) := by decide +kernel
theorem dX1_countWaiting_16 : decode cX1_countWaiting 16 = .ok (.iload_n 2, 1) := by decide +kernel
theorem dX1_countWaiting_17 : decode cX1_countWaiting 17 = .ok (.iaload, 1) := by decide +kernel
theorem dX1_countWaiting_18 : decode cX1_countWaiting 18 = .ok (.ifCond .le 6, 3) := by decide +kernel
theorem dX1_countWaiting_21 : decode cX1_countWaiting 21 = .ok (.iinc 1 1, 3) := by decide +kernel
theorem dX1_countWaiting_24 : decode cX1_countWaiting 24 = .ok (.iinc 2 1, 3) := by decide +kernel
theorem dX1_countWaiting_27 : decode cX1_countWaiting 27 = .ok (.goto (-23), 3) := by decide +kernel
theorem dX1_countWaiting_30 : decode cX1_countWaiting 30 = .ok (.iload_n 1, 1) := by decide +kernel
theorem dX1_countWaiting_31 : decode cX1_countWaiting 31 = .ok (.ireturn, 1) := by decide +kernel
theorem dX1_countWordsLeft_0 : decode cX1_countWordsLeft 0 = .ok (.iconst 0, 1) := by decide +kernel
theorem dX1_countWordsLeft_1 : decode cX1_countWordsLeft 1 = .ok (.istore_n 1, 1) := by decide +kernel
theorem dX1_countWordsLeft_2 : decode cX1_countWordsLeft 2 = .ok (.iconst 0, 1) := by decide +kernel
theorem dX1_countWordsLeft_3 : decode cX1_countWordsLeft 3 = .ok (.istore_n 2, 1) := by decide +kernel
theorem dX1_countWordsLeft_4 : decode cX1_countWordsLeft 4 = .ok (.iload_n 2, 1) := by decide +kernel
theorem dX1_countWordsLeft_5 : decode cX1_countWordsLeft 5 = .ok (.aload_n 0, 1) := by decide +kernel
theorem dX1_countWordsLeft_6 : decode cX1_countWordsLeft 6 = .ok (.getfield 49, 3) := by decide +kernel
theorem dX1_countWordsLeft_9 : decode cX1_countWordsLeft 9 = .ok (.if_icmp .ge 27, 3) := by decide +kernel
theorem dX1_countWordsLeft_12 : decode cX1_countWordsLeft 12 = .ok (.aload_n 0, 1) := by decide +kernel
theorem dX1_countWordsLeft_13 : decode cX1_countWordsLeft 13 = .ok (.getfield 11, 3) := by decide +kernel
theorem dX1_countWordsLeft_16 : decode cX1_countWordsLeft 16 = .ok (.iload_n 2, 1) := by decide +kernel
theorem dX1_countWordsLeft_17 : decode cX1_countWordsLeft 17 = .ok (.iaload, 1) := by decide +kernel
theorem dX1_countWordsLeft_18 : decode cX1_countWordsLeft 18 = .ok (.ifCond .le 12, 3) := by decide +kernel
theorem dX1_countWordsLeft_21 : decode cX1_countWordsLeft 21 = .ok (.iload_n 1, 1) := by decide +kernel
theorem dX1_countWordsLeft_22 : decode cX1_countWordsLeft 22 = .ok (.aload_n 0, 1) := by decide +kernel
theorem dX1_countWordsLeft_23 : decode cX1_countWordsLeft 23 = .ok (.getfield 11, 3) := by decide +kernel
theorem dX1_countWordsLeft_26 : decode cX1_countWordsLeft 26 = .ok (.iload_n 2, 1) := by decide +kernel
theorem dX1_countWordsLeft_27 : decode cX1_countWordsLeft 27 = .ok (.iaload, 1) := by decide +kernel
theorem dX1_countWordsLeft_28 : decode cX1_countWordsLeft 28 = .ok (.iadd, 1) := by decide +kernel
theorem dX1_countWordsLeft_29 : decode cX1_countWordsLeft 29 = .ok (.istore_n 1, 1) := by decide +kernel
theorem dX1_countWordsLeft_30 : decode cX1_countWordsLeft 30 = .ok (.iinc 2 1, 3) := by decide +kernel
theorem dX1_countWordsLeft_33 : decode cX1_countWordsLeft 33 = .ok (.goto (-29), 3) := by decide +kernel
theorem dX1_countWordsLeft_36 : decode cX1_countWordsLeft 36 = .ok (.iload_n 1, 1) := by decide +kernel
theorem dX1_countWordsLeft_37 : decode cX1_countWordsLeft 37 = .ok (.ireturn, 1) := by decide +kernel
theorem dX2_init_0 : decode cX2_init 0 = .ok (.aload_n 0, 1) := by decide +kernel
theorem dX2_init_1 : decode cX2_init 1 = .ok (.invokespecial 3, 3) := by decide +kernel
theorem dX2_init_4 : decode cX2_init 4 = .ok (.aload_n 0, 1) := by decide +kernel
theorem dX2_init_5 : decode cX2_init 5 = .ok (.bipush 10, 2) := by decide +kernel
theorem dX2_init_7 : decode cX2_init 7 = .ok (.newarray .int, 2) := by decide +kernel
theorem dX2_init_9 : decode cX2_init 9 = .ok (.putfield 9, 3) := by decide +kernel
theorem dX2_init_12 : decode cX2_init 12 = .ok (.aload_n 0, 1) := by decide +kernel
theorem dX2_init_13 : decode cX2_init 13 = .ok (.bipush 10, 2) := by decide +kernel
theorem dX2_init_15 : decode cX2_init 15 = .ok (.newarray .int, 2) := by decide +kernel
theorem dX2_init_17 : decode cX2_init 17 = .ok (.putfield 15, 3) := by decide +kernel
theorem dX2_init_20 : decode cX2_init 20 = .ok (.return_, 1) := by decide +kernel
theorem dX2_add_0 : decode cX2_add 0 = .ok (.aload_n 0, 1) := by decide +kernel
theorem dX2_add_1 : decode cX2_add 1 = .ok (.getfield 18, 3) := by decide +kernel
theorem dX2_add_4 : decode cX2_add 4 = .ok (.istore_n 3, 1) := by decide +kernel
theorem dX2_add_5 : decode cX2_add 5 = .ok (.aload_n 0, 1) := by decide +kernel
theorem dX2_add_6 : decode cX2_add 6 = .ok (.dup, 1) := by decide +kernel
theorem dX2_add_7 : decode cX2_add 7 = .ok (.getfield 18, 3) := by decide +kernel
theorem dX2_add_10 : decode cX2_add 10 = .ok (.iconst 1, 1) := by decide +kernel
theorem dX2_add_11 : decode cX2_add 11 = .ok (.iadd, 1) := by decide +kernel
theorem dX2_add_12 : decode cX2_add 12 = .ok (.putfield 18, 3) := by decide +kernel
theorem dX2_add_15 : decode cX2_add 15 = .ok (.aload_n 0, 1) := by decide +kernel
theorem dX2_add_16 : decode cX2_add 16 = .ok (.getfield 9, 3) := by decide +kernel
theorem dX2_add_19 : decode cX2_add 19 = .ok (.iload_n 3, 1) := by decide +kernel
theorem dX2_add_20 : decode cX2_add 20 = .ok (.iload_n 1, 1) := by decide +kernel
theorem dX2_add_21 : decode cX2_add 21 = .ok (.iastore, 1) := by decide +kernel
theorem dX2_add_22 : decode cX2_add 22 = .ok (.aload_n 0, 1) := by decide +kernel
theorem dX2_add_23 : decode cX2_add 23 = .ok (.getfield 15, 3) := by decide +kernel
theorem dX2_add_26 : decode cX2_add 26 = .ok (.iload_n 3, 1) := by decide +kernel
theorem dX2_add_27 : decode cX2_add 27 = .ok (.iload_n 2, 1) := by decide +kernel
theorem dX2_add_28 : decode cX2_add 28 = .ok (.iconst (-1), 1) := by decide +kernel
theorem dX2_add_29 : decode cX2_add 29 = .ok (.if_icmp .ne 7, 3) := by decide +kernel
theorem dX2_add_32 : decode cX2_add 32 = .ok (.iload_n 3, 1) := by decide +kernel
theorem dX2_add_33 : decode cX2_add 33 = .ok (.goto 9, 3) := by decide +kernel
theorem dX2_add_36 : decode cX2_add 36 = .ok (.aload_n 0, 1) := by decide +kernel
theorem dX2_add_37 : decode cX2_add 37 = .ok (.getfield 15, 3) := by decide +kernel
theorem dX2_add_40 : decode cX2_add 40 = .ok (.iload_n 2, 1) := by decide +kernel
theorem dX2_add_41 : decode cX2_add 41 = .ok (.iaload, 1) := by decide +kernel
theorem dX2_add_42 : decode cX2_add 42 = .ok (.iastore, 1) := by decide +kernel
theorem dX2_add_43 : decode cX2_add 43 = .ok (.iload_n 3, 1) := by decide +kernel
theorem dX2_add_44 : decode cX2_add 44 = .ok (.ireturn, 1) := by decide +kernel
theorem dX3_init_0 : decode cX3_init 0 = .ok (.aload_n 0, 1) := by decide +kernel
theorem dX3_init_1 : decode cX3_init 1 = .ok (.invokespecial 3, 3) := by decide +kernel
theorem dX3_init_4 : decode cX3_init 4 = .ok (.aload_n 0, 1) := by decide +kernel
theorem dX3_init_5 : decode cX3_init 5 = .ok (.iconst 4, 1) := by decide +kernel
theorem dX3_init_6 : decode cX3_init 6 = .ok (.newarray .int, 2) := by decide +kernel
theorem dX3_init_8 : decode cX3_init 8 = .ok (.putfield 9, 3) := by decide +kernel
theorem dX3_init_11 : decode cX3_init 11 = .ok (.aload_n 0, 1) := by decide +kernel
theorem dX3_init_12 : decode cX3_init 12 = .ok (.iconst (-1), 1) := by decide +kernel
theorem dX3_init_13 : decode cX3_init 13 = .ok (.putfield 15, 3) := by decide +kernel
theorem dX3_init_16 : decode cX3_init 16 = .ok (.aload_n 0, 1) := by decide +kernel
theorem dX3_init_17 : decode cX3_init 17 = .ok (.iconst (-1), 1) := by decide +kernel
theorem dX3_init_18 : decode cX3_init 18 = .ok (.putfield 19, 3) := by decide +kernel
theorem dX3_init_21 : decode cX3_init 21 = .ok (.return_, 1) := by decide +kernel
theorem dX4_init_0 : decode cX4_init 0 = .ok (.aload_n 0, 1) := by decide +kernel
theorem dX4_init_1 : decode cX4_init 1 = .ok (.invokespecial 3, 3) := by decide +kernel
theorem dX4_init_4 : decode cX4_init 4 = .ok (.aload_n 0, 1) := by decide +kernel
theorem dX4_init_5 : decode cX4_init 5 = .ok (.bipush 10, 2) := by decide +kernel
theorem dX4_init_7 : decode cX4_init 7 = .ok (.newarray .int, 2) := by decide +kernel
theorem dX4_init_9 : decode cX4_init 9 = .ok (.putfield 9, 3) := by decide +kernel
theorem dX4_init_12 : decode cX4_init 12 = .ok (.return_, 1) := by decide +kernel
theorem dX4_weigh_0 : decode cX4_weigh 0 = .ok (.aload_n 0, 1) := by decide +kernel
theorem dX4_weigh_1 : decode cX4_weigh 1 = .ok (.getfield 9, 3) := by decide +kernel
theorem dX4_weigh_4 : decode cX4_weigh 4 = .ok (.iconst 0, 1) := by decide +kernel
theorem dX4_weigh_5 : decode cX4_weigh 5 = .ok (.invokestatic 15, 3) := by decide +kernel
theorem dX4_weigh_8 : decode cX4_weigh 8 = .ok (.iconst 0, 1) := by decide +kernel
theorem dX4_weigh_9 : decode cX4_weigh 9 = .ok (.istore 4, 2) := by decide +kernel
theorem dX4_weigh_11 : decode cX4_weigh 11 = .ok (.iload 4, 2) := by decide +kernel
theorem dX4_weigh_13 : decode cX4_weigh 13 = .ok (.aload_n 1, 1) := by decide +kernel
theorem dX4_weigh_14 : decode cX4_weigh 14 = .ok (.getfield 21, 3) := by decide +kernel
theorem dX4_weigh_17 : decode cX4_weigh 17 = .ok (.if_icmp .ge 50, 3) := by decide +kernel
theorem dX4_weigh_20 : decode cX4_weigh 20 = .ok (.aload_n 2, 1) := by decide +kernel
theorem dX4_weigh_21 : decode cX4_weigh 21 = .ok (.iload 4, 2) := by decide +kernel
theorem dX4_weigh_23 : decode cX4_weigh 23 = .ok (.iaload, 1) := by decide +kernel
theorem dX4_weigh_24 : decode cX4_weigh 24 = .ok (.iload_n 3, 1) := by decide +kernel
theorem dX4_weigh_25 : decode cX4_weigh 25 = .ok (.if_icmp .ne 36, 3) := by decide +kernel
theorem dX4_weigh_28 : decode cX4_weigh 28 = .ok (.aload_n 1, 1) := by decide +kernel
theorem dX4_weigh_29 : decode cX4_weigh 29 = .ok (.getfield 27, 3) := by decide +kernel
theorem dX4_weigh_32 : decode cX4_weigh 32 = .ok (.iload 4, 2) := by decide +kernel
theorem dX4_weigh_34 : decode cX4_weigh 34 = .ok (.iaload, 1) := by decide +kernel
theorem dX4_weigh_35 : decode cX4_weigh 35 = .ok (.istore 5, 2) := by decide +kernel
theorem dX4_weigh_37 : decode cX4_weigh 37 = .ok (.aload_n 0, 1) := by decide +kernel
theorem dX4_weigh_38 : decode cX4_weigh 38 = .ok (.getfield 9, 3) := by decide +kernel
theorem dX4_weigh_41 : decode cX4_weigh 41 = .ok (.iload 5, 2) := by decide +kernel
theorem dX4_weigh_43 : decode cX4_weigh 43 = .ok (.aload_n 0, 1) := by decide +kernel
theorem dX4_weigh_44 : decode cX4_weigh 44 = .ok (.getfield 9, 3) := by decide +kernel
theorem dX4_weigh_47 : decode cX4_weigh 47 = .ok (.iload 5, 2) := by decide +kernel
theorem dX4_weigh_49 : decode cX4_weigh 49 = .ok (.iaload, 1) := by decide +kernel
theorem dX4_weigh_50 : decode cX4_weigh 50 = .ok (.aload_n 1, 1) := by decide +kernel
theorem dX4_weigh_51 : decode cX4_weigh 51 = .ok (.getfield 30, 3) := by decide +kernel
theorem dX4_weigh_54 : decode cX4_weigh 54 = .ok (.iload 4, 2) := by decide +kernel
theorem dX4_weigh_56 : decode cX4_weigh 56 = .ok (.iaload, 1) := by decide +kernel
theorem dX4_weigh_57 : decode cX4_weigh 57 = .ok (.invokestatic 33, 3) := by decide +kernel
theorem dX4_weigh_60 : decode cX4_weigh 60 = .ok (.iastore, 1) := by decide +kernel
theorem dX4_weigh_61 : decode cX4_weigh 61 = .ok (.iinc 4 1, 3) := by decide +kernel
theorem dX4_weigh_64 : decode cX4_weigh 64 = .ok (.goto (-53), 3) := by decide +kernel
theorem dX4_weigh_67 : decode cX4_weigh 67 = .ok (.aload_n 0, 1) := by decide +kernel
theorem dX4_weigh_68 : decode cX4_weigh 68 = .ok (.iconst 0, 1) := by decide +kernel
theorem dX4_weigh_69 : decode cX4_weigh 69 = .ok (.putfield 39, 3) := by decide +kernel
theorem dX4_weigh_72 : decode cX4_weigh 72 = .ok (.aload_n 0, 1) := by decide +kernel
theorem dX4_weigh_73 : decode cX4_weigh 73 = .ok (.iconst 0, 1) := by decide +kernel
theorem dX4_weigh_74 : decode cX4_weigh 74 = .ok (.putfield 42, 3) := by decide +kernel
theorem dX4_weigh_77 : decode cX4_weigh 77 = .ok (.aload_n 0, 1) := by decide +kernel
theorem dX4_weigh_78 : decode cX4_weigh 78 = .ok (.iconst 0, 1) := by decide +kernel
theorem dX4_weigh_79 : decode cX4_weigh 79 = .ok (.putfield 45, 3) := by decide +kernel
theorem dX4_weigh_82 : decode cX4_weigh 82 = .ok (.aload_n 0, 1) := by decide +kernel
theorem dX4_weigh_83 : decode cX4_weigh 83 = .ok (.iconst 0, 1) := by decide +kernel
theorem dX4_weigh_84 : decode cX4_weigh 84 = .ok (.putfield 48, 3) := by decide +kernel
theorem dX4_weigh_87 : decode cX4_weigh 87 = .ok (.iconst 0, 1) := by decide +kernel
theorem dX4_weigh_88 : decode cX4_weigh 88 = .ok (.istore 4, 2) := by decide +kernel
theorem dX4_weigh_90 : decode cX4_weigh 90 = .ok (.iload 4, 2) := by decide +kernel
theorem dX4_weigh_92 : decode cX4_weigh 92 = .ok (.aload_n 1, 1) := by decide +kernel
theorem dX4_weigh_93 : decode cX4_weigh 93 = .ok (.getfield 21, 3) := by decide +kernel
theorem dX4_weigh_96 : decode cX4_weigh 96 = .ok (.if_icmp .ge 30, 3) := by decide +kernel
theorem dX4_weigh_99 : decode cX4_weigh 99 = .ok (.aload_n 0, 1) := by decide +kernel
theorem dX4_weigh_100 : decode cX4_weigh 100 = .ok (.getfield 9, 3) := by decide +kernel
theorem dX4_weigh_103 : decode cX4_weigh 103 = .ok (.iload 4, 2) := by decide +kernel
theorem dX4_weigh_105 : decode cX4_weigh 105 = .ok (.iaload, 1) := by decide +kernel
theorem dX4_weigh_106 : decode cX4_weigh 106 = .ok (.ifCond .le 14, 3) := by decide +kernel
theorem dX4_weigh_109 : decode cX4_weigh 109 = .ok (.aload_n 0, 1) := by decide +kernel
theorem dX4_weigh_110 : decode cX4_weigh 110 = .ok (.aload_n 0, 1) := by decide +kernel
theorem dX4_weigh_111 : decode cX4_weigh 111 = .ok (.getfield 9, 3) := by decide +kernel
theorem dX4_weigh_114 : decode cX4_weigh 114 = .ok (.iload 4, 2) := by decide +kernel
theorem dX4_weigh_116 : decode cX4_weigh 116 = .ok (.iaload, 1) := by decide +kernel
theorem dX4_weigh_117 : decode cX4_weigh 117 = .ok (.invokevirtual 51, 3) := by decide +kernel
theorem dX4_weigh_120 : decode cX4_weigh 120 = .ok (.iinc 4 1, 3) := by decide +kernel
theorem dX4_weigh_123 : decode cX4_weigh 123 = .ok (.goto (-33), 3) := by decide +kernel
theorem dX4_weigh_126 : decode cX4_weigh 126 = .ok (.return_, 1) := by decide +kernel
theorem dX4_addRoot_0 : decode cX4_addRoot 0 = .ok (.aload_n 0, 1) := by decide +kernel
theorem dX4_addRoot_1 : decode cX4_addRoot 1 = .ok (.dup, 1) := by decide +kernel
theorem dX4_addRoot_2 : decode cX4_addRoot 2 = .ok (.getfield 39, 3) := by decide +kernel
theorem dX4_addRoot_5 : decode cX4_addRoot 5 = .ok (.iconst 1, 1) := by decide +kernel
theorem dX4_addRoot_6 : decode cX4_addRoot 6 = .ok (.iadd, 1) := by decide +kernel
theorem dX4_addRoot_7 : decode cX4_addRoot 7 = .ok (.putfield 39, 3) := by decide +kernel
theorem dX4_addRoot_10 : decode cX4_addRoot 10 = .ok (.aload_n 0, 1) := by decide +kernel
theorem dX4_addRoot_11 : decode cX4_addRoot 11 = .ok (.dup, 1) := by decide +kernel
theorem dX4_addRoot_12 : decode cX4_addRoot 12 = .ok (.getfield 48, 3) := by decide +kernel
theorem dX4_addRoot_15 : decode cX4_addRoot 15 = .ok (.iload_n 1, 1) := by decide +kernel
theorem dX4_addRoot_16 : decode cX4_addRoot 16 = .ok (.iadd, 1) := by decide +kernel
theorem dX4_addRoot_17 : decode cX4_addRoot 17 = .ok (.putfield 48, 3) := by decide +kernel
theorem dX4_addRoot_20 : decode cX4_addRoot 20 = .ok (.iload_n 1, 1) := by decide +kernel
theorem dX4_addRoot_21 : decode cX4_addRoot 21 = .ok (.iconst 3, 1) := by decide +kernel
theorem dX4_addRoot_22 : decode cX4_addRoot 22 = .ok (.if_icmp .ne 16, 3) := by decide +kernel
theorem dX4_addRoot_25 : decode cX4_addRoot 25 = .ok (.aload_n 0, 1) := by decide +kernel
theorem dX4_addRoot_26 : decode cX4_addRoot 26 = .ok (.dup, 1) := by decide +kernel
theorem dX4_addRoot_27 : decode cX4_addRoot 27 = .ok (.getfield 45, 3) := by decide +kernel
theorem dX4_addRoot_30 : decode cX4_addRoot 30 = .ok (.iconst 1, 1) := by decide +kernel
theorem dX4_addRoot_31 : decode cX4_addRoot 31 = .ok (.iadd, 1) := by decide +kernel
theorem dX4_addRoot_32 : decode cX4_addRoot 32 = .ok (.putfield 45, 3) := by decide +kernel
theorem dX4_addRoot_35 : decode cX4_addRoot 35 = .ok (.goto 18, 3) := by decide +kernel
theorem dX4_addRoot_38 : decode cX4_addRoot 38 = .ok (.iload_n 1, 1) := by decide +kernel
theorem dX4_addRoot_39 : decode cX4_addRoot 39 = .ok (.iconst 2, 1) := by decide +kernel
theorem dX4_addRoot_40 : decode cX4_addRoot 40 = .ok (.if_icmp .ne 13, 3) := by decide +kernel
theorem dX4_addRoot_43 : decode cX4_addRoot 43 = .ok (.aload_n 0, 1) := by decide +kernel
theorem dX4_addRoot_44 : decode cX4_addRoot 44 = .ok (.dup, 1) := by decide +kernel
theorem dX4_addRoot_45 : decode cX4_addRoot 45 = .ok (.getfield 42, 3) := by decide +kernel
theorem dX4_addRoot_48 : decode cX4_addRoot 48 = .ok (.iconst 1, 1) := by decide +kernel
theorem dX4_addRoot_49 : decode cX4_addRoot 49 = .ok (.iadd, 1) := by decide +kernel
theorem dX4_addRoot_50 : decode cX4_addRoot 50 = .ok (.putfield 42, 3) := by decide +kernel
theorem dX4_addRoot_53 : decode cX4_addRoot 53 = .ok (.return_, 1) := by decide +kernel
theorem dX4_proofGrade_0 : decode cX4_proofGrade 0 = .ok (.aload_n 0, 1) := by decide +kernel
theorem dX4_proofGrade_1 : decode cX4_proofGrade 1 = .ok (.getfield 45, 3) := by decide +kernel
theorem dX4_proofGrade_4 : decode cX4_proofGrade 4 = .ok (.ifCond .le 5, 3) := by decide +kernel
theorem dX4_proofGrade_7 : decode cX4_proofGrade 7 = .ok (.iconst 3, 1) := by decide +kernel
theorem dX4_proofGrade_8 : decode cX4_proofGrade 8 = .ok (.ireturn, 1) := by decide +kernel
theorem dX4_proofGrade_9 : decode cX4_proofGrade 9 = .ok (.aload_n 0, 1) := by decide +kernel
theorem dX4_proofGrade_10 : decode cX4_proofGrade 10 = .ok (.getfield 42, 3) := by decide +kernel
theorem dX4_proofGrade_13 : decode cX4_proofGrade 13 = .ok (.iconst 2, 1) := by decide +kernel
theorem dX4_proofGrade_14 : decode cX4_proofGrade 14 = .ok (.if_icmp .lt 5, 3) := by decide +kernel
theorem dX4_proofGrade_17 : decode cX4_proofGrade 17 = .ok (.iconst 2, 1) := by decide +kernel
theorem dX4_proofGrade_18 : decode cX4_proofGrade 18 = .ok (.ireturn, 1) := by decide +kernel
theorem dX4_proofGrade_19 : decode cX4_proofGrade 19 = .ok (.aload_n 0, 1) := by decide +kernel
theorem dX4_proofGrade_20 : decode cX4_proofGrade 20 = .ok (.getfield 39, 3) := by decide +kernel
theorem dX4_proofGrade_23 : decode cX4_proofGrade 23 = .ok (.iconst 3, 1) := by decide +kernel
theorem dX4_proofGrade_24 : decode cX4_proofGrade 24 = .ok (.if_icmp .lt 7, 3) := by decide +kernel
theorem dX4_proofGrade_27 : decode cX4_proofGrade 27 = .ok (.iconst 1, 1) := by decide +kernel
theorem dX4_proofGrade_28 : decode cX4_proofGrade 28 = .ok (.goto 4, 3) := by decide +kernel
theorem dX4_proofGrade_31 : decode cX4_proofGrade 31 = .ok (.iconst 0, 1) := by decide +kernel
theorem dX4_proofGrade_32 : decode cX4_proofGrade 32 = .ok (.ireturn, 1) := by decide +kernel
theorem dX5_init_0 : decode cX5_init 0 = .ok (.aload_n 0, 1) := by decide +kernel
theorem dX5_init_1 : decode cX5_init 1 = .ok (.invokespecial 1, 3) := by decide +kernel
theorem dX5_init_4 : decode cX5_init 4 = .ok (.aload_n 0, 1) := by decide +kernel
theorem dX5_init_5 : decode cX5_init 5 = .ok (.new 7, 3) := by decide +kernel
theorem dX5_init_8 : decode cX5_init 8 = .ok (.dup, 1) := by decide +kernel
theorem dX5_init_9 : decode cX5_init 9 = .ok (.invokespecial 9, 3) := by decide +kernel
theorem dX5_init_12 : decode cX5_init 12 = .ok (.putfield 10, 3) := by decide +kernel
theorem dX5_init_15 : decode cX5_init 15 = .ok (.aload_n 0, 1) := by decide +kernel
theorem dX5_init_16 : decode cX5_init 16 = .ok (.new 16, 3) := by decide +kernel
theorem dX5_init_19 : decode cX5_init 19 = .ok (.dup, 1) := by decide +kernel
theorem dX5_init_20 : decode cX5_init 20 = .ok (.invokespecial 18, 3) := by decide +kernel
theorem dX5_init_23 : decode cX5_init 23 = .ok (.putfield 19, 3) := by decide +kernel
theorem dX5_init_26 : decode cX5_init 26 = .ok (.aload_n 0, 1) := by decide +kernel
theorem dX5_init_27 : decode cX5_init 27 = .ok (.bipush 24, 2) := by decide +kernel
theorem dX5_init_29 : decode cX5_init 29 = .ok (.anewarray 23, 3) := by decide +kernel
theorem dX5_init_32 : decode cX5_init 32 = .ok (.putfield 25, 3) := by decide +kernel
theorem dX5_init_35 : decode cX5_init 35 = .ok (.iconst 0, 1) := by decide +kernel
theorem dX5_init_36 : decode cX5_init 36 = .ok (.istore_n 1, 1) := by decide +kernel
theorem dX5_init_37 : decode cX5_init 37 = .ok (.iload_n 1, 1) := by decide +kernel
theorem dX5_init_38 : decode cX5_init 38 = .ok (.aload_n 0, 1) := by decide +kernel
theorem dX5_init_39 : decode cX5_init 39 = .ok (.getfield 25, 3) := by decide +kernel
theorem dX5_init_42 : decode cX5_init 42 = .ok (.arraylength, 1) := by decide +kernel
theorem dX5_init_43 : decode cX5_init 43 = .ok (.if_icmp .ge 22, 3) := by decide +kernel
theorem dX5_init_46 : decode cX5_init 46 = .ok (.aload_n 0, 1) := by decide +kernel
theorem dX5_init_47 : decode cX5_init 47 = .ok (.getfield 25, 3) := by decide +kernel
theorem dX5_init_50 : decode cX5_init 50 = .ok (.iload_n 1, 1) := by decide +kernel
theorem dX5_init_51 : decode cX5_init 51 = .ok (.new 23, 3) := by decide +kernel
theorem dX5_init_54 : decode cX5_init 54 = .ok (.dup, 1) := by decide +kernel
theorem dX5_init_55 : decode cX5_init 55 = .ok (.invokespecial 29, 3) := by decide +kernel
theorem dX5_init_58 : decode cX5_init 58 = .ok (.aastore, 1) := by decide +kernel
theorem dX5_init_59 : decode cX5_init 59 = .ok (.iinc 1 1, 3) := by decide +kernel
theorem dX5_init_62 : decode cX5_init 62 = .ok (.goto (-25), 3) := by decide +kernel
theorem dX5_init_65 : decode cX5_init 65 = .ok (.aload_n 0, 1) := by decide +kernel
theorem dX5_init_66 : decode cX5_init 66 = .ok (.bipush 60, 2) := by decide +kernel
theorem dX5_init_68 : decode cX5_init 68 = .ok (.anewarray 30, 3) := by decide +kernel
theorem dX5_init_71 : decode cX5_init 71 = .ok (.putfield 32, 3) := by decide +kernel
theorem dX5_init_74 : decode cX5_init 74 = .ok (.iconst 0, 1) := by decide +kernel
theorem dX5_init_75 : decode cX5_init 75 = .ok (.istore_n 1, 1) := by decide +kernel
theorem dX5_init_76 : decode cX5_init 76 = .ok (.iload_n 1, 1) := by decide +kernel
theorem dX5_init_77 : decode cX5_init 77 = .ok (.aload_n 0, 1) := by decide +kernel
theorem dX5_init_78 : decode cX5_init 78 = .ok (.getfield 32, 3) := by decide +kernel
theorem dX5_init_81 : decode cX5_init 81 = .ok (.arraylength, 1) := by decide +kernel
theorem dX5_init_82 : decode cX5_init 82 = .ok (.if_icmp .ge 22, 3) := by decide +kernel
theorem dX5_init_85 : decode cX5_init 85 = .ok (.aload_n 0, 1) := by decide +kernel
theorem dX5_init_86 : decode cX5_init 86 = .ok (.getfield 32, 3) := by decide +kernel
theorem dX5_init_89 : decode cX5_init 89 = .ok (.iload_n 1, 1) := by decide +kernel
theorem dX5_init_90 : decode cX5_init 90 = .ok (.new 30, 3) := by decide +kernel
theorem dX5_init_93 : decode cX5_init 93 = .ok (.dup, 1) := by decide +kernel
theorem dX5_init_94 : decode cX5_init 94 = .ok (.invokespecial 36, 3) := by decide +kernel
theorem dX5_init_97 : decode cX5_init 97 = .ok (.aastore, 1) := by decide +kernel
theorem dX5_init_98 : decode cX5_init 98 = .ok (.iinc 1 1, 3) := by decide +kernel
theorem dX5_init_101 : decode cX5_init 101 = .ok (.goto (-25), 3) := by decide +kernel
theorem dX5_init_104 : decode cX5_init 104 = .ok (.aload_n 0, 1) := by decide +kernel
theorem dX5_init_105 : decode cX5_init 105 = .ok (.iconst 4, 1) := by decide +kernel
theorem dX5_init_106 : decode cX5_init 106 = .ok (.anewarray 37, 3) := by decide +kernel
theorem dX5_init_109 : decode cX5_init 109 = .ok (.putfield 39, 3) := by decide +kernel
theorem dX5_init_112 : decode cX5_init 112 = .ok (.iconst 0, 1) := by decide +kernel
theorem dX5_init_113 : decode cX5_init 113 = .ok (.istore_n 1, 1) := by decide +kernel
theorem dX5_init_114 : decode cX5_init 114 = .ok (.iload_n 1, 1) := by decide +kernel
theorem dX5_init_115 : decode cX5_init 115 = .ok (.aload_n 0, 1) := by decide +kernel
theorem dX5_init_116 : decode cX5_init 116 = .ok (.getfield 39, 3) := by decide +kernel
theorem dX5_init_119 : decode cX5_init 119 = .ok (.arraylength, 1) := by decide +kernel
theorem dX5_init_120 : decode cX5_init 120 = .ok (.if_icmp .ge 22, 3) := by decide +kernel
theorem dX5_init_123 : decode cX5_init 123 = .ok (.aload_n 0, 1) := by decide +kernel
theorem dX5_init_124 : decode cX5_init 124 = .ok (.getfield 39, 3) := by decide +kernel
theorem dX5_init_127 : decode cX5_init 127 = .ok (.iload_n 1, 1) := by decide +kernel
theorem dX5_init_128 : decode cX5_init 128 = .ok (.new 37, 3) := by decide +kernel
theorem dX5_init_131 : decode cX5_init 131 = .ok (.dup, 1) := by decide +kernel
theorem dX5_init_132 : decode cX5_init 132 = .ok (.invokespecial 43, 3) := by decide +kernel
theorem dX5_init_135 : decode cX5_init 135 = .ok (.aastore, 1) := by decide +kernel
theorem dX5_init_136 : decode cX5_init 136 = .ok (.iinc 1 1, 3) := by decide +kernel
theorem dX5_init_139 : decode cX5_init 139 = .ok (.goto (-25), 3) := by decide +kernel
theorem dX5_init_142 : decode cX5_init 142 = .ok (.aload_n 0, 1) := by decide +kernel
theorem dX5_init_143 : decode cX5_init 143 = .ok (.new 37, 3) := by decide +kernel
theorem dX5_init_146 : decode cX5_init 146 = .ok (.dup, 1) := by decide +kernel
theorem dX5_init_147 : decode cX5_init 147 = .ok (.invokespecial 43, 3) := by decide +kernel
theorem dX5_init_150 : decode cX5_init 150 = .ok (.putfield 44, 3) := by decide +kernel
theorem dX5_init_153 : decode cX5_init 153 = .ok (.return_, 1) := by decide +kernel
theorem dX5_source_0 : decode cX5_source 0 = .ok (.iload_n 2, 1) := by decide +kernel
theorem dX5_source_1 : decode cX5_source 1 = .ok (.iconst (-1), 1) := by decide +kernel
theorem dX5_source_2 : decode cX5_source 2 = .ok (.if_icmp .eq 8, 3) := by decide +kernel
theorem dX5_source_5 : decode cX5_source 5 = .ok (.aload_n 0, 1) := by decide +kernel
theorem dX5_source_6 : decode cX5_source 6 = .ok (.iload_n 2, 1) := by decide +kernel
theorem dX5_source_7 : decode cX5_source 7 = .ok (.invokevirtual 48, 3) := by decide +kernel
theorem dX5_source_10 : decode cX5_source 10 = .ok (.iload_n 1, 1) := by decide +kernel
theorem dX5_source_11 : decode cX5_source 11 = .ok (.invokestatic 52, 3) := by decide +kernel
theorem dX5_source_14 : decode cX5_source 14 = .ok (.aload_n 0, 1) := by decide +kernel
theorem dX5_source_15 : decode cX5_source 15 = .ok (.getfield 10, 3) := by decide +kernel
theorem dX5_source_18 : decode cX5_source 18 = .ok (.getfield 55, 3) := by decide +kernel
theorem dX5_source_21 : decode cX5_source 21 = .ok (.bipush 10, 2) := by decide +kernel
theorem dX5_source_23 : decode cX5_source 23 = .ok (.if_icmp .lt 13, 3) := by decide +kernel
theorem dX5_source_26 : decode cX5_source 26 = .ok (.new 59, 3) := by decide +kernel
theorem dX5_source_29 : decode cX5_source 29 = .ok (.dup, 1) := by decide +kernel
theorem dX5_source_30 : decode cX5_source 30 = .ok (.ldc 61, 2) := by decide +kernel
theorem dX5_source_32 : decode cX5_source 32 = .ok (.invokespecial 63, 3) := by decide +kernel
theorem dX5_source_35 : decode cX5_source 35 = .ok (.athrow, 1) := by decide +kernel
theorem dX5_source_36 : decode cX5_source 36 = .ok (.aload_n 0, 1) := by decide +kernel
theorem dX5_source_37 : decode cX5_source 37 = .ok (.getfield 10, 3) := by decide +kernel
theorem dX5_source_40 : decode cX5_source 40 = .ok (.iload_n 1, 1) := by decide +kernel
theorem dX5_source_41 : decode cX5_source 41 = .ok (.iload_n 2, 1) := by decide +kernel
theorem dX5_source_42 : decode cX5_source 42 = .ok (.invokevirtual 66, 3) := by decide +kernel
theorem dX5_source_45 : decode cX5_source 45 = .ok (.ireturn, 1) := by decide +kernel
theorem dX5_story_0 : decode cX5_story 0 = .ok (.aload_n 0, 1) := by decide +kernel
theorem dX5_story_1 : decode cX5_story 1 = .ok (.getfield 70, 3) := by decide +kernel
theorem dX5_story_4 : decode cX5_story 4 = .ok (.bipush 6, 2) := by decide +kernel
theorem dX5_story_6 : decode cX5_story 6 = .ok (.if_icmp .lt 13, 3) := by decide +kernel
theorem dX5_story_9 : decode cX5_story 9 = .ok (.new 59, 3) := by decide +kernel
theorem dX5_story_12 : decode cX5_story 12 = .ok (.dup, 1) := by decide +kernel
theorem dX5_story_13 : decode cX5_story 13 = .ok (.ldc 73, 2) := by decide +kernel
theorem dX5_story_15 : decode cX5_story 15 = .ok (.invokespecial 63, 3) := by decide +kernel
theorem dX5_story_18 : decode cX5_story 18 = .ok (.athrow, 1) := by decide +kernel
theorem dX5_story_19 : decode cX5_story 19 = .ok (.aload_n 0, 1) := by decide +kernel
theorem dX5_story_20 : decode cX5_story 20 = .ok (.dup, 1) := by decide +kernel
theorem dX5_story_21 : decode cX5_story 21 = .ok (.getfield 70, 3) := by decide +kernel
theorem dX5_story_24 : decode cX5_story 24 = .ok (.iconst 1, 1) := by decide +kernel
theorem dX5_story_25 : decode cX5_story 25 = .ok (.iadd, 1) := by decide +kernel
theorem dX5_story_26 : decode cX5_story 26 = .ok (.putfield 70, 3) := by decide +kernel
theorem dX5_story_29 : decode cX5_story 29 = .ok (.aload_n 0, 1) := by decide +kernel
theorem dX5_story_30 : decode cX5_story 30 = .ok (.getfield 70, 3) := by decide +kernel
theorem dX5_story_33 : decode cX5_story 33 = .ok (.iconst 1, 1) := by decide +kernel
theorem dX5_story_34 : decode cX5_story 34 = .ok (.isub, 1) := by decide +kernel
theorem dX5_story_35 : decode cX5_story 35 = .ok (.ireturn, 1) := by decide +kernel
theorem dX5_line_0 : decode cX5_line 0 = .ok (.iload_n 1, 1) := by decide +kernel
theorem dX5_line_1 : decode cX5_line 1 = .ok (.iconst 1, 1) := by decide +kernel
theorem dX5_line_2 : decode cX5_line 2 = .ok (.if_icmp .lt 19, 3) := by decide +kernel
theorem dX5_line_5 : decode cX5_line 5 = .ok (.iload_n 1, 1) := by decide +kernel
theorem dX5_line_6 : decode cX5_line 6 = .ok (.bipush 60, 2) := by decide +kernel
theorem dX5_line_8 : decode cX5_line 8 = .ok (.if_icmp .gt 13, 3) := by decide +kernel
theorem dX5_line_11 : decode cX5_line 11 = .ok (.iload_n 2, 1) := by decide +kernel
theorem dX5_line_12 : decode cX5_line 12 = .ok (.ifCond .lt 9, 3) := by decide +kernel
theorem dX5_line_15 : decode cX5_line 15 = .ok (.iload_n 2, 1) := by decide +kernel
theorem dX5_line_16 : decode cX5_line 16 = .ok (.bipush 9, 2) := by decide +kernel
theorem dX5_line_18 : decode cX5_line 18 = .ok (.if_icmp .le 13, 3) := by decide +kernel
theorem dX5_line_21 : decode cX5_line 21 = .ok (.new 75, 3) := by decide +kernel
theorem dX5_line_24 : decode cX5_line 24 = .ok (.dup, 1) := by decide +kernel
theorem dX5_line_25 : decode cX5_line 25 = .ok (.ldc 77, 2) := by decide +kernel
theorem dX5_line_27 : decode cX5_line 27 = .ok (.invokespecial 79, 3) := by decide +kernel
theorem dX5_line_30 : decode cX5_line 30 = .ok (.athrow, 1) := by decide +kernel
theorem dX5_line_31 : decode cX5_line 31 = .ok (.aload_n 0, 1) := by decide +kernel
theorem dX5_line_32 : decode cX5_line 32 = .ok (.getfield 80, 3) := by decide +kernel
theorem dX5_line_35 : decode cX5_line 35 = .ok (.iconst 4, 1) := by decide +kernel
theorem dX5_line_36 : decode cX5_line 36 = .ok (.if_icmp .lt 13, 3) := by decide +kernel
theorem dX5_line_39 : decode cX5_line 39 = .ok (.new 59, 3) := by decide +kernel
theorem dX5_line_42 : decode cX5_line 42 = .ok (.dup, 1) := by decide +kernel
theorem dX5_line_43 : decode cX5_line 43 = .ok (.ldc 83, 2) := by decide +kernel
theorem dX5_line_45 : decode cX5_line 45 = .ok (.invokespecial 63, 3) := by decide +kernel
theorem dX5_line_48 : decode cX5_line 48 = .ok (.athrow, 1) := by decide +kernel
theorem dX5_line_49 : decode cX5_line 49 = .ok (.aload_n 0, 1) := by decide +kernel
theorem dX5_line_50 : decode cX5_line 50 = .ok (.getfield 39, 3) := by decide +kernel
theorem dX5_line_53 : decode cX5_line 53 = .ok (.aload_n 0, 1) := by decide +kernel
theorem dX5_line_54 : decode cX5_line 54 = .ok (.getfield 80, 3) := by decide +kernel
theorem dX5_line_57 : decode cX5_line 57 = .ok (.aaload, 1) := by decide +kernel
theorem dX5_line_58 : decode cX5_line 58 = .ok (.iload_n 1, 1) := by decide +kernel
theorem dX5_line_59 : decode cX5_line 59 = .ok (.putfield 85, 3) := by decide +kernel
theorem dX5_line_62 : decode cX5_line 62 = .ok (.aload_n 0, 1) := by decide +kernel
theorem dX5_line_63 : decode cX5_line 63 = .ok (.getfield 39, 3) := by decide +kernel
theorem dX5_line_66 : decode cX5_line 66 = .ok (.aload_n 0, 1) := by decide +kernel
theorem dX5_line_67 : decode cX5_line 67 = .ok (.getfield 80, 3) := by decide +kernel
theorem dX5_line_70 : decode cX5_line 70 = .ok (.aaload, 1) := by decide +kernel
theorem dX5_line_71 : decode cX5_line 71 = .ok (.iload_n 2, 1) := by decide +kernel
theorem dX5_line_72 : decode cX5_line 72 = .ok (.putfield 88, 3) := by decide +kernel
theorem dX5_line_75 : decode cX5_line 75 = .ok (.aload_n 0, 1) := by decide +kernel
theorem dX5_line_76 : decode cX5_line 76 = .ok (.dup, 1) := by decide +kernel
theorem dX5_line_77 : decode cX5_line 77 = .ok (.getfield 80, 3) := by decide +kernel
theorem dX5_line_80 : decode cX5_line 80 = .ok (.iconst 1, 1) := by decide +kernel
theorem dX5_line_81 : decode cX5_line 81 = .ok (.iadd, 1) := by decide +kernel
theorem dX5_line_82 : decode cX5_line 82 = .ok (.putfield 80, 3) := by decide +kernel
theorem dX5_line_85 : decode cX5_line 85 = .ok (.aload_n 0, 1) := by decide +kernel
theorem dX5_line_86 : decode cX5_line 86 = .ok (.getfield 80, 3) := by decide +kernel
theorem dX5_line_89 : decode cX5_line 89 = .ok (.iconst 1, 1) := by decide +kernel
theorem dX5_line_90 : decode cX5_line 90 = .ok (.isub, 1) := by decide +kernel
theorem dX5_line_91 : decode cX5_line 91 = .ok (.ireturn, 1) := by decide +kernel
theorem dX5_report_0 : decode cX5_report 0 = .ok (.aload_n 0, 1) := by decide +kernel
theorem dX5_report_1 : decode cX5_report 1 = .ok (.iload_n 1, 1) := by decide +kernel
theorem dX5_report_2 : decode cX5_report 2 = .ok (.invokevirtual 48, 3) := by decide +kernel
theorem dX5_report_5 : decode cX5_report 5 = .ok (.aload_n 0, 1) := by decide +kernel
theorem dX5_report_6 : decode cX5_report 6 = .ok (.iload_n 2, 1) := by decide +kernel
theorem dX5_report_7 : decode cX5_report 7 = .ok (.iload_n 3, 1) := by decide +kernel
theorem dX5_report_8 : decode cX5_report 8 = .ok (.invokevirtual 91, 3) := by decide +kernel
theorem dX5_report_11 : decode cX5_report 11 = .ok (.iload 4, 2) := by decide +kernel
theorem dX5_report_13 : decode cX5_report 13 = .ok (.invokestatic 95, 3) := by decide +kernel
theorem dX5_report_16 : decode cX5_report 16 = .ok (.aload_n 0, 1) := by decide +kernel
theorem dX5_report_17 : decode cX5_report 17 = .ok (.iload_n 2, 1) := by decide +kernel
theorem dX5_report_18 : decode cX5_report 18 = .ok (.iload_n 3, 1) := by decide +kernel
theorem dX5_report_19 : decode cX5_report 19 = .ok (.invokevirtual 98, 3) := by decide +kernel
theorem dX5_report_22 : decode cX5_report 22 = .ok (.astore 5, 2) := by decide +kernel
theorem dX5_report_24 : decode cX5_report 24 = .ok (.aload 5, 2) := by decide +kernel
theorem dX5_report_26 : decode cX5_report 26 = .ok (.getfield 102, 3) := by decide +kernel
theorem dX5_report_29 : decode cX5_report 29 = .ok (.iload_n 1, 1) := by decide +kernel
theorem dX5_report_30 : decode cX5_report 30 = .ok (.iload 4, 2) := by decide +kernel
theorem dX5_report_32 : decode cX5_report 32 = .ok (.iastore, 1) := by decide +kernel
theorem dX5_report_33 : decode cX5_report 33 = .ok (.aload 5, 2) := by decide +kernel
theorem dX5_report_35 : decode cX5_report 35 = .ok (.aload_n 0, 1) := by decide +kernel
theorem dX5_report_36 : decode cX5_report 36 = .ok (.getfield 10, 3) := by decide +kernel
theorem dX5_report_39 : decode cX5_report 39 = .ok (.aload_n 0, 1) := by decide +kernel
theorem dX5_report_40 : decode cX5_report 40 = .ok (.getfield 19, 3) := by decide +kernel
theorem dX5_report_43 : decode cX5_report 43 = .ok (.invokevirtual 106, 3) := by decide +kernel
theorem dX5_report_46 : decode cX5_report 46 = .ok (.aload_n 0, 1) := by decide +kernel
theorem dX5_report_47 : decode cX5_report 47 = .ok (.getfield 19, 3) := by decide +kernel
theorem dX5_report_50 : decode cX5_report 50 = .ok (.aload_n 0, 1) := by decide +kernel
theorem dX5_report_51 : decode cX5_report 51 = .ok (.getfield 10, 3) := by decide +kernel
theorem dX5_report_54 : decode cX5_report 54 = .ok (.aload 5, 2) := by decide +kernel
theorem dX5_report_56 : decode cX5_report 56 = .ok (.getfield 102, 3) := by decide +kernel
theorem dX5_report_59 : decode cX5_report 59 = .ok (.iload 4, 2) := by decide +kernel
theorem dX5_report_61 : decode cX5_report 61 = .ok (.invokevirtual 110, 3) := by decide +kernel
theorem dX5_report_64 : decode cX5_report 64 = .ok (.aload_n 0, 1) := by decide +kernel
theorem dX5_report_65 : decode cX5_report 65 = .ok (.getfield 19, 3) := by decide +kernel
theorem dX5_report_68 : decode cX5_report 68 = .ok (.invokevirtual 114, 3) := by decide +kernel
theorem dX5_report_71 : decode cX5_report 71 = .ok (.ireturn, 1) := by decide +kernel
theorem dX5_retract_0 : decode cX5_retract 0 = .ok (.aload_n 0, 1) := by decide +kernel
theorem dX5_retract_1 : decode cX5_retract 1 = .ok (.iload_n 1, 1) := by decide +kernel
theorem dX5_retract_2 : decode cX5_retract 2 = .ok (.invokevirtual 48, 3) := by decide +kernel
theorem dX5_retract_5 : decode cX5_retract 5 = .ok (.aload_n 0, 1) := by decide +kernel
theorem dX5_retract_6 : decode cX5_retract 6 = .ok (.iload_n 2, 1) := by decide +kernel
theorem dX5_retract_7 : decode cX5_retract 7 = .ok (.iload_n 3, 1) := by decide +kernel
theorem dX5_retract_8 : decode cX5_retract 8 = .ok (.invokevirtual 91, 3) := by decide +kernel
theorem dX5_retract_11 : decode cX5_retract 11 = .ok (.aload_n 0, 1) := by decide +kernel
theorem dX5_retract_12 : decode cX5_retract 12 = .ok (.iload_n 2, 1) := by decide +kernel
theorem dX5_retract_13 : decode cX5_retract 13 = .ok (.iload_n 3, 1) := by decide +kernel
theorem dX5_retract_14 : decode cX5_retract 14 = .ok (.invokevirtual 98, 3) := by decide +kernel
theorem dX5_retract_17 : decode cX5_retract 17 = .ok (.astore 4, 2) := by decide +kernel
theorem dX5_retract_19 : decode cX5_retract 19 = .ok (.aload 4, 2) := by decide +kernel
theorem dX5_retract_21 : decode cX5_retract 21 = .ok (.getfield 102, 3) := by decide +kernel
theorem dX5_retract_24 : decode cX5_retract 24 = .ok (.iload_n 1, 1) := by decide +kernel
theorem dX5_retract_25 : decode cX5_retract 25 = .ok (.iaload, 1) := by decide +kernel
theorem dX5_retract_26 : decode cX5_retract 26 = .ok (.istore 5, 2) := by decide +kernel
theorem dX5_retract_28 : decode cX5_retract 28 = .ok (.iload 5, 2) := by decide +kernel
theorem dX5_retract_30 : decode cX5_retract 30 = .ok (.iconst (-1), 1) := by decide +kernel
theorem dX5_retract_31 : decode cX5_retract 31 = .ok (.if_icmp .ne 13, 3) := by decide +kernel
theorem dX5_retract_34 : decode cX5_retract 34 = .ok (.new 59, 3) := by decide +kernel
theorem dX5_retract_37 : decode cX5_retract 37 = .ok (.dup, 1) := by decide +kernel
theorem dX5_retract_38 : decode cX5_retract 38 = .ok (.ldc 118, 2) := by decide +kernel
theorem dX5_retract_40 : decode cX5_retract 40 = .ok (.invokespecial 63, 3) := by decide +kernel
theorem dX5_retract_43 : decode cX5_retract 43 = .ok (.athrow, 1) := by decide +kernel
theorem dX5_retract_44 : decode cX5_retract 44 = .ok (.aload 4, 2) := by decide +kernel
theorem dX5_retract_46 : decode cX5_retract 46 = .ok (.getfield 102, 3) := by decide +kernel
theorem dX5_retract_49 : decode cX5_retract 49 = .ok (.iload_n 1, 1) := by decide +kernel
theorem dX5_retract_50 : decode cX5_retract 50 = .ok (.iconst (-1), 1) := by decide +kernel
theorem dX5_retract_51 : decode cX5_retract 51 = .ok (.iastore, 1) := by decide +kernel
theorem dX5_retract_52 : decode cX5_retract 52 = .ok (.aload 4, 2) := by decide +kernel
theorem dX5_retract_54 : decode cX5_retract 54 = .ok (.aload_n 0, 1) := by decide +kernel
theorem dX5_retract_55 : decode cX5_retract 55 = .ok (.getfield 10, 3) := by decide +kernel
theorem dX5_retract_58 : decode cX5_retract 58 = .ok (.aload_n 0, 1) := by decide +kernel
theorem dX5_retract_59 : decode cX5_retract 59 = .ok (.getfield 19, 3) := by decide +kernel
theorem dX5_retract_62 : decode cX5_retract 62 = .ok (.invokevirtual 106, 3) := by decide +kernel
theorem dX5_retract_65 : decode cX5_retract 65 = .ok (.iload 5, 2) := by decide +kernel
theorem dX5_retract_67 : decode cX5_retract 67 = .ok (.ireturn, 1) := by decide +kernel
theorem dX5_rival_0 : decode cX5_rival 0 = .ok (.aload_n 0, 1) := by decide +kernel
theorem dX5_rival_1 : decode cX5_rival 1 = .ok (.iload_n 1, 1) := by decide +kernel
theorem dX5_rival_2 : decode cX5_rival 2 = .ok (.iload_n 2, 1) := by decide +kernel
theorem dX5_rival_3 : decode cX5_rival 3 = .ok (.invokevirtual 91, 3) := by decide +kernel
theorem dX5_rival_6 : decode cX5_rival 6 = .ok (.aload_n 0, 1) := by decide +kernel
theorem dX5_rival_7 : decode cX5_rival 7 = .ok (.iload_n 1, 1) := by decide +kernel
theorem dX5_rival_8 : decode cX5_rival 8 = .ok (.iload_n 2, 1) := by decide +kernel
theorem dX5_rival_9 : decode cX5_rival 9 = .ok (.invokevirtual 98, 3) := by decide +kernel
theorem dX5_rival_12 : decode cX5_rival 12 = .ok (.astore_n 3, 1) := by decide +kernel
theorem dX5_rival_13 : decode cX5_rival 13 = .ok (.aload_n 3, 1) := by decide +kernel
theorem dX5_rival_14 : decode cX5_rival 14 = .ok (.getfield 120, 3) := by decide +kernel
theorem dX5_rival_17 : decode cX5_rival 17 = .ok (.iconst (-1), 1) := by decide +kernel
theorem dX5_rival_18 : decode cX5_rival 18 = .ok (.if_icmp .eq 5, 3) := by decide +kernel
theorem dX5_rival_21 : decode cX5_rival 21 = .ok (.iconst 0, 1) := by decide +kernel
theorem dX5_rival_22 : decode cX5_rival 22 = .ok (.ireturn, 1) := by decide +kernel
theorem dX5_rival_23 : decode cX5_rival 23 = .ok (.aload_n 3, 1) := by decide +kernel
theorem dX5_rival_24 : decode cX5_rival 24 = .ok (.aload_n 0, 1) := by decide +kernel
theorem dX5_rival_25 : decode cX5_rival 25 = .ok (.getfield 123, 3) := by decide +kernel
theorem dX5_rival_28 : decode cX5_rival 28 = .ok (.putfield 120, 3) := by decide +kernel
theorem dX5_rival_31 : decode cX5_rival 31 = .ok (.iconst 1, 1) := by decide +kernel
theorem dX5_rival_32 : decode cX5_rival 32 = .ok (.ireturn, 1) := by decide +kernel
theorem dX5_down_0 : decode cX5_down 0 = .ok (.aload_n 0, 1) := by decide +kernel
theorem dX5_down_1 : decode cX5_down 1 = .ok (.iload_n 1, 1) := by decide +kernel
theorem dX5_down_2 : decode cX5_down 2 = .ok (.invokevirtual 126, 3) := by decide +kernel
theorem dX5_down_5 : decode cX5_down 5 = .ok (.iload_n 2, 1) := by decide +kernel
theorem dX5_down_6 : decode cX5_down 6 = .ok (.ifCond .lt 9, 3) := by decide +kernel
theorem dX5_down_9 : decode cX5_down 9 = .ok (.iload_n 2, 1) := by decide +kernel
theorem dX5_down_10 : decode cX5_down 10 = .ok (.bipush 99, 2) := by decide +kernel
theorem dX5_down_12 : decode cX5_down 12 = .ok (.if_icmp .le 13, 3) := by decide +kernel
theorem dX5_down_15 : decode cX5_down 15 = .ok (.new 75, 3) := by decide +kernel
theorem dX5_down_18 : decode cX5_down 18 = .ok (.dup, 1) := by decide +kernel
theorem dX5_down_19 : decode cX5_down 19 = .ok (.ldc 129, 2) := by decide +kernel
theorem dX5_down_21 : decode cX5_down 21 = .ok (.invokespecial 79, 3) := by decide +kernel
theorem dX5_down_24 : decode cX5_down 24 = .ok (.athrow, 1) := by decide +kernel
theorem dX5_down_25 : decode cX5_down 25 = .ok (.aload_n 0, 1) := by decide +kernel
theorem dX5_down_26 : decode cX5_down 26 = .ok (.getfield 39, 3) := by decide +kernel
theorem dX5_down_29 : decode cX5_down 29 = .ok (.iload_n 1, 1) := by decide +kernel
theorem dX5_down_30 : decode cX5_down 30 = .ok (.aaload, 1) := by decide +kernel
theorem dX5_down_31 : decode cX5_down 31 = .ok (.getfield 131, 3) := by decide +kernel
theorem dX5_down_34 : decode cX5_down 34 = .ok (.istore_n 3, 1) := by decide +kernel
theorem dX5_down_35 : decode cX5_down 35 = .ok (.aload_n 0, 1) := by decide +kernel
theorem dX5_down_36 : decode cX5_down 36 = .ok (.getfield 39, 3) := by decide +kernel
theorem dX5_down_39 : decode cX5_down 39 = .ok (.iload_n 1, 1) := by decide +kernel
theorem dX5_down_40 : decode cX5_down 40 = .ok (.aaload, 1) := by decide +kernel
theorem dX5_down_41 : decode cX5_down 41 = .ok (.iload_n 2, 1) := by decide +kernel
theorem dX5_down_42 : decode cX5_down 42 = .ok (.putfield 131, 3) := by decide +kernel
theorem dX5_down_45 : decode cX5_down 45 = .ok (.iload_n 3, 1) := by decide +kernel
theorem dX5_down_46 : decode cX5_down 46 = .ok (.ireturn, 1) := by decide +kernel
theorem dX5_file_0 : decode cX5_file 0 = .ok (.aload_n 0, 1) := by decide +kernel
theorem dX5_file_1 : decode cX5_file 1 = .ok (.iload_n 1, 1) := by decide +kernel
theorem dX5_file_2 : decode cX5_file 2 = .ok (.invokevirtual 134, 3) := by decide +kernel
theorem dX5_file_5 : decode cX5_file 5 = .ok (.iload_n 2, 1) := by decide +kernel
theorem dX5_file_6 : decode cX5_file 6 = .ok (.ifCond .eq 13, 3) := by decide +kernel
theorem dX5_file_9 : decode cX5_file 9 = .ok (.iload_n 2, 1) := by decide +kernel
theorem dX5_file_10 : decode cX5_file 10 = .ok (.iconst 3, 1) := by decide +kernel
theorem dX5_file_11 : decode cX5_file 11 = .ok (.if_icmp .eq 8, 3) := by decide +kernel
theorem dX5_file_14 : decode cX5_file 14 = .ok (.iload_n 2, 1) := by decide +kernel
theorem dX5_file_15 : decode cX5_file 15 = .ok (.iconst 4, 1) := by decide +kernel
theorem dX5_file_16 : decode cX5_file 16 = .ok (.if_icmp .ne 7, 3) := by decide +kernel
theorem dX5_file_19 : decode cX5_file 19 = .ok (.iconst 1, 1) := by decide +kernel
theorem dX5_file_20 : decode cX5_file 20 = .ok (.goto 4, 3) := by decide +kernel
theorem dX5_file_23 : decode cX5_file 23 = .ok (.iconst 0, 1) := by decide +kernel
theorem dX5_file_24 : decode cX5_file 24 = .ok (.istore 6, 2) := by decide +kernel
theorem dX5_file_26 : decode cX5_file 26 = .ok (.iload 6, 2) := by decide +kernel
theorem dX5_file_28 : decode cX5_file 28 = .ok (.ifCond .eq 27, 3) := by decide +kernel
theorem dX5_file_31 : decode cX5_file 31 = .ok (.iload_n 3, 1) := by decide +kernel
theorem dX5_file_32 : decode cX5_file 32 = .ok (.iconst 1, 1) := by decide +kernel
theorem dX5_file_33 : decode cX5_file 33 = .ok (.if_icmp .lt 22, 3) := by decide +kernel
theorem dX5_file_36 : decode cX5_file 36 = .ok (.iload_n 3, 1) := by decide +kernel
theorem dX5_file_37 : decode cX5_file 37 = .ok (.bipush 15, 2) := by decide +kernel
theorem dX5_file_39 : decode cX5_file 39 = .ok (.if_icmp .gt 16, 3) := by decide +kernel
theorem dX5_file_42 : decode cX5_file 42 = .ok (.iload 5, 2) := by decide +kernel
theorem dX5_file_44 : decode cX5_file 44 = .ok (.ifCond .lt 11, 3) := by decide +kernel
theorem dX5_file_47 : decode cX5_file 47 = .ok (.iload 5, 2) := by decide +kernel
theorem dX5_file_49 : decode cX5_file 49 = .ok (.sipush 9999, 3) := by decide +kernel
theorem dX5_file_52 : decode cX5_file 52 = .ok (.if_icmp .le 13, 3) := by decide +kernel
theorem dX5_file_55 : decode cX5_file 55 = .ok (.new 75, 3) := by decide +kernel
theorem dX5_file_58 : decode cX5_file 58 = .ok (.dup, 1) := by decide +kernel
theorem dX5_file_59 : decode cX5_file 59 = .ok (.ldc 137, 2) := by decide +kernel
theorem dX5_file_61 : decode cX5_file 61 = .ok (.invokespecial 79, 3) := by decide +kernel
theorem dX5_file_64 : decode cX5_file 64 = .ok (.athrow, 1) := by decide +kernel
theorem dX5_file_65 : decode cX5_file 65 = .ok (.aload_n 0, 1) := by decide +kernel
theorem dX5_file_66 : decode cX5_file 66 = .ok (.invokevirtual 139, 3) := by decide +kernel
theorem dX5_file_69 : decode cX5_file 69 = .ok (.aload_n 0, 1) := by decide +kernel
theorem dX5_file_70 : decode cX5_file 70 = .ok (.iload_n 1, 1) := by decide +kernel
theorem dX5_file_71 : decode cX5_file 71 = .ok (.iload_n 3, 1) := by decide +kernel
theorem dX5_file_72 : decode cX5_file 72 = .ok (.iload 4, 2) := by decide +kernel
theorem dX5_file_74 : decode cX5_file 74 = .ok (.invokevirtual 142, 3) := by decide +kernel
theorem dX5_file_77 : decode cX5_file 77 = .ok (.ifCond .ne 6, 3) := by decide +kernel
theorem dX5_file_80 : decode cX5_file 80 = .ok (.bipush (-2), 2) := by decide +kernel
theorem dX5_file_82 : decode cX5_file 82 = .ok (.ireturn, 1) := by decide +kernel
theorem dX5_file_83 : decode cX5_file 83 = .ok (.iload_n 2, 1) := by decide +kernel
theorem dX5_file_84 : decode cX5_file 84 = .ok (.ifCond .ne 14, 3) := by decide +kernel
theorem dX5_file_87 : decode cX5_file 87 = .ok (.iload_n 3, 1) := by decide +kernel
theorem dX5_file_88 : decode cX5_file 88 = .ok (.invokestatic 146, 3) := by decide +kernel
theorem dX5_file_91 : decode cX5_file 91 = .ok (.iconst 1, 1) := by decide +kernel
theorem dX5_file_92 : decode cX5_file 92 = .ok (.if_icmp .eq 6, 3) := by decide +kernel
theorem dX5_file_95 : decode cX5_file 95 = .ok (.bipush (-3), 2) := by decide +kernel
theorem dX5_file_97 : decode cX5_file 97 = .ok (.ireturn, 1) := by decide +kernel
theorem dX5_file_98 : decode cX5_file 98 = .ok (.aload_n 0, 1) := by decide +kernel
theorem dX5_file_99 : decode cX5_file 99 = .ok (.iload_n 1, 1) := by decide +kernel
theorem dX5_file_100 : decode cX5_file 100 = .ok (.iload_n 2, 1) := by decide +kernel
theorem dX5_file_101 : decode cX5_file 101 = .ok (.iload_n 3, 1) := by decide +kernel
theorem dX5_file_102 : decode cX5_file 102 = .ok (.iload 4, 2) := by decide +kernel
theorem dX5_file_104 : decode cX5_file 104 = .ok (.iload 5, 2) := by decide +kernel
theorem dX5_file_106 : decode cX5_file 106 = .ok (.iconst (-1), 1) := by decide +kernel
theorem dX5_file_107 : decode cX5_file 107 = .ok (.invokevirtual 152, 3) := by decide +kernel
theorem dX5_file_110 : decode cX5_file 110 = .ok (.istore 7, 2) := by decide +kernel
theorem dX5_file_112 : decode cX5_file 112 = .ok (.aload_n 0, 1) := by decide +kernel
theorem dX5_file_113 : decode cX5_file 113 = .ok (.iload 7, 2) := by decide +kernel
theorem dX5_file_115 : decode cX5_file 115 = .ok (.invokevirtual 156, 3) := by decide +kernel
theorem dX5_file_118 : decode cX5_file 118 = .ok (.iload 7, 2) := by decide +kernel
theorem dX5_file_120 : decode cX5_file 120 = .ok (.ireturn, 1) := by decide +kernel
theorem dX5_correct_0 : decode cX5_correct 0 = .ok (.aload_n 0, 1) := by decide +kernel
theorem dX5_correct_1 : decode cX5_correct 1 = .ok (.iload_n 1, 1) := by decide +kernel
theorem dX5_correct_2 : decode cX5_correct 2 = .ok (.invokevirtual 159, 3) := by decide +kernel
theorem dX5_correct_5 : decode cX5_correct 5 = .ok (.iload_n 2, 1) := by decide +kernel
theorem dX5_correct_6 : decode cX5_correct 6 = .ok (.ifCond .lt 23, 3) := by decide +kernel
theorem dX5_correct_9 : decode cX5_correct 9 = .ok (.iload_n 2, 1) := by decide +kernel
theorem dX5_correct_10 : decode cX5_correct 10 = .ok (.iconst 4, 1) := by decide +kernel
theorem dX5_correct_11 : decode cX5_correct 11 = .ok (.if_icmp .ge 18, 3) := by decide +kernel
theorem dX5_correct_14 : decode cX5_correct 14 = .ok (.aload_n 0, 1) := by decide +kernel
theorem dX5_correct_15 : decode cX5_correct 15 = .ok (.getfield 32, 3) := by decide +kernel
theorem dX5_correct_18 : decode cX5_correct 18 = .ok (.iload_n 1, 1) := by decide +kernel
theorem dX5_correct_19 : decode cX5_correct 19 = .ok (.aaload, 1) := by decide +kernel
theorem dX5_correct_20 : decode cX5_correct 20 = .ok (.getfield 162, 3) := by decide +kernel
theorem dX5_correct_23 : decode cX5_correct 23 = .ok (.iload_n 2, 1) := by decide +kernel
theorem dX5_correct_24 : decode cX5_correct 24 = .ok (.iaload, 1) := by decide +kernel
theorem dX5_correct_25 : decode cX5_correct 25 = .ok (.iconst (-1), 1) := by decide +kernel
theorem dX5_correct_26 : decode cX5_correct 26 = .ok (.if_icmp .ne 13, 3) := by decide +kernel
theorem dX5_correct_29 : decode cX5_correct 29 = .ok (.new 75, 3) := by decide +kernel
theorem dX5_correct_32 : decode cX5_correct 32 = .ok (.dup, 1) := by decide +kernel
theorem dX5_correct_33 : decode cX5_correct 33 = .ok (.ldc 165, 2) := by decide +kernel
theorem dX5_correct_35 : decode cX5_correct 35 = .ok (.invokespecial 79, 3) := by decide +kernel
theorem dX5_correct_38 : decode cX5_correct 38 = .ok (.athrow, 1) := by decide +kernel
theorem dX5_correct_39 : decode cX5_correct 39 = .ok (.aload_n 0, 1) := by decide +kernel
theorem dX5_correct_40 : decode cX5_correct 40 = .ok (.getfield 32, 3) := by decide +kernel
theorem dX5_correct_43 : decode cX5_correct 43 = .ok (.iload_n 1, 1) := by decide +kernel
theorem dX5_correct_44 : decode cX5_correct 44 = .ok (.aaload, 1) := by decide +kernel
theorem dX5_correct_45 : decode cX5_correct 45 = .ok (.getfield 167, 3) := by decide +kernel
theorem dX5_correct_48 : decode cX5_correct 48 = .ok (.iconst (-1), 1) := by decide +kernel
theorem dX5_correct_49 : decode cX5_correct 49 = .ok (.if_icmp .eq 13, 3) := by decide +kernel
theorem dX5_correct_52 : decode cX5_correct 52 = .ok (.new 59, 3) := by decide +kernel
theorem dX5_correct_55 : decode cX5_correct 55 = .ok (.dup, 1) := by decide +kernel
theorem dX5_correct_56 : decode cX5_correct 56 = .ok (.ldc 170, 2) := by decide +kernel
theorem dX5_correct_58 : decode cX5_correct 58 = .ok (.invokespecial 63, 3) := by decide +kernel
theorem dX5_correct_61 : decode cX5_correct 61 = .ok (.athrow, 1) := by decide +kernel
theorem dX5_correct_62 : decode cX5_correct 62 = .ok (.aload_n 0, 1) := by decide +kernel
theorem dX5_correct_63 : decode cX5_correct 63 = .ok (.invokevirtual 139, 3) := by decide +kernel
theorem dX5_correct_66 : decode cX5_correct 66 = .ok (.aload_n 0, 1) := by decide +kernel
theorem dX5_correct_67 : decode cX5_correct 67 = .ok (.getfield 32, 3) := by decide +kernel
theorem dX5_correct_70 : decode cX5_correct 70 = .ok (.iload_n 1, 1) := by decide +kernel
theorem dX5_correct_71 : decode cX5_correct 71 = .ok (.aaload, 1) := by decide +kernel
theorem dX5_correct_72 : decode cX5_correct 72 = .ok (.getfield 172, 3) := by decide +kernel
theorem dX5_correct_75 : decode cX5_correct 75 = .ok (.istore_n 3, 1) := by decide +kernel
theorem dX5_correct_76 : decode cX5_correct 76 = .ok (.aload_n 0, 1) := by decide +kernel
theorem dX5_correct_77 : decode cX5_correct 77 = .ok (.iload_n 3, 1) := by decide +kernel
theorem dX5_correct_78 : decode cX5_correct 78 = .ok (.iload_n 2, 1) := by decide +kernel
theorem dX5_correct_79 : decode cX5_correct 79 = .ok (.invokevirtual 98, 3) := by decide +kernel
theorem dX5_correct_82 : decode cX5_correct 82 = .ok (.getfield 175, 3) := by decide +kernel
theorem dX5_correct_85 : decode cX5_correct 85 = .ok (.istore 4, 2) := by decide +kernel
theorem dX5_correct_87 : decode cX5_correct 87 = .ok (.iload 4, 2) := by decide +kernel
theorem dX5_correct_89 : decode cX5_correct 89 = .ok (.iconst (-1), 1) := by decide +kernel
theorem dX5_correct_90 : decode cX5_correct 90 = .ok (.if_icmp .eq 19, 3) := by decide +kernel
theorem dX5_correct_93 : decode cX5_correct 93 = .ok (.iload 4, 2) := by decide +kernel
theorem dX5_correct_95 : decode cX5_correct 95 = .ok (.aload_n 0, 1) := by decide +kernel
theorem dX5_correct_96 : decode cX5_correct 96 = .ok (.getfield 32, 3) := by decide +kernel
theorem dX5_correct_99 : decode cX5_correct 99 = .ok (.iload_n 1, 1) := by decide +kernel
theorem dX5_correct_100 : decode cX5_correct 100 = .ok (.aaload, 1) := by decide +kernel
theorem dX5_correct_101 : decode cX5_correct 101 = .ok (.getfield 162, 3) := by decide +kernel
theorem dX5_correct_104 : decode cX5_correct 104 = .ok (.iload_n 2, 1) := by decide +kernel
theorem dX5_correct_105 : decode cX5_correct 105 = .ok (.iaload, 1) := by decide +kernel
theorem dX5_correct_106 : decode cX5_correct 106 = .ok (.if_icmp .ne 6, 3) := by decide +kernel
theorem dX5_correct_109 : decode cX5_correct 109 = .ok (.bipush (-2), 2) := by decide +kernel
theorem dX5_correct_111 : decode cX5_correct 111 = .ok (.ireturn, 1) := by decide +kernel
theorem dX5_correct_112 : decode cX5_correct 112 = .ok (.aload_n 0, 1) := by decide +kernel
theorem dX5_correct_113 : decode cX5_correct 113 = .ok (.iload_n 3, 1) := by decide +kernel
theorem dX5_correct_114 : decode cX5_correct 114 = .ok (.iconst 2, 1) := by decide +kernel
theorem dX5_correct_115 : decode cX5_correct 115 = .ok (.iconst 1, 1) := by decide +kernel
theorem dX5_correct_116 : decode cX5_correct 116 = .ok (.iload_n 2, 1) := by decide +kernel
theorem dX5_correct_117 : decode cX5_correct 117 = .ok (.ishl, 1) := by decide +kernel
theorem dX5_correct_118 : decode cX5_correct 118 = .ok (.iconst 0, 1) := by decide +kernel
theorem dX5_correct_119 : decode cX5_correct 119 = .ok (.iconst 0, 1) := by decide +kernel
theorem dX5_correct_120 : decode cX5_correct 120 = .ok (.iload_n 1, 1) := by decide +kernel
theorem dX5_correct_121 : decode cX5_correct 121 = .ok (.invokevirtual 152, 3) := by decide +kernel
theorem dX5_correct_124 : decode cX5_correct 124 = .ok (.istore 5, 2) := by decide +kernel
theorem dX5_correct_126 : decode cX5_correct 126 = .ok (.aload_n 0, 1) := by decide +kernel
theorem dX5_correct_127 : decode cX5_correct 127 = .ok (.iload 5, 2) := by decide +kernel
theorem dX5_correct_129 : decode cX5_correct 129 = .ok (.invokevirtual 156, 3) := by decide +kernel
theorem dX5_correct_132 : decode cX5_correct 132 = .ok (.iload 5, 2) := by decide +kernel
theorem dX5_correct_134 : decode cX5_correct 134 = .ok (.ireturn, 1) := by decide +kernel
theorem dX5_kill_0 : decode cX5_kill 0 = .ok (.aload_n 0, 1) := by decide +kernel
theorem dX5_kill_1 : decode cX5_kill 1 = .ok (.iload_n 1, 1) := by decide +kernel
theorem dX5_kill_2 : decode cX5_kill 2 = .ok (.invokevirtual 159, 3) := by decide +kernel
theorem dX5_kill_5 : decode cX5_kill 5 = .ok (.aload_n 0, 1) := by decide +kernel
theorem dX5_kill_6 : decode cX5_kill 6 = .ok (.getfield 32, 3) := by decide +kernel
theorem dX5_kill_9 : decode cX5_kill 9 = .ok (.iload_n 1, 1) := by decide +kernel
theorem dX5_kill_10 : decode cX5_kill 10 = .ok (.aaload, 1) := by decide +kernel
theorem dX5_kill_11 : decode cX5_kill 11 = .ok (.getfield 178, 3) := by decide +kernel
theorem dX5_kill_14 : decode cX5_kill 14 = .ok (.iconst 1, 1) := by decide +kernel
theorem dX5_kill_15 : decode cX5_kill 15 = .ok (.if_icmp .eq 16, 3) := by decide +kernel
theorem dX5_kill_18 : decode cX5_kill 18 = .ok (.aload_n 0, 1) := by decide +kernel
theorem dX5_kill_19 : decode cX5_kill 19 = .ok (.getfield 32, 3) := by decide +kernel
theorem dX5_kill_22 : decode cX5_kill 22 = .ok (.iload_n 1, 1) := by decide +kernel
theorem dX5_kill_23 : decode cX5_kill 23 = .ok (.aaload, 1) := by decide +kernel
theorem dX5_kill_24 : decode cX5_kill 24 = .ok (.getfield 167, 3) := by decide +kernel
theorem dX5_kill_27 : decode cX5_kill 27 = .ok (.iconst (-1), 1) := by decide +kernel
theorem dX5_kill_28 : decode cX5_kill 28 = .ok (.if_icmp .eq 13, 3) := by decide +kernel
theorem dX5_kill_31 : decode cX5_kill 31 = .ok (.new 59, 3) := by decide +kernel
theorem dX5_kill_34 : decode cX5_kill 34 = .ok (.dup, 1) := by decide +kernel
theorem dX5_kill_35 : decode cX5_kill 35 = .ok (.ldc 181, 2) := by decide +kernel
theorem dX5_kill_37 : decode cX5_kill 37 = .ok (.invokespecial 63, 3) := by decide +kernel
theorem dX5_kill_40 : decode cX5_kill 40 = .ok (.athrow, 1) := by decide +kernel
theorem dX5_kill_41 : decode cX5_kill 41 = .ok (.aload_n 0, 1) := by decide +kernel
theorem dX5_kill_42 : decode cX5_kill 42 = .ok (.invokevirtual 139, 3) := by decide +kernel
theorem dX5_kill_45 : decode cX5_kill 45 = .ok (.aload_n 0, 1) := by decide +kernel
theorem dX5_kill_46 : decode cX5_kill 46 = .ok (.aload_n 0, 1) := by decide +kernel
theorem dX5_kill_47 : decode cX5_kill 47 = .ok (.getfield 32, 3) := by decide +kernel
theorem dX5_kill_50 : decode cX5_kill 50 = .ok (.iload_n 1, 1) := by decide +kernel
theorem dX5_kill_51 : decode cX5_kill 51 = .ok (.aaload, 1) := by decide +kernel
theorem dX5_kill_52 : decode cX5_kill 52 = .ok (.getfield 172, 3) := by decide +kernel
theorem dX5_kill_55 : decode cX5_kill 55 = .ok (.iconst 1, 1) := by decide +kernel
theorem dX5_kill_56 : decode cX5_kill 56 = .ok (.iconst 0, 1) := by decide +kernel
theorem dX5_kill_57 : decode cX5_kill 57 = .ok (.iconst 0, 1) := by decide +kernel
theorem dX5_kill_58 : decode cX5_kill 58 = .ok (.iconst 0, 1) := by decide +kernel
theorem dX5_kill_59 : decode cX5_kill 59 = .ok (.iload_n 1, 1) := by decide +kernel
theorem dX5_kill_60 : decode cX5_kill 60 = .ok (.invokevirtual 152, 3) := by decide +kernel
theorem dX5_kill_63 : decode cX5_kill 63 = .ok (.istore_n 2, 1) := by decide +kernel
theorem dX5_kill_64 : decode cX5_kill 64 = .ok (.aload_n 0, 1) := by decide +kernel
theorem dX5_kill_65 : decode cX5_kill 65 = .ok (.getfield 32, 3) := by decide +kernel
theorem dX5_kill_68 : decode cX5_kill 68 = .ok (.iload_n 1, 1) := by decide +kernel
theorem dX5_kill_69 : decode cX5_kill 69 = .ok (.aaload, 1) := by decide +kernel
theorem dX5_kill_70 : decode cX5_kill 70 = .ok (.iload_n 2, 1) := by decide +kernel
theorem dX5_kill_71 : decode cX5_kill 71 = .ok (.putfield 167, 3) := by decide +kernel
theorem dX5_kill_74 : decode cX5_kill 74 = .ok (.iconst 0, 1) := by decide +kernel
theorem dX5_kill_75 : decode cX5_kill 75 = .ok (.istore_n 3, 1) := by decide +kernel
theorem dX5_kill_76 : decode cX5_kill 76 = .ok (.iconst 0, 1) := by decide +kernel
theorem dX5_kill_77 : decode cX5_kill 77 = .ok (.istore 4, 2) := by decide +kernel
theorem dX5_kill_79 : decode cX5_kill 79 = .ok (.iload 4, 2) := by decide +kernel
theorem dX5_kill_81 : decode cX5_kill 81 = .ok (.aload_n 0, 1) := by decide +kernel
theorem dX5_kill_82 : decode cX5_kill 82 = .ok (.getfield 80, 3) := by decide +kernel
theorem dX5_kill_85 : decode cX5_kill 85 = .ok (.if_icmp .ge 57, 3) := by decide +kernel
theorem dX5_kill_88 : decode cX5_kill 88 = .ok (.aload_n 0, 1) := by decide +kernel
theorem dX5_kill_89 : decode cX5_kill 89 = .ok (.getfield 39, 3) := by decide +kernel
theorem dX5_kill_92 : decode cX5_kill 92 = .ok (.iload 4, 2) := by decide +kernel
theorem dX5_kill_94 : decode cX5_kill 94 = .ok (.aaload, 1) := by decide +kernel
theorem dX5_kill_95 : decode cX5_kill 95 = .ok (.iload_n 1, 1) := by decide +kernel
theorem dX5_kill_96 : decode cX5_kill 96 = .ok (.invokevirtual 183, 3) := by decide +kernel
theorem dX5_kill_99 : decode cX5_kill 99 = .ok (.ifCond .eq 26, 3) := by decide +kernel
theorem dX5_kill_102 : decode cX5_kill 102 = .ok (.aload_n 0, 1) := by decide +kernel
theorem dX5_kill_103 : decode cX5_kill 103 = .ok (.getfield 39, 3) := by decide +kernel
theorem dX5_kill_106 : decode cX5_kill 106 = .ok (.iload 4, 2) := by decide +kernel
theorem dX5_kill_108 : decode cX5_kill 108 = .ok (.aaload, 1) := by decide +kernel
theorem dX5_kill_109 : decode cX5_kill 109 = .ok (.iload_n 2, 1) := by decide +kernel
theorem dX5_kill_110 : decode cX5_kill 110 = .ok (.aload_n 0, 1) := by decide +kernel
theorem dX5_kill_111 : decode cX5_kill 111 = .ok (.getfield 32, 3) := by decide +kernel
theorem dX5_kill_114 : decode cX5_kill 114 = .ok (.iload_n 2, 1) := by decide +kernel
theorem dX5_kill_115 : decode cX5_kill 115 = .ok (.aaload, 1) := by decide +kernel
theorem dX5_kill_116 : decode cX5_kill 116 = .ok (.invokevirtual 187, 3) := by decide +kernel
theorem dX5_kill_119 : decode cX5_kill 119 = .ok (.iinc 3 1, 3) := by decide +kernel
theorem dX5_kill_122 : decode cX5_kill 122 = .ok (.goto 14, 3) := by decide +kernel
theorem dX5_kill_125 : decode cX5_kill 125 = .ok (.aload_n 0, 1) := by decide +kernel
theorem dX5_kill_126 : decode cX5_kill 126 = .ok (.getfield 39, 3) := by decide +kernel
theorem dX5_kill_129 : decode cX5_kill 129 = .ok (.iload 4, 2) := by decide +kernel
theorem dX5_kill_131 : decode cX5_kill 131 = .ok (.aaload, 1) := by decide +kernel
theorem dX5_kill_132 : decode cX5_kill 132 = .ok (.iload_n 1, 1) := by decide +kernel
theorem dX5_kill_133 : decode cX5_kill 133 = .ok (.invokevirtual 191, 3) := by decide +kernel
theorem dX5_kill_136 : decode cX5_kill 136 = .ok (.iinc 4 1, 3) := by decide +kernel
theorem dX5_kill_139 : decode cX5_kill 139 = .ok (.goto (-60), 3) := by decide +kernel
theorem dX5_kill_142 : decode cX5_kill 142 = .ok (.iload_n 3, 1) := by decide +kernel
theorem dX5_kill_143 : decode cX5_kill 143 = .ok (.ireturn, 1) := by decide +kernel
theorem dX5_pass_0 : decode cX5_pass 0 = .ok (.iload_n 1, 1) := by decide +kernel
theorem dX5_pass_1 : decode cX5_pass 1 = .ok (.iconst 1, 1) := by decide +kernel
theorem dX5_pass_2 : decode cX5_pass 2 = .ok (.if_icmp .lt 9, 3) := by decide +kernel
theorem dX5_pass_5 : decode cX5_pass 5 = .ok (.iload_n 1, 1) := by decide +kernel
theorem dX5_pass_6 : decode cX5_pass 6 = .ok (.bipush 99, 2) := by decide +kernel
theorem dX5_pass_8 : decode cX5_pass 8 = .ok (.if_icmp .le 13, 3) := by decide +kernel
theorem dX5_pass_11 : decode cX5_pass 11 = .ok (.new 75, 3) := by decide +kernel
theorem dX5_pass_14 : decode cX5_pass 14 = .ok (.dup, 1) := by decide +kernel
theorem dX5_pass_15 : decode cX5_pass 15 = .ok (.ldc 194, 2) := by decide +kernel
theorem dX5_pass_17 : decode cX5_pass 17 = .ok (.invokespecial 79, 3) := by decide +kernel
theorem dX5_pass_20 : decode cX5_pass 20 = .ok (.athrow, 1) := by decide +kernel
theorem dX5_pass_21 : decode cX5_pass 21 = .ok (.aload_n 0, 1) := by decide +kernel
theorem dX5_pass_22 : decode cX5_pass 22 = .ok (.getfield 123, 3) := by decide +kernel
theorem dX5_pass_25 : decode cX5_pass 25 = .ok (.iload_n 1, 1) := by decide +kernel
theorem dX5_pass_26 : decode cX5_pass 26 = .ok (.iadd, 1) := by decide +kernel
theorem dX5_pass_27 : decode cX5_pass 27 = .ok (.sipush 9999, 3) := by decide +kernel
theorem dX5_pass_30 : decode cX5_pass 30 = .ok (.if_icmp .le 13, 3) := by decide +kernel
theorem dX5_pass_33 : decode cX5_pass 33 = .ok (.new 59, 3) := by decide +kernel
theorem dX5_pass_36 : decode cX5_pass 36 = .ok (.dup, 1) := by decide +kernel
theorem dX5_pass_37 : decode cX5_pass 37 = .ok (.ldc 196, 2) := by decide +kernel
theorem dX5_pass_39 : decode cX5_pass 39 = .ok (.invokespecial 63, 3) := by decide +kernel
theorem dX5_pass_42 : decode cX5_pass 42 = .ok (.athrow, 1) := by decide +kernel
theorem dX5_pass_43 : decode cX5_pass 43 = .ok (.iconst 0, 1) := by decide +kernel
theorem dX5_pass_44 : decode cX5_pass 44 = .ok (.istore_n 2, 1) := by decide +kernel
theorem dX5_pass_45 : decode cX5_pass 45 = .ok (.iconst 0, 1) := by decide +kernel
theorem dX5_pass_46 : decode cX5_pass 46 = .ok (.istore_n 3, 1) := by decide +kernel
theorem dX5_pass_47 : decode cX5_pass 47 = .ok (.iload_n 3, 1) := by decide +kernel
theorem dX5_pass_48 : decode cX5_pass 48 = .ok (.iload_n 1, 1) := by decide +kernel
theorem dX5_pass_49 : decode cX5_pass 49 = .ok (.if_icmp .ge 54, 3) := by decide +kernel
theorem dX5_pass_52 : decode cX5_pass 52 = .ok (.aload_n 0, 1) := by decide +kernel
theorem dX5_pass_53 : decode cX5_pass 53 = .ok (.dup, 1) := by decide +kernel
theorem dX5_pass_54 : decode cX5_pass 54 = .ok (.getfield 123, 3) := by decide +kernel
theorem dX5_pass_57 : decode cX5_pass 57 = .ok (.iconst 1, 1) := by decide +kernel
theorem dX5_pass_58 : decode cX5_pass 58 = .ok (.iadd, 1) := by decide +kernel
theorem dX5_pass_59 : decode cX5_pass 59 = .ok (.putfield 123, 3) := by decide +kernel
theorem dX5_pass_62 : decode cX5_pass 62 = .ok (.iconst 0, 1) := by decide +kernel
theorem dX5_pass_63 : decode cX5_pass 63 = .ok (.istore 4, 2) := by decide +kernel
theorem dX5_pass_65 : decode cX5_pass 65 = .ok (.iload 4, 2) := by decide +kernel
theorem dX5_pass_67 : decode cX5_pass 67 = .ok (.aload_n 0, 1) := by decide +kernel
theorem dX5_pass_68 : decode cX5_pass 68 = .ok (.getfield 80, 3) := by decide +kernel
theorem dX5_pass_71 : decode cX5_pass 71 = .ok (.if_icmp .ge 26, 3) := by decide +kernel
theorem dX5_pass_74 : decode cX5_pass 74 = .ok (.iload_n 2, 1) := by decide +kernel
theorem dX5_pass_75 : decode cX5_pass 75 = .ok (.aload_n 0, 1) := by decide +kernel
theorem dX5_pass_76 : decode cX5_pass 76 = .ok (.getfield 39, 3) := by decide +kernel
theorem dX5_pass_79 : decode cX5_pass 79 = .ok (.iload 4, 2) := by decide +kernel
theorem dX5_pass_81 : decode cX5_pass 81 = .ok (.aaload, 1) := by decide +kernel
theorem dX5_pass_82 : decode cX5_pass 82 = .ok (.aload_n 0, 1) := by decide +kernel
theorem dX5_pass_83 : decode cX5_pass 83 = .ok (.getfield 123, 3) := by decide +kernel
theorem dX5_pass_86 : decode cX5_pass 86 = .ok (.invokevirtual 198, 3) := by decide +kernel
theorem dX5_pass_89 : decode cX5_pass 89 = .ok (.iadd, 1) := by decide +kernel
theorem dX5_pass_90 : decode cX5_pass 90 = .ok (.istore_n 2, 1) := by decide +kernel
theorem dX5_pass_91 : decode cX5_pass 91 = .ok (.iinc 4 1, 3) := by decide +kernel
theorem dX5_pass_94 : decode cX5_pass 94 = .ok (.goto (-29), 3) := by decide +kernel
theorem dX5_pass_97 : decode cX5_pass 97 = .ok (.iinc 3 1, 3) := by decide +kernel
theorem dX5_pass_100 : decode cX5_pass 100 = .ok (.goto (-53), 3) := by decide +kernel
theorem dX5_pass_103 : decode cX5_pass 103 = .ok (.iload_n 2, 1) := by decide +kernel
theorem dX5_pass_104 : decode cX5_pass 104 = .ok (.ireturn, 1) := by decide +kernel
theorem dX5_areIndependent_0 : decode cX5_areIndependent 0 = .ok (.aload_n 0, 1) := by decide +kernel
theorem dX5_areIndependent_1 : decode cX5_areIndependent 1 = .ok (.iload_n 1, 1) := by decide +kernel
theorem dX5_areIndependent_2 : decode cX5_areIndependent 2 = .ok (.invokevirtual 48, 3) := by decide +kernel
theorem dX5_areIndependent_5 : decode cX5_areIndependent 5 = .ok (.aload_n 0, 1) := by decide +kernel
theorem dX5_areIndependent_6 : decode cX5_areIndependent 6 = .ok (.iload_n 2, 1) := by decide +kernel
theorem dX5_areIndependent_7 : decode cX5_areIndependent 7 = .ok (.invokevirtual 48, 3) := by decide +kernel
theorem dX5_areIndependent_10 : decode cX5_areIndependent 10 = .ok (.aload_n 0, 1) := by decide +kernel
theorem dX5_areIndependent_11 : decode cX5_areIndependent 11 = .ok (.getfield 10, 3) := by decide +kernel
theorem dX5_areIndependent_14 : decode cX5_areIndependent 14 = .ok (.getfield 201, 3) := by decide +kernel
theorem dX5_areIndependent_17 : decode cX5_areIndependent 17 = .ok (.iload_n 1, 1) := by decide +kernel
theorem dX5_areIndependent_18 : decode cX5_areIndependent 18 = .ok (.iaload, 1) := by decide +kernel
theorem dX5_areIndependent_19 : decode cX5_areIndependent 19 = .ok (.aload_n 0, 1) := by decide +kernel
theorem dX5_areIndependent_20 : decode cX5_areIndependent 20 = .ok (.getfield 10, 3) := by decide +kernel
theorem dX5_areIndependent_23 : decode cX5_areIndependent 23 = .ok (.getfield 201, 3) := by decide +kernel
theorem dX5_areIndependent_26 : decode cX5_areIndependent 26 = .ok (.iload_n 2, 1) := by decide +kernel
theorem dX5_areIndependent_27 : decode cX5_areIndependent 27 = .ok (.iaload, 1) := by decide +kernel
theorem dX5_areIndependent_28 : decode cX5_areIndependent 28 = .ok (.if_icmp .eq 7, 3) := by decide +kernel
theorem dX5_areIndependent_31 : decode cX5_areIndependent 31 = .ok (.iconst 1, 1) := by decide +kernel
theorem dX5_areIndependent_32 : decode cX5_areIndependent 32 = .ok (.goto 4, 3) := by decide +kernel
theorem dX5_areIndependent_35 : decode cX5_areIndependent 35 = .ok (.iconst 0, 1) := by decide +kernel
theorem dX5_areIndependent_36 : decode cX5_areIndependent 36 = .ok (.ireturn, 1) := by decide +kernel
theorem dX5_ofFact_0 : decode cX5_ofFact 0 = .ok (.aload_n 0, 1) := by decide +kernel
theorem dX5_ofFact_1 : decode cX5_ofFact 1 = .ok (.iload_n 1, 1) := by decide +kernel
theorem dX5_ofFact_2 : decode cX5_ofFact 2 = .ok (.iload_n 2, 1) := by decide +kernel
theorem dX5_ofFact_3 : decode cX5_ofFact 3 = .ok (.invokevirtual 91, 3) := by decide +kernel
theorem dX5_ofFact_6 : decode cX5_ofFact 6 = .ok (.aload_n 0, 1) := by decide +kernel
theorem dX5_ofFact_7 : decode cX5_ofFact 7 = .ok (.iload_n 1, 1) := by decide +kernel
theorem dX5_ofFact_8 : decode cX5_ofFact 8 = .ok (.iload_n 2, 1) := by decide +kernel
theorem dX5_ofFact_9 : decode cX5_ofFact 9 = .ok (.invokevirtual 98, 3) := by decide +kernel
theorem dX5_ofFact_12 : decode cX5_ofFact 12 = .ok (.astore 4, 2) := by decide +kernel
theorem dX5_ofFact_14 : decode cX5_ofFact 14 = .ok (.iload_n 3, 1) := by decide +kernel
theorem dX5_ofFact_15 : decode cX5_ofFact 15 = .ok (.tableswitch 93 0 6 #[41, 47, 53, 59, 65, 71, 78], 41) := by decide +kernel
theorem dX5_ofFact_56 : decode cX5_ofFact 56 = .ok (.aload 4, 2) := by decide +kernel
theorem dX5_ofFact_58 : decode cX5_ofFact 58 = .ok (.getfield 175, 3) := by decide +kernel
theorem dX5_ofFact_61 : decode cX5_ofFact 61 = .ok (.ireturn, 1) := by decide +kernel
theorem dX5_ofFact_62 : decode cX5_ofFact 62 = .ok (.aload 4, 2) := by decide +kernel
theorem dX5_ofFact_64 : decode cX5_ofFact 64 = .ok (.getfield 204, 3) := by decide +kernel
theorem dX5_ofFact_67 : decode cX5_ofFact 67 = .ok (.ireturn, 1) := by decide +kernel
theorem dX5_ofFact_68 : decode cX5_ofFact 68 = .ok (.aload 4, 2) := by decide +kernel
theorem dX5_ofFact_70 : decode cX5_ofFact 70 = .ok (.invokevirtual 207, 3) := by decide +kernel
theorem dX5_ofFact_73 : decode cX5_ofFact 73 = .ok (.ireturn, 1) := by decide +kernel
theorem dX5_ofFact_74 : decode cX5_ofFact 74 = .ok (.aload 4, 2) := by decide +kernel
theorem dX5_ofFact_76 : decode cX5_ofFact 76 = .ok (.invokevirtual 210, 3) := by decide +kernel
theorem dX5_ofFact_79 : decode cX5_ofFact 79 = .ok (.ireturn, 1) := by decide +kernel
theorem dX5_ofFact_80 : decode cX5_ofFact 80 = .ok (.aload 4, 2) := by decide +kernel
theorem dX5_ofFact_82 : decode cX5_ofFact 82 = .ok (.getfield 120, 3) := by decide +kernel
theorem dX5_ofFact_85 : decode cX5_ofFact 85 = .ok (.ireturn, 1) := by decide +kernel
theorem dX5_ofFact_86 : decode cX5_ofFact 86 = .ok (.aload_n 0, 1) := by decide +kernel
theorem dX5_ofFact_87 : decode cX5_ofFact 87 = .ok (.iload_n 1, 1) := by decide +kernel
theorem dX5_ofFact_88 : decode cX5_ofFact 88 = .ok (.iload_n 2, 1) := by decide +kernel
theorem dX5_ofFact_89 : decode cX5_ofFact 89 = .ok (.invokevirtual 213, 3) := by decide +kernel
theorem dX5_ofFact_92 : decode cX5_ofFact 92 = .ok (.ireturn, 1) := by decide +kernel
theorem dX5_ofFact_93 : decode cX5_ofFact 93 = .ok (.aload_n 0, 1) := by decide +kernel
theorem dX5_ofFact_94 : decode cX5_ofFact 94 = .ok (.iload_n 1, 1) := by decide +kernel
theorem dX5_ofFact_95 : decode cX5_ofFact 95 = .ok (.iload_n 2, 1) := by decide +kernel
theorem dX5_ofFact_96 : decode cX5_ofFact 96 = .ok (.invokevirtual 216, 3) := by decide +kernel
theorem dX5_ofFact_99 : decode cX5_ofFact 99 = .ok (.ifCond .eq 7, 3) := by decide +kernel
theorem dX5_ofFact_102 : decode cX5_ofFact 102 = .ok (.iconst 1, 1) := by decide +kernel
theorem dX5_ofFact_103 : decode cX5_ofFact 103 = .ok (.goto 4, 3) := by decide +kernel
theorem dX5_ofFact_106 : decode cX5_ofFact 106 = .ok (.iconst 0, 1) := by decide +kernel
theorem dX5_ofFact_107 : decode cX5_ofFact 107 = .ok (.ireturn, 1) := by decide +kernel
theorem dX5_ofFact_108 : decode cX5_ofFact 108 = .ok (.new 75, 3) := by decide +kernel
theorem dX5_ofFact_111 : decode cX5_ofFact 111 = .ok (.dup, 1) := by decide +kernel
theorem dX5_ofFact_112 : decode cX5_ofFact 112 = .ok (.ldc 220, 2) := by decide +kernel
theorem dX5_ofFact_114 : decode cX5_ofFact 114 = .ok (.invokespecial 79, 3) := by decide +kernel
theorem dX5_ofFact_117 : decode cX5_ofFact 117 = .ok (.athrow, 1) := by decide +kernel
theorem dX5_proof_0 : decode cX5_proof 0 = .ok (.aload_n 0, 1) := by decide +kernel
theorem dX5_proof_1 : decode cX5_proof 1 = .ok (.iload_n 1, 1) := by decide +kernel
theorem dX5_proof_2 : decode cX5_proof 2 = .ok (.iload_n 2, 1) := by decide +kernel
theorem dX5_proof_3 : decode cX5_proof 3 = .ok (.invokevirtual 91, 3) := by decide +kernel
theorem dX5_proof_6 : decode cX5_proof 6 = .ok (.iload_n 3, 1) := by decide +kernel
theorem dX5_proof_7 : decode cX5_proof 7 = .ok (.invokestatic 95, 3) := by decide +kernel
theorem dX5_proof_10 : decode cX5_proof 10 = .ok (.aload_n 0, 1) := by decide +kernel
theorem dX5_proof_11 : decode cX5_proof 11 = .ok (.getfield 19, 3) := by decide +kernel
theorem dX5_proof_14 : decode cX5_proof 14 = .ok (.aload_n 0, 1) := by decide +kernel
theorem dX5_proof_15 : decode cX5_proof 15 = .ok (.getfield 10, 3) := by decide +kernel
theorem dX5_proof_18 : decode cX5_proof 18 = .ok (.aload_n 0, 1) := by decide +kernel
theorem dX5_proof_19 : decode cX5_proof 19 = .ok (.iload_n 1, 1) := by decide +kernel
theorem dX5_proof_20 : decode cX5_proof 20 = .ok (.iload_n 2, 1) := by decide +kernel
theorem dX5_proof_21 : decode cX5_proof 21 = .ok (.invokevirtual 98, 3) := by decide +kernel
theorem dX5_proof_24 : decode cX5_proof 24 = .ok (.getfield 102, 3) := by decide +kernel
theorem dX5_proof_27 : decode cX5_proof 27 = .ok (.iload_n 3, 1) := by decide +kernel
theorem dX5_proof_28 : decode cX5_proof 28 = .ok (.invokevirtual 110, 3) := by decide +kernel
theorem dX5_proof_31 : decode cX5_proof 31 = .ok (.iload 4, 2) := by decide +kernel
theorem dX5_proof_33 : decode cX5_proof 33 = .ok (.ifCond .eq 13, 3) := by decide +kernel
theorem dX5_proof_36 : decode cX5_proof 36 = .ok (.aload_n 0, 1) := by decide +kernel
theorem dX5_proof_37 : decode cX5_proof 37 = .ok (.getfield 19, 3) := by decide +kernel
theorem dX5_proof_40 : decode cX5_proof 40 = .ok (.getfield 222, 3) := by decide +kernel
theorem dX5_proof_43 : decode cX5_proof 43 = .ok (.goto 10, 3) := by decide +kernel
theorem dX5_proof_46 : decode cX5_proof 46 = .ok (.aload_n 0, 1) := by decide +kernel
theorem dX5_proof_47 : decode cX5_proof 47 = .ok (.getfield 19, 3) := by decide +kernel
theorem dX5_proof_50 : decode cX5_proof 50 = .ok (.invokevirtual 114, 3) := by decide +kernel
theorem dX5_proof_53 : decode cX5_proof 53 = .ok (.ireturn, 1) := by decide +kernel
theorem dX5_ofTake_0 : decode cX5_ofTake 0 = .ok (.aload_n 0, 1) := by decide +kernel
theorem dX5_ofTake_1 : decode cX5_ofTake 1 = .ok (.iload_n 1, 1) := by decide +kernel
theorem dX5_ofTake_2 : decode cX5_ofTake 2 = .ok (.invokevirtual 159, 3) := by decide +kernel
theorem dX5_ofTake_5 : decode cX5_ofTake 5 = .ok (.aload_n 0, 1) := by decide +kernel
theorem dX5_ofTake_6 : decode cX5_ofTake 6 = .ok (.getfield 32, 3) := by decide +kernel
theorem dX5_ofTake_9 : decode cX5_ofTake 9 = .ok (.iload_n 1, 1) := by decide +kernel
theorem dX5_ofTake_10 : decode cX5_ofTake 10 = .ok (.aaload, 1) := by decide +kernel
theorem dX5_ofTake_11 : decode cX5_ofTake 11 = .ok (.astore_n 3, 1) := by decide +kernel
theorem dX5_ofTake_12 : decode cX5_ofTake 12 = .ok (.iload_n 2, 1) := by decide +kernel
theorem dX5_ofTake_13 : decode cX5_ofTake 13 = .ok (.tableswitch 113 0 8 #[51, 56, 61, 66, 71, 76, 89, 103, 108], 51) := by decide +kernel
theorem dX5_ofTake_64 : decode cX5_ofTake 64 = .ok (.aload_n 3, 1) := by decide +kernel
theorem dX5_ofTake_65 : decode cX5_ofTake 65 = .ok (.getfield 172, 3) := by decide +kernel
theorem dX5_ofTake_68 : decode cX5_ofTake 68 = .ok (.ireturn, 1) := by decide +kernel
theorem dX5_ofTake_69 : decode cX5_ofTake 69 = .ok (.aload_n 3, 1) := by decide +kernel
theorem dX5_ofTake_70 : decode cX5_ofTake 70 = .ok (.getfield 178, 3) := by decide +kernel
theorem dX5_ofTake_73 : decode cX5_ofTake 73 = .ok (.ireturn, 1) := by decide +kernel
theorem dX5_ofTake_74 : decode cX5_ofTake 74 = .ok (.aload_n 3, 1) := by decide +kernel
theorem dX5_ofTake_75 : decode cX5_ofTake 75 = .ok (.getfield 225, 3) := by decide +kernel
theorem dX5_ofTake_78 : decode cX5_ofTake 78 = .ok (.ireturn, 1) := by decide +kernel
theorem dX5_ofTake_79 : decode cX5_ofTake 79 = .ok (.aload_n 3, 1) := by decide +kernel
theorem dX5_ofTake_80 : decode cX5_ofTake 80 = .ok (.getfield 228, 3) := by decide +kernel
theorem dX5_ofTake_83 : decode cX5_ofTake 83 = .ok (.ireturn, 1) := by decide +kernel
theorem dX5_ofTake_84 : decode cX5_ofTake 84 = .ok (.aload_n 3, 1) := by decide +kernel
theorem dX5_ofTake_85 : decode cX5_ofTake 85 = .ok (.getfield 231, 3) := by decide +kernel
theorem dX5_ofTake_88 : decode cX5_ofTake 88 = .ok (.ireturn, 1) := by decide +kernel
theorem dX5_ofTake_89 : decode cX5_ofTake 89 = .ok (.aload_n 3, 1) := by decide +kernel
theorem dX5_ofTake_90 : decode cX5_ofTake 90 = .ok (.getfield 234, 3) := by decide +kernel
theorem dX5_ofTake_93 : decode cX5_ofTake 93 = .ok (.ifCond .eq 7, 3) := by decide +kernel
theorem dX5_ofTake_96 : decode cX5_ofTake 96 = .ok (.iconst 1, 1) := by decide +kernel
theorem dX5_ofTake_97 : decode cX5_ofTake 97 = .ok (.goto 4, 3) := by decide +kernel
theorem dX5_ofTake_100 : decode cX5_ofTake 100 = .ok (.iconst 0, 1) := by decide +kernel
theorem dX5_ofTake_101 : decode cX5_ofTake 101 = .ok (.ireturn, 1) := by decide +kernel
theorem dX5_ofTake_102 : decode cX5_ofTake 102 = .ok (.aload_n 3, 1) := by decide +kernel
theorem dX5_ofTake_103 : decode cX5_ofTake 103 = .ok (.getfield 167, 3) := by decide +kernel
theorem dX5_ofTake_106 : decode cX5_ofTake 106 = .ok (.iconst (-1), 1) := by decide +kernel
theorem dX5_ofTake_107 : decode cX5_ofTake 107 = .ok (.if_icmp .eq 7, 3) := by decide +kernel
theorem dX5_ofTake_110 : decode cX5_ofTake 110 = .ok (.iconst 1, 1) := by decide +kernel
theorem dX5_ofTake_111 : decode cX5_ofTake 111 = .ok (.goto 4, 3) := by decide +kernel
theorem dX5_ofTake_114 : decode cX5_ofTake 114 = .ok (.iconst 0, 1) := by decide +kernel
theorem dX5_ofTake_115 : decode cX5_ofTake 115 = .ok (.ireturn, 1) := by decide +kernel
theorem dX5_ofTake_116 : decode cX5_ofTake 116 = .ok (.aload_n 3, 1) := by decide +kernel
theorem dX5_ofTake_117 : decode cX5_ofTake 117 = .ok (.getfield 238, 3) := by decide +kernel
theorem dX5_ofTake_120 : decode cX5_ofTake 120 = .ok (.ireturn, 1) := by decide +kernel
theorem dX5_ofTake_121 : decode cX5_ofTake 121 = .ok (.aload_n 3, 1) := by decide +kernel
theorem dX5_ofTake_122 : decode cX5_ofTake 122 = .ok (.getfield 241, 3) := by decide +kernel
theorem dX5_ofTake_125 : decode cX5_ofTake 125 = .ok (.ireturn, 1) := by decide +kernel
theorem dX5_ofTake_126 : decode cX5_ofTake 126 = .ok (.new 75, 3) := by decide +kernel
theorem dX5_ofTake_129 : decode cX5_ofTake 129 = .ok (.dup, 1) := by decide +kernel
theorem dX5_ofTake_130 : decode cX5_ofTake 130 = .ok (.ldc 244, 2) := by decide +kernel
theorem dX5_ofTake_132 : decode cX5_ofTake 132 = .ok (.invokespecial 79, 3) := by decide +kernel
theorem dX5_ofTake_135 : decode cX5_ofTake 135 = .ok (.athrow, 1) := by decide +kernel
theorem dX5_says_0 : decode cX5_says 0 = .ok (.aload_n 0, 1) := by decide +kernel
theorem dX5_says_1 : decode cX5_says 1 = .ok (.iload_n 1, 1) := by decide +kernel
theorem dX5_says_2 : decode cX5_says 2 = .ok (.invokevirtual 159, 3) := by decide +kernel
theorem dX5_says_5 : decode cX5_says 5 = .ok (.iload_n 2, 1) := by decide +kernel
theorem dX5_says_6 : decode cX5_says 6 = .ok (.ifCond .lt 8, 3) := by decide +kernel
theorem dX5_says_9 : decode cX5_says 9 = .ok (.iload_n 2, 1) := by decide +kernel
theorem dX5_says_10 : decode cX5_says 10 = .ok (.iconst 4, 1) := by decide +kernel
theorem dX5_says_11 : decode cX5_says 11 = .ok (.if_icmp .lt 13, 3) := by decide +kernel
theorem dX5_says_14 : decode cX5_says 14 = .ok (.new 246, 3) := by decide +kernel
theorem dX5_says_17 : decode cX5_says 17 = .ok (.dup, 1) := by decide +kernel
theorem dX5_says_18 : decode cX5_says 18 = .ok (.ldc 248, 2) := by decide +kernel
theorem dX5_says_20 : decode cX5_says 20 = .ok (.invokespecial 250, 3) := by decide +kernel
theorem dX5_says_23 : decode cX5_says 23 = .ok (.athrow, 1) := by decide +kernel
theorem dX5_says_24 : decode cX5_says 24 = .ok (.aload_n 0, 1) := by decide +kernel
theorem dX5_says_25 : decode cX5_says 25 = .ok (.getfield 32, 3) := by decide +kernel
theorem dX5_says_28 : decode cX5_says 28 = .ok (.iload_n 1, 1) := by decide +kernel
theorem dX5_says_29 : decode cX5_says 29 = .ok (.aaload, 1) := by decide +kernel
theorem dX5_says_30 : decode cX5_says 30 = .ok (.getfield 162, 3) := by decide +kernel
theorem dX5_says_33 : decode cX5_says 33 = .ok (.iload_n 2, 1) := by decide +kernel
theorem dX5_says_34 : decode cX5_says 34 = .ok (.iaload, 1) := by decide +kernel
theorem dX5_says_35 : decode cX5_says 35 = .ok (.ireturn, 1) := by decide +kernel
theorem dX5_state_0 : decode cX5_state 0 = .ok (.aload_n 0, 1) := by decide +kernel
theorem dX5_state_1 : decode cX5_state 1 = .ok (.iload_n 1, 1) := by decide +kernel
theorem dX5_state_2 : decode cX5_state 2 = .ok (.invokevirtual 126, 3) := by decide +kernel
theorem dX5_state_5 : decode cX5_state 5 = .ok (.aload_n 0, 1) := by decide +kernel
theorem dX5_state_6 : decode cX5_state 6 = .ok (.iload_n 2, 1) := by decide +kernel
theorem dX5_state_7 : decode cX5_state 7 = .ok (.invokevirtual 159, 3) := by decide +kernel
theorem dX5_state_10 : decode cX5_state 10 = .ok (.aload_n 0, 1) := by decide +kernel
theorem dX5_state_11 : decode cX5_state 11 = .ok (.getfield 39, 3) := by decide +kernel
theorem dX5_state_14 : decode cX5_state 14 = .ok (.iload_n 1, 1) := by decide +kernel
theorem dX5_state_15 : decode cX5_state 15 = .ok (.aaload, 1) := by decide +kernel
theorem dX5_state_16 : decode cX5_state 16 = .ok (.astore_n 3, 1) := by decide +kernel
theorem dX5_state_17 : decode cX5_state 17 = .ok (.aload_n 3, 1) := by decide +kernel
theorem dX5_state_18 : decode cX5_state 18 = .ok (.iload_n 2, 1) := by decide +kernel
theorem dX5_state_19 : decode cX5_state 19 = .ok (.invokevirtual 251, 3) := by decide +kernel
theorem dX5_state_22 : decode cX5_state 22 = .ok (.ifCond .ne 5, 3) := by decide +kernel
theorem dX5_state_25 : decode cX5_state 25 = .ok (.iconst 0, 1) := by decide +kernel
theorem dX5_state_26 : decode cX5_state 26 = .ok (.ireturn, 1) := by decide +kernel
theorem dX5_state_27 : decode cX5_state 27 = .ok (.aload_n 3, 1) := by decide +kernel
theorem dX5_state_28 : decode cX5_state 28 = .ok (.iload_n 2, 1) := by decide +kernel
theorem dX5_state_29 : decode cX5_state 29 = .ok (.invokevirtual 183, 3) := by decide +kernel
theorem dX5_state_32 : decode cX5_state 32 = .ok (.ifCond .ne 27, 3) := by decide +kernel
theorem dX5_state_35 : decode cX5_state 35 = .ok (.aload_n 3, 1) := by decide +kernel
theorem dX5_state_36 : decode cX5_state 36 = .ok (.getfield 254, 3) := by decide +kernel
theorem dX5_state_39 : decode cX5_state 39 = .ok (.iload_n 2, 1) := by decide +kernel
theorem dX5_state_40 : decode cX5_state 40 = .ok (.iaload, 1) := by decide +kernel
theorem dX5_state_41 : decode cX5_state 41 = .ok (.aload_n 0, 1) := by decide +kernel
theorem dX5_state_42 : decode cX5_state 42 = .ok (.getfield 32, 3) := by decide +kernel
theorem dX5_state_45 : decode cX5_state 45 = .ok (.iload_n 2, 1) := by decide +kernel
theorem dX5_state_46 : decode cX5_state 46 = .ok (.aaload, 1) := by decide +kernel
theorem dX5_state_47 : decode cX5_state 47 = .ok (.getfield 228, 3) := by decide +kernel
theorem dX5_state_50 : decode cX5_state 50 = .ok (.if_icmp .ne 7, 3) := by decide +kernel
theorem dX5_state_53 : decode cX5_state 53 = .ok (.iconst 1, 1) := by decide +kernel
theorem dX5_state_54 : decode cX5_state 54 = .ok (.goto 4, 3) := by decide +kernel
theorem dX5_state_57 : decode cX5_state 57 = .ok (.iconst 2, 1) := by decide +kernel
theorem dX5_state_58 : decode cX5_state 58 = .ok (.ireturn, 1) := by decide +kernel
theorem dX5_state_59 : decode cX5_state 59 = .ok (.aload_n 3, 1) := by decide +kernel
theorem dX5_state_60 : decode cX5_state 60 = .ok (.iload_n 2, 1) := by decide +kernel
theorem dX5_state_61 : decode cX5_state 61 = .ok (.aload_n 0, 1) := by decide +kernel
theorem dX5_state_62 : decode cX5_state 62 = .ok (.getfield 123, 3) := by decide +kernel
theorem dX5_state_65 : decode cX5_state 65 = .ok (.invokevirtual 257, 3) := by decide +kernel
theorem dX5_state_68 : decode cX5_state 68 = .ok (.ifCond .ne 5, 3) := by decide +kernel
theorem dX5_state_71 : decode cX5_state 71 = .ok (.iconst 3, 1) := by decide +kernel
theorem dX5_state_72 : decode cX5_state 72 = .ok (.ireturn, 1) := by decide +kernel
theorem dX5_state_73 : decode cX5_state 73 = .ok (.aload_n 0, 1) := by decide +kernel
theorem dX5_state_74 : decode cX5_state 74 = .ok (.iload_n 1, 1) := by decide +kernel
theorem dX5_state_75 : decode cX5_state 75 = .ok (.iload_n 2, 1) := by decide +kernel
theorem dX5_state_76 : decode cX5_state 76 = .ok (.invokevirtual 260, 3) := by decide +kernel
theorem dX5_state_79 : decode cX5_state 79 = .ok (.ifCond .eq 7, 3) := by decide +kernel
theorem dX5_state_82 : decode cX5_state 82 = .ok (.iconst 5, 1) := by decide +kernel
theorem dX5_state_83 : decode cX5_state 83 = .ok (.goto 4, 3) := by decide +kernel
theorem dX5_state_86 : decode cX5_state 86 = .ok (.iconst 4, 1) := by decide +kernel
theorem dX5_state_87 : decode cX5_state 87 = .ok (.ireturn, 1) := by decide +kernel
theorem dX5_tells_0 : decode cX5_tells 0 = .ok (.aload_n 0, 1) := by decide +kernel
theorem dX5_tells_1 : decode cX5_tells 1 = .ok (.iload_n 1, 1) := by decide +kernel
theorem dX5_tells_2 : decode cX5_tells 2 = .ok (.invokevirtual 126, 3) := by decide +kernel
theorem dX5_tells_5 : decode cX5_tells 5 = .ok (.aload_n 0, 1) := by decide +kernel
theorem dX5_tells_6 : decode cX5_tells 6 = .ok (.iload_n 2, 1) := by decide +kernel
theorem dX5_tells_7 : decode cX5_tells 7 = .ok (.iload_n 3, 1) := by decide +kernel
theorem dX5_tells_8 : decode cX5_tells 8 = .ok (.invokevirtual 91, 3) := by decide +kernel
theorem dX5_tells_11 : decode cX5_tells 11 = .ok (.aload_n 0, 1) := by decide +kernel
theorem dX5_tells_12 : decode cX5_tells 12 = .ok (.iload_n 1, 1) := by decide +kernel
theorem dX5_tells_13 : decode cX5_tells 13 = .ok (.iload_n 2, 1) := by decide +kernel
theorem dX5_tells_14 : decode cX5_tells 14 = .ok (.iload_n 3, 1) := by decide +kernel
theorem dX5_tells_15 : decode cX5_tells 15 = .ok (.invokevirtual 263, 3) := by decide +kernel
theorem dX5_tells_18 : decode cX5_tells 18 = .ok (.ireturn, 1) := by decide +kernel
theorem dX5_ofLine_0 : decode cX5_ofLine 0 = .ok (.aload_n 0, 1) := by decide +kernel
theorem dX5_ofLine_1 : decode cX5_ofLine 1 = .ok (.iload_n 1, 1) := by decide +kernel
theorem dX5_ofLine_2 : decode cX5_ofLine 2 = .ok (.invokevirtual 126, 3) := by decide +kernel
theorem dX5_ofLine_5 : decode cX5_ofLine 5 = .ok (.aload_n 0, 1) := by decide +kernel
theorem dX5_ofLine_6 : decode cX5_ofLine 6 = .ok (.getfield 39, 3) := by decide +kernel
theorem dX5_ofLine_9 : decode cX5_ofLine 9 = .ok (.iload_n 1, 1) := by decide +kernel
theorem dX5_ofLine_10 : decode cX5_ofLine 10 = .ok (.aaload, 1) := by decide +kernel
theorem dX5_ofLine_11 : decode cX5_ofLine 11 = .ok (.astore_n 3, 1) := by decide +kernel
theorem dX5_ofLine_12 : decode cX5_ofLine 12 = .ok (.iload_n 2, 1) := by decide +kernel
theorem dX5_ofLine_13 : decode cX5_ofLine 13 = .ok (.tableswitch 89 0 7 #[47, 52, 57, 62, 67, 72, 77, 83], 47) := by decide +kernel
theorem dX5_ofLine_60 : decode cX5_ofLine 60 = .ok (.aload_n 3, 1) := by decide +kernel
theorem dX5_ofLine_61 : decode cX5_ofLine 61 = .ok (.getfield 85, 3) := by decide +kernel
theorem dX5_ofLine_64 : decode cX5_ofLine 64 = .ok (.ireturn, 1) := by decide +kernel
theorem dX5_ofLine_65 : decode cX5_ofLine 65 = .ok (.aload_n 3, 1) := by decide +kernel
theorem dX5_ofLine_66 : decode cX5_ofLine 66 = .ok (.getfield 88, 3) := by decide +kernel
theorem dX5_ofLine_69 : decode cX5_ofLine 69 = .ok (.ireturn, 1) := by decide +kernel
theorem dX5_ofLine_70 : decode cX5_ofLine 70 = .ok (.aload_n 3, 1) := by decide +kernel
theorem dX5_ofLine_71 : decode cX5_ofLine 71 = .ok (.getfield 131, 3) := by decide +kernel
theorem dX5_ofLine_74 : decode cX5_ofLine 74 = .ok (.ireturn, 1) := by decide +kernel
theorem dX5_ofLine_75 : decode cX5_ofLine 75 = .ok (.aload_n 3, 1) := by decide +kernel
theorem dX5_ofLine_76 : decode cX5_ofLine 76 = .ok (.invokevirtual 267, 3) := by decide +kernel
theorem dX5_ofLine_79 : decode cX5_ofLine 79 = .ok (.ireturn, 1) := by decide +kernel
theorem dX5_ofLine_80 : decode cX5_ofLine 80 = .ok (.aload_n 3, 1) := by decide +kernel
theorem dX5_ofLine_81 : decode cX5_ofLine 81 = .ok (.invokevirtual 270, 3) := by decide +kernel
theorem dX5_ofLine_84 : decode cX5_ofLine 84 = .ok (.ireturn, 1) := by decide +kernel
theorem dX5_ofLine_85 : decode cX5_ofLine 85 = .ok (.aload_n 3, 1) := by decide +kernel
theorem dX5_ofLine_86 : decode cX5_ofLine 86 = .ok (.getfield 273, 3) := by decide +kernel
theorem dX5_ofLine_89 : decode cX5_ofLine 89 = .ok (.ireturn, 1) := by decide +kernel
theorem dX5_ofLine_90 : decode cX5_ofLine 90 = .ok (.aload_n 0, 1) := by decide +kernel
theorem dX5_ofLine_91 : decode cX5_ofLine 91 = .ok (.iload_n 1, 1) := by decide +kernel
theorem dX5_ofLine_92 : decode cX5_ofLine 92 = .ok (.invokevirtual 276, 3) := by decide +kernel
theorem dX5_ofLine_95 : decode cX5_ofLine 95 = .ok (.ireturn, 1) := by decide +kernel
theorem dX5_ofLine_96 : decode cX5_ofLine 96 = .ok (.aload_n 0, 1) := by decide +kernel
theorem dX5_ofLine_97 : decode cX5_ofLine 97 = .ok (.iload_n 1, 1) := by decide +kernel
theorem dX5_ofLine_98 : decode cX5_ofLine 98 = .ok (.invokevirtual 279, 3) := by decide +kernel
theorem dX5_ofLine_101 : decode cX5_ofLine 101 = .ok (.ireturn, 1) := by decide +kernel
theorem dX5_ofLine_102 : decode cX5_ofLine 102 = .ok (.new 75, 3) := by decide +kernel
theorem dX5_ofLine_105 : decode cX5_ofLine 105 = .ok (.dup, 1) := by decide +kernel
theorem dX5_ofLine_106 : decode cX5_ofLine 106 = .ok (.ldc_w 282, 3) := by decide +kernel
theorem dX5_ofLine_109 : decode cX5_ofLine 109 = .ok (.invokespecial 79, 3) := by decide +kernel
theorem dX5_ofLine_112 : decode cX5_ofLine 112 = .ok (.athrow, 1) := by decide +kernel
theorem dX5_many_0 : decode cX5_many 0 = .ok (.iload_n 1, 1) := by decide +kernel
theorem dX5_many_1 : decode cX5_many 1 = .ok (.tableswitch 117 0 10 #[59, 64, 72, 77, 82, 87, 92, 97, 102, 107, 112], 59) := by decide +kernel
theorem dX5_many_60 : decode cX5_many 60 = .ok (.aload_n 0, 1) := by decide +kernel
theorem dX5_many_61 : decode cX5_many 61 = .ok (.getfield 123, 3) := by decide +kernel
theorem dX5_many_64 : decode cX5_many 64 = .ok (.ireturn, 1) := by decide +kernel
theorem dX5_many_65 : decode cX5_many 65 = .ok (.aload_n 0, 1) := by decide +kernel
theorem dX5_many_66 : decode cX5_many 66 = .ok (.getfield 10, 3) := by decide +kernel
theorem dX5_many_69 : decode cX5_many 69 = .ok (.getfield 55, 3) := by decide +kernel
theorem dX5_many_72 : decode cX5_many 72 = .ok (.ireturn, 1) := by decide +kernel
theorem dX5_many_73 : decode cX5_many 73 = .ok (.aload_n 0, 1) := by decide +kernel
theorem dX5_many_74 : decode cX5_many 74 = .ok (.getfield 70, 3) := by decide +kernel
theorem dX5_many_77 : decode cX5_many 77 = .ok (.ireturn, 1) := by decide +kernel
theorem dX5_many_78 : decode cX5_many 78 = .ok (.aload_n 0, 1) := by decide +kernel
theorem dX5_many_79 : decode cX5_many 79 = .ok (.getfield 80, 3) := by decide +kernel
theorem dX5_many_82 : decode cX5_many 82 = .ok (.ireturn, 1) := by decide +kernel
theorem dX5_many_83 : decode cX5_many 83 = .ok (.aload_n 0, 1) := by decide +kernel
theorem dX5_many_84 : decode cX5_many 84 = .ok (.getfield 284, 3) := by decide +kernel
theorem dX5_many_87 : decode cX5_many 87 = .ok (.ireturn, 1) := by decide +kernel
theorem dX5_many_88 : decode cX5_many 88 = .ok (.aload_n 0, 1) := by decide +kernel
theorem dX5_many_89 : decode cX5_many 89 = .ok (.invokevirtual 287, 3) := by decide +kernel
theorem dX5_many_92 : decode cX5_many 92 = .ok (.ireturn, 1) := by decide +kernel
theorem dX5_many_93 : decode cX5_many 93 = .ok (.aload_n 0, 1) := by decide +kernel
theorem dX5_many_94 : decode cX5_many 94 = .ok (.invokevirtual 290, 3) := by decide +kernel
theorem dX5_many_97 : decode cX5_many 97 = .ok (.ireturn, 1) := by decide +kernel
theorem dX5_many_98 : decode cX5_many 98 = .ok (.aload_n 0, 1) := by decide +kernel
theorem dX5_many_99 : decode cX5_many 99 = .ok (.invokevirtual 293, 3) := by decide +kernel
theorem dX5_many_102 : decode cX5_many 102 = .ok (.ireturn, 1) := by decide +kernel
theorem dX5_many_103 : decode cX5_many 103 = .ok (.aload_n 0, 1) := by decide +kernel
theorem dX5_many_104 : decode cX5_many 104 = .ok (.invokevirtual 296, 3) := by decide +kernel
theorem dX5_many_107 : decode cX5_many 107 = .ok (.ireturn, 1) := by decide +kernel
theorem dX5_many_108 : decode cX5_many 108 = .ok (.aload_n 0, 1) := by decide +kernel
theorem dX5_many_109 : decode cX5_many 109 = .ok (.invokevirtual 299, 3) := by decide +kernel
theorem dX5_many_112 : decode cX5_many 112 = .ok (.ireturn, 1) := by decide +kernel
theorem dX5_many_113 : decode cX5_many 113 = .ok (.aload_n 0, 1) := by decide +kernel
theorem dX5_many_114 : decode cX5_many 114 = .ok (.invokevirtual 302, 3) := by decide +kernel
theorem dX5_many_117 : decode cX5_many 117 = .ok (.ireturn, 1) := by decide +kernel
theorem dX5_many_118 : decode cX5_many 118 = .ok (.new 75, 3) := by decide +kernel
theorem dX5_many_121 : decode cX5_many 121 = .ok (.dup, 1) := by decide +kernel
theorem dX5_many_122 : decode cX5_many 122 = .ok (.ldc_w 305, 3) := by decide +kernel
theorem dX5_many_125 : decode cX5_many 125 = .ok (.invokespecial 79, 3) := by decide +kernel
theorem dX5_many_128 : decode cX5_many 128 = .ok (.athrow, 1) := by decide +kernel
theorem dX5_meanDelay_0 : decode cX5_meanDelay 0 = .ok (.iconst 0, 1) := by decide +kernel
theorem dX5_meanDelay_1 : decode cX5_meanDelay 1 = .ok (.istore_n 1, 1) := by decide +kernel
theorem dX5_meanDelay_2 : decode cX5_meanDelay 2 = .ok (.iconst 0, 1) := by decide +kernel
theorem dX5_meanDelay_3 : decode cX5_meanDelay 3 = .ok (.istore_n 2, 1) := by decide +kernel
theorem dX5_meanDelay_4 : decode cX5_meanDelay 4 = .ok (.iconst 0, 1) := by decide +kernel
theorem dX5_meanDelay_5 : decode cX5_meanDelay 5 = .ok (.istore_n 3, 1) := by decide +kernel
theorem dX5_meanDelay_6 : decode cX5_meanDelay 6 = .ok (.iload_n 3, 1) := by decide +kernel
theorem dX5_meanDelay_7 : decode cX5_meanDelay 7 = .ok (.aload_n 0, 1) := by decide +kernel
theorem dX5_meanDelay_8 : decode cX5_meanDelay 8 = .ok (.getfield 80, 3) := by decide +kernel
theorem dX5_meanDelay_11 : decode cX5_meanDelay 11 = .ok (.if_icmp .ge 83, 3) := by decide +kernel
theorem dX5_meanDelay_14 : decode cX5_meanDelay 14 = .ok (.iconst 0, 1) := by decide +kernel
theorem dX5_meanDelay_15 : decode cX5_meanDelay 15 = .ok (.istore 4, 2) := by decide +kernel
theorem dX5_meanDelay_17 : decode cX5_meanDelay 17 = .ok (.iload 4, 2) := by decide +kernel
theorem dX5_meanDelay_19 : decode cX5_meanDelay 19 = .ok (.aload_n 0, 1) := by decide +kernel
theorem dX5_meanDelay_20 : decode cX5_meanDelay 20 = .ok (.getfield 284, 3) := by decide +kernel
theorem dX5_meanDelay_23 : decode cX5_meanDelay 23 = .ok (.if_icmp .ge 65, 3) := by decide +kernel
theorem dX5_meanDelay_26 : decode cX5_meanDelay 26 = .ok (.aload_n 0, 1) := by decide +kernel
theorem dX5_meanDelay_27 : decode cX5_meanDelay 27 = .ok (.getfield 39, 3) := by decide +kernel
theorem dX5_meanDelay_30 : decode cX5_meanDelay 30 = .ok (.iload_n 3, 1) := by decide +kernel
theorem dX5_meanDelay_31 : decode cX5_meanDelay 31 = .ok (.aaload, 1) := by decide +kernel
theorem dX5_meanDelay_32 : decode cX5_meanDelay 32 = .ok (.iload 4, 2) := by decide +kernel
theorem dX5_meanDelay_34 : decode cX5_meanDelay 34 = .ok (.invokevirtual 183, 3) := by decide +kernel
theorem dX5_meanDelay_37 : decode cX5_meanDelay 37 = .ok (.ifCond .eq 45, 3) := by decide +kernel
theorem dX5_meanDelay_40 : decode cX5_meanDelay 40 = .ok (.iload_n 1, 1) := by decide +kernel
theorem dX5_meanDelay_41 : decode cX5_meanDelay 41 = .ok (.aload_n 0, 1) := by decide +kernel
theorem dX5_meanDelay_42 : decode cX5_meanDelay 42 = .ok (.getfield 39, 3) := by decide +kernel
theorem dX5_meanDelay_45 : decode cX5_meanDelay 45 = .ok (.iload_n 3, 1) := by decide +kernel
theorem dX5_meanDelay_46 : decode cX5_meanDelay 46 = .ok (.aaload, 1) := by decide +kernel
theorem dX5_meanDelay_47 : decode cX5_meanDelay 47 = .ok (.getfield 307, 3) := by decide +kernel
theorem dX5_meanDelay_50 : decode cX5_meanDelay 50 = .ok (.iload 4, 2) := by decide +kernel
theorem dX5_meanDelay_52 : decode cX5_meanDelay 52 = .ok (.iaload, 1) := by decide +kernel
theorem dX5_meanDelay_53 : decode cX5_meanDelay 53 = .ok (.aload_n 0, 1) := by decide +kernel
theorem dX5_meanDelay_54 : decode cX5_meanDelay 54 = .ok (.getfield 32, 3) := by decide +kernel
theorem dX5_meanDelay_57 : decode cX5_meanDelay 57 = .ok (.iload 4, 2) := by decide +kernel
theorem dX5_meanDelay_59 : decode cX5_meanDelay 59 = .ok (.aaload, 1) := by decide +kernel
theorem dX5_meanDelay_60 : decode cX5_meanDelay 60 = .ok (.getfield 241, 3) := by decide +kernel
theorem dX5_meanDelay_63 : decode cX5_meanDelay 63 = .ok (.aload_n 0, 1) := by decide +kernel
theorem dX5_meanDelay_64 : decode cX5_meanDelay 64 = .ok (.getfield 32, 3) := by decide +kernel
theorem dX5_meanDelay_67 : decode cX5_meanDelay 67 = .ok (.iload 4, 2) := by decide +kernel
theorem dX5_meanDelay_69 : decode cX5_meanDelay 69 = .ok (.aaload, 1) := by decide +kernel
theorem dX5_meanDelay_70 : decode cX5_meanDelay 70 = .ok (.getfield 231, 3) := by decide +kernel
theorem dX5_meanDelay_73 : decode cX5_meanDelay 73 = .ok (.invokestatic 310, 3) := by decide +kernel
theorem dX5_meanDelay_76 : decode cX5_meanDelay 76 = .ok (.isub, 1) := by decide +kernel
theorem dX5_meanDelay_77 : decode cX5_meanDelay 77 = .ok (.iadd, 1) := by decide +kernel
theorem dX5_meanDelay_78 : decode cX5_meanDelay 78 = .ok (.istore_n 1, 1) := by decide +kernel
theorem dX5_meanDelay_79 : decode cX5_meanDelay 79 = .ok (.iinc 2 1, 3) := by decide +kernel
theorem dX5_meanDelay_82 : decode cX5_meanDelay 82 = .ok (.iinc 4 1, 3) := by decide +kernel
theorem dX5_meanDelay_85 : decode cX5_meanDelay 85 = .ok (.goto (-68), 3) := by decide +kernel
theorem dX5_meanDelay_88 : decode cX5_meanDelay 88 = .ok (.iinc 3 1, 3) := by decide +kernel
theorem dX5_meanDelay_91 : decode cX5_meanDelay 91 = .ok (.goto (-85), 3) := by decide +kernel
theorem dX5_meanDelay_94 : decode cX5_meanDelay 94 = .ok (.iload_n 2, 1) := by decide +kernel
theorem dX5_meanDelay_95 : decode cX5_meanDelay 95 = .ok (.ifCond .ne 7, 3) := by decide +kernel
theorem dX5_meanDelay_98 : decode cX5_meanDelay 98 = .ok (.dconst 0, 1) := by decide +kernel
theorem dX5_meanDelay_99 : decode cX5_meanDelay 99 = .ok (.goto 8, 3) := by decide +kernel
theorem dX5_meanDelay_102 : decode cX5_meanDelay 102 = .ok (.iload_n 1, 1) := by decide +kernel
theorem dX5_meanDelay_103 : decode cX5_meanDelay 103 = .ok (.i2d, 1) := by decide +kernel
theorem dX5_meanDelay_104 : decode cX5_meanDelay 104 = .ok (.iload_n 2, 1) := by decide +kernel
theorem dX5_meanDelay_105 : decode cX5_meanDelay 105 = .ok (.i2d, 1) := by decide +kernel
theorem dX5_meanDelay_106 : decode cX5_meanDelay 106 = .ok (.ddiv, 1) := by decide +kernel
theorem dX5_meanDelay_107 : decode cX5_meanDelay 107 = .ok (.dreturn, 1) := by decide +kernel
theorem dX5_arrives_0 : decode cX5_arrives 0 = .ok (.aload_n 0, 1) := by decide +kernel
theorem dX5_arrives_1 : decode cX5_arrives 1 = .ok (.iload_n 1, 1) := by decide +kernel
theorem dX5_arrives_2 : decode cX5_arrives 2 = .ok (.invokevirtual 126, 3) := by decide +kernel
theorem dX5_arrives_5 : decode cX5_arrives 5 = .ok (.aload_n 0, 1) := by decide +kernel
theorem dX5_arrives_6 : decode cX5_arrives 6 = .ok (.iload_n 2, 1) := by decide +kernel
theorem dX5_arrives_7 : decode cX5_arrives 7 = .ok (.invokevirtual 159, 3) := by decide +kernel
theorem dX5_arrives_10 : decode cX5_arrives 10 = .ok (.aload_n 0, 1) := by decide +kernel
theorem dX5_arrives_11 : decode cX5_arrives 11 = .ok (.getfield 39, 3) := by decide +kernel
theorem dX5_arrives_14 : decode cX5_arrives 14 = .ok (.iload_n 1, 1) := by decide +kernel
theorem dX5_arrives_15 : decode cX5_arrives 15 = .ok (.aaload, 1) := by decide +kernel
theorem dX5_arrives_16 : decode cX5_arrives 16 = .ok (.astore_n 3, 1) := by decide +kernel
theorem dX5_arrives_17 : decode cX5_arrives 17 = .ok (.aload_n 3, 1) := by decide +kernel
theorem dX5_arrives_18 : decode cX5_arrives 18 = .ok (.iload_n 2, 1) := by decide +kernel
theorem dX5_arrives_19 : decode cX5_arrives 19 = .ok (.invokevirtual 251, 3) := by decide +kernel
theorem dX5_arrives_22 : decode cX5_arrives 22 = .ok (.ifCond .ne 5, 3) := by decide +kernel
theorem dX5_arrives_25 : decode cX5_arrives 25 = .ok (.iconst (-1), 1) := by decide +kernel
theorem dX5_arrives_26 : decode cX5_arrives 26 = .ok (.ireturn, 1) := by decide +kernel
theorem dX5_arrives_27 : decode cX5_arrives 27 = .ok (.aload_n 3, 1) := by decide +kernel
theorem dX5_arrives_28 : decode cX5_arrives 28 = .ok (.iload_n 2, 1) := by decide +kernel
theorem dX5_arrives_29 : decode cX5_arrives 29 = .ok (.invokevirtual 183, 3) := by decide +kernel
theorem dX5_arrives_32 : decode cX5_arrives 32 = .ok (.ifCond .eq 24, 3) := by decide +kernel
theorem dX5_arrives_35 : decode cX5_arrives 35 = .ok (.iconst 0, 1) := by decide +kernel
theorem dX5_arrives_36 : decode cX5_arrives 36 = .ok (.aload_n 3, 1) := by decide +kernel
theorem dX5_arrives_37 : decode cX5_arrives 37 = .ok (.getfield 307, 3) := by decide +kernel
theorem dX5_arrives_40 : decode cX5_arrives 40 = .ok (.iload_n 2, 1) := by decide +kernel
theorem dX5_arrives_41 : decode cX5_arrives 41 = .ok (.iaload, 1) := by decide +kernel
theorem dX5_arrives_42 : decode cX5_arrives 42 = .ok (.aload_n 3, 1) := by decide +kernel
theorem dX5_arrives_43 : decode cX5_arrives 43 = .ok (.getfield 88, 3) := by decide +kernel
theorem dX5_arrives_46 : decode cX5_arrives 46 = .ok (.iadd, 1) := by decide +kernel
theorem dX5_arrives_47 : decode cX5_arrives 47 = .ok (.aload_n 0, 1) := by decide +kernel
theorem dX5_arrives_48 : decode cX5_arrives 48 = .ok (.getfield 123, 3) := by decide +kernel
theorem dX5_arrives_51 : decode cX5_arrives 51 = .ok (.isub, 1) := by decide +kernel
theorem dX5_arrives_52 : decode cX5_arrives 52 = .ok (.invokestatic 310, 3) := by decide +kernel
theorem dX5_arrives_55 : decode cX5_arrives 55 = .ok (.ireturn, 1) := by decide +kernel
theorem dX5_arrives_56 : decode cX5_arrives 56 = .ok (.aload_n 0, 1) := by decide +kernel
theorem dX5_arrives_57 : decode cX5_arrives 57 = .ok (.getfield 44, 3) := by decide +kernel
theorem dX5_arrives_60 : decode cX5_arrives 60 = .ok (.aload_n 3, 1) := by decide +kernel
theorem dX5_arrives_61 : decode cX5_arrives 61 = .ok (.invokevirtual 315, 3) := by decide +kernel
theorem dX5_arrives_64 : decode cX5_arrives 64 = .ok (.aload_n 0, 1) := by decide +kernel
theorem dX5_arrives_65 : decode cX5_arrives 65 = .ok (.getfield 44, 3) := by decide +kernel
theorem dX5_arrives_68 : decode cX5_arrives 68 = .ok (.iload_n 2, 1) := by decide +kernel
theorem dX5_arrives_69 : decode cX5_arrives 69 = .ok (.aload_n 0, 1) := by decide +kernel
theorem dX5_arrives_70 : decode cX5_arrives 70 = .ok (.getfield 123, 3) := by decide +kernel
theorem dX5_arrives_73 : decode cX5_arrives 73 = .ok (.invokevirtual 319, 3) := by decide +kernel
theorem dX5_arrives_76 : decode cX5_arrives 76 = .ok (.ireturn, 1) := by decide +kernel
theorem dX5_wouldArrive_0 : decode cX5_wouldArrive 0 = .ok (.aload_n 0, 1) := by decide +kernel
theorem dX5_wouldArrive_1 : decode cX5_wouldArrive 1 = .ok (.iload_n 1, 1) := by decide +kernel
theorem dX5_wouldArrive_2 : decode cX5_wouldArrive 2 = .ok (.invokevirtual 126, 3) := by decide +kernel
theorem dX5_wouldArrive_5 : decode cX5_wouldArrive 5 = .ok (.iload_n 2, 1) := by decide +kernel
theorem dX5_wouldArrive_6 : decode cX5_wouldArrive 6 = .ok (.ifCond .lt 20, 3) := by decide +kernel
theorem dX5_wouldArrive_9 : decode cX5_wouldArrive 9 = .ok (.iload_n 2, 1) := by decide +kernel
theorem dX5_wouldArrive_10 : decode cX5_wouldArrive 10 = .ok (.iconst 4, 1) := by decide +kernel
theorem dX5_wouldArrive_11 : decode cX5_wouldArrive 11 = .ok (.if_icmp .gt 15, 3) := by decide +kernel
theorem dX5_wouldArrive_14 : decode cX5_wouldArrive 14 = .ok (.iload_n 3, 1) := by decide +kernel
theorem dX5_wouldArrive_15 : decode cX5_wouldArrive 15 = .ok (.iconst 1, 1) := by decide +kernel
theorem dX5_wouldArrive_16 : decode cX5_wouldArrive 16 = .ok (.if_icmp .lt 10, 3) := by decide +kernel
theorem dX5_wouldArrive_19 : decode cX5_wouldArrive 19 = .ok (.iload_n 3, 1) := by decide +kernel
theorem dX5_wouldArrive_20 : decode cX5_wouldArrive 20 = .ok (.sipush 200, 3) := by decide +kernel
theorem dX5_wouldArrive_23 : decode cX5_wouldArrive 23 = .ok (.if_icmp .le 14, 3) := by decide +kernel
theorem dX5_wouldArrive_26 : decode cX5_wouldArrive 26 = .ok (.new 75, 3) := by decide +kernel
theorem dX5_wouldArrive_29 : decode cX5_wouldArrive 29 = .ok (.dup, 1) := by decide +kernel
theorem dX5_wouldArrive_30 : decode cX5_wouldArrive 30 = .ok (.ldc_w 322, 3) := by decide +kernel
theorem dX5_wouldArrive_33 : decode cX5_wouldArrive 33 = .ok (.invokespecial 79, 3) := by decide +kernel
theorem dX5_wouldArrive_36 : decode cX5_wouldArrive 36 = .ok (.athrow, 1) := by decide +kernel
theorem dX5_wouldArrive_37 : decode cX5_wouldArrive 37 = .ok (.aload_n 0, 1) := by decide +kernel
theorem dX5_wouldArrive_38 : decode cX5_wouldArrive 38 = .ok (.getfield 44, 3) := by decide +kernel
theorem dX5_wouldArrive_41 : decode cX5_wouldArrive 41 = .ok (.aload_n 0, 1) := by decide +kernel
theorem dX5_wouldArrive_42 : decode cX5_wouldArrive 42 = .ok (.getfield 39, 3) := by decide +kernel
theorem dX5_wouldArrive_45 : decode cX5_wouldArrive 45 = .ok (.iload_n 1, 1) := by decide +kernel
theorem dX5_wouldArrive_46 : decode cX5_wouldArrive 46 = .ok (.aaload, 1) := by decide +kernel
theorem dX5_wouldArrive_47 : decode cX5_wouldArrive 47 = .ok (.invokevirtual 315, 3) := by decide +kernel
theorem dX5_wouldArrive_50 : decode cX5_wouldArrive 50 = .ok (.aload_n 0, 1) := by decide +kernel
theorem dX5_wouldArrive_51 : decode cX5_wouldArrive 51 = .ok (.getfield 44, 3) := by decide +kernel
theorem dX5_wouldArrive_54 : decode cX5_wouldArrive 54 = .ok (.aload_n 0, 1) := by decide +kernel
theorem dX5_wouldArrive_55 : decode cX5_wouldArrive 55 = .ok (.getfield 284, 3) := by decide +kernel
theorem dX5_wouldArrive_58 : decode cX5_wouldArrive 58 = .ok (.iload_n 2, 1) := by decide +kernel
theorem dX5_wouldArrive_59 : decode cX5_wouldArrive 59 = .ok (.iload_n 3, 1) := by decide +kernel
theorem dX5_wouldArrive_60 : decode cX5_wouldArrive 60 = .ok (.iconst 0, 1) := by decide +kernel
theorem dX5_wouldArrive_61 : decode cX5_wouldArrive 61 = .ok (.invokevirtual 324, 3) := by decide +kernel
theorem dX5_wouldArrive_64 : decode cX5_wouldArrive 64 = .ok (.aload_n 0, 1) := by decide +kernel
theorem dX5_wouldArrive_65 : decode cX5_wouldArrive 65 = .ok (.getfield 44, 3) := by decide +kernel
theorem dX5_wouldArrive_68 : decode cX5_wouldArrive 68 = .ok (.aload_n 0, 1) := by decide +kernel
theorem dX5_wouldArrive_69 : decode cX5_wouldArrive 69 = .ok (.getfield 284, 3) := by decide +kernel
theorem dX5_wouldArrive_72 : decode cX5_wouldArrive 72 = .ok (.aload_n 0, 1) := by decide +kernel
theorem dX5_wouldArrive_73 : decode cX5_wouldArrive 73 = .ok (.getfield 123, 3) := by decide +kernel
theorem dX5_wouldArrive_76 : decode cX5_wouldArrive 76 = .ok (.invokevirtual 319, 3) := by decide +kernel
theorem dX5_wouldArrive_79 : decode cX5_wouldArrive 79 = .ok (.ireturn, 1) := by decide +kernel
theorem dX5_needs_0 : decode cX5_needs 0 = .ok (.aload_n 0, 1) := by decide +kernel
theorem dX5_needs_1 : decode cX5_needs 1 = .ok (.iload_n 1, 1) := by decide +kernel
theorem dX5_needs_2 : decode cX5_needs 2 = .ok (.iload_n 2, 1) := by decide +kernel
theorem dX5_needs_3 : decode cX5_needs 3 = .ok (.invokevirtual 91, 3) := by decide +kernel
theorem dX5_needs_6 : decode cX5_needs 6 = .ok (.iload_n 3, 1) := by decide +kernel
theorem dX5_needs_7 : decode cX5_needs 7 = .ok (.invokestatic 95, 3) := by decide +kernel
theorem dX5_needs_10 : decode cX5_needs 10 = .ok (.iload 4, 2) := by decide +kernel
theorem dX5_needs_12 : decode cX5_needs 12 = .ok (.invokestatic 52, 3) := by decide +kernel
theorem dX5_needs_15 : decode cX5_needs 15 = .ok (.aload_n 0, 1) := by decide +kernel
theorem dX5_needs_16 : decode cX5_needs 16 = .ok (.iload_n 1, 1) := by decide +kernel
theorem dX5_needs_17 : decode cX5_needs 17 = .ok (.iload_n 2, 1) := by decide +kernel
theorem dX5_needs_18 : decode cX5_needs 18 = .ok (.invokevirtual 98, 3) := by decide +kernel
theorem dX5_needs_21 : decode cX5_needs 21 = .ok (.astore 5, 2) := by decide +kernel
theorem dX5_needs_23 : decode cX5_needs 23 = .ok (.aload 5, 2) := by decide +kernel
theorem dX5_needs_25 : decode cX5_needs 25 = .ok (.aload_n 0, 1) := by decide +kernel
theorem dX5_needs_26 : decode cX5_needs 26 = .ok (.getfield 10, 3) := by decide +kernel
theorem dX5_needs_29 : decode cX5_needs 29 = .ok (.aload_n 0, 1) := by decide +kernel
theorem dX5_needs_30 : decode cX5_needs 30 = .ok (.getfield 19, 3) := by decide +kernel
theorem dX5_needs_33 : decode cX5_needs 33 = .ok (.iconst 1, 1) := by decide +kernel
theorem dX5_needs_34 : decode cX5_needs 34 = .ok (.iload_n 3, 1) := by decide +kernel
theorem dX5_needs_35 : decode cX5_needs 35 = .ok (.invokevirtual 328, 3) := by decide +kernel
theorem dX5_needs_38 : decode cX5_needs 38 = .ok (.istore 6, 2) := by decide +kernel
theorem dX5_needs_40 : decode cX5_needs 40 = .ok (.iconst 0, 1) := by decide +kernel
theorem dX5_needs_41 : decode cX5_needs 41 = .ok (.istore 7, 2) := by decide +kernel
theorem dX5_needs_43 : decode cX5_needs 43 = .ok (.iload 6, 2) := by decide +kernel
theorem dX5_needs_45 : decode cX5_needs 45 = .ok (.iconst (-1), 1) := by decide +kernel
theorem dX5_needs_46 : decode cX5_needs 46 = .ok (.if_icmp .eq 30, 3) := by decide +kernel
theorem dX5_needs_49 : decode cX5_needs 49 = .ok (.aload_n 0, 1) := by decide +kernel
theorem dX5_needs_50 : decode cX5_needs 50 = .ok (.getfield 19, 3) := by decide +kernel
theorem dX5_needs_53 : decode cX5_needs 53 = .ok (.aload_n 0, 1) := by decide +kernel
theorem dX5_needs_54 : decode cX5_needs 54 = .ok (.getfield 10, 3) := by decide +kernel
theorem dX5_needs_57 : decode cX5_needs 57 = .ok (.aload 5, 2) := by decide +kernel
theorem dX5_needs_59 : decode cX5_needs 59 = .ok (.getfield 102, 3) := by decide +kernel
theorem dX5_needs_62 : decode cX5_needs 62 = .ok (.iload 6, 2) := by decide +kernel
theorem dX5_needs_64 : decode cX5_needs 64 = .ok (.invokevirtual 110, 3) := by decide +kernel
theorem dX5_needs_67 : decode cX5_needs 67 = .ok (.aload_n 0, 1) := by decide +kernel
theorem dX5_needs_68 : decode cX5_needs 68 = .ok (.getfield 19, 3) := by decide +kernel
theorem dX5_needs_71 : decode cX5_needs 71 = .ok (.getfield 222, 3) := by decide +kernel
theorem dX5_needs_74 : decode cX5_needs 74 = .ok (.istore 7, 2) := by decide +kernel
theorem dX5_needs_76 : decode cX5_needs 76 = .ok (.aload_n 0, 1) := by decide +kernel
theorem dX5_needs_77 : decode cX5_needs 77 = .ok (.getfield 19, 3) := by decide +kernel
theorem dX5_needs_80 : decode cX5_needs 80 = .ok (.aload_n 0, 1) := by decide +kernel
theorem dX5_needs_81 : decode cX5_needs 81 = .ok (.getfield 10, 3) := by decide +kernel
theorem dX5_needs_84 : decode cX5_needs 84 = .ok (.aload 5, 2) := by decide +kernel
theorem dX5_needs_86 : decode cX5_needs 86 = .ok (.getfield 102, 3) := by decide +kernel
theorem dX5_needs_89 : decode cX5_needs 89 = .ok (.iload_n 3, 1) := by decide +kernel
theorem dX5_needs_90 : decode cX5_needs 90 = .ok (.invokevirtual 110, 3) := by decide +kernel
theorem dX5_needs_93 : decode cX5_needs 93 = .ok (.iconst 0, 1) := by decide +kernel
theorem dX5_needs_94 : decode cX5_needs 94 = .ok (.istore 8, 2) := by decide +kernel
theorem dX5_needs_96 : decode cX5_needs 96 = .ok (.iload 8, 2) := by decide +kernel
theorem dX5_needs_98 : decode cX5_needs 98 = .ok (.bipush 10, 2) := by decide +kernel
theorem dX5_needs_100 : decode cX5_needs 100 = .ok (.if_icmp .gt 73, 3) := by decide +kernel
theorem dX5_needs_103 : decode cX5_needs 103 = .ok (.aload_n 0, 1) := by decide +kernel
theorem dX5_needs_104 : decode cX5_needs 104 = .ok (.getfield 19, 3) := by decide +kernel
theorem dX5_needs_107 : decode cX5_needs 107 = .ok (.getfield 222, 3) := by decide +kernel
theorem dX5_needs_110 : decode cX5_needs 110 = .ok (.iload 7, 2) := by decide +kernel
theorem dX5_needs_112 : decode cX5_needs 112 = .ok (.if_icmp .gt 21, 3) := by decide +kernel
theorem dX5_needs_115 : decode cX5_needs 115 = .ok (.aload_n 0, 1) := by decide +kernel
theorem dX5_needs_116 : decode cX5_needs 116 = .ok (.getfield 19, 3) := by decide +kernel
theorem dX5_needs_119 : decode cX5_needs 119 = .ok (.getfield 222, 3) := by decide +kernel
theorem dX5_needs_122 : decode cX5_needs 122 = .ok (.iload 7, 2) := by decide +kernel
theorem dX5_needs_124 : decode cX5_needs 124 = .ok (.if_icmp .ne 13, 3) := by decide +kernel
theorem dX5_needs_127 : decode cX5_needs 127 = .ok (.iload_n 3, 1) := by decide +kernel
theorem dX5_needs_128 : decode cX5_needs 128 = .ok (.iload 6, 2) := by decide +kernel
theorem dX5_needs_130 : decode cX5_needs 130 = .ok (.if_icmp .ge 7, 3) := by decide +kernel
theorem dX5_needs_133 : decode cX5_needs 133 = .ok (.iconst 1, 1) := by decide +kernel
theorem dX5_needs_134 : decode cX5_needs 134 = .ok (.goto 4, 3) := by decide +kernel
theorem dX5_needs_137 : decode cX5_needs 137 = .ok (.iconst 0, 1) := by decide +kernel
theorem dX5_needs_138 : decode cX5_needs 138 = .ok (.istore 9, 2) := by decide +kernel
theorem dX5_needs_140 : decode cX5_needs 140 = .ok (.iload 9, 2) := by decide +kernel
theorem dX5_needs_142 : decode cX5_needs 142 = .ok (.ifCond .eq 16, 3) := by decide +kernel
theorem dX5_needs_145 : decode cX5_needs 145 = .ok (.aload_n 0, 1) := by decide +kernel
theorem dX5_needs_146 : decode cX5_needs 146 = .ok (.getfield 19, 3) := by decide +kernel
theorem dX5_needs_149 : decode cX5_needs 149 = .ok (.invokevirtual 114, 3) := by decide +kernel
theorem dX5_needs_152 : decode cX5_needs 152 = .ok (.ifCond .le 6, 3) := by decide +kernel
theorem dX5_needs_155 : decode cX5_needs 155 = .ok (.iload 8, 2) := by decide +kernel
theorem dX5_needs_157 : decode cX5_needs 157 = .ok (.ireturn, 1) := by decide +kernel
theorem dX5_needs_158 : decode cX5_needs 158 = .ok (.aload_n 0, 1) := by decide +kernel
theorem dX5_needs_159 : decode cX5_needs 159 = .ok (.getfield 19, 3) := by decide +kernel
theorem dX5_needs_162 : decode cX5_needs 162 = .ok (.iload 4, 2) := by decide +kernel
theorem dX5_needs_164 : decode cX5_needs 164 = .ok (.invokevirtual 332, 3) := by decide +kernel
theorem dX5_needs_167 : decode cX5_needs 167 = .ok (.iinc 8 1, 3) := by decide +kernel
theorem dX5_needs_170 : decode cX5_needs 170 = .ok (.goto (-74), 3) := by decide +kernel
theorem dX5_needs_173 : decode cX5_needs 173 = .ok (.iconst (-1), 1) := by decide +kernel
theorem dX5_needs_174 : decode cX5_needs 174 = .ok (.ireturn, 1) := by decide +kernel
theorem dX5_lead_0 : decode cX5_lead 0 = .ok (.aload_n 0, 1) := by decide +kernel
theorem dX5_lead_1 : decode cX5_lead 1 = .ok (.iload_n 1, 1) := by decide +kernel
theorem dX5_lead_2 : decode cX5_lead 2 = .ok (.invokevirtual 134, 3) := by decide +kernel
theorem dX5_lead_5 : decode cX5_lead 5 = .ok (.iload_n 2, 1) := by decide +kernel
theorem dX5_lead_6 : decode cX5_lead 6 = .ok (.ifCond .lt 9, 3) := by decide +kernel
theorem dX5_lead_9 : decode cX5_lead 9 = .ok (.iload_n 2, 1) := by decide +kernel
theorem dX5_lead_10 : decode cX5_lead 10 = .ok (.bipush 99, 2) := by decide +kernel
theorem dX5_lead_12 : decode cX5_lead 12 = .ok (.if_icmp .le 14, 3) := by decide +kernel
theorem dX5_lead_15 : decode cX5_lead 15 = .ok (.new 75, 3) := by decide +kernel
theorem dX5_lead_18 : decode cX5_lead 18 = .ok (.dup, 1) := by decide +kernel
theorem dX5_lead_19 : decode cX5_lead 19 = .ok (.ldc_w 335, 3) := by decide +kernel
theorem dX5_lead_22 : decode cX5_lead 22 = .ok (.invokespecial 79, 3) := by decide +kernel
theorem dX5_lead_25 : decode cX5_lead 25 = .ok (.athrow, 1) := by decide +kernel
theorem dX5_lead_26 : decode cX5_lead 26 = .ok (.iconst 0, 1) := by decide +kernel
theorem dX5_lead_27 : decode cX5_lead 27 = .ok (.istore_n 3, 1) := by decide +kernel
theorem dX5_lead_28 : decode cX5_lead 28 = .ok (.iconst 0, 1) := by decide +kernel
theorem dX5_lead_29 : decode cX5_lead 29 = .ok (.istore 4, 2) := by decide +kernel
theorem dX5_lead_31 : decode cX5_lead 31 = .ok (.iconst 1, 1) := by decide +kernel
theorem dX5_lead_32 : decode cX5_lead 32 = .ok (.istore 5, 2) := by decide +kernel
theorem dX5_lead_34 : decode cX5_lead 34 = .ok (.iload 5, 2) := by decide +kernel
theorem dX5_lead_36 : decode cX5_lead 36 = .ok (.bipush 15, 2) := by decide +kernel
theorem dX5_lead_38 : decode cX5_lead 38 = .ok (.if_icmp .gt 53, 3) := by decide +kernel
theorem dX5_lead_41 : decode cX5_lead 41 = .ok (.aload_n 0, 1) := by decide +kernel
theorem dX5_lead_42 : decode cX5_lead 42 = .ok (.iload_n 1, 1) := by decide +kernel
theorem dX5_lead_43 : decode cX5_lead 43 = .ok (.iload 5, 2) := by decide +kernel
theorem dX5_lead_45 : decode cX5_lead 45 = .ok (.iconst 0, 1) := by decide +kernel
theorem dX5_lead_46 : decode cX5_lead 46 = .ok (.invokevirtual 142, 3) := by decide +kernel
theorem dX5_lead_49 : decode cX5_lead 49 = .ok (.ifCond .eq 36, 3) := by decide +kernel
theorem dX5_lead_52 : decode cX5_lead 52 = .ok (.iconst 3, 1) := by decide +kernel
theorem dX5_lead_53 : decode cX5_lead 53 = .ok (.iload 5, 2) := by decide +kernel
theorem dX5_lead_55 : decode cX5_lead 55 = .ok (.invokestatic 337, 3) := by decide +kernel
theorem dX5_lead_58 : decode cX5_lead 58 = .ok (.iload_n 2, 1) := by decide +kernel
theorem dX5_lead_59 : decode cX5_lead 59 = .ok (.if_icmp .gt 26, 3) := by decide +kernel
theorem dX5_lead_62 : decode cX5_lead 62 = .ok (.aload_n 0, 1) := by decide +kernel
theorem dX5_lead_63 : decode cX5_lead 63 = .ok (.iload_n 1, 1) := by decide +kernel
theorem dX5_lead_64 : decode cX5_lead 64 = .ok (.iload 5, 2) := by decide +kernel
theorem dX5_lead_66 : decode cX5_lead 66 = .ok (.invokevirtual 340, 3) := by decide +kernel
theorem dX5_lead_69 : decode cX5_lead 69 = .ok (.istore 6, 2) := by decide +kernel
theorem dX5_lead_71 : decode cX5_lead 71 = .ok (.iload 6, 2) := by decide +kernel
theorem dX5_lead_73 : decode cX5_lead 73 = .ok (.iload 4, 2) := by decide +kernel
theorem dX5_lead_75 : decode cX5_lead 75 = .ok (.if_icmp .le 10, 3) := by decide +kernel
theorem dX5_lead_78 : decode cX5_lead 78 = .ok (.iload 5, 2) := by decide +kernel
theorem dX5_lead_80 : decode cX5_lead 80 = .ok (.istore_n 3, 1) := by decide +kernel
theorem dX5_lead_81 : decode cX5_lead 81 = .ok (.iload 6, 2) := by decide +kernel
theorem dX5_lead_83 : decode cX5_lead 83 = .ok (.istore 4, 2) := by decide +kernel
theorem dX5_lead_85 : decode cX5_lead 85 = .ok (.iinc 5 1, 3) := by decide +kernel
theorem dX5_lead_88 : decode cX5_lead 88 = .ok (.goto (-54), 3) := by decide +kernel
theorem dX5_lead_91 : decode cX5_lead 91 = .ok (.iload_n 3, 1) := by decide +kernel
theorem dX5_lead_92 : decode cX5_lead 92 = .ok (.ireturn, 1) := by decide +kernel
theorem dX5_digest_0 : decode cX5_digest 0 = .ok (.ldc2_w 343, 3) := by decide +kernel
theorem dX5_digest_3 : decode cX5_digest 3 = .ok (.lstore_n 1, 1) := by decide +kernel
theorem dX5_digest_4 : decode cX5_digest 4 = .ok (.iconst 0, 1) := by decide +kernel
theorem dX5_digest_5 : decode cX5_digest 5 = .ok (.istore_n 3, 1) := by decide +kernel
theorem dX5_digest_6 : decode cX5_digest 6 = .ok (.iload_n 3, 1) := by decide +kernel
theorem dX5_digest_7 : decode cX5_digest 7 = .ok (.bipush 10, 2) := by decide +kernel
theorem dX5_digest_9 : decode cX5_digest 9 = .ok (.if_icmp .gt 22, 3) := by decide +kernel
theorem dX5_digest_12 : decode cX5_digest 12 = .ok (.lload_n 1, 1) := by decide +kernel
theorem dX5_digest_13 : decode cX5_digest 13 = .ok (.ldc2_w 345, 3) := by decide +kernel
theorem dX5_digest_16 : decode cX5_digest 16 = .ok (.lmul, 1) := by decide +kernel
theorem dX5_digest_17 : decode cX5_digest 17 = .ok (.aload_n 0, 1) := by decide +kernel
theorem dX5_digest_18 : decode cX5_digest 18 = .ok (.iload_n 3, 1) := by decide +kernel
theorem dX5_digest_19 : decode cX5_digest 19 = .ok (.invokevirtual 347, 3) := by decide +kernel
theorem dX5_digest_22 : decode cX5_digest 22 = .ok (.i2l, 1) := by decide +kernel
theorem dX5_digest_23 : decode cX5_digest 23 = .ok (.ladd, 1) := by decide +kernel
theorem dX5_digest_24 : decode cX5_digest 24 = .ok (.lstore_n 1, 1) := by decide +kernel
theorem dX5_digest_25 : decode cX5_digest 25 = .ok (.iinc 3 1, 3) := by decide +kernel
theorem dX5_digest_28 : decode cX5_digest 28 = .ok (.goto (-22), 3) := by decide +kernel
theorem dX5_digest_31 : decode cX5_digest 31 = .ok (.aload_n 0, 1) := by decide +kernel
theorem dX5_digest_32 : decode cX5_digest 32 = .ok (.lload_n 1, 1) := by decide +kernel
theorem dX5_digest_33 : decode cX5_digest 33 = .ok (.invokevirtual 350, 3) := by decide +kernel
theorem dX5_digest_36 : decode cX5_digest 36 = .ok (.lstore_n 1, 1) := by decide +kernel
theorem dX5_digest_37 : decode cX5_digest 37 = .ok (.aload_n 0, 1) := by decide +kernel
theorem dX5_digest_38 : decode cX5_digest 38 = .ok (.lload_n 1, 1) := by decide +kernel
theorem dX5_digest_39 : decode cX5_digest 39 = .ok (.invokevirtual 354, 3) := by decide +kernel
theorem dX5_digest_42 : decode cX5_digest 42 = .ok (.lstore_n 1, 1) := by decide +kernel
theorem dX5_digest_43 : decode cX5_digest 43 = .ok (.aload_n 0, 1) := by decide +kernel
theorem dX5_digest_44 : decode cX5_digest 44 = .ok (.lload_n 1, 1) := by decide +kernel
theorem dX5_digest_45 : decode cX5_digest 45 = .ok (.invokevirtual 357, 3) := by decide +kernel
theorem dX5_digest_48 : decode cX5_digest 48 = .ok (.lstore_n 1, 1) := by decide +kernel
theorem dX5_digest_49 : decode cX5_digest 49 = .ok (.aload_n 0, 1) := by decide +kernel
theorem dX5_digest_50 : decode cX5_digest 50 = .ok (.lload_n 1, 1) := by decide +kernel
theorem dX5_digest_51 : decode cX5_digest 51 = .ok (.invokevirtual 360, 3) := by decide +kernel
theorem dX5_digest_54 : decode cX5_digest 54 = .ok (.lreturn, 1) := by decide +kernel
theorem dX5_digestStories_0 : decode cX5_digestStories 0 = .ok (.lload_n 1, 1) := by decide +kernel
theorem dX5_digestStories_1 : decode cX5_digestStories 1 = .ok (.lstore_n 3, 1) := by decide +kernel
theorem dX5_digestStories_2 : decode cX5_digestStories 2 = .ok (.iconst 0, 1) := by decide +kernel
theorem dX5_digestStories_3 : decode cX5_digestStories 3 = .ok (.istore 5, 2) := by decide +kernel
theorem dX5_digestStories_5 : decode cX5_digestStories 5 = .ok (.iload 5, 2) := by decide +kernel
theorem dX5_digestStories_7 : decode cX5_digestStories 7 = .ok (.aload_n 0, 1) := by decide +kernel
theorem dX5_digestStories_8 : decode cX5_digestStories 8 = .ok (.getfield 70, 3) := by decide +kernel
theorem dX5_digestStories_11 : decode cX5_digestStories 11 = .ok (.if_icmp .ge 77, 3) := by decide +kernel
theorem dX5_digestStories_14 : decode cX5_digestStories 14 = .ok (.iconst 0, 1) := by decide +kernel
theorem dX5_digestStories_15 : decode cX5_digestStories 15 = .ok (.istore 6, 2) := by decide +kernel
theorem dX5_digestStories_17 : decode cX5_digestStories 17 = .ok (.iload 6, 2) := by decide +kernel
theorem dX5_digestStories_19 : decode cX5_digestStories 19 = .ok (.iconst 4, 1) := by decide +kernel
theorem dX5_digestStories_20 : decode cX5_digestStories 20 = .ok (.if_icmp .ge 62, 3) := by decide +kernel
theorem dX5_digestStories_23 : decode cX5_digestStories 23 = .ok (.iconst 0, 1) := by decide +kernel
theorem dX5_digestStories_24 : decode cX5_digestStories 24 = .ok (.istore 7, 2) := by decide +kernel
theorem dX5_digestStories_26 : decode cX5_digestStories 26 = .ok (.iload 7, 2) := by decide +kernel
theorem dX5_digestStories_28 : decode cX5_digestStories 28 = .ok (.bipush 6, 2) := by decide +kernel
theorem dX5_digestStories_30 : decode cX5_digestStories 30 = .ok (.if_icmp .gt 27, 3) := by decide +kernel
theorem dX5_digestStories_33 : decode cX5_digestStories 33 = .ok (.lload_n 3, 1) := by decide +kernel
theorem dX5_digestStories_34 : decode cX5_digestStories 34 = .ok (.ldc2_w 345, 3) := by decide +kernel
theorem dX5_digestStories_37 : decode cX5_digestStories 37 = .ok (.lmul, 1) := by decide +kernel
theorem dX5_digestStories_38 : decode cX5_digestStories 38 = .ok (.aload_n 0, 1) := by decide +kernel
theorem dX5_digestStories_39 : decode cX5_digestStories 39 = .ok (.iload 5, 2) := by decide +kernel
theorem dX5_digestStories_41 : decode cX5_digestStories 41 = .ok (.iload 6, 2) := by decide +kernel
theorem dX5_digestStories_43 : decode cX5_digestStories 43 = .ok (.iload 7, 2) := by decide +kernel
theorem dX5_digestStories_45 : decode cX5_digestStories 45 = .ok (.invokevirtual 363, 3) := by decide +kernel
theorem dX5_digestStories_48 : decode cX5_digestStories 48 = .ok (.i2l, 1) := by decide +kernel
theorem dX5_digestStories_49 : decode cX5_digestStories 49 = .ok (.ladd, 1) := by decide +kernel
theorem dX5_digestStories_50 : decode cX5_digestStories 50 = .ok (.lstore_n 3, 1) := by decide +kernel
theorem dX5_digestStories_51 : decode cX5_digestStories 51 = .ok (.iinc 7 1, 3) := by decide +kernel
theorem dX5_digestStories_54 : decode cX5_digestStories 54 = .ok (.goto (-28), 3) := by decide +kernel
theorem dX5_digestStories_57 : decode cX5_digestStories 57 = .ok (.lload_n 3, 1) := by decide +kernel
theorem dX5_digestStories_58 : decode cX5_digestStories 58 = .ok (.ldc2_w 345, 3) := by decide +kernel
theorem dX5_digestStories_61 : decode cX5_digestStories 61 = .ok (.lmul, 1) := by decide +kernel
theorem dX5_digestStories_62 : decode cX5_digestStories 62 = .ok (.aload_n 0, 1) := by decide +kernel
theorem dX5_digestStories_63 : decode cX5_digestStories 63 = .ok (.iload 5, 2) := by decide +kernel
theorem dX5_digestStories_65 : decode cX5_digestStories 65 = .ok (.iload 6, 2) := by decide +kernel
theorem dX5_digestStories_67 : decode cX5_digestStories 67 = .ok (.bipush 50, 2) := by decide +kernel
theorem dX5_digestStories_69 : decode cX5_digestStories 69 = .ok (.iconst 2, 1) := by decide +kernel
theorem dX5_digestStories_70 : decode cX5_digestStories 70 = .ok (.invokevirtual 366, 3) := by decide +kernel
theorem dX5_digestStories_73 : decode cX5_digestStories 73 = .ok (.i2l, 1) := by decide +kernel
theorem dX5_digestStories_74 : decode cX5_digestStories 74 = .ok (.ladd, 1) := by decide +kernel
theorem dX5_digestStories_75 : decode cX5_digestStories 75 = .ok (.lstore_n 3, 1) := by decide +kernel
theorem dX5_digestStories_76 : decode cX5_digestStories 76 = .ok (.iinc 6 1, 3) := by decide +kernel
theorem dX5_digestStories_79 : decode cX5_digestStories 79 = .ok (.goto (-62), 3) := by decide +kernel
theorem dX5_digestStories_82 : decode cX5_digestStories 82 = .ok (.iinc 5 1, 3) := by decide +kernel
theorem dX5_digestStories_85 : decode cX5_digestStories 85 = .ok (.goto (-80), 3) := by decide +kernel
theorem dX5_digestStories_88 : decode cX5_digestStories 88 = .ok (.iconst 0, 1) := by decide +kernel
theorem dX5_digestStories_89 : decode cX5_digestStories 89 = .ok (.istore 5, 2) := by decide +kernel
theorem dX5_digestStories_91 : decode cX5_digestStories 91 = .ok (.iload 5, 2) := by decide +kernel
theorem dX5_digestStories_93 : decode cX5_digestStories 93 = .ok (.aload_n 0, 1) := by decide +kernel
theorem dX5_digestStories_94 : decode cX5_digestStories 94 = .ok (.getfield 70, 3) := by decide +kernel
theorem dX5_digestStories_97 : decode cX5_digestStories 97 = .ok (.if_icmp .ge 25, 3) := by decide +kernel
theorem dX5_digestStories_100 : decode cX5_digestStories 100 = .ok (.lload_n 3, 1) := by decide +kernel
theorem dX5_digestStories_101 : decode cX5_digestStories 101 = .ok (.ldc2_w 345, 3) := by decide +kernel
theorem dX5_digestStories_104 : decode cX5_digestStories 104 = .ok (.lmul, 1) := by decide +kernel
theorem dX5_digestStories_105 : decode cX5_digestStories 105 = .ok (.aload_n 0, 1) := by decide +kernel
theorem dX5_digestStories_106 : decode cX5_digestStories 106 = .ok (.iload 5, 2) := by decide +kernel
theorem dX5_digestStories_108 : decode cX5_digestStories 108 = .ok (.bipush 55, 2) := by decide +kernel
theorem dX5_digestStories_110 : decode cX5_digestStories 110 = .ok (.invokevirtual 370, 3) := by decide +kernel
theorem dX5_digestStories_113 : decode cX5_digestStories 113 = .ok (.i2l, 1) := by decide +kernel
theorem dX5_digestStories_114 : decode cX5_digestStories 114 = .ok (.ladd, 1) := by decide +kernel
theorem dX5_digestStories_115 : decode cX5_digestStories 115 = .ok (.lstore_n 3, 1) := by decide +kernel
theorem dX5_digestStories_116 : decode cX5_digestStories 116 = .ok (.iinc 5 1, 3) := by decide +kernel
theorem dX5_digestStories_119 : decode cX5_digestStories 119 = .ok (.goto (-28), 3) := by decide +kernel
theorem dX5_digestStories_122 : decode cX5_digestStories 122 = .ok (.lload_n 3, 1) := by decide +kernel
theorem dX5_digestStories_123 : decode cX5_digestStories 123 = .ok (.lreturn, 1) := by decide +kernel
theorem dX5_digestTakes_0 : decode cX5_digestTakes 0 = .ok (.lload_n 1, 1) := by decide +kernel
theorem dX5_digestTakes_1 : decode cX5_digestTakes 1 = .ok (.lstore_n 3, 1) := by decide +kernel
theorem dX5_digestTakes_2 : decode cX5_digestTakes 2 = .ok (.iconst 0, 1) := by decide +kernel
theorem dX5_digestTakes_3 : decode cX5_digestTakes 3 = .ok (.istore 5, 2) := by decide +kernel
theorem dX5_digestTakes_5 : decode cX5_digestTakes 5 = .ok (.iload 5, 2) := by decide +kernel
theorem dX5_digestTakes_7 : decode cX5_digestTakes 7 = .ok (.aload_n 0, 1) := by decide +kernel
theorem dX5_digestTakes_8 : decode cX5_digestTakes 8 = .ok (.getfield 284, 3) := by decide +kernel
theorem dX5_digestTakes_11 : decode cX5_digestTakes 11 = .ok (.if_icmp .ge 72, 3) := by decide +kernel
theorem dX5_digestTakes_14 : decode cX5_digestTakes 14 = .ok (.iconst 0, 1) := by decide +kernel
theorem dX5_digestTakes_15 : decode cX5_digestTakes 15 = .ok (.istore 6, 2) := by decide +kernel
theorem dX5_digestTakes_17 : decode cX5_digestTakes 17 = .ok (.iload 6, 2) := by decide +kernel
theorem dX5_digestTakes_19 : decode cX5_digestTakes 19 = .ok (.bipush 8, 2) := by decide +kernel
theorem dX5_digestTakes_21 : decode cX5_digestTakes 21 = .ok (.if_icmp .gt 25, 3) := by decide +kernel
theorem dX5_digestTakes_24 : decode cX5_digestTakes 24 = .ok (.lload_n 3, 1) := by decide +kernel
theorem dX5_digestTakes_25 : decode cX5_digestTakes 25 = .ok (.ldc2_w 345, 3) := by decide +kernel
theorem dX5_digestTakes_28 : decode cX5_digestTakes 28 = .ok (.lmul, 1) := by decide +kernel
theorem dX5_digestTakes_29 : decode cX5_digestTakes 29 = .ok (.aload_n 0, 1) := by decide +kernel
theorem dX5_digestTakes_30 : decode cX5_digestTakes 30 = .ok (.iload 5, 2) := by decide +kernel
theorem dX5_digestTakes_32 : decode cX5_digestTakes 32 = .ok (.iload 6, 2) := by decide +kernel
theorem dX5_digestTakes_34 : decode cX5_digestTakes 34 = .ok (.invokevirtual 373, 3) := by decide +kernel
theorem dX5_digestTakes_37 : decode cX5_digestTakes 37 = .ok (.i2l, 1) := by decide +kernel
theorem dX5_digestTakes_38 : decode cX5_digestTakes 38 = .ok (.ladd, 1) := by decide +kernel
theorem dX5_digestTakes_39 : decode cX5_digestTakes 39 = .ok (.lstore_n 3, 1) := by decide +kernel
theorem dX5_digestTakes_40 : decode cX5_digestTakes 40 = .ok (.iinc 6 1, 3) := by decide +kernel
theorem dX5_digestTakes_43 : decode cX5_digestTakes 43 = .ok (.goto (-26), 3) := by decide +kernel
theorem dX5_digestTakes_46 : decode cX5_digestTakes 46 = .ok (.iconst 0, 1) := by decide +kernel
theorem dX5_digestTakes_47 : decode cX5_digestTakes 47 = .ok (.istore 6, 2) := by decide +kernel
theorem dX5_digestTakes_49 : decode cX5_digestTakes 49 = .ok (.iload 6, 2) := by decide +kernel
theorem dX5_digestTakes_51 : decode cX5_digestTakes 51 = .ok (.iconst 4, 1) := by decide +kernel
theorem dX5_digestTakes_52 : decode cX5_digestTakes 52 = .ok (.if_icmp .ge 25, 3) := by decide +kernel
theorem dX5_digestTakes_55 : decode cX5_digestTakes 55 = .ok (.lload_n 3, 1) := by decide +kernel
theorem dX5_digestTakes_56 : decode cX5_digestTakes 56 = .ok (.ldc2_w 345, 3) := by decide +kernel
theorem dX5_digestTakes_59 : decode cX5_digestTakes 59 = .ok (.lmul, 1) := by decide +kernel
theorem dX5_digestTakes_60 : decode cX5_digestTakes 60 = .ok (.aload_n 0, 1) := by decide +kernel
theorem dX5_digestTakes_61 : decode cX5_digestTakes 61 = .ok (.iload 5, 2) := by decide +kernel
theorem dX5_digestTakes_63 : decode cX5_digestTakes 63 = .ok (.iload 6, 2) := by decide +kernel
theorem dX5_digestTakes_65 : decode cX5_digestTakes 65 = .ok (.invokevirtual 376, 3) := by decide +kernel
theorem dX5_digestTakes_68 : decode cX5_digestTakes 68 = .ok (.i2l, 1) := by decide +kernel
theorem dX5_digestTakes_69 : decode cX5_digestTakes 69 = .ok (.ladd, 1) := by decide +kernel
theorem dX5_digestTakes_70 : decode cX5_digestTakes 70 = .ok (.lstore_n 3, 1) := by decide +kernel
theorem dX5_digestTakes_71 : decode cX5_digestTakes 71 = .ok (.iinc 6 1, 3) := by decide +kernel
theorem dX5_digestTakes_74 : decode cX5_digestTakes 74 = .ok (.goto (-25), 3) := by decide +kernel
theorem dX5_digestTakes_77 : decode cX5_digestTakes 77 = .ok (.iinc 5 1, 3) := by decide +kernel
theorem dX5_digestTakes_80 : decode cX5_digestTakes 80 = .ok (.goto (-75), 3) := by decide +kernel
theorem dX5_digestTakes_83 : decode cX5_digestTakes 83 = .ok (.lload_n 3, 1) := by decide +kernel
theorem dX5_digestTakes_84 : decode cX5_digestTakes 84 = .ok (.lreturn, 1) := by decide +kernel
theorem dX5_digestLines_0 : decode cX5_digestLines 0 = .ok (.lload_n 1, 1) := by decide +kernel
theorem dX5_digestLines_1 : decode cX5_digestLines 1 = .ok (.lstore_n 3, 1) := by decide +kernel
theorem dX5_digestLines_2 : decode cX5_digestLines 2 = .ok (.iconst 0, 1) := by decide +kernel
theorem dX5_digestLines_3 : decode cX5_digestLines 3 = .ok (.istore 5, 2) := by decide +kernel
theorem dX5_digestLines_5 : decode cX5_digestLines 5 = .ok (.iload 5, 2) := by decide +kernel
theorem dX5_digestLines_7 : decode cX5_digestLines 7 = .ok (.aload_n 0, 1) := by decide +kernel
theorem dX5_digestLines_8 : decode cX5_digestLines 8 = .ok (.getfield 80, 3) := by decide +kernel
theorem dX5_digestLines_11 : decode cX5_digestLines 11 = .ok (.if_icmp .ge 92, 3) := by decide +kernel
theorem dX5_digestLines_14 : decode cX5_digestLines 14 = .ok (.iconst 0, 1) := by decide +kernel
theorem dX5_digestLines_15 : decode cX5_digestLines 15 = .ok (.istore 6, 2) := by decide +kernel
theorem dX5_digestLines_17 : decode cX5_digestLines 17 = .ok (.iload 6, 2) := by decide +kernel
theorem dX5_digestLines_19 : decode cX5_digestLines 19 = .ok (.bipush 7, 2) := by decide +kernel
theorem dX5_digestLines_21 : decode cX5_digestLines 21 = .ok (.if_icmp .gt 25, 3) := by decide +kernel
theorem dX5_digestLines_24 : decode cX5_digestLines 24 = .ok (.lload_n 3, 1) := by decide +kernel
theorem dX5_digestLines_25 : decode cX5_digestLines 25 = .ok (.ldc2_w 345, 3) := by decide +kernel
theorem dX5_digestLines_28 : decode cX5_digestLines 28 = .ok (.lmul, 1) := by decide +kernel
theorem dX5_digestLines_29 : decode cX5_digestLines 29 = .ok (.aload_n 0, 1) := by decide +kernel
theorem dX5_digestLines_30 : decode cX5_digestLines 30 = .ok (.iload 5, 2) := by decide +kernel
theorem dX5_digestLines_32 : decode cX5_digestLines 32 = .ok (.iload 6, 2) := by decide +kernel
theorem dX5_digestLines_34 : decode cX5_digestLines 34 = .ok (.invokevirtual 379, 3) := by decide +kernel
theorem dX5_digestLines_37 : decode cX5_digestLines 37 = .ok (.i2l, 1) := by decide +kernel
theorem dX5_digestLines_38 : decode cX5_digestLines 38 = .ok (.ladd, 1) := by decide +kernel
theorem dX5_digestLines_39 : decode cX5_digestLines 39 = .ok (.lstore_n 3, 1) := by decide +kernel
theorem dX5_digestLines_40 : decode cX5_digestLines 40 = .ok (.iinc 6 1, 3) := by decide +kernel
theorem dX5_digestLines_43 : decode cX5_digestLines 43 = .ok (.goto (-26), 3) := by decide +kernel
theorem dX5_digestLines_46 : decode cX5_digestLines 46 = .ok (.lload_n 3, 1) := by decide +kernel
theorem dX5_digestLines_47 : decode cX5_digestLines 47 = .ok (.ldc2_w 345, 3) := by decide +kernel
theorem dX5_digestLines_50 : decode cX5_digestLines 50 = .ok (.lmul, 1) := by decide +kernel
theorem dX5_digestLines_51 : decode cX5_digestLines 51 = .ok (.aload_n 0, 1) := by decide +kernel
theorem dX5_digestLines_52 : decode cX5_digestLines 52 = .ok (.iload 5, 2) := by decide +kernel
theorem dX5_digestLines_54 : decode cX5_digestLines 54 = .ok (.iconst 3, 1) := by decide +kernel
theorem dX5_digestLines_55 : decode cX5_digestLines 55 = .ok (.bipush 50, 2) := by decide +kernel
theorem dX5_digestLines_57 : decode cX5_digestLines 57 = .ok (.invokevirtual 382, 3) := by decide +kernel
theorem dX5_digestLines_60 : decode cX5_digestLines 60 = .ok (.i2l, 1) := by decide +kernel
theorem dX5_digestLines_61 : decode cX5_digestLines 61 = .ok (.ladd, 1) := by decide +kernel
theorem dX5_digestLines_62 : decode cX5_digestLines 62 = .ok (.lstore_n 3, 1) := by decide +kernel
theorem dX5_digestLines_63 : decode cX5_digestLines 63 = .ok (.iconst 0, 1) := by decide +kernel
theorem dX5_digestLines_64 : decode cX5_digestLines 64 = .ok (.istore 6, 2) := by decide +kernel
theorem dX5_digestLines_66 : decode cX5_digestLines 66 = .ok (.iload 6, 2) := by decide +kernel
theorem dX5_digestLines_68 : decode cX5_digestLines 68 = .ok (.aload_n 0, 1) := by decide +kernel
theorem dX5_digestLines_69 : decode cX5_digestLines 69 = .ok (.getfield 284, 3) := by decide +kernel
theorem dX5_digestLines_72 : decode cX5_digestLines 72 = .ok (.if_icmp .ge 25, 3) := by decide +kernel
theorem dX5_digestLines_75 : decode cX5_digestLines 75 = .ok (.lload_n 3, 1) := by decide +kernel
theorem dX5_digestLines_76 : decode cX5_digestLines 76 = .ok (.ldc2_w 345, 3) := by decide +kernel
theorem dX5_digestLines_79 : decode cX5_digestLines 79 = .ok (.lmul, 1) := by decide +kernel
theorem dX5_digestLines_80 : decode cX5_digestLines 80 = .ok (.aload_n 0, 1) := by decide +kernel
theorem dX5_digestLines_81 : decode cX5_digestLines 81 = .ok (.iload 5, 2) := by decide +kernel
theorem dX5_digestLines_83 : decode cX5_digestLines 83 = .ok (.iload 6, 2) := by decide +kernel
theorem dX5_digestLines_85 : decode cX5_digestLines 85 = .ok (.invokevirtual 385, 3) := by decide +kernel
theorem dX5_digestLines_88 : decode cX5_digestLines 88 = .ok (.i2l, 1) := by decide +kernel
theorem dX5_digestLines_89 : decode cX5_digestLines 89 = .ok (.ladd, 1) := by decide +kernel
theorem dX5_digestLines_90 : decode cX5_digestLines 90 = .ok (.lstore_n 3, 1) := by decide +kernel
theorem dX5_digestLines_91 : decode cX5_digestLines 91 = .ok (.iinc 6 1, 3) := by decide +kernel
theorem dX5_digestLines_94 : decode cX5_digestLines 94 = .ok (.goto (-28), 3) := by decide +kernel
theorem dX5_digestLines_97 : decode cX5_digestLines 97 = .ok (.iinc 5 1, 3) := by decide +kernel
theorem dX5_digestLines_100 : decode cX5_digestLines 100 = .ok (.goto (-95), 3) := by decide +kernel
theorem dX5_digestLines_103 : decode cX5_digestLines 103 = .ok (.lload_n 3, 1) := by decide +kernel
theorem dX5_digestLines_104 : decode cX5_digestLines 104 = .ok (.lreturn, 1) := by decide +kernel
theorem dX5_digestDesks_0 : decode cX5_digestDesks 0 = .ok (.lload_n 1, 1) := by decide +kernel
theorem dX5_digestDesks_1 : decode cX5_digestDesks 1 = .ok (.lstore_n 3, 1) := by decide +kernel
theorem dX5_digestDesks_2 : decode cX5_digestDesks 2 = .ok (.iconst 0, 1) := by decide +kernel
theorem dX5_digestDesks_3 : decode cX5_digestDesks 3 = .ok (.istore 5, 2) := by decide +kernel
theorem dX5_digestDesks_5 : decode cX5_digestDesks 5 = .ok (.iload 5, 2) := by decide +kernel
theorem dX5_digestDesks_7 : decode cX5_digestDesks 7 = .ok (.aload_n 0, 1) := by decide +kernel
theorem dX5_digestDesks_8 : decode cX5_digestDesks 8 = .ok (.getfield 80, 3) := by decide +kernel
theorem dX5_digestDesks_11 : decode cX5_digestDesks 11 = .ok (.if_icmp .ge 60, 3) := by decide +kernel
theorem dX5_digestDesks_14 : decode cX5_digestDesks 14 = .ok (.iconst 0, 1) := by decide +kernel
theorem dX5_digestDesks_15 : decode cX5_digestDesks 15 = .ok (.istore 6, 2) := by decide +kernel
theorem dX5_digestDesks_17 : decode cX5_digestDesks 17 = .ok (.iload 6, 2) := by decide +kernel
theorem dX5_digestDesks_19 : decode cX5_digestDesks 19 = .ok (.aload_n 0, 1) := by decide +kernel
theorem dX5_digestDesks_20 : decode cX5_digestDesks 20 = .ok (.getfield 70, 3) := by decide +kernel
theorem dX5_digestDesks_23 : decode cX5_digestDesks 23 = .ok (.if_icmp .ge 42, 3) := by decide +kernel
theorem dX5_digestDesks_26 : decode cX5_digestDesks 26 = .ok (.iconst 0, 1) := by decide +kernel
theorem dX5_digestDesks_27 : decode cX5_digestDesks 27 = .ok (.istore 7, 2) := by decide +kernel
theorem dX5_digestDesks_29 : decode cX5_digestDesks 29 = .ok (.iload 7, 2) := by decide +kernel
theorem dX5_digestDesks_31 : decode cX5_digestDesks 31 = .ok (.iconst 4, 1) := by decide +kernel
theorem dX5_digestDesks_32 : decode cX5_digestDesks 32 = .ok (.if_icmp .ge 27, 3) := by decide +kernel
theorem dX5_digestDesks_35 : decode cX5_digestDesks 35 = .ok (.lload_n 3, 1) := by decide +kernel
theorem dX5_digestDesks_36 : decode cX5_digestDesks 36 = .ok (.ldc2_w 345, 3) := by decide +kernel
theorem dX5_digestDesks_39 : decode cX5_digestDesks 39 = .ok (.lmul, 1) := by decide +kernel
theorem dX5_digestDesks_40 : decode cX5_digestDesks 40 = .ok (.aload_n 0, 1) := by decide +kernel
theorem dX5_digestDesks_41 : decode cX5_digestDesks 41 = .ok (.iload 5, 2) := by decide +kernel
theorem dX5_digestDesks_43 : decode cX5_digestDesks 43 = .ok (.iload 6, 2) := by decide +kernel
theorem dX5_digestDesks_45 : decode cX5_digestDesks 45 = .ok (.iload 7, 2) := by decide +kernel
theorem dX5_digestDesks_47 : decode cX5_digestDesks 47 = .ok (.invokevirtual 388, 3) := by decide +kernel
theorem dX5_digestDesks_50 : decode cX5_digestDesks 50 = .ok (.i2l, 1) := by decide +kernel
theorem dX5_digestDesks_51 : decode cX5_digestDesks 51 = .ok (.ladd, 1) := by decide +kernel
theorem dX5_digestDesks_52 : decode cX5_digestDesks 52 = .ok (.lstore_n 3, 1) := by decide +kernel
theorem dX5_digestDesks_53 : decode cX5_digestDesks 53 = .ok (.iinc 7 1, 3) := by decide +kernel
theorem dX5_digestDesks_56 : decode cX5_digestDesks 56 = .ok (.goto (-27), 3) := by decide +kernel
theorem dX5_digestDesks_59 : decode cX5_digestDesks 59 = .ok (.iinc 6 1, 3) := by decide +kernel
theorem dX5_digestDesks_62 : decode cX5_digestDesks 62 = .ok (.goto (-45), 3) := by decide +kernel
theorem dX5_digestDesks_65 : decode cX5_digestDesks 65 = .ok (.iinc 5 1, 3) := by decide +kernel
theorem dX5_digestDesks_68 : decode cX5_digestDesks 68 = .ok (.goto (-63), 3) := by decide +kernel
theorem dX5_digestDesks_71 : decode cX5_digestDesks 71 = .ok (.lload_n 3, 1) := by decide +kernel
theorem dX5_digestDesks_72 : decode cX5_digestDesks 72 = .ok (.lreturn, 1) := by decide +kernel
theorem dX5_checkSource_0 : decode cX5_checkSource 0 = .ok (.iload_n 1, 1) := by decide +kernel
theorem dX5_checkSource_1 : decode cX5_checkSource 1 = .ok (.ifCond .lt 14, 3) := by decide +kernel
theorem dX5_checkSource_4 : decode cX5_checkSource 4 = .ok (.iload_n 1, 1) := by decide +kernel
theorem dX5_checkSource_5 : decode cX5_checkSource 5 = .ok (.aload_n 0, 1) := by decide +kernel
theorem dX5_checkSource_6 : decode cX5_checkSource 6 = .ok (.getfield 10, 3) := by decide +kernel
theorem dX5_checkSource_9 : decode cX5_checkSource 9 = .ok (.getfield 55, 3) := by decide +kernel
theorem dX5_checkSource_12 : decode cX5_checkSource 12 = .ok (.if_icmp .lt 14, 3) := by decide +kernel
theorem dX5_checkSource_15 : decode cX5_checkSource 15 = .ok (.new 246, 3) := by decide +kernel
theorem dX5_checkSource_18 : decode cX5_checkSource 18 = .ok (.dup, 1) := by decide +kernel
theorem dX5_checkSource_19 : decode cX5_checkSource 19 = .ok (.ldc_w 391, 3) := by decide +kernel
theorem dX5_checkSource_22 : decode cX5_checkSource 22 = .ok (.invokespecial 250, 3) := by decide +kernel
theorem dX5_checkSource_25 : decode cX5_checkSource 25 = .ok (.athrow, 1) := by decide +kernel
theorem dX5_checkSource_26 : decode cX5_checkSource 26 = .ok (.return_, 1) := by decide +kernel
theorem dX5_checkStory_0 : decode cX5_checkStory 0 = .ok (.iload_n 1, 1) := by decide +kernel
theorem dX5_checkStory_1 : decode cX5_checkStory 1 = .ok (.ifCond .lt 11, 3) := by decide +kernel
theorem dX5_checkStory_4 : decode cX5_checkStory 4 = .ok (.iload_n 1, 1) := by decide +kernel
theorem dX5_checkStory_5 : decode cX5_checkStory 5 = .ok (.aload_n 0, 1) := by decide +kernel
theorem dX5_checkStory_6 : decode cX5_checkStory 6 = .ok (.getfield 70, 3) := by decide +kernel
theorem dX5_checkStory_9 : decode cX5_checkStory 9 = .ok (.if_icmp .lt 14, 3) := by decide +kernel
theorem dX5_checkStory_12 : decode cX5_checkStory 12 = .ok (.new 246, 3) := by decide +kernel
theorem dX5_checkStory_15 : decode cX5_checkStory 15 = .ok (.dup, 1) := by decide +kernel
theorem dX5_checkStory_16 : decode cX5_checkStory 16 = .ok (.ldc_w 393, 3) := by decide +kernel
theorem dX5_checkStory_19 : decode cX5_checkStory 19 = .ok (.invokespecial 250, 3) := by decide +kernel
theorem dX5_checkStory_22 : decode cX5_checkStory 22 = .ok (.athrow, 1) := by decide +kernel
theorem dX5_checkStory_23 : decode cX5_checkStory 23 = .ok (.return_, 1) := by decide +kernel
theorem dX5_checkFact_0 : decode cX5_checkFact 0 = .ok (.aload_n 0, 1) := by decide +kernel
theorem dX5_checkFact_1 : decode cX5_checkFact 1 = .ok (.iload_n 1, 1) := by decide +kernel
theorem dX5_checkFact_2 : decode cX5_checkFact 2 = .ok (.invokevirtual 134, 3) := by decide +kernel
theorem dX5_checkFact_5 : decode cX5_checkFact 5 = .ok (.iload_n 2, 1) := by decide +kernel
theorem dX5_checkFact_6 : decode cX5_checkFact 6 = .ok (.ifCond .lt 8, 3) := by decide +kernel
theorem dX5_checkFact_9 : decode cX5_checkFact 9 = .ok (.iload_n 2, 1) := by decide +kernel
theorem dX5_checkFact_10 : decode cX5_checkFact 10 = .ok (.iconst 4, 1) := by decide +kernel
theorem dX5_checkFact_11 : decode cX5_checkFact 11 = .ok (.if_icmp .lt 13, 3) := by decide +kernel
theorem dX5_checkFact_14 : decode cX5_checkFact 14 = .ok (.new 246, 3) := by decide +kernel
theorem dX5_checkFact_17 : decode cX5_checkFact 17 = .ok (.dup, 1) := by decide +kernel
theorem dX5_checkFact_18 : decode cX5_checkFact 18 = .ok (.ldc 248, 2) := by decide +kernel
theorem dX5_checkFact_20 : decode cX5_checkFact 20 = .ok (.invokespecial 250, 3) := by decide +kernel
theorem dX5_checkFact_23 : decode cX5_checkFact 23 = .ok (.athrow, 1) := by decide +kernel
theorem dX5_checkFact_24 : decode cX5_checkFact 24 = .ok (.return_, 1) := by decide +kernel
theorem dX5_checkTake_0 : decode cX5_checkTake 0 = .ok (.iload_n 1, 1) := by decide +kernel
theorem dX5_checkTake_1 : decode cX5_checkTake 1 = .ok (.ifCond .lt 11, 3) := by decide +kernel
theorem dX5_checkTake_4 : decode cX5_checkTake 4 = .ok (.iload_n 1, 1) := by decide +kernel
theorem dX5_checkTake_5 : decode cX5_checkTake 5 = .ok (.aload_n 0, 1) := by decide +kernel
theorem dX5_checkTake_6 : decode cX5_checkTake 6 = .ok (.getfield 284, 3) := by decide +kernel
theorem dX5_checkTake_9 : decode cX5_checkTake 9 = .ok (.if_icmp .lt 14, 3) := by decide +kernel
theorem dX5_checkTake_12 : decode cX5_checkTake 12 = .ok (.new 246, 3) := by decide +kernel
theorem dX5_checkTake_15 : decode cX5_checkTake 15 = .ok (.dup, 1) := by decide +kernel
theorem dX5_checkTake_16 : decode cX5_checkTake 16 = .ok (.ldc_w 395, 3) := by decide +kernel
theorem dX5_checkTake_19 : decode cX5_checkTake 19 = .ok (.invokespecial 250, 3) := by decide +kernel
theorem dX5_checkTake_22 : decode cX5_checkTake 22 = .ok (.athrow, 1) := by decide +kernel
theorem dX5_checkTake_23 : decode cX5_checkTake 23 = .ok (.return_, 1) := by decide +kernel
theorem dX5_checkLine_0 : decode cX5_checkLine 0 = .ok (.iload_n 1, 1) := by decide +kernel
theorem dX5_checkLine_1 : decode cX5_checkLine 1 = .ok (.ifCond .lt 11, 3) := by decide +kernel
theorem dX5_checkLine_4 : decode cX5_checkLine 4 = .ok (.iload_n 1, 1) := by decide +kernel
theorem dX5_checkLine_5 : decode cX5_checkLine 5 = .ok (.aload_n 0, 1) := by decide +kernel
theorem dX5_checkLine_6 : decode cX5_checkLine 6 = .ok (.getfield 80, 3) := by decide +kernel
theorem dX5_checkLine_9 : decode cX5_checkLine 9 = .ok (.if_icmp .lt 14, 3) := by decide +kernel
theorem dX5_checkLine_12 : decode cX5_checkLine 12 = .ok (.new 246, 3) := by decide +kernel
theorem dX5_checkLine_15 : decode cX5_checkLine 15 = .ok (.dup, 1) := by decide +kernel
theorem dX5_checkLine_16 : decode cX5_checkLine 16 = .ok (.ldc_w 397, 3) := by decide +kernel
theorem dX5_checkLine_19 : decode cX5_checkLine 19 = .ok (.invokespecial 250, 3) := by decide +kernel
theorem dX5_checkLine_22 : decode cX5_checkLine 22 = .ok (.athrow, 1) := by decide +kernel
theorem dX5_checkLine_23 : decode cX5_checkLine 23 = .ok (.return_, 1) := by decide +kernel
theorem dX5_checkValue_0 : decode cX5_checkValue 0 = .ok (.iload_n 0, 1) := by decide +kernel
theorem dX5_checkValue_1 : decode cX5_checkValue 1 = .ok (.ifCond .lt 9, 3) := by decide +kernel
theorem dX5_checkValue_4 : decode cX5_checkValue 4 = .ok (.iload_n 0, 1) := by decide +kernel
theorem dX5_checkValue_5 : decode cX5_checkValue 5 = .ok (.bipush 99, 2) := by decide +kernel
theorem dX5_checkValue_7 : decode cX5_checkValue 7 = .ok (.if_icmp .le 14, 3) := by decide +kernel
theorem dX5_checkValue_10 : decode cX5_checkValue 10 = .ok (.new 75, 3) := by decide +kernel
theorem dX5_checkValue_13 : decode cX5_checkValue 13 = .ok (.dup, 1) := by decide +kernel
theorem dX5_checkValue_14 : decode cX5_checkValue 14 = .ok (.ldc_w 399, 3) := by decide +kernel
theorem dX5_checkValue_17 : decode cX5_checkValue 17 = .ok (.invokespecial 79, 3) := by decide +kernel
theorem dX5_checkValue_20 : decode cX5_checkValue 20 = .ok (.athrow, 1) := by decide +kernel
theorem dX5_checkValue_21 : decode cX5_checkValue 21 = .ok (.return_, 1) := by decide +kernel
theorem dX5_checkWeight_0 : decode cX5_checkWeight 0 = .ok (.iload_n 0, 1) := by decide +kernel
theorem dX5_checkWeight_1 : decode cX5_checkWeight 1 = .ok (.iconst 1, 1) := by decide +kernel
theorem dX5_checkWeight_2 : decode cX5_checkWeight 2 = .ok (.if_icmp .lt 8, 3) := by decide +kernel
theorem dX5_checkWeight_5 : decode cX5_checkWeight 5 = .ok (.iload_n 0, 1) := by decide +kernel
theorem dX5_checkWeight_6 : decode cX5_checkWeight 6 = .ok (.iconst 3, 1) := by decide +kernel
theorem dX5_checkWeight_7 : decode cX5_checkWeight 7 = .ok (.if_icmp .le 14, 3) := by decide +kernel
theorem dX5_checkWeight_10 : decode cX5_checkWeight 10 = .ok (.new 75, 3) := by decide +kernel
theorem dX5_checkWeight_13 : decode cX5_checkWeight 13 = .ok (.dup, 1) := by decide +kernel
theorem dX5_checkWeight_14 : decode cX5_checkWeight 14 = .ok (.ldc_w 401, 3) := by decide +kernel
theorem dX5_checkWeight_17 : decode cX5_checkWeight 17 = .ok (.invokespecial 79, 3) := by decide +kernel
theorem dX5_checkWeight_20 : decode cX5_checkWeight 20 = .ok (.athrow, 1) := by decide +kernel
theorem dX5_checkWeight_21 : decode cX5_checkWeight 21 = .ok (.return_, 1) := by decide +kernel
theorem dX5_checkRoomForTake_0 : decode cX5_checkRoomForTake 0 = .ok (.aload_n 0, 1) := by decide +kernel
theorem dX5_checkRoomForTake_1 : decode cX5_checkRoomForTake 1 = .ok (.getfield 284, 3) := by decide +kernel
theorem dX5_checkRoomForTake_4 : decode cX5_checkRoomForTake 4 = .ok (.bipush 60, 2) := by decide +kernel
theorem dX5_checkRoomForTake_6 : decode cX5_checkRoomForTake 6 = .ok (.if_icmp .lt 14, 3) := by decide +kernel
theorem dX5_checkRoomForTake_9 : decode cX5_checkRoomForTake 9 = .ok (.new 59, 3) := by decide +kernel
theorem dX5_checkRoomForTake_12 : decode cX5_checkRoomForTake 12 = .ok (.dup, 1) := by decide +kernel
theorem dX5_checkRoomForTake_13 : decode cX5_checkRoomForTake 13 = .ok (.ldc_w 403, 3) := by decide +kernel
theorem dX5_checkRoomForTake_16 : decode cX5_checkRoomForTake 16 = .ok (.invokespecial 63, 3) := by decide +kernel
theorem dX5_checkRoomForTake_19 : decode cX5_checkRoomForTake 19 = .ok (.athrow, 1) := by decide +kernel
theorem dX5_checkRoomForTake_20 : decode cX5_checkRoomForTake 20 = .ok (.return_, 1) := by decide +kernel
theorem dX5_factAt_0 : decode cX5_factAt 0 = .ok (.aload_n 0, 1) := by decide +kernel
theorem dX5_factAt_1 : decode cX5_factAt 1 = .ok (.getfield 25, 3) := by decide +kernel
theorem dX5_factAt_4 : decode cX5_factAt 4 = .ok (.iload_n 1, 1) := by decide +kernel
theorem dX5_factAt_5 : decode cX5_factAt 5 = .ok (.iconst 4, 1) := by decide +kernel
theorem dX5_factAt_6 : decode cX5_factAt 6 = .ok (.imul, 1) := by decide +kernel
theorem dX5_factAt_7 : decode cX5_factAt 7 = .ok (.iload_n 2, 1) := by decide +kernel
theorem dX5_factAt_8 : decode cX5_factAt 8 = .ok (.iadd, 1) := by decide +kernel
theorem dX5_factAt_9 : decode cX5_factAt 9 = .ok (.aaload, 1) := by decide +kernel
theorem dX5_factAt_10 : decode cX5_factAt 10 = .ok (.areturn, 1) := by decide +kernel
theorem dX5_isInSet_0 : decode cX5_isInSet 0 = .ok (.iload_n 0, 1) := by decide +kernel
theorem dX5_isInSet_1 : decode cX5_isInSet 1 = .ok (.iload_n 1, 1) := by decide +kernel
theorem dX5_isInSet_2 : decode cX5_isInSet 2 = .ok (.ishr, 1) := by decide +kernel
theorem dX5_isInSet_3 : decode cX5_isInSet 3 = .ok (.iconst 1, 1) := by decide +kernel
theorem dX5_isInSet_4 : decode cX5_isInSet 4 = .ok (.iand, 1) := by decide +kernel
theorem dX5_isInSet_5 : decode cX5_isInSet 5 = .ok (.iconst 1, 1) := by decide +kernel
theorem dX5_isInSet_6 : decode cX5_isInSet 6 = .ok (.if_icmp .ne 7, 3) := by decide +kernel
theorem dX5_isInSet_9 : decode cX5_isInSet 9 = .ok (.iconst 1, 1) := by decide +kernel
theorem dX5_isInSet_10 : decode cX5_isInSet 10 = .ok (.goto 4, 3) := by decide +kernel
theorem dX5_isInSet_13 : decode cX5_isInSet 13 = .ok (.iconst 0, 1) := by decide +kernel
theorem dX5_isInSet_14 : decode cX5_isInSet 14 = .ok (.ireturn, 1) := by decide +kernel
theorem dX5_hasValues_0 : decode cX5_hasValues 0 = .ok (.iconst 0, 1) := by decide +kernel
theorem dX5_hasValues_1 : decode cX5_hasValues 1 = .ok (.istore 4, 2) := by decide +kernel
theorem dX5_hasValues_3 : decode cX5_hasValues 3 = .ok (.iload 4, 2) := by decide +kernel
theorem dX5_hasValues_5 : decode cX5_hasValues 5 = .ok (.iconst 4, 1) := by decide +kernel
theorem dX5_hasValues_6 : decode cX5_hasValues 6 = .ok (.if_icmp .ge 35, 3) := by decide +kernel
theorem dX5_hasValues_9 : decode cX5_hasValues 9 = .ok (.iload_n 2, 1) := by decide +kernel
theorem dX5_hasValues_10 : decode cX5_hasValues 10 = .ok (.iload 4, 2) := by decide +kernel
theorem dX5_hasValues_12 : decode cX5_hasValues 12 = .ok (.invokestatic 405, 3) := by decide +kernel
theorem dX5_hasValues_15 : decode cX5_hasValues 15 = .ok (.ifCond .eq 20, 3) := by decide +kernel
theorem dX5_hasValues_18 : decode cX5_hasValues 18 = .ok (.aload_n 0, 1) := by decide +kernel
theorem dX5_hasValues_19 : decode cX5_hasValues 19 = .ok (.iload_n 1, 1) := by decide +kernel
theorem dX5_hasValues_20 : decode cX5_hasValues 20 = .ok (.iload 4, 2) := by decide +kernel
theorem dX5_hasValues_22 : decode cX5_hasValues 22 = .ok (.invokevirtual 98, 3) := by decide +kernel
theorem dX5_hasValues_25 : decode cX5_hasValues 25 = .ok (.iload_n 3, 1) := by decide +kernel
theorem dX5_hasValues_26 : decode cX5_hasValues 26 = .ok (.invokevirtual 408, 3) := by decide +kernel
theorem dX5_hasValues_29 : decode cX5_hasValues 29 = .ok (.iconst (-1), 1) := by decide +kernel
theorem dX5_hasValues_30 : decode cX5_hasValues 30 = .ok (.if_icmp .ne 5, 3) := by decide +kernel
theorem dX5_hasValues_33 : decode cX5_hasValues 33 = .ok (.iconst 0, 1) := by decide +kernel
theorem dX5_hasValues_34 : decode cX5_hasValues 34 = .ok (.ireturn, 1) := by decide +kernel
theorem dX5_hasValues_35 : decode cX5_hasValues 35 = .ok (.iinc 4 1, 3) := by decide +kernel
theorem dX5_hasValues_38 : decode cX5_hasValues 38 = .ok (.goto (-35), 3) := by decide +kernel
theorem dX5_hasValues_41 : decode cX5_hasValues 41 = .ok (.iconst 1, 1) := by decide +kernel
theorem dX5_hasValues_42 : decode cX5_hasValues 42 = .ok (.ireturn, 1) := by decide +kernel
theorem dX5_forceOf_0 : decode cX5_forceOf 0 = .ok (.iconst 0, 1) := by decide +kernel
theorem dX5_forceOf_1 : decode cX5_forceOf 1 = .ok (.istore_n 3, 1) := by decide +kernel
theorem dX5_forceOf_2 : decode cX5_forceOf 2 = .ok (.iconst 0, 1) := by decide +kernel
theorem dX5_forceOf_3 : decode cX5_forceOf 3 = .ok (.istore 4, 2) := by decide +kernel
theorem dX5_forceOf_5 : decode cX5_forceOf 5 = .ok (.iload 4, 2) := by decide +kernel
theorem dX5_forceOf_7 : decode cX5_forceOf 7 = .ok (.iconst 4, 1) := by decide +kernel
theorem dX5_forceOf_8 : decode cX5_forceOf 8 = .ok (.if_icmp .ge 31, 3) := by decide +kernel
theorem dX5_forceOf_11 : decode cX5_forceOf 11 = .ok (.iload_n 2, 1) := by decide +kernel
theorem dX5_forceOf_12 : decode cX5_forceOf 12 = .ok (.iload 4, 2) := by decide +kernel
theorem dX5_forceOf_14 : decode cX5_forceOf 14 = .ok (.invokestatic 405, 3) := by decide +kernel
theorem dX5_forceOf_17 : decode cX5_forceOf 17 = .ok (.ifCond .eq 16, 3) := by decide +kernel
theorem dX5_forceOf_20 : decode cX5_forceOf 20 = .ok (.iload_n 3, 1) := by decide +kernel
theorem dX5_forceOf_21 : decode cX5_forceOf 21 = .ok (.aload_n 0, 1) := by decide +kernel
theorem dX5_forceOf_22 : decode cX5_forceOf 22 = .ok (.iload_n 1, 1) := by decide +kernel
theorem dX5_forceOf_23 : decode cX5_forceOf 23 = .ok (.iload 4, 2) := by decide +kernel
theorem dX5_forceOf_25 : decode cX5_forceOf 25 = .ok (.invokevirtual 98, 3) := by decide +kernel
theorem dX5_forceOf_28 : decode cX5_forceOf 28 = .ok (.getfield 412, 3) := by decide +kernel
theorem dX5_forceOf_31 : decode cX5_forceOf 31 = .ok (.iadd, 1) := by decide +kernel
theorem dX5_forceOf_32 : decode cX5_forceOf 32 = .ok (.istore_n 3, 1) := by decide +kernel
theorem dX5_forceOf_33 : decode cX5_forceOf 33 = .ok (.iinc 4 1, 3) := by decide +kernel
theorem dX5_forceOf_36 : decode cX5_forceOf 36 = .ok (.goto (-31), 3) := by decide +kernel
theorem dX5_forceOf_39 : decode cX5_forceOf 39 = .ok (.iload_n 3, 1) := by decide +kernel
theorem dX5_forceOf_40 : decode cX5_forceOf 40 = .ok (.ireturn, 1) := by decide +kernel
theorem dX5_firstHad_0 : decode cX5_firstHad 0 = .ok (.iconst (-1), 1) := by decide +kernel
theorem dX5_firstHad_1 : decode cX5_firstHad 1 = .ok (.istore_n 3, 1) := by decide +kernel
theorem dX5_firstHad_2 : decode cX5_firstHad 2 = .ok (.iconst 0, 1) := by decide +kernel
theorem dX5_firstHad_3 : decode cX5_firstHad 3 = .ok (.istore 4, 2) := by decide +kernel
theorem dX5_firstHad_5 : decode cX5_firstHad 5 = .ok (.iload 4, 2) := by decide +kernel
theorem dX5_firstHad_7 : decode cX5_firstHad 7 = .ok (.aload_n 0, 1) := by decide +kernel
theorem dX5_firstHad_8 : decode cX5_firstHad 8 = .ok (.getfield 284, 3) := by decide +kernel
theorem dX5_firstHad_11 : decode cX5_firstHad 11 = .ok (.if_icmp .ge 67, 3) := by decide +kernel
theorem dX5_firstHad_14 : decode cX5_firstHad 14 = .ok (.aload_n 0, 1) := by decide +kernel
theorem dX5_firstHad_15 : decode cX5_firstHad 15 = .ok (.getfield 32, 3) := by decide +kernel
theorem dX5_firstHad_18 : decode cX5_firstHad 18 = .ok (.iload 4, 2) := by decide +kernel
theorem dX5_firstHad_20 : decode cX5_firstHad 20 = .ok (.aaload, 1) := by decide +kernel
theorem dX5_firstHad_21 : decode cX5_firstHad 21 = .ok (.getfield 172, 3) := by decide +kernel
theorem dX5_firstHad_24 : decode cX5_firstHad 24 = .ok (.iload_n 1, 1) := by decide +kernel
theorem dX5_firstHad_25 : decode cX5_firstHad 25 = .ok (.if_icmp .ne 47, 3) := by decide +kernel
theorem dX5_firstHad_28 : decode cX5_firstHad 28 = .ok (.aload_n 0, 1) := by decide +kernel
theorem dX5_firstHad_29 : decode cX5_firstHad 29 = .ok (.getfield 32, 3) := by decide +kernel
theorem dX5_firstHad_32 : decode cX5_firstHad 32 = .ok (.iload 4, 2) := by decide +kernel
theorem dX5_firstHad_34 : decode cX5_firstHad 34 = .ok (.aaload, 1) := by decide +kernel
theorem dX5_firstHad_35 : decode cX5_firstHad 35 = .ok (.getfield 162, 3) := by decide +kernel
theorem dX5_firstHad_38 : decode cX5_firstHad 38 = .ok (.iload_n 2, 1) := by decide +kernel
theorem dX5_firstHad_39 : decode cX5_firstHad 39 = .ok (.iaload, 1) := by decide +kernel
theorem dX5_firstHad_40 : decode cX5_firstHad 40 = .ok (.iconst (-1), 1) := by decide +kernel
theorem dX5_firstHad_41 : decode cX5_firstHad 41 = .ok (.if_icmp .eq 31, 3) := by decide +kernel
theorem dX5_firstHad_44 : decode cX5_firstHad 44 = .ok (.aload_n 0, 1) := by decide +kernel
theorem dX5_firstHad_45 : decode cX5_firstHad 45 = .ok (.iload 4, 2) := by decide +kernel
theorem dX5_firstHad_47 : decode cX5_firstHad 47 = .ok (.invokevirtual 415, 3) := by decide +kernel
theorem dX5_firstHad_50 : decode cX5_firstHad 50 = .ok (.istore 5, 2) := by decide +kernel
theorem dX5_firstHad_52 : decode cX5_firstHad 52 = .ok (.iload 5, 2) := by decide +kernel
theorem dX5_firstHad_54 : decode cX5_firstHad 54 = .ok (.iconst (-1), 1) := by decide +kernel
theorem dX5_firstHad_55 : decode cX5_firstHad 55 = .ok (.if_icmp .eq 17, 3) := by decide +kernel
theorem dX5_firstHad_58 : decode cX5_firstHad 58 = .ok (.iload_n 3, 1) := by decide +kernel
theorem dX5_firstHad_59 : decode cX5_firstHad 59 = .ok (.iconst (-1), 1) := by decide +kernel
theorem dX5_firstHad_60 : decode cX5_firstHad 60 = .ok (.if_icmp .eq 9, 3) := by decide +kernel
theorem dX5_firstHad_63 : decode cX5_firstHad 63 = .ok (.iload 5, 2) := by decide +kernel
theorem dX5_firstHad_65 : decode cX5_firstHad 65 = .ok (.iload_n 3, 1) := by decide +kernel
theorem dX5_firstHad_66 : decode cX5_firstHad 66 = .ok (.if_icmp .ge 6, 3) := by decide +kernel
theorem dX5_firstHad_69 : decode cX5_firstHad 69 = .ok (.iload 5, 2) := by decide +kernel
theorem dX5_firstHad_71 : decode cX5_firstHad 71 = .ok (.istore_n 3, 1) := by decide +kernel
theorem dX5_firstHad_72 : decode cX5_firstHad 72 = .ok (.iinc 4 1, 3) := by decide +kernel
theorem dX5_firstHad_75 : decode cX5_firstHad 75 = .ok (.goto (-70), 3) := by decide +kernel
theorem dX5_firstHad_78 : decode cX5_firstHad 78 = .ok (.iload_n 3, 1) := by decide +kernel
theorem dX5_firstHad_79 : decode cX5_firstHad 79 = .ok (.ireturn, 1) := by decide +kernel
theorem dX5_firstHadAnywhere_0 : decode cX5_firstHadAnywhere 0 = .ok (.iconst (-1), 1) := by decide +kernel
theorem dX5_firstHadAnywhere_1 : decode cX5_firstHadAnywhere 1 = .ok (.istore_n 2, 1) := by decide +kernel
theorem dX5_firstHadAnywhere_2 : decode cX5_firstHadAnywhere 2 = .ok (.iconst 0, 1) := by decide +kernel
theorem dX5_firstHadAnywhere_3 : decode cX5_firstHadAnywhere 3 = .ok (.istore_n 3, 1) := by decide +kernel
theorem dX5_firstHadAnywhere_4 : decode cX5_firstHadAnywhere 4 = .ok (.iload_n 3, 1) := by decide +kernel
theorem dX5_firstHadAnywhere_5 : decode cX5_firstHadAnywhere 5 = .ok (.aload_n 0, 1) := by decide +kernel
theorem dX5_firstHadAnywhere_6 : decode cX5_firstHadAnywhere 6 = .ok (.getfield 80, 3) := by decide +kernel
theorem dX5_firstHadAnywhere_9 : decode cX5_firstHadAnywhere 9 = .ok (.if_icmp .ge 63, 3) := by decide +kernel
theorem dX5_firstHadAnywhere_12 : decode cX5_firstHadAnywhere 12 = .ok (.aload_n 0, 1) := by decide +kernel
theorem dX5_firstHadAnywhere_13 : decode cX5_firstHadAnywhere 13 = .ok (.getfield 39, 3) := by decide +kernel
theorem dX5_firstHadAnywhere_16 : decode cX5_firstHadAnywhere 16 = .ok (.iload_n 3, 1) := by decide +kernel
theorem dX5_firstHadAnywhere_17 : decode cX5_firstHadAnywhere 17 = .ok (.aaload, 1) := by decide +kernel
theorem dX5_firstHadAnywhere_18 : decode cX5_firstHadAnywhere 18 = .ok (.iload_n 1, 1) := by decide +kernel
theorem dX5_firstHadAnywhere_19 : decode cX5_firstHadAnywhere 19 = .ok (.aload_n 0, 1) := by decide +kernel
theorem dX5_firstHadAnywhere_20 : decode cX5_firstHadAnywhere 20 = .ok (.getfield 123, 3) := by decide +kernel
theorem dX5_firstHadAnywhere_23 : decode cX5_firstHadAnywhere 23 = .ok (.invokevirtual 257, 3) := by decide +kernel
theorem dX5_firstHadAnywhere_26 : decode cX5_firstHadAnywhere 26 = .ok (.ifCond .eq 40, 3) := by decide +kernel
theorem dX5_firstHadAnywhere_29 : decode cX5_firstHadAnywhere 29 = .ok (.aload_n 0, 1) := by decide +kernel
theorem dX5_firstHadAnywhere_30 : decode cX5_firstHadAnywhere 30 = .ok (.getfield 39, 3) := by decide +kernel
theorem dX5_firstHadAnywhere_33 : decode cX5_firstHadAnywhere 33 = .ok (.iload_n 3, 1) := by decide +kernel
theorem dX5_firstHadAnywhere_34 : decode cX5_firstHadAnywhere 34 = .ok (.aaload, 1) := by decide +kernel
theorem dX5_firstHadAnywhere_35 : decode cX5_firstHadAnywhere 35 = .ok (.getfield 307, 3) := by decide +kernel
theorem dX5_firstHadAnywhere_38 : decode cX5_firstHadAnywhere 38 = .ok (.iload_n 1, 1) := by decide +kernel
theorem dX5_firstHadAnywhere_39 : decode cX5_firstHadAnywhere 39 = .ok (.iaload, 1) := by decide +kernel
theorem dX5_firstHadAnywhere_40 : decode cX5_firstHadAnywhere 40 = .ok (.aload_n 0, 1) := by decide +kernel
theorem dX5_firstHadAnywhere_41 : decode cX5_firstHadAnywhere 41 = .ok (.getfield 39, 3) := by decide +kernel
theorem dX5_firstHadAnywhere_44 : decode cX5_firstHadAnywhere 44 = .ok (.iload_n 3, 1) := by decide +kernel
theorem dX5_firstHadAnywhere_45 : decode cX5_firstHadAnywhere 45 = .ok (.aaload, 1) := by decide +kernel
theorem dX5_firstHadAnywhere_46 : decode cX5_firstHadAnywhere 46 = .ok (.getfield 88, 3) := by decide +kernel
theorem dX5_firstHadAnywhere_49 : decode cX5_firstHadAnywhere 49 = .ok (.iadd, 1) := by decide +kernel
theorem dX5_firstHadAnywhere_50 : decode cX5_firstHadAnywhere 50 = .ok (.istore 4, 2) := by decide +kernel
theorem dX5_firstHadAnywhere_52 : decode cX5_firstHadAnywhere 52 = .ok (.iload_n 2, 1) := by decide +kernel
theorem dX5_firstHadAnywhere_53 : decode cX5_firstHadAnywhere 53 = .ok (.iconst (-1), 1) := by decide +kernel
theorem dX5_firstHadAnywhere_54 : decode cX5_firstHadAnywhere 54 = .ok (.if_icmp .eq 9, 3) := by decide +kernel
theorem dX5_firstHadAnywhere_57 : decode cX5_firstHadAnywhere 57 = .ok (.iload 4, 2) := by decide +kernel
theorem dX5_firstHadAnywhere_59 : decode cX5_firstHadAnywhere 59 = .ok (.iload_n 2, 1) := by decide +kernel
theorem dX5_firstHadAnywhere_60 : decode cX5_firstHadAnywhere 60 = .ok (.if_icmp .ge 6, 3) := by decide +kernel
theorem dX5_firstHadAnywhere_63 : decode cX5_firstHadAnywhere 63 = .ok (.iload 4, 2) := by decide +kernel
theorem dX5_firstHadAnywhere_65 : decode cX5_firstHadAnywhere 65 = .ok (.istore_n 2, 1) := by decide +kernel
theorem dX5_firstHadAnywhere_66 : decode cX5_firstHadAnywhere 66 = .ok (.iinc 3 1, 3) := by decide +kernel
theorem dX5_firstHadAnywhere_69 : decode cX5_firstHadAnywhere 69 = .ok (.goto (-65), 3) := by decide +kernel
theorem dX5_firstHadAnywhere_72 : decode cX5_firstHadAnywhere 72 = .ok (.iload_n 2, 1) := by decide +kernel
theorem dX5_firstHadAnywhere_73 : decode cX5_firstHadAnywhere 73 = .ok (.ireturn, 1) := by decide +kernel
theorem dX5_isFirst_0 : decode cX5_isFirst 0 = .ok (.aload_n 0, 1) := by decide +kernel
theorem dX5_isFirst_1 : decode cX5_isFirst 1 = .ok (.iload_n 1, 1) := by decide +kernel
theorem dX5_isFirst_2 : decode cX5_isFirst 2 = .ok (.iload_n 2, 1) := by decide +kernel
theorem dX5_isFirst_3 : decode cX5_isFirst 3 = .ok (.invokevirtual 213, 3) := by decide +kernel
theorem dX5_isFirst_6 : decode cX5_isFirst 6 = .ok (.istore_n 3, 1) := by decide +kernel
theorem dX5_isFirst_7 : decode cX5_isFirst 7 = .ok (.aload_n 0, 1) := by decide +kernel
theorem dX5_isFirst_8 : decode cX5_isFirst 8 = .ok (.iload_n 1, 1) := by decide +kernel
theorem dX5_isFirst_9 : decode cX5_isFirst 9 = .ok (.iload_n 2, 1) := by decide +kernel
theorem dX5_isFirst_10 : decode cX5_isFirst 10 = .ok (.invokevirtual 98, 3) := by decide +kernel
theorem dX5_isFirst_13 : decode cX5_isFirst 13 = .ok (.getfield 120, 3) := by decide +kernel
theorem dX5_isFirst_16 : decode cX5_isFirst 16 = .ok (.istore 4, 2) := by decide +kernel
theorem dX5_isFirst_18 : decode cX5_isFirst 18 = .ok (.iload_n 3, 1) := by decide +kernel
theorem dX5_isFirst_19 : decode cX5_isFirst 19 = .ok (.iconst (-1), 1) := by decide +kernel
theorem dX5_isFirst_20 : decode cX5_isFirst 20 = .ok (.if_icmp .eq 19, 3) := by decide +kernel
theorem dX5_isFirst_23 : decode cX5_isFirst 23 = .ok (.iload 4, 2) := by decide +kernel
theorem dX5_isFirst_25 : decode cX5_isFirst 25 = .ok (.iconst (-1), 1) := by decide +kernel
theorem dX5_isFirst_26 : decode cX5_isFirst 26 = .ok (.if_icmp .eq 9, 3) := by decide +kernel
theorem dX5_isFirst_29 : decode cX5_isFirst 29 = .ok (.iload_n 3, 1) := by decide +kernel
theorem dX5_isFirst_30 : decode cX5_isFirst 30 = .ok (.iload 4, 2) := by decide +kernel
theorem dX5_isFirst_32 : decode cX5_isFirst 32 = .ok (.if_icmp .ge 7, 3) := by decide +kernel
theorem dX5_isFirst_35 : decode cX5_isFirst 35 = .ok (.iconst 1, 1) := by decide +kernel
theorem dX5_isFirst_36 : decode cX5_isFirst 36 = .ok (.goto 4, 3) := by decide +kernel
theorem dX5_isFirst_39 : decode cX5_isFirst 39 = .ok (.iconst 0, 1) := by decide +kernel
theorem dX5_isFirst_40 : decode cX5_isFirst 40 = .ok (.ireturn, 1) := by decide +kernel
theorem dX5_countTruths_0 : decode cX5_countTruths 0 = .ok (.iconst 0, 1) := by decide +kernel
theorem dX5_countTruths_1 : decode cX5_countTruths 1 = .ok (.istore_n 1, 1) := by decide +kernel
theorem dX5_countTruths_2 : decode cX5_countTruths 2 = .ok (.iconst 0, 1) := by decide +kernel
theorem dX5_countTruths_3 : decode cX5_countTruths 3 = .ok (.istore_n 2, 1) := by decide +kernel
theorem dX5_countTruths_4 : decode cX5_countTruths 4 = .ok (.iload_n 2, 1) := by decide +kernel
theorem dX5_countTruths_5 : decode cX5_countTruths 5 = .ok (.aload_n 0, 1) := by decide +kernel
theorem dX5_countTruths_6 : decode cX5_countTruths 6 = .ok (.getfield 70, 3) := by decide +kernel
theorem dX5_countTruths_9 : decode cX5_countTruths 9 = .ok (.iconst 4, 1) := by decide +kernel
theorem dX5_countTruths_10 : decode cX5_countTruths 10 = .ok (.imul, 1) := by decide +kernel
theorem dX5_countTruths_11 : decode cX5_countTruths 11 = .ok (.if_icmp .ge 25, 3) := by decide +kernel
theorem dX5_countTruths_14 : decode cX5_countTruths 14 = .ok (.aload_n 0, 1) := by decide +kernel
theorem dX5_countTruths_15 : decode cX5_countTruths 15 = .ok (.getfield 25, 3) := by decide +kernel
theorem dX5_countTruths_18 : decode cX5_countTruths 18 = .ok (.iload_n 2, 1) := by decide +kernel
theorem dX5_countTruths_19 : decode cX5_countTruths 19 = .ok (.aaload, 1) := by decide +kernel
theorem dX5_countTruths_20 : decode cX5_countTruths 20 = .ok (.getfield 175, 3) := by decide +kernel
theorem dX5_countTruths_23 : decode cX5_countTruths 23 = .ok (.iconst (-1), 1) := by decide +kernel
theorem dX5_countTruths_24 : decode cX5_countTruths 24 = .ok (.if_icmp .eq 6, 3) := by decide +kernel
theorem dX5_countTruths_27 : decode cX5_countTruths 27 = .ok (.iinc 1 1, 3) := by decide +kernel
theorem dX5_countTruths_30 : decode cX5_countTruths 30 = .ok (.iinc 2 1, 3) := by decide +kernel
theorem dX5_countTruths_33 : decode cX5_countTruths 33 = .ok (.goto (-29), 3) := by decide +kernel
theorem dX5_countTruths_36 : decode cX5_countTruths 36 = .ok (.iload_n 1, 1) := by decide +kernel
theorem dX5_countTruths_37 : decode cX5_countTruths 37 = .ok (.ireturn, 1) := by decide +kernel
theorem dX5_countUnproven_0 : decode cX5_countUnproven 0 = .ok (.iconst 0, 1) := by decide +kernel
theorem dX5_countUnproven_1 : decode cX5_countUnproven 1 = .ok (.istore_n 1, 1) := by decide +kernel
theorem dX5_countUnproven_2 : decode cX5_countUnproven 2 = .ok (.iconst 0, 1) := by decide +kernel
theorem dX5_countUnproven_3 : decode cX5_countUnproven 3 = .ok (.istore_n 2, 1) := by decide +kernel
theorem dX5_countUnproven_4 : decode cX5_countUnproven 4 = .ok (.iload_n 2, 1) := by decide +kernel
theorem dX5_countUnproven_5 : decode cX5_countUnproven 5 = .ok (.aload_n 0, 1) := by decide +kernel
theorem dX5_countUnproven_6 : decode cX5_countUnproven 6 = .ok (.getfield 70, 3) := by decide +kernel
theorem dX5_countUnproven_9 : decode cX5_countUnproven 9 = .ok (.iconst 4, 1) := by decide +kernel
theorem dX5_countUnproven_10 : decode cX5_countUnproven 10 = .ok (.imul, 1) := by decide +kernel
theorem dX5_countUnproven_11 : decode cX5_countUnproven 11 = .ok (.if_icmp .ge 38, 3) := by decide +kernel
theorem dX5_countUnproven_14 : decode cX5_countUnproven 14 = .ok (.aload_n 0, 1) := by decide +kernel
theorem dX5_countUnproven_15 : decode cX5_countUnproven 15 = .ok (.getfield 25, 3) := by decide +kernel
theorem dX5_countUnproven_18 : decode cX5_countUnproven 18 = .ok (.iload_n 2, 1) := by decide +kernel
theorem dX5_countUnproven_19 : decode cX5_countUnproven 19 = .ok (.aaload, 1) := by decide +kernel
theorem dX5_countUnproven_20 : decode cX5_countUnproven 20 = .ok (.getfield 175, 3) := by decide +kernel
theorem dX5_countUnproven_23 : decode cX5_countUnproven 23 = .ok (.iconst (-1), 1) := by decide +kernel
theorem dX5_countUnproven_24 : decode cX5_countUnproven 24 = .ok (.if_icmp .ne 19, 3) := by decide +kernel
theorem dX5_countUnproven_27 : decode cX5_countUnproven 27 = .ok (.aload_n 0, 1) := by decide +kernel
theorem dX5_countUnproven_28 : decode cX5_countUnproven 28 = .ok (.getfield 25, 3) := by decide +kernel
theorem dX5_countUnproven_31 : decode cX5_countUnproven 31 = .ok (.iload_n 2, 1) := by decide +kernel
theorem dX5_countUnproven_32 : decode cX5_countUnproven 32 = .ok (.aaload, 1) := by decide +kernel
theorem dX5_countUnproven_33 : decode cX5_countUnproven 33 = .ok (.getfield 204, 3) := by decide +kernel
theorem dX5_countUnproven_36 : decode cX5_countUnproven 36 = .ok (.iconst (-1), 1) := by decide +kernel
theorem dX5_countUnproven_37 : decode cX5_countUnproven 37 = .ok (.if_icmp .eq 6, 3) := by decide +kernel
theorem dX5_countUnproven_40 : decode cX5_countUnproven 40 = .ok (.iinc 1 1, 3) := by decide +kernel
theorem dX5_countUnproven_43 : decode cX5_countUnproven 43 = .ok (.iinc 2 1, 3) := by decide +kernel
theorem dX5_countUnproven_46 : decode cX5_countUnproven 46 = .ok (.goto (-42), 3) := by decide +kernel
theorem dX5_countUnproven_49 : decode cX5_countUnproven 49 = .ok (.iload_n 1, 1) := by decide +kernel
theorem dX5_countUnproven_50 : decode cX5_countUnproven 50 = .ok (.ireturn, 1) := by decide +kernel
theorem dX5_countFirsts_0 : decode cX5_countFirsts 0 = .ok (.iconst 0, 1) := by decide +kernel
theorem dX5_countFirsts_1 : decode cX5_countFirsts 1 = .ok (.istore_n 1, 1) := by decide +kernel
theorem dX5_countFirsts_2 : decode cX5_countFirsts 2 = .ok (.iconst 0, 1) := by decide +kernel
theorem dX5_countFirsts_3 : decode cX5_countFirsts 3 = .ok (.istore_n 2, 1) := by decide +kernel
theorem dX5_countFirsts_4 : decode cX5_countFirsts 4 = .ok (.iload_n 2, 1) := by decide +kernel
theorem dX5_countFirsts_5 : decode cX5_countFirsts 5 = .ok (.aload_n 0, 1) := by decide +kernel
theorem dX5_countFirsts_6 : decode cX5_countFirsts 6 = .ok (.getfield 70, 3) := by decide +kernel
theorem dX5_countFirsts_9 : decode cX5_countFirsts 9 = .ok (.if_icmp .ge 34, 3) := by decide +kernel
theorem dX5_countFirsts_12 : decode cX5_countFirsts 12 = .ok (.iconst 0, 1) := by decide +kernel
theorem dX5_countFirsts_13 : decode cX5_countFirsts 13 = .ok (.istore_n 3, 1) := by decide +kernel
theorem dX5_countFirsts_14 : decode cX5_countFirsts 14 = .ok (.iload_n 3, 1) := by decide +kernel
theorem dX5_countFirsts_15 : decode cX5_countFirsts 15 = .ok (.iconst 4, 1) := by decide +kernel
theorem dX5_countFirsts_16 : decode cX5_countFirsts 16 = .ok (.if_icmp .ge 21, 3) := by decide +kernel
theorem dX5_countFirsts_19 : decode cX5_countFirsts 19 = .ok (.aload_n 0, 1) := by decide +kernel
theorem dX5_countFirsts_20 : decode cX5_countFirsts 20 = .ok (.iload_n 2, 1) := by decide +kernel
theorem dX5_countFirsts_21 : decode cX5_countFirsts 21 = .ok (.iload_n 3, 1) := by decide +kernel
theorem dX5_countFirsts_22 : decode cX5_countFirsts 22 = .ok (.invokevirtual 216, 3) := by decide +kernel
theorem dX5_countFirsts_25 : decode cX5_countFirsts 25 = .ok (.ifCond .eq 6, 3) := by decide +kernel
theorem dX5_countFirsts_28 : decode cX5_countFirsts 28 = .ok (.iinc 1 1, 3) := by decide +kernel
theorem dX5_countFirsts_31 : decode cX5_countFirsts 31 = .ok (.iinc 3 1, 3) := by decide +kernel
theorem dX5_countFirsts_34 : decode cX5_countFirsts 34 = .ok (.goto (-20), 3) := by decide +kernel
theorem dX5_countFirsts_37 : decode cX5_countFirsts 37 = .ok (.iinc 2 1, 3) := by decide +kernel
theorem dX5_countFirsts_40 : decode cX5_countFirsts 40 = .ok (.goto (-36), 3) := by decide +kernel
theorem dX5_countFirsts_43 : decode cX5_countFirsts 43 = .ok (.iload_n 1, 1) := by decide +kernel
theorem dX5_countFirsts_44 : decode cX5_countFirsts 44 = .ok (.ireturn, 1) := by decide +kernel
theorem dX5_wordsFor_0 : decode cX5_wordsFor 0 = .ok (.iload_n 0, 1) := by decide +kernel
theorem dX5_wordsFor_1 : decode cX5_wordsFor 1 = .ok (.tableswitch 50 0 3 #[31, 34, 36, 39], 31) := by decide +kernel
theorem dX5_wordsFor_32 : decode cX5_wordsFor 32 = .ok (.bipush 8, 2) := by decide +kernel
theorem dX5_wordsFor_34 : decode cX5_wordsFor 34 = .ok (.ireturn, 1) := by decide +kernel
theorem dX5_wordsFor_35 : decode cX5_wordsFor 35 = .ok (.iconst 5, 1) := by decide +kernel
theorem dX5_wordsFor_36 : decode cX5_wordsFor 36 = .ok (.ireturn, 1) := by decide +kernel
theorem dX5_wordsFor_37 : decode cX5_wordsFor 37 = .ok (.bipush 15, 2) := by decide +kernel
theorem dX5_wordsFor_39 : decode cX5_wordsFor 39 = .ok (.ireturn, 1) := by decide +kernel
theorem dX5_wordsFor_40 : decode cX5_wordsFor 40 = .ok (.bipush 20, 2) := by decide +kernel
theorem dX5_wordsFor_42 : decode cX5_wordsFor 42 = .ok (.bipush 15, 2) := by decide +kernel
theorem dX5_wordsFor_44 : decode cX5_wordsFor 44 = .ok (.iload_n 1, 1) := by decide +kernel
theorem dX5_wordsFor_45 : decode cX5_wordsFor 45 = .ok (.invokestatic 146, 3) := by decide +kernel
theorem dX5_wordsFor_48 : decode cX5_wordsFor 48 = .ok (.imul, 1) := by decide +kernel
theorem dX5_wordsFor_49 : decode cX5_wordsFor 49 = .ok (.iadd, 1) := by decide +kernel
theorem dX5_wordsFor_50 : decode cX5_wordsFor 50 = .ok (.ireturn, 1) := by decide +kernel
theorem dX5_wordsFor_51 : decode cX5_wordsFor 51 = .ok (.bipush 60, 2) := by decide +kernel
theorem dX5_wordsFor_53 : decode cX5_wordsFor 53 = .ok (.bipush 30, 2) := by decide +kernel
theorem dX5_wordsFor_55 : decode cX5_wordsFor 55 = .ok (.iload_n 1, 1) := by decide +kernel
theorem dX5_wordsFor_56 : decode cX5_wordsFor 56 = .ok (.invokestatic 146, 3) := by decide +kernel
theorem dX5_wordsFor_59 : decode cX5_wordsFor 59 = .ok (.imul, 1) := by decide +kernel
theorem dX5_wordsFor_60 : decode cX5_wordsFor 60 = .ok (.iadd, 1) := by decide +kernel
theorem dX5_wordsFor_61 : decode cX5_wordsFor 61 = .ok (.ireturn, 1) := by decide +kernel
theorem dX5_addTake_0 : decode cX5_addTake 0 = .ok (.aload_n 0, 1) := by decide +kernel
theorem dX5_addTake_1 : decode cX5_addTake 1 = .ok (.getfield 284, 3) := by decide +kernel
theorem dX5_addTake_4 : decode cX5_addTake 4 = .ok (.istore 7, 2) := by decide +kernel
theorem dX5_addTake_6 : decode cX5_addTake 6 = .ok (.aload_n 0, 1) := by decide +kernel
theorem dX5_addTake_7 : decode cX5_addTake 7 = .ok (.dup, 1) := by decide +kernel
theorem dX5_addTake_8 : decode cX5_addTake 8 = .ok (.getfield 284, 3) := by decide +kernel
theorem dX5_addTake_11 : decode cX5_addTake 11 = .ok (.iconst 1, 1) := by decide +kernel
theorem dX5_addTake_12 : decode cX5_addTake 12 = .ok (.iadd, 1) := by decide +kernel
theorem dX5_addTake_13 : decode cX5_addTake 13 = .ok (.putfield 284, 3) := by decide +kernel
theorem dX5_addTake_16 : decode cX5_addTake 16 = .ok (.aload_n 0, 1) := by decide +kernel
theorem dX5_addTake_17 : decode cX5_addTake 17 = .ok (.getfield 32, 3) := by decide +kernel
theorem dX5_addTake_20 : decode cX5_addTake 20 = .ok (.iload 7, 2) := by decide +kernel
theorem dX5_addTake_22 : decode cX5_addTake 22 = .ok (.aaload, 1) := by decide +kernel
theorem dX5_addTake_23 : decode cX5_addTake 23 = .ok (.astore 8, 2) := by decide +kernel
theorem dX5_addTake_25 : decode cX5_addTake 25 = .ok (.aload 8, 2) := by decide +kernel
theorem dX5_addTake_27 : decode cX5_addTake 27 = .ok (.iload_n 1, 1) := by decide +kernel
theorem dX5_addTake_28 : decode cX5_addTake 28 = .ok (.putfield 172, 3) := by decide +kernel
theorem dX5_addTake_31 : decode cX5_addTake 31 = .ok (.aload 8, 2) := by decide +kernel
theorem dX5_addTake_33 : decode cX5_addTake 33 = .ok (.iload_n 2, 1) := by decide +kernel
theorem dX5_addTake_34 : decode cX5_addTake 34 = .ok (.putfield 178, 3) := by decide +kernel
theorem dX5_addTake_37 : decode cX5_addTake 37 = .ok (.aload 8, 2) := by decide +kernel
theorem dX5_addTake_39 : decode cX5_addTake 39 = .ok (.iload_n 3, 1) := by decide +kernel
theorem dX5_addTake_40 : decode cX5_addTake 40 = .ok (.putfield 225, 3) := by decide +kernel
theorem dX5_addTake_43 : decode cX5_addTake 43 = .ok (.aload 8, 2) := by decide +kernel
theorem dX5_addTake_45 : decode cX5_addTake 45 = .ok (.iload_n 2, 1) := by decide +kernel
theorem dX5_addTake_46 : decode cX5_addTake 46 = .ok (.iload_n 3, 1) := by decide +kernel
theorem dX5_addTake_47 : decode cX5_addTake 47 = .ok (.invokestatic 337, 3) := by decide +kernel
theorem dX5_addTake_50 : decode cX5_addTake 50 = .ok (.putfield 228, 3) := by decide +kernel
theorem dX5_addTake_53 : decode cX5_addTake 53 = .ok (.aload 8, 2) := by decide +kernel
theorem dX5_addTake_55 : decode cX5_addTake 55 = .ok (.iload 4, 2) := by decide +kernel
theorem dX5_addTake_57 : decode cX5_addTake 57 = .ok (.putfield 234, 3) := by decide +kernel
theorem dX5_addTake_60 : decode cX5_addTake 60 = .ok (.aload 8, 2) := by decide +kernel
theorem dX5_addTake_62 : decode cX5_addTake 62 = .ok (.iload 5, 2) := by decide +kernel
theorem dX5_addTake_64 : decode cX5_addTake 64 = .ok (.putfield 231, 3) := by decide +kernel
theorem dX5_addTake_67 : decode cX5_addTake 67 = .ok (.aload 8, 2) := by decide +kernel
theorem dX5_addTake_69 : decode cX5_addTake 69 = .ok (.iload 6, 2) := by decide +kernel
theorem dX5_addTake_71 : decode cX5_addTake 71 = .ok (.putfield 238, 3) := by decide +kernel
theorem dX5_addTake_74 : decode cX5_addTake 74 = .ok (.aload 8, 2) := by decide +kernel
theorem dX5_addTake_76 : decode cX5_addTake 76 = .ok (.aload_n 0, 1) := by decide +kernel
theorem dX5_addTake_77 : decode cX5_addTake 77 = .ok (.getfield 123, 3) := by decide +kernel
theorem dX5_addTake_80 : decode cX5_addTake 80 = .ok (.putfield 241, 3) := by decide +kernel
theorem dX5_addTake_83 : decode cX5_addTake 83 = .ok (.iconst 0, 1) := by decide +kernel
theorem dX5_addTake_84 : decode cX5_addTake 84 = .ok (.istore 9, 2) := by decide +kernel
theorem dX5_addTake_86 : decode cX5_addTake 86 = .ok (.iload 9, 2) := by decide +kernel
theorem dX5_addTake_88 : decode cX5_addTake 88 = .ok (.iconst 4, 1) := by decide +kernel
theorem dX5_addTake_89 : decode cX5_addTake 89 = .ok (.if_icmp .ge 42, 3) := by decide +kernel
theorem dX5_addTake_92 : decode cX5_addTake 92 = .ok (.aload 8, 2) := by decide +kernel
theorem dX5_addTake_94 : decode cX5_addTake 94 = .ok (.getfield 162, 3) := by decide +kernel
theorem dX5_addTake_97 : decode cX5_addTake 97 = .ok (.iload 9, 2) := by decide +kernel
theorem dX5_addTake_99 : decode cX5_addTake 99 = .ok (.iload_n 3, 1) := by decide +kernel
theorem dX5_addTake_100 : decode cX5_addTake 100 = .ok (.iload 9, 2) := by decide +kernel
theorem dX5_addTake_102 : decode cX5_addTake 102 = .ok (.invokestatic 405, 3) := by decide +kernel
theorem dX5_addTake_105 : decode cX5_addTake 105 = .ok (.ifCond .eq 18, 3) := by decide +kernel
theorem dX5_addTake_108 : decode cX5_addTake 108 = .ok (.aload_n 0, 1) := by decide +kernel
theorem dX5_addTake_109 : decode cX5_addTake 109 = .ok (.iload_n 1, 1) := by decide +kernel
theorem dX5_addTake_110 : decode cX5_addTake 110 = .ok (.iload 9, 2) := by decide +kernel
theorem dX5_addTake_112 : decode cX5_addTake 112 = .ok (.invokevirtual 98, 3) := by decide +kernel
theorem dX5_addTake_115 : decode cX5_addTake 115 = .ok (.iload 4, 2) := by decide +kernel
theorem dX5_addTake_117 : decode cX5_addTake 117 = .ok (.invokevirtual 408, 3) := by decide +kernel
theorem dX5_addTake_120 : decode cX5_addTake 120 = .ok (.goto 4, 3) := by decide +kernel
theorem dX5_addTake_123 : decode cX5_addTake 123 = .ok (.iconst (-1), 1) := by decide +kernel
theorem dX5_addTake_124 : decode cX5_addTake 124 = .ok (.iastore, 1) := by decide +kernel
theorem dX5_addTake_125 : decode cX5_addTake 125 = .ok (.iinc 9 1, 3) := by decide +kernel
theorem dX5_addTake_128 : decode cX5_addTake 128 = .ok (.goto (-42), 3) := by decide +kernel
theorem dX5_addTake_131 : decode cX5_addTake 131 = .ok (.iload 7, 2) := by decide +kernel
theorem dX5_addTake_133 : decode cX5_addTake 133 = .ok (.ireturn, 1) := by decide +kernel
theorem dX5_runOnAllLines_0 : decode cX5_runOnAllLines 0 = .ok (.iconst 0, 1) := by decide +kernel
theorem dX5_runOnAllLines_1 : decode cX5_runOnAllLines 1 = .ok (.istore_n 2, 1) := by decide +kernel
theorem dX5_runOnAllLines_2 : decode cX5_runOnAllLines 2 = .ok (.iload_n 2, 1) := by decide +kernel
theorem dX5_runOnAllLines_3 : decode cX5_runOnAllLines 3 = .ok (.aload_n 0, 1) := by decide +kernel
theorem dX5_runOnAllLines_4 : decode cX5_runOnAllLines 4 = .ok (.getfield 80, 3) := by decide +kernel
theorem dX5_runOnAllLines_7 : decode cX5_runOnAllLines 7 = .ok (.if_icmp .ge 25, 3) := by decide +kernel
theorem dX5_runOnAllLines_10 : decode cX5_runOnAllLines 10 = .ok (.aload_n 0, 1) := by decide +kernel
theorem dX5_runOnAllLines_11 : decode cX5_runOnAllLines 11 = .ok (.getfield 39, 3) := by decide +kernel
theorem dX5_runOnAllLines_14 : decode cX5_runOnAllLines 14 = .ok (.iload_n 2, 1) := by decide +kernel
theorem dX5_runOnAllLines_15 : decode cX5_runOnAllLines 15 = .ok (.aaload, 1) := by decide +kernel
theorem dX5_runOnAllLines_16 : decode cX5_runOnAllLines 16 = .ok (.iload_n 1, 1) := by decide +kernel
theorem dX5_runOnAllLines_17 : decode cX5_runOnAllLines 17 = .ok (.aload_n 0, 1) := by decide +kernel
theorem dX5_runOnAllLines_18 : decode cX5_runOnAllLines 18 = .ok (.getfield 32, 3) := by decide +kernel
theorem dX5_runOnAllLines_21 : decode cX5_runOnAllLines 21 = .ok (.iload_n 1, 1) := by decide +kernel
theorem dX5_runOnAllLines_22 : decode cX5_runOnAllLines 22 = .ok (.aaload, 1) := by decide +kernel
theorem dX5_runOnAllLines_23 : decode cX5_runOnAllLines 23 = .ok (.invokevirtual 187, 3) := by decide +kernel
theorem dX5_runOnAllLines_26 : decode cX5_runOnAllLines 26 = .ok (.iinc 2 1, 3) := by decide +kernel
theorem dX5_runOnAllLines_29 : decode cX5_runOnAllLines 29 = .ok (.goto (-27), 3) := by decide +kernel
theorem dX5_runOnAllLines_32 : decode cX5_runOnAllLines 32 = .ok (.return_, 1) := by decide +kernel
theorem dX5_countKilled_0 : decode cX5_countKilled 0 = .ok (.iconst 0, 1) := by decide +kernel
theorem dX5_countKilled_1 : decode cX5_countKilled 1 = .ok (.istore_n 1, 1) := by decide +kernel
theorem dX5_countKilled_2 : decode cX5_countKilled 2 = .ok (.iconst 0, 1) := by decide +kernel
theorem dX5_countKilled_3 : decode cX5_countKilled 3 = .ok (.istore_n 2, 1) := by decide +kernel
theorem dX5_countKilled_4 : decode cX5_countKilled 4 = .ok (.iload_n 2, 1) := by decide +kernel
theorem dX5_countKilled_5 : decode cX5_countKilled 5 = .ok (.aload_n 0, 1) := by decide +kernel
theorem dX5_countKilled_6 : decode cX5_countKilled 6 = .ok (.getfield 284, 3) := by decide +kernel
theorem dX5_countKilled_9 : decode cX5_countKilled 9 = .ok (.if_icmp .ge 25, 3) := by decide +kernel
theorem dX5_countKilled_12 : decode cX5_countKilled 12 = .ok (.aload_n 0, 1) := by decide +kernel
theorem dX5_countKilled_13 : decode cX5_countKilled 13 = .ok (.getfield 32, 3) := by decide +kernel
theorem dX5_countKilled_16 : decode cX5_countKilled 16 = .ok (.iload_n 2, 1) := by decide +kernel
theorem dX5_countKilled_17 : decode cX5_countKilled 17 = .ok (.aaload, 1) := by decide +kernel
theorem dX5_countKilled_18 : decode cX5_countKilled 18 = .ok (.getfield 167, 3) := by decide +kernel
theorem dX5_countKilled_21 : decode cX5_countKilled 21 = .ok (.iconst (-1), 1) := by decide +kernel
theorem dX5_countKilled_22 : decode cX5_countKilled 22 = .ok (.if_icmp .eq 6, 3) := by decide +kernel
theorem dX5_countKilled_25 : decode cX5_countKilled 25 = .ok (.iinc 1 1, 3) := by decide +kernel
theorem dX5_countKilled_28 : decode cX5_countKilled 28 = .ok (.iinc 2 1, 3) := by decide +kernel
theorem dX5_countKilled_31 : decode cX5_countKilled 31 = .ok (.goto (-27), 3) := by decide +kernel
theorem dX5_countKilled_34 : decode cX5_countKilled 34 = .ok (.iload_n 1, 1) := by decide +kernel
theorem dX5_countKilled_35 : decode cX5_countKilled 35 = .ok (.ireturn, 1) := by decide +kernel
theorem dX5_countCorrections_0 : decode cX5_countCorrections 0 = .ok (.iconst 0, 1) := by decide +kernel
theorem dX5_countCorrections_1 : decode cX5_countCorrections 1 = .ok (.istore_n 1, 1) := by decide +kernel
theorem dX5_countCorrections_2 : decode cX5_countCorrections 2 = .ok (.iconst 0, 1) := by decide +kernel
theorem dX5_countCorrections_3 : decode cX5_countCorrections 3 = .ok (.istore_n 2, 1) := by decide +kernel
theorem dX5_countCorrections_4 : decode cX5_countCorrections 4 = .ok (.iload_n 2, 1) := by decide +kernel
theorem dX5_countCorrections_5 : decode cX5_countCorrections 5 = .ok (.aload_n 0, 1) := by decide +kernel
theorem dX5_countCorrections_6 : decode cX5_countCorrections 6 = .ok (.getfield 284, 3) := by decide +kernel
theorem dX5_countCorrections_9 : decode cX5_countCorrections 9 = .ok (.if_icmp .ge 25, 3) := by decide +kernel
theorem dX5_countCorrections_12 : decode cX5_countCorrections 12 = .ok (.aload_n 0, 1) := by decide +kernel
theorem dX5_countCorrections_13 : decode cX5_countCorrections 13 = .ok (.getfield 32, 3) := by decide +kernel
theorem dX5_countCorrections_16 : decode cX5_countCorrections 16 = .ok (.iload_n 2, 1) := by decide +kernel
theorem dX5_countCorrections_17 : decode cX5_countCorrections 17 = .ok (.aaload, 1) := by decide +kernel
theorem dX5_countCorrections_18 : decode cX5_countCorrections 18 = .ok (.getfield 178, 3) := by decide +kernel
theorem dX5_countCorrections_21 : decode cX5_countCorrections 21 = .ok (.iconst 2, 1) := by decide +kernel
theorem dX5_countCorrections_22 : decode cX5_countCorrections 22 = .ok (.if_icmp .ne 6, 3) := by decide +kernel
theorem dX5_countCorrections_25 : decode cX5_countCorrections 25 = .ok (.iinc 1 1, 3) := by decide +kernel
theorem dX5_countCorrections_28 : decode cX5_countCorrections 28 = .ok (.iinc 2 1, 3) := by decide +kernel
theorem dX5_countCorrections_31 : decode cX5_countCorrections 31 = .ok (.goto (-27), 3) := by decide +kernel
theorem dX5_countCorrections_34 : decode cX5_countCorrections 34 = .ok (.iload_n 1, 1) := by decide +kernel
theorem dX5_countCorrections_35 : decode cX5_countCorrections 35 = .ok (.ireturn, 1) := by decide +kernel
theorem dX5_isDropped_0 : decode cX5_isDropped 0 = .ok (.aload_n 0, 1) := by decide +kernel
theorem dX5_isDropped_1 : decode cX5_isDropped 1 = .ok (.getfield 32, 3) := by decide +kernel
theorem dX5_isDropped_4 : decode cX5_isDropped 4 = .ok (.iload_n 2, 1) := by decide +kernel
theorem dX5_isDropped_5 : decode cX5_isDropped 5 = .ok (.aaload, 1) := by decide +kernel
theorem dX5_isDropped_6 : decode cX5_isDropped 6 = .ok (.getfield 167, 3) := by decide +kernel
theorem dX5_isDropped_9 : decode cX5_isDropped 9 = .ok (.istore_n 3, 1) := by decide +kernel
theorem dX5_isDropped_10 : decode cX5_isDropped 10 = .ok (.iload_n 3, 1) := by decide +kernel
theorem dX5_isDropped_11 : decode cX5_isDropped 11 = .ok (.iconst (-1), 1) := by decide +kernel
theorem dX5_isDropped_12 : decode cX5_isDropped 12 = .ok (.if_icmp .eq 24, 3) := by decide +kernel
theorem dX5_isDropped_15 : decode cX5_isDropped 15 = .ok (.aload_n 0, 1) := by decide +kernel
theorem dX5_isDropped_16 : decode cX5_isDropped 16 = .ok (.getfield 39, 3) := by decide +kernel
theorem dX5_isDropped_19 : decode cX5_isDropped 19 = .ok (.iload_n 1, 1) := by decide +kernel
theorem dX5_isDropped_20 : decode cX5_isDropped 20 = .ok (.aaload, 1) := by decide +kernel
theorem dX5_isDropped_21 : decode cX5_isDropped 21 = .ok (.iload_n 3, 1) := by decide +kernel
theorem dX5_isDropped_22 : decode cX5_isDropped 22 = .ok (.aload_n 0, 1) := by decide +kernel
theorem dX5_isDropped_23 : decode cX5_isDropped 23 = .ok (.getfield 123, 3) := by decide +kernel
theorem dX5_isDropped_26 : decode cX5_isDropped 26 = .ok (.invokevirtual 257, 3) := by decide +kernel
theorem dX5_isDropped_29 : decode cX5_isDropped 29 = .ok (.ifCond .eq 7, 3) := by decide +kernel
theorem dX5_isDropped_32 : decode cX5_isDropped 32 = .ok (.iconst 1, 1) := by decide +kernel
theorem dX5_isDropped_33 : decode cX5_isDropped 33 = .ok (.goto 4, 3) := by decide +kernel
theorem dX5_isDropped_36 : decode cX5_isDropped 36 = .ok (.iconst 0, 1) := by decide +kernel
theorem dX5_isDropped_37 : decode cX5_isDropped 37 = .ok (.ireturn, 1) := by decide +kernel
theorem dX5_toldAtDesk_0 : decode cX5_toldAtDesk 0 = .ok (.aload_n 0, 1) := by decide +kernel
theorem dX5_toldAtDesk_1 : decode cX5_toldAtDesk 1 = .ok (.getfield 284, 3) := by decide +kernel
theorem dX5_toldAtDesk_4 : decode cX5_toldAtDesk 4 = .ok (.iconst 1, 1) := by decide +kernel
theorem dX5_toldAtDesk_5 : decode cX5_toldAtDesk 5 = .ok (.isub, 1) := by decide +kernel
theorem dX5_toldAtDesk_6 : decode cX5_toldAtDesk 6 = .ok (.istore 4, 2) := by decide +kernel
theorem dX5_toldAtDesk_8 : decode cX5_toldAtDesk 8 = .ok (.iload 4, 2) := by decide +kernel
theorem dX5_toldAtDesk_10 : decode cX5_toldAtDesk 10 = .ok (.ifCond .lt 92, 3) := by decide +kernel
theorem dX5_toldAtDesk_13 : decode cX5_toldAtDesk 13 = .ok (.aload_n 0, 1) := by decide +kernel
theorem dX5_toldAtDesk_14 : decode cX5_toldAtDesk 14 = .ok (.getfield 32, 3) := by decide +kernel
theorem dX5_toldAtDesk_17 : decode cX5_toldAtDesk 17 = .ok (.iload 4, 2) := by decide +kernel
theorem dX5_toldAtDesk_19 : decode cX5_toldAtDesk 19 = .ok (.aaload, 1) := by decide +kernel
theorem dX5_toldAtDesk_20 : decode cX5_toldAtDesk 20 = .ok (.getfield 172, 3) := by decide +kernel
theorem dX5_toldAtDesk_23 : decode cX5_toldAtDesk 23 = .ok (.iload_n 2, 1) := by decide +kernel
theorem dX5_toldAtDesk_24 : decode cX5_toldAtDesk 24 = .ok (.if_icmp .ne 23, 3) := by decide +kernel
theorem dX5_toldAtDesk_27 : decode cX5_toldAtDesk 27 = .ok (.aload_n 0, 1) := by decide +kernel
theorem dX5_toldAtDesk_28 : decode cX5_toldAtDesk 28 = .ok (.getfield 32, 3) := by decide +kernel
theorem dX5_toldAtDesk_31 : decode cX5_toldAtDesk 31 = .ok (.iload 4, 2) := by decide +kernel
theorem dX5_toldAtDesk_33 : decode cX5_toldAtDesk 33 = .ok (.aaload, 1) := by decide +kernel
theorem dX5_toldAtDesk_34 : decode cX5_toldAtDesk 34 = .ok (.getfield 162, 3) := by decide +kernel
theorem dX5_toldAtDesk_37 : decode cX5_toldAtDesk 37 = .ok (.iload_n 3, 1) := by decide +kernel
theorem dX5_toldAtDesk_38 : decode cX5_toldAtDesk 38 = .ok (.iaload, 1) := by decide +kernel
theorem dX5_toldAtDesk_39 : decode cX5_toldAtDesk 39 = .ok (.iconst (-1), 1) := by decide +kernel
theorem dX5_toldAtDesk_40 : decode cX5_toldAtDesk 40 = .ok (.if_icmp .eq 7, 3) := by decide +kernel
theorem dX5_toldAtDesk_43 : decode cX5_toldAtDesk 43 = .ok (.iconst 1, 1) := by decide +kernel
theorem dX5_toldAtDesk_44 : decode cX5_toldAtDesk 44 = .ok (.goto 4, 3) := by decide +kernel
theorem dX5_toldAtDesk_47 : decode cX5_toldAtDesk 47 = .ok (.iconst 0, 1) := by decide +kernel
theorem dX5_toldAtDesk_48 : decode cX5_toldAtDesk 48 = .ok (.istore 5, 2) := by decide +kernel
theorem dX5_toldAtDesk_50 : decode cX5_toldAtDesk 50 = .ok (.iload 5, 2) := by decide +kernel
theorem dX5_toldAtDesk_52 : decode cX5_toldAtDesk 52 = .ok (.ifCond .eq 44, 3) := by decide +kernel
theorem dX5_toldAtDesk_55 : decode cX5_toldAtDesk 55 = .ok (.aload_n 0, 1) := by decide +kernel
theorem dX5_toldAtDesk_56 : decode cX5_toldAtDesk 56 = .ok (.getfield 39, 3) := by decide +kernel
theorem dX5_toldAtDesk_59 : decode cX5_toldAtDesk 59 = .ok (.iload_n 1, 1) := by decide +kernel
theorem dX5_toldAtDesk_60 : decode cX5_toldAtDesk 60 = .ok (.aaload, 1) := by decide +kernel
theorem dX5_toldAtDesk_61 : decode cX5_toldAtDesk 61 = .ok (.iload 4, 2) := by decide +kernel
theorem dX5_toldAtDesk_63 : decode cX5_toldAtDesk 63 = .ok (.aload_n 0, 1) := by decide +kernel
theorem dX5_toldAtDesk_64 : decode cX5_toldAtDesk 64 = .ok (.getfield 123, 3) := by decide +kernel
theorem dX5_toldAtDesk_67 : decode cX5_toldAtDesk 67 = .ok (.invokevirtual 257, 3) := by decide +kernel
theorem dX5_toldAtDesk_70 : decode cX5_toldAtDesk 70 = .ok (.ifCond .eq 26, 3) := by decide +kernel
theorem dX5_toldAtDesk_73 : decode cX5_toldAtDesk 73 = .ok (.aload_n 0, 1) := by decide +kernel
theorem dX5_toldAtDesk_74 : decode cX5_toldAtDesk 74 = .ok (.iload_n 1, 1) := by decide +kernel
theorem dX5_toldAtDesk_75 : decode cX5_toldAtDesk 75 = .ok (.iload 4, 2) := by decide +kernel
theorem dX5_toldAtDesk_77 : decode cX5_toldAtDesk 77 = .ok (.invokevirtual 260, 3) := by decide +kernel
theorem dX5_toldAtDesk_80 : decode cX5_toldAtDesk 80 = .ok (.ifCond .ne 16, 3) := by decide +kernel
theorem dX5_toldAtDesk_83 : decode cX5_toldAtDesk 83 = .ok (.aload_n 0, 1) := by decide +kernel
theorem dX5_toldAtDesk_84 : decode cX5_toldAtDesk 84 = .ok (.getfield 32, 3) := by decide +kernel
theorem dX5_toldAtDesk_87 : decode cX5_toldAtDesk 87 = .ok (.iload 4, 2) := by decide +kernel
theorem dX5_toldAtDesk_89 : decode cX5_toldAtDesk 89 = .ok (.aaload, 1) := by decide +kernel
theorem dX5_toldAtDesk_90 : decode cX5_toldAtDesk 90 = .ok (.getfield 162, 3) := by decide +kernel
theorem dX5_toldAtDesk_93 : decode cX5_toldAtDesk 93 = .ok (.iload_n 3, 1) := by decide +kernel
theorem dX5_toldAtDesk_94 : decode cX5_toldAtDesk 94 = .ok (.iaload, 1) := by decide +kernel
theorem dX5_toldAtDesk_95 : decode cX5_toldAtDesk 95 = .ok (.ireturn, 1) := by decide +kernel
theorem dX5_toldAtDesk_96 : decode cX5_toldAtDesk 96 = .ok (.iinc 4 (-1), 3) := by decide +kernel
theorem dX5_toldAtDesk_99 : decode cX5_toldAtDesk 99 = .ok (.goto (-91), 3) := by decide +kernel
theorem dX5_toldAtDesk_102 : decode cX5_toldAtDesk 102 = .ok (.iconst (-1), 1) := by decide +kernel
theorem dX5_toldAtDesk_103 : decode cX5_toldAtDesk 103 = .ok (.ireturn, 1) := by decide +kernel
theorem dX5_countTold_0 : decode cX5_countTold 0 = .ok (.iconst 0, 1) := by decide +kernel
theorem dX5_countTold_1 : decode cX5_countTold 1 = .ok (.istore_n 2, 1) := by decide +kernel
theorem dX5_countTold_2 : decode cX5_countTold 2 = .ok (.iconst 0, 1) := by decide +kernel
theorem dX5_countTold_3 : decode cX5_countTold 3 = .ok (.istore_n 3, 1) := by decide +kernel
theorem dX5_countTold_4 : decode cX5_countTold 4 = .ok (.iload_n 3, 1) := by decide +kernel
theorem dX5_countTold_5 : decode cX5_countTold 5 = .ok (.aload_n 0, 1) := by decide +kernel
theorem dX5_countTold_6 : decode cX5_countTold 6 = .ok (.getfield 70, 3) := by decide +kernel
theorem dX5_countTold_9 : decode cX5_countTold 9 = .ok (.if_icmp .ge 39, 3) := by decide +kernel
theorem dX5_countTold_12 : decode cX5_countTold 12 = .ok (.iconst 0, 1) := by decide +kernel
theorem dX5_countTold_13 : decode cX5_countTold 13 = .ok (.istore 4, 2) := by decide +kernel
theorem dX5_countTold_15 : decode cX5_countTold 15 = .ok (.iload 4, 2) := by decide +kernel
theorem dX5_countTold_17 : decode cX5_countTold 17 = .ok (.iconst 4, 1) := by decide +kernel
theorem dX5_countTold_18 : decode cX5_countTold 18 = .ok (.if_icmp .ge 24, 3) := by decide +kernel
theorem dX5_countTold_21 : decode cX5_countTold 21 = .ok (.aload_n 0, 1) := by decide +kernel
theorem dX5_countTold_22 : decode cX5_countTold 22 = .ok (.iload_n 1, 1) := by decide +kernel
theorem dX5_countTold_23 : decode cX5_countTold 23 = .ok (.iload_n 3, 1) := by decide +kernel
theorem dX5_countTold_24 : decode cX5_countTold 24 = .ok (.iload 4, 2) := by decide +kernel
theorem dX5_countTold_26 : decode cX5_countTold 26 = .ok (.invokevirtual 263, 3) := by decide +kernel
theorem dX5_countTold_29 : decode cX5_countTold 29 = .ok (.iconst (-1), 1) := by decide +kernel
theorem dX5_countTold_30 : decode cX5_countTold 30 = .ok (.if_icmp .eq 6, 3) := by decide +kernel
theorem dX5_countTold_33 : decode cX5_countTold 33 = .ok (.iinc 2 1, 3) := by decide +kernel
theorem dX5_countTold_36 : decode cX5_countTold 36 = .ok (.iinc 4 1, 3) := by decide +kernel
theorem dX5_countTold_39 : decode cX5_countTold 39 = .ok (.goto (-24), 3) := by decide +kernel
theorem dX5_countTold_42 : decode cX5_countTold 42 = .ok (.iinc 3 1, 3) := by decide +kernel
theorem dX5_countTold_45 : decode cX5_countTold 45 = .ok (.goto (-41), 3) := by decide +kernel
theorem dX5_countTold_48 : decode cX5_countTold 48 = .ok (.iload_n 2, 1) := by decide +kernel
theorem dX5_countTold_49 : decode cX5_countTold 49 = .ok (.ireturn, 1) := by decide +kernel
theorem dX5_countWrong_0 : decode cX5_countWrong 0 = .ok (.iconst 0, 1) := by decide +kernel
theorem dX5_countWrong_1 : decode cX5_countWrong 1 = .ok (.istore_n 2, 1) := by decide +kernel
theorem dX5_countWrong_2 : decode cX5_countWrong 2 = .ok (.iconst 0, 1) := by decide +kernel
theorem dX5_countWrong_3 : decode cX5_countWrong 3 = .ok (.istore_n 3, 1) := by decide +kernel
theorem dX5_countWrong_4 : decode cX5_countWrong 4 = .ok (.iload_n 3, 1) := by decide +kernel
theorem dX5_countWrong_5 : decode cX5_countWrong 5 = .ok (.aload_n 0, 1) := by decide +kernel
theorem dX5_countWrong_6 : decode cX5_countWrong 6 = .ok (.getfield 70, 3) := by decide +kernel
theorem dX5_countWrong_9 : decode cX5_countWrong 9 = .ok (.if_icmp .ge 68, 3) := by decide +kernel
theorem dX5_countWrong_12 : decode cX5_countWrong 12 = .ok (.iconst 0, 1) := by decide +kernel
theorem dX5_countWrong_13 : decode cX5_countWrong 13 = .ok (.istore 4, 2) := by decide +kernel
theorem dX5_countWrong_15 : decode cX5_countWrong 15 = .ok (.iload 4, 2) := by decide +kernel
theorem dX5_countWrong_17 : decode cX5_countWrong 17 = .ok (.iconst 4, 1) := by decide +kernel
theorem dX5_countWrong_18 : decode cX5_countWrong 18 = .ok (.if_icmp .ge 53, 3) := by decide +kernel
theorem dX5_countWrong_21 : decode cX5_countWrong 21 = .ok (.aload_n 0, 1) := by decide +kernel
theorem dX5_countWrong_22 : decode cX5_countWrong 22 = .ok (.iload_n 1, 1) := by decide +kernel
theorem dX5_countWrong_23 : decode cX5_countWrong 23 = .ok (.iload_n 3, 1) := by decide +kernel
theorem dX5_countWrong_24 : decode cX5_countWrong 24 = .ok (.iload 4, 2) := by decide +kernel
theorem dX5_countWrong_26 : decode cX5_countWrong 26 = .ok (.invokevirtual 263, 3) := by decide +kernel
theorem dX5_countWrong_29 : decode cX5_countWrong 29 = .ok (.istore 5, 2) := by decide +kernel
theorem dX5_countWrong_31 : decode cX5_countWrong 31 = .ok (.aload_n 0, 1) := by decide +kernel
theorem dX5_countWrong_32 : decode cX5_countWrong 32 = .ok (.iload_n 3, 1) := by decide +kernel
theorem dX5_countWrong_33 : decode cX5_countWrong 33 = .ok (.iload 4, 2) := by decide +kernel
theorem dX5_countWrong_35 : decode cX5_countWrong 35 = .ok (.invokevirtual 98, 3) := by decide +kernel
theorem dX5_countWrong_38 : decode cX5_countWrong 38 = .ok (.getfield 175, 3) := by decide +kernel
theorem dX5_countWrong_41 : decode cX5_countWrong 41 = .ok (.istore 6, 2) := by decide +kernel
theorem dX5_countWrong_43 : decode cX5_countWrong 43 = .ok (.iload 5, 2) := by decide +kernel
theorem dX5_countWrong_45 : decode cX5_countWrong 45 = .ok (.iconst (-1), 1) := by decide +kernel
theorem dX5_countWrong_46 : decode cX5_countWrong 46 = .ok (.if_icmp .eq 19, 3) := by decide +kernel
theorem dX5_countWrong_49 : decode cX5_countWrong 49 = .ok (.iload 6, 2) := by decide +kernel
theorem dX5_countWrong_51 : decode cX5_countWrong 51 = .ok (.iconst (-1), 1) := by decide +kernel
theorem dX5_countWrong_52 : decode cX5_countWrong 52 = .ok (.if_icmp .eq 13, 3) := by decide +kernel
theorem dX5_countWrong_55 : decode cX5_countWrong 55 = .ok (.iload 5, 2) := by decide +kernel
theorem dX5_countWrong_57 : decode cX5_countWrong 57 = .ok (.iload 6, 2) := by decide +kernel
theorem dX5_countWrong_59 : decode cX5_countWrong 59 = .ok (.if_icmp .eq 6, 3) := by decide +kernel
theorem dX5_countWrong_62 : decode cX5_countWrong 62 = .ok (.iinc 2 1, 3) := by decide +kernel
theorem dX5_countWrong_65 : decode cX5_countWrong 65 = .ok (.iinc 4 1, 3) := by decide +kernel
theorem dX5_countWrong_68 : decode cX5_countWrong 68 = .ok (.goto (-53), 3) := by decide +kernel
theorem dX5_countWrong_71 : decode cX5_countWrong 71 = .ok (.iinc 3 1, 3) := by decide +kernel
theorem dX5_countWrong_74 : decode cX5_countWrong 74 = .ok (.goto (-70), 3) := by decide +kernel
theorem dX5_countWrong_77 : decode cX5_countWrong 77 = .ok (.iload_n 2, 1) := by decide +kernel
theorem dX5_countWrong_78 : decode cX5_countWrong 78 = .ok (.ireturn, 1) := by decide +kernel
theorem dX5_countWrongAnywhere_0 : decode cX5_countWrongAnywhere 0 = .ok (.iconst 0, 1) := by decide +kernel
theorem dX5_countWrongAnywhere_1 : decode cX5_countWrongAnywhere 1 = .ok (.istore_n 1, 1) := by decide +kernel
theorem dX5_countWrongAnywhere_2 : decode cX5_countWrongAnywhere 2 = .ok (.iconst 0, 1) := by decide +kernel
theorem dX5_countWrongAnywhere_3 : decode cX5_countWrongAnywhere 3 = .ok (.istore_n 2, 1) := by decide +kernel
theorem dX5_countWrongAnywhere_4 : decode cX5_countWrongAnywhere 4 = .ok (.iload_n 2, 1) := by decide +kernel
theorem dX5_countWrongAnywhere_5 : decode cX5_countWrongAnywhere 5 = .ok (.aload_n 0, 1) := by decide +kernel
theorem dX5_countWrongAnywhere_6 : decode cX5_countWrongAnywhere 6 = .ok (.getfield 80, 3) := by decide +kernel
theorem dX5_countWrongAnywhere_9 : decode cX5_countWrongAnywhere 9 = .ok (.if_icmp .ge 17, 3) := by decide +kernel
theorem dX5_countWrongAnywhere_12 : decode cX5_countWrongAnywhere 12 = .ok (.iload_n 1, 1) := by decide +kernel
theorem dX5_countWrongAnywhere_13 : decode cX5_countWrongAnywhere 13 = .ok (.aload_n 0, 1) := by decide +kernel
theorem dX5_countWrongAnywhere_14 : decode cX5_countWrongAnywhere 14 = .ok (.iload_n 2, 1) := by decide +kernel
theorem dX5_countWrongAnywhere_15 : decode cX5_countWrongAnywhere 15 = .ok (.invokevirtual 279, 3) := by decide +kernel
theorem dX5_countWrongAnywhere_18 : decode cX5_countWrongAnywhere 18 = .ok (.iadd, 1) := by decide +kernel
theorem dX5_countWrongAnywhere_19 : decode cX5_countWrongAnywhere 19 = .ok (.istore_n 1, 1) := by decide +kernel
theorem dX5_countWrongAnywhere_20 : decode cX5_countWrongAnywhere 20 = .ok (.iinc 2 1, 3) := by decide +kernel
theorem dX5_countWrongAnywhere_23 : decode cX5_countWrongAnywhere 23 = .ok (.goto (-19), 3) := by decide +kernel
theorem dX5_countWrongAnywhere_26 : decode cX5_countWrongAnywhere 26 = .ok (.iload_n 1, 1) := by decide +kernel
theorem dX5_countWrongAnywhere_27 : decode cX5_countWrongAnywhere 27 = .ok (.ireturn, 1) := by decide +kernel
theorem dX6_init_0 : decode cX6_init 0 = .ok (.aload_n 0, 1) := by decide +kernel
theorem dX6_init_1 : decode cX6_init 1 = .ok (.invokespecial 3, 3) := by decide +kernel
theorem dX6_init_4 : decode cX6_init 4 = .ok (.aload_n 0, 1) := by decide +kernel
theorem dX6_init_5 : decode cX6_init 5 = .ok (.bipush 10, 2) := by decide +kernel
theorem dX6_init_7 : decode cX6_init 7 = .ok (.newarray .int, 2) := by decide +kernel
theorem dX6_init_9 : decode cX6_init 9 = .ok (.putfield 9, 3) := by decide +kernel
theorem dX6_init_12 : decode cX6_init 12 = .ok (.aload_n 0, 1) := by decide +kernel
theorem dX6_init_13 : decode cX6_init 13 = .ok (.iconst (-1), 1) := by decide +kernel
theorem dX6_init_14 : decode cX6_init 14 = .ok (.putfield 15, 3) := by decide +kernel
theorem dX6_init_17 : decode cX6_init 17 = .ok (.iconst 0, 1) := by decide +kernel
theorem dX6_init_18 : decode cX6_init 18 = .ok (.istore_n 1, 1) := by decide +kernel
theorem dX6_init_19 : decode cX6_init 19 = .ok (.iload_n 1, 1) := by decide +kernel
theorem dX6_init_20 : decode cX6_init 20 = .ok (.bipush 10, 2) := by decide +kernel
theorem dX6_init_22 : decode cX6_init 22 = .ok (.if_icmp .ge 16, 3) := by decide +kernel
theorem dX6_init_25 : decode cX6_init 25 = .ok (.aload_n 0, 1) := by decide +kernel
theorem dX6_init_26 : decode cX6_init 26 = .ok (.getfield 9, 3) := by decide +kernel
theorem dX6_init_29 : decode cX6_init 29 = .ok (.iload_n 1, 1) := by decide +kernel
theorem dX6_init_30 : decode cX6_init 30 = .ok (.iconst (-1), 1) := by decide +kernel
theorem dX6_init_31 : decode cX6_init 31 = .ok (.iastore, 1) := by decide +kernel
theorem dX6_init_32 : decode cX6_init 32 = .ok (.iinc 1 1, 3) := by decide +kernel
theorem dX6_init_35 : decode cX6_init 35 = .ok (.goto (-16), 3) := by decide +kernel
theorem dX6_init_38 : decode cX6_init 38 = .ok (.return_, 1) := by decide +kernel
theorem dX7_init_0 : decode cX7_init 0 = .ok (.aload_n 0, 1) := by decide +kernel
theorem dX7_init_1 : decode cX7_init 1 = .ok (.invokespecial 3, 3) := by decide +kernel
theorem dX7_init_4 : decode cX7_init 4 = .ok (.aload_n 0, 1) := by decide +kernel
theorem dX7_init_5 : decode cX7_init 5 = .ok (.bipush 61, 2) := by decide +kernel
theorem dX7_init_7 : decode cX7_init 7 = .ok (.newarray .boolean, 2) := by decide +kernel
theorem dX7_init_9 : decode cX7_init 9 = .ok (.putfield 9, 3) := by decide +kernel
theorem dX7_init_12 : decode cX7_init 12 = .ok (.aload_n 0, 1) := by decide +kernel
theorem dX7_init_13 : decode cX7_init 13 = .ok (.bipush 61, 2) := by decide +kernel
theorem dX7_init_15 : decode cX7_init 15 = .ok (.newarray .int, 2) := by decide +kernel
theorem dX7_init_17 : decode cX7_init 17 = .ok (.putfield 15, 3) := by decide +kernel
theorem dX7_init_20 : decode cX7_init 20 = .ok (.aload_n 0, 1) := by decide +kernel
theorem dX7_init_21 : decode cX7_init 21 = .ok (.bipush 61, 2) := by decide +kernel
theorem dX7_init_23 : decode cX7_init 23 = .ok (.newarray .int, 2) := by decide +kernel
theorem dX7_init_25 : decode cX7_init 25 = .ok (.putfield 19, 3) := by decide +kernel
theorem dX7_init_28 : decode cX7_init 28 = .ok (.aload_n 0, 1) := by decide +kernel
theorem dX7_init_29 : decode cX7_init 29 = .ok (.iload_n 1, 1) := by decide +kernel
theorem dX7_init_30 : decode cX7_init 30 = .ok (.putfield 22, 3) := by decide +kernel
theorem dX7_init_33 : decode cX7_init 33 = .ok (.aload_n 0, 1) := by decide +kernel
theorem dX7_init_34 : decode cX7_init 34 = .ok (.iload_n 2, 1) := by decide +kernel
theorem dX7_init_35 : decode cX7_init 35 = .ok (.putfield 26, 3) := by decide +kernel
theorem dX7_init_38 : decode cX7_init 38 = .ok (.iconst 0, 1) := by decide +kernel
theorem dX7_init_39 : decode cX7_init 39 = .ok (.istore_n 3, 1) := by decide +kernel
theorem dX7_init_40 : decode cX7_init 40 = .ok (.iload_n 3, 1) := by decide +kernel
theorem dX7_init_41 : decode cX7_init 41 = .ok (.bipush 60, 2) := by decide +kernel
theorem dX7_init_43 : decode cX7_init 43 = .ok (.if_icmp .gt 16, 3) := by decide +kernel
theorem dX7_init_46 : decode cX7_init 46 = .ok (.aload_n 0, 1) := by decide +kernel
theorem dX7_init_47 : decode cX7_init 47 = .ok (.getfield 19, 3) := by decide +kernel
theorem dX7_init_50 : decode cX7_init 50 = .ok (.iload_n 3, 1) := by decide +kernel
theorem dX7_init_51 : decode cX7_init 51 = .ok (.iconst (-1), 1) := by decide +kernel
theorem dX7_init_52 : decode cX7_init 52 = .ok (.iastore, 1) := by decide +kernel
theorem dX7_init_53 : decode cX7_init 53 = .ok (.iinc 3 1, 3) := by decide +kernel
theorem dX7_init_56 : decode cX7_init 56 = .ok (.goto (-16), 3) := by decide +kernel
theorem dX7_init_59 : decode cX7_init 59 = .ok (.return_, 1) := by decide +kernel
theorem dX7_copy_0 : decode cX7_copy 0 = .ok (.new 10, 3) := by decide +kernel
theorem dX7_copy_3 : decode cX7_copy 3 = .ok (.dup, 1) := by decide +kernel
theorem dX7_copy_4 : decode cX7_copy 4 = .ok (.aload_n 0, 1) := by decide +kernel
theorem dX7_copy_5 : decode cX7_copy 5 = .ok (.getfield 22, 3) := by decide +kernel
theorem dX7_copy_8 : decode cX7_copy 8 = .ok (.aload_n 0, 1) := by decide +kernel
theorem dX7_copy_9 : decode cX7_copy 9 = .ok (.getfield 26, 3) := by decide +kernel
theorem dX7_copy_12 : decode cX7_copy 12 = .ok (.invokespecial 29, 3) := by decide +kernel
theorem dX7_copy_15 : decode cX7_copy 15 = .ok (.astore_n 1, 1) := by decide +kernel
theorem dX7_copy_16 : decode cX7_copy 16 = .ok (.aload_n 1, 1) := by decide +kernel
theorem dX7_copy_17 : decode cX7_copy 17 = .ok (.aload_n 0, 1) := by decide +kernel
theorem dX7_copy_18 : decode cX7_copy 18 = .ok (.getfield 32, 3) := by decide +kernel
theorem dX7_copy_21 : decode cX7_copy 21 = .ok (.putfield 32, 3) := by decide +kernel
theorem dX7_copy_24 : decode cX7_copy 24 = .ok (.aload_n 0, 1) := by decide +kernel
theorem dX7_copy_25 : decode cX7_copy 25 = .ok (.getfield 9, 3) := by decide +kernel
theorem dX7_copy_28 : decode cX7_copy 28 = .ok (.iconst 0, 1) := by decide +kernel
theorem dX7_copy_29 : decode cX7_copy 29 = .ok (.aload_n 1, 1) := by decide +kernel
theorem dX7_copy_30 : decode cX7_copy 30 = .ok (.getfield 9, 3) := by decide +kernel
theorem dX7_copy_33 : decode cX7_copy 33 = .ok (.iconst 0, 1) := by decide +kernel
theorem dX7_copy_34 : decode cX7_copy 34 = .ok (.aload_n 0, 1) := by decide +kernel
theorem dX7_copy_35 : decode cX7_copy 35 = .ok (.getfield 9, 3) := by decide +kernel
theorem dX7_copy_38 : decode cX7_copy 38 = .ok (.arraylength, 1) := by decide +kernel
theorem dX7_copy_39 : decode cX7_copy 39 = .ok (.invokestatic 35, 3) := by decide +kernel
theorem dX7_copy_42 : decode cX7_copy 42 = .ok (.aload_n 0, 1) := by decide +kernel
theorem dX7_copy_43 : decode cX7_copy 43 = .ok (.getfield 15, 3) := by decide +kernel
theorem dX7_copy_46 : decode cX7_copy 46 = .ok (.iconst 0, 1) := by decide +kernel
theorem dX7_copy_47 : decode cX7_copy 47 = .ok (.aload_n 1, 1) := by decide +kernel
theorem dX7_copy_48 : decode cX7_copy 48 = .ok (.getfield 15, 3) := by decide +kernel
theorem dX7_copy_51 : decode cX7_copy 51 = .ok (.iconst 0, 1) := by decide +kernel
theorem dX7_copy_52 : decode cX7_copy 52 = .ok (.aload_n 0, 1) := by decide +kernel
theorem dX7_copy_53 : decode cX7_copy 53 = .ok (.getfield 15, 3) := by decide +kernel
theorem dX7_copy_56 : decode cX7_copy 56 = .ok (.arraylength, 1) := by decide +kernel
theorem dX7_copy_57 : decode cX7_copy 57 = .ok (.invokestatic 35, 3) := by decide +kernel
theorem dX7_copy_60 : decode cX7_copy 60 = .ok (.aload_n 0, 1) := by decide +kernel
theorem dX7_copy_61 : decode cX7_copy 61 = .ok (.getfield 19, 3) := by decide +kernel
theorem dX7_copy_64 : decode cX7_copy 64 = .ok (.iconst 0, 1) := by decide +kernel
theorem dX7_copy_65 : decode cX7_copy 65 = .ok (.aload_n 1, 1) := by decide +kernel
theorem dX7_copy_66 : decode cX7_copy 66 = .ok (.getfield 19, 3) := by decide +kernel
theorem dX7_copy_69 : decode cX7_copy 69 = .ok (.iconst 0, 1) := by decide +kernel
theorem dX7_copy_70 : decode cX7_copy 70 = .ok (.aload_n 0, 1) := by decide +kernel
theorem dX7_copy_71 : decode cX7_copy 71 = .ok (.getfield 19, 3) := by decide +kernel
theorem dX7_copy_74 : decode cX7_copy 74 = .ok (.arraylength, 1) := by decide +kernel
theorem dX7_copy_75 : decode cX7_copy 75 = .ok (.invokestatic 35, 3) := by decide +kernel
theorem dX7_copy_78 : decode cX7_copy 78 = .ok (.aload_n 1, 1) := by decide +kernel
theorem dX7_copy_79 : decode cX7_copy 79 = .ok (.areturn, 1) := by decide +kernel
theorem dX7_run_0 : decode cX7_run 0 = .ok (.aload_n 0, 1) := by decide +kernel
theorem dX7_run_1 : decode cX7_run 1 = .ok (.getfield 9, 3) := by decide +kernel
theorem dX7_run_4 : decode cX7_run 4 = .ok (.iload_n 1, 1) := by decide +kernel
theorem dX7_run_5 : decode cX7_run 5 = .ok (.iconst 1, 1) := by decide +kernel
theorem dX7_run_6 : decode cX7_run 6 = .ok (.bastore, 1) := by decide +kernel
theorem dX7_run_7 : decode cX7_run 7 = .ok (.aload_n 0, 1) := by decide +kernel
theorem dX7_run_8 : decode cX7_run 8 = .ok (.getfield 15, 3) := by decide +kernel
theorem dX7_run_11 : decode cX7_run 11 = .ok (.iload_n 1, 1) := by decide +kernel
theorem dX7_run_12 : decode cX7_run 12 = .ok (.iload_n 2, 1) := by decide +kernel
theorem dX7_run_13 : decode cX7_run 13 = .ok (.iastore, 1) := by decide +kernel
theorem dX7_run_14 : decode cX7_run 14 = .ok (.return_, 1) := by decide +kernel
theorem dX7_isWaiting_0 : decode cX7_isWaiting 0 = .ok (.aload_n 0, 1) := by decide +kernel
theorem dX7_isWaiting_1 : decode cX7_isWaiting 1 = .ok (.getfield 9, 3) := by decide +kernel
theorem dX7_isWaiting_4 : decode cX7_isWaiting 4 = .ok (.iload_n 1, 1) := by decide +kernel
theorem dX7_isWaiting_5 : decode cX7_isWaiting 5 = .ok (.baload, 1) := by decide +kernel
theorem dX7_isWaiting_6 : decode cX7_isWaiting 6 = .ok (.ifCond .eq 17, 3) := by decide +kernel
theorem dX7_isWaiting_9 : decode cX7_isWaiting 9 = .ok (.aload_n 0, 1) := by decide +kernel
theorem dX7_isWaiting_10 : decode cX7_isWaiting 10 = .ok (.getfield 19, 3) := by decide +kernel
theorem dX7_isWaiting_13 : decode cX7_isWaiting 13 = .ok (.iload_n 1, 1) := by decide +kernel
theorem dX7_isWaiting_14 : decode cX7_isWaiting 14 = .ok (.iaload, 1) := by decide +kernel
theorem dX7_isWaiting_15 : decode cX7_isWaiting 15 = .ok (.iconst (-1), 1) := by decide +kernel
theorem dX7_isWaiting_16 : decode cX7_isWaiting 16 = .ok (.if_icmp .ne 7, 3) := by decide +kernel
theorem dX7_isWaiting_19 : decode cX7_isWaiting 19 = .ok (.iconst 1, 1) := by decide +kernel
theorem dX7_isWaiting_20 : decode cX7_isWaiting 20 = .ok (.goto 4, 3) := by decide +kernel
theorem dX7_isWaiting_23 : decode cX7_isWaiting 23 = .ok (.iconst 0, 1) := by decide +kernel
theorem dX7_isWaiting_24 : decode cX7_isWaiting 24 = .ok (.ireturn, 1) := by decide +kernel
theorem dX7_next_0 : decode cX7_next 0 = .ok (.iconst (-1), 1) := by decide +kernel
theorem dX7_next_1 : decode cX7_next 1 = .ok (.istore_n 3, 1) := by decide +kernel
theorem dX7_next_2 : decode cX7_next 2 = .ok (.iconst 0, 1) := by decide +kernel
theorem dX7_next_3 : decode cX7_next 3 = .ok (.istore 4, 2) := by decide +kernel
theorem dX7_next_5 : decode cX7_next 5 = .ok (.iload 4, 2) := by decide +kernel
theorem dX7_next_7 : decode cX7_next 7 = .ok (.aload_n 1, 1) := by decide +kernel
theorem dX7_next_8 : decode cX7_next 8 = .ok (.invokevirtual 41, 3) := by decide +kernel
theorem dX7_next_11 : decode cX7_next 11 = .ok (.if_icmp .ge 68, 3) := by decide +kernel
theorem dX7_next_14 : decode cX7_next 14 = .ok (.aload_n 0, 1) := by decide +kernel
theorem dX7_next_15 : decode cX7_next 15 = .ok (.iload 4, 2) := by decide +kernel
theorem dX7_next_17 : decode cX7_next 17 = .ok (.invokevirtual 47, 3) := by decide +kernel
theorem dX7_next_20 : decode cX7_next 20 = .ok (.ifCond .eq 53, 3) := by decide +kernel
theorem dX7_next_23 : decode cX7_next 23 = .ok (.aload_n 1, 1) := by decide +kernel
theorem dX7_next_24 : decode cX7_next 24 = .ok (.iload 4, 2) := by decide +kernel
theorem dX7_next_26 : decode cX7_next 26 = .ok (.invokevirtual 51, 3) := by decide +kernel
theorem dX7_next_29 : decode cX7_next 29 = .ok (.checkcast 55, 3) := by decide +kernel
theorem dX7_next_32 : decode cX7_next 32 = .ok (.getfield 57, 3) := by decide +kernel
theorem dX7_next_35 : decode cX7_next 35 = .ok (.iload_n 2, 1) := by decide +kernel
theorem dX7_next_36 : decode cX7_next 36 = .ok (.if_icmp .gt 37, 3) := by decide +kernel
theorem dX7_next_39 : decode cX7_next 39 = .ok (.iload_n 3, 1) := by decide +kernel
theorem dX7_next_40 : decode cX7_next 40 = .ok (.iconst (-1), 1) := by decide +kernel
theorem dX7_next_41 : decode cX7_next 41 = .ok (.if_icmp .eq 29, 3) := by decide +kernel
theorem dX7_next_44 : decode cX7_next 44 = .ok (.aload_n 1, 1) := by decide +kernel
theorem dX7_next_45 : decode cX7_next 45 = .ok (.iload 4, 2) := by decide +kernel
theorem dX7_next_47 : decode cX7_next 47 = .ok (.invokevirtual 51, 3) := by decide +kernel
theorem dX7_next_50 : decode cX7_next 50 = .ok (.checkcast 55, 3) := by decide +kernel
theorem dX7_next_53 : decode cX7_next 53 = .ok (.getfield 60, 3) := by decide +kernel
theorem dX7_next_56 : decode cX7_next 56 = .ok (.aload_n 1, 1) := by decide +kernel
theorem dX7_next_57 : decode cX7_next 57 = .ok (.iload_n 3, 1) := by decide +kernel
theorem dX7_next_58 : decode cX7_next 58 = .ok (.invokevirtual 51, 3) := by decide +kernel
theorem dX7_next_61 : decode cX7_next 61 = .ok (.checkcast 55, 3) := by decide +kernel
theorem dX7_next_64 : decode cX7_next 64 = .ok (.getfield 60, 3) := by decide +kernel
theorem dX7_next_67 : decode cX7_next 67 = .ok (.if_icmp .ge 6, 3) := by decide +kernel
theorem dX7_next_70 : decode cX7_next 70 = .ok (.iload 4, 2) := by decide +kernel
theorem dX7_next_72 : decode cX7_next 72 = .ok (.istore_n 3, 1) := by decide +kernel
theorem dX7_next_73 : decode cX7_next 73 = .ok (.iinc 4 1, 3) := by decide +kernel
theorem dX7_next_76 : decode cX7_next 76 = .ok (.goto (-71), 3) := by decide +kernel
theorem dX7_next_79 : decode cX7_next 79 = .ok (.iload_n 3, 1) := by decide +kernel
theorem dX7_next_80 : decode cX7_next 80 = .ok (.ireturn, 1) := by decide +kernel
theorem dX7_minute_0 : decode cX7_minute 0 = .ok (.aload_n 0, 1) := by decide +kernel
theorem dX7_minute_1 : decode cX7_minute 1 = .ok (.getfield 32, 3) := by decide +kernel
theorem dX7_minute_4 : decode cX7_minute 4 = .ok (.ifCond .le 15, 3) := by decide +kernel
theorem dX7_minute_7 : decode cX7_minute 7 = .ok (.aload_n 0, 1) := by decide +kernel
theorem dX7_minute_8 : decode cX7_minute 8 = .ok (.dup, 1) := by decide +kernel
theorem dX7_minute_9 : decode cX7_minute 9 = .ok (.getfield 32, 3) := by decide +kernel
theorem dX7_minute_12 : decode cX7_minute 12 = .ok (.iconst 1, 1) := by decide +kernel
theorem dX7_minute_13 : decode cX7_minute 13 = .ok (.isub, 1) := by decide +kernel
theorem dX7_minute_14 : decode cX7_minute 14 = .ok (.putfield 32, 3) := by decide +kernel
theorem dX7_minute_17 : decode cX7_minute 17 = .ok (.iconst 0, 1) := by decide +kernel
theorem dX7_minute_18 : decode cX7_minute 18 = .ok (.ireturn, 1) := by decide +kernel
theorem dX7_minute_19 : decode cX7_minute 19 = .ok (.iconst 0, 1) := by decide +kernel
theorem dX7_minute_20 : decode cX7_minute 20 = .ok (.istore_n 3, 1) := by decide +kernel
theorem dX7_minute_21 : decode cX7_minute 21 = .ok (.aload_n 0, 1) := by decide +kernel
theorem dX7_minute_22 : decode cX7_minute 22 = .ok (.getfield 22, 3) := by decide +kernel
theorem dX7_minute_25 : decode cX7_minute 25 = .ok (.istore 4, 2) := by decide +kernel
theorem dX7_minute_27 : decode cX7_minute 27 = .ok (.iload 4, 2) := by decide +kernel
theorem dX7_minute_29 : decode cX7_minute 29 = .ok (.ifCond .le 90, 3) := by decide +kernel
theorem dX7_minute_32 : decode cX7_minute 32 = .ok (.aload_n 0, 1) := by decide +kernel
theorem dX7_minute_33 : decode cX7_minute 33 = .ok (.aload_n 1, 1) := by decide +kernel
theorem dX7_minute_34 : decode cX7_minute 34 = .ok (.iload_n 2, 1) := by decide +kernel
theorem dX7_minute_35 : decode cX7_minute 35 = .ok (.invokevirtual 63, 3) := by decide +kernel
theorem dX7_minute_38 : decode cX7_minute 38 = .ok (.istore 5, 2) := by decide +kernel
theorem dX7_minute_40 : decode cX7_minute 40 = .ok (.iload 5, 2) := by decide +kernel
theorem dX7_minute_42 : decode cX7_minute 42 = .ok (.iconst (-1), 1) := by decide +kernel
theorem dX7_minute_43 : decode cX7_minute 43 = .ok (.if_icmp .ne 5, 3) := by decide +kernel
theorem dX7_minute_46 : decode cX7_minute 46 = .ok (.iload_n 3, 1) := by decide +kernel
theorem dX7_minute_47 : decode cX7_minute 47 = .ok (.ireturn, 1) := by decide +kernel
theorem dX7_minute_48 : decode cX7_minute 48 = .ok (.iload 4, 2) := by decide +kernel
theorem dX7_minute_50 : decode cX7_minute 50 = .ok (.aload_n 0, 1) := by decide +kernel
theorem dX7_minute_51 : decode cX7_minute 51 = .ok (.getfield 15, 3) := by decide +kernel
theorem dX7_minute_54 : decode cX7_minute 54 = .ok (.iload 5, 2) := by decide +kernel
theorem dX7_minute_56 : decode cX7_minute 56 = .ok (.iaload, 1) := by decide +kernel
theorem dX7_minute_57 : decode cX7_minute 57 = .ok (.invokestatic 67, 3) := by decide +kernel
theorem dX7_minute_60 : decode cX7_minute 60 = .ok (.istore 6, 2) := by decide +kernel
theorem dX7_minute_62 : decode cX7_minute 62 = .ok (.iload 4, 2) := by decide +kernel
theorem dX7_minute_64 : decode cX7_minute 64 = .ok (.iload 6, 2) := by decide +kernel
theorem dX7_minute_66 : decode cX7_minute 66 = .ok (.isub, 1) := by decide +kernel
theorem dX7_minute_67 : decode cX7_minute 67 = .ok (.istore 4, 2) := by decide +kernel
theorem dX7_minute_69 : decode cX7_minute 69 = .ok (.aload_n 0, 1) := by decide +kernel
theorem dX7_minute_70 : decode cX7_minute 70 = .ok (.getfield 15, 3) := by decide +kernel
theorem dX7_minute_73 : decode cX7_minute 73 = .ok (.iload 5, 2) := by decide +kernel
theorem dX7_minute_75 : decode cX7_minute 75 = .ok (.dup2, 1) := by decide +kernel
theorem dX7_minute_76 : decode cX7_minute 76 = .ok (.iaload, 1) := by decide +kernel
theorem dX7_minute_77 : decode cX7_minute 77 = .ok (.iload 6, 2) := by decide +kernel
theorem dX7_minute_79 : decode cX7_minute 79 = .ok (.isub, 1) := by decide +kernel
theorem dX7_minute_80 : decode cX7_minute 80 = .ok (.iastore, 1) := by decide +kernel
theorem dX7_minute_81 : decode cX7_minute 81 = .ok (.aload_n 0, 1) := by decide +kernel
theorem dX7_minute_82 : decode cX7_minute 82 = .ok (.dup, 1) := by decide +kernel
theorem dX7_minute_83 : decode cX7_minute 83 = .ok (.getfield 73, 3) := by decide +kernel
theorem dX7_minute_86 : decode cX7_minute 86 = .ok (.iload 6, 2) := by decide +kernel
theorem dX7_minute_88 : decode cX7_minute 88 = .ok (.iadd, 1) := by decide +kernel
theorem dX7_minute_89 : decode cX7_minute 89 = .ok (.putfield 73, 3) := by decide +kernel
theorem dX7_minute_92 : decode cX7_minute 92 = .ok (.aload_n 0, 1) := by decide +kernel
theorem dX7_minute_93 : decode cX7_minute 93 = .ok (.getfield 15, 3) := by decide +kernel
theorem dX7_minute_96 : decode cX7_minute 96 = .ok (.iload 5, 2) := by decide +kernel
theorem dX7_minute_98 : decode cX7_minute 98 = .ok (.iaload, 1) := by decide +kernel
theorem dX7_minute_99 : decode cX7_minute 99 = .ok (.ifCond .le 6, 3) := by decide +kernel
theorem dX7_minute_102 : decode cX7_minute 102 = .ok (.goto (-75), 3) := by decide +kernel
theorem dX7_minute_105 : decode cX7_minute 105 = .ok (.aload_n 0, 1) := by decide +kernel
theorem dX7_minute_106 : decode cX7_minute 106 = .ok (.getfield 19, 3) := by decide +kernel
theorem dX7_minute_109 : decode cX7_minute 109 = .ok (.iload 5, 2) := by decide +kernel
theorem dX7_minute_111 : decode cX7_minute 111 = .ok (.iload_n 2, 1) := by decide +kernel
theorem dX7_minute_112 : decode cX7_minute 112 = .ok (.iastore, 1) := by decide +kernel
theorem dX7_minute_113 : decode cX7_minute 113 = .ok (.iinc 3 1, 3) := by decide +kernel
theorem dX7_minute_116 : decode cX7_minute 116 = .ok (.goto (-89), 3) := by decide +kernel
theorem dX7_minute_119 : decode cX7_minute 119 = .ok (.iload_n 3, 1) := by decide +kernel
theorem dX7_minute_120 : decode cX7_minute 120 = .ok (.ireturn, 1) := by decide +kernel
theorem dX7_hasIt_0 : decode cX7_hasIt 0 = .ok (.aload_n 0, 1) := by decide +kernel
theorem dX7_hasIt_1 : decode cX7_hasIt 1 = .ok (.getfield 19, 3) := by decide +kernel
theorem dX7_hasIt_4 : decode cX7_hasIt 4 = .ok (.iload_n 1, 1) := by decide +kernel
theorem dX7_hasIt_5 : decode cX7_hasIt 5 = .ok (.iaload, 1) := by decide +kernel
theorem dX7_hasIt_6 : decode cX7_hasIt 6 = .ok (.iconst (-1), 1) := by decide +kernel
theorem dX7_hasIt_7 : decode cX7_hasIt 7 = .ok (.if_icmp .eq 22, 3) := by decide +kernel
theorem dX7_hasIt_10 : decode cX7_hasIt 10 = .ok (.aload_n 0, 1) := by decide +kernel
theorem dX7_hasIt_11 : decode cX7_hasIt 11 = .ok (.getfield 19, 3) := by decide +kernel
theorem dX7_hasIt_14 : decode cX7_hasIt 14 = .ok (.iload_n 1, 1) := by decide +kernel
theorem dX7_hasIt_15 : decode cX7_hasIt 15 = .ok (.iaload, 1) := by decide +kernel
theorem dX7_hasIt_16 : decode cX7_hasIt 16 = .ok (.aload_n 0, 1) := by decide +kernel
theorem dX7_hasIt_17 : decode cX7_hasIt 17 = .ok (.getfield 26, 3) := by decide +kernel
theorem dX7_hasIt_20 : decode cX7_hasIt 20 = .ok (.iadd, 1) := by decide +kernel
theorem dX7_hasIt_21 : decode cX7_hasIt 21 = .ok (.iload_n 2, 1) := by decide +kernel
theorem dX7_hasIt_22 : decode cX7_hasIt 22 = .ok (.if_icmp .gt 7, 3) := by decide +kernel
theorem dX7_hasIt_25 : decode cX7_hasIt 25 = .ok (.iconst 1, 1) := by decide +kernel
theorem dX7_hasIt_26 : decode cX7_hasIt 26 = .ok (.goto 4, 3) := by decide +kernel
theorem dX7_hasIt_29 : decode cX7_hasIt 29 = .ok (.iconst 0, 1) := by decide +kernel
theorem dX7_hasIt_30 : decode cX7_hasIt 30 = .ok (.ireturn, 1) := by decide +kernel
theorem dX8_init_0 : decode cX8_init 0 = .ok (.aload_n 0, 1) := by decide +kernel
theorem dX8_init_1 : decode cX8_init 1 = .ok (.invokespecial 1, 3) := by decide +kernel
theorem dX8_init_4 : decode cX8_init 4 = .ok (.aload_n 0, 1) := by decide +kernel
theorem dX8_init_5 : decode cX8_init 5 = .ok (.iload_n 1, 1) := by decide +kernel
theorem dX8_init_6 : decode cX8_init 6 = .ok (.putfield 7, 3) := by decide +kernel
theorem dX8_init_9 : decode cX8_init 9 = .ok (.aload_n 0, 1) := by decide +kernel
theorem dX8_init_10 : decode cX8_init 10 = .ok (.iload_n 2, 1) := by decide +kernel
theorem dX8_init_11 : decode cX8_init 11 = .ok (.putfield 13, 3) := by decide +kernel
theorem dX8_init_14 : decode cX8_init 14 = .ok (.aload_n 0, 1) := by decide +kernel
theorem dX8_init_15 : decode cX8_init 15 = .ok (.iload_n 3, 1) := by decide +kernel
theorem dX8_init_16 : decode cX8_init 16 = .ok (.putfield 16, 3) := by decide +kernel
theorem dX8_init_19 : decode cX8_init 19 = .ok (.return_, 1) := by decide +kernel
theorem dX9_init_0 : decode cX9_init 0 = .ok (.aload_n 0, 1) := by decide +kernel
theorem dX9_init_1 : decode cX9_init 1 = .ok (.invokespecial 3, 3) := by decide +kernel
theorem dX9_init_4 : decode cX9_init 4 = .ok (.aload_n 0, 1) := by decide +kernel
theorem dX9_init_5 : decode cX9_init 5 = .ok (.iconst 4, 1) := by decide +kernel
theorem dX9_init_6 : decode cX9_init 6 = .ok (.newarray .int, 2) := by decide +kernel
theorem dX9_init_8 : decode cX9_init 8 = .ok (.putfield 9, 3) := by decide +kernel
theorem dX9_init_11 : decode cX9_init 11 = .ok (.aload_n 0, 1) := by decide +kernel
theorem dX9_init_12 : decode cX9_init 12 = .ok (.iload_n 1, 1) := by decide +kernel
theorem dX9_init_13 : decode cX9_init 13 = .ok (.putfield 15, 3) := by decide +kernel
theorem dX9_init_16 : decode cX9_init 16 = .ok (.aload_n 0, 1) := by decide +kernel
theorem dX9_init_17 : decode cX9_init 17 = .ok (.iload_n 2, 1) := by decide +kernel
theorem dX9_init_18 : decode cX9_init 18 = .ok (.putfield 19, 3) := by decide +kernel
theorem dX9_init_21 : decode cX9_init 21 = .ok (.aload_n 0, 1) := by decide +kernel
theorem dX9_init_22 : decode cX9_init 22 = .ok (.iload_n 3, 1) := by decide +kernel
theorem dX9_init_23 : decode cX9_init 23 = .ok (.putfield 22, 3) := by decide +kernel
theorem dX9_init_26 : decode cX9_init 26 = .ok (.aload_n 0, 1) := by decide +kernel
theorem dX9_init_27 : decode cX9_init 27 = .ok (.iload 4, 2) := by decide +kernel
theorem dX9_init_29 : decode cX9_init 29 = .ok (.putfield 25, 3) := by decide +kernel
theorem dX9_init_32 : decode cX9_init 32 = .ok (.aload_n 0, 1) := by decide +kernel
theorem dX9_init_33 : decode cX9_init 33 = .ok (.iload 5, 2) := by decide +kernel
theorem dX9_init_35 : decode cX9_init 35 = .ok (.putfield 29, 3) := by decide +kernel
theorem dX9_init_38 : decode cX9_init 38 = .ok (.aload_n 0, 1) := by decide +kernel
theorem dX9_init_39 : decode cX9_init 39 = .ok (.iload 6, 2) := by decide +kernel
theorem dX9_init_41 : decode cX9_init 41 = .ok (.putfield 32, 3) := by decide +kernel
theorem dX9_init_44 : decode cX9_init 44 = .ok (.aload_n 0, 1) := by decide +kernel
theorem dX9_init_45 : decode cX9_init 45 = .ok (.iload 7, 2) := by decide +kernel
theorem dX9_init_47 : decode cX9_init 47 = .ok (.putfield 35, 3) := by decide +kernel
theorem dX9_init_50 : decode cX9_init 50 = .ok (.aload_n 0, 1) := by decide +kernel
theorem dX9_init_51 : decode cX9_init 51 = .ok (.iload 8, 2) := by decide +kernel
theorem dX9_init_53 : decode cX9_init 53 = .ok (.putfield 38, 3) := by decide +kernel
theorem dX9_init_56 : decode cX9_init 56 = .ok (.return_, 1) := by decide +kernel
theorem dX10_isIn_0 : decode cX10_isIn 0 = .ok (.iload_n 0, 1) := by decide +kernel
theorem dX10_isIn_1 : decode cX10_isIn 1 = .ok (.iload_n 1, 1) := by decide +kernel
theorem dX10_isIn_2 : decode cX10_isIn 2 = .ok (.if_icmp .lt 12, 3) := by decide +kernel
theorem dX10_isIn_5 : decode cX10_isIn 5 = .ok (.iload_n 0, 1) := by decide +kernel
theorem dX10_isIn_6 : decode cX10_isIn 6 = .ok (.iload_n 2, 1) := by decide +kernel
theorem dX10_isIn_7 : decode cX10_isIn 7 = .ok (.if_icmp .gt 7, 3) := by decide +kernel
theorem dX10_isIn_10 : decode cX10_isIn 10 = .ok (.iconst 1, 1) := by decide +kernel
theorem dX10_isIn_11 : decode cX10_isIn 11 = .ok (.goto 4, 3) := by decide +kernel
theorem dX10_isIn_14 : decode cX10_isIn 14 = .ok (.iconst 0, 1) := by decide +kernel
theorem dX10_isIn_15 : decode cX10_isIn 15 = .ok (.ireturn, 1) := by decide +kernel
theorem dX10_has_0 : decode cX10_has 0 = .ok (.iload_n 0, 1) := by decide +kernel
theorem dX10_has_1 : decode cX10_has 1 = .ok (.iload_n 1, 1) := by decide +kernel
theorem dX10_has_2 : decode cX10_has 2 = .ok (.ishr, 1) := by decide +kernel
theorem dX10_has_3 : decode cX10_has 3 = .ok (.iconst 1, 1) := by decide +kernel
theorem dX10_has_4 : decode cX10_has 4 = .ok (.iand, 1) := by decide +kernel
theorem dX10_has_5 : decode cX10_has 5 = .ok (.iconst 1, 1) := by decide +kernel
theorem dX10_has_6 : decode cX10_has 6 = .ok (.if_icmp .ne 7, 3) := by decide +kernel
theorem dX10_has_9 : decode cX10_has 9 = .ok (.iconst 1, 1) := by decide +kernel
theorem dX10_has_10 : decode cX10_has 10 = .ok (.goto 4, 3) := by decide +kernel
theorem dX10_has_13 : decode cX10_has 13 = .ok (.iconst 0, 1) := by decide +kernel
theorem dX10_has_14 : decode cX10_has 14 = .ok (.ireturn, 1) := by decide +kernel
theorem dX10_init_0 : decode cX10_init 0 = .ok (.aload_n 0, 1) := by decide +kernel
theorem dX10_init_1 : decode cX10_init 1 = .ok (.invokespecial 1, 3) := by decide +kernel
theorem dX10_init_4 : decode cX10_init 4 = .ok (.aload_n 0, 1) := by decide +kernel
theorem dX10_init_5 : decode cX10_init 5 = .ok (.new 7, 3) := by decide +kernel
theorem dX10_init_8 : decode cX10_init 8 = .ok (.dup, 1) := by decide +kernel
theorem dX10_init_9 : decode cX10_init 9 = .ok (.invokespecial 9, 3) := by decide +kernel
theorem dX10_init_12 : decode cX10_init 12 = .ok (.putfield 10, 3) := by decide +kernel
theorem dX10_init_15 : decode cX10_init 15 = .ok (.aload_n 0, 1) := by decide +kernel
theorem dX10_init_16 : decode cX10_init 16 = .ok (.new 7, 3) := by decide +kernel
theorem dX10_init_19 : decode cX10_init 19 = .ok (.dup, 1) := by decide +kernel
theorem dX10_init_20 : decode cX10_init 20 = .ok (.invokespecial 9, 3) := by decide +kernel
theorem dX10_init_23 : decode cX10_init 23 = .ok (.putfield 16, 3) := by decide +kernel
theorem dX10_init_26 : decode cX10_init 26 = .ok (.aload_n 0, 1) := by decide +kernel
theorem dX10_init_27 : decode cX10_init 27 = .ok (.new 7, 3) := by decide +kernel
theorem dX10_init_30 : decode cX10_init 30 = .ok (.dup, 1) := by decide +kernel
theorem dX10_init_31 : decode cX10_init 31 = .ok (.invokespecial 9, 3) := by decide +kernel
theorem dX10_init_34 : decode cX10_init 34 = .ok (.putfield 19, 3) := by decide +kernel
theorem dX10_init_37 : decode cX10_init 37 = .ok (.aload_n 0, 1) := by decide +kernel
theorem dX10_init_38 : decode cX10_init 38 = .ok (.new 7, 3) := by decide +kernel
theorem dX10_init_41 : decode cX10_init 41 = .ok (.dup, 1) := by decide +kernel
theorem dX10_init_42 : decode cX10_init 42 = .ok (.invokespecial 9, 3) := by decide +kernel
theorem dX10_init_45 : decode cX10_init 45 = .ok (.putfield 22, 3) := by decide +kernel
theorem dX10_init_48 : decode cX10_init 48 = .ok (.return_, 1) := by decide +kernel
theorem dX10_thrown_0 : decode cX10_thrown 0 = .ok (.aload_n 0, 1) := by decide +kernel
theorem dX10_thrown_1 : decode cX10_thrown 1 = .ok (.getfield 25, 3) := by decide +kernel
theorem dX10_thrown_4 : decode cX10_thrown 4 = .ok (.ireturn, 1) := by decide +kernel
theorem dX10_refuse_0 : decode cX10_refuse 0 = .ok (.iload_n 1, 1) := by decide +kernel
theorem dX10_refuse_1 : decode cX10_refuse 1 = .ok (.ifCond .eq 15, 3) := by decide +kernel
theorem dX10_refuse_4 : decode cX10_refuse 4 = .ok (.aload_n 0, 1) := by decide +kernel
theorem dX10_refuse_5 : decode cX10_refuse 5 = .ok (.getfield 25, 3) := by decide +kernel
theorem dX10_refuse_8 : decode cX10_refuse 8 = .ok (.ifCond .ne 8, 3) := by decide +kernel
theorem dX10_refuse_11 : decode cX10_refuse 11 = .ok (.aload_n 0, 1) := by decide +kernel
theorem dX10_refuse_12 : decode cX10_refuse 12 = .ok (.iload_n 2, 1) := by decide +kernel
theorem dX10_refuse_13 : decode cX10_refuse 13 = .ok (.putfield 25, 3) := by decide +kernel
theorem dX10_refuse_16 : decode cX10_refuse 16 = .ok (.aload_n 0, 1) := by decide +kernel
theorem dX10_refuse_17 : decode cX10_refuse 17 = .ok (.getfield 25, 3) := by decide +kernel
theorem dX10_refuse_20 : decode cX10_refuse 20 = .ok (.ifCond .le 7, 3) := by decide +kernel
theorem dX10_refuse_23 : decode cX10_refuse 23 = .ok (.iconst 1, 1) := by decide +kernel
theorem dX10_refuse_24 : decode cX10_refuse 24 = .ok (.goto 4, 3) := by decide +kernel
theorem dX10_refuse_27 : decode cX10_refuse 27 = .ok (.iconst 0, 1) := by decide +kernel
theorem dX10_refuse_28 : decode cX10_refuse 28 = .ok (.ireturn, 1) := by decide +kernel
theorem dX10_start_0 : decode cX10_start 0 = .ok (.aload_n 0, 1) := by decide +kernel
theorem dX10_start_1 : decode cX10_start 1 = .ok (.iconst 0, 1) := by decide +kernel
theorem dX10_start_2 : decode cX10_start 2 = .ok (.putfield 25, 3) := by decide +kernel
theorem dX10_start_5 : decode cX10_start 5 = .ok (.aload_n 0, 1) := by decide +kernel
theorem dX10_start_6 : decode cX10_start 6 = .ok (.iload_n 1, 1) := by decide +kernel
theorem dX10_start_7 : decode cX10_start 7 = .ok (.iload_n 2, 1) := by decide +kernel
theorem dX10_start_8 : decode cX10_start 8 = .ok (.invokevirtual 29, 3) := by decide +kernel
theorem dX10_start_11 : decode cX10_start 11 = .ok (.ireturn, 1) := by decide +kernel
theorem dX10_isNoSource_0 : decode cX10_isNoSource 0 = .ok (.iload_n 1, 1) := by decide +kernel
theorem dX10_isNoSource_1 : decode cX10_isNoSource 1 = .ok (.iconst 0, 1) := by decide +kernel
theorem dX10_isNoSource_2 : decode cX10_isNoSource 2 = .ok (.aload_n 0, 1) := by decide +kernel
theorem dX10_isNoSource_3 : decode cX10_isNoSource 3 = .ok (.getfield 10, 3) := by decide +kernel
theorem dX10_isNoSource_6 : decode cX10_isNoSource 6 = .ok (.invokevirtual 33, 3) := by decide +kernel
theorem dX10_isNoSource_9 : decode cX10_isNoSource 9 = .ok (.iconst 1, 1) := by decide +kernel
theorem dX10_isNoSource_10 : decode cX10_isNoSource 10 = .ok (.isub, 1) := by decide +kernel
theorem dX10_isNoSource_11 : decode cX10_isNoSource 11 = .ok (.invokestatic 37, 3) := by decide +kernel
theorem dX10_isNoSource_14 : decode cX10_isNoSource 14 = .ok (.ifCond .ne 7, 3) := by decide +kernel
theorem dX10_isNoSource_17 : decode cX10_isNoSource 17 = .ok (.iconst 1, 1) := by decide +kernel
theorem dX10_isNoSource_18 : decode cX10_isNoSource 18 = .ok (.goto 4, 3) := by decide +kernel
theorem dX10_isNoSource_21 : decode cX10_isNoSource 21 = .ok (.iconst 0, 1) := by decide +kernel
theorem dX10_isNoSource_22 : decode cX10_isNoSource 22 = .ok (.ireturn, 1) := by decide +kernel
theorem dX10_isNoStory_0 : decode cX10_isNoStory 0 = .ok (.iload_n 1, 1) := by decide +kernel
theorem dX10_isNoStory_1 : decode cX10_isNoStory 1 = .ok (.iconst 0, 1) := by decide +kernel
theorem dX10_isNoStory_2 : decode cX10_isNoStory 2 = .ok (.aload_n 0, 1) := by decide +kernel
theorem dX10_isNoStory_3 : decode cX10_isNoStory 3 = .ok (.getfield 16, 3) := by decide +kernel
theorem dX10_isNoStory_6 : decode cX10_isNoStory 6 = .ok (.invokevirtual 33, 3) := by decide +kernel
theorem dX10_isNoStory_9 : decode cX10_isNoStory 9 = .ok (.iconst 1, 1) := by decide +kernel
theorem dX10_isNoStory_10 : decode cX10_isNoStory 10 = .ok (.isub, 1) := by decide +kernel
theorem dX10_isNoStory_11 : decode cX10_isNoStory 11 = .ok (.invokestatic 37, 3) := by decide +kernel
theorem dX10_isNoStory_14 : decode cX10_isNoStory 14 = .ok (.ifCond .ne 7, 3) := by decide +kernel
theorem dX10_isNoStory_17 : decode cX10_isNoStory 17 = .ok (.iconst 1, 1) := by decide +kernel
theorem dX10_isNoStory_18 : decode cX10_isNoStory 18 = .ok (.goto 4, 3) := by decide +kernel
theorem dX10_isNoStory_21 : decode cX10_isNoStory 21 = .ok (.iconst 0, 1) := by decide +kernel
theorem dX10_isNoStory_22 : decode cX10_isNoStory 22 = .ok (.ireturn, 1) := by decide +kernel
theorem dX10_isNoFact_0 : decode cX10_isNoFact 0 = .ok (.aload_n 0, 1) := by decide +kernel
theorem dX10_isNoFact_1 : decode cX10_isNoFact 1 = .ok (.iload_n 1, 1) := by decide +kernel
theorem dX10_isNoFact_2 : decode cX10_isNoFact 2 = .ok (.invokevirtual 41, 3) := by decide +kernel
theorem dX10_isNoFact_5 : decode cX10_isNoFact 5 = .ok (.ifCond .ne 12, 3) := by decide +kernel
theorem dX10_isNoFact_8 : decode cX10_isNoFact 8 = .ok (.iload_n 2, 1) := by decide +kernel
theorem dX10_isNoFact_9 : decode cX10_isNoFact 9 = .ok (.iconst 0, 1) := by decide +kernel
theorem dX10_isNoFact_10 : decode cX10_isNoFact 10 = .ok (.iconst 3, 1) := by decide +kernel
theorem dX10_isNoFact_11 : decode cX10_isNoFact 11 = .ok (.invokestatic 37, 3) := by decide +kernel
theorem dX10_isNoFact_14 : decode cX10_isNoFact 14 = .ok (.ifCond .ne 7, 3) := by decide +kernel
theorem dX10_isNoFact_17 : decode cX10_isNoFact 17 = .ok (.iconst 1, 1) := by decide +kernel
theorem dX10_isNoFact_18 : decode cX10_isNoFact 18 = .ok (.goto 4, 3) := by decide +kernel
theorem dX10_isNoFact_21 : decode cX10_isNoFact 21 = .ok (.iconst 0, 1) := by decide +kernel
theorem dX10_isNoFact_22 : decode cX10_isNoFact 22 = .ok (.ireturn, 1) := by decide +kernel
theorem dX10_isNoLine_0 : decode cX10_isNoLine 0 = .ok (.iload_n 1, 1) := by decide +kernel
theorem dX10_isNoLine_1 : decode cX10_isNoLine 1 = .ok (.iconst 0, 1) := by decide +kernel
theorem dX10_isNoLine_2 : decode cX10_isNoLine 2 = .ok (.aload_n 0, 1) := by decide +kernel
theorem dX10_isNoLine_3 : decode cX10_isNoLine 3 = .ok (.getfield 22, 3) := by decide +kernel
theorem dX10_isNoLine_6 : decode cX10_isNoLine 6 = .ok (.invokevirtual 33, 3) := by decide +kernel
theorem dX10_isNoLine_9 : decode cX10_isNoLine 9 = .ok (.iconst 1, 1) := by decide +kernel
theorem dX10_isNoLine_10 : decode cX10_isNoLine 10 = .ok (.isub, 1) := by decide +kernel
theorem dX10_isNoLine_11 : decode cX10_isNoLine 11 = .ok (.invokestatic 37, 3) := by decide +kernel
theorem dX10_isNoLine_14 : decode cX10_isNoLine 14 = .ok (.ifCond .ne 7, 3) := by decide +kernel
theorem dX10_isNoLine_17 : decode cX10_isNoLine 17 = .ok (.iconst 1, 1) := by decide +kernel
theorem dX10_isNoLine_18 : decode cX10_isNoLine 18 = .ok (.goto 4, 3) := by decide +kernel
theorem dX10_isNoLine_21 : decode cX10_isNoLine 21 = .ok (.iconst 0, 1) := by decide +kernel
theorem dX10_isNoLine_22 : decode cX10_isNoLine 22 = .ok (.ireturn, 1) := by decide +kernel
theorem dX10_isNoTake_0 : decode cX10_isNoTake 0 = .ok (.iload_n 1, 1) := by decide +kernel
theorem dX10_isNoTake_1 : decode cX10_isNoTake 1 = .ok (.iconst 0, 1) := by decide +kernel
theorem dX10_isNoTake_2 : decode cX10_isNoTake 2 = .ok (.aload_n 0, 1) := by decide +kernel
theorem dX10_isNoTake_3 : decode cX10_isNoTake 3 = .ok (.getfield 19, 3) := by decide +kernel
theorem dX10_isNoTake_6 : decode cX10_isNoTake 6 = .ok (.invokevirtual 33, 3) := by decide +kernel
theorem dX10_isNoTake_9 : decode cX10_isNoTake 9 = .ok (.iconst 1, 1) := by decide +kernel
theorem dX10_isNoTake_10 : decode cX10_isNoTake 10 = .ok (.isub, 1) := by decide +kernel
theorem dX10_isNoTake_11 : decode cX10_isNoTake 11 = .ok (.invokestatic 37, 3) := by decide +kernel
theorem dX10_isNoTake_14 : decode cX10_isNoTake 14 = .ok (.ifCond .ne 7, 3) := by decide +kernel
theorem dX10_isNoTake_17 : decode cX10_isNoTake 17 = .ok (.iconst 1, 1) := by decide +kernel
theorem dX10_isNoTake_18 : decode cX10_isNoTake 18 = .ok (.goto 4, 3) := by decide +kernel
theorem dX10_isNoTake_21 : decode cX10_isNoTake 21 = .ok (.iconst 0, 1) := by decide +kernel
theorem dX10_isNoTake_22 : decode cX10_isNoTake 22 = .ok (.ireturn, 1) := by decide +kernel
theorem dX10_fact_0 : decode cX10_fact 0 = .ok (.aload_n 0, 1) := by decide +kernel
theorem dX10_fact_1 : decode cX10_fact 1 = .ok (.getfield 16, 3) := by decide +kernel
theorem dX10_fact_4 : decode cX10_fact 4 = .ok (.iload_n 1, 1) := by decide +kernel
theorem dX10_fact_5 : decode cX10_fact 5 = .ok (.invokevirtual 45, 3) := by decide +kernel
theorem dX10_fact_8 : decode cX10_fact 8 = .ok (.checkcast 49, 3) := by decide +kernel
theorem dX10_fact_11 : decode cX10_fact 11 = .ok (.iload_n 2, 1) := by decide +kernel
theorem dX10_fact_12 : decode cX10_fact 12 = .ok (.aaload, 1) := by decide +kernel
theorem dX10_fact_13 : decode cX10_fact 13 = .ok (.areturn, 1) := by decide +kernel
theorem dX10_roots_0 : decode cX10_roots 0 = .ok (.iconst 0, 1) := by decide +kernel
theorem dX10_roots_1 : decode cX10_roots 1 = .ok (.istore 4, 2) := by decide +kernel
theorem dX10_roots_3 : decode cX10_roots 3 = .ok (.iconst 0, 1) := by decide +kernel
theorem dX10_roots_4 : decode cX10_roots 4 = .ok (.istore 5, 2) := by decide +kernel
theorem dX10_roots_6 : decode cX10_roots 6 = .ok (.iload 5, 2) := by decide +kernel
theorem dX10_roots_8 : decode cX10_roots 8 = .ok (.aload_n 0, 1) := by decide +kernel
theorem dX10_roots_9 : decode cX10_roots 9 = .ok (.getfield 10, 3) := by decide +kernel
theorem dX10_roots_12 : decode cX10_roots 12 = .ok (.invokevirtual 33, 3) := by decide +kernel
theorem dX10_roots_15 : decode cX10_roots 15 = .ok (.if_icmp .ge 65, 3) := by decide +kernel
theorem dX10_roots_18 : decode cX10_roots 18 = .ok (.aload_n 1, 1) := by decide +kernel
theorem dX10_roots_19 : decode cX10_roots 19 = .ok (.getfield 51, 3) := by decide +kernel
theorem dX10_roots_22 : decode cX10_roots 22 = .ok (.iload 5, 2) := by decide +kernel
theorem dX10_roots_24 : decode cX10_roots 24 = .ok (.iaload, 1) := by decide +kernel
theorem dX10_roots_25 : decode cX10_roots 25 = .ok (.iload_n 2, 1) := by decide +kernel
theorem dX10_roots_26 : decode cX10_roots 26 = .ok (.if_icmp .ne 48, 3) := by decide +kernel
theorem dX10_roots_29 : decode cX10_roots 29 = .ok (.iload_n 3, 1) := by decide +kernel
theorem dX10_roots_30 : decode cX10_roots 30 = .ok (.ifCond .eq 22, 3) := by decide +kernel
theorem dX10_roots_33 : decode cX10_roots 33 = .ok (.aload_n 0, 1) := by decide +kernel
theorem dX10_roots_34 : decode cX10_roots 34 = .ok (.getfield 10, 3) := by decide +kernel
theorem dX10_roots_37 : decode cX10_roots 37 = .ok (.iload 5, 2) := by decide +kernel
theorem dX10_roots_39 : decode cX10_roots 39 = .ok (.invokevirtual 45, 3) := by decide +kernel
theorem dX10_roots_42 : decode cX10_roots 42 = .ok (.checkcast 57, 3) := by decide +kernel
theorem dX10_roots_45 : decode cX10_roots 45 = .ok (.getfield 59, 3) := by decide +kernel
theorem dX10_roots_48 : decode cX10_roots 48 = .ok (.iload_n 3, 1) := by decide +kernel
theorem dX10_roots_49 : decode cX10_roots 49 = .ok (.if_icmp .ne 25, 3) := by decide +kernel
theorem dX10_roots_52 : decode cX10_roots 52 = .ok (.iload 4, 2) := by decide +kernel
theorem dX10_roots_54 : decode cX10_roots 54 = .ok (.iconst 1, 1) := by decide +kernel
theorem dX10_roots_55 : decode cX10_roots 55 = .ok (.aload_n 0, 1) := by decide +kernel
theorem dX10_roots_56 : decode cX10_roots 56 = .ok (.getfield 10, 3) := by decide +kernel
theorem dX10_roots_59 : decode cX10_roots 59 = .ok (.iload 5, 2) := by decide +kernel
theorem dX10_roots_61 : decode cX10_roots 61 = .ok (.invokevirtual 45, 3) := by decide +kernel
theorem dX10_roots_64 : decode cX10_roots 64 = .ok (.checkcast 57, 3) := by decide +kernel
theorem dX10_roots_67 : decode cX10_roots 67 = .ok (.getfield 62, 3) := by decide +kernel
theorem dX10_roots_70 : decode cX10_roots 70 = .ok (.ishl, 1) := by decide +kernel
theorem dX10_roots_71 : decode cX10_roots 71 = .ok (.ior, 1) := by decide +kernel
theorem dX10_roots_72 : decode cX10_roots 72 = .ok (.istore 4, 2) := by decide +kernel
theorem dX10_roots_74 : decode cX10_roots 74 = .ok (.iinc 5 1, 3) := by decide +kernel
theorem dX10_roots_77 : decode cX10_roots 77 = .ok (.goto (-71), 3) := by decide +kernel
theorem dX10_roots_80 : decode cX10_roots 80 = .ok (.iload 4, 2) := by decide +kernel
theorem dX10_roots_82 : decode cX10_roots 82 = .ok (.invokestatic 65, 3) := by decide +kernel
theorem dX10_roots_85 : decode cX10_roots 85 = .ok (.ireturn, 1) := by decide +kernel
theorem dX10_force_0 : decode cX10_force 0 = .ok (.iconst 0, 1) := by decide +kernel
theorem dX10_force_1 : decode cX10_force 1 = .ok (.istore_n 3, 1) := by decide +kernel
theorem dX10_force_2 : decode cX10_force 2 = .ok (.iconst 0, 1) := by decide +kernel
theorem dX10_force_3 : decode cX10_force 3 = .ok (.istore 4, 2) := by decide +kernel
theorem dX10_force_5 : decode cX10_force 5 = .ok (.iload 4, 2) := by decide +kernel
theorem dX10_force_7 : decode cX10_force 7 = .ok (.aload_n 0, 1) := by decide +kernel
theorem dX10_force_8 : decode cX10_force 8 = .ok (.getfield 10, 3) := by decide +kernel
theorem dX10_force_11 : decode cX10_force 11 = .ok (.invokevirtual 33, 3) := by decide +kernel
theorem dX10_force_14 : decode cX10_force 14 = .ok (.if_icmp .ge 92, 3) := by decide +kernel
theorem dX10_force_17 : decode cX10_force 17 = .ok (.iconst 0, 1) := by decide +kernel
theorem dX10_force_18 : decode cX10_force 18 = .ok (.istore 5, 2) := by decide +kernel
theorem dX10_force_20 : decode cX10_force 20 = .ok (.iload 4, 2) := by decide +kernel
theorem dX10_force_22 : decode cX10_force 22 = .ok (.istore 6, 2) := by decide +kernel
theorem dX10_force_24 : decode cX10_force 24 = .ok (.iload 6, 2) := by decide +kernel
theorem dX10_force_26 : decode cX10_force 26 = .ok (.aload_n 0, 1) := by decide +kernel
theorem dX10_force_27 : decode cX10_force 27 = .ok (.getfield 10, 3) := by decide +kernel
theorem dX10_force_30 : decode cX10_force 30 = .ok (.invokevirtual 33, 3) := by decide +kernel
theorem dX10_force_33 : decode cX10_force 33 = .ok (.if_icmp .ge 62, 3) := by decide +kernel
theorem dX10_force_36 : decode cX10_force 36 = .ok (.aload_n 1, 1) := by decide +kernel
theorem dX10_force_37 : decode cX10_force 37 = .ok (.getfield 51, 3) := by decide +kernel
theorem dX10_force_40 : decode cX10_force 40 = .ok (.iload 6, 2) := by decide +kernel
theorem dX10_force_42 : decode cX10_force 42 = .ok (.iaload, 1) := by decide +kernel
theorem dX10_force_43 : decode cX10_force 43 = .ok (.iload_n 2, 1) := by decide +kernel
theorem dX10_force_44 : decode cX10_force 44 = .ok (.if_icmp .ne 45, 3) := by decide +kernel
theorem dX10_force_47 : decode cX10_force 47 = .ok (.aload_n 0, 1) := by decide +kernel
theorem dX10_force_48 : decode cX10_force 48 = .ok (.getfield 10, 3) := by decide +kernel
theorem dX10_force_51 : decode cX10_force 51 = .ok (.iload 6, 2) := by decide +kernel
theorem dX10_force_53 : decode cX10_force 53 = .ok (.invokevirtual 45, 3) := by decide +kernel
theorem dX10_force_56 : decode cX10_force 56 = .ok (.checkcast 57, 3) := by decide +kernel
theorem dX10_force_59 : decode cX10_force 59 = .ok (.getfield 62, 3) := by decide +kernel
theorem dX10_force_62 : decode cX10_force 62 = .ok (.iload 4, 2) := by decide +kernel
theorem dX10_force_64 : decode cX10_force 64 = .ok (.if_icmp .ne 25, 3) := by decide +kernel
theorem dX10_force_67 : decode cX10_force 67 = .ok (.iload 5, 2) := by decide +kernel
theorem dX10_force_69 : decode cX10_force 69 = .ok (.aload_n 0, 1) := by decide +kernel
theorem dX10_force_70 : decode cX10_force 70 = .ok (.getfield 10, 3) := by decide +kernel
theorem dX10_force_73 : decode cX10_force 73 = .ok (.iload 6, 2) := by decide +kernel
theorem dX10_force_75 : decode cX10_force 75 = .ok (.invokevirtual 45, 3) := by decide +kernel
theorem dX10_force_78 : decode cX10_force 78 = .ok (.checkcast 57, 3) := by decide +kernel
theorem dX10_force_81 : decode cX10_force 81 = .ok (.getfield 59, 3) := by decide +kernel
theorem dX10_force_84 : decode cX10_force 84 = .ok (.invokestatic 71, 3) := by decide +kernel
theorem dX10_force_87 : decode cX10_force 87 = .ok (.istore 5, 2) := by decide +kernel
theorem dX10_force_89 : decode cX10_force 89 = .ok (.iinc 6 1, 3) := by decide +kernel
theorem dX10_force_92 : decode cX10_force 92 = .ok (.goto (-68), 3) := by decide +kernel
theorem dX10_force_95 : decode cX10_force 95 = .ok (.iload_n 3, 1) := by decide +kernel
theorem dX10_force_96 : decode cX10_force 96 = .ok (.iload 5, 2) := by decide +kernel
theorem dX10_force_98 : decode cX10_force 98 = .ok (.iadd, 1) := by decide +kernel
theorem dX10_force_99 : decode cX10_force 99 = .ok (.istore_n 3, 1) := by decide +kernel
theorem dX10_force_100 : decode cX10_force 100 = .ok (.iinc 4 1, 3) := by decide +kernel
theorem dX10_force_103 : decode cX10_force 103 = .ok (.goto (-98), 3) := by decide +kernel
theorem dX10_force_106 : decode cX10_force 106 = .ok (.iload_n 3, 1) := by decide +kernel
theorem dX10_force_107 : decode cX10_force 107 = .ok (.ireturn, 1) := by decide +kernel
theorem dX10_proof_0 : decode cX10_proof 0 = .ok (.aload_n 0, 1) := by decide +kernel
theorem dX10_proof_1 : decode cX10_proof 1 = .ok (.aload_n 1, 1) := by decide +kernel
theorem dX10_proof_2 : decode cX10_proof 2 = .ok (.iload_n 2, 1) := by decide +kernel
theorem dX10_proof_3 : decode cX10_proof 3 = .ok (.iconst 3, 1) := by decide +kernel
theorem dX10_proof_4 : decode cX10_proof 4 = .ok (.invokevirtual 77, 3) := by decide +kernel
theorem dX10_proof_7 : decode cX10_proof 7 = .ok (.ifCond .le 5, 3) := by decide +kernel
theorem dX10_proof_10 : decode cX10_proof 10 = .ok (.iconst 3, 1) := by decide +kernel
theorem dX10_proof_11 : decode cX10_proof 11 = .ok (.ireturn, 1) := by decide +kernel
theorem dX10_proof_12 : decode cX10_proof 12 = .ok (.aload_n 0, 1) := by decide +kernel
theorem dX10_proof_13 : decode cX10_proof 13 = .ok (.aload_n 1, 1) := by decide +kernel
theorem dX10_proof_14 : decode cX10_proof 14 = .ok (.iload_n 2, 1) := by decide +kernel
theorem dX10_proof_15 : decode cX10_proof 15 = .ok (.iconst 2, 1) := by decide +kernel
theorem dX10_proof_16 : decode cX10_proof 16 = .ok (.invokevirtual 77, 3) := by decide +kernel
theorem dX10_proof_19 : decode cX10_proof 19 = .ok (.iconst 1, 1) := by decide +kernel
theorem dX10_proof_20 : decode cX10_proof 20 = .ok (.if_icmp .le 7, 3) := by decide +kernel
theorem dX10_proof_23 : decode cX10_proof 23 = .ok (.iconst 2, 1) := by decide +kernel
theorem dX10_proof_24 : decode cX10_proof 24 = .ok (.goto 19, 3) := by decide +kernel
theorem dX10_proof_27 : decode cX10_proof 27 = .ok (.aload_n 0, 1) := by decide +kernel
theorem dX10_proof_28 : decode cX10_proof 28 = .ok (.aload_n 1, 1) := by decide +kernel
theorem dX10_proof_29 : decode cX10_proof 29 = .ok (.iload_n 2, 1) := by decide +kernel
theorem dX10_proof_30 : decode cX10_proof 30 = .ok (.iconst 0, 1) := by decide +kernel
theorem dX10_proof_31 : decode cX10_proof 31 = .ok (.invokevirtual 77, 3) := by decide +kernel
theorem dX10_proof_34 : decode cX10_proof 34 = .ok (.iconst 2, 1) := by decide +kernel
theorem dX10_proof_35 : decode cX10_proof 35 = .ok (.if_icmp .le 7, 3) := by decide +kernel
theorem dX10_proof_38 : decode cX10_proof 38 = .ok (.iconst 1, 1) := by decide +kernel
theorem dX10_proof_39 : decode cX10_proof 39 = .ok (.goto 4, 3) := by decide +kernel
theorem dX10_proof_42 : decode cX10_proof 42 = .ok (.iconst 0, 1) := by decide +kernel
theorem dX10_proof_43 : decode cX10_proof 43 = .ok (.ireturn, 1) := by decide +kernel
theorem dX10_strongest_0 : decode cX10_strongest 0 = .ok (.iconst (-1), 1) := by decide +kernel
theorem dX10_strongest_1 : decode cX10_strongest 1 = .ok (.istore_n 3, 1) := by decide +kernel
theorem dX10_strongest_2 : decode cX10_strongest 2 = .ok (.iconst 0, 1) := by decide +kernel
theorem dX10_strongest_3 : decode cX10_strongest 3 = .ok (.istore 4, 2) := by decide +kernel
theorem dX10_strongest_5 : decode cX10_strongest 5 = .ok (.iconst 0, 1) := by decide +kernel
theorem dX10_strongest_6 : decode cX10_strongest 6 = .ok (.istore 5, 2) := by decide +kernel
theorem dX10_strongest_8 : decode cX10_strongest 8 = .ok (.iload 5, 2) := by decide +kernel
theorem dX10_strongest_10 : decode cX10_strongest 10 = .ok (.bipush 100, 2) := by decide +kernel
theorem dX10_strongest_12 : decode cX10_strongest 12 = .ok (.if_icmp .ge 62, 3) := by decide +kernel
theorem dX10_strongest_15 : decode cX10_strongest 15 = .ok (.aload_n 1, 1) := by decide +kernel
theorem dX10_strongest_16 : decode cX10_strongest 16 = .ok (.iload 5, 2) := by decide +kernel
theorem dX10_strongest_18 : decode cX10_strongest 18 = .ok (.invokestatic 81, 3) := by decide +kernel
theorem dX10_strongest_21 : decode cX10_strongest 21 = .ok (.ifCond .eq 27, 3) := by decide +kernel
theorem dX10_strongest_24 : decode cX10_strongest 24 = .ok (.iload_n 2, 1) := by decide +kernel
theorem dX10_strongest_25 : decode cX10_strongest 25 = .ok (.ifCond .eq 13, 3) := by decide +kernel
theorem dX10_strongest_28 : decode cX10_strongest 28 = .ok (.aload_n 0, 1) := by decide +kernel
theorem dX10_strongest_29 : decode cX10_strongest 29 = .ok (.aload_n 1, 1) := by decide +kernel
theorem dX10_strongest_30 : decode cX10_strongest 30 = .ok (.iload 5, 2) := by decide +kernel
theorem dX10_strongest_32 : decode cX10_strongest 32 = .ok (.invokevirtual 85, 3) := by decide +kernel
theorem dX10_strongest_35 : decode cX10_strongest 35 = .ok (.ifCond .le 13, 3) := by decide +kernel
theorem dX10_strongest_38 : decode cX10_strongest 38 = .ok (.aload_n 0, 1) := by decide +kernel
theorem dX10_strongest_39 : decode cX10_strongest 39 = .ok (.aload_n 1, 1) := by decide +kernel
theorem dX10_strongest_40 : decode cX10_strongest 40 = .ok (.iload 5, 2) := by decide +kernel
theorem dX10_strongest_42 : decode cX10_strongest 42 = .ok (.invokevirtual 89, 3) := by decide +kernel
theorem dX10_strongest_45 : decode cX10_strongest 45 = .ok (.goto 4, 3) := by decide +kernel
theorem dX10_strongest_48 : decode cX10_strongest 48 = .ok (.iconst 0, 1) := by decide +kernel
theorem dX10_strongest_49 : decode cX10_strongest 49 = .ok (.istore 6, 2) := by decide +kernel
theorem dX10_strongest_51 : decode cX10_strongest 51 = .ok (.iload 6, 2) := by decide +kernel
theorem dX10_strongest_53 : decode cX10_strongest 53 = .ok (.iload 4, 2) := by decide +kernel
theorem dX10_strongest_55 : decode cX10_strongest 55 = .ok (.if_icmp .gt 6, 3) := by decide +kernel
theorem dX10_strongest_58 : decode cX10_strongest 58 = .ok (.goto 10, 3) := by decide +kernel
theorem dX10_strongest_61 : decode cX10_strongest 61 = .ok (.iload 5, 2) := by decide +kernel
theorem dX10_strongest_63 : decode cX10_strongest 63 = .ok (.istore_n 3, 1) := by decide +kernel
theorem dX10_strongest_64 : decode cX10_strongest 64 = .ok (.iload 6, 2) := by decide +kernel
theorem dX10_strongest_66 : decode cX10_strongest 66 = .ok (.istore 4, 2) := by decide +kernel
theorem dX10_strongest_68 : decode cX10_strongest 68 = .ok (.iinc 5 1, 3) := by decide +kernel
theorem dX10_strongest_71 : decode cX10_strongest 71 = .ok (.goto (-63), 3) := by decide +kernel
theorem dX10_strongest_74 : decode cX10_strongest 74 = .ok (.iload_n 3, 1) := by decide +kernel
theorem dX10_strongest_75 : decode cX10_strongest 75 = .ok (.ireturn, 1) := by decide +kernel
theorem dX10_isSaid_0 : decode cX10_isSaid 0 = .ok (.iconst 0, 1) := by decide +kernel
theorem dX10_isSaid_1 : decode cX10_isSaid 1 = .ok (.istore_n 2, 1) := by decide +kernel
theorem dX10_isSaid_2 : decode cX10_isSaid 2 = .ok (.iload_n 2, 1) := by decide +kernel
theorem dX10_isSaid_3 : decode cX10_isSaid 3 = .ok (.bipush 10, 2) := by decide +kernel
theorem dX10_isSaid_5 : decode cX10_isSaid 5 = .ok (.if_icmp .ge 21, 3) := by decide +kernel
theorem dX10_isSaid_8 : decode cX10_isSaid 8 = .ok (.aload_n 0, 1) := by decide +kernel
theorem dX10_isSaid_9 : decode cX10_isSaid 9 = .ok (.getfield 51, 3) := by decide +kernel
theorem dX10_isSaid_12 : decode cX10_isSaid 12 = .ok (.iload_n 2, 1) := by decide +kernel
theorem dX10_isSaid_13 : decode cX10_isSaid 13 = .ok (.iaload, 1) := by decide +kernel
theorem dX10_isSaid_14 : decode cX10_isSaid 14 = .ok (.iload_n 1, 1) := by decide +kernel
theorem dX10_isSaid_15 : decode cX10_isSaid 15 = .ok (.if_icmp .ne 5, 3) := by decide +kernel
theorem dX10_isSaid_18 : decode cX10_isSaid 18 = .ok (.iconst 1, 1) := by decide +kernel
theorem dX10_isSaid_19 : decode cX10_isSaid 19 = .ok (.ireturn, 1) := by decide +kernel
theorem dX10_isSaid_20 : decode cX10_isSaid 20 = .ok (.iinc 2 1, 3) := by decide +kernel
theorem dX10_isSaid_23 : decode cX10_isSaid 23 = .ok (.goto (-21), 3) := by decide +kernel
theorem dX10_isSaid_26 : decode cX10_isSaid 26 = .ok (.iconst 0, 1) := by decide +kernel
theorem dX10_isSaid_27 : decode cX10_isSaid 27 = .ok (.ireturn, 1) := by decide +kernel
theorem dX10_truth_0 : decode cX10_truth 0 = .ok (.aload_n 0, 1) := by decide +kernel
theorem dX10_truth_1 : decode cX10_truth 1 = .ok (.aload_n 1, 1) := by decide +kernel
theorem dX10_truth_2 : decode cX10_truth 2 = .ok (.iconst 1, 1) := by decide +kernel
theorem dX10_truth_3 : decode cX10_truth 3 = .ok (.invokevirtual 92, 3) := by decide +kernel
theorem dX10_truth_6 : decode cX10_truth 6 = .ok (.ireturn, 1) := by decide +kernel
theorem dX10_heard_0 : decode cX10_heard 0 = .ok (.aload_n 0, 1) := by decide +kernel
theorem dX10_heard_1 : decode cX10_heard 1 = .ok (.aload_n 1, 1) := by decide +kernel
theorem dX10_heard_2 : decode cX10_heard 2 = .ok (.invokevirtual 96, 3) := by decide +kernel
theorem dX10_heard_5 : decode cX10_heard 5 = .ok (.istore_n 2, 1) := by decide +kernel
theorem dX10_heard_6 : decode cX10_heard 6 = .ok (.iload_n 2, 1) := by decide +kernel
theorem dX10_heard_7 : decode cX10_heard 7 = .ok (.iconst (-1), 1) := by decide +kernel
theorem dX10_heard_8 : decode cX10_heard 8 = .ok (.if_icmp .eq 7, 3) := by decide +kernel
theorem dX10_heard_11 : decode cX10_heard 11 = .ok (.iload_n 2, 1) := by decide +kernel
theorem dX10_heard_12 : decode cX10_heard 12 = .ok (.goto 9, 3) := by decide +kernel
theorem dX10_heard_15 : decode cX10_heard 15 = .ok (.aload_n 0, 1) := by decide +kernel
theorem dX10_heard_16 : decode cX10_heard 16 = .ok (.aload_n 1, 1) := by decide +kernel
theorem dX10_heard_17 : decode cX10_heard 17 = .ok (.iconst 0, 1) := by decide +kernel
theorem dX10_heard_18 : decode cX10_heard 18 = .ok (.invokevirtual 92, 3) := by decide +kernel
theorem dX10_heard_21 : decode cX10_heard 21 = .ok (.ireturn, 1) := by decide +kernel
theorem dX10_saying_0 : decode cX10_saying 0 = .ok (.iconst 0, 1) := by decide +kernel
theorem dX10_saying_1 : decode cX10_saying 1 = .ok (.istore_n 1, 1) := by decide +kernel
theorem dX10_saying_2 : decode cX10_saying 2 = .ok (.iconst 0, 1) := by decide +kernel
theorem dX10_saying_3 : decode cX10_saying 3 = .ok (.istore_n 2, 1) := by decide +kernel
theorem dX10_saying_4 : decode cX10_saying 4 = .ok (.iload_n 2, 1) := by decide +kernel
theorem dX10_saying_5 : decode cX10_saying 5 = .ok (.bipush 10, 2) := by decide +kernel
theorem dX10_saying_7 : decode cX10_saying 7 = .ok (.if_icmp .ge 27, 3) := by decide +kernel
theorem dX10_saying_10 : decode cX10_saying 10 = .ok (.iload_n 1, 1) := by decide +kernel
theorem dX10_saying_11 : decode cX10_saying 11 = .ok (.aload_n 0, 1) := by decide +kernel
theorem dX10_saying_12 : decode cX10_saying 12 = .ok (.getfield 51, 3) := by decide +kernel
theorem dX10_saying_15 : decode cX10_saying 15 = .ok (.iload_n 2, 1) := by decide +kernel
theorem dX10_saying_16 : decode cX10_saying 16 = .ok (.iaload, 1) := by decide +kernel
theorem dX10_saying_17 : decode cX10_saying 17 = .ok (.iconst (-1), 1) := by decide +kernel
theorem dX10_saying_18 : decode cX10_saying 18 = .ok (.if_icmp .eq 7, 3) := by decide +kernel
theorem dX10_saying_21 : decode cX10_saying 21 = .ok (.iconst 1, 1) := by decide +kernel
theorem dX10_saying_22 : decode cX10_saying 22 = .ok (.goto 4, 3) := by decide +kernel
theorem dX10_saying_25 : decode cX10_saying 25 = .ok (.iconst 0, 1) := by decide +kernel
theorem dX10_saying_26 : decode cX10_saying 26 = .ok (.iadd, 1) := by decide +kernel
theorem dX10_saying_27 : decode cX10_saying 27 = .ok (.istore_n 1, 1) := by decide +kernel
theorem dX10_saying_28 : decode cX10_saying 28 = .ok (.iinc 2 1, 3) := by decide +kernel
theorem dX10_saying_31 : decode cX10_saying 31 = .ok (.goto (-27), 3) := by decide +kernel
theorem dX10_saying_34 : decode cX10_saying 34 = .ok (.iload_n 1, 1) := by decide +kernel
theorem dX10_saying_35 : decode cX10_saying 35 = .ok (.ireturn, 1) := by decide +kernel
theorem dX10_values_0 : decode cX10_values 0 = .ok (.iconst 0, 1) := by decide +kernel
theorem dX10_values_1 : decode cX10_values 1 = .ok (.istore_n 1, 1) := by decide +kernel
theorem dX10_values_2 : decode cX10_values 2 = .ok (.iconst 0, 1) := by decide +kernel
theorem dX10_values_3 : decode cX10_values 3 = .ok (.istore_n 2, 1) := by decide +kernel
theorem dX10_values_4 : decode cX10_values 4 = .ok (.iload_n 2, 1) := by decide +kernel
theorem dX10_values_5 : decode cX10_values 5 = .ok (.bipush 100, 2) := by decide +kernel
theorem dX10_values_7 : decode cX10_values 7 = .ok (.if_icmp .ge 25, 3) := by decide +kernel
theorem dX10_values_10 : decode cX10_values 10 = .ok (.iload_n 1, 1) := by decide +kernel
theorem dX10_values_11 : decode cX10_values 11 = .ok (.aload_n 0, 1) := by decide +kernel
theorem dX10_values_12 : decode cX10_values 12 = .ok (.iload_n 2, 1) := by decide +kernel
theorem dX10_values_13 : decode cX10_values 13 = .ok (.invokestatic 81, 3) := by decide +kernel
theorem dX10_values_16 : decode cX10_values 16 = .ok (.ifCond .eq 7, 3) := by decide +kernel
theorem dX10_values_19 : decode cX10_values 19 = .ok (.iconst 1, 1) := by decide +kernel
theorem dX10_values_20 : decode cX10_values 20 = .ok (.goto 4, 3) := by decide +kernel
theorem dX10_values_23 : decode cX10_values 23 = .ok (.iconst 0, 1) := by decide +kernel
theorem dX10_values_24 : decode cX10_values 24 = .ok (.iadd, 1) := by decide +kernel
theorem dX10_values_25 : decode cX10_values 25 = .ok (.istore_n 1, 1) := by decide +kernel
theorem dX10_values_26 : decode cX10_values 26 = .ok (.iinc 2 1, 3) := by decide +kernel
theorem dX10_values_29 : decode cX10_values 29 = .ok (.goto (-25), 3) := by decide +kernel
theorem dX10_values_32 : decode cX10_values 32 = .ok (.iload_n 1, 1) := by decide +kernel
theorem dX10_values_33 : decode cX10_values 33 = .ok (.ireturn, 1) := by decide +kernel
theorem dX10_source_0 : decode cX10_source 0 = .ok (.aload_n 0, 1) := by decide +kernel
theorem dX10_source_1 : decode cX10_source 1 = .ok (.iload_n 2, 1) := by decide +kernel
theorem dX10_source_2 : decode cX10_source 2 = .ok (.iconst (-1), 1) := by decide +kernel
theorem dX10_source_3 : decode cX10_source 3 = .ok (.if_icmp .eq 15, 3) := by decide +kernel
theorem dX10_source_6 : decode cX10_source 6 = .ok (.aload_n 0, 1) := by decide +kernel
theorem dX10_source_7 : decode cX10_source 7 = .ok (.iload_n 2, 1) := by decide +kernel
theorem dX10_source_8 : decode cX10_source 8 = .ok (.invokevirtual 100, 3) := by decide +kernel
theorem dX10_source_11 : decode cX10_source 11 = .ok (.ifCond .eq 7, 3) := by decide +kernel
theorem dX10_source_14 : decode cX10_source 14 = .ok (.iconst 1, 1) := by decide +kernel
theorem dX10_source_15 : decode cX10_source 15 = .ok (.goto 4, 3) := by decide +kernel
theorem dX10_source_18 : decode cX10_source 18 = .ok (.iconst 0, 1) := by decide +kernel
theorem dX10_source_19 : decode cX10_source 19 = .ok (.iconst 1, 1) := by decide +kernel
theorem dX10_source_20 : decode cX10_source 20 = .ok (.invokevirtual 103, 3) := by decide +kernel
theorem dX10_source_23 : decode cX10_source 23 = .ok (.ifCond .ne 50, 3) := by decide +kernel
theorem dX10_source_26 : decode cX10_source 26 = .ok (.aload_n 0, 1) := by decide +kernel
theorem dX10_source_27 : decode cX10_source 27 = .ok (.iload_n 1, 1) := by decide +kernel
theorem dX10_source_28 : decode cX10_source 28 = .ok (.iconst 1, 1) := by decide +kernel
theorem dX10_source_29 : decode cX10_source 29 = .ok (.iconst 3, 1) := by decide +kernel
theorem dX10_source_30 : decode cX10_source 30 = .ok (.invokestatic 37, 3) := by decide +kernel
theorem dX10_source_33 : decode cX10_source 33 = .ok (.ifCond .ne 7, 3) := by decide +kernel
theorem dX10_source_36 : decode cX10_source 36 = .ok (.iconst 1, 1) := by decide +kernel
theorem dX10_source_37 : decode cX10_source 37 = .ok (.goto 4, 3) := by decide +kernel
theorem dX10_source_40 : decode cX10_source 40 = .ok (.iconst 0, 1) := by decide +kernel
theorem dX10_source_41 : decode cX10_source 41 = .ok (.iconst 2, 1) := by decide +kernel
theorem dX10_source_42 : decode cX10_source 42 = .ok (.invokevirtual 29, 3) := by decide +kernel
theorem dX10_source_45 : decode cX10_source 45 = .ok (.ifCond .ne 28, 3) := by decide +kernel
theorem dX10_source_48 : decode cX10_source 48 = .ok (.aload_n 0, 1) := by decide +kernel
theorem dX10_source_49 : decode cX10_source 49 = .ok (.aload_n 0, 1) := by decide +kernel
theorem dX10_source_50 : decode cX10_source 50 = .ok (.getfield 10, 3) := by decide +kernel
theorem dX10_source_53 : decode cX10_source 53 = .ok (.invokevirtual 33, 3) := by decide +kernel
theorem dX10_source_56 : decode cX10_source 56 = .ok (.bipush 10, 2) := by decide +kernel
theorem dX10_source_58 : decode cX10_source 58 = .ok (.if_icmp .ne 7, 3) := by decide +kernel
theorem dX10_source_61 : decode cX10_source 61 = .ok (.iconst 1, 1) := by decide +kernel
theorem dX10_source_62 : decode cX10_source 62 = .ok (.goto 4, 3) := by decide +kernel
theorem dX10_source_65 : decode cX10_source 65 = .ok (.iconst 0, 1) := by decide +kernel
theorem dX10_source_66 : decode cX10_source 66 = .ok (.iconst 3, 1) := by decide +kernel
theorem dX10_source_67 : decode cX10_source 67 = .ok (.invokevirtual 29, 3) := by decide +kernel
theorem dX10_source_70 : decode cX10_source 70 = .ok (.ifCond .eq 5, 3) := by decide +kernel
theorem dX10_source_73 : decode cX10_source 73 = .ok (.iconst 0, 1) := by decide +kernel
theorem dX10_source_74 : decode cX10_source 74 = .ok (.ireturn, 1) := by decide +kernel
theorem dX10_source_75 : decode cX10_source 75 = .ok (.aload_n 0, 1) := by decide +kernel
theorem dX10_source_76 : decode cX10_source 76 = .ok (.getfield 10, 3) := by decide +kernel
theorem dX10_source_79 : decode cX10_source 79 = .ok (.new 57, 3) := by decide +kernel
theorem dX10_source_82 : decode cX10_source 82 = .ok (.dup, 1) := by decide +kernel
theorem dX10_source_83 : decode cX10_source 83 = .ok (.iload_n 1, 1) := by decide +kernel
theorem dX10_source_84 : decode cX10_source 84 = .ok (.iload_n 2, 1) := by decide +kernel
theorem dX10_source_85 : decode cX10_source 85 = .ok (.iload_n 2, 1) := by decide +kernel
theorem dX10_source_86 : decode cX10_source 86 = .ok (.iconst (-1), 1) := by decide +kernel
theorem dX10_source_87 : decode cX10_source 87 = .ok (.if_icmp .ne 13, 3) := by decide +kernel
theorem dX10_source_90 : decode cX10_source 90 = .ok (.aload_n 0, 1) := by decide +kernel
theorem dX10_source_91 : decode cX10_source 91 = .ok (.getfield 10, 3) := by decide +kernel
theorem dX10_source_94 : decode cX10_source 94 = .ok (.invokevirtual 33, 3) := by decide +kernel
theorem dX10_source_97 : decode cX10_source 97 = .ok (.goto 17, 3) := by decide +kernel
theorem dX10_source_100 : decode cX10_source 100 = .ok (.aload_n 0, 1) := by decide +kernel
theorem dX10_source_101 : decode cX10_source 101 = .ok (.getfield 10, 3) := by decide +kernel
theorem dX10_source_104 : decode cX10_source 104 = .ok (.iload_n 2, 1) := by decide +kernel
theorem dX10_source_105 : decode cX10_source 105 = .ok (.invokevirtual 45, 3) := by decide +kernel
theorem dX10_source_108 : decode cX10_source 108 = .ok (.checkcast 57, 3) := by decide +kernel
theorem dX10_source_111 : decode cX10_source 111 = .ok (.getfield 62, 3) := by decide +kernel
theorem dX10_source_114 : decode cX10_source 114 = .ok (.invokespecial 106, 3) := by decide +kernel
theorem dX10_source_117 : decode cX10_source 117 = .ok (.invokevirtual 109, 3) := by decide +kernel
theorem dX10_source_120 : decode cX10_source 120 = .ok (.pop, 1) := by decide +kernel
theorem dX10_source_121 : decode cX10_source 121 = .ok (.aload_n 0, 1) := by decide +kernel
theorem dX10_source_122 : decode cX10_source 122 = .ok (.getfield 10, 3) := by decide +kernel
theorem dX10_source_125 : decode cX10_source 125 = .ok (.invokevirtual 33, 3) := by decide +kernel
theorem dX10_source_128 : decode cX10_source 128 = .ok (.iconst 1, 1) := by decide +kernel
theorem dX10_source_129 : decode cX10_source 129 = .ok (.isub, 1) := by decide +kernel
theorem dX10_source_130 : decode cX10_source 130 = .ok (.ireturn, 1) := by decide +kernel
theorem dX10_story_0 : decode cX10_story 0 = .ok (.aload_n 0, 1) := by decide +kernel
theorem dX10_story_1 : decode cX10_story 1 = .ok (.aload_n 0, 1) := by decide +kernel
theorem dX10_story_2 : decode cX10_story 2 = .ok (.getfield 16, 3) := by decide +kernel
theorem dX10_story_5 : decode cX10_story 5 = .ok (.invokevirtual 33, 3) := by decide +kernel
theorem dX10_story_8 : decode cX10_story 8 = .ok (.bipush 6, 2) := by decide +kernel
theorem dX10_story_10 : decode cX10_story 10 = .ok (.if_icmp .ne 7, 3) := by decide +kernel
theorem dX10_story_13 : decode cX10_story 13 = .ok (.iconst 1, 1) := by decide +kernel
theorem dX10_story_14 : decode cX10_story 14 = .ok (.goto 4, 3) := by decide +kernel
theorem dX10_story_17 : decode cX10_story 17 = .ok (.iconst 0, 1) := by decide +kernel
theorem dX10_story_18 : decode cX10_story 18 = .ok (.iconst 1, 1) := by decide +kernel
theorem dX10_story_19 : decode cX10_story 19 = .ok (.invokevirtual 103, 3) := by decide +kernel
theorem dX10_story_22 : decode cX10_story 22 = .ok (.ifCond .eq 5, 3) := by decide +kernel
theorem dX10_story_25 : decode cX10_story 25 = .ok (.iconst 0, 1) := by decide +kernel
theorem dX10_story_26 : decode cX10_story 26 = .ok (.ireturn, 1) := by decide +kernel
theorem dX10_story_27 : decode cX10_story 27 = .ok (.aload_n 0, 1) := by decide +kernel
theorem dX10_story_28 : decode cX10_story 28 = .ok (.getfield 16, 3) := by decide +kernel
theorem dX10_story_31 : decode cX10_story 31 = .ok (.iconst 4, 1) := by decide +kernel
theorem dX10_story_32 : decode cX10_story 32 = .ok (.anewarray 52, 3) := by decide +kernel
theorem dX10_story_35 : decode cX10_story 35 = .ok (.dup, 1) := by decide +kernel
theorem dX10_story_36 : decode cX10_story 36 = .ok (.iconst 0, 1) := by decide +kernel
theorem dX10_story_37 : decode cX10_story 37 = .ok (.new 52, 3) := by decide +kernel
theorem dX10_story_40 : decode cX10_story 40 = .ok (.dup, 1) := by decide +kernel
theorem dX10_story_41 : decode cX10_story 41 = .ok (.invokespecial 113, 3) := by decide +kernel
theorem dX10_story_44 : decode cX10_story 44 = .ok (.aastore, 1) := by decide +kernel
theorem dX10_story_45 : decode cX10_story 45 = .ok (.dup, 1) := by decide +kernel
theorem dX10_story_46 : decode cX10_story 46 = .ok (.iconst 1, 1) := by decide +kernel
theorem dX10_story_47 : decode cX10_story 47 = .ok (.new 52, 3) := by decide +kernel
theorem dX10_story_50 : decode cX10_story 50 = .ok (.dup, 1) := by decide +kernel
theorem dX10_story_51 : decode cX10_story 51 = .ok (.invokespecial 113, 3) := by decide +kernel
theorem dX10_story_54 : decode cX10_story 54 = .ok (.aastore, 1) := by decide +kernel
theorem dX10_story_55 : decode cX10_story 55 = .ok (.dup, 1) := by decide +kernel
theorem dX10_story_56 : decode cX10_story 56 = .ok (.iconst 2, 1) := by decide +kernel
theorem dX10_story_57 : decode cX10_story 57 = .ok (.new 52, 3) := by decide +kernel
theorem dX10_story_60 : decode cX10_story 60 = .ok (.dup, 1) := by decide +kernel
theorem dX10_story_61 : decode cX10_story 61 = .ok (.invokespecial 113, 3) := by decide +kernel
theorem dX10_story_64 : decode cX10_story 64 = .ok (.aastore, 1) := by decide +kernel
theorem dX10_story_65 : decode cX10_story 65 = .ok (.dup, 1) := by decide +kernel
theorem dX10_story_66 : decode cX10_story 66 = .ok (.iconst 3, 1) := by decide +kernel
theorem dX10_story_67 : decode cX10_story 67 = .ok (.new 52, 3) := by decide +kernel
theorem dX10_story_70 : decode cX10_story 70 = .ok (.dup, 1) := by decide +kernel
theorem dX10_story_71 : decode cX10_story 71 = .ok (.invokespecial 113, 3) := by decide +kernel
theorem dX10_story_74 : decode cX10_story 74 = .ok (.aastore, 1) := by decide +kernel
theorem dX10_story_75 : decode cX10_story 75 = .ok (.invokevirtual 109, 3) := by decide +kernel
theorem dX10_story_78 : decode cX10_story 78 = .ok (.pop, 1) := by decide +kernel
theorem dX10_story_79 : decode cX10_story 79 = .ok (.aload_n 0, 1) := by decide +kernel
theorem dX10_story_80 : decode cX10_story 80 = .ok (.getfield 16, 3) := by decide +kernel
theorem dX10_story_83 : decode cX10_story 83 = .ok (.invokevirtual 33, 3) := by decide +kernel
theorem dX10_story_86 : decode cX10_story 86 = .ok (.iconst 1, 1) := by decide +kernel
theorem dX10_story_87 : decode cX10_story 87 = .ok (.isub, 1) := by decide +kernel
theorem dX10_story_88 : decode cX10_story 88 = .ok (.ireturn, 1) := by decide +kernel
theorem dX10_line_0 : decode cX10_line 0 = .ok (.aload_n 0, 1) := by decide +kernel
theorem dX10_line_1 : decode cX10_line 1 = .ok (.iload_n 1, 1) := by decide +kernel
theorem dX10_line_2 : decode cX10_line 2 = .ok (.iconst 1, 1) := by decide +kernel
theorem dX10_line_3 : decode cX10_line 3 = .ok (.bipush 60, 2) := by decide +kernel
theorem dX10_line_5 : decode cX10_line 5 = .ok (.invokestatic 37, 3) := by decide +kernel
theorem dX10_line_8 : decode cX10_line 8 = .ok (.ifCond .eq 13, 3) := by decide +kernel
theorem dX10_line_11 : decode cX10_line 11 = .ok (.iload_n 2, 1) := by decide +kernel
theorem dX10_line_12 : decode cX10_line 12 = .ok (.iconst 0, 1) := by decide +kernel
theorem dX10_line_13 : decode cX10_line 13 = .ok (.bipush 9, 2) := by decide +kernel
theorem dX10_line_15 : decode cX10_line 15 = .ok (.invokestatic 37, 3) := by decide +kernel
theorem dX10_line_18 : decode cX10_line 18 = .ok (.ifCond .ne 7, 3) := by decide +kernel
theorem dX10_line_21 : decode cX10_line 21 = .ok (.iconst 1, 1) := by decide +kernel
theorem dX10_line_22 : decode cX10_line 22 = .ok (.goto 4, 3) := by decide +kernel
theorem dX10_line_25 : decode cX10_line 25 = .ok (.iconst 0, 1) := by decide +kernel
theorem dX10_line_26 : decode cX10_line 26 = .ok (.iconst 1, 1) := by decide +kernel
theorem dX10_line_27 : decode cX10_line 27 = .ok (.invokevirtual 103, 3) := by decide +kernel
theorem dX10_line_30 : decode cX10_line 30 = .ok (.ifCond .ne 27, 3) := by decide +kernel
theorem dX10_line_33 : decode cX10_line 33 = .ok (.aload_n 0, 1) := by decide +kernel
theorem dX10_line_34 : decode cX10_line 34 = .ok (.aload_n 0, 1) := by decide +kernel
theorem dX10_line_35 : decode cX10_line 35 = .ok (.getfield 22, 3) := by decide +kernel
theorem dX10_line_38 : decode cX10_line 38 = .ok (.invokevirtual 33, 3) := by decide +kernel
theorem dX10_line_41 : decode cX10_line 41 = .ok (.iconst 4, 1) := by decide +kernel
theorem dX10_line_42 : decode cX10_line 42 = .ok (.if_icmp .ne 7, 3) := by decide +kernel
theorem dX10_line_45 : decode cX10_line 45 = .ok (.iconst 1, 1) := by decide +kernel
theorem dX10_line_46 : decode cX10_line 46 = .ok (.goto 4, 3) := by decide +kernel
theorem dX10_line_49 : decode cX10_line 49 = .ok (.iconst 0, 1) := by decide +kernel
theorem dX10_line_50 : decode cX10_line 50 = .ok (.iconst 2, 1) := by decide +kernel
theorem dX10_line_51 : decode cX10_line 51 = .ok (.invokevirtual 29, 3) := by decide +kernel
theorem dX10_line_54 : decode cX10_line 54 = .ok (.ifCond .eq 5, 3) := by decide +kernel
theorem dX10_line_57 : decode cX10_line 57 = .ok (.iconst 0, 1) := by decide +kernel
theorem dX10_line_58 : decode cX10_line 58 = .ok (.ireturn, 1) := by decide +kernel
theorem dX10_line_59 : decode cX10_line 59 = .ok (.aload_n 0, 1) := by decide +kernel
theorem dX10_line_60 : decode cX10_line 60 = .ok (.getfield 22, 3) := by decide +kernel
theorem dX10_line_63 : decode cX10_line 63 = .ok (.new 114, 3) := by decide +kernel
theorem dX10_line_66 : decode cX10_line 66 = .ok (.dup, 1) := by decide +kernel
theorem dX10_line_67 : decode cX10_line 67 = .ok (.iload_n 1, 1) := by decide +kernel
theorem dX10_line_68 : decode cX10_line 68 = .ok (.iload_n 2, 1) := by decide +kernel
theorem dX10_line_69 : decode cX10_line 69 = .ok (.invokespecial 116, 3) := by decide +kernel
theorem dX10_line_72 : decode cX10_line 72 = .ok (.invokevirtual 109, 3) := by decide +kernel
theorem dX10_line_75 : decode cX10_line 75 = .ok (.pop, 1) := by decide +kernel
theorem dX10_line_76 : decode cX10_line 76 = .ok (.aload_n 0, 1) := by decide +kernel
theorem dX10_line_77 : decode cX10_line 77 = .ok (.getfield 22, 3) := by decide +kernel
theorem dX10_line_80 : decode cX10_line 80 = .ok (.invokevirtual 33, 3) := by decide +kernel
theorem dX10_line_83 : decode cX10_line 83 = .ok (.iconst 1, 1) := by decide +kernel
theorem dX10_line_84 : decode cX10_line 84 = .ok (.isub, 1) := by decide +kernel
theorem dX10_line_85 : decode cX10_line 85 = .ok (.ireturn, 1) := by decide +kernel
theorem dX10_report_0 : decode cX10_report 0 = .ok (.aload_n 0, 1) := by decide +kernel
theorem dX10_report_1 : decode cX10_report 1 = .ok (.aload_n 0, 1) := by decide +kernel
theorem dX10_report_2 : decode cX10_report 2 = .ok (.iload_n 1, 1) := by decide +kernel
theorem dX10_report_3 : decode cX10_report 3 = .ok (.invokevirtual 100, 3) := by decide +kernel
theorem dX10_report_6 : decode cX10_report 6 = .ok (.ifCond .ne 12, 3) := by decide +kernel
theorem dX10_report_9 : decode cX10_report 9 = .ok (.aload_n 0, 1) := by decide +kernel
theorem dX10_report_10 : decode cX10_report 10 = .ok (.iload_n 2, 1) := by decide +kernel
theorem dX10_report_11 : decode cX10_report 11 = .ok (.iload_n 3, 1) := by decide +kernel
theorem dX10_report_12 : decode cX10_report 12 = .ok (.invokevirtual 119, 3) := by decide +kernel
theorem dX10_report_15 : decode cX10_report 15 = .ok (.ifCond .eq 7, 3) := by decide +kernel
theorem dX10_report_18 : decode cX10_report 18 = .ok (.iconst 1, 1) := by decide +kernel
theorem dX10_report_19 : decode cX10_report 19 = .ok (.goto 4, 3) := by decide +kernel
theorem dX10_report_22 : decode cX10_report 22 = .ok (.iconst 0, 1) := by decide +kernel
theorem dX10_report_23 : decode cX10_report 23 = .ok (.iconst 1, 1) := by decide +kernel
theorem dX10_report_24 : decode cX10_report 24 = .ok (.invokevirtual 103, 3) := by decide +kernel
theorem dX10_report_27 : decode cX10_report 27 = .ok (.ifCond .ne 27, 3) := by decide +kernel
theorem dX10_report_30 : decode cX10_report 30 = .ok (.aload_n 0, 1) := by decide +kernel
theorem dX10_report_31 : decode cX10_report 31 = .ok (.iload 4, 2) := by decide +kernel
theorem dX10_report_33 : decode cX10_report 33 = .ok (.iconst 0, 1) := by decide +kernel
theorem dX10_report_34 : decode cX10_report 34 = .ok (.bipush 99, 2) := by decide +kernel
theorem dX10_report_36 : decode cX10_report 36 = .ok (.invokestatic 37, 3) := by decide +kernel
theorem dX10_report_39 : decode cX10_report 39 = .ok (.ifCond .ne 7, 3) := by decide +kernel
theorem dX10_report_42 : decode cX10_report 42 = .ok (.iconst 1, 1) := by decide +kernel
theorem dX10_report_43 : decode cX10_report 43 = .ok (.goto 4, 3) := by decide +kernel
theorem dX10_report_46 : decode cX10_report 46 = .ok (.iconst 0, 1) := by decide +kernel
theorem dX10_report_47 : decode cX10_report 47 = .ok (.iconst 2, 1) := by decide +kernel
theorem dX10_report_48 : decode cX10_report 48 = .ok (.invokevirtual 29, 3) := by decide +kernel
theorem dX10_report_51 : decode cX10_report 51 = .ok (.ifCond .eq 5, 3) := by decide +kernel
theorem dX10_report_54 : decode cX10_report 54 = .ok (.iconst 0, 1) := by decide +kernel
theorem dX10_report_55 : decode cX10_report 55 = .ok (.ireturn, 1) := by decide +kernel
theorem dX10_report_56 : decode cX10_report 56 = .ok (.aload_n 0, 1) := by decide +kernel
theorem dX10_report_57 : decode cX10_report 57 = .ok (.iload_n 2, 1) := by decide +kernel
theorem dX10_report_58 : decode cX10_report 58 = .ok (.iload_n 3, 1) := by decide +kernel
theorem dX10_report_59 : decode cX10_report 59 = .ok (.invokevirtual 123, 3) := by decide +kernel
theorem dX10_report_62 : decode cX10_report 62 = .ok (.getfield 51, 3) := by decide +kernel
theorem dX10_report_65 : decode cX10_report 65 = .ok (.iload_n 1, 1) := by decide +kernel
theorem dX10_report_66 : decode cX10_report 66 = .ok (.iload 4, 2) := by decide +kernel
theorem dX10_report_68 : decode cX10_report 68 = .ok (.iastore, 1) := by decide +kernel
theorem dX10_report_69 : decode cX10_report 69 = .ok (.aload_n 0, 1) := by decide +kernel
theorem dX10_report_70 : decode cX10_report 70 = .ok (.aload_n 0, 1) := by decide +kernel
theorem dX10_report_71 : decode cX10_report 71 = .ok (.iload_n 2, 1) := by decide +kernel
theorem dX10_report_72 : decode cX10_report 72 = .ok (.iload_n 3, 1) := by decide +kernel
theorem dX10_report_73 : decode cX10_report 73 = .ok (.invokevirtual 123, 3) := by decide +kernel
theorem dX10_report_76 : decode cX10_report 76 = .ok (.iload 4, 2) := by decide +kernel
theorem dX10_report_78 : decode cX10_report 78 = .ok (.invokevirtual 85, 3) := by decide +kernel
theorem dX10_report_81 : decode cX10_report 81 = .ok (.ireturn, 1) := by decide +kernel
theorem dX10_retract_0 : decode cX10_retract 0 = .ok (.aload_n 0, 1) := by decide +kernel
theorem dX10_retract_1 : decode cX10_retract 1 = .ok (.aload_n 0, 1) := by decide +kernel
theorem dX10_retract_2 : decode cX10_retract 2 = .ok (.iload_n 1, 1) := by decide +kernel
theorem dX10_retract_3 : decode cX10_retract 3 = .ok (.invokevirtual 100, 3) := by decide +kernel
theorem dX10_retract_6 : decode cX10_retract 6 = .ok (.ifCond .ne 12, 3) := by decide +kernel
theorem dX10_retract_9 : decode cX10_retract 9 = .ok (.aload_n 0, 1) := by decide +kernel
theorem dX10_retract_10 : decode cX10_retract 10 = .ok (.iload_n 2, 1) := by decide +kernel
theorem dX10_retract_11 : decode cX10_retract 11 = .ok (.iload_n 3, 1) := by decide +kernel
theorem dX10_retract_12 : decode cX10_retract 12 = .ok (.invokevirtual 119, 3) := by decide +kernel
theorem dX10_retract_15 : decode cX10_retract 15 = .ok (.ifCond .eq 7, 3) := by decide +kernel
theorem dX10_retract_18 : decode cX10_retract 18 = .ok (.iconst 1, 1) := by decide +kernel
theorem dX10_retract_19 : decode cX10_retract 19 = .ok (.goto 4, 3) := by decide +kernel
theorem dX10_retract_22 : decode cX10_retract 22 = .ok (.iconst 0, 1) := by decide +kernel
theorem dX10_retract_23 : decode cX10_retract 23 = .ok (.iconst 1, 1) := by decide +kernel
theorem dX10_retract_24 : decode cX10_retract 24 = .ok (.invokevirtual 103, 3) := by decide +kernel
theorem dX10_retract_27 : decode cX10_retract 27 = .ok (.ifCond .ne 31, 3) := by decide +kernel
theorem dX10_retract_30 : decode cX10_retract 30 = .ok (.aload_n 0, 1) := by decide +kernel
theorem dX10_retract_31 : decode cX10_retract 31 = .ok (.aload_n 0, 1) := by decide +kernel
theorem dX10_retract_32 : decode cX10_retract 32 = .ok (.iload_n 2, 1) := by decide +kernel
theorem dX10_retract_33 : decode cX10_retract 33 = .ok (.iload_n 3, 1) := by decide +kernel
theorem dX10_retract_34 : decode cX10_retract 34 = .ok (.invokevirtual 123, 3) := by decide +kernel
theorem dX10_retract_37 : decode cX10_retract 37 = .ok (.getfield 51, 3) := by decide +kernel
theorem dX10_retract_40 : decode cX10_retract 40 = .ok (.iload_n 1, 1) := by decide +kernel
theorem dX10_retract_41 : decode cX10_retract 41 = .ok (.iaload, 1) := by decide +kernel
theorem dX10_retract_42 : decode cX10_retract 42 = .ok (.iconst (-1), 1) := by decide +kernel
theorem dX10_retract_43 : decode cX10_retract 43 = .ok (.if_icmp .ne 7, 3) := by decide +kernel
theorem dX10_retract_46 : decode cX10_retract 46 = .ok (.iconst 1, 1) := by decide +kernel
theorem dX10_retract_47 : decode cX10_retract 47 = .ok (.goto 4, 3) := by decide +kernel
theorem dX10_retract_50 : decode cX10_retract 50 = .ok (.iconst 0, 1) := by decide +kernel
theorem dX10_retract_51 : decode cX10_retract 51 = .ok (.iconst 2, 1) := by decide +kernel
theorem dX10_retract_52 : decode cX10_retract 52 = .ok (.invokevirtual 29, 3) := by decide +kernel
theorem dX10_retract_55 : decode cX10_retract 55 = .ok (.ifCond .eq 5, 3) := by decide +kernel
theorem dX10_retract_58 : decode cX10_retract 58 = .ok (.iconst 0, 1) := by decide +kernel
theorem dX10_retract_59 : decode cX10_retract 59 = .ok (.ireturn, 1) := by decide +kernel
theorem dX10_retract_60 : decode cX10_retract 60 = .ok (.aload_n 0, 1) := by decide +kernel
theorem dX10_retract_61 : decode cX10_retract 61 = .ok (.iload_n 2, 1) := by decide +kernel
theorem dX10_retract_62 : decode cX10_retract 62 = .ok (.iload_n 3, 1) := by decide +kernel
theorem dX10_retract_63 : decode cX10_retract 63 = .ok (.invokevirtual 123, 3) := by decide +kernel
theorem dX10_retract_66 : decode cX10_retract 66 = .ok (.getfield 51, 3) := by decide +kernel
theorem dX10_retract_69 : decode cX10_retract 69 = .ok (.iload_n 1, 1) := by decide +kernel
theorem dX10_retract_70 : decode cX10_retract 70 = .ok (.iaload, 1) := by decide +kernel
theorem dX10_retract_71 : decode cX10_retract 71 = .ok (.istore 4, 2) := by decide +kernel
theorem dX10_retract_73 : decode cX10_retract 73 = .ok (.aload_n 0, 1) := by decide +kernel
theorem dX10_retract_74 : decode cX10_retract 74 = .ok (.iload_n 2, 1) := by decide +kernel
theorem dX10_retract_75 : decode cX10_retract 75 = .ok (.iload_n 3, 1) := by decide +kernel
theorem dX10_retract_76 : decode cX10_retract 76 = .ok (.invokevirtual 123, 3) := by decide +kernel
theorem dX10_retract_79 : decode cX10_retract 79 = .ok (.getfield 51, 3) := by decide +kernel
theorem dX10_retract_82 : decode cX10_retract 82 = .ok (.iload_n 1, 1) := by decide +kernel
theorem dX10_retract_83 : decode cX10_retract 83 = .ok (.iconst (-1), 1) := by decide +kernel
theorem dX10_retract_84 : decode cX10_retract 84 = .ok (.iastore, 1) := by decide +kernel
theorem dX10_retract_85 : decode cX10_retract 85 = .ok (.iload 4, 2) := by decide +kernel
theorem dX10_retract_87 : decode cX10_retract 87 = .ok (.ireturn, 1) := by decide +kernel
theorem dX10_rival_0 : decode cX10_rival 0 = .ok (.aload_n 0, 1) := by decide +kernel
theorem dX10_rival_1 : decode cX10_rival 1 = .ok (.aload_n 0, 1) := by decide +kernel
theorem dX10_rival_2 : decode cX10_rival 2 = .ok (.iload_n 1, 1) := by decide +kernel
theorem dX10_rival_3 : decode cX10_rival 3 = .ok (.iload_n 2, 1) := by decide +kernel
theorem dX10_rival_4 : decode cX10_rival 4 = .ok (.invokevirtual 119, 3) := by decide +kernel
theorem dX10_rival_7 : decode cX10_rival 7 = .ok (.iconst 1, 1) := by decide +kernel
theorem dX10_rival_8 : decode cX10_rival 8 = .ok (.invokevirtual 103, 3) := by decide +kernel
theorem dX10_rival_11 : decode cX10_rival 11 = .ok (.ifCond .eq 5, 3) := by decide +kernel
theorem dX10_rival_14 : decode cX10_rival 14 = .ok (.iconst 0, 1) := by decide +kernel
theorem dX10_rival_15 : decode cX10_rival 15 = .ok (.ireturn, 1) := by decide +kernel
theorem dX10_rival_16 : decode cX10_rival 16 = .ok (.aload_n 0, 1) := by decide +kernel
theorem dX10_rival_17 : decode cX10_rival 17 = .ok (.iload_n 1, 1) := by decide +kernel
theorem dX10_rival_18 : decode cX10_rival 18 = .ok (.iload_n 2, 1) := by decide +kernel
theorem dX10_rival_19 : decode cX10_rival 19 = .ok (.invokevirtual 123, 3) := by decide +kernel
theorem dX10_rival_22 : decode cX10_rival 22 = .ok (.getfield 127, 3) := by decide +kernel
theorem dX10_rival_25 : decode cX10_rival 25 = .ok (.iconst (-1), 1) := by decide +kernel
theorem dX10_rival_26 : decode cX10_rival 26 = .ok (.if_icmp .ne 7, 3) := by decide +kernel
theorem dX10_rival_29 : decode cX10_rival 29 = .ok (.iconst 1, 1) := by decide +kernel
theorem dX10_rival_30 : decode cX10_rival 30 = .ok (.goto 4, 3) := by decide +kernel
theorem dX10_rival_33 : decode cX10_rival 33 = .ok (.iconst 0, 1) := by decide +kernel
theorem dX10_rival_34 : decode cX10_rival 34 = .ok (.istore_n 3, 1) := by decide +kernel
theorem dX10_rival_35 : decode cX10_rival 35 = .ok (.iload_n 3, 1) := by decide +kernel
theorem dX10_rival_36 : decode cX10_rival 36 = .ok (.ifCond .eq 16, 3) := by decide +kernel
theorem dX10_rival_39 : decode cX10_rival 39 = .ok (.aload_n 0, 1) := by decide +kernel
theorem dX10_rival_40 : decode cX10_rival 40 = .ok (.iload_n 1, 1) := by decide +kernel
theorem dX10_rival_41 : decode cX10_rival 41 = .ok (.iload_n 2, 1) := by decide +kernel
theorem dX10_rival_42 : decode cX10_rival 42 = .ok (.invokevirtual 123, 3) := by decide +kernel
theorem dX10_rival_45 : decode cX10_rival 45 = .ok (.aload_n 0, 1) := by decide +kernel
theorem dX10_rival_46 : decode cX10_rival 46 = .ok (.getfield 130, 3) := by decide +kernel
theorem dX10_rival_49 : decode cX10_rival 49 = .ok (.putfield 127, 3) := by decide +kernel
theorem dX10_rival_52 : decode cX10_rival 52 = .ok (.iload_n 3, 1) := by decide +kernel
theorem dX10_rival_53 : decode cX10_rival 53 = .ok (.ireturn, 1) := by decide +kernel
theorem dX10_down_0 : decode cX10_down 0 = .ok (.aload_n 0, 1) := by decide +kernel
theorem dX10_down_1 : decode cX10_down 1 = .ok (.aload_n 0, 1) := by decide +kernel
theorem dX10_down_2 : decode cX10_down 2 = .ok (.iload_n 1, 1) := by decide +kernel
theorem dX10_down_3 : decode cX10_down 3 = .ok (.invokevirtual 133, 3) := by decide +kernel
theorem dX10_down_6 : decode cX10_down 6 = .ok (.iconst 1, 1) := by decide +kernel
theorem dX10_down_7 : decode cX10_down 7 = .ok (.invokevirtual 103, 3) := by decide +kernel
theorem dX10_down_10 : decode cX10_down 10 = .ok (.ifCond .ne 26, 3) := by decide +kernel
theorem dX10_down_13 : decode cX10_down 13 = .ok (.aload_n 0, 1) := by decide +kernel
theorem dX10_down_14 : decode cX10_down 14 = .ok (.iload_n 2, 1) := by decide +kernel
theorem dX10_down_15 : decode cX10_down 15 = .ok (.iconst 0, 1) := by decide +kernel
theorem dX10_down_16 : decode cX10_down 16 = .ok (.bipush 99, 2) := by decide +kernel
theorem dX10_down_18 : decode cX10_down 18 = .ok (.invokestatic 37, 3) := by decide +kernel
theorem dX10_down_21 : decode cX10_down 21 = .ok (.ifCond .ne 7, 3) := by decide +kernel
theorem dX10_down_24 : decode cX10_down 24 = .ok (.iconst 1, 1) := by decide +kernel
theorem dX10_down_25 : decode cX10_down 25 = .ok (.goto 4, 3) := by decide +kernel
theorem dX10_down_28 : decode cX10_down 28 = .ok (.iconst 0, 1) := by decide +kernel
theorem dX10_down_29 : decode cX10_down 29 = .ok (.iconst 2, 1) := by decide +kernel
theorem dX10_down_30 : decode cX10_down 30 = .ok (.invokevirtual 29, 3) := by decide +kernel
theorem dX10_down_33 : decode cX10_down 33 = .ok (.ifCond .eq 5, 3) := by decide +kernel
theorem dX10_down_36 : decode cX10_down 36 = .ok (.iconst 0, 1) := by decide +kernel
theorem dX10_down_37 : decode cX10_down 37 = .ok (.ireturn, 1) := by decide +kernel
theorem dX10_down_38 : decode cX10_down 38 = .ok (.aload_n 0, 1) := by decide +kernel
theorem dX10_down_39 : decode cX10_down 39 = .ok (.getfield 22, 3) := by decide +kernel
theorem dX10_down_42 : decode cX10_down 42 = .ok (.iload_n 1, 1) := by decide +kernel
theorem dX10_down_43 : decode cX10_down 43 = .ok (.invokevirtual 45, 3) := by decide +kernel
theorem dX10_down_46 : decode cX10_down 46 = .ok (.checkcast 114, 3) := by decide +kernel
theorem dX10_down_49 : decode cX10_down 49 = .ok (.getfield 136, 3) := by decide +kernel
theorem dX10_down_52 : decode cX10_down 52 = .ok (.istore_n 3, 1) := by decide +kernel
theorem dX10_down_53 : decode cX10_down 53 = .ok (.aload_n 0, 1) := by decide +kernel
theorem dX10_down_54 : decode cX10_down 54 = .ok (.getfield 22, 3) := by decide +kernel
theorem dX10_down_57 : decode cX10_down 57 = .ok (.iload_n 1, 1) := by decide +kernel
theorem dX10_down_58 : decode cX10_down 58 = .ok (.invokevirtual 45, 3) := by decide +kernel
theorem dX10_down_61 : decode cX10_down 61 = .ok (.checkcast 114, 3) := by decide +kernel
theorem dX10_down_64 : decode cX10_down 64 = .ok (.iload_n 2, 1) := by decide +kernel
theorem dX10_down_65 : decode cX10_down 65 = .ok (.putfield 136, 3) := by decide +kernel
theorem dX10_down_68 : decode cX10_down 68 = .ok (.iload_n 3, 1) := by decide +kernel
theorem dX10_down_69 : decode cX10_down 69 = .ok (.ireturn, 1) := by decide +kernel
theorem dX10_words_0 : decode cX10_words 0 = .ok (.iload_n 0, 1) := by decide +kernel
theorem dX10_words_1 : decode cX10_words 1 = .ok (.ifCond .ne 8, 3) := by decide +kernel
theorem dX10_words_4 : decode cX10_words 4 = .ok (.bipush 8, 2) := by decide +kernel
theorem dX10_words_6 : decode cX10_words 6 = .ok (.goto 25, 3) := by decide +kernel
theorem dX10_words_9 : decode cX10_words 9 = .ok (.iload_n 0, 1) := by decide +kernel
theorem dX10_words_10 : decode cX10_words 10 = .ok (.iconst 3, 1) := by decide +kernel
theorem dX10_words_11 : decode cX10_words 11 = .ok (.if_icmp .ne 13, 3) := by decide +kernel
theorem dX10_words_14 : decode cX10_words 14 = .ok (.bipush 20, 2) := by decide +kernel
theorem dX10_words_16 : decode cX10_words 16 = .ok (.bipush 15, 2) := by decide +kernel
theorem dX10_words_18 : decode cX10_words 18 = .ok (.iload_n 1, 1) := by decide +kernel
theorem dX10_words_19 : decode cX10_words 19 = .ok (.imul, 1) := by decide +kernel
theorem dX10_words_20 : decode cX10_words 20 = .ok (.iadd, 1) := by decide +kernel
theorem dX10_words_21 : decode cX10_words 21 = .ok (.goto 10, 3) := by decide +kernel
theorem dX10_words_24 : decode cX10_words 24 = .ok (.bipush 60, 2) := by decide +kernel
theorem dX10_words_26 : decode cX10_words 26 = .ok (.bipush 30, 2) := by decide +kernel
theorem dX10_words_28 : decode cX10_words 28 = .ok (.iload_n 1, 1) := by decide +kernel
theorem dX10_words_29 : decode cX10_words 29 = .ok (.imul, 1) := by decide +kernel
theorem dX10_words_30 : decode cX10_words 30 = .ok (.iadd, 1) := by decide +kernel
theorem dX10_words_31 : decode cX10_words 31 = .ok (.ireturn, 1) := by decide +kernel
theorem dX10_add_0 : decode cX10_add 0 = .ok (.aload_n 0, 1) := by decide +kernel
theorem dX10_add_1 : decode cX10_add 1 = .ok (.getfield 19, 3) := by decide +kernel
theorem dX10_add_4 : decode cX10_add 4 = .ok (.aload_n 1, 1) := by decide +kernel
theorem dX10_add_5 : decode cX10_add 5 = .ok (.invokevirtual 109, 3) := by decide +kernel
theorem dX10_add_8 : decode cX10_add 8 = .ok (.pop, 1) := by decide +kernel
theorem dX10_add_9 : decode cX10_add 9 = .ok (.aload_n 0, 1) := by decide +kernel
theorem dX10_add_10 : decode cX10_add 10 = .ok (.getfield 22, 3) := by decide +kernel
theorem dX10_add_13 : decode cX10_add 13 = .ok (.invokevirtual 139, 3) := by decide +kernel
theorem dX10_add_16 : decode cX10_add 16 = .ok (.astore_n 2, 1) := by decide +kernel
theorem dX10_add_17 : decode cX10_add 17 = .ok (.aload_n 2, 1) := by decide +kernel
theorem dX10_add_18 : decode cX10_add 18 = .ok (.invokeinterface 143 1, 5) := by decide +kernel
theorem dX10_add_23 : decode cX10_add 23 = .ok (.ifCond .eq 33, 3) := by decide +kernel
theorem dX10_add_26 : decode cX10_add 26 = .ok (.aload_n 2, 1) := by decide +kernel
theorem dX10_add_27 : decode cX10_add 27 = .ok (.invokeinterface 149 1, 5) := by decide +kernel
theorem dX10_add_32 : decode cX10_add 32 = .ok (.checkcast 114, 3) := by decide +kernel
theorem dX10_add_35 : decode cX10_add 35 = .ok (.astore_n 3, 1) := by decide +kernel
theorem dX10_add_36 : decode cX10_add 36 = .ok (.aload_n 3, 1) := by decide +kernel
theorem dX10_add_37 : decode cX10_add 37 = .ok (.aload_n 0, 1) := by decide +kernel
theorem dX10_add_38 : decode cX10_add 38 = .ok (.getfield 19, 3) := by decide +kernel
theorem dX10_add_41 : decode cX10_add 41 = .ok (.invokevirtual 33, 3) := by decide +kernel
theorem dX10_add_44 : decode cX10_add 44 = .ok (.iconst 1, 1) := by decide +kernel
theorem dX10_add_45 : decode cX10_add 45 = .ok (.isub, 1) := by decide +kernel
theorem dX10_add_46 : decode cX10_add 46 = .ok (.aload_n 1, 1) := by decide +kernel
theorem dX10_add_47 : decode cX10_add 47 = .ok (.getfield 153, 3) := by decide +kernel
theorem dX10_add_50 : decode cX10_add 50 = .ok (.invokevirtual 158, 3) := by decide +kernel
theorem dX10_add_53 : decode cX10_add 53 = .ok (.goto (-36), 3) := by decide +kernel
theorem dX10_add_56 : decode cX10_add 56 = .ok (.return_, 1) := by decide +kernel
theorem dX10_file_0 : decode cX10_file 0 = .ok (.aload_n 0, 1) := by decide +kernel
theorem dX10_file_1 : decode cX10_file 1 = .ok (.aload_n 0, 1) := by decide +kernel
theorem dX10_file_2 : decode cX10_file 2 = .ok (.iload_n 1, 1) := by decide +kernel
theorem dX10_file_3 : decode cX10_file 3 = .ok (.invokevirtual 41, 3) := by decide +kernel
theorem dX10_file_6 : decode cX10_file 6 = .ok (.iconst 1, 1) := by decide +kernel
theorem dX10_file_7 : decode cX10_file 7 = .ok (.invokevirtual 103, 3) := by decide +kernel
theorem dX10_file_10 : decode cX10_file 10 = .ok (.ifCond .ne 77, 3) := by decide +kernel
theorem dX10_file_13 : decode cX10_file 13 = .ok (.aload_n 0, 1) := by decide +kernel
theorem dX10_file_14 : decode cX10_file 14 = .ok (.iload_n 2, 1) := by decide +kernel
theorem dX10_file_15 : decode cX10_file 15 = .ok (.ifCond .eq 13, 3) := by decide +kernel
theorem dX10_file_18 : decode cX10_file 18 = .ok (.iload_n 2, 1) := by decide +kernel
theorem dX10_file_19 : decode cX10_file 19 = .ok (.iconst 3, 1) := by decide +kernel
theorem dX10_file_20 : decode cX10_file 20 = .ok (.if_icmp .eq 8, 3) := by decide +kernel
theorem dX10_file_23 : decode cX10_file 23 = .ok (.iload_n 2, 1) := by decide +kernel
theorem dX10_file_24 : decode cX10_file 24 = .ok (.iconst 4, 1) := by decide +kernel
theorem dX10_file_25 : decode cX10_file 25 = .ok (.if_icmp .ne 25, 3) := by decide +kernel
theorem dX10_file_28 : decode cX10_file 28 = .ok (.iload_n 3, 1) := by decide +kernel
theorem dX10_file_29 : decode cX10_file 29 = .ok (.iconst 1, 1) := by decide +kernel
theorem dX10_file_30 : decode cX10_file 30 = .ok (.bipush 15, 2) := by decide +kernel
theorem dX10_file_32 : decode cX10_file 32 = .ok (.invokestatic 37, 3) := by decide +kernel
theorem dX10_file_35 : decode cX10_file 35 = .ok (.ifCond .eq 15, 3) := by decide +kernel
theorem dX10_file_38 : decode cX10_file 38 = .ok (.iload 5, 2) := by decide +kernel
theorem dX10_file_40 : decode cX10_file 40 = .ok (.iconst 0, 1) := by decide +kernel
theorem dX10_file_41 : decode cX10_file 41 = .ok (.sipush 9999, 3) := by decide +kernel
theorem dX10_file_44 : decode cX10_file 44 = .ok (.invokestatic 37, 3) := by decide +kernel
theorem dX10_file_47 : decode cX10_file 47 = .ok (.ifCond .ne 7, 3) := by decide +kernel
theorem dX10_file_50 : decode cX10_file 50 = .ok (.iconst 1, 1) := by decide +kernel
theorem dX10_file_51 : decode cX10_file 51 = .ok (.goto 4, 3) := by decide +kernel
theorem dX10_file_54 : decode cX10_file 54 = .ok (.iconst 0, 1) := by decide +kernel
theorem dX10_file_55 : decode cX10_file 55 = .ok (.iconst 2, 1) := by decide +kernel
theorem dX10_file_56 : decode cX10_file 56 = .ok (.invokevirtual 29, 3) := by decide +kernel
theorem dX10_file_59 : decode cX10_file 59 = .ok (.ifCond .ne 28, 3) := by decide +kernel
theorem dX10_file_62 : decode cX10_file 62 = .ok (.aload_n 0, 1) := by decide +kernel
theorem dX10_file_63 : decode cX10_file 63 = .ok (.aload_n 0, 1) := by decide +kernel
theorem dX10_file_64 : decode cX10_file 64 = .ok (.getfield 19, 3) := by decide +kernel
theorem dX10_file_67 : decode cX10_file 67 = .ok (.invokevirtual 33, 3) := by decide +kernel
theorem dX10_file_70 : decode cX10_file 70 = .ok (.bipush 60, 2) := by decide +kernel
theorem dX10_file_72 : decode cX10_file 72 = .ok (.if_icmp .ne 7, 3) := by decide +kernel
theorem dX10_file_75 : decode cX10_file 75 = .ok (.iconst 1, 1) := by decide +kernel
theorem dX10_file_76 : decode cX10_file 76 = .ok (.goto 4, 3) := by decide +kernel
theorem dX10_file_79 : decode cX10_file 79 = .ok (.iconst 0, 1) := by decide +kernel
theorem dX10_file_80 : decode cX10_file 80 = .ok (.iconst 3, 1) := by decide +kernel
theorem dX10_file_81 : decode cX10_file 81 = .ok (.invokevirtual 29, 3) := by decide +kernel
theorem dX10_file_84 : decode cX10_file 84 = .ok (.ifCond .eq 5, 3) := by decide +kernel
theorem dX10_file_87 : decode cX10_file 87 = .ok (.iconst 0, 1) := by decide +kernel
theorem dX10_file_88 : decode cX10_file 88 = .ok (.ireturn, 1) := by decide +kernel
theorem dX10_file_89 : decode cX10_file 89 = .ok (.iload_n 3, 1) := by decide +kernel
theorem dX10_file_90 : decode cX10_file 90 = .ok (.invokestatic 65, 3) := by decide +kernel
theorem dX10_file_93 : decode cX10_file 93 = .ok (.istore 6, 2) := by decide +kernel
theorem dX10_file_95 : decode cX10_file 95 = .ok (.new 154, 3) := by decide +kernel
theorem dX10_file_98 : decode cX10_file 98 = .ok (.dup, 1) := by decide +kernel
theorem dX10_file_99 : decode cX10_file 99 = .ok (.iload_n 1, 1) := by decide +kernel
theorem dX10_file_100 : decode cX10_file 100 = .ok (.iload_n 2, 1) := by decide +kernel
theorem dX10_file_101 : decode cX10_file 101 = .ok (.iload_n 3, 1) := by decide +kernel
theorem dX10_file_102 : decode cX10_file 102 = .ok (.iload 4, 2) := by decide +kernel
theorem dX10_file_104 : decode cX10_file 104 = .ok (.iload_n 2, 1) := by decide +kernel
theorem dX10_file_105 : decode cX10_file 105 = .ok (.iload 6, 2) := by decide +kernel
theorem dX10_file_107 : decode cX10_file 107 = .ok (.invokestatic 161, 3) := by decide +kernel
theorem dX10_file_110 : decode cX10_file 110 = .ok (.iload 5, 2) := by decide +kernel
theorem dX10_file_112 : decode cX10_file 112 = .ok (.iconst (-1), 1) := by decide +kernel
theorem dX10_file_113 : decode cX10_file 113 = .ok (.aload_n 0, 1) := by decide +kernel
theorem dX10_file_114 : decode cX10_file 114 = .ok (.getfield 130, 3) := by decide +kernel
theorem dX10_file_117 : decode cX10_file 117 = .ok (.invokespecial 163, 3) := by decide +kernel
theorem dX10_file_120 : decode cX10_file 120 = .ok (.astore 7, 2) := by decide +kernel
theorem dX10_file_122 : decode cX10_file 122 = .ok (.iconst 0, 1) := by decide +kernel
theorem dX10_file_123 : decode cX10_file 123 = .ok (.istore 8, 2) := by decide +kernel
theorem dX10_file_125 : decode cX10_file 125 = .ok (.iload 8, 2) := by decide +kernel
theorem dX10_file_127 : decode cX10_file 127 = .ok (.iconst 4, 1) := by decide +kernel
theorem dX10_file_128 : decode cX10_file 128 = .ok (.if_icmp .ge 74, 3) := by decide +kernel
theorem dX10_file_131 : decode cX10_file 131 = .ok (.iload_n 3, 1) := by decide +kernel
theorem dX10_file_132 : decode cX10_file 132 = .ok (.iload 8, 2) := by decide +kernel
theorem dX10_file_134 : decode cX10_file 134 = .ok (.invokestatic 166, 3) := by decide +kernel
theorem dX10_file_137 : decode cX10_file 137 = .ok (.ifCond .ne 6, 3) := by decide +kernel
theorem dX10_file_140 : decode cX10_file 140 = .ok (.goto 56, 3) := by decide +kernel
theorem dX10_file_143 : decode cX10_file 143 = .ok (.aload 7, 2) := by decide +kernel
theorem dX10_file_145 : decode cX10_file 145 = .ok (.getfield 169, 3) := by decide +kernel
theorem dX10_file_148 : decode cX10_file 148 = .ok (.iload 8, 2) := by decide +kernel
theorem dX10_file_150 : decode cX10_file 150 = .ok (.iload 4, 2) := by decide +kernel
theorem dX10_file_152 : decode cX10_file 152 = .ok (.ifCond .eq 17, 3) := by decide +kernel
theorem dX10_file_155 : decode cX10_file 155 = .ok (.aload_n 0, 1) := by decide +kernel
theorem dX10_file_156 : decode cX10_file 156 = .ok (.aload_n 0, 1) := by decide +kernel
theorem dX10_file_157 : decode cX10_file 157 = .ok (.iload_n 1, 1) := by decide +kernel
theorem dX10_file_158 : decode cX10_file 158 = .ok (.iload 8, 2) := by decide +kernel
theorem dX10_file_160 : decode cX10_file 160 = .ok (.invokevirtual 123, 3) := by decide +kernel
theorem dX10_file_163 : decode cX10_file 163 = .ok (.invokevirtual 172, 3) := by decide +kernel
theorem dX10_file_166 : decode cX10_file 166 = .ok (.goto 14, 3) := by decide +kernel
theorem dX10_file_169 : decode cX10_file 169 = .ok (.aload_n 0, 1) := by decide +kernel
theorem dX10_file_170 : decode cX10_file 170 = .ok (.aload_n 0, 1) := by decide +kernel
theorem dX10_file_171 : decode cX10_file 171 = .ok (.iload_n 1, 1) := by decide +kernel
theorem dX10_file_172 : decode cX10_file 172 = .ok (.iload 8, 2) := by decide +kernel
theorem dX10_file_174 : decode cX10_file 174 = .ok (.invokevirtual 123, 3) := by decide +kernel
theorem dX10_file_177 : decode cX10_file 177 = .ok (.invokevirtual 96, 3) := by decide +kernel
theorem dX10_file_180 : decode cX10_file 180 = .ok (.iastore, 1) := by decide +kernel
theorem dX10_file_181 : decode cX10_file 181 = .ok (.aload 7, 2) := by decide +kernel
theorem dX10_file_183 : decode cX10_file 183 = .ok (.getfield 169, 3) := by decide +kernel
theorem dX10_file_186 : decode cX10_file 186 = .ok (.iload 8, 2) := by decide +kernel
theorem dX10_file_188 : decode cX10_file 188 = .ok (.iaload, 1) := by decide +kernel
theorem dX10_file_189 : decode cX10_file 189 = .ok (.iconst (-1), 1) := by decide +kernel
theorem dX10_file_190 : decode cX10_file 190 = .ok (.if_icmp .ne 6, 3) := by decide +kernel
theorem dX10_file_193 : decode cX10_file 193 = .ok (.bipush (-2), 2) := by decide +kernel
theorem dX10_file_195 : decode cX10_file 195 = .ok (.ireturn, 1) := by decide +kernel
theorem dX10_file_196 : decode cX10_file 196 = .ok (.iinc 8 1, 3) := by decide +kernel
theorem dX10_file_199 : decode cX10_file 199 = .ok (.goto (-74), 3) := by decide +kernel
theorem dX10_file_202 : decode cX10_file 202 = .ok (.iload_n 2, 1) := by decide +kernel
theorem dX10_file_203 : decode cX10_file 203 = .ok (.ifCond .ne 12, 3) := by decide +kernel
theorem dX10_file_206 : decode cX10_file 206 = .ok (.iload 6, 2) := by decide +kernel
theorem dX10_file_208 : decode cX10_file 208 = .ok (.iconst 1, 1) := by decide +kernel
theorem dX10_file_209 : decode cX10_file 209 = .ok (.if_icmp .eq 6, 3) := by decide +kernel
theorem dX10_file_212 : decode cX10_file 212 = .ok (.bipush (-3), 2) := by decide +kernel
theorem dX10_file_214 : decode cX10_file 214 = .ok (.ireturn, 1) := by decide +kernel
theorem dX10_file_215 : decode cX10_file 215 = .ok (.aload_n 0, 1) := by decide +kernel
theorem dX10_file_216 : decode cX10_file 216 = .ok (.aload 7, 2) := by decide +kernel
theorem dX10_file_218 : decode cX10_file 218 = .ok (.invokevirtual 175, 3) := by decide +kernel
theorem dX10_file_221 : decode cX10_file 221 = .ok (.aload_n 0, 1) := by decide +kernel
theorem dX10_file_222 : decode cX10_file 222 = .ok (.getfield 19, 3) := by decide +kernel
theorem dX10_file_225 : decode cX10_file 225 = .ok (.invokevirtual 33, 3) := by decide +kernel
theorem dX10_file_228 : decode cX10_file 228 = .ok (.iconst 1, 1) := by decide +kernel
theorem dX10_file_229 : decode cX10_file 229 = .ok (.isub, 1) := by decide +kernel
theorem dX10_file_230 : decode cX10_file 230 = .ok (.ireturn, 1) := by decide +kernel
theorem dX10_correct_0 : decode cX10_correct 0 = .ok (.aload_n 0, 1) := by decide +kernel
theorem dX10_correct_1 : decode cX10_correct 1 = .ok (.aload_n 0, 1) := by decide +kernel
theorem dX10_correct_2 : decode cX10_correct 2 = .ok (.iload_n 1, 1) := by decide +kernel
theorem dX10_correct_3 : decode cX10_correct 3 = .ok (.invokevirtual 178, 3) := by decide +kernel
theorem dX10_correct_6 : decode cX10_correct 6 = .ok (.iconst 1, 1) := by decide +kernel
theorem dX10_correct_7 : decode cX10_correct 7 = .ok (.invokevirtual 103, 3) := by decide +kernel
theorem dX10_correct_10 : decode cX10_correct 10 = .ok (.ifCond .ne 88, 3) := by decide +kernel
theorem dX10_correct_13 : decode cX10_correct 13 = .ok (.aload_n 0, 1) := by decide +kernel
theorem dX10_correct_14 : decode cX10_correct 14 = .ok (.iload_n 2, 1) := by decide +kernel
theorem dX10_correct_15 : decode cX10_correct 15 = .ok (.iconst 0, 1) := by decide +kernel
theorem dX10_correct_16 : decode cX10_correct 16 = .ok (.iconst 3, 1) := by decide +kernel
theorem dX10_correct_17 : decode cX10_correct 17 = .ok (.invokestatic 37, 3) := by decide +kernel
theorem dX10_correct_20 : decode cX10_correct 20 = .ok (.ifCond .eq 24, 3) := by decide +kernel
theorem dX10_correct_23 : decode cX10_correct 23 = .ok (.aload_n 0, 1) := by decide +kernel
theorem dX10_correct_24 : decode cX10_correct 24 = .ok (.getfield 19, 3) := by decide +kernel
theorem dX10_correct_27 : decode cX10_correct 27 = .ok (.iload_n 1, 1) := by decide +kernel
theorem dX10_correct_28 : decode cX10_correct 28 = .ok (.invokevirtual 45, 3) := by decide +kernel
theorem dX10_correct_31 : decode cX10_correct 31 = .ok (.checkcast 154, 3) := by decide +kernel
theorem dX10_correct_34 : decode cX10_correct 34 = .ok (.getfield 181, 3) := by decide +kernel
theorem dX10_correct_37 : decode cX10_correct 37 = .ok (.iload_n 2, 1) := by decide +kernel
theorem dX10_correct_38 : decode cX10_correct 38 = .ok (.invokestatic 166, 3) := by decide +kernel
theorem dX10_correct_41 : decode cX10_correct 41 = .ok (.ifCond .ne 7, 3) := by decide +kernel
theorem dX10_correct_44 : decode cX10_correct 44 = .ok (.iconst 1, 1) := by decide +kernel
theorem dX10_correct_45 : decode cX10_correct 45 = .ok (.goto 4, 3) := by decide +kernel
theorem dX10_correct_48 : decode cX10_correct 48 = .ok (.iconst 0, 1) := by decide +kernel
theorem dX10_correct_49 : decode cX10_correct 49 = .ok (.iconst 2, 1) := by decide +kernel
theorem dX10_correct_50 : decode cX10_correct 50 = .ok (.invokevirtual 29, 3) := by decide +kernel
theorem dX10_correct_53 : decode cX10_correct 53 = .ok (.ifCond .ne 45, 3) := by decide +kernel
theorem dX10_correct_56 : decode cX10_correct 56 = .ok (.aload_n 0, 1) := by decide +kernel
theorem dX10_correct_57 : decode cX10_correct 57 = .ok (.aload_n 0, 1) := by decide +kernel
theorem dX10_correct_58 : decode cX10_correct 58 = .ok (.getfield 19, 3) := by decide +kernel
theorem dX10_correct_61 : decode cX10_correct 61 = .ok (.iload_n 1, 1) := by decide +kernel
theorem dX10_correct_62 : decode cX10_correct 62 = .ok (.invokevirtual 45, 3) := by decide +kernel
theorem dX10_correct_65 : decode cX10_correct 65 = .ok (.checkcast 154, 3) := by decide +kernel
theorem dX10_correct_68 : decode cX10_correct 68 = .ok (.getfield 184, 3) := by decide +kernel
theorem dX10_correct_71 : decode cX10_correct 71 = .ok (.ifCond .ne 15, 3) := by decide +kernel
theorem dX10_correct_74 : decode cX10_correct 74 = .ok (.aload_n 0, 1) := by decide +kernel
theorem dX10_correct_75 : decode cX10_correct 75 = .ok (.getfield 19, 3) := by decide +kernel
theorem dX10_correct_78 : decode cX10_correct 78 = .ok (.invokevirtual 33, 3) := by decide +kernel
theorem dX10_correct_81 : decode cX10_correct 81 = .ok (.bipush 60, 2) := by decide +kernel
theorem dX10_correct_83 : decode cX10_correct 83 = .ok (.if_icmp .ne 7, 3) := by decide +kernel
theorem dX10_correct_86 : decode cX10_correct 86 = .ok (.iconst 1, 1) := by decide +kernel
theorem dX10_correct_87 : decode cX10_correct 87 = .ok (.goto 4, 3) := by decide +kernel
theorem dX10_correct_90 : decode cX10_correct 90 = .ok (.iconst 0, 1) := by decide +kernel
theorem dX10_correct_91 : decode cX10_correct 91 = .ok (.iconst 3, 1) := by decide +kernel
theorem dX10_correct_92 : decode cX10_correct 92 = .ok (.invokevirtual 29, 3) := by decide +kernel
theorem dX10_correct_95 : decode cX10_correct 95 = .ok (.ifCond .eq 5, 3) := by decide +kernel
theorem dX10_correct_98 : decode cX10_correct 98 = .ok (.iconst 0, 1) := by decide +kernel
theorem dX10_correct_99 : decode cX10_correct 99 = .ok (.ireturn, 1) := by decide +kernel
theorem dX10_correct_100 : decode cX10_correct 100 = .ok (.aload_n 0, 1) := by decide +kernel
theorem dX10_correct_101 : decode cX10_correct 101 = .ok (.getfield 19, 3) := by decide +kernel
theorem dX10_correct_104 : decode cX10_correct 104 = .ok (.iload_n 1, 1) := by decide +kernel
theorem dX10_correct_105 : decode cX10_correct 105 = .ok (.invokevirtual 45, 3) := by decide +kernel
theorem dX10_correct_108 : decode cX10_correct 108 = .ok (.checkcast 154, 3) := by decide +kernel
theorem dX10_correct_111 : decode cX10_correct 111 = .ok (.astore_n 3, 1) := by decide +kernel
theorem dX10_correct_112 : decode cX10_correct 112 = .ok (.aload_n 0, 1) := by decide +kernel
theorem dX10_correct_113 : decode cX10_correct 113 = .ok (.aload_n 0, 1) := by decide +kernel
theorem dX10_correct_114 : decode cX10_correct 114 = .ok (.aload_n 3, 1) := by decide +kernel
theorem dX10_correct_115 : decode cX10_correct 115 = .ok (.getfield 188, 3) := by decide +kernel
theorem dX10_correct_118 : decode cX10_correct 118 = .ok (.iload_n 2, 1) := by decide +kernel
theorem dX10_correct_119 : decode cX10_correct 119 = .ok (.invokevirtual 123, 3) := by decide +kernel
theorem dX10_correct_122 : decode cX10_correct 122 = .ok (.invokevirtual 96, 3) := by decide +kernel
theorem dX10_correct_125 : decode cX10_correct 125 = .ok (.istore 4, 2) := by decide +kernel
theorem dX10_correct_127 : decode cX10_correct 127 = .ok (.iload 4, 2) := by decide +kernel
theorem dX10_correct_129 : decode cX10_correct 129 = .ok (.iconst (-1), 1) := by decide +kernel
theorem dX10_correct_130 : decode cX10_correct 130 = .ok (.if_icmp .eq 14, 3) := by decide +kernel
theorem dX10_correct_133 : decode cX10_correct 133 = .ok (.iload 4, 2) := by decide +kernel
theorem dX10_correct_135 : decode cX10_correct 135 = .ok (.aload_n 3, 1) := by decide +kernel
theorem dX10_correct_136 : decode cX10_correct 136 = .ok (.getfield 169, 3) := by decide +kernel
theorem dX10_correct_139 : decode cX10_correct 139 = .ok (.iload_n 2, 1) := by decide +kernel
theorem dX10_correct_140 : decode cX10_correct 140 = .ok (.iaload, 1) := by decide +kernel
theorem dX10_correct_141 : decode cX10_correct 141 = .ok (.if_icmp .ne 6, 3) := by decide +kernel
theorem dX10_correct_144 : decode cX10_correct 144 = .ok (.bipush (-2), 2) := by decide +kernel
theorem dX10_correct_146 : decode cX10_correct 146 = .ok (.ireturn, 1) := by decide +kernel
theorem dX10_correct_147 : decode cX10_correct 147 = .ok (.new 154, 3) := by decide +kernel
theorem dX10_correct_150 : decode cX10_correct 150 = .ok (.dup, 1) := by decide +kernel
theorem dX10_correct_151 : decode cX10_correct 151 = .ok (.aload_n 3, 1) := by decide +kernel
theorem dX10_correct_152 : decode cX10_correct 152 = .ok (.getfield 188, 3) := by decide +kernel
theorem dX10_correct_155 : decode cX10_correct 155 = .ok (.iconst 2, 1) := by decide +kernel
theorem dX10_correct_156 : decode cX10_correct 156 = .ok (.iconst 1, 1) := by decide +kernel
theorem dX10_correct_157 : decode cX10_correct 157 = .ok (.iload_n 2, 1) := by decide +kernel
theorem dX10_correct_158 : decode cX10_correct 158 = .ok (.ishl, 1) := by decide +kernel
theorem dX10_correct_159 : decode cX10_correct 159 = .ok (.iconst 0, 1) := by decide +kernel
theorem dX10_correct_160 : decode cX10_correct 160 = .ok (.bipush 15, 2) := by decide +kernel
theorem dX10_correct_162 : decode cX10_correct 162 = .ok (.iconst 0, 1) := by decide +kernel
theorem dX10_correct_163 : decode cX10_correct 163 = .ok (.iload_n 1, 1) := by decide +kernel
theorem dX10_correct_164 : decode cX10_correct 164 = .ok (.aload_n 0, 1) := by decide +kernel
theorem dX10_correct_165 : decode cX10_correct 165 = .ok (.getfield 130, 3) := by decide +kernel
theorem dX10_correct_168 : decode cX10_correct 168 = .ok (.invokespecial 163, 3) := by decide +kernel
theorem dX10_correct_171 : decode cX10_correct 171 = .ok (.astore 5, 2) := by decide +kernel
theorem dX10_correct_173 : decode cX10_correct 173 = .ok (.aload 5, 2) := by decide +kernel
theorem dX10_correct_175 : decode cX10_correct 175 = .ok (.getfield 169, 3) := by decide +kernel
theorem dX10_correct_178 : decode cX10_correct 178 = .ok (.iload_n 2, 1) := by decide +kernel
theorem dX10_correct_179 : decode cX10_correct 179 = .ok (.iload 4, 2) := by decide +kernel
theorem dX10_correct_181 : decode cX10_correct 181 = .ok (.iastore, 1) := by decide +kernel
theorem dX10_correct_182 : decode cX10_correct 182 = .ok (.aload_n 0, 1) := by decide +kernel
theorem dX10_correct_183 : decode cX10_correct 183 = .ok (.aload 5, 2) := by decide +kernel
theorem dX10_correct_185 : decode cX10_correct 185 = .ok (.invokevirtual 175, 3) := by decide +kernel
theorem dX10_correct_188 : decode cX10_correct 188 = .ok (.aload_n 0, 1) := by decide +kernel
theorem dX10_correct_189 : decode cX10_correct 189 = .ok (.getfield 19, 3) := by decide +kernel
theorem dX10_correct_192 : decode cX10_correct 192 = .ok (.invokevirtual 33, 3) := by decide +kernel
theorem dX10_correct_195 : decode cX10_correct 195 = .ok (.iconst 1, 1) := by decide +kernel
theorem dX10_correct_196 : decode cX10_correct 196 = .ok (.isub, 1) := by decide +kernel
theorem dX10_correct_197 : decode cX10_correct 197 = .ok (.ireturn, 1) := by decide +kernel
theorem dX10_kill_0 : decode cX10_kill 0 = .ok (.aload_n 0, 1) := by decide +kernel
theorem dX10_kill_1 : decode cX10_kill 1 = .ok (.aload_n 0, 1) := by decide +kernel
theorem dX10_kill_2 : decode cX10_kill 2 = .ok (.iload_n 1, 1) := by decide +kernel
theorem dX10_kill_3 : decode cX10_kill 3 = .ok (.invokevirtual 178, 3) := by decide +kernel
theorem dX10_kill_6 : decode cX10_kill 6 = .ok (.iconst 1, 1) := by decide +kernel
theorem dX10_kill_7 : decode cX10_kill 7 = .ok (.invokevirtual 103, 3) := by decide +kernel
theorem dX10_kill_10 : decode cX10_kill 10 = .ok (.ifCond .ne 63, 3) := by decide +kernel
theorem dX10_kill_13 : decode cX10_kill 13 = .ok (.aload_n 0, 1) := by decide +kernel
theorem dX10_kill_14 : decode cX10_kill 14 = .ok (.aload_n 0, 1) := by decide +kernel
theorem dX10_kill_15 : decode cX10_kill 15 = .ok (.getfield 19, 3) := by decide +kernel
theorem dX10_kill_18 : decode cX10_kill 18 = .ok (.iload_n 1, 1) := by decide +kernel
theorem dX10_kill_19 : decode cX10_kill 19 = .ok (.invokevirtual 45, 3) := by decide +kernel
theorem dX10_kill_22 : decode cX10_kill 22 = .ok (.checkcast 154, 3) := by decide +kernel
theorem dX10_kill_25 : decode cX10_kill 25 = .ok (.getfield 191, 3) := by decide +kernel
theorem dX10_kill_28 : decode cX10_kill 28 = .ok (.iconst 1, 1) := by decide +kernel
theorem dX10_kill_29 : decode cX10_kill 29 = .ok (.if_icmp .eq 32, 3) := by decide +kernel
theorem dX10_kill_32 : decode cX10_kill 32 = .ok (.aload_n 0, 1) := by decide +kernel
theorem dX10_kill_33 : decode cX10_kill 33 = .ok (.getfield 19, 3) := by decide +kernel
theorem dX10_kill_36 : decode cX10_kill 36 = .ok (.iload_n 1, 1) := by decide +kernel
theorem dX10_kill_37 : decode cX10_kill 37 = .ok (.invokevirtual 45, 3) := by decide +kernel
theorem dX10_kill_40 : decode cX10_kill 40 = .ok (.checkcast 154, 3) := by decide +kernel
theorem dX10_kill_43 : decode cX10_kill 43 = .ok (.getfield 184, 3) := by decide +kernel
theorem dX10_kill_46 : decode cX10_kill 46 = .ok (.ifCond .ne 15, 3) := by decide +kernel
theorem dX10_kill_49 : decode cX10_kill 49 = .ok (.aload_n 0, 1) := by decide +kernel
theorem dX10_kill_50 : decode cX10_kill 50 = .ok (.getfield 19, 3) := by decide +kernel
theorem dX10_kill_53 : decode cX10_kill 53 = .ok (.invokevirtual 33, 3) := by decide +kernel
theorem dX10_kill_56 : decode cX10_kill 56 = .ok (.bipush 60, 2) := by decide +kernel
theorem dX10_kill_58 : decode cX10_kill 58 = .ok (.if_icmp .ne 7, 3) := by decide +kernel
theorem dX10_kill_61 : decode cX10_kill 61 = .ok (.iconst 1, 1) := by decide +kernel
theorem dX10_kill_62 : decode cX10_kill 62 = .ok (.goto 4, 3) := by decide +kernel
theorem dX10_kill_65 : decode cX10_kill 65 = .ok (.iconst 0, 1) := by decide +kernel
theorem dX10_kill_66 : decode cX10_kill 66 = .ok (.iconst 2, 1) := by decide +kernel
theorem dX10_kill_67 : decode cX10_kill 67 = .ok (.invokevirtual 29, 3) := by decide +kernel
theorem dX10_kill_70 : decode cX10_kill 70 = .ok (.ifCond .eq 5, 3) := by decide +kernel
theorem dX10_kill_73 : decode cX10_kill 73 = .ok (.iconst 0, 1) := by decide +kernel
theorem dX10_kill_74 : decode cX10_kill 74 = .ok (.ireturn, 1) := by decide +kernel
theorem dX10_kill_75 : decode cX10_kill 75 = .ok (.aload_n 0, 1) := by decide +kernel
theorem dX10_kill_76 : decode cX10_kill 76 = .ok (.getfield 19, 3) := by decide +kernel
theorem dX10_kill_79 : decode cX10_kill 79 = .ok (.iload_n 1, 1) := by decide +kernel
theorem dX10_kill_80 : decode cX10_kill 80 = .ok (.invokevirtual 45, 3) := by decide +kernel
theorem dX10_kill_83 : decode cX10_kill 83 = .ok (.checkcast 154, 3) := by decide +kernel
theorem dX10_kill_86 : decode cX10_kill 86 = .ok (.iconst 1, 1) := by decide +kernel
theorem dX10_kill_87 : decode cX10_kill 87 = .ok (.putfield 184, 3) := by decide +kernel
theorem dX10_kill_90 : decode cX10_kill 90 = .ok (.aload_n 0, 1) := by decide +kernel
theorem dX10_kill_91 : decode cX10_kill 91 = .ok (.getfield 19, 3) := by decide +kernel
theorem dX10_kill_94 : decode cX10_kill 94 = .ok (.new 154, 3) := by decide +kernel
theorem dX10_kill_97 : decode cX10_kill 97 = .ok (.dup, 1) := by decide +kernel
theorem dX10_kill_98 : decode cX10_kill 98 = .ok (.aload_n 0, 1) := by decide +kernel
theorem dX10_kill_99 : decode cX10_kill 99 = .ok (.getfield 19, 3) := by decide +kernel
theorem dX10_kill_102 : decode cX10_kill 102 = .ok (.iload_n 1, 1) := by decide +kernel
theorem dX10_kill_103 : decode cX10_kill 103 = .ok (.invokevirtual 45, 3) := by decide +kernel
theorem dX10_kill_106 : decode cX10_kill 106 = .ok (.checkcast 154, 3) := by decide +kernel
theorem dX10_kill_109 : decode cX10_kill 109 = .ok (.getfield 188, 3) := by decide +kernel
theorem dX10_kill_112 : decode cX10_kill 112 = .ok (.iconst 1, 1) := by decide +kernel
theorem dX10_kill_113 : decode cX10_kill 113 = .ok (.iconst 0, 1) := by decide +kernel
theorem dX10_kill_114 : decode cX10_kill 114 = .ok (.iconst 0, 1) := by decide +kernel
theorem dX10_kill_115 : decode cX10_kill 115 = .ok (.iconst 5, 1) := by decide +kernel
theorem dX10_kill_116 : decode cX10_kill 116 = .ok (.iconst 0, 1) := by decide +kernel
theorem dX10_kill_117 : decode cX10_kill 117 = .ok (.iload_n 1, 1) := by decide +kernel
theorem dX10_kill_118 : decode cX10_kill 118 = .ok (.aload_n 0, 1) := by decide +kernel
theorem dX10_kill_119 : decode cX10_kill 119 = .ok (.getfield 130, 3) := by decide +kernel
theorem dX10_kill_122 : decode cX10_kill 122 = .ok (.invokespecial 163, 3) := by decide +kernel
theorem dX10_kill_125 : decode cX10_kill 125 = .ok (.invokevirtual 109, 3) := by decide +kernel
theorem dX10_kill_128 : decode cX10_kill 128 = .ok (.pop, 1) := by decide +kernel
theorem dX10_kill_129 : decode cX10_kill 129 = .ok (.iconst 0, 1) := by decide +kernel
theorem dX10_kill_130 : decode cX10_kill 130 = .ok (.istore_n 2, 1) := by decide +kernel
theorem dX10_kill_131 : decode cX10_kill 131 = .ok (.aload_n 0, 1) := by decide +kernel
theorem dX10_kill_132 : decode cX10_kill 132 = .ok (.getfield 22, 3) := by decide +kernel
theorem dX10_kill_135 : decode cX10_kill 135 = .ok (.invokevirtual 139, 3) := by decide +kernel
theorem dX10_kill_138 : decode cX10_kill 138 = .ok (.astore_n 3, 1) := by decide +kernel
theorem dX10_kill_139 : decode cX10_kill 139 = .ok (.aload_n 3, 1) := by decide +kernel
theorem dX10_kill_140 : decode cX10_kill 140 = .ok (.invokeinterface 143 1, 5) := by decide +kernel
theorem dX10_kill_145 : decode cX10_kill 145 = .ok (.ifCond .eq 57, 3) := by decide +kernel
theorem dX10_kill_148 : decode cX10_kill 148 = .ok (.aload_n 3, 1) := by decide +kernel
theorem dX10_kill_149 : decode cX10_kill 149 = .ok (.invokeinterface 149 1, 5) := by decide +kernel
theorem dX10_kill_154 : decode cX10_kill 154 = .ok (.checkcast 114, 3) := by decide +kernel
theorem dX10_kill_157 : decode cX10_kill 157 = .ok (.astore 4, 2) := by decide +kernel
theorem dX10_kill_159 : decode cX10_kill 159 = .ok (.aload 4, 2) := by decide +kernel
theorem dX10_kill_161 : decode cX10_kill 161 = .ok (.getfield 194, 3) := by decide +kernel
theorem dX10_kill_164 : decode cX10_kill 164 = .ok (.iload_n 1, 1) := by decide +kernel
theorem dX10_kill_165 : decode cX10_kill 165 = .ok (.iaload, 1) := by decide +kernel
theorem dX10_kill_166 : decode cX10_kill 166 = .ok (.iconst (-1), 1) := by decide +kernel
theorem dX10_kill_167 : decode cX10_kill 167 = .ok (.if_icmp .eq 24, 3) := by decide +kernel
theorem dX10_kill_170 : decode cX10_kill 170 = .ok (.aload 4, 2) := by decide +kernel
theorem dX10_kill_172 : decode cX10_kill 172 = .ok (.aload_n 0, 1) := by decide +kernel
theorem dX10_kill_173 : decode cX10_kill 173 = .ok (.getfield 19, 3) := by decide +kernel
theorem dX10_kill_176 : decode cX10_kill 176 = .ok (.invokevirtual 33, 3) := by decide +kernel
theorem dX10_kill_179 : decode cX10_kill 179 = .ok (.iconst 1, 1) := by decide +kernel
theorem dX10_kill_180 : decode cX10_kill 180 = .ok (.isub, 1) := by decide +kernel
theorem dX10_kill_181 : decode cX10_kill 181 = .ok (.iconst 5, 1) := by decide +kernel
theorem dX10_kill_182 : decode cX10_kill 182 = .ok (.invokevirtual 158, 3) := by decide +kernel
theorem dX10_kill_185 : decode cX10_kill 185 = .ok (.iinc 2 1, 3) := by decide +kernel
theorem dX10_kill_188 : decode cX10_kill 188 = .ok (.goto 11, 3) := by decide +kernel
theorem dX10_kill_191 : decode cX10_kill 191 = .ok (.aload 4, 2) := by decide +kernel
theorem dX10_kill_193 : decode cX10_kill 193 = .ok (.getfield 197, 3) := by decide +kernel
theorem dX10_kill_196 : decode cX10_kill 196 = .ok (.iload_n 1, 1) := by decide +kernel
theorem dX10_kill_197 : decode cX10_kill 197 = .ok (.iconst 0, 1) := by decide +kernel
theorem dX10_kill_198 : decode cX10_kill 198 = .ok (.bastore, 1) := by decide +kernel
theorem dX10_kill_199 : decode cX10_kill 199 = .ok (.goto (-60), 3) := by decide +kernel
theorem dX10_kill_202 : decode cX10_kill 202 = .ok (.iload_n 2, 1) := by decide +kernel
theorem dX10_kill_203 : decode cX10_kill 203 = .ok (.ireturn, 1) := by decide +kernel
theorem dX10_pass_0 : decode cX10_pass 0 = .ok (.aload_n 0, 1) := by decide +kernel
theorem dX10_pass_1 : decode cX10_pass 1 = .ok (.iload_n 1, 1) := by decide +kernel
theorem dX10_pass_2 : decode cX10_pass 2 = .ok (.iconst 1, 1) := by decide +kernel
theorem dX10_pass_3 : decode cX10_pass 3 = .ok (.bipush 99, 2) := by decide +kernel
theorem dX10_pass_5 : decode cX10_pass 5 = .ok (.invokestatic 37, 3) := by decide +kernel
theorem dX10_pass_8 : decode cX10_pass 8 = .ok (.ifCond .ne 7, 3) := by decide +kernel
theorem dX10_pass_11 : decode cX10_pass 11 = .ok (.iconst 1, 1) := by decide +kernel
theorem dX10_pass_12 : decode cX10_pass 12 = .ok (.goto 4, 3) := by decide +kernel
theorem dX10_pass_15 : decode cX10_pass 15 = .ok (.iconst 0, 1) := by decide +kernel
theorem dX10_pass_16 : decode cX10_pass 16 = .ok (.iconst 1, 1) := by decide +kernel
theorem dX10_pass_17 : decode cX10_pass 17 = .ok (.invokevirtual 103, 3) := by decide +kernel
theorem dX10_pass_20 : decode cX10_pass 20 = .ok (.ifCond .ne 28, 3) := by decide +kernel
theorem dX10_pass_23 : decode cX10_pass 23 = .ok (.aload_n 0, 1) := by decide +kernel
theorem dX10_pass_24 : decode cX10_pass 24 = .ok (.aload_n 0, 1) := by decide +kernel
theorem dX10_pass_25 : decode cX10_pass 25 = .ok (.getfield 130, 3) := by decide +kernel
theorem dX10_pass_28 : decode cX10_pass 28 = .ok (.iload_n 1, 1) := by decide +kernel
theorem dX10_pass_29 : decode cX10_pass 29 = .ok (.iadd, 1) := by decide +kernel
theorem dX10_pass_30 : decode cX10_pass 30 = .ok (.sipush 9999, 3) := by decide +kernel
theorem dX10_pass_33 : decode cX10_pass 33 = .ok (.if_icmp .le 7, 3) := by decide +kernel
theorem dX10_pass_36 : decode cX10_pass 36 = .ok (.iconst 1, 1) := by decide +kernel
theorem dX10_pass_37 : decode cX10_pass 37 = .ok (.goto 4, 3) := by decide +kernel
theorem dX10_pass_40 : decode cX10_pass 40 = .ok (.iconst 0, 1) := by decide +kernel
theorem dX10_pass_41 : decode cX10_pass 41 = .ok (.iconst 2, 1) := by decide +kernel
theorem dX10_pass_42 : decode cX10_pass 42 = .ok (.invokevirtual 29, 3) := by decide +kernel
theorem dX10_pass_45 : decode cX10_pass 45 = .ok (.ifCond .eq 5, 3) := by decide +kernel
theorem dX10_pass_48 : decode cX10_pass 48 = .ok (.iconst 0, 1) := by decide +kernel
theorem dX10_pass_49 : decode cX10_pass 49 = .ok (.ireturn, 1) := by decide +kernel
theorem dX10_pass_50 : decode cX10_pass 50 = .ok (.iconst 0, 1) := by decide +kernel
theorem dX10_pass_51 : decode cX10_pass 51 = .ok (.istore_n 2, 1) := by decide +kernel
theorem dX10_pass_52 : decode cX10_pass 52 = .ok (.iconst 0, 1) := by decide +kernel
theorem dX10_pass_53 : decode cX10_pass 53 = .ok (.istore_n 3, 1) := by decide +kernel
theorem dX10_pass_54 : decode cX10_pass 54 = .ok (.iload_n 3, 1) := by decide +kernel
theorem dX10_pass_55 : decode cX10_pass 55 = .ok (.iload_n 1, 1) := by decide +kernel
theorem dX10_pass_56 : decode cX10_pass 56 = .ok (.if_icmp .ge 69, 3) := by decide +kernel
theorem dX10_pass_59 : decode cX10_pass 59 = .ok (.aload_n 0, 1) := by decide +kernel
theorem dX10_pass_60 : decode cX10_pass 60 = .ok (.dup, 1) := by decide +kernel
theorem dX10_pass_61 : decode cX10_pass 61 = .ok (.getfield 130, 3) := by decide +kernel
theorem dX10_pass_64 : decode cX10_pass 64 = .ok (.iconst 1, 1) := by decide +kernel
theorem dX10_pass_65 : decode cX10_pass 65 = .ok (.iadd, 1) := by decide +kernel
theorem dX10_pass_66 : decode cX10_pass 66 = .ok (.putfield 130, 3) := by decide +kernel
theorem dX10_pass_69 : decode cX10_pass 69 = .ok (.aload_n 0, 1) := by decide +kernel
theorem dX10_pass_70 : decode cX10_pass 70 = .ok (.getfield 22, 3) := by decide +kernel
theorem dX10_pass_73 : decode cX10_pass 73 = .ok (.invokevirtual 139, 3) := by decide +kernel
theorem dX10_pass_76 : decode cX10_pass 76 = .ok (.astore 4, 2) := by decide +kernel
theorem dX10_pass_78 : decode cX10_pass 78 = .ok (.aload 4, 2) := by decide +kernel
theorem dX10_pass_80 : decode cX10_pass 80 = .ok (.invokeinterface 143 1, 5) := by decide +kernel
theorem dX10_pass_85 : decode cX10_pass 85 = .ok (.ifCond .eq 34, 3) := by decide +kernel
theorem dX10_pass_88 : decode cX10_pass 88 = .ok (.aload 4, 2) := by decide +kernel
theorem dX10_pass_90 : decode cX10_pass 90 = .ok (.invokeinterface 149 1, 5) := by decide +kernel
theorem dX10_pass_95 : decode cX10_pass 95 = .ok (.checkcast 114, 3) := by decide +kernel
theorem dX10_pass_98 : decode cX10_pass 98 = .ok (.astore 5, 2) := by decide +kernel
theorem dX10_pass_100 : decode cX10_pass 100 = .ok (.iload_n 2, 1) := by decide +kernel
theorem dX10_pass_101 : decode cX10_pass 101 = .ok (.aload 5, 2) := by decide +kernel
theorem dX10_pass_103 : decode cX10_pass 103 = .ok (.aload_n 0, 1) := by decide +kernel
theorem dX10_pass_104 : decode cX10_pass 104 = .ok (.getfield 19, 3) := by decide +kernel
theorem dX10_pass_107 : decode cX10_pass 107 = .ok (.aload_n 0, 1) := by decide +kernel
theorem dX10_pass_108 : decode cX10_pass 108 = .ok (.getfield 130, 3) := by decide +kernel
theorem dX10_pass_111 : decode cX10_pass 111 = .ok (.invokevirtual 201, 3) := by decide +kernel
theorem dX10_pass_114 : decode cX10_pass 114 = .ok (.iadd, 1) := by decide +kernel
theorem dX10_pass_115 : decode cX10_pass 115 = .ok (.istore_n 2, 1) := by decide +kernel
theorem dX10_pass_116 : decode cX10_pass 116 = .ok (.goto (-38), 3) := by decide +kernel
theorem dX10_pass_119 : decode cX10_pass 119 = .ok (.iinc 3 1, 3) := by decide +kernel
theorem dX10_pass_122 : decode cX10_pass 122 = .ok (.goto (-68), 3) := by decide +kernel
theorem dX10_pass_125 : decode cX10_pass 125 = .ok (.iload_n 2, 1) := by decide +kernel
theorem dX10_pass_126 : decode cX10_pass 126 = .ok (.ireturn, 1) := by decide +kernel
theorem dX10_areIndependent_0 : decode cX10_areIndependent 0 = .ok (.aload_n 0, 1) := by decide +kernel
theorem dX10_areIndependent_1 : decode cX10_areIndependent 1 = .ok (.aload_n 0, 1) := by decide +kernel
theorem dX10_areIndependent_2 : decode cX10_areIndependent 2 = .ok (.iload_n 1, 1) := by decide +kernel
theorem dX10_areIndependent_3 : decode cX10_areIndependent 3 = .ok (.invokevirtual 100, 3) := by decide +kernel
theorem dX10_areIndependent_6 : decode cX10_areIndependent 6 = .ok (.ifCond .ne 11, 3) := by decide +kernel
theorem dX10_areIndependent_9 : decode cX10_areIndependent 9 = .ok (.aload_n 0, 1) := by decide +kernel
theorem dX10_areIndependent_10 : decode cX10_areIndependent 10 = .ok (.iload_n 2, 1) := by decide +kernel
theorem dX10_areIndependent_11 : decode cX10_areIndependent 11 = .ok (.invokevirtual 100, 3) := by decide +kernel
theorem dX10_areIndependent_14 : decode cX10_areIndependent 14 = .ok (.ifCond .eq 7, 3) := by decide +kernel
theorem dX10_areIndependent_17 : decode cX10_areIndependent 17 = .ok (.iconst 1, 1) := by decide +kernel
theorem dX10_areIndependent_18 : decode cX10_areIndependent 18 = .ok (.goto 4, 3) := by decide +kernel
theorem dX10_areIndependent_21 : decode cX10_areIndependent 21 = .ok (.iconst 0, 1) := by decide +kernel
theorem dX10_areIndependent_22 : decode cX10_areIndependent 22 = .ok (.iconst 1, 1) := by decide +kernel
theorem dX10_areIndependent_23 : decode cX10_areIndependent 23 = .ok (.invokevirtual 103, 3) := by decide +kernel
theorem dX10_areIndependent_26 : decode cX10_areIndependent 26 = .ok (.ifCond .ne 38, 3) := by decide +kernel
theorem dX10_areIndependent_29 : decode cX10_areIndependent 29 = .ok (.aload_n 0, 1) := by decide +kernel
theorem dX10_areIndependent_30 : decode cX10_areIndependent 30 = .ok (.getfield 10, 3) := by decide +kernel
theorem dX10_areIndependent_33 : decode cX10_areIndependent 33 = .ok (.iload_n 1, 1) := by decide +kernel
theorem dX10_areIndependent_34 : decode cX10_areIndependent 34 = .ok (.invokevirtual 45, 3) := by decide +kernel
theorem dX10_areIndependent_37 : decode cX10_areIndependent 37 = .ok (.checkcast 57, 3) := by decide +kernel
theorem dX10_areIndependent_40 : decode cX10_areIndependent 40 = .ok (.getfield 62, 3) := by decide +kernel
theorem dX10_areIndependent_43 : decode cX10_areIndependent 43 = .ok (.aload_n 0, 1) := by decide +kernel
theorem dX10_areIndependent_44 : decode cX10_areIndependent 44 = .ok (.getfield 10, 3) := by decide +kernel
theorem dX10_areIndependent_47 : decode cX10_areIndependent 47 = .ok (.iload_n 2, 1) := by decide +kernel
theorem dX10_areIndependent_48 : decode cX10_areIndependent 48 = .ok (.invokevirtual 45, 3) := by decide +kernel
theorem dX10_areIndependent_51 : decode cX10_areIndependent 51 = .ok (.checkcast 57, 3) := by decide +kernel
theorem dX10_areIndependent_54 : decode cX10_areIndependent 54 = .ok (.getfield 62, 3) := by decide +kernel
theorem dX10_areIndependent_57 : decode cX10_areIndependent 57 = .ok (.if_icmp .eq 7, 3) := by decide +kernel
theorem dX10_areIndependent_60 : decode cX10_areIndependent 60 = .ok (.iconst 1, 1) := by decide +kernel
theorem dX10_areIndependent_61 : decode cX10_areIndependent 61 = .ok (.goto 4, 3) := by decide +kernel
theorem dX10_areIndependent_64 : decode cX10_areIndependent 64 = .ok (.iconst 0, 1) := by decide +kernel
theorem dX10_areIndependent_65 : decode cX10_areIndependent 65 = .ok (.ireturn, 1) := by decide +kernel
theorem dX10_isWith_0 : decode cX10_isWith 0 = .ok (.aload_n 0, 1) := by decide +kernel
theorem dX10_isWith_1 : decode cX10_isWith 1 = .ok (.getfield 19, 3) := by decide +kernel
theorem dX10_isWith_4 : decode cX10_isWith 4 = .ok (.iload_n 1, 1) := by decide +kernel
theorem dX10_isWith_5 : decode cX10_isWith 5 = .ok (.invokevirtual 45, 3) := by decide +kernel
theorem dX10_isWith_8 : decode cX10_isWith 8 = .ok (.checkcast 154, 3) := by decide +kernel
theorem dX10_isWith_11 : decode cX10_isWith 11 = .ok (.getfield 188, 3) := by decide +kernel
theorem dX10_isWith_14 : decode cX10_isWith 14 = .ok (.iload_n 2, 1) := by decide +kernel
theorem dX10_isWith_15 : decode cX10_isWith 15 = .ok (.if_icmp .ne 28, 3) := by decide +kernel
theorem dX10_isWith_18 : decode cX10_isWith 18 = .ok (.aload_n 0, 1) := by decide +kernel
theorem dX10_isWith_19 : decode cX10_isWith 19 = .ok (.getfield 19, 3) := by decide +kernel
theorem dX10_isWith_22 : decode cX10_isWith 22 = .ok (.iload_n 1, 1) := by decide +kernel
theorem dX10_isWith_23 : decode cX10_isWith 23 = .ok (.invokevirtual 45, 3) := by decide +kernel
theorem dX10_isWith_26 : decode cX10_isWith 26 = .ok (.checkcast 154, 3) := by decide +kernel
theorem dX10_isWith_29 : decode cX10_isWith 29 = .ok (.getfield 181, 3) := by decide +kernel
theorem dX10_isWith_32 : decode cX10_isWith 32 = .ok (.iload_n 3, 1) := by decide +kernel
theorem dX10_isWith_33 : decode cX10_isWith 33 = .ok (.invokestatic 166, 3) := by decide +kernel
theorem dX10_isWith_36 : decode cX10_isWith 36 = .ok (.ifCond .eq 7, 3) := by decide +kernel
theorem dX10_isWith_39 : decode cX10_isWith 39 = .ok (.iconst 1, 1) := by decide +kernel
theorem dX10_isWith_40 : decode cX10_isWith 40 = .ok (.goto 4, 3) := by decide +kernel
theorem dX10_isWith_43 : decode cX10_isWith 43 = .ok (.iconst 0, 1) := by decide +kernel
theorem dX10_isWith_44 : decode cX10_isWith 44 = .ok (.ireturn, 1) := by decide +kernel
theorem dX10_had_0 : decode cX10_had 0 = .ok (.iconst (-1), 1) := by decide +kernel
theorem dX10_had_1 : decode cX10_had 1 = .ok (.istore_n 3, 1) := by decide +kernel
theorem dX10_had_2 : decode cX10_had 2 = .ok (.iconst 0, 1) := by decide +kernel
theorem dX10_had_3 : decode cX10_had 3 = .ok (.istore 4, 2) := by decide +kernel
theorem dX10_had_5 : decode cX10_had 5 = .ok (.iload 4, 2) := by decide +kernel
theorem dX10_had_7 : decode cX10_had 7 = .ok (.aload_n 0, 1) := by decide +kernel
theorem dX10_had_8 : decode cX10_had 8 = .ok (.getfield 19, 3) := by decide +kernel
theorem dX10_had_11 : decode cX10_had 11 = .ok (.invokevirtual 33, 3) := by decide +kernel
theorem dX10_had_14 : decode cX10_had 14 = .ok (.if_icmp .ge 98, 3) := by decide +kernel
theorem dX10_had_17 : decode cX10_had 17 = .ok (.aload_n 0, 1) := by decide +kernel
theorem dX10_had_18 : decode cX10_had 18 = .ok (.iload 4, 2) := by decide +kernel
theorem dX10_had_20 : decode cX10_had 20 = .ok (.iload_n 1, 1) := by decide +kernel
theorem dX10_had_21 : decode cX10_had 21 = .ok (.iload_n 2, 1) := by decide +kernel
theorem dX10_had_22 : decode cX10_had 22 = .ok (.invokevirtual 205, 3) := by decide +kernel
theorem dX10_had_25 : decode cX10_had 25 = .ok (.ifCond .eq 81, 3) := by decide +kernel
theorem dX10_had_28 : decode cX10_had 28 = .ok (.aload_n 0, 1) := by decide +kernel
theorem dX10_had_29 : decode cX10_had 29 = .ok (.getfield 22, 3) := by decide +kernel
theorem dX10_had_32 : decode cX10_had 32 = .ok (.invokevirtual 139, 3) := by decide +kernel
theorem dX10_had_35 : decode cX10_had 35 = .ok (.astore 5, 2) := by decide +kernel
theorem dX10_had_37 : decode cX10_had 37 = .ok (.aload 5, 2) := by decide +kernel
theorem dX10_had_39 : decode cX10_had 39 = .ok (.invokeinterface 143 1, 5) := by decide +kernel
theorem dX10_had_44 : decode cX10_had 44 = .ok (.ifCond .eq 62, 3) := by decide +kernel
theorem dX10_had_47 : decode cX10_had 47 = .ok (.aload 5, 2) := by decide +kernel
theorem dX10_had_49 : decode cX10_had 49 = .ok (.invokeinterface 149 1, 5) := by decide +kernel
theorem dX10_had_54 : decode cX10_had 54 = .ok (.checkcast 114, 3) := by decide +kernel
theorem dX10_had_57 : decode cX10_had 57 = .ok (.astore 6, 2) := by decide +kernel
theorem dX10_had_59 : decode cX10_had 59 = .ok (.aload 6, 2) := by decide +kernel
theorem dX10_had_61 : decode cX10_had 61 = .ok (.getfield 194, 3) := by decide +kernel
theorem dX10_had_64 : decode cX10_had 64 = .ok (.iload 4, 2) := by decide +kernel
theorem dX10_had_66 : decode cX10_had 66 = .ok (.iaload, 1) := by decide +kernel
theorem dX10_had_67 : decode cX10_had 67 = .ok (.aload 6, 2) := by decide +kernel
theorem dX10_had_69 : decode cX10_had 69 = .ok (.getfield 208, 3) := by decide +kernel
theorem dX10_had_72 : decode cX10_had 72 = .ok (.iadd, 1) := by decide +kernel
theorem dX10_had_73 : decode cX10_had 73 = .ok (.istore 7, 2) := by decide +kernel
theorem dX10_had_75 : decode cX10_had 75 = .ok (.aload 6, 2) := by decide +kernel
theorem dX10_had_77 : decode cX10_had 77 = .ok (.iload 4, 2) := by decide +kernel
theorem dX10_had_79 : decode cX10_had 79 = .ok (.aload_n 0, 1) := by decide +kernel
theorem dX10_had_80 : decode cX10_had 80 = .ok (.getfield 130, 3) := by decide +kernel
theorem dX10_had_83 : decode cX10_had 83 = .ok (.invokevirtual 211, 3) := by decide +kernel
theorem dX10_had_86 : decode cX10_had 86 = .ok (.ifCond .eq 17, 3) := by decide +kernel
theorem dX10_had_89 : decode cX10_had 89 = .ok (.iload_n 3, 1) := by decide +kernel
theorem dX10_had_90 : decode cX10_had 90 = .ok (.iconst (-1), 1) := by decide +kernel
theorem dX10_had_91 : decode cX10_had 91 = .ok (.if_icmp .eq 9, 3) := by decide +kernel
theorem dX10_had_94 : decode cX10_had 94 = .ok (.iload 7, 2) := by decide +kernel
theorem dX10_had_96 : decode cX10_had 96 = .ok (.iload_n 3, 1) := by decide +kernel
theorem dX10_had_97 : decode cX10_had 97 = .ok (.if_icmp .ge 6, 3) := by decide +kernel
theorem dX10_had_100 : decode cX10_had 100 = .ok (.iload 7, 2) := by decide +kernel
theorem dX10_had_102 : decode cX10_had 102 = .ok (.istore_n 3, 1) := by decide +kernel
theorem dX10_had_103 : decode cX10_had 103 = .ok (.goto (-66), 3) := by decide +kernel
theorem dX10_had_106 : decode cX10_had 106 = .ok (.iinc 4 1, 3) := by decide +kernel
theorem dX10_had_109 : decode cX10_had 109 = .ok (.goto (-104), 3) := by decide +kernel
theorem dX10_had_112 : decode cX10_had 112 = .ok (.iload_n 3, 1) := by decide +kernel
theorem dX10_had_113 : decode cX10_had 113 = .ok (.ireturn, 1) := by decide +kernel
theorem dX10_isFirst_0 : decode cX10_isFirst 0 = .ok (.aload_n 0, 1) := by decide +kernel
theorem dX10_isFirst_1 : decode cX10_isFirst 1 = .ok (.iload_n 1, 1) := by decide +kernel
theorem dX10_isFirst_2 : decode cX10_isFirst 2 = .ok (.iload_n 2, 1) := by decide +kernel
theorem dX10_isFirst_3 : decode cX10_isFirst 3 = .ok (.invokevirtual 214, 3) := by decide +kernel
theorem dX10_isFirst_6 : decode cX10_isFirst 6 = .ok (.istore_n 3, 1) := by decide +kernel
theorem dX10_isFirst_7 : decode cX10_isFirst 7 = .ok (.aload_n 0, 1) := by decide +kernel
theorem dX10_isFirst_8 : decode cX10_isFirst 8 = .ok (.iload_n 1, 1) := by decide +kernel
theorem dX10_isFirst_9 : decode cX10_isFirst 9 = .ok (.iload_n 2, 1) := by decide +kernel
theorem dX10_isFirst_10 : decode cX10_isFirst 10 = .ok (.invokevirtual 123, 3) := by decide +kernel
theorem dX10_isFirst_13 : decode cX10_isFirst 13 = .ok (.getfield 127, 3) := by decide +kernel
theorem dX10_isFirst_16 : decode cX10_isFirst 16 = .ok (.istore 4, 2) := by decide +kernel
theorem dX10_isFirst_18 : decode cX10_isFirst 18 = .ok (.iload_n 3, 1) := by decide +kernel
theorem dX10_isFirst_19 : decode cX10_isFirst 19 = .ok (.iconst (-1), 1) := by decide +kernel
theorem dX10_isFirst_20 : decode cX10_isFirst 20 = .ok (.if_icmp .eq 19, 3) := by decide +kernel
theorem dX10_isFirst_23 : decode cX10_isFirst 23 = .ok (.iload 4, 2) := by decide +kernel
theorem dX10_isFirst_25 : decode cX10_isFirst 25 = .ok (.iconst (-1), 1) := by decide +kernel
theorem dX10_isFirst_26 : decode cX10_isFirst 26 = .ok (.if_icmp .eq 9, 3) := by decide +kernel
theorem dX10_isFirst_29 : decode cX10_isFirst 29 = .ok (.iload_n 3, 1) := by decide +kernel
theorem dX10_isFirst_30 : decode cX10_isFirst 30 = .ok (.iload 4, 2) := by decide +kernel
theorem dX10_isFirst_32 : decode cX10_isFirst 32 = .ok (.if_icmp .ge 7, 3) := by decide +kernel
theorem dX10_isFirst_35 : decode cX10_isFirst 35 = .ok (.iconst 1, 1) := by decide +kernel
theorem dX10_isFirst_36 : decode cX10_isFirst 36 = .ok (.goto 4, 3) := by decide +kernel
theorem dX10_isFirst_39 : decode cX10_isFirst 39 = .ok (.iconst 0, 1) := by decide +kernel
theorem dX10_isFirst_40 : decode cX10_isFirst 40 = .ok (.ireturn, 1) := by decide +kernel
theorem dX10_ofFactNow_0 : decode cX10_ofFactNow 0 = .ok (.aload_n 0, 1) := by decide +kernel
theorem dX10_ofFactNow_1 : decode cX10_ofFactNow 1 = .ok (.iload_n 1, 1) := by decide +kernel
theorem dX10_ofFactNow_2 : decode cX10_ofFactNow 2 = .ok (.iload_n 2, 1) := by decide +kernel
theorem dX10_ofFactNow_3 : decode cX10_ofFactNow 3 = .ok (.invokevirtual 123, 3) := by decide +kernel
theorem dX10_ofFactNow_6 : decode cX10_ofFactNow 6 = .ok (.astore 4, 2) := by decide +kernel
theorem dX10_ofFactNow_8 : decode cX10_ofFactNow 8 = .ok (.iload_n 3, 1) := by decide +kernel
theorem dX10_ofFactNow_9 : decode cX10_ofFactNow 9 = .ok (.tableswitch 78 0 5 #[39, 46, 53, 59, 65, 71], 39) := by decide +kernel
theorem dX10_ofFactNow_48 : decode cX10_ofFactNow 48 = .ok (.aload_n 0, 1) := by decide +kernel
theorem dX10_ofFactNow_49 : decode cX10_ofFactNow 49 = .ok (.aload 4, 2) := by decide +kernel
theorem dX10_ofFactNow_51 : decode cX10_ofFactNow 51 = .ok (.invokevirtual 96, 3) := by decide +kernel
theorem dX10_ofFactNow_54 : decode cX10_ofFactNow 54 = .ok (.ireturn, 1) := by decide +kernel
theorem dX10_ofFactNow_55 : decode cX10_ofFactNow 55 = .ok (.aload_n 0, 1) := by decide +kernel
theorem dX10_ofFactNow_56 : decode cX10_ofFactNow 56 = .ok (.aload 4, 2) := by decide +kernel
theorem dX10_ofFactNow_58 : decode cX10_ofFactNow 58 = .ok (.invokevirtual 172, 3) := by decide +kernel
theorem dX10_ofFactNow_61 : decode cX10_ofFactNow 61 = .ok (.ireturn, 1) := by decide +kernel
theorem dX10_ofFactNow_62 : decode cX10_ofFactNow 62 = .ok (.aload 4, 2) := by decide +kernel
theorem dX10_ofFactNow_64 : decode cX10_ofFactNow 64 = .ok (.invokestatic 217, 3) := by decide +kernel
theorem dX10_ofFactNow_67 : decode cX10_ofFactNow 67 = .ok (.ireturn, 1) := by decide +kernel
theorem dX10_ofFactNow_68 : decode cX10_ofFactNow 68 = .ok (.aload 4, 2) := by decide +kernel
theorem dX10_ofFactNow_70 : decode cX10_ofFactNow 70 = .ok (.invokestatic 220, 3) := by decide +kernel
theorem dX10_ofFactNow_73 : decode cX10_ofFactNow 73 = .ok (.ireturn, 1) := by decide +kernel
theorem dX10_ofFactNow_74 : decode cX10_ofFactNow 74 = .ok (.aload 4, 2) := by decide +kernel
theorem dX10_ofFactNow_76 : decode cX10_ofFactNow 76 = .ok (.getfield 127, 3) := by decide +kernel
theorem dX10_ofFactNow_79 : decode cX10_ofFactNow 79 = .ok (.ireturn, 1) := by decide +kernel
theorem dX10_ofFactNow_80 : decode cX10_ofFactNow 80 = .ok (.aload_n 0, 1) := by decide +kernel
theorem dX10_ofFactNow_81 : decode cX10_ofFactNow 81 = .ok (.iload_n 1, 1) := by decide +kernel
theorem dX10_ofFactNow_82 : decode cX10_ofFactNow 82 = .ok (.iload_n 2, 1) := by decide +kernel
theorem dX10_ofFactNow_83 : decode cX10_ofFactNow 83 = .ok (.invokevirtual 214, 3) := by decide +kernel
theorem dX10_ofFactNow_86 : decode cX10_ofFactNow 86 = .ok (.ireturn, 1) := by decide +kernel
theorem dX10_ofFactNow_87 : decode cX10_ofFactNow 87 = .ok (.aload_n 0, 1) := by decide +kernel
theorem dX10_ofFactNow_88 : decode cX10_ofFactNow 88 = .ok (.iload_n 1, 1) := by decide +kernel
theorem dX10_ofFactNow_89 : decode cX10_ofFactNow 89 = .ok (.iload_n 2, 1) := by decide +kernel
theorem dX10_ofFactNow_90 : decode cX10_ofFactNow 90 = .ok (.invokevirtual 222, 3) := by decide +kernel
theorem dX10_ofFactNow_93 : decode cX10_ofFactNow 93 = .ok (.ifCond .eq 7, 3) := by decide +kernel
theorem dX10_ofFactNow_96 : decode cX10_ofFactNow 96 = .ok (.iconst 1, 1) := by decide +kernel
theorem dX10_ofFactNow_97 : decode cX10_ofFactNow 97 = .ok (.goto 4, 3) := by decide +kernel
theorem dX10_ofFactNow_100 : decode cX10_ofFactNow 100 = .ok (.iconst 0, 1) := by decide +kernel
theorem dX10_ofFactNow_101 : decode cX10_ofFactNow 101 = .ok (.ireturn, 1) := by decide +kernel
theorem dX10_ofFact_0 : decode cX10_ofFact 0 = .ok (.aload_n 0, 1) := by decide +kernel
theorem dX10_ofFact_1 : decode cX10_ofFact 1 = .ok (.aload_n 0, 1) := by decide +kernel
theorem dX10_ofFact_2 : decode cX10_ofFact 2 = .ok (.iload_n 1, 1) := by decide +kernel
theorem dX10_ofFact_3 : decode cX10_ofFact 3 = .ok (.iload_n 2, 1) := by decide +kernel
theorem dX10_ofFact_4 : decode cX10_ofFact 4 = .ok (.invokevirtual 119, 3) := by decide +kernel
theorem dX10_ofFact_7 : decode cX10_ofFact 7 = .ok (.iconst 1, 1) := by decide +kernel
theorem dX10_ofFact_8 : decode cX10_ofFact 8 = .ok (.invokevirtual 103, 3) := by decide +kernel
theorem dX10_ofFact_11 : decode cX10_ofFact 11 = .ok (.ifCond .ne 26, 3) := by decide +kernel
theorem dX10_ofFact_14 : decode cX10_ofFact 14 = .ok (.aload_n 0, 1) := by decide +kernel
theorem dX10_ofFact_15 : decode cX10_ofFact 15 = .ok (.iload_n 3, 1) := by decide +kernel
theorem dX10_ofFact_16 : decode cX10_ofFact 16 = .ok (.iconst 0, 1) := by decide +kernel
theorem dX10_ofFact_17 : decode cX10_ofFact 17 = .ok (.bipush 6, 2) := by decide +kernel
theorem dX10_ofFact_19 : decode cX10_ofFact 19 = .ok (.invokestatic 37, 3) := by decide +kernel
theorem dX10_ofFact_22 : decode cX10_ofFact 22 = .ok (.ifCond .ne 7, 3) := by decide +kernel
theorem dX10_ofFact_25 : decode cX10_ofFact 25 = .ok (.iconst 1, 1) := by decide +kernel
theorem dX10_ofFact_26 : decode cX10_ofFact 26 = .ok (.goto 4, 3) := by decide +kernel
theorem dX10_ofFact_29 : decode cX10_ofFact 29 = .ok (.iconst 0, 1) := by decide +kernel
theorem dX10_ofFact_30 : decode cX10_ofFact 30 = .ok (.iconst 2, 1) := by decide +kernel
theorem dX10_ofFact_31 : decode cX10_ofFact 31 = .ok (.invokevirtual 29, 3) := by decide +kernel
theorem dX10_ofFact_34 : decode cX10_ofFact 34 = .ok (.ifCond .eq 7, 3) := by decide +kernel
theorem dX10_ofFact_37 : decode cX10_ofFact 37 = .ok (.iconst 0, 1) := by decide +kernel
theorem dX10_ofFact_38 : decode cX10_ofFact 38 = .ok (.goto 10, 3) := by decide +kernel
theorem dX10_ofFact_41 : decode cX10_ofFact 41 = .ok (.aload_n 0, 1) := by decide +kernel
theorem dX10_ofFact_42 : decode cX10_ofFact 42 = .ok (.iload_n 1, 1) := by decide +kernel
theorem dX10_ofFact_43 : decode cX10_ofFact 43 = .ok (.iload_n 2, 1) := by decide +kernel
theorem dX10_ofFact_44 : decode cX10_ofFact 44 = .ok (.iload_n 3, 1) := by decide +kernel
theorem dX10_ofFact_45 : decode cX10_ofFact 45 = .ok (.invokevirtual 225, 3) := by decide +kernel
theorem dX10_ofFact_48 : decode cX10_ofFact 48 = .ok (.ireturn, 1) := by decide +kernel
theorem dX10_proof__0 : decode cX10_proof_ 0 = .ok (.aload_n 0, 1) := by decide +kernel
theorem dX10_proof__1 : decode cX10_proof_ 1 = .ok (.aload_n 0, 1) := by decide +kernel
theorem dX10_proof__2 : decode cX10_proof_ 2 = .ok (.iload_n 1, 1) := by decide +kernel
theorem dX10_proof__3 : decode cX10_proof_ 3 = .ok (.iload_n 2, 1) := by decide +kernel
theorem dX10_proof__4 : decode cX10_proof_ 4 = .ok (.invokevirtual 119, 3) := by decide +kernel
theorem dX10_proof__7 : decode cX10_proof_ 7 = .ok (.iconst 1, 1) := by decide +kernel
theorem dX10_proof__8 : decode cX10_proof_ 8 = .ok (.invokevirtual 103, 3) := by decide +kernel
theorem dX10_proof__11 : decode cX10_proof_ 11 = .ok (.ifCond .ne 26, 3) := by decide +kernel
theorem dX10_proof__14 : decode cX10_proof_ 14 = .ok (.aload_n 0, 1) := by decide +kernel
theorem dX10_proof__15 : decode cX10_proof_ 15 = .ok (.iload_n 3, 1) := by decide +kernel
theorem dX10_proof__16 : decode cX10_proof_ 16 = .ok (.iconst 0, 1) := by decide +kernel
theorem dX10_proof__17 : decode cX10_proof_ 17 = .ok (.bipush 99, 2) := by decide +kernel
theorem dX10_proof__19 : decode cX10_proof_ 19 = .ok (.invokestatic 37, 3) := by decide +kernel
theorem dX10_proof__22 : decode cX10_proof_ 22 = .ok (.ifCond .ne 7, 3) := by decide +kernel
theorem dX10_proof__25 : decode cX10_proof_ 25 = .ok (.iconst 1, 1) := by decide +kernel
theorem dX10_proof__26 : decode cX10_proof_ 26 = .ok (.goto 4, 3) := by decide +kernel
theorem dX10_proof__29 : decode cX10_proof_ 29 = .ok (.iconst 0, 1) := by decide +kernel
theorem dX10_proof__30 : decode cX10_proof_ 30 = .ok (.iconst 2, 1) := by decide +kernel
theorem dX10_proof__31 : decode cX10_proof_ 31 = .ok (.invokevirtual 29, 3) := by decide +kernel
theorem dX10_proof__34 : decode cX10_proof_ 34 = .ok (.ifCond .eq 5, 3) := by decide +kernel
theorem dX10_proof__37 : decode cX10_proof_ 37 = .ok (.iconst 0, 1) := by decide +kernel
theorem dX10_proof__38 : decode cX10_proof_ 38 = .ok (.ireturn, 1) := by decide +kernel
theorem dX10_proof__39 : decode cX10_proof_ 39 = .ok (.iload 4, 2) := by decide +kernel
theorem dX10_proof__41 : decode cX10_proof_ 41 = .ok (.ifCond .eq 17, 3) := by decide +kernel
theorem dX10_proof__44 : decode cX10_proof_ 44 = .ok (.aload_n 0, 1) := by decide +kernel
theorem dX10_proof__45 : decode cX10_proof_ 45 = .ok (.aload_n 0, 1) := by decide +kernel
theorem dX10_proof__46 : decode cX10_proof_ 46 = .ok (.iload_n 1, 1) := by decide +kernel
theorem dX10_proof__47 : decode cX10_proof_ 47 = .ok (.iload_n 2, 1) := by decide +kernel
theorem dX10_proof__48 : decode cX10_proof_ 48 = .ok (.invokevirtual 123, 3) := by decide +kernel
theorem dX10_proof__51 : decode cX10_proof_ 51 = .ok (.iload_n 3, 1) := by decide +kernel
theorem dX10_proof__52 : decode cX10_proof_ 52 = .ok (.invokevirtual 89, 3) := by decide +kernel
theorem dX10_proof__55 : decode cX10_proof_ 55 = .ok (.goto 14, 3) := by decide +kernel
theorem dX10_proof__58 : decode cX10_proof_ 58 = .ok (.aload_n 0, 1) := by decide +kernel
theorem dX10_proof__59 : decode cX10_proof_ 59 = .ok (.aload_n 0, 1) := by decide +kernel
theorem dX10_proof__60 : decode cX10_proof_ 60 = .ok (.iload_n 1, 1) := by decide +kernel
theorem dX10_proof__61 : decode cX10_proof_ 61 = .ok (.iload_n 2, 1) := by decide +kernel
theorem dX10_proof__62 : decode cX10_proof_ 62 = .ok (.invokevirtual 123, 3) := by decide +kernel
theorem dX10_proof__65 : decode cX10_proof_ 65 = .ok (.iload_n 3, 1) := by decide +kernel
theorem dX10_proof__66 : decode cX10_proof_ 66 = .ok (.invokevirtual 85, 3) := by decide +kernel
theorem dX10_proof__69 : decode cX10_proof_ 69 = .ok (.ireturn, 1) := by decide +kernel
theorem dX10_ofTakeNow_0 : decode cX10_ofTakeNow 0 = .ok (.aload_n 0, 1) := by decide +kernel
theorem dX10_ofTakeNow_1 : decode cX10_ofTakeNow 1 = .ok (.getfield 19, 3) := by decide +kernel
theorem dX10_ofTakeNow_4 : decode cX10_ofTakeNow 4 = .ok (.iload_n 1, 1) := by decide +kernel
theorem dX10_ofTakeNow_5 : decode cX10_ofTakeNow 5 = .ok (.invokevirtual 45, 3) := by decide +kernel
theorem dX10_ofTakeNow_8 : decode cX10_ofTakeNow 8 = .ok (.checkcast 154, 3) := by decide +kernel
theorem dX10_ofTakeNow_11 : decode cX10_ofTakeNow 11 = .ok (.astore_n 3, 1) := by decide +kernel
theorem dX10_ofTakeNow_12 : decode cX10_ofTakeNow 12 = .ok (.bipush 9, 2) := by decide +kernel
theorem dX10_ofTakeNow_14 : decode cX10_ofTakeNow 14 = .ok (.newarray .int, 2) := by decide +kernel
theorem dX10_ofTakeNow_16 : decode cX10_ofTakeNow 16 = .ok (.dup, 1) := by decide +kernel
theorem dX10_ofTakeNow_17 : decode cX10_ofTakeNow 17 = .ok (.iconst 0, 1) := by decide +kernel
theorem dX10_ofTakeNow_18 : decode cX10_ofTakeNow 18 = .ok (.aload_n 3, 1) := by decide +kernel
theorem dX10_ofTakeNow_19 : decode cX10_ofTakeNow 19 = .ok (.getfield 188, 3) := by decide +kernel
theorem dX10_ofTakeNow_22 : decode cX10_ofTakeNow 22 = .ok (.iastore, 1) := by decide +kernel
theorem dX10_ofTakeNow_23 : decode cX10_ofTakeNow 23 = .ok (.dup, 1) := by decide +kernel
theorem dX10_ofTakeNow_24 : decode cX10_ofTakeNow 24 = .ok (.iconst 1, 1) := by decide +kernel
theorem dX10_ofTakeNow_25 : decode cX10_ofTakeNow 25 = .ok (.aload_n 3, 1) := by decide +kernel
theorem dX10_ofTakeNow_26 : decode cX10_ofTakeNow 26 = .ok (.getfield 191, 3) := by decide +kernel
theorem dX10_ofTakeNow_29 : decode cX10_ofTakeNow 29 = .ok (.iastore, 1) := by decide +kernel
theorem dX10_ofTakeNow_30 : decode cX10_ofTakeNow 30 = .ok (.dup, 1) := by decide +kernel
theorem dX10_ofTakeNow_31 : decode cX10_ofTakeNow 31 = .ok (.iconst 2, 1) := by decide +kernel
theorem dX10_ofTakeNow_32 : decode cX10_ofTakeNow 32 = .ok (.aload_n 3, 1) := by decide +kernel
theorem dX10_ofTakeNow_33 : decode cX10_ofTakeNow 33 = .ok (.getfield 181, 3) := by decide +kernel
theorem dX10_ofTakeNow_36 : decode cX10_ofTakeNow 36 = .ok (.iastore, 1) := by decide +kernel
theorem dX10_ofTakeNow_37 : decode cX10_ofTakeNow 37 = .ok (.dup, 1) := by decide +kernel
theorem dX10_ofTakeNow_38 : decode cX10_ofTakeNow 38 = .ok (.iconst 3, 1) := by decide +kernel
theorem dX10_ofTakeNow_39 : decode cX10_ofTakeNow 39 = .ok (.aload_n 3, 1) := by decide +kernel
theorem dX10_ofTakeNow_40 : decode cX10_ofTakeNow 40 = .ok (.getfield 153, 3) := by decide +kernel
theorem dX10_ofTakeNow_43 : decode cX10_ofTakeNow 43 = .ok (.iastore, 1) := by decide +kernel
theorem dX10_ofTakeNow_44 : decode cX10_ofTakeNow 44 = .ok (.dup, 1) := by decide +kernel
theorem dX10_ofTakeNow_45 : decode cX10_ofTakeNow 45 = .ok (.iconst 4, 1) := by decide +kernel
theorem dX10_ofTakeNow_46 : decode cX10_ofTakeNow 46 = .ok (.aload_n 3, 1) := by decide +kernel
theorem dX10_ofTakeNow_47 : decode cX10_ofTakeNow 47 = .ok (.getfield 229, 3) := by decide +kernel
theorem dX10_ofTakeNow_50 : decode cX10_ofTakeNow 50 = .ok (.iastore, 1) := by decide +kernel
theorem dX10_ofTakeNow_51 : decode cX10_ofTakeNow 51 = .ok (.dup, 1) := by decide +kernel
theorem dX10_ofTakeNow_52 : decode cX10_ofTakeNow 52 = .ok (.iconst 5, 1) := by decide +kernel
theorem dX10_ofTakeNow_53 : decode cX10_ofTakeNow 53 = .ok (.aload_n 3, 1) := by decide +kernel
theorem dX10_ofTakeNow_54 : decode cX10_ofTakeNow 54 = .ok (.getfield 232, 3) := by decide +kernel
theorem dX10_ofTakeNow_57 : decode cX10_ofTakeNow 57 = .ok (.ifCond .eq 7, 3) := by decide +kernel
theorem dX10_ofTakeNow_60 : decode cX10_ofTakeNow 60 = .ok (.iconst 1, 1) := by decide +kernel
theorem dX10_ofTakeNow_61 : decode cX10_ofTakeNow 61 = .ok (.goto 4, 3) := by decide +kernel
theorem dX10_ofTakeNow_64 : decode cX10_ofTakeNow 64 = .ok (.iconst 0, 1) := by decide +kernel
theorem dX10_ofTakeNow_65 : decode cX10_ofTakeNow 65 = .ok (.iastore, 1) := by decide +kernel
theorem dX10_ofTakeNow_66 : decode cX10_ofTakeNow 66 = .ok (.dup, 1) := by decide +kernel
theorem dX10_ofTakeNow_67 : decode cX10_ofTakeNow 67 = .ok (.bipush 6, 2) := by decide +kernel
theorem dX10_ofTakeNow_69 : decode cX10_ofTakeNow 69 = .ok (.aload_n 3, 1) := by decide +kernel
theorem dX10_ofTakeNow_70 : decode cX10_ofTakeNow 70 = .ok (.getfield 184, 3) := by decide +kernel
theorem dX10_ofTakeNow_73 : decode cX10_ofTakeNow 73 = .ok (.ifCond .eq 7, 3) := by decide +kernel
theorem dX10_ofTakeNow_76 : decode cX10_ofTakeNow 76 = .ok (.iconst 1, 1) := by decide +kernel
theorem dX10_ofTakeNow_77 : decode cX10_ofTakeNow 77 = .ok (.goto 4, 3) := by decide +kernel
theorem dX10_ofTakeNow_80 : decode cX10_ofTakeNow 80 = .ok (.iconst 0, 1) := by decide +kernel
theorem dX10_ofTakeNow_81 : decode cX10_ofTakeNow 81 = .ok (.iastore, 1) := by decide +kernel
theorem dX10_ofTakeNow_82 : decode cX10_ofTakeNow 82 = .ok (.dup, 1) := by decide +kernel
theorem dX10_ofTakeNow_83 : decode cX10_ofTakeNow 83 = .ok (.bipush 7, 2) := by decide +kernel
theorem dX10_ofTakeNow_85 : decode cX10_ofTakeNow 85 = .ok (.aload_n 3, 1) := by decide +kernel
theorem dX10_ofTakeNow_86 : decode cX10_ofTakeNow 86 = .ok (.getfield 235, 3) := by decide +kernel
theorem dX10_ofTakeNow_89 : decode cX10_ofTakeNow 89 = .ok (.iastore, 1) := by decide +kernel
theorem dX10_ofTakeNow_90 : decode cX10_ofTakeNow 90 = .ok (.dup, 1) := by decide +kernel
theorem dX10_ofTakeNow_91 : decode cX10_ofTakeNow 91 = .ok (.bipush 8, 2) := by decide +kernel
theorem dX10_ofTakeNow_93 : decode cX10_ofTakeNow 93 = .ok (.aload_n 3, 1) := by decide +kernel
theorem dX10_ofTakeNow_94 : decode cX10_ofTakeNow 94 = .ok (.getfield 238, 3) := by decide +kernel
theorem dX10_ofTakeNow_97 : decode cX10_ofTakeNow 97 = .ok (.iastore, 1) := by decide +kernel
theorem dX10_ofTakeNow_98 : decode cX10_ofTakeNow 98 = .ok (.astore 4, 2) := by decide +kernel
theorem dX10_ofTakeNow_100 : decode cX10_ofTakeNow 100 = .ok (.aload 4, 2) := by decide +kernel
theorem dX10_ofTakeNow_102 : decode cX10_ofTakeNow 102 = .ok (.iload_n 2, 1) := by decide +kernel
theorem dX10_ofTakeNow_103 : decode cX10_ofTakeNow 103 = .ok (.iaload, 1) := by decide +kernel
theorem dX10_ofTakeNow_104 : decode cX10_ofTakeNow 104 = .ok (.ireturn, 1) := by decide +kernel
theorem dX10_ofTake_0 : decode cX10_ofTake 0 = .ok (.aload_n 0, 1) := by decide +kernel
theorem dX10_ofTake_1 : decode cX10_ofTake 1 = .ok (.aload_n 0, 1) := by decide +kernel
theorem dX10_ofTake_2 : decode cX10_ofTake 2 = .ok (.iload_n 1, 1) := by decide +kernel
theorem dX10_ofTake_3 : decode cX10_ofTake 3 = .ok (.invokevirtual 178, 3) := by decide +kernel
theorem dX10_ofTake_6 : decode cX10_ofTake 6 = .ok (.iconst 1, 1) := by decide +kernel
theorem dX10_ofTake_7 : decode cX10_ofTake 7 = .ok (.invokevirtual 103, 3) := by decide +kernel
theorem dX10_ofTake_10 : decode cX10_ofTake 10 = .ok (.ifCond .ne 26, 3) := by decide +kernel
theorem dX10_ofTake_13 : decode cX10_ofTake 13 = .ok (.aload_n 0, 1) := by decide +kernel
theorem dX10_ofTake_14 : decode cX10_ofTake 14 = .ok (.iload_n 2, 1) := by decide +kernel
theorem dX10_ofTake_15 : decode cX10_ofTake 15 = .ok (.iconst 0, 1) := by decide +kernel
theorem dX10_ofTake_16 : decode cX10_ofTake 16 = .ok (.bipush 8, 2) := by decide +kernel
theorem dX10_ofTake_18 : decode cX10_ofTake 18 = .ok (.invokestatic 37, 3) := by decide +kernel
theorem dX10_ofTake_21 : decode cX10_ofTake 21 = .ok (.ifCond .ne 7, 3) := by decide +kernel
theorem dX10_ofTake_24 : decode cX10_ofTake 24 = .ok (.iconst 1, 1) := by decide +kernel
theorem dX10_ofTake_25 : decode cX10_ofTake 25 = .ok (.goto 4, 3) := by decide +kernel
theorem dX10_ofTake_28 : decode cX10_ofTake 28 = .ok (.iconst 0, 1) := by decide +kernel
theorem dX10_ofTake_29 : decode cX10_ofTake 29 = .ok (.iconst 2, 1) := by decide +kernel
theorem dX10_ofTake_30 : decode cX10_ofTake 30 = .ok (.invokevirtual 29, 3) := by decide +kernel
theorem dX10_ofTake_33 : decode cX10_ofTake 33 = .ok (.ifCond .eq 7, 3) := by decide +kernel
theorem dX10_ofTake_36 : decode cX10_ofTake 36 = .ok (.iconst 0, 1) := by decide +kernel
theorem dX10_ofTake_37 : decode cX10_ofTake 37 = .ok (.goto 9, 3) := by decide +kernel
theorem dX10_ofTake_40 : decode cX10_ofTake 40 = .ok (.aload_n 0, 1) := by decide +kernel
theorem dX10_ofTake_41 : decode cX10_ofTake 41 = .ok (.iload_n 1, 1) := by decide +kernel
theorem dX10_ofTake_42 : decode cX10_ofTake 42 = .ok (.iload_n 2, 1) := by decide +kernel
theorem dX10_ofTake_43 : decode cX10_ofTake 43 = .ok (.invokevirtual 241, 3) := by decide +kernel
theorem dX10_ofTake_46 : decode cX10_ofTake 46 = .ok (.ireturn, 1) := by decide +kernel
theorem dX10_saysNow_0 : decode cX10_saysNow 0 = .ok (.aload_n 0, 1) := by decide +kernel
theorem dX10_saysNow_1 : decode cX10_saysNow 1 = .ok (.getfield 19, 3) := by decide +kernel
theorem dX10_saysNow_4 : decode cX10_saysNow 4 = .ok (.iload_n 1, 1) := by decide +kernel
theorem dX10_saysNow_5 : decode cX10_saysNow 5 = .ok (.invokevirtual 45, 3) := by decide +kernel
theorem dX10_saysNow_8 : decode cX10_saysNow 8 = .ok (.checkcast 154, 3) := by decide +kernel
theorem dX10_saysNow_11 : decode cX10_saysNow 11 = .ok (.getfield 181, 3) := by decide +kernel
theorem dX10_saysNow_14 : decode cX10_saysNow 14 = .ok (.iload_n 2, 1) := by decide +kernel
theorem dX10_saysNow_15 : decode cX10_saysNow 15 = .ok (.invokestatic 166, 3) := by decide +kernel
theorem dX10_saysNow_18 : decode cX10_saysNow 18 = .ok (.ifCond .eq 22, 3) := by decide +kernel
theorem dX10_saysNow_21 : decode cX10_saysNow 21 = .ok (.aload_n 0, 1) := by decide +kernel
theorem dX10_saysNow_22 : decode cX10_saysNow 22 = .ok (.getfield 19, 3) := by decide +kernel
theorem dX10_saysNow_25 : decode cX10_saysNow 25 = .ok (.iload_n 1, 1) := by decide +kernel
theorem dX10_saysNow_26 : decode cX10_saysNow 26 = .ok (.invokevirtual 45, 3) := by decide +kernel
theorem dX10_saysNow_29 : decode cX10_saysNow 29 = .ok (.checkcast 154, 3) := by decide +kernel
theorem dX10_saysNow_32 : decode cX10_saysNow 32 = .ok (.getfield 169, 3) := by decide +kernel
theorem dX10_saysNow_35 : decode cX10_saysNow 35 = .ok (.iload_n 2, 1) := by decide +kernel
theorem dX10_saysNow_36 : decode cX10_saysNow 36 = .ok (.iaload, 1) := by decide +kernel
theorem dX10_saysNow_37 : decode cX10_saysNow 37 = .ok (.goto 4, 3) := by decide +kernel
theorem dX10_saysNow_40 : decode cX10_saysNow 40 = .ok (.iconst (-1), 1) := by decide +kernel
theorem dX10_saysNow_41 : decode cX10_saysNow 41 = .ok (.ireturn, 1) := by decide +kernel
theorem dX10_says_0 : decode cX10_says 0 = .ok (.aload_n 0, 1) := by decide +kernel
theorem dX10_says_1 : decode cX10_says 1 = .ok (.aload_n 0, 1) := by decide +kernel
theorem dX10_says_2 : decode cX10_says 2 = .ok (.iload_n 1, 1) := by decide +kernel
theorem dX10_says_3 : decode cX10_says 3 = .ok (.invokevirtual 178, 3) := by decide +kernel
theorem dX10_says_6 : decode cX10_says 6 = .ok (.ifCond .ne 12, 3) := by decide +kernel
theorem dX10_says_9 : decode cX10_says 9 = .ok (.iload_n 2, 1) := by decide +kernel
theorem dX10_says_10 : decode cX10_says 10 = .ok (.iconst 0, 1) := by decide +kernel
theorem dX10_says_11 : decode cX10_says 11 = .ok (.iconst 3, 1) := by decide +kernel
theorem dX10_says_12 : decode cX10_says 12 = .ok (.invokestatic 37, 3) := by decide +kernel
theorem dX10_says_15 : decode cX10_says 15 = .ok (.ifCond .ne 7, 3) := by decide +kernel
theorem dX10_says_18 : decode cX10_says 18 = .ok (.iconst 1, 1) := by decide +kernel
theorem dX10_says_19 : decode cX10_says 19 = .ok (.goto 4, 3) := by decide +kernel
theorem dX10_says_22 : decode cX10_says 22 = .ok (.iconst 0, 1) := by decide +kernel
theorem dX10_says_23 : decode cX10_says 23 = .ok (.iconst 1, 1) := by decide +kernel
theorem dX10_says_24 : decode cX10_says 24 = .ok (.invokevirtual 103, 3) := by decide +kernel
theorem dX10_says_27 : decode cX10_says 27 = .ok (.ifCond .eq 7, 3) := by decide +kernel
theorem dX10_says_30 : decode cX10_says 30 = .ok (.iconst 0, 1) := by decide +kernel
theorem dX10_says_31 : decode cX10_says 31 = .ok (.goto 9, 3) := by decide +kernel
theorem dX10_says_34 : decode cX10_says 34 = .ok (.aload_n 0, 1) := by decide +kernel
theorem dX10_says_35 : decode cX10_says 35 = .ok (.iload_n 1, 1) := by decide +kernel
theorem dX10_says_36 : decode cX10_says 36 = .ok (.iload_n 2, 1) := by decide +kernel
theorem dX10_says_37 : decode cX10_says 37 = .ok (.invokevirtual 244, 3) := by decide +kernel
theorem dX10_says_40 : decode cX10_says 40 = .ok (.ireturn, 1) := by decide +kernel
theorem dX10_isDropped_0 : decode cX10_isDropped 0 = .ok (.iload_n 2, 1) := by decide +kernel
theorem dX10_isDropped_1 : decode cX10_isDropped 1 = .ok (.iconst 1, 1) := by decide +kernel
theorem dX10_isDropped_2 : decode cX10_isDropped 2 = .ok (.iadd, 1) := by decide +kernel
theorem dX10_isDropped_3 : decode cX10_isDropped 3 = .ok (.istore_n 3, 1) := by decide +kernel
theorem dX10_isDropped_4 : decode cX10_isDropped 4 = .ok (.iload_n 3, 1) := by decide +kernel
theorem dX10_isDropped_5 : decode cX10_isDropped 5 = .ok (.aload_n 0, 1) := by decide +kernel
theorem dX10_isDropped_6 : decode cX10_isDropped 6 = .ok (.getfield 19, 3) := by decide +kernel
theorem dX10_isDropped_9 : decode cX10_isDropped 9 = .ok (.invokevirtual 33, 3) := by decide +kernel
theorem dX10_isDropped_12 : decode cX10_isDropped 12 = .ok (.if_icmp .ge 59, 3) := by decide +kernel
theorem dX10_isDropped_15 : decode cX10_isDropped 15 = .ok (.aload_n 0, 1) := by decide +kernel
theorem dX10_isDropped_16 : decode cX10_isDropped 16 = .ok (.getfield 19, 3) := by decide +kernel
theorem dX10_isDropped_19 : decode cX10_isDropped 19 = .ok (.iload_n 3, 1) := by decide +kernel
theorem dX10_isDropped_20 : decode cX10_isDropped 20 = .ok (.invokevirtual 45, 3) := by decide +kernel
theorem dX10_isDropped_23 : decode cX10_isDropped 23 = .ok (.checkcast 154, 3) := by decide +kernel
theorem dX10_isDropped_26 : decode cX10_isDropped 26 = .ok (.getfield 191, 3) := by decide +kernel
theorem dX10_isDropped_29 : decode cX10_isDropped 29 = .ok (.iconst 1, 1) := by decide +kernel
theorem dX10_isDropped_30 : decode cX10_isDropped 30 = .ok (.if_icmp .ne 35, 3) := by decide +kernel
theorem dX10_isDropped_33 : decode cX10_isDropped 33 = .ok (.aload_n 0, 1) := by decide +kernel
theorem dX10_isDropped_34 : decode cX10_isDropped 34 = .ok (.getfield 19, 3) := by decide +kernel
theorem dX10_isDropped_37 : decode cX10_isDropped 37 = .ok (.iload_n 3, 1) := by decide +kernel
theorem dX10_isDropped_38 : decode cX10_isDropped 38 = .ok (.invokevirtual 45, 3) := by decide +kernel
theorem dX10_isDropped_41 : decode cX10_isDropped 41 = .ok (.checkcast 154, 3) := by decide +kernel
theorem dX10_isDropped_44 : decode cX10_isDropped 44 = .ok (.getfield 235, 3) := by decide +kernel
theorem dX10_isDropped_47 : decode cX10_isDropped 47 = .ok (.iload_n 2, 1) := by decide +kernel
theorem dX10_isDropped_48 : decode cX10_isDropped 48 = .ok (.if_icmp .ne 17, 3) := by decide +kernel
theorem dX10_isDropped_51 : decode cX10_isDropped 51 = .ok (.aload_n 1, 1) := by decide +kernel
theorem dX10_isDropped_52 : decode cX10_isDropped 52 = .ok (.iload_n 3, 1) := by decide +kernel
theorem dX10_isDropped_53 : decode cX10_isDropped 53 = .ok (.aload_n 0, 1) := by decide +kernel
theorem dX10_isDropped_54 : decode cX10_isDropped 54 = .ok (.getfield 130, 3) := by decide +kernel
theorem dX10_isDropped_57 : decode cX10_isDropped 57 = .ok (.invokevirtual 211, 3) := by decide +kernel
theorem dX10_isDropped_60 : decode cX10_isDropped 60 = .ok (.ifCond .eq 5, 3) := by decide +kernel
theorem dX10_isDropped_63 : decode cX10_isDropped 63 = .ok (.iconst 1, 1) := by decide +kernel
theorem dX10_isDropped_64 : decode cX10_isDropped 64 = .ok (.ireturn, 1) := by decide +kernel
theorem dX10_isDropped_65 : decode cX10_isDropped 65 = .ok (.iinc 3 1, 3) := by decide +kernel
theorem dX10_isDropped_68 : decode cX10_isDropped 68 = .ok (.goto (-64), 3) := by decide +kernel
theorem dX10_isDropped_71 : decode cX10_isDropped 71 = .ok (.iconst 0, 1) := by decide +kernel
theorem dX10_isDropped_72 : decode cX10_isDropped 72 = .ok (.ireturn, 1) := by decide +kernel
theorem dX10_stateNow_0 : decode cX10_stateNow 0 = .ok (.aload_n 0, 1) := by decide +kernel
theorem dX10_stateNow_1 : decode cX10_stateNow 1 = .ok (.getfield 22, 3) := by decide +kernel
theorem dX10_stateNow_4 : decode cX10_stateNow 4 = .ok (.iload_n 1, 1) := by decide +kernel
theorem dX10_stateNow_5 : decode cX10_stateNow 5 = .ok (.invokevirtual 45, 3) := by decide +kernel
theorem dX10_stateNow_8 : decode cX10_stateNow 8 = .ok (.checkcast 114, 3) := by decide +kernel
theorem dX10_stateNow_11 : decode cX10_stateNow 11 = .ok (.astore_n 3, 1) := by decide +kernel
theorem dX10_stateNow_12 : decode cX10_stateNow 12 = .ok (.aload_n 3, 1) := by decide +kernel
theorem dX10_stateNow_13 : decode cX10_stateNow 13 = .ok (.getfield 197, 3) := by decide +kernel
theorem dX10_stateNow_16 : decode cX10_stateNow 16 = .ok (.iload_n 2, 1) := by decide +kernel
theorem dX10_stateNow_17 : decode cX10_stateNow 17 = .ok (.baload, 1) := by decide +kernel
theorem dX10_stateNow_18 : decode cX10_stateNow 18 = .ok (.ifCond .ne 5, 3) := by decide +kernel
theorem dX10_stateNow_21 : decode cX10_stateNow 21 = .ok (.iconst 0, 1) := by decide +kernel
theorem dX10_stateNow_22 : decode cX10_stateNow 22 = .ok (.ireturn, 1) := by decide +kernel
theorem dX10_stateNow_23 : decode cX10_stateNow 23 = .ok (.aload_n 3, 1) := by decide +kernel
theorem dX10_stateNow_24 : decode cX10_stateNow 24 = .ok (.getfield 194, 3) := by decide +kernel
theorem dX10_stateNow_27 : decode cX10_stateNow 27 = .ok (.iload_n 2, 1) := by decide +kernel
theorem dX10_stateNow_28 : decode cX10_stateNow 28 = .ok (.iaload, 1) := by decide +kernel
theorem dX10_stateNow_29 : decode cX10_stateNow 29 = .ok (.iconst (-1), 1) := by decide +kernel
theorem dX10_stateNow_30 : decode cX10_stateNow 30 = .ok (.if_icmp .ne 32, 3) := by decide +kernel
theorem dX10_stateNow_33 : decode cX10_stateNow 33 = .ok (.aload_n 3, 1) := by decide +kernel
theorem dX10_stateNow_34 : decode cX10_stateNow 34 = .ok (.getfield 247, 3) := by decide +kernel
theorem dX10_stateNow_37 : decode cX10_stateNow 37 = .ok (.iload_n 2, 1) := by decide +kernel
theorem dX10_stateNow_38 : decode cX10_stateNow 38 = .ok (.iaload, 1) := by decide +kernel
theorem dX10_stateNow_39 : decode cX10_stateNow 39 = .ok (.aload_n 0, 1) := by decide +kernel
theorem dX10_stateNow_40 : decode cX10_stateNow 40 = .ok (.getfield 19, 3) := by decide +kernel
theorem dX10_stateNow_43 : decode cX10_stateNow 43 = .ok (.iload_n 2, 1) := by decide +kernel
theorem dX10_stateNow_44 : decode cX10_stateNow 44 = .ok (.invokevirtual 45, 3) := by decide +kernel
theorem dX10_stateNow_47 : decode cX10_stateNow 47 = .ok (.checkcast 154, 3) := by decide +kernel
theorem dX10_stateNow_50 : decode cX10_stateNow 50 = .ok (.getfield 153, 3) := by decide +kernel
theorem dX10_stateNow_53 : decode cX10_stateNow 53 = .ok (.if_icmp .ne 7, 3) := by decide +kernel
theorem dX10_stateNow_56 : decode cX10_stateNow 56 = .ok (.iconst 1, 1) := by decide +kernel
theorem dX10_stateNow_57 : decode cX10_stateNow 57 = .ok (.goto 4, 3) := by decide +kernel
theorem dX10_stateNow_60 : decode cX10_stateNow 60 = .ok (.iconst 2, 1) := by decide +kernel
theorem dX10_stateNow_61 : decode cX10_stateNow 61 = .ok (.ireturn, 1) := by decide +kernel
theorem dX10_stateNow_62 : decode cX10_stateNow 62 = .ok (.aload_n 3, 1) := by decide +kernel
theorem dX10_stateNow_63 : decode cX10_stateNow 63 = .ok (.iload_n 2, 1) := by decide +kernel
theorem dX10_stateNow_64 : decode cX10_stateNow 64 = .ok (.aload_n 0, 1) := by decide +kernel
theorem dX10_stateNow_65 : decode cX10_stateNow 65 = .ok (.getfield 130, 3) := by decide +kernel
theorem dX10_stateNow_68 : decode cX10_stateNow 68 = .ok (.invokevirtual 211, 3) := by decide +kernel
theorem dX10_stateNow_71 : decode cX10_stateNow 71 = .ok (.ifCond .ne 7, 3) := by decide +kernel
theorem dX10_stateNow_74 : decode cX10_stateNow 74 = .ok (.iconst 3, 1) := by decide +kernel
theorem dX10_stateNow_75 : decode cX10_stateNow 75 = .ok (.goto 17, 3) := by decide +kernel
theorem dX10_stateNow_78 : decode cX10_stateNow 78 = .ok (.aload_n 0, 1) := by decide +kernel
theorem dX10_stateNow_79 : decode cX10_stateNow 79 = .ok (.aload_n 3, 1) := by decide +kernel
theorem dX10_stateNow_80 : decode cX10_stateNow 80 = .ok (.iload_n 2, 1) := by decide +kernel
theorem dX10_stateNow_81 : decode cX10_stateNow 81 = .ok (.invokevirtual 250, 3) := by decide +kernel
theorem dX10_stateNow_84 : decode cX10_stateNow 84 = .ok (.ifCond .eq 7, 3) := by decide +kernel
theorem dX10_stateNow_87 : decode cX10_stateNow 87 = .ok (.iconst 5, 1) := by decide +kernel
theorem dX10_stateNow_88 : decode cX10_stateNow 88 = .ok (.goto 4, 3) := by decide +kernel
theorem dX10_stateNow_91 : decode cX10_stateNow 91 = .ok (.iconst 4, 1) := by decide +kernel
theorem dX10_stateNow_92 : decode cX10_stateNow 92 = .ok (.ireturn, 1) := by decide +kernel
theorem dX10_state_0 : decode cX10_state 0 = .ok (.aload_n 0, 1) := by decide +kernel
theorem dX10_state_1 : decode cX10_state 1 = .ok (.aload_n 0, 1) := by decide +kernel
theorem dX10_state_2 : decode cX10_state 2 = .ok (.iload_n 1, 1) := by decide +kernel
theorem dX10_state_3 : decode cX10_state 3 = .ok (.invokevirtual 133, 3) := by decide +kernel
theorem dX10_state_6 : decode cX10_state 6 = .ok (.ifCond .ne 11, 3) := by decide +kernel
theorem dX10_state_9 : decode cX10_state 9 = .ok (.aload_n 0, 1) := by decide +kernel
theorem dX10_state_10 : decode cX10_state 10 = .ok (.iload_n 2, 1) := by decide +kernel
theorem dX10_state_11 : decode cX10_state 11 = .ok (.invokevirtual 178, 3) := by decide +kernel
theorem dX10_state_14 : decode cX10_state 14 = .ok (.ifCond .eq 7, 3) := by decide +kernel
theorem dX10_state_17 : decode cX10_state 17 = .ok (.iconst 1, 1) := by decide +kernel
theorem dX10_state_18 : decode cX10_state 18 = .ok (.goto 4, 3) := by decide +kernel
theorem dX10_state_21 : decode cX10_state 21 = .ok (.iconst 0, 1) := by decide +kernel
theorem dX10_state_22 : decode cX10_state 22 = .ok (.iconst 1, 1) := by decide +kernel
theorem dX10_state_23 : decode cX10_state 23 = .ok (.invokevirtual 103, 3) := by decide +kernel
theorem dX10_state_26 : decode cX10_state 26 = .ok (.ifCond .eq 7, 3) := by decide +kernel
theorem dX10_state_29 : decode cX10_state 29 = .ok (.iconst 0, 1) := by decide +kernel
theorem dX10_state_30 : decode cX10_state 30 = .ok (.goto 9, 3) := by decide +kernel
theorem dX10_state_33 : decode cX10_state 33 = .ok (.aload_n 0, 1) := by decide +kernel
theorem dX10_state_34 : decode cX10_state 34 = .ok (.iload_n 1, 1) := by decide +kernel
theorem dX10_state_35 : decode cX10_state 35 = .ok (.iload_n 2, 1) := by decide +kernel
theorem dX10_state_36 : decode cX10_state 36 = .ok (.invokevirtual 254, 3) := by decide +kernel
theorem dX10_state_39 : decode cX10_state 39 = .ok (.ireturn, 1) := by decide +kernel
theorem dX10_tellsNow_0 : decode cX10_tellsNow 0 = .ok (.aload_n 0, 1) := by decide +kernel
theorem dX10_tellsNow_1 : decode cX10_tellsNow 1 = .ok (.getfield 19, 3) := by decide +kernel
theorem dX10_tellsNow_4 : decode cX10_tellsNow 4 = .ok (.invokevirtual 33, 3) := by decide +kernel
theorem dX10_tellsNow_7 : decode cX10_tellsNow 7 = .ok (.iconst 1, 1) := by decide +kernel
theorem dX10_tellsNow_8 : decode cX10_tellsNow 8 = .ok (.isub, 1) := by decide +kernel
theorem dX10_tellsNow_9 : decode cX10_tellsNow 9 = .ok (.istore 4, 2) := by decide +kernel
theorem dX10_tellsNow_11 : decode cX10_tellsNow 11 = .ok (.iload 4, 2) := by decide +kernel
theorem dX10_tellsNow_13 : decode cX10_tellsNow 13 = .ok (.ifCond .lt 49, 3) := by decide +kernel
theorem dX10_tellsNow_16 : decode cX10_tellsNow 16 = .ok (.aload_n 0, 1) := by decide +kernel
theorem dX10_tellsNow_17 : decode cX10_tellsNow 17 = .ok (.iload 4, 2) := by decide +kernel
theorem dX10_tellsNow_19 : decode cX10_tellsNow 19 = .ok (.iload_n 2, 1) := by decide +kernel
theorem dX10_tellsNow_20 : decode cX10_tellsNow 20 = .ok (.iload_n 3, 1) := by decide +kernel
theorem dX10_tellsNow_21 : decode cX10_tellsNow 21 = .ok (.invokevirtual 205, 3) := by decide +kernel
theorem dX10_tellsNow_24 : decode cX10_tellsNow 24 = .ok (.ifCond .eq 32, 3) := by decide +kernel
theorem dX10_tellsNow_27 : decode cX10_tellsNow 27 = .ok (.aload_n 0, 1) := by decide +kernel
theorem dX10_tellsNow_28 : decode cX10_tellsNow 28 = .ok (.iload_n 1, 1) := by decide +kernel
theorem dX10_tellsNow_29 : decode cX10_tellsNow 29 = .ok (.iload 4, 2) := by decide +kernel
theorem dX10_tellsNow_31 : decode cX10_tellsNow 31 = .ok (.invokevirtual 254, 3) := by decide +kernel
theorem dX10_tellsNow_34 : decode cX10_tellsNow 34 = .ok (.iconst 4, 1) := by decide +kernel
theorem dX10_tellsNow_35 : decode cX10_tellsNow 35 = .ok (.if_icmp .ne 21, 3) := by decide +kernel
theorem dX10_tellsNow_38 : decode cX10_tellsNow 38 = .ok (.aload_n 0, 1) := by decide +kernel
theorem dX10_tellsNow_39 : decode cX10_tellsNow 39 = .ok (.getfield 19, 3) := by decide +kernel
theorem dX10_tellsNow_42 : decode cX10_tellsNow 42 = .ok (.iload 4, 2) := by decide +kernel
theorem dX10_tellsNow_44 : decode cX10_tellsNow 44 = .ok (.invokevirtual 45, 3) := by decide +kernel
theorem dX10_tellsNow_47 : decode cX10_tellsNow 47 = .ok (.checkcast 154, 3) := by decide +kernel
theorem dX10_tellsNow_50 : decode cX10_tellsNow 50 = .ok (.getfield 169, 3) := by decide +kernel
theorem dX10_tellsNow_53 : decode cX10_tellsNow 53 = .ok (.iload_n 3, 1) := by decide +kernel
theorem dX10_tellsNow_54 : decode cX10_tellsNow 54 = .ok (.iaload, 1) := by decide +kernel
theorem dX10_tellsNow_55 : decode cX10_tellsNow 55 = .ok (.ireturn, 1) := by decide +kernel
theorem dX10_tellsNow_56 : decode cX10_tellsNow 56 = .ok (.iinc 4 (-1), 3) := by decide +kernel
theorem dX10_tellsNow_59 : decode cX10_tellsNow 59 = .ok (.goto (-48), 3) := by decide +kernel
theorem dX10_tellsNow_62 : decode cX10_tellsNow 62 = .ok (.iconst (-1), 1) := by decide +kernel
theorem dX10_tellsNow_63 : decode cX10_tellsNow 63 = .ok (.ireturn, 1) := by decide +kernel
theorem dX10_tells_0 : decode cX10_tells 0 = .ok (.aload_n 0, 1) := by decide +kernel
theorem dX10_tells_1 : decode cX10_tells 1 = .ok (.aload_n 0, 1) := by decide +kernel
theorem dX10_tells_2 : decode cX10_tells 2 = .ok (.iload_n 1, 1) := by decide +kernel
theorem dX10_tells_3 : decode cX10_tells 3 = .ok (.invokevirtual 133, 3) := by decide +kernel
theorem dX10_tells_6 : decode cX10_tells 6 = .ok (.ifCond .ne 12, 3) := by decide +kernel
theorem dX10_tells_9 : decode cX10_tells 9 = .ok (.aload_n 0, 1) := by decide +kernel
theorem dX10_tells_10 : decode cX10_tells 10 = .ok (.iload_n 2, 1) := by decide +kernel
theorem dX10_tells_11 : decode cX10_tells 11 = .ok (.iload_n 3, 1) := by decide +kernel
theorem dX10_tells_12 : decode cX10_tells 12 = .ok (.invokevirtual 119, 3) := by decide +kernel
theorem dX10_tells_15 : decode cX10_tells 15 = .ok (.ifCond .eq 7, 3) := by decide +kernel
theorem dX10_tells_18 : decode cX10_tells 18 = .ok (.iconst 1, 1) := by decide +kernel
theorem dX10_tells_19 : decode cX10_tells 19 = .ok (.goto 4, 3) := by decide +kernel
theorem dX10_tells_22 : decode cX10_tells 22 = .ok (.iconst 0, 1) := by decide +kernel
theorem dX10_tells_23 : decode cX10_tells 23 = .ok (.iconst 1, 1) := by decide +kernel
theorem dX10_tells_24 : decode cX10_tells 24 = .ok (.invokevirtual 103, 3) := by decide +kernel
theorem dX10_tells_27 : decode cX10_tells 27 = .ok (.ifCond .eq 7, 3) := by decide +kernel
theorem dX10_tells_30 : decode cX10_tells 30 = .ok (.iconst 0, 1) := by decide +kernel
theorem dX10_tells_31 : decode cX10_tells 31 = .ok (.goto 10, 3) := by decide +kernel
theorem dX10_tells_34 : decode cX10_tells 34 = .ok (.aload_n 0, 1) := by decide +kernel
theorem dX10_tells_35 : decode cX10_tells 35 = .ok (.iload_n 1, 1) := by decide +kernel
theorem dX10_tells_36 : decode cX10_tells 36 = .ok (.iload_n 2, 1) := by decide +kernel
theorem dX10_tells_37 : decode cX10_tells 37 = .ok (.iload_n 3, 1) := by decide +kernel
theorem dX10_tells_38 : decode cX10_tells 38 = .ok (.invokevirtual 257, 3) := by decide +kernel
theorem dX10_tells_41 : decode cX10_tells 41 = .ok (.ireturn, 1) := by decide +kernel
theorem dX10_told_0 : decode cX10_told 0 = .ok (.iconst 0, 1) := by decide +kernel
theorem dX10_told_1 : decode cX10_told 1 = .ok (.istore_n 3, 1) := by decide +kernel
theorem dX10_told_2 : decode cX10_told 2 = .ok (.iconst 0, 1) := by decide +kernel
theorem dX10_told_3 : decode cX10_told 3 = .ok (.istore 4, 2) := by decide +kernel
theorem dX10_told_5 : decode cX10_told 5 = .ok (.iload 4, 2) := by decide +kernel
theorem dX10_told_7 : decode cX10_told 7 = .ok (.aload_n 0, 1) := by decide +kernel
theorem dX10_told_8 : decode cX10_told 8 = .ok (.getfield 16, 3) := by decide +kernel
theorem dX10_told_11 : decode cX10_told 11 = .ok (.invokevirtual 33, 3) := by decide +kernel
theorem dX10_told_14 : decode cX10_told 14 = .ok (.if_icmp .ge 92, 3) := by decide +kernel
theorem dX10_told_17 : decode cX10_told 17 = .ok (.iconst 0, 1) := by decide +kernel
theorem dX10_told_18 : decode cX10_told 18 = .ok (.istore 5, 2) := by decide +kernel
theorem dX10_told_20 : decode cX10_told 20 = .ok (.iload 5, 2) := by decide +kernel
theorem dX10_told_22 : decode cX10_told 22 = .ok (.iconst 4, 1) := by decide +kernel
theorem dX10_told_23 : decode cX10_told 23 = .ok (.if_icmp .ge 77, 3) := by decide +kernel
theorem dX10_told_26 : decode cX10_told 26 = .ok (.aload_n 0, 1) := by decide +kernel
theorem dX10_told_27 : decode cX10_told 27 = .ok (.iload_n 1, 1) := by decide +kernel
theorem dX10_told_28 : decode cX10_told 28 = .ok (.iload 4, 2) := by decide +kernel
theorem dX10_told_30 : decode cX10_told 30 = .ok (.iload 5, 2) := by decide +kernel
theorem dX10_told_32 : decode cX10_told 32 = .ok (.invokevirtual 257, 3) := by decide +kernel
theorem dX10_told_35 : decode cX10_told 35 = .ok (.istore 6, 2) := by decide +kernel
theorem dX10_told_37 : decode cX10_told 37 = .ok (.iload 6, 2) := by decide +kernel
theorem dX10_told_39 : decode cX10_told 39 = .ok (.iconst (-1), 1) := by decide +kernel
theorem dX10_told_40 : decode cX10_told 40 = .ok (.if_icmp .ne 6, 3) := by decide +kernel
theorem dX10_told_43 : decode cX10_told 43 = .ok (.goto 51, 3) := by decide +kernel
theorem dX10_told_46 : decode cX10_told 46 = .ok (.iload_n 2, 1) := by decide +kernel
theorem dX10_told_47 : decode cX10_told 47 = .ok (.ifCond .eq 18, 3) := by decide +kernel
theorem dX10_told_50 : decode cX10_told 50 = .ok (.aload_n 0, 1) := by decide +kernel
theorem dX10_told_51 : decode cX10_told 51 = .ok (.aload_n 0, 1) := by decide +kernel
theorem dX10_told_52 : decode cX10_told 52 = .ok (.iload 4, 2) := by decide +kernel
theorem dX10_told_54 : decode cX10_told 54 = .ok (.iload 5, 2) := by decide +kernel
theorem dX10_told_56 : decode cX10_told 56 = .ok (.invokevirtual 123, 3) := by decide +kernel
theorem dX10_told_59 : decode cX10_told 59 = .ok (.invokevirtual 96, 3) := by decide +kernel
theorem dX10_told_62 : decode cX10_told 62 = .ok (.goto 5, 3) := by decide +kernel
theorem dX10_told_65 : decode cX10_told 65 = .ok (.iload 6, 2) := by decide +kernel
theorem dX10_told_67 : decode cX10_told 67 = .ok (.istore 7, 2) := by decide +kernel
theorem dX10_told_69 : decode cX10_told 69 = .ok (.iload_n 3, 1) := by decide +kernel
theorem dX10_told_70 : decode cX10_told 70 = .ok (.iload_n 2, 1) := by decide +kernel
theorem dX10_told_71 : decode cX10_told 71 = .ok (.ifCond .eq 16, 3) := by decide +kernel
theorem dX10_told_74 : decode cX10_told 74 = .ok (.iload 7, 2) := by decide +kernel
theorem dX10_told_76 : decode cX10_told 76 = .ok (.iconst (-1), 1) := by decide +kernel
theorem dX10_told_77 : decode cX10_told 77 = .ok (.if_icmp .eq 14, 3) := by decide +kernel
theorem dX10_told_80 : decode cX10_told 80 = .ok (.iload 7, 2) := by decide +kernel
theorem dX10_told_82 : decode cX10_told 82 = .ok (.iload 6, 2) := by decide +kernel
theorem dX10_told_84 : decode cX10_told 84 = .ok (.if_icmp .eq 7, 3) := by decide +kernel
theorem dX10_told_87 : decode cX10_told 87 = .ok (.iconst 1, 1) := by decide +kernel
theorem dX10_told_88 : decode cX10_told 88 = .ok (.goto 4, 3) := by decide +kernel
theorem dX10_told_91 : decode cX10_told 91 = .ok (.iconst 0, 1) := by decide +kernel
theorem dX10_told_92 : decode cX10_told 92 = .ok (.iadd, 1) := by decide +kernel
theorem dX10_told_93 : decode cX10_told 93 = .ok (.istore_n 3, 1) := by decide +kernel
theorem dX10_told_94 : decode cX10_told 94 = .ok (.iinc 5 1, 3) := by decide +kernel
theorem dX10_told_97 : decode cX10_told 97 = .ok (.goto (-77), 3) := by decide +kernel
theorem dX10_told_100 : decode cX10_told 100 = .ok (.iinc 4 1, 3) := by decide +kernel
theorem dX10_told_103 : decode cX10_told 103 = .ok (.goto (-98), 3) := by decide +kernel
theorem dX10_told_106 : decode cX10_told 106 = .ok (.iload_n 3, 1) := by decide +kernel
theorem dX10_told_107 : decode cX10_told 107 = .ok (.ireturn, 1) := by decide +kernel
theorem dX10_waiting_0 : decode cX10_waiting 0 = .ok (.iconst 0, 1) := by decide +kernel
theorem dX10_waiting_1 : decode cX10_waiting 1 = .ok (.istore_n 3, 1) := by decide +kernel
theorem dX10_waiting_2 : decode cX10_waiting 2 = .ok (.iconst 0, 1) := by decide +kernel
theorem dX10_waiting_3 : decode cX10_waiting 3 = .ok (.istore 4, 2) := by decide +kernel
theorem dX10_waiting_5 : decode cX10_waiting 5 = .ok (.iload 4, 2) := by decide +kernel
theorem dX10_waiting_7 : decode cX10_waiting 7 = .ok (.aload_n 0, 1) := by decide +kernel
theorem dX10_waiting_8 : decode cX10_waiting 8 = .ok (.getfield 19, 3) := by decide +kernel
theorem dX10_waiting_11 : decode cX10_waiting 11 = .ok (.invokevirtual 33, 3) := by decide +kernel
theorem dX10_waiting_14 : decode cX10_waiting 14 = .ok (.if_icmp .ge 36, 3) := by decide +kernel
theorem dX10_waiting_17 : decode cX10_waiting 17 = .ok (.aload_n 1, 1) := by decide +kernel
theorem dX10_waiting_18 : decode cX10_waiting 18 = .ok (.iload 4, 2) := by decide +kernel
theorem dX10_waiting_20 : decode cX10_waiting 20 = .ok (.invokevirtual 260, 3) := by decide +kernel
theorem dX10_waiting_23 : decode cX10_waiting 23 = .ok (.ifCond .eq 21, 3) := by decide +kernel
theorem dX10_waiting_26 : decode cX10_waiting 26 = .ok (.iload_n 3, 1) := by decide +kernel
theorem dX10_waiting_27 : decode cX10_waiting 27 = .ok (.iload_n 2, 1) := by decide +kernel
theorem dX10_waiting_28 : decode cX10_waiting 28 = .ok (.ifCond .eq 13, 3) := by decide +kernel
theorem dX10_waiting_31 : decode cX10_waiting 31 = .ok (.aload_n 1, 1) := by decide +kernel
theorem dX10_waiting_32 : decode cX10_waiting 32 = .ok (.getfield 247, 3) := by decide +kernel
theorem dX10_waiting_35 : decode cX10_waiting 35 = .ok (.iload 4, 2) := by decide +kernel
theorem dX10_waiting_37 : decode cX10_waiting 37 = .ok (.iaload, 1) := by decide +kernel
theorem dX10_waiting_38 : decode cX10_waiting 38 = .ok (.goto 4, 3) := by decide +kernel
theorem dX10_waiting_41 : decode cX10_waiting 41 = .ok (.iconst 1, 1) := by decide +kernel
theorem dX10_waiting_42 : decode cX10_waiting 42 = .ok (.iadd, 1) := by decide +kernel
theorem dX10_waiting_43 : decode cX10_waiting 43 = .ok (.istore_n 3, 1) := by decide +kernel
theorem dX10_waiting_44 : decode cX10_waiting 44 = .ok (.iinc 4 1, 3) := by decide +kernel
theorem dX10_waiting_47 : decode cX10_waiting 47 = .ok (.goto (-42), 3) := by decide +kernel
theorem dX10_waiting_50 : decode cX10_waiting 50 = .ok (.iload_n 3, 1) := by decide +kernel
theorem dX10_waiting_51 : decode cX10_waiting 51 = .ok (.ireturn, 1) := by decide +kernel
theorem dX10_ofLineNow_0 : decode cX10_ofLineNow 0 = .ok (.aload_n 0, 1) := by decide +kernel
theorem dX10_ofLineNow_1 : decode cX10_ofLineNow 1 = .ok (.getfield 22, 3) := by decide +kernel
theorem dX10_ofLineNow_4 : decode cX10_ofLineNow 4 = .ok (.iload_n 1, 1) := by decide +kernel
theorem dX10_ofLineNow_5 : decode cX10_ofLineNow 5 = .ok (.invokevirtual 45, 3) := by decide +kernel
theorem dX10_ofLineNow_8 : decode cX10_ofLineNow 8 = .ok (.checkcast 114, 3) := by decide +kernel
theorem dX10_ofLineNow_11 : decode cX10_ofLineNow 11 = .ok (.astore_n 3, 1) := by decide +kernel
theorem dX10_ofLineNow_12 : decode cX10_ofLineNow 12 = .ok (.iload_n 2, 1) := by decide +kernel
theorem dX10_ofLineNow_13 : decode cX10_ofLineNow 13 = .ok (.tableswitch 84 0 6 #[43, 48, 53, 58, 65, 72, 77], 43) := by decide +kernel
theorem dX10_ofLineNow_56 : decode cX10_ofLineNow 56 = .ok (.aload_n 3, 1) := by decide +kernel
theorem dX10_ofLineNow_57 : decode cX10_ofLineNow 57 = .ok (.getfield 263, 3) := by decide +kernel
theorem dX10_ofLineNow_60 : decode cX10_ofLineNow 60 = .ok (.ireturn, 1) := by decide +kernel
theorem dX10_ofLineNow_61 : decode cX10_ofLineNow 61 = .ok (.aload_n 3, 1) := by decide +kernel
theorem dX10_ofLineNow_62 : decode cX10_ofLineNow 62 = .ok (.getfield 208, 3) := by decide +kernel
theorem dX10_ofLineNow_65 : decode cX10_ofLineNow 65 = .ok (.ireturn, 1) := by decide +kernel
theorem dX10_ofLineNow_66 : decode cX10_ofLineNow 66 = .ok (.aload_n 3, 1) := by decide +kernel
theorem dX10_ofLineNow_67 : decode cX10_ofLineNow 67 = .ok (.getfield 136, 3) := by decide +kernel
theorem dX10_ofLineNow_70 : decode cX10_ofLineNow 70 = .ok (.ireturn, 1) := by decide +kernel
theorem dX10_ofLineNow_71 : decode cX10_ofLineNow 71 = .ok (.aload_n 0, 1) := by decide +kernel
theorem dX10_ofLineNow_72 : decode cX10_ofLineNow 72 = .ok (.aload_n 3, 1) := by decide +kernel
theorem dX10_ofLineNow_73 : decode cX10_ofLineNow 73 = .ok (.iconst 0, 1) := by decide +kernel
theorem dX10_ofLineNow_74 : decode cX10_ofLineNow 74 = .ok (.invokevirtual 266, 3) := by decide +kernel
theorem dX10_ofLineNow_77 : decode cX10_ofLineNow 77 = .ok (.ireturn, 1) := by decide +kernel
theorem dX10_ofLineNow_78 : decode cX10_ofLineNow 78 = .ok (.aload_n 0, 1) := by decide +kernel
theorem dX10_ofLineNow_79 : decode cX10_ofLineNow 79 = .ok (.aload_n 3, 1) := by decide +kernel
theorem dX10_ofLineNow_80 : decode cX10_ofLineNow 80 = .ok (.iconst 1, 1) := by decide +kernel
theorem dX10_ofLineNow_81 : decode cX10_ofLineNow 81 = .ok (.invokevirtual 266, 3) := by decide +kernel
theorem dX10_ofLineNow_84 : decode cX10_ofLineNow 84 = .ok (.ireturn, 1) := by decide +kernel
theorem dX10_ofLineNow_85 : decode cX10_ofLineNow 85 = .ok (.aload_n 3, 1) := by decide +kernel
theorem dX10_ofLineNow_86 : decode cX10_ofLineNow 86 = .ok (.getfield 270, 3) := by decide +kernel
theorem dX10_ofLineNow_89 : decode cX10_ofLineNow 89 = .ok (.ireturn, 1) := by decide +kernel
theorem dX10_ofLineNow_90 : decode cX10_ofLineNow 90 = .ok (.aload_n 0, 1) := by decide +kernel
theorem dX10_ofLineNow_91 : decode cX10_ofLineNow 91 = .ok (.iload_n 1, 1) := by decide +kernel
theorem dX10_ofLineNow_92 : decode cX10_ofLineNow 92 = .ok (.iconst 0, 1) := by decide +kernel
theorem dX10_ofLineNow_93 : decode cX10_ofLineNow 93 = .ok (.invokevirtual 273, 3) := by decide +kernel
theorem dX10_ofLineNow_96 : decode cX10_ofLineNow 96 = .ok (.ireturn, 1) := by decide +kernel
theorem dX10_ofLineNow_97 : decode cX10_ofLineNow 97 = .ok (.aload_n 0, 1) := by decide +kernel
theorem dX10_ofLineNow_98 : decode cX10_ofLineNow 98 = .ok (.iload_n 1, 1) := by decide +kernel
theorem dX10_ofLineNow_99 : decode cX10_ofLineNow 99 = .ok (.iconst 1, 1) := by decide +kernel
theorem dX10_ofLineNow_100 : decode cX10_ofLineNow 100 = .ok (.invokevirtual 273, 3) := by decide +kernel
theorem dX10_ofLineNow_103 : decode cX10_ofLineNow 103 = .ok (.ireturn, 1) := by decide +kernel
theorem dX10_ofLine_0 : decode cX10_ofLine 0 = .ok (.aload_n 0, 1) := by decide +kernel
theorem dX10_ofLine_1 : decode cX10_ofLine 1 = .ok (.aload_n 0, 1) := by decide +kernel
theorem dX10_ofLine_2 : decode cX10_ofLine 2 = .ok (.iload_n 1, 1) := by decide +kernel
theorem dX10_ofLine_3 : decode cX10_ofLine 3 = .ok (.invokevirtual 133, 3) := by decide +kernel
theorem dX10_ofLine_6 : decode cX10_ofLine 6 = .ok (.iconst 1, 1) := by decide +kernel
theorem dX10_ofLine_7 : decode cX10_ofLine 7 = .ok (.invokevirtual 103, 3) := by decide +kernel
theorem dX10_ofLine_10 : decode cX10_ofLine 10 = .ok (.ifCond .ne 26, 3) := by decide +kernel
theorem dX10_ofLine_13 : decode cX10_ofLine 13 = .ok (.aload_n 0, 1) := by decide +kernel
theorem dX10_ofLine_14 : decode cX10_ofLine 14 = .ok (.iload_n 2, 1) := by decide +kernel
theorem dX10_ofLine_15 : decode cX10_ofLine 15 = .ok (.iconst 0, 1) := by decide +kernel
theorem dX10_ofLine_16 : decode cX10_ofLine 16 = .ok (.bipush 7, 2) := by decide +kernel
theorem dX10_ofLine_18 : decode cX10_ofLine 18 = .ok (.invokestatic 37, 3) := by decide +kernel
theorem dX10_ofLine_21 : decode cX10_ofLine 21 = .ok (.ifCond .ne 7, 3) := by decide +kernel
theorem dX10_ofLine_24 : decode cX10_ofLine 24 = .ok (.iconst 1, 1) := by decide +kernel
theorem dX10_ofLine_25 : decode cX10_ofLine 25 = .ok (.goto 4, 3) := by decide +kernel
theorem dX10_ofLine_28 : decode cX10_ofLine 28 = .ok (.iconst 0, 1) := by decide +kernel
theorem dX10_ofLine_29 : decode cX10_ofLine 29 = .ok (.iconst 2, 1) := by decide +kernel
theorem dX10_ofLine_30 : decode cX10_ofLine 30 = .ok (.invokevirtual 29, 3) := by decide +kernel
theorem dX10_ofLine_33 : decode cX10_ofLine 33 = .ok (.ifCond .eq 7, 3) := by decide +kernel
theorem dX10_ofLine_36 : decode cX10_ofLine 36 = .ok (.iconst 0, 1) := by decide +kernel
theorem dX10_ofLine_37 : decode cX10_ofLine 37 = .ok (.goto 9, 3) := by decide +kernel
theorem dX10_ofLine_40 : decode cX10_ofLine 40 = .ok (.aload_n 0, 1) := by decide +kernel
theorem dX10_ofLine_41 : decode cX10_ofLine 41 = .ok (.iload_n 1, 1) := by decide +kernel
theorem dX10_ofLine_42 : decode cX10_ofLine 42 = .ok (.iload_n 2, 1) := by decide +kernel
theorem dX10_ofLine_43 : decode cX10_ofLine 43 = .ok (.invokevirtual 277, 3) := by decide +kernel
theorem dX10_ofLine_46 : decode cX10_ofLine 46 = .ok (.ireturn, 1) := by decide +kernel
theorem dX10_facts_0 : decode cX10_facts 0 = .ok (.iconst 0, 1) := by decide +kernel
theorem dX10_facts_1 : decode cX10_facts 1 = .ok (.istore_n 2, 1) := by decide +kernel
theorem dX10_facts_2 : decode cX10_facts 2 = .ok (.iconst 0, 1) := by decide +kernel
theorem dX10_facts_3 : decode cX10_facts 3 = .ok (.istore_n 3, 1) := by decide +kernel
theorem dX10_facts_4 : decode cX10_facts 4 = .ok (.iload_n 3, 1) := by decide +kernel
theorem dX10_facts_5 : decode cX10_facts 5 = .ok (.aload_n 0, 1) := by decide +kernel
theorem dX10_facts_6 : decode cX10_facts 6 = .ok (.getfield 16, 3) := by decide +kernel
theorem dX10_facts_9 : decode cX10_facts 9 = .ok (.invokevirtual 33, 3) := by decide +kernel
theorem dX10_facts_12 : decode cX10_facts 12 = .ok (.if_icmp .ge 103, 3) := by decide +kernel
theorem dX10_facts_15 : decode cX10_facts 15 = .ok (.iconst 0, 1) := by decide +kernel
theorem dX10_facts_16 : decode cX10_facts 16 = .ok (.istore 4, 2) := by decide +kernel
theorem dX10_facts_18 : decode cX10_facts 18 = .ok (.iload 4, 2) := by decide +kernel
theorem dX10_facts_20 : decode cX10_facts 20 = .ok (.iconst 4, 1) := by decide +kernel
theorem dX10_facts_21 : decode cX10_facts 21 = .ok (.if_icmp .ge 88, 3) := by decide +kernel
theorem dX10_facts_24 : decode cX10_facts 24 = .ok (.aload_n 0, 1) := by decide +kernel
theorem dX10_facts_25 : decode cX10_facts 25 = .ok (.iload_n 3, 1) := by decide +kernel
theorem dX10_facts_26 : decode cX10_facts 26 = .ok (.iload 4, 2) := by decide +kernel
theorem dX10_facts_28 : decode cX10_facts 28 = .ok (.invokevirtual 123, 3) := by decide +kernel
theorem dX10_facts_31 : decode cX10_facts 31 = .ok (.astore 5, 2) := by decide +kernel
theorem dX10_facts_33 : decode cX10_facts 33 = .ok (.iload_n 1, 1) := by decide +kernel
theorem dX10_facts_34 : decode cX10_facts 34 = .ok (.iconst 2, 1) := by decide +kernel
theorem dX10_facts_35 : decode cX10_facts 35 = .ok (.if_icmp .ne 13, 3) := by decide +kernel
theorem dX10_facts_38 : decode cX10_facts 38 = .ok (.aload_n 0, 1) := by decide +kernel
theorem dX10_facts_39 : decode cX10_facts 39 = .ok (.iload_n 3, 1) := by decide +kernel
theorem dX10_facts_40 : decode cX10_facts 40 = .ok (.iload 4, 2) := by decide +kernel
theorem dX10_facts_42 : decode cX10_facts 42 = .ok (.invokevirtual 222, 3) := by decide +kernel
theorem dX10_facts_45 : decode cX10_facts 45 = .ok (.goto 43, 3) := by decide +kernel
theorem dX10_facts_48 : decode cX10_facts 48 = .ok (.aload 5, 2) := by decide +kernel
theorem dX10_facts_50 : decode cX10_facts 50 = .ok (.invokestatic 217, 3) := by decide +kernel
theorem dX10_facts_53 : decode cX10_facts 53 = .ok (.ifCond .le 34, 3) := by decide +kernel
theorem dX10_facts_56 : decode cX10_facts 56 = .ok (.aload_n 0, 1) := by decide +kernel
theorem dX10_facts_57 : decode cX10_facts 57 = .ok (.aload 5, 2) := by decide +kernel
theorem dX10_facts_59 : decode cX10_facts 59 = .ok (.invokevirtual 96, 3) := by decide +kernel
theorem dX10_facts_62 : decode cX10_facts 62 = .ok (.iconst (-1), 1) := by decide +kernel
theorem dX10_facts_63 : decode cX10_facts 63 = .ok (.if_icmp .eq 7, 3) := by decide +kernel
theorem dX10_facts_66 : decode cX10_facts 66 = .ok (.iconst 1, 1) := by decide +kernel
theorem dX10_facts_67 : decode cX10_facts 67 = .ok (.goto 4, 3) := by decide +kernel
theorem dX10_facts_70 : decode cX10_facts 70 = .ok (.iconst 0, 1) := by decide +kernel
theorem dX10_facts_71 : decode cX10_facts 71 = .ok (.iload_n 1, 1) := by decide +kernel
theorem dX10_facts_72 : decode cX10_facts 72 = .ok (.ifCond .ne 7, 3) := by decide +kernel
theorem dX10_facts_75 : decode cX10_facts 75 = .ok (.iconst 1, 1) := by decide +kernel
theorem dX10_facts_76 : decode cX10_facts 76 = .ok (.goto 4, 3) := by decide +kernel
theorem dX10_facts_79 : decode cX10_facts 79 = .ok (.iconst 0, 1) := by decide +kernel
theorem dX10_facts_80 : decode cX10_facts 80 = .ok (.if_icmp .ne 7, 3) := by decide +kernel
theorem dX10_facts_83 : decode cX10_facts 83 = .ok (.iconst 1, 1) := by decide +kernel
theorem dX10_facts_84 : decode cX10_facts 84 = .ok (.goto 4, 3) := by decide +kernel
theorem dX10_facts_87 : decode cX10_facts 87 = .ok (.iconst 0, 1) := by decide +kernel
theorem dX10_facts_88 : decode cX10_facts 88 = .ok (.istore 6, 2) := by decide +kernel
theorem dX10_facts_90 : decode cX10_facts 90 = .ok (.iload_n 2, 1) := by decide +kernel
theorem dX10_facts_91 : decode cX10_facts 91 = .ok (.iload 6, 2) := by decide +kernel
theorem dX10_facts_93 : decode cX10_facts 93 = .ok (.ifCond .eq 7, 3) := by decide +kernel
theorem dX10_facts_96 : decode cX10_facts 96 = .ok (.iconst 1, 1) := by decide +kernel
theorem dX10_facts_97 : decode cX10_facts 97 = .ok (.goto 4, 3) := by decide +kernel
theorem dX10_facts_100 : decode cX10_facts 100 = .ok (.iconst 0, 1) := by decide +kernel
theorem dX10_facts_101 : decode cX10_facts 101 = .ok (.iadd, 1) := by decide +kernel
theorem dX10_facts_102 : decode cX10_facts 102 = .ok (.istore_n 2, 1) := by decide +kernel
theorem dX10_facts_103 : decode cX10_facts 103 = .ok (.iinc 4 1, 3) := by decide +kernel
theorem dX10_facts_106 : decode cX10_facts 106 = .ok (.goto (-88), 3) := by decide +kernel
theorem dX10_facts_109 : decode cX10_facts 109 = .ok (.iinc 3 1, 3) := by decide +kernel
theorem dX10_facts_112 : decode cX10_facts 112 = .ok (.goto (-108), 3) := by decide +kernel
theorem dX10_facts_115 : decode cX10_facts 115 = .ok (.iload_n 2, 1) := by decide +kernel
theorem dX10_facts_116 : decode cX10_facts 116 = .ok (.ireturn, 1) := by decide +kernel
theorem dX10_takesOf_0 : decode cX10_takesOf 0 = .ok (.iconst 0, 1) := by decide +kernel
theorem dX10_takesOf_1 : decode cX10_takesOf 1 = .ok (.istore_n 2, 1) := by decide +kernel
theorem dX10_takesOf_2 : decode cX10_takesOf 2 = .ok (.aload_n 0, 1) := by decide +kernel
theorem dX10_takesOf_3 : decode cX10_takesOf 3 = .ok (.getfield 19, 3) := by decide +kernel
theorem dX10_takesOf_6 : decode cX10_takesOf 6 = .ok (.invokevirtual 139, 3) := by decide +kernel
theorem dX10_takesOf_9 : decode cX10_takesOf 9 = .ok (.astore_n 3, 1) := by decide +kernel
theorem dX10_takesOf_10 : decode cX10_takesOf 10 = .ok (.aload_n 3, 1) := by decide +kernel
theorem dX10_takesOf_11 : decode cX10_takesOf 11 = .ok (.invokeinterface 143 1, 5) := by decide +kernel
theorem dX10_takesOf_16 : decode cX10_takesOf 16 = .ok (.ifCond .eq 47, 3) := by decide +kernel
theorem dX10_takesOf_19 : decode cX10_takesOf 19 = .ok (.aload_n 3, 1) := by decide +kernel
theorem dX10_takesOf_20 : decode cX10_takesOf 20 = .ok (.invokeinterface 149 1, 5) := by decide +kernel
theorem dX10_takesOf_25 : decode cX10_takesOf 25 = .ok (.checkcast 154, 3) := by decide +kernel
theorem dX10_takesOf_28 : decode cX10_takesOf 28 = .ok (.astore 4, 2) := by decide +kernel
theorem dX10_takesOf_30 : decode cX10_takesOf 30 = .ok (.iload_n 2, 1) := by decide +kernel
theorem dX10_takesOf_31 : decode cX10_takesOf 31 = .ok (.iload_n 1, 1) := by decide +kernel
theorem dX10_takesOf_32 : decode cX10_takesOf 32 = .ok (.iconst (-1), 1) := by decide +kernel
theorem dX10_takesOf_33 : decode cX10_takesOf 33 = .ok (.if_icmp .ne 11, 3) := by decide +kernel
theorem dX10_takesOf_36 : decode cX10_takesOf 36 = .ok (.aload 4, 2) := by decide +kernel
theorem dX10_takesOf_38 : decode cX10_takesOf 38 = .ok (.getfield 184, 3) := by decide +kernel
theorem dX10_takesOf_41 : decode cX10_takesOf 41 = .ok (.ifCond .ne 12, 3) := by decide +kernel
theorem dX10_takesOf_44 : decode cX10_takesOf 44 = .ok (.aload 4, 2) := by decide +kernel
theorem dX10_takesOf_46 : decode cX10_takesOf 46 = .ok (.getfield 191, 3) := by decide +kernel
theorem dX10_takesOf_49 : decode cX10_takesOf 49 = .ok (.iload_n 1, 1) := by decide +kernel
theorem dX10_takesOf_50 : decode cX10_takesOf 50 = .ok (.if_icmp .ne 7, 3) := by decide +kernel
theorem dX10_takesOf_53 : decode cX10_takesOf 53 = .ok (.iconst 1, 1) := by decide +kernel
theorem dX10_takesOf_54 : decode cX10_takesOf 54 = .ok (.goto 4, 3) := by decide +kernel
theorem dX10_takesOf_57 : decode cX10_takesOf 57 = .ok (.iconst 0, 1) := by decide +kernel
theorem dX10_takesOf_58 : decode cX10_takesOf 58 = .ok (.iadd, 1) := by decide +kernel
theorem dX10_takesOf_59 : decode cX10_takesOf 59 = .ok (.istore_n 2, 1) := by decide +kernel
theorem dX10_takesOf_60 : decode cX10_takesOf 60 = .ok (.goto (-50), 3) := by decide +kernel
theorem dX10_takesOf_63 : decode cX10_takesOf 63 = .ok (.iload_n 2, 1) := by decide +kernel
theorem dX10_takesOf_64 : decode cX10_takesOf 64 = .ok (.ireturn, 1) := by decide +kernel
theorem dX10_wrong_0 : decode cX10_wrong 0 = .ok (.iconst 0, 1) := by decide +kernel
theorem dX10_wrong_1 : decode cX10_wrong 1 = .ok (.istore_n 1, 1) := by decide +kernel
theorem dX10_wrong_2 : decode cX10_wrong 2 = .ok (.iconst 0, 1) := by decide +kernel
theorem dX10_wrong_3 : decode cX10_wrong 3 = .ok (.istore_n 2, 1) := by decide +kernel
theorem dX10_wrong_4 : decode cX10_wrong 4 = .ok (.iload_n 2, 1) := by decide +kernel
theorem dX10_wrong_5 : decode cX10_wrong 5 = .ok (.aload_n 0, 1) := by decide +kernel
theorem dX10_wrong_6 : decode cX10_wrong 6 = .ok (.getfield 22, 3) := by decide +kernel
theorem dX10_wrong_9 : decode cX10_wrong 9 = .ok (.invokevirtual 33, 3) := by decide +kernel
theorem dX10_wrong_12 : decode cX10_wrong 12 = .ok (.if_icmp .ge 18, 3) := by decide +kernel
theorem dX10_wrong_15 : decode cX10_wrong 15 = .ok (.iload_n 1, 1) := by decide +kernel
theorem dX10_wrong_16 : decode cX10_wrong 16 = .ok (.aload_n 0, 1) := by decide +kernel
theorem dX10_wrong_17 : decode cX10_wrong 17 = .ok (.iload_n 2, 1) := by decide +kernel
theorem dX10_wrong_18 : decode cX10_wrong 18 = .ok (.iconst 1, 1) := by decide +kernel
theorem dX10_wrong_19 : decode cX10_wrong 19 = .ok (.invokevirtual 273, 3) := by decide +kernel
theorem dX10_wrong_22 : decode cX10_wrong 22 = .ok (.iadd, 1) := by decide +kernel
theorem dX10_wrong_23 : decode cX10_wrong 23 = .ok (.istore_n 1, 1) := by decide +kernel
theorem dX10_wrong_24 : decode cX10_wrong 24 = .ok (.iinc 2 1, 3) := by decide +kernel
theorem dX10_wrong_27 : decode cX10_wrong 27 = .ok (.goto (-23), 3) := by decide +kernel
theorem dX10_wrong_30 : decode cX10_wrong 30 = .ok (.iload_n 1, 1) := by decide +kernel
theorem dX10_wrong_31 : decode cX10_wrong 31 = .ok (.ireturn, 1) := by decide +kernel
theorem dX10_manyNow_0 : decode cX10_manyNow 0 = .ok (.iload_n 1, 1) := by decide +kernel
theorem dX10_manyNow_1 : decode cX10_manyNow 1 = .ok (.tableswitch 113 0 9 #[55, 60, 68, 76, 84, 92, 98, 104, 104, 104], 55) := by decide +kernel
theorem dX10_manyNow_56 : decode cX10_manyNow 56 = .ok (.aload_n 0, 1) := by decide +kernel
theorem dX10_manyNow_57 : decode cX10_manyNow 57 = .ok (.getfield 130, 3) := by decide +kernel
theorem dX10_manyNow_60 : decode cX10_manyNow 60 = .ok (.ireturn, 1) := by decide +kernel
theorem dX10_manyNow_61 : decode cX10_manyNow 61 = .ok (.aload_n 0, 1) := by decide +kernel
theorem dX10_manyNow_62 : decode cX10_manyNow 62 = .ok (.getfield 10, 3) := by decide +kernel
theorem dX10_manyNow_65 : decode cX10_manyNow 65 = .ok (.invokevirtual 33, 3) := by decide +kernel
theorem dX10_manyNow_68 : decode cX10_manyNow 68 = .ok (.ireturn, 1) := by decide +kernel
theorem dX10_manyNow_69 : decode cX10_manyNow 69 = .ok (.aload_n 0, 1) := by decide +kernel
theorem dX10_manyNow_70 : decode cX10_manyNow 70 = .ok (.getfield 16, 3) := by decide +kernel
theorem dX10_manyNow_73 : decode cX10_manyNow 73 = .ok (.invokevirtual 33, 3) := by decide +kernel
theorem dX10_manyNow_76 : decode cX10_manyNow 76 = .ok (.ireturn, 1) := by decide +kernel
theorem dX10_manyNow_77 : decode cX10_manyNow 77 = .ok (.aload_n 0, 1) := by decide +kernel
theorem dX10_manyNow_78 : decode cX10_manyNow 78 = .ok (.getfield 22, 3) := by decide +kernel
theorem dX10_manyNow_81 : decode cX10_manyNow 81 = .ok (.invokevirtual 33, 3) := by decide +kernel
theorem dX10_manyNow_84 : decode cX10_manyNow 84 = .ok (.ireturn, 1) := by decide +kernel
theorem dX10_manyNow_85 : decode cX10_manyNow 85 = .ok (.aload_n 0, 1) := by decide +kernel
theorem dX10_manyNow_86 : decode cX10_manyNow 86 = .ok (.getfield 19, 3) := by decide +kernel
theorem dX10_manyNow_89 : decode cX10_manyNow 89 = .ok (.invokevirtual 33, 3) := by decide +kernel
theorem dX10_manyNow_92 : decode cX10_manyNow 92 = .ok (.ireturn, 1) := by decide +kernel
theorem dX10_manyNow_93 : decode cX10_manyNow 93 = .ok (.aload_n 0, 1) := by decide +kernel
theorem dX10_manyNow_94 : decode cX10_manyNow 94 = .ok (.iconst (-1), 1) := by decide +kernel
theorem dX10_manyNow_95 : decode cX10_manyNow 95 = .ok (.invokevirtual 280, 3) := by decide +kernel
theorem dX10_manyNow_98 : decode cX10_manyNow 98 = .ok (.ireturn, 1) := by decide +kernel
theorem dX10_manyNow_99 : decode cX10_manyNow 99 = .ok (.aload_n 0, 1) := by decide +kernel
theorem dX10_manyNow_100 : decode cX10_manyNow 100 = .ok (.iconst 2, 1) := by decide +kernel
theorem dX10_manyNow_101 : decode cX10_manyNow 101 = .ok (.invokevirtual 280, 3) := by decide +kernel
theorem dX10_manyNow_104 : decode cX10_manyNow 104 = .ok (.ireturn, 1) := by decide +kernel
theorem dX10_manyNow_105 : decode cX10_manyNow 105 = .ok (.aload_n 0, 1) := by decide +kernel
theorem dX10_manyNow_106 : decode cX10_manyNow 106 = .ok (.iload_n 1, 1) := by decide +kernel
theorem dX10_manyNow_107 : decode cX10_manyNow 107 = .ok (.bipush 7, 2) := by decide +kernel
theorem dX10_manyNow_109 : decode cX10_manyNow 109 = .ok (.isub, 1) := by decide +kernel
theorem dX10_manyNow_110 : decode cX10_manyNow 110 = .ok (.invokevirtual 283, 3) := by decide +kernel
theorem dX10_manyNow_113 : decode cX10_manyNow 113 = .ok (.ireturn, 1) := by decide +kernel
theorem dX10_manyNow_114 : decode cX10_manyNow 114 = .ok (.aload_n 0, 1) := by decide +kernel
theorem dX10_manyNow_115 : decode cX10_manyNow 115 = .ok (.invokevirtual 285, 3) := by decide +kernel
theorem dX10_manyNow_118 : decode cX10_manyNow 118 = .ok (.ireturn, 1) := by decide +kernel
theorem dX10_many_0 : decode cX10_many 0 = .ok (.aload_n 0, 1) := by decide +kernel
theorem dX10_many_1 : decode cX10_many 1 = .ok (.iload_n 1, 1) := by decide +kernel
theorem dX10_many_2 : decode cX10_many 2 = .ok (.iconst 0, 1) := by decide +kernel
theorem dX10_many_3 : decode cX10_many 3 = .ok (.bipush 10, 2) := by decide +kernel
theorem dX10_many_5 : decode cX10_many 5 = .ok (.invokestatic 37, 3) := by decide +kernel
theorem dX10_many_8 : decode cX10_many 8 = .ok (.ifCond .ne 7, 3) := by decide +kernel
theorem dX10_many_11 : decode cX10_many 11 = .ok (.iconst 1, 1) := by decide +kernel
theorem dX10_many_12 : decode cX10_many 12 = .ok (.goto 4, 3) := by decide +kernel
theorem dX10_many_15 : decode cX10_many 15 = .ok (.iconst 0, 1) := by decide +kernel
theorem dX10_many_16 : decode cX10_many 16 = .ok (.iconst 1, 1) := by decide +kernel
theorem dX10_many_17 : decode cX10_many 17 = .ok (.invokevirtual 103, 3) := by decide +kernel
theorem dX10_many_20 : decode cX10_many 20 = .ok (.ifCond .eq 7, 3) := by decide +kernel
theorem dX10_many_23 : decode cX10_many 23 = .ok (.iconst 0, 1) := by decide +kernel
theorem dX10_many_24 : decode cX10_many 24 = .ok (.goto 8, 3) := by decide +kernel
theorem dX10_many_27 : decode cX10_many 27 = .ok (.aload_n 0, 1) := by decide +kernel
theorem dX10_many_28 : decode cX10_many 28 = .ok (.iload_n 1, 1) := by decide +kernel
theorem dX10_many_29 : decode cX10_many 29 = .ok (.invokevirtual 288, 3) := by decide +kernel
theorem dX10_many_32 : decode cX10_many 32 = .ok (.ireturn, 1) := by decide +kernel
theorem dX10_meanDelay_0 : decode cX10_meanDelay 0 = .ok (.aload_n 0, 1) := by decide +kernel
theorem dX10_meanDelay_1 : decode cX10_meanDelay 1 = .ok (.iconst 0, 1) := by decide +kernel
theorem dX10_meanDelay_2 : decode cX10_meanDelay 2 = .ok (.putfield 25, 3) := by decide +kernel
theorem dX10_meanDelay_5 : decode cX10_meanDelay 5 = .ok (.iconst 0, 1) := by decide +kernel
theorem dX10_meanDelay_6 : decode cX10_meanDelay 6 = .ok (.istore_n 1, 1) := by decide +kernel
theorem dX10_meanDelay_7 : decode cX10_meanDelay 7 = .ok (.iconst 0, 1) := by decide +kernel
theorem dX10_meanDelay_8 : decode cX10_meanDelay 8 = .ok (.istore_n 2, 1) := by decide +kernel
theorem dX10_meanDelay_9 : decode cX10_meanDelay 9 = .ok (.iconst 0, 1) := by decide +kernel
theorem dX10_meanDelay_10 : decode cX10_meanDelay 10 = .ok (.istore_n 3, 1) := by decide +kernel
theorem dX10_meanDelay_11 : decode cX10_meanDelay 11 = .ok (.iload_n 3, 1) := by decide +kernel
theorem dX10_meanDelay_12 : decode cX10_meanDelay 12 = .ok (.aload_n 0, 1) := by decide +kernel
theorem dX10_meanDelay_13 : decode cX10_meanDelay 13 = .ok (.getfield 19, 3) := by decide +kernel
theorem dX10_meanDelay_16 : decode cX10_meanDelay 16 = .ok (.invokevirtual 33, 3) := by decide +kernel
theorem dX10_meanDelay_19 : decode cX10_meanDelay 19 = .ok (.if_icmp .ge 99, 3) := by decide +kernel
theorem dX10_meanDelay_22 : decode cX10_meanDelay 22 = .ok (.aload_n 0, 1) := by decide +kernel
theorem dX10_meanDelay_23 : decode cX10_meanDelay 23 = .ok (.getfield 22, 3) := by decide +kernel
theorem dX10_meanDelay_26 : decode cX10_meanDelay 26 = .ok (.invokevirtual 139, 3) := by decide +kernel
theorem dX10_meanDelay_29 : decode cX10_meanDelay 29 = .ok (.astore 4, 2) := by decide +kernel
theorem dX10_meanDelay_31 : decode cX10_meanDelay 31 = .ok (.aload 4, 2) := by decide +kernel
theorem dX10_meanDelay_33 : decode cX10_meanDelay 33 = .ok (.invokeinterface 143 1, 5) := by decide +kernel
theorem dX10_meanDelay_38 : decode cX10_meanDelay 38 = .ok (.ifCond .eq 74, 3) := by decide +kernel
theorem dX10_meanDelay_41 : decode cX10_meanDelay 41 = .ok (.aload 4, 2) := by decide +kernel
theorem dX10_meanDelay_43 : decode cX10_meanDelay 43 = .ok (.invokeinterface 149 1, 5) := by decide +kernel
theorem dX10_meanDelay_48 : decode cX10_meanDelay 48 = .ok (.checkcast 114, 3) := by decide +kernel
theorem dX10_meanDelay_51 : decode cX10_meanDelay 51 = .ok (.astore 5, 2) := by decide +kernel
theorem dX10_meanDelay_53 : decode cX10_meanDelay 53 = .ok (.aload 5, 2) := by decide +kernel
theorem dX10_meanDelay_55 : decode cX10_meanDelay 55 = .ok (.getfield 194, 3) := by decide +kernel
theorem dX10_meanDelay_58 : decode cX10_meanDelay 58 = .ok (.iload_n 3, 1) := by decide +kernel
theorem dX10_meanDelay_59 : decode cX10_meanDelay 59 = .ok (.iaload, 1) := by decide +kernel
theorem dX10_meanDelay_60 : decode cX10_meanDelay 60 = .ok (.iconst (-1), 1) := by decide +kernel
theorem dX10_meanDelay_61 : decode cX10_meanDelay 61 = .ok (.if_icmp .eq 48, 3) := by decide +kernel
theorem dX10_meanDelay_64 : decode cX10_meanDelay 64 = .ok (.iinc 1 1, 3) := by decide +kernel
theorem dX10_meanDelay_67 : decode cX10_meanDelay 67 = .ok (.iload_n 2, 1) := by decide +kernel
theorem dX10_meanDelay_68 : decode cX10_meanDelay 68 = .ok (.aload 5, 2) := by decide +kernel
theorem dX10_meanDelay_70 : decode cX10_meanDelay 70 = .ok (.getfield 194, 3) := by decide +kernel
theorem dX10_meanDelay_73 : decode cX10_meanDelay 73 = .ok (.iload_n 3, 1) := by decide +kernel
theorem dX10_meanDelay_74 : decode cX10_meanDelay 74 = .ok (.iaload, 1) := by decide +kernel
theorem dX10_meanDelay_75 : decode cX10_meanDelay 75 = .ok (.aload_n 0, 1) := by decide +kernel
theorem dX10_meanDelay_76 : decode cX10_meanDelay 76 = .ok (.getfield 19, 3) := by decide +kernel
theorem dX10_meanDelay_79 : decode cX10_meanDelay 79 = .ok (.iload_n 3, 1) := by decide +kernel
theorem dX10_meanDelay_80 : decode cX10_meanDelay 80 = .ok (.invokevirtual 45, 3) := by decide +kernel
theorem dX10_meanDelay_83 : decode cX10_meanDelay 83 = .ok (.checkcast 154, 3) := by decide +kernel
theorem dX10_meanDelay_86 : decode cX10_meanDelay 86 = .ok (.getfield 238, 3) := by decide +kernel
theorem dX10_meanDelay_89 : decode cX10_meanDelay 89 = .ok (.aload_n 0, 1) := by decide +kernel
theorem dX10_meanDelay_90 : decode cX10_meanDelay 90 = .ok (.getfield 19, 3) := by decide +kernel
theorem dX10_meanDelay_93 : decode cX10_meanDelay 93 = .ok (.iload_n 3, 1) := by decide +kernel
theorem dX10_meanDelay_94 : decode cX10_meanDelay 94 = .ok (.invokevirtual 45, 3) := by decide +kernel
theorem dX10_meanDelay_97 : decode cX10_meanDelay 97 = .ok (.checkcast 154, 3) := by decide +kernel
theorem dX10_meanDelay_100 : decode cX10_meanDelay 100 = .ok (.getfield 229, 3) := by decide +kernel
theorem dX10_meanDelay_103 : decode cX10_meanDelay 103 = .ok (.invokestatic 71, 3) := by decide +kernel
theorem dX10_meanDelay_106 : decode cX10_meanDelay 106 = .ok (.isub, 1) := by decide +kernel
theorem dX10_meanDelay_107 : decode cX10_meanDelay 107 = .ok (.iadd, 1) := by decide +kernel
theorem dX10_meanDelay_108 : decode cX10_meanDelay 108 = .ok (.istore_n 2, 1) := by decide +kernel
theorem dX10_meanDelay_109 : decode cX10_meanDelay 109 = .ok (.goto (-78), 3) := by decide +kernel
theorem dX10_meanDelay_112 : decode cX10_meanDelay 112 = .ok (.iinc 3 1, 3) := by decide +kernel
theorem dX10_meanDelay_115 : decode cX10_meanDelay 115 = .ok (.goto (-104), 3) := by decide +kernel
theorem dX10_meanDelay_118 : decode cX10_meanDelay 118 = .ok (.iload_n 1, 1) := by decide +kernel
theorem dX10_meanDelay_119 : decode cX10_meanDelay 119 = .ok (.ifCond .ne 7, 3) := by decide +kernel
theorem dX10_meanDelay_122 : decode cX10_meanDelay 122 = .ok (.dconst 0, 1) := by decide +kernel
theorem dX10_meanDelay_123 : decode cX10_meanDelay 123 = .ok (.goto 8, 3) := by decide +kernel
theorem dX10_meanDelay_126 : decode cX10_meanDelay 126 = .ok (.iload_n 2, 1) := by decide +kernel
theorem dX10_meanDelay_127 : decode cX10_meanDelay 127 = .ok (.i2d, 1) := by decide +kernel
theorem dX10_meanDelay_128 : decode cX10_meanDelay 128 = .ok (.iload_n 1, 1) := by decide +kernel
theorem dX10_meanDelay_129 : decode cX10_meanDelay 129 = .ok (.i2d, 1) := by decide +kernel
theorem dX10_meanDelay_130 : decode cX10_meanDelay 130 = .ok (.ddiv, 1) := by decide +kernel
theorem dX10_meanDelay_131 : decode cX10_meanDelay 131 = .ok (.dreturn, 1) := by decide +kernel
theorem dX10_arrivesNow_0 : decode cX10_arrivesNow 0 = .ok (.aload_n 1, 1) := by decide +kernel
theorem dX10_arrivesNow_1 : decode cX10_arrivesNow 1 = .ok (.getfield 197, 3) := by decide +kernel
theorem dX10_arrivesNow_4 : decode cX10_arrivesNow 4 = .ok (.iload_n 3, 1) := by decide +kernel
theorem dX10_arrivesNow_5 : decode cX10_arrivesNow 5 = .ok (.baload, 1) := by decide +kernel
theorem dX10_arrivesNow_6 : decode cX10_arrivesNow 6 = .ok (.ifCond .ne 5, 3) := by decide +kernel
theorem dX10_arrivesNow_9 : decode cX10_arrivesNow 9 = .ok (.iconst (-1), 1) := by decide +kernel
theorem dX10_arrivesNow_10 : decode cX10_arrivesNow 10 = .ok (.ireturn, 1) := by decide +kernel
theorem dX10_arrivesNow_11 : decode cX10_arrivesNow 11 = .ok (.iconst 0, 1) := by decide +kernel
theorem dX10_arrivesNow_12 : decode cX10_arrivesNow 12 = .ok (.istore 4, 2) := by decide +kernel
theorem dX10_arrivesNow_14 : decode cX10_arrivesNow 14 = .ok (.iload 4, 2) := by decide +kernel
theorem dX10_arrivesNow_16 : decode cX10_arrivesNow 16 = .ok (.bipush 99, 2) := by decide +kernel
theorem dX10_arrivesNow_18 : decode cX10_arrivesNow 18 = .ok (.if_icmp .gt 42, 3) := by decide +kernel
theorem dX10_arrivesNow_21 : decode cX10_arrivesNow 21 = .ok (.aload_n 1, 1) := by decide +kernel
theorem dX10_arrivesNow_22 : decode cX10_arrivesNow 22 = .ok (.iload_n 3, 1) := by decide +kernel
theorem dX10_arrivesNow_23 : decode cX10_arrivesNow 23 = .ok (.aload_n 0, 1) := by decide +kernel
theorem dX10_arrivesNow_24 : decode cX10_arrivesNow 24 = .ok (.getfield 130, 3) := by decide +kernel
theorem dX10_arrivesNow_27 : decode cX10_arrivesNow 27 = .ok (.iload 4, 2) := by decide +kernel
theorem dX10_arrivesNow_29 : decode cX10_arrivesNow 29 = .ok (.iadd, 1) := by decide +kernel
theorem dX10_arrivesNow_30 : decode cX10_arrivesNow 30 = .ok (.invokevirtual 211, 3) := by decide +kernel
theorem dX10_arrivesNow_33 : decode cX10_arrivesNow 33 = .ok (.ifCond .eq 6, 3) := by decide +kernel
theorem dX10_arrivesNow_36 : decode cX10_arrivesNow 36 = .ok (.iload 4, 2) := by decide +kernel
theorem dX10_arrivesNow_38 : decode cX10_arrivesNow 38 = .ok (.ireturn, 1) := by decide +kernel
theorem dX10_arrivesNow_39 : decode cX10_arrivesNow 39 = .ok (.aload_n 1, 1) := by decide +kernel
theorem dX10_arrivesNow_40 : decode cX10_arrivesNow 40 = .ok (.aload_n 2, 1) := by decide +kernel
theorem dX10_arrivesNow_41 : decode cX10_arrivesNow 41 = .ok (.aload_n 0, 1) := by decide +kernel
theorem dX10_arrivesNow_42 : decode cX10_arrivesNow 42 = .ok (.getfield 130, 3) := by decide +kernel
theorem dX10_arrivesNow_45 : decode cX10_arrivesNow 45 = .ok (.iload 4, 2) := by decide +kernel
theorem dX10_arrivesNow_47 : decode cX10_arrivesNow 47 = .ok (.iadd, 1) := by decide +kernel
theorem dX10_arrivesNow_48 : decode cX10_arrivesNow 48 = .ok (.iconst 1, 1) := by decide +kernel
theorem dX10_arrivesNow_49 : decode cX10_arrivesNow 49 = .ok (.iadd, 1) := by decide +kernel
theorem dX10_arrivesNow_50 : decode cX10_arrivesNow 50 = .ok (.invokevirtual 201, 3) := by decide +kernel
theorem dX10_arrivesNow_53 : decode cX10_arrivesNow 53 = .ok (.pop, 1) := by decide +kernel
theorem dX10_arrivesNow_54 : decode cX10_arrivesNow 54 = .ok (.iinc 4 1, 3) := by decide +kernel
theorem dX10_arrivesNow_57 : decode cX10_arrivesNow 57 = .ok (.goto (-43), 3) := by decide +kernel
theorem dX10_arrivesNow_60 : decode cX10_arrivesNow 60 = .ok (.iconst (-1), 1) := by decide +kernel
theorem dX10_arrivesNow_61 : decode cX10_arrivesNow 61 = .ok (.ireturn, 1) := by decide +kernel
theorem dX10_arrives_0 : decode cX10_arrives 0 = .ok (.aload_n 0, 1) := by decide +kernel
theorem dX10_arrives_1 : decode cX10_arrives 1 = .ok (.aload_n 0, 1) := by decide +kernel
theorem dX10_arrives_2 : decode cX10_arrives 2 = .ok (.iload_n 1, 1) := by decide +kernel
theorem dX10_arrives_3 : decode cX10_arrives 3 = .ok (.invokevirtual 133, 3) := by decide +kernel
theorem dX10_arrives_6 : decode cX10_arrives 6 = .ok (.ifCond .ne 11, 3) := by decide +kernel
theorem dX10_arrives_9 : decode cX10_arrives 9 = .ok (.aload_n 0, 1) := by decide +kernel
theorem dX10_arrives_10 : decode cX10_arrives 10 = .ok (.iload_n 2, 1) := by decide +kernel
theorem dX10_arrives_11 : decode cX10_arrives 11 = .ok (.invokevirtual 178, 3) := by decide +kernel
theorem dX10_arrives_14 : decode cX10_arrives 14 = .ok (.ifCond .eq 7, 3) := by decide +kernel
theorem dX10_arrives_17 : decode cX10_arrives 17 = .ok (.iconst 1, 1) := by decide +kernel
theorem dX10_arrives_18 : decode cX10_arrives 18 = .ok (.goto 4, 3) := by decide +kernel
theorem dX10_arrives_21 : decode cX10_arrives 21 = .ok (.iconst 0, 1) := by decide +kernel
theorem dX10_arrives_22 : decode cX10_arrives 22 = .ok (.iconst 1, 1) := by decide +kernel
theorem dX10_arrives_23 : decode cX10_arrives 23 = .ok (.invokevirtual 103, 3) := by decide +kernel
theorem dX10_arrives_26 : decode cX10_arrives 26 = .ok (.ifCond .eq 7, 3) := by decide +kernel
theorem dX10_arrives_29 : decode cX10_arrives 29 = .ok (.iconst 0, 1) := by decide +kernel
theorem dX10_arrives_30 : decode cX10_arrives 30 = .ok (.goto 26, 3) := by decide +kernel
theorem dX10_arrives_33 : decode cX10_arrives 33 = .ok (.aload_n 0, 1) := by decide +kernel
theorem dX10_arrives_34 : decode cX10_arrives 34 = .ok (.aload_n 0, 1) := by decide +kernel
theorem dX10_arrives_35 : decode cX10_arrives 35 = .ok (.getfield 22, 3) := by decide +kernel
theorem dX10_arrives_38 : decode cX10_arrives 38 = .ok (.iload_n 1, 1) := by decide +kernel
theorem dX10_arrives_39 : decode cX10_arrives 39 = .ok (.invokevirtual 45, 3) := by decide +kernel
theorem dX10_arrives_42 : decode cX10_arrives 42 = .ok (.checkcast 114, 3) := by decide +kernel
theorem dX10_arrives_45 : decode cX10_arrives 45 = .ok (.invokevirtual 291, 3) := by decide +kernel
theorem dX10_arrives_48 : decode cX10_arrives 48 = .ok (.aload_n 0, 1) := by decide +kernel
theorem dX10_arrives_49 : decode cX10_arrives 49 = .ok (.getfield 19, 3) := by decide +kernel
theorem dX10_arrives_52 : decode cX10_arrives 52 = .ok (.iload_n 2, 1) := by decide +kernel
theorem dX10_arrives_53 : decode cX10_arrives 53 = .ok (.invokevirtual 295, 3) := by decide +kernel
theorem dX10_arrives_56 : decode cX10_arrives 56 = .ok (.ireturn, 1) := by decide +kernel
theorem dX10_wouldArriveNow_0 : decode cX10_wouldArriveNow 0 = .ok (.new 7, 3) := by decide +kernel
theorem dX10_wouldArriveNow_3 : decode cX10_wouldArriveNow 3 = .ok (.dup, 1) := by decide +kernel
theorem dX10_wouldArriveNow_4 : decode cX10_wouldArriveNow 4 = .ok (.aload_n 0, 1) := by decide +kernel
theorem dX10_wouldArriveNow_5 : decode cX10_wouldArriveNow 5 = .ok (.getfield 19, 3) := by decide +kernel
theorem dX10_wouldArriveNow_8 : decode cX10_wouldArriveNow 8 = .ok (.invokespecial 299, 3) := by decide +kernel
theorem dX10_wouldArriveNow_11 : decode cX10_wouldArriveNow 11 = .ok (.astore 4, 2) := by decide +kernel
theorem dX10_wouldArriveNow_13 : decode cX10_wouldArriveNow 13 = .ok (.aload 4, 2) := by decide +kernel
theorem dX10_wouldArriveNow_15 : decode cX10_wouldArriveNow 15 = .ok (.new 154, 3) := by decide +kernel
theorem dX10_wouldArriveNow_18 : decode cX10_wouldArriveNow 18 = .ok (.dup, 1) := by decide +kernel
theorem dX10_wouldArriveNow_19 : decode cX10_wouldArriveNow 19 = .ok (.iconst (-1), 1) := by decide +kernel
theorem dX10_wouldArriveNow_20 : decode cX10_wouldArriveNow 20 = .ok (.iload_n 2, 1) := by decide +kernel
theorem dX10_wouldArriveNow_21 : decode cX10_wouldArriveNow 21 = .ok (.iconst 0, 1) := by decide +kernel
theorem dX10_wouldArriveNow_22 : decode cX10_wouldArriveNow 22 = .ok (.iconst 0, 1) := by decide +kernel
theorem dX10_wouldArriveNow_23 : decode cX10_wouldArriveNow 23 = .ok (.iload_n 3, 1) := by decide +kernel
theorem dX10_wouldArriveNow_24 : decode cX10_wouldArriveNow 24 = .ok (.iconst 0, 1) := by decide +kernel
theorem dX10_wouldArriveNow_25 : decode cX10_wouldArriveNow 25 = .ok (.iconst (-1), 1) := by decide +kernel
theorem dX10_wouldArriveNow_26 : decode cX10_wouldArriveNow 26 = .ok (.aload_n 0, 1) := by decide +kernel
theorem dX10_wouldArriveNow_27 : decode cX10_wouldArriveNow 27 = .ok (.getfield 130, 3) := by decide +kernel
theorem dX10_wouldArriveNow_30 : decode cX10_wouldArriveNow 30 = .ok (.invokespecial 163, 3) := by decide +kernel
theorem dX10_wouldArriveNow_33 : decode cX10_wouldArriveNow 33 = .ok (.invokevirtual 109, 3) := by decide +kernel
theorem dX10_wouldArriveNow_36 : decode cX10_wouldArriveNow 36 = .ok (.pop, 1) := by decide +kernel
theorem dX10_wouldArriveNow_37 : decode cX10_wouldArriveNow 37 = .ok (.aload_n 0, 1) := by decide +kernel
theorem dX10_wouldArriveNow_38 : decode cX10_wouldArriveNow 38 = .ok (.getfield 22, 3) := by decide +kernel
theorem dX10_wouldArriveNow_41 : decode cX10_wouldArriveNow 41 = .ok (.iload_n 1, 1) := by decide +kernel
theorem dX10_wouldArriveNow_42 : decode cX10_wouldArriveNow 42 = .ok (.invokevirtual 45, 3) := by decide +kernel
theorem dX10_wouldArriveNow_45 : decode cX10_wouldArriveNow 45 = .ok (.checkcast 114, 3) := by decide +kernel
theorem dX10_wouldArriveNow_48 : decode cX10_wouldArriveNow 48 = .ok (.invokevirtual 291, 3) := by decide +kernel
theorem dX10_wouldArriveNow_51 : decode cX10_wouldArriveNow 51 = .ok (.astore 5, 2) := by decide +kernel
theorem dX10_wouldArriveNow_53 : decode cX10_wouldArriveNow 53 = .ok (.aload 5, 2) := by decide +kernel
theorem dX10_wouldArriveNow_55 : decode cX10_wouldArriveNow 55 = .ok (.aload_n 0, 1) := by decide +kernel
theorem dX10_wouldArriveNow_56 : decode cX10_wouldArriveNow 56 = .ok (.getfield 19, 3) := by decide +kernel
theorem dX10_wouldArriveNow_59 : decode cX10_wouldArriveNow 59 = .ok (.invokevirtual 33, 3) := by decide +kernel
theorem dX10_wouldArriveNow_62 : decode cX10_wouldArriveNow 62 = .ok (.iload_n 3, 1) := by decide +kernel
theorem dX10_wouldArriveNow_63 : decode cX10_wouldArriveNow 63 = .ok (.invokevirtual 158, 3) := by decide +kernel
theorem dX10_wouldArriveNow_66 : decode cX10_wouldArriveNow 66 = .ok (.aload_n 0, 1) := by decide +kernel
theorem dX10_wouldArriveNow_67 : decode cX10_wouldArriveNow 67 = .ok (.aload 5, 2) := by decide +kernel
theorem dX10_wouldArriveNow_69 : decode cX10_wouldArriveNow 69 = .ok (.aload 4, 2) := by decide +kernel
theorem dX10_wouldArriveNow_71 : decode cX10_wouldArriveNow 71 = .ok (.aload_n 0, 1) := by decide +kernel
theorem dX10_wouldArriveNow_72 : decode cX10_wouldArriveNow 72 = .ok (.getfield 19, 3) := by decide +kernel
theorem dX10_wouldArriveNow_75 : decode cX10_wouldArriveNow 75 = .ok (.invokevirtual 33, 3) := by decide +kernel
theorem dX10_wouldArriveNow_78 : decode cX10_wouldArriveNow 78 = .ok (.invokevirtual 295, 3) := by decide +kernel
theorem dX10_wouldArriveNow_81 : decode cX10_wouldArriveNow 81 = .ok (.ireturn, 1) := by decide +kernel
theorem dX10_wouldArrive_0 : decode cX10_wouldArrive 0 = .ok (.aload_n 0, 1) := by decide +kernel
theorem dX10_wouldArrive_1 : decode cX10_wouldArrive 1 = .ok (.aload_n 0, 1) := by decide +kernel
theorem dX10_wouldArrive_2 : decode cX10_wouldArrive 2 = .ok (.iload_n 1, 1) := by decide +kernel
theorem dX10_wouldArrive_3 : decode cX10_wouldArrive 3 = .ok (.invokevirtual 133, 3) := by decide +kernel
theorem dX10_wouldArrive_6 : decode cX10_wouldArrive 6 = .ok (.iconst 1, 1) := by decide +kernel
theorem dX10_wouldArrive_7 : decode cX10_wouldArrive 7 = .ok (.invokevirtual 103, 3) := by decide +kernel
theorem dX10_wouldArrive_10 : decode cX10_wouldArrive 10 = .ok (.ifCond .ne 36, 3) := by decide +kernel
theorem dX10_wouldArrive_13 : decode cX10_wouldArrive 13 = .ok (.aload_n 0, 1) := by decide +kernel
theorem dX10_wouldArrive_14 : decode cX10_wouldArrive 14 = .ok (.iload_n 2, 1) := by decide +kernel
theorem dX10_wouldArrive_15 : decode cX10_wouldArrive 15 = .ok (.iconst 0, 1) := by decide +kernel
theorem dX10_wouldArrive_16 : decode cX10_wouldArrive 16 = .ok (.iconst 4, 1) := by decide +kernel
theorem dX10_wouldArrive_17 : decode cX10_wouldArrive 17 = .ok (.invokestatic 37, 3) := by decide +kernel
theorem dX10_wouldArrive_20 : decode cX10_wouldArrive 20 = .ok (.ifCond .eq 14, 3) := by decide +kernel
theorem dX10_wouldArrive_23 : decode cX10_wouldArrive 23 = .ok (.iload_n 3, 1) := by decide +kernel
theorem dX10_wouldArrive_24 : decode cX10_wouldArrive 24 = .ok (.iconst 1, 1) := by decide +kernel
theorem dX10_wouldArrive_25 : decode cX10_wouldArrive 25 = .ok (.sipush 200, 3) := by decide +kernel
theorem dX10_wouldArrive_28 : decode cX10_wouldArrive 28 = .ok (.invokestatic 37, 3) := by decide +kernel
theorem dX10_wouldArrive_31 : decode cX10_wouldArrive 31 = .ok (.ifCond .ne 7, 3) := by decide +kernel
theorem dX10_wouldArrive_34 : decode cX10_wouldArrive 34 = .ok (.iconst 1, 1) := by decide +kernel
theorem dX10_wouldArrive_35 : decode cX10_wouldArrive 35 = .ok (.goto 4, 3) := by decide +kernel
theorem dX10_wouldArrive_38 : decode cX10_wouldArrive 38 = .ok (.iconst 0, 1) := by decide +kernel
theorem dX10_wouldArrive_39 : decode cX10_wouldArrive 39 = .ok (.iconst 2, 1) := by decide +kernel
theorem dX10_wouldArrive_40 : decode cX10_wouldArrive 40 = .ok (.invokevirtual 29, 3) := by decide +kernel
theorem dX10_wouldArrive_43 : decode cX10_wouldArrive 43 = .ok (.ifCond .eq 7, 3) := by decide +kernel
theorem dX10_wouldArrive_46 : decode cX10_wouldArrive 46 = .ok (.iconst 0, 1) := by decide +kernel
theorem dX10_wouldArrive_47 : decode cX10_wouldArrive 47 = .ok (.goto 10, 3) := by decide +kernel
theorem dX10_wouldArrive_50 : decode cX10_wouldArrive 50 = .ok (.aload_n 0, 1) := by decide +kernel
theorem dX10_wouldArrive_51 : decode cX10_wouldArrive 51 = .ok (.iload_n 1, 1) := by decide +kernel
theorem dX10_wouldArrive_52 : decode cX10_wouldArrive 52 = .ok (.iload_n 2, 1) := by decide +kernel
theorem dX10_wouldArrive_53 : decode cX10_wouldArrive 53 = .ok (.iload_n 3, 1) := by decide +kernel
theorem dX10_wouldArrive_54 : decode cX10_wouldArrive 54 = .ok (.invokevirtual 302, 3) := by decide +kernel
theorem dX10_wouldArrive_57 : decode cX10_wouldArrive 57 = .ok (.ireturn, 1) := by decide +kernel
theorem dX10_isTruth_0 : decode cX10_isTruth 0 = .ok (.aload_n 0, 1) := by decide +kernel
theorem dX10_isTruth_1 : decode cX10_isTruth 1 = .ok (.aload_n 1, 1) := by decide +kernel
theorem dX10_isTruth_2 : decode cX10_isTruth 2 = .ok (.iload_n 2, 1) := by decide +kernel
theorem dX10_isTruth_3 : decode cX10_isTruth 3 = .ok (.invokevirtual 85, 3) := by decide +kernel
theorem dX10_isTruth_6 : decode cX10_isTruth 6 = .ok (.istore 5, 2) := by decide +kernel
theorem dX10_isTruth_8 : decode cX10_isTruth 8 = .ok (.iload 5, 2) := by decide +kernel
theorem dX10_isTruth_10 : decode cX10_isTruth 10 = .ok (.ifCond .gt 46, 3) := by decide +kernel
theorem dX10_isTruth_13 : decode cX10_isTruth 13 = .ok (.iload 4, 2) := by decide +kernel
theorem dX10_isTruth_15 : decode cX10_isTruth 15 = .ok (.ifCond .le 8, 3) := by decide +kernel
theorem dX10_isTruth_18 : decode cX10_isTruth 18 = .ok (.iload_n 3, 1) := by decide +kernel
theorem dX10_isTruth_19 : decode cX10_isTruth 19 = .ok (.iconst 3, 1) := by decide +kernel
theorem dX10_isTruth_20 : decode cX10_isTruth 20 = .ok (.if_icmp .eq 36, 3) := by decide +kernel
theorem dX10_isTruth_23 : decode cX10_isTruth 23 = .ok (.iload_n 3, 1) := by decide +kernel
theorem dX10_isTruth_24 : decode cX10_isTruth 24 = .ok (.iconst 2, 1) := by decide +kernel
theorem dX10_isTruth_25 : decode cX10_isTruth 25 = .ok (.if_icmp .ne 17, 3) := by decide +kernel
theorem dX10_isTruth_28 : decode cX10_isTruth 28 = .ok (.aload_n 0, 1) := by decide +kernel
theorem dX10_isTruth_29 : decode cX10_isTruth 29 = .ok (.aload_n 1, 1) := by decide +kernel
theorem dX10_isTruth_30 : decode cX10_isTruth 30 = .ok (.iload_n 2, 1) := by decide +kernel
theorem dX10_isTruth_31 : decode cX10_isTruth 31 = .ok (.iconst 2, 1) := by decide +kernel
theorem dX10_isTruth_32 : decode cX10_isTruth 32 = .ok (.invokevirtual 77, 3) := by decide +kernel
theorem dX10_isTruth_35 : decode cX10_isTruth 35 = .ok (.iload 4, 2) := by decide +kernel
theorem dX10_isTruth_37 : decode cX10_isTruth 37 = .ok (.iadd, 1) := by decide +kernel
theorem dX10_isTruth_38 : decode cX10_isTruth 38 = .ok (.iconst 1, 1) := by decide +kernel
theorem dX10_isTruth_39 : decode cX10_isTruth 39 = .ok (.if_icmp .gt 17, 3) := by decide +kernel
theorem dX10_isTruth_42 : decode cX10_isTruth 42 = .ok (.aload_n 0, 1) := by decide +kernel
theorem dX10_isTruth_43 : decode cX10_isTruth 43 = .ok (.aload_n 1, 1) := by decide +kernel
theorem dX10_isTruth_44 : decode cX10_isTruth 44 = .ok (.iload_n 2, 1) := by decide +kernel
theorem dX10_isTruth_45 : decode cX10_isTruth 45 = .ok (.iconst 0, 1) := by decide +kernel
theorem dX10_isTruth_46 : decode cX10_isTruth 46 = .ok (.invokevirtual 77, 3) := by decide +kernel
theorem dX10_isTruth_49 : decode cX10_isTruth 49 = .ok (.iload 4, 2) := by decide +kernel
theorem dX10_isTruth_51 : decode cX10_isTruth 51 = .ok (.iadd, 1) := by decide +kernel
theorem dX10_isTruth_52 : decode cX10_isTruth 52 = .ok (.iconst 2, 1) := by decide +kernel
theorem dX10_isTruth_53 : decode cX10_isTruth 53 = .ok (.if_icmp .le 7, 3) := by decide +kernel
theorem dX10_isTruth_56 : decode cX10_isTruth 56 = .ok (.iconst 1, 1) := by decide +kernel
theorem dX10_isTruth_57 : decode cX10_isTruth 57 = .ok (.goto 4, 3) := by decide +kernel
theorem dX10_isTruth_60 : decode cX10_isTruth 60 = .ok (.iconst 0, 1) := by decide +kernel
theorem dX10_isTruth_61 : decode cX10_isTruth 61 = .ok (.istore 6, 2) := by decide +kernel
theorem dX10_isTruth_63 : decode cX10_isTruth 63 = .ok (.iload 6, 2) := by decide +kernel
theorem dX10_isTruth_65 : decode cX10_isTruth 65 = .ok (.ifCond .ne 5, 3) := by decide +kernel
theorem dX10_isTruth_68 : decode cX10_isTruth 68 = .ok (.iconst 0, 1) := by decide +kernel
theorem dX10_isTruth_69 : decode cX10_isTruth 69 = .ok (.ireturn, 1) := by decide +kernel
theorem dX10_isTruth_70 : decode cX10_isTruth 70 = .ok (.aload_n 0, 1) := by decide +kernel
theorem dX10_isTruth_71 : decode cX10_isTruth 71 = .ok (.aload_n 1, 1) := by decide +kernel
theorem dX10_isTruth_72 : decode cX10_isTruth 72 = .ok (.iload_n 2, 1) := by decide +kernel
theorem dX10_isTruth_73 : decode cX10_isTruth 73 = .ok (.invokevirtual 89, 3) := by decide +kernel
theorem dX10_isTruth_76 : decode cX10_isTruth 76 = .ok (.iload 4, 2) := by decide +kernel
theorem dX10_isTruth_78 : decode cX10_isTruth 78 = .ok (.iload_n 3, 1) := by decide +kernel
theorem dX10_isTruth_79 : decode cX10_isTruth 79 = .ok (.imul, 1) := by decide +kernel
theorem dX10_isTruth_80 : decode cX10_isTruth 80 = .ok (.iadd, 1) := by decide +kernel
theorem dX10_isTruth_81 : decode cX10_isTruth 81 = .ok (.istore 7, 2) := by decide +kernel
theorem dX10_isTruth_83 : decode cX10_isTruth 83 = .ok (.iconst 0, 1) := by decide +kernel
theorem dX10_isTruth_84 : decode cX10_isTruth 84 = .ok (.istore 8, 2) := by decide +kernel
theorem dX10_isTruth_86 : decode cX10_isTruth 86 = .ok (.iload 8, 2) := by decide +kernel
theorem dX10_isTruth_88 : decode cX10_isTruth 88 = .ok (.bipush 100, 2) := by decide +kernel
theorem dX10_isTruth_90 : decode cX10_isTruth 90 = .ok (.if_icmp .ge 68, 3) := by decide +kernel
theorem dX10_isTruth_93 : decode cX10_isTruth 93 = .ok (.iload 8, 2) := by decide +kernel
theorem dX10_isTruth_95 : decode cX10_isTruth 95 = .ok (.iload_n 2, 1) := by decide +kernel
theorem dX10_isTruth_96 : decode cX10_isTruth 96 = .ok (.if_icmp .eq 56, 3) := by decide +kernel
theorem dX10_isTruth_99 : decode cX10_isTruth 99 = .ok (.aload_n 1, 1) := by decide +kernel
theorem dX10_isTruth_100 : decode cX10_isTruth 100 = .ok (.iload 8, 2) := by decide +kernel
theorem dX10_isTruth_102 : decode cX10_isTruth 102 = .ok (.invokestatic 81, 3) := by decide +kernel
theorem dX10_isTruth_105 : decode cX10_isTruth 105 = .ok (.ifCond .eq 47, 3) := by decide +kernel
theorem dX10_isTruth_108 : decode cX10_isTruth 108 = .ok (.aload_n 0, 1) := by decide +kernel
theorem dX10_isTruth_109 : decode cX10_isTruth 109 = .ok (.aload_n 1, 1) := by decide +kernel
theorem dX10_isTruth_110 : decode cX10_isTruth 110 = .ok (.iload 8, 2) := by decide +kernel
theorem dX10_isTruth_112 : decode cX10_isTruth 112 = .ok (.invokevirtual 85, 3) := by decide +kernel
theorem dX10_isTruth_115 : decode cX10_isTruth 115 = .ok (.ifCond .ne 6, 3) := by decide +kernel
theorem dX10_isTruth_118 : decode cX10_isTruth 118 = .ok (.goto 34, 3) := by decide +kernel
theorem dX10_isTruth_121 : decode cX10_isTruth 121 = .ok (.aload_n 0, 1) := by decide +kernel
theorem dX10_isTruth_122 : decode cX10_isTruth 122 = .ok (.aload_n 1, 1) := by decide +kernel
theorem dX10_isTruth_123 : decode cX10_isTruth 123 = .ok (.iload 8, 2) := by decide +kernel
theorem dX10_isTruth_125 : decode cX10_isTruth 125 = .ok (.invokevirtual 89, 3) := by decide +kernel
theorem dX10_isTruth_128 : decode cX10_isTruth 128 = .ok (.istore 9, 2) := by decide +kernel
theorem dX10_isTruth_130 : decode cX10_isTruth 130 = .ok (.iload 9, 2) := by decide +kernel
theorem dX10_isTruth_132 : decode cX10_isTruth 132 = .ok (.iload 7, 2) := by decide +kernel
theorem dX10_isTruth_134 : decode cX10_isTruth 134 = .ok (.if_icmp .gt 16, 3) := by decide +kernel
theorem dX10_isTruth_137 : decode cX10_isTruth 137 = .ok (.iload 9, 2) := by decide +kernel
theorem dX10_isTruth_139 : decode cX10_isTruth 139 = .ok (.iload 7, 2) := by decide +kernel
theorem dX10_isTruth_141 : decode cX10_isTruth 141 = .ok (.if_icmp .ne 11, 3) := by decide +kernel
theorem dX10_isTruth_144 : decode cX10_isTruth 144 = .ok (.iload 8, 2) := by decide +kernel
theorem dX10_isTruth_146 : decode cX10_isTruth 146 = .ok (.iload_n 2, 1) := by decide +kernel
theorem dX10_isTruth_147 : decode cX10_isTruth 147 = .ok (.if_icmp .ge 5, 3) := by decide +kernel
theorem dX10_isTruth_150 : decode cX10_isTruth 150 = .ok (.iconst 0, 1) := by decide +kernel
theorem dX10_isTruth_151 : decode cX10_isTruth 151 = .ok (.ireturn, 1) := by decide +kernel
theorem dX10_isTruth_152 : decode cX10_isTruth 152 = .ok (.iinc 8 1, 3) := by decide +kernel
theorem dX10_isTruth_155 : decode cX10_isTruth 155 = .ok (.goto (-69), 3) := by decide +kernel
theorem dX10_isTruth_158 : decode cX10_isTruth 158 = .ok (.iconst 1, 1) := by decide +kernel
theorem dX10_isTruth_159 : decode cX10_isTruth 159 = .ok (.ireturn, 1) := by decide +kernel
theorem dX10_needsNow_0 : decode cX10_needsNow 0 = .ok (.iconst 0, 1) := by decide +kernel
theorem dX10_needsNow_1 : decode cX10_needsNow 1 = .ok (.istore 5, 2) := by decide +kernel
theorem dX10_needsNow_3 : decode cX10_needsNow 3 = .ok (.iload 5, 2) := by decide +kernel
theorem dX10_needsNow_5 : decode cX10_needsNow 5 = .ok (.bipush 10, 2) := by decide +kernel
theorem dX10_needsNow_7 : decode cX10_needsNow 7 = .ok (.if_icmp .gt 30, 3) := by decide +kernel
theorem dX10_needsNow_10 : decode cX10_needsNow 10 = .ok (.aload_n 0, 1) := by decide +kernel
theorem dX10_needsNow_11 : decode cX10_needsNow 11 = .ok (.aload_n 0, 1) := by decide +kernel
theorem dX10_needsNow_12 : decode cX10_needsNow 12 = .ok (.iload_n 1, 1) := by decide +kernel
theorem dX10_needsNow_13 : decode cX10_needsNow 13 = .ok (.iload_n 2, 1) := by decide +kernel
theorem dX10_needsNow_14 : decode cX10_needsNow 14 = .ok (.invokevirtual 123, 3) := by decide +kernel
theorem dX10_needsNow_17 : decode cX10_needsNow 17 = .ok (.iload_n 3, 1) := by decide +kernel
theorem dX10_needsNow_18 : decode cX10_needsNow 18 = .ok (.iload 4, 2) := by decide +kernel
theorem dX10_needsNow_20 : decode cX10_needsNow 20 = .ok (.iload 5, 2) := by decide +kernel
theorem dX10_needsNow_22 : decode cX10_needsNow 22 = .ok (.invokevirtual 305, 3) := by decide +kernel
theorem dX10_needsNow_25 : decode cX10_needsNow 25 = .ok (.ifCond .eq 6, 3) := by decide +kernel
theorem dX10_needsNow_28 : decode cX10_needsNow 28 = .ok (.iload 5, 2) := by decide +kernel
theorem dX10_needsNow_30 : decode cX10_needsNow 30 = .ok (.ireturn, 1) := by decide +kernel
theorem dX10_needsNow_31 : decode cX10_needsNow 31 = .ok (.iinc 5 1, 3) := by decide +kernel
theorem dX10_needsNow_34 : decode cX10_needsNow 34 = .ok (.goto (-31), 3) := by decide +kernel
theorem dX10_needsNow_37 : decode cX10_needsNow 37 = .ok (.iconst (-1), 1) := by decide +kernel
theorem dX10_needsNow_38 : decode cX10_needsNow 38 = .ok (.ireturn, 1) := by decide +kernel
theorem dX10_needs_0 : decode cX10_needs 0 = .ok (.aload_n 0, 1) := by decide +kernel
theorem dX10_needs_1 : decode cX10_needs 1 = .ok (.aload_n 0, 1) := by decide +kernel
theorem dX10_needs_2 : decode cX10_needs 2 = .ok (.iload_n 1, 1) := by decide +kernel
theorem dX10_needs_3 : decode cX10_needs 3 = .ok (.iload_n 2, 1) := by decide +kernel
theorem dX10_needs_4 : decode cX10_needs 4 = .ok (.invokevirtual 119, 3) := by decide +kernel
theorem dX10_needs_7 : decode cX10_needs 7 = .ok (.iconst 1, 1) := by decide +kernel
theorem dX10_needs_8 : decode cX10_needs 8 = .ok (.invokevirtual 103, 3) := by decide +kernel
theorem dX10_needs_11 : decode cX10_needs 11 = .ok (.ifCond .ne 36, 3) := by decide +kernel
theorem dX10_needs_14 : decode cX10_needs 14 = .ok (.aload_n 0, 1) := by decide +kernel
theorem dX10_needs_15 : decode cX10_needs 15 = .ok (.iload_n 3, 1) := by decide +kernel
theorem dX10_needs_16 : decode cX10_needs 16 = .ok (.iconst 0, 1) := by decide +kernel
theorem dX10_needs_17 : decode cX10_needs 17 = .ok (.bipush 99, 2) := by decide +kernel
theorem dX10_needs_19 : decode cX10_needs 19 = .ok (.invokestatic 37, 3) := by decide +kernel
theorem dX10_needs_22 : decode cX10_needs 22 = .ok (.ifCond .eq 13, 3) := by decide +kernel
theorem dX10_needs_25 : decode cX10_needs 25 = .ok (.iload 4, 2) := by decide +kernel
theorem dX10_needs_27 : decode cX10_needs 27 = .ok (.iconst 1, 1) := by decide +kernel
theorem dX10_needs_28 : decode cX10_needs 28 = .ok (.iconst 3, 1) := by decide +kernel
theorem dX10_needs_29 : decode cX10_needs 29 = .ok (.invokestatic 37, 3) := by decide +kernel
theorem dX10_needs_32 : decode cX10_needs 32 = .ok (.ifCond .ne 7, 3) := by decide +kernel
theorem dX10_needs_35 : decode cX10_needs 35 = .ok (.iconst 1, 1) := by decide +kernel
theorem dX10_needs_36 : decode cX10_needs 36 = .ok (.goto 4, 3) := by decide +kernel
theorem dX10_needs_39 : decode cX10_needs 39 = .ok (.iconst 0, 1) := by decide +kernel
theorem dX10_needs_40 : decode cX10_needs 40 = .ok (.iconst 2, 1) := by decide +kernel
theorem dX10_needs_41 : decode cX10_needs 41 = .ok (.invokevirtual 29, 3) := by decide +kernel
theorem dX10_needs_44 : decode cX10_needs 44 = .ok (.ifCond .eq 7, 3) := by decide +kernel
theorem dX10_needs_47 : decode cX10_needs 47 = .ok (.iconst 0, 1) := by decide +kernel
theorem dX10_needs_48 : decode cX10_needs 48 = .ok (.goto 12, 3) := by decide +kernel
theorem dX10_needs_51 : decode cX10_needs 51 = .ok (.aload_n 0, 1) := by decide +kernel
theorem dX10_needs_52 : decode cX10_needs 52 = .ok (.iload_n 1, 1) := by decide +kernel
theorem dX10_needs_53 : decode cX10_needs 53 = .ok (.iload_n 2, 1) := by decide +kernel
theorem dX10_needs_54 : decode cX10_needs 54 = .ok (.iload_n 3, 1) := by decide +kernel
theorem dX10_needs_55 : decode cX10_needs 55 = .ok (.iload 4, 2) := by decide +kernel
theorem dX10_needs_57 : decode cX10_needs 57 = .ok (.invokevirtual 309, 3) := by decide +kernel
theorem dX10_needs_60 : decode cX10_needs 60 = .ok (.ireturn, 1) := by decide +kernel
theorem dX10_leadNow_0 : decode cX10_leadNow 0 = .ok (.iconst 4, 1) := by decide +kernel
theorem dX10_leadNow_1 : decode cX10_leadNow 1 = .ok (.newarray .int, 2) := by decide +kernel
theorem dX10_leadNow_3 : decode cX10_leadNow 3 = .ok (.astore_n 3, 1) := by decide +kernel
theorem dX10_leadNow_4 : decode cX10_leadNow 4 = .ok (.iconst 0, 1) := by decide +kernel
theorem dX10_leadNow_5 : decode cX10_leadNow 5 = .ok (.istore 4, 2) := by decide +kernel
theorem dX10_leadNow_7 : decode cX10_leadNow 7 = .ok (.iload 4, 2) := by decide +kernel
theorem dX10_leadNow_9 : decode cX10_leadNow 9 = .ok (.iconst 4, 1) := by decide +kernel
theorem dX10_leadNow_10 : decode cX10_leadNow 10 = .ok (.if_icmp .ge 49, 3) := by decide +kernel
theorem dX10_leadNow_13 : decode cX10_leadNow 13 = .ok (.aload_n 0, 1) := by decide +kernel
theorem dX10_leadNow_14 : decode cX10_leadNow 14 = .ok (.aload_n 0, 1) := by decide +kernel
theorem dX10_leadNow_15 : decode cX10_leadNow 15 = .ok (.iload_n 1, 1) := by decide +kernel
theorem dX10_leadNow_16 : decode cX10_leadNow 16 = .ok (.iload 4, 2) := by decide +kernel
theorem dX10_leadNow_18 : decode cX10_leadNow 18 = .ok (.invokevirtual 123, 3) := by decide +kernel
theorem dX10_leadNow_21 : decode cX10_leadNow 21 = .ok (.invokevirtual 96, 3) := by decide +kernel
theorem dX10_leadNow_24 : decode cX10_leadNow 24 = .ok (.istore 5, 2) := by decide +kernel
theorem dX10_leadNow_26 : decode cX10_leadNow 26 = .ok (.aload_n 3, 1) := by decide +kernel
theorem dX10_leadNow_27 : decode cX10_leadNow 27 = .ok (.iload 4, 2) := by decide +kernel
theorem dX10_leadNow_29 : decode cX10_leadNow 29 = .ok (.iload 5, 2) := by decide +kernel
theorem dX10_leadNow_31 : decode cX10_leadNow 31 = .ok (.iconst (-1), 1) := by decide +kernel
theorem dX10_leadNow_32 : decode cX10_leadNow 32 = .ok (.if_icmp .ne 7, 3) := by decide +kernel
theorem dX10_leadNow_35 : decode cX10_leadNow 35 = .ok (.iconst 0, 1) := by decide +kernel
theorem dX10_leadNow_36 : decode cX10_leadNow 36 = .ok (.goto 16, 3) := by decide +kernel
theorem dX10_leadNow_39 : decode cX10_leadNow 39 = .ok (.aload_n 0, 1) := by decide +kernel
theorem dX10_leadNow_40 : decode cX10_leadNow 40 = .ok (.aload_n 0, 1) := by decide +kernel
theorem dX10_leadNow_41 : decode cX10_leadNow 41 = .ok (.iload_n 1, 1) := by decide +kernel
theorem dX10_leadNow_42 : decode cX10_leadNow 42 = .ok (.iload 4, 2) := by decide +kernel
theorem dX10_leadNow_44 : decode cX10_leadNow 44 = .ok (.invokevirtual 123, 3) := by decide +kernel
theorem dX10_leadNow_47 : decode cX10_leadNow 47 = .ok (.iload 5, 2) := by decide +kernel
theorem dX10_leadNow_49 : decode cX10_leadNow 49 = .ok (.invokevirtual 89, 3) := by decide +kernel
theorem dX10_leadNow_52 : decode cX10_leadNow 52 = .ok (.iastore, 1) := by decide +kernel
theorem dX10_leadNow_53 : decode cX10_leadNow 53 = .ok (.iinc 4 1, 3) := by decide +kernel
theorem dX10_leadNow_56 : decode cX10_leadNow 56 = .ok (.goto (-49), 3) := by decide +kernel
theorem dX10_leadNow_59 : decode cX10_leadNow 59 = .ok (.iconst 0, 1) := by decide +kernel
theorem dX10_leadNow_60 : decode cX10_leadNow 60 = .ok (.istore 4, 2) := by decide +kernel
theorem dX10_leadNow_62 : decode cX10_leadNow 62 = .ok (.iconst 0, 1) := by decide +kernel
theorem dX10_leadNow_63 : decode cX10_leadNow 63 = .ok (.istore 5, 2) := by decide +kernel
theorem dX10_leadNow_65 : decode cX10_leadNow 65 = .ok (.iconst 1, 1) := by decide +kernel
theorem dX10_leadNow_66 : decode cX10_leadNow 66 = .ok (.istore 6, 2) := by decide +kernel
theorem dX10_leadNow_68 : decode cX10_leadNow 68 = .ok (.iload 6, 2) := by decide +kernel
theorem dX10_leadNow_70 : decode cX10_leadNow 70 = .ok (.bipush 16, 2) := by decide +kernel
theorem dX10_leadNow_72 : decode cX10_leadNow 72 = .ok (.if_icmp .ge 96, 3) := by decide +kernel
theorem dX10_leadNow_75 : decode cX10_leadNow 75 = .ok (.iconst 3, 1) := by decide +kernel
theorem dX10_leadNow_76 : decode cX10_leadNow 76 = .ok (.iload 6, 2) := by decide +kernel
theorem dX10_leadNow_78 : decode cX10_leadNow 78 = .ok (.invokestatic 65, 3) := by decide +kernel
theorem dX10_leadNow_81 : decode cX10_leadNow 81 = .ok (.invokestatic 161, 3) := by decide +kernel
theorem dX10_leadNow_84 : decode cX10_leadNow 84 = .ok (.iload_n 2, 1) := by decide +kernel
theorem dX10_leadNow_85 : decode cX10_leadNow 85 = .ok (.if_icmp .gt 7, 3) := by decide +kernel
theorem dX10_leadNow_88 : decode cX10_leadNow 88 = .ok (.iconst 0, 1) := by decide +kernel
theorem dX10_leadNow_89 : decode cX10_leadNow 89 = .ok (.goto 6, 3) := by decide +kernel
theorem dX10_leadNow_92 : decode cX10_leadNow 92 = .ok (.sipush (-1000), 3) := by decide +kernel
theorem dX10_leadNow_95 : decode cX10_leadNow 95 = .ok (.istore 7, 2) := by decide +kernel
theorem dX10_leadNow_97 : decode cX10_leadNow 97 = .ok (.iconst 0, 1) := by decide +kernel
theorem dX10_leadNow_98 : decode cX10_leadNow 98 = .ok (.istore 8, 2) := by decide +kernel
theorem dX10_leadNow_100 : decode cX10_leadNow 100 = .ok (.iload 8, 2) := by decide +kernel
theorem dX10_leadNow_102 : decode cX10_leadNow 102 = .ok (.iconst 4, 1) := by decide +kernel
theorem dX10_leadNow_103 : decode cX10_leadNow 103 = .ok (.if_icmp .ge 41, 3) := by decide +kernel
theorem dX10_leadNow_106 : decode cX10_leadNow 106 = .ok (.iload 6, 2) := by decide +kernel
theorem dX10_leadNow_108 : decode cX10_leadNow 108 = .ok (.iload 8, 2) := by decide +kernel
theorem dX10_leadNow_110 : decode cX10_leadNow 110 = .ok (.invokestatic 166, 3) := by decide +kernel
theorem dX10_leadNow_113 : decode cX10_leadNow 113 = .ok (.ifCond .eq 25, 3) := by decide +kernel
theorem dX10_leadNow_116 : decode cX10_leadNow 116 = .ok (.iload 7, 2) := by decide +kernel
theorem dX10_leadNow_118 : decode cX10_leadNow 118 = .ok (.aload_n 3, 1) := by decide +kernel
theorem dX10_leadNow_119 : decode cX10_leadNow 119 = .ok (.iload 8, 2) := by decide +kernel
theorem dX10_leadNow_121 : decode cX10_leadNow 121 = .ok (.iaload, 1) := by decide +kernel
theorem dX10_leadNow_122 : decode cX10_leadNow 122 = .ok (.ifCond .ne 9, 3) := by decide +kernel
theorem dX10_leadNow_125 : decode cX10_leadNow 125 = .ok (.sipush (-1000), 3) := by decide +kernel
theorem dX10_leadNow_128 : decode cX10_leadNow 128 = .ok (.goto 7, 3) := by decide +kernel
theorem dX10_leadNow_131 : decode cX10_leadNow 131 = .ok (.aload_n 3, 1) := by decide +kernel
theorem dX10_leadNow_132 : decode cX10_leadNow 132 = .ok (.iload 8, 2) := by decide +kernel
theorem dX10_leadNow_134 : decode cX10_leadNow 134 = .ok (.iaload, 1) := by decide +kernel
theorem dX10_leadNow_135 : decode cX10_leadNow 135 = .ok (.iadd, 1) := by decide +kernel
theorem dX10_leadNow_136 : decode cX10_leadNow 136 = .ok (.istore 7, 2) := by decide +kernel
theorem dX10_leadNow_138 : decode cX10_leadNow 138 = .ok (.iinc 8 1, 3) := by decide +kernel
theorem dX10_leadNow_141 : decode cX10_leadNow 141 = .ok (.goto (-41), 3) := by decide +kernel
theorem dX10_leadNow_144 : decode cX10_leadNow 144 = .ok (.iload 7, 2) := by decide +kernel
theorem dX10_leadNow_146 : decode cX10_leadNow 146 = .ok (.iload 5, 2) := by decide +kernel
theorem dX10_leadNow_148 : decode cX10_leadNow 148 = .ok (.if_icmp .gt 6, 3) := by decide +kernel
theorem dX10_leadNow_151 : decode cX10_leadNow 151 = .ok (.goto 11, 3) := by decide +kernel
theorem dX10_leadNow_154 : decode cX10_leadNow 154 = .ok (.iload 6, 2) := by decide +kernel
theorem dX10_leadNow_156 : decode cX10_leadNow 156 = .ok (.istore 4, 2) := by decide +kernel
theorem dX10_leadNow_158 : decode cX10_leadNow 158 = .ok (.iload 7, 2) := by decide +kernel
theorem dX10_leadNow_160 : decode cX10_leadNow 160 = .ok (.istore 5, 2) := by decide +kernel
theorem dX10_leadNow_162 : decode cX10_leadNow 162 = .ok (.iinc 6 1, 3) := by decide +kernel
theorem dX10_leadNow_165 : decode cX10_leadNow 165 = .ok (.goto (-97), 3) := by decide +kernel
theorem dX10_leadNow_168 : decode cX10_leadNow 168 = .ok (.iload 4, 2) := by decide +kernel
theorem dX10_leadNow_170 : decode cX10_leadNow 170 = .ok (.ireturn, 1) := by decide +kernel
theorem dX10_lead_0 : decode cX10_lead 0 = .ok (.aload_n 0, 1) := by decide +kernel
theorem dX10_lead_1 : decode cX10_lead 1 = .ok (.aload_n 0, 1) := by decide +kernel
theorem dX10_lead_2 : decode cX10_lead 2 = .ok (.iload_n 1, 1) := by decide +kernel
theorem dX10_lead_3 : decode cX10_lead 3 = .ok (.invokevirtual 41, 3) := by decide +kernel
theorem dX10_lead_6 : decode cX10_lead 6 = .ok (.iconst 1, 1) := by decide +kernel
theorem dX10_lead_7 : decode cX10_lead 7 = .ok (.invokevirtual 103, 3) := by decide +kernel
theorem dX10_lead_10 : decode cX10_lead 10 = .ok (.ifCond .ne 26, 3) := by decide +kernel
theorem dX10_lead_13 : decode cX10_lead 13 = .ok (.aload_n 0, 1) := by decide +kernel
theorem dX10_lead_14 : decode cX10_lead 14 = .ok (.iload_n 2, 1) := by decide +kernel
theorem dX10_lead_15 : decode cX10_lead 15 = .ok (.iconst 0, 1) := by decide +kernel
theorem dX10_lead_16 : decode cX10_lead 16 = .ok (.bipush 99, 2) := by decide +kernel
theorem dX10_lead_18 : decode cX10_lead 18 = .ok (.invokestatic 37, 3) := by decide +kernel
theorem dX10_lead_21 : decode cX10_lead 21 = .ok (.ifCond .ne 7, 3) := by decide +kernel
theorem dX10_lead_24 : decode cX10_lead 24 = .ok (.iconst 1, 1) := by decide +kernel
theorem dX10_lead_25 : decode cX10_lead 25 = .ok (.goto 4, 3) := by decide +kernel
theorem dX10_lead_28 : decode cX10_lead 28 = .ok (.iconst 0, 1) := by decide +kernel
theorem dX10_lead_29 : decode cX10_lead 29 = .ok (.iconst 2, 1) := by decide +kernel
theorem dX10_lead_30 : decode cX10_lead 30 = .ok (.invokevirtual 29, 3) := by decide +kernel
theorem dX10_lead_33 : decode cX10_lead 33 = .ok (.ifCond .eq 7, 3) := by decide +kernel
theorem dX10_lead_36 : decode cX10_lead 36 = .ok (.iconst 0, 1) := by decide +kernel
theorem dX10_lead_37 : decode cX10_lead 37 = .ok (.goto 9, 3) := by decide +kernel
theorem dX10_lead_40 : decode cX10_lead 40 = .ok (.aload_n 0, 1) := by decide +kernel
theorem dX10_lead_41 : decode cX10_lead 41 = .ok (.iload_n 1, 1) := by decide +kernel
theorem dX10_lead_42 : decode cX10_lead 42 = .ok (.iload_n 2, 1) := by decide +kernel
theorem dX10_lead_43 : decode cX10_lead 43 = .ok (.invokevirtual 313, 3) := by decide +kernel
theorem dX10_lead_46 : decode cX10_lead 46 = .ok (.ireturn, 1) := by decide +kernel
theorem dX10_add__0 : decode cX10_add_ 0 = .ok (.lload_n 0, 1) := by decide +kernel
theorem dX10_add__1 : decode cX10_add_ 1 = .ok (.ldc2_w 316, 3) := by decide +kernel
theorem dX10_add__4 : decode cX10_add_ 4 = .ok (.lmul, 1) := by decide +kernel
theorem dX10_add__5 : decode cX10_add_ 5 = .ok (.lload_n 2, 1) := by decide +kernel
theorem dX10_add__6 : decode cX10_add_ 6 = .ok (.ladd, 1) := by decide +kernel
theorem dX10_add__7 : decode cX10_add_ 7 = .ok (.lreturn, 1) := by decide +kernel
theorem dX10_digest_0 : decode cX10_digest 0 = .ok (.aload_n 0, 1) := by decide +kernel
theorem dX10_digest_1 : decode cX10_digest 1 = .ok (.iconst 0, 1) := by decide +kernel
theorem dX10_digest_2 : decode cX10_digest 2 = .ok (.putfield 25, 3) := by decide +kernel
theorem dX10_digest_5 : decode cX10_digest 5 = .ok (.ldc2_w 318, 3) := by decide +kernel
theorem dX10_digest_8 : decode cX10_digest 8 = .ok (.lstore_n 1, 1) := by decide +kernel
theorem dX10_digest_9 : decode cX10_digest 9 = .ok (.iconst 0, 1) := by decide +kernel
theorem dX10_digest_10 : decode cX10_digest 10 = .ok (.istore_n 3, 1) := by decide +kernel
theorem dX10_digest_11 : decode cX10_digest 11 = .ok (.iload_n 3, 1) := by decide +kernel
theorem dX10_digest_12 : decode cX10_digest 12 = .ok (.bipush 11, 2) := by decide +kernel
theorem dX10_digest_14 : decode cX10_digest 14 = .ok (.if_icmp .ge 20, 3) := by decide +kernel
theorem dX10_digest_17 : decode cX10_digest 17 = .ok (.lload_n 1, 1) := by decide +kernel
theorem dX10_digest_18 : decode cX10_digest 18 = .ok (.aload_n 0, 1) := by decide +kernel
theorem dX10_digest_19 : decode cX10_digest 19 = .ok (.iload_n 3, 1) := by decide +kernel
theorem dX10_digest_20 : decode cX10_digest 20 = .ok (.invokevirtual 288, 3) := by decide +kernel
theorem dX10_digest_23 : decode cX10_digest 23 = .ok (.i2l, 1) := by decide +kernel
theorem dX10_digest_24 : decode cX10_digest 24 = .ok (.invokestatic 320, 3) := by decide +kernel
theorem dX10_digest_27 : decode cX10_digest 27 = .ok (.lstore_n 1, 1) := by decide +kernel
theorem dX10_digest_28 : decode cX10_digest 28 = .ok (.iinc 3 1, 3) := by decide +kernel
theorem dX10_digest_31 : decode cX10_digest 31 = .ok (.goto (-20), 3) := by decide +kernel
theorem dX10_digest_34 : decode cX10_digest 34 = .ok (.iconst 0, 1) := by decide +kernel
theorem dX10_digest_35 : decode cX10_digest 35 = .ok (.istore_n 3, 1) := by decide +kernel
theorem dX10_digest_36 : decode cX10_digest 36 = .ok (.iload_n 3, 1) := by decide +kernel
theorem dX10_digest_37 : decode cX10_digest 37 = .ok (.aload_n 0, 1) := by decide +kernel
theorem dX10_digest_38 : decode cX10_digest 38 = .ok (.getfield 16, 3) := by decide +kernel
theorem dX10_digest_41 : decode cX10_digest 41 = .ok (.invokevirtual 33, 3) := by decide +kernel
theorem dX10_digest_44 : decode cX10_digest 44 = .ok (.if_icmp .ge 71, 3) := by decide +kernel
theorem dX10_digest_47 : decode cX10_digest 47 = .ok (.iconst 0, 1) := by decide +kernel
theorem dX10_digest_48 : decode cX10_digest 48 = .ok (.istore 4, 2) := by decide +kernel
theorem dX10_digest_50 : decode cX10_digest 50 = .ok (.iload 4, 2) := by decide +kernel
theorem dX10_digest_52 : decode cX10_digest 52 = .ok (.iconst 4, 1) := by decide +kernel
theorem dX10_digest_53 : decode cX10_digest 53 = .ok (.if_icmp .ge 56, 3) := by decide +kernel
theorem dX10_digest_56 : decode cX10_digest 56 = .ok (.iconst 0, 1) := by decide +kernel
theorem dX10_digest_57 : decode cX10_digest 57 = .ok (.istore 5, 2) := by decide +kernel
theorem dX10_digest_59 : decode cX10_digest 59 = .ok (.iload 5, 2) := by decide +kernel
theorem dX10_digest_61 : decode cX10_digest 61 = .ok (.bipush 7, 2) := by decide +kernel
theorem dX10_digest_63 : decode cX10_digest 63 = .ok (.if_icmp .ge 24, 3) := by decide +kernel
theorem dX10_digest_66 : decode cX10_digest 66 = .ok (.lload_n 1, 1) := by decide +kernel
theorem dX10_digest_67 : decode cX10_digest 67 = .ok (.aload_n 0, 1) := by decide +kernel
theorem dX10_digest_68 : decode cX10_digest 68 = .ok (.iload_n 3, 1) := by decide +kernel
theorem dX10_digest_69 : decode cX10_digest 69 = .ok (.iload 4, 2) := by decide +kernel
theorem dX10_digest_71 : decode cX10_digest 71 = .ok (.iload 5, 2) := by decide +kernel
theorem dX10_digest_73 : decode cX10_digest 73 = .ok (.invokevirtual 225, 3) := by decide +kernel
theorem dX10_digest_76 : decode cX10_digest 76 = .ok (.i2l, 1) := by decide +kernel
theorem dX10_digest_77 : decode cX10_digest 77 = .ok (.invokestatic 320, 3) := by decide +kernel
theorem dX10_digest_80 : decode cX10_digest 80 = .ok (.lstore_n 1, 1) := by decide +kernel
theorem dX10_digest_81 : decode cX10_digest 81 = .ok (.iinc 5 1, 3) := by decide +kernel
theorem dX10_digest_84 : decode cX10_digest 84 = .ok (.goto (-25), 3) := by decide +kernel
theorem dX10_digest_87 : decode cX10_digest 87 = .ok (.lload_n 1, 1) := by decide +kernel
theorem dX10_digest_88 : decode cX10_digest 88 = .ok (.aload_n 0, 1) := by decide +kernel
theorem dX10_digest_89 : decode cX10_digest 89 = .ok (.iload_n 3, 1) := by decide +kernel
theorem dX10_digest_90 : decode cX10_digest 90 = .ok (.iload 4, 2) := by decide +kernel
theorem dX10_digest_92 : decode cX10_digest 92 = .ok (.bipush 50, 2) := by decide +kernel
theorem dX10_digest_94 : decode cX10_digest 94 = .ok (.iconst 2, 1) := by decide +kernel
theorem dX10_digest_95 : decode cX10_digest 95 = .ok (.invokevirtual 309, 3) := by decide +kernel
theorem dX10_digest_98 : decode cX10_digest 98 = .ok (.i2l, 1) := by decide +kernel
theorem dX10_digest_99 : decode cX10_digest 99 = .ok (.invokestatic 320, 3) := by decide +kernel
theorem dX10_digest_102 : decode cX10_digest 102 = .ok (.lstore_n 1, 1) := by decide +kernel
theorem dX10_digest_103 : decode cX10_digest 103 = .ok (.iinc 4 1, 3) := by decide +kernel
theorem dX10_digest_106 : decode cX10_digest 106 = .ok (.goto (-56), 3) := by decide +kernel
theorem dX10_digest_109 : decode cX10_digest 109 = .ok (.iinc 3 1, 3) := by decide +kernel
theorem dX10_digest_112 : decode cX10_digest 112 = .ok (.goto (-76), 3) := by decide +kernel
theorem dX10_digest_115 : decode cX10_digest 115 = .ok (.iconst 0, 1) := by decide +kernel
theorem dX10_digest_116 : decode cX10_digest 116 = .ok (.istore_n 3, 1) := by decide +kernel
theorem dX10_digest_117 : decode cX10_digest 117 = .ok (.iload_n 3, 1) := by decide +kernel
theorem dX10_digest_118 : decode cX10_digest 118 = .ok (.aload_n 0, 1) := by decide +kernel
theorem dX10_digest_119 : decode cX10_digest 119 = .ok (.getfield 16, 3) := by decide +kernel
theorem dX10_digest_122 : decode cX10_digest 122 = .ok (.invokevirtual 33, 3) := by decide +kernel
theorem dX10_digest_125 : decode cX10_digest 125 = .ok (.if_icmp .ge 22, 3) := by decide +kernel
theorem dX10_digest_128 : decode cX10_digest 128 = .ok (.lload_n 1, 1) := by decide +kernel
theorem dX10_digest_129 : decode cX10_digest 129 = .ok (.aload_n 0, 1) := by decide +kernel
theorem dX10_digest_130 : decode cX10_digest 130 = .ok (.iload_n 3, 1) := by decide +kernel
theorem dX10_digest_131 : decode cX10_digest 131 = .ok (.bipush 55, 2) := by decide +kernel
theorem dX10_digest_133 : decode cX10_digest 133 = .ok (.invokevirtual 313, 3) := by decide +kernel
theorem dX10_digest_136 : decode cX10_digest 136 = .ok (.i2l, 1) := by decide +kernel
theorem dX10_digest_137 : decode cX10_digest 137 = .ok (.invokestatic 320, 3) := by decide +kernel
theorem dX10_digest_140 : decode cX10_digest 140 = .ok (.lstore_n 1, 1) := by decide +kernel
theorem dX10_digest_141 : decode cX10_digest 141 = .ok (.iinc 3 1, 3) := by decide +kernel
theorem dX10_digest_144 : decode cX10_digest 144 = .ok (.goto (-27), 3) := by decide +kernel
theorem dX10_digest_147 : decode cX10_digest 147 = .ok (.iconst 0, 1) := by decide +kernel
theorem dX10_digest_148 : decode cX10_digest 148 = .ok (.istore_n 3, 1) := by decide +kernel
theorem dX10_digest_149 : decode cX10_digest 149 = .ok (.iload_n 3, 1) := by decide +kernel
theorem dX10_digest_150 : decode cX10_digest 150 = .ok (.aload_n 0, 1) := by decide +kernel
theorem dX10_digest_151 : decode cX10_digest 151 = .ok (.getfield 19, 3) := by decide +kernel
theorem dX10_digest_154 : decode cX10_digest 154 = .ok (.invokevirtual 33, 3) := by decide +kernel
theorem dX10_digest_157 : decode cX10_digest 157 = .ok (.if_icmp .ge 66, 3) := by decide +kernel
theorem dX10_digest_160 : decode cX10_digest 160 = .ok (.iconst 0, 1) := by decide +kernel
theorem dX10_digest_161 : decode cX10_digest 161 = .ok (.istore 4, 2) := by decide +kernel
theorem dX10_digest_163 : decode cX10_digest 163 = .ok (.iload 4, 2) := by decide +kernel
theorem dX10_digest_165 : decode cX10_digest 165 = .ok (.bipush 9, 2) := by decide +kernel
theorem dX10_digest_167 : decode cX10_digest 167 = .ok (.if_icmp .ge 22, 3) := by decide +kernel
theorem dX10_digest_170 : decode cX10_digest 170 = .ok (.lload_n 1, 1) := by decide +kernel
theorem dX10_digest_171 : decode cX10_digest 171 = .ok (.aload_n 0, 1) := by decide +kernel
theorem dX10_digest_172 : decode cX10_digest 172 = .ok (.iload_n 3, 1) := by decide +kernel
theorem dX10_digest_173 : decode cX10_digest 173 = .ok (.iload 4, 2) := by decide +kernel
theorem dX10_digest_175 : decode cX10_digest 175 = .ok (.invokevirtual 241, 3) := by decide +kernel
theorem dX10_digest_178 : decode cX10_digest 178 = .ok (.i2l, 1) := by decide +kernel
theorem dX10_digest_179 : decode cX10_digest 179 = .ok (.invokestatic 320, 3) := by decide +kernel
theorem dX10_digest_182 : decode cX10_digest 182 = .ok (.lstore_n 1, 1) := by decide +kernel
theorem dX10_digest_183 : decode cX10_digest 183 = .ok (.iinc 4 1, 3) := by decide +kernel
theorem dX10_digest_186 : decode cX10_digest 186 = .ok (.goto (-23), 3) := by decide +kernel
theorem dX10_digest_189 : decode cX10_digest 189 = .ok (.iconst 0, 1) := by decide +kernel
theorem dX10_digest_190 : decode cX10_digest 190 = .ok (.istore 4, 2) := by decide +kernel
theorem dX10_digest_192 : decode cX10_digest 192 = .ok (.iload 4, 2) := by decide +kernel
theorem dX10_digest_194 : decode cX10_digest 194 = .ok (.iconst 4, 1) := by decide +kernel
theorem dX10_digest_195 : decode cX10_digest 195 = .ok (.if_icmp .ge 22, 3) := by decide +kernel
theorem dX10_digest_198 : decode cX10_digest 198 = .ok (.lload_n 1, 1) := by decide +kernel
theorem dX10_digest_199 : decode cX10_digest 199 = .ok (.aload_n 0, 1) := by decide +kernel
theorem dX10_digest_200 : decode cX10_digest 200 = .ok (.iload_n 3, 1) := by decide +kernel
theorem dX10_digest_201 : decode cX10_digest 201 = .ok (.iload 4, 2) := by decide +kernel
theorem dX10_digest_203 : decode cX10_digest 203 = .ok (.invokevirtual 244, 3) := by decide +kernel
theorem dX10_digest_206 : decode cX10_digest 206 = .ok (.i2l, 1) := by decide +kernel
theorem dX10_digest_207 : decode cX10_digest 207 = .ok (.invokestatic 320, 3) := by decide +kernel
theorem dX10_digest_210 : decode cX10_digest 210 = .ok (.lstore_n 1, 1) := by decide +kernel
theorem dX10_digest_211 : decode cX10_digest 211 = .ok (.iinc 4 1, 3) := by decide +kernel
theorem dX10_digest_214 : decode cX10_digest 214 = .ok (.goto (-22), 3) := by decide +kernel
theorem dX10_digest_217 : decode cX10_digest 217 = .ok (.iinc 3 1, 3) := by decide +kernel
theorem dX10_digest_220 : decode cX10_digest 220 = .ok (.goto (-71), 3) := by decide +kernel
theorem dX10_digest_223 : decode cX10_digest 223 = .ok (.iconst 0, 1) := by decide +kernel
theorem dX10_digest_224 : decode cX10_digest 224 = .ok (.istore_n 3, 1) := by decide +kernel
theorem dX10_digest_225 : decode cX10_digest 225 = .ok (.iload_n 3, 1) := by decide +kernel
theorem dX10_digest_226 : decode cX10_digest 226 = .ok (.aload_n 0, 1) := by decide +kernel
theorem dX10_digest_227 : decode cX10_digest 227 = .ok (.getfield 22, 3) := by decide +kernel
theorem dX10_digest_230 : decode cX10_digest 230 = .ok (.invokevirtual 33, 3) := by decide +kernel
theorem dX10_digest_233 : decode cX10_digest 233 = .ok (.if_icmp .ge 86, 3) := by decide +kernel
theorem dX10_digest_236 : decode cX10_digest 236 = .ok (.iconst 0, 1) := by decide +kernel
theorem dX10_digest_237 : decode cX10_digest 237 = .ok (.istore 4, 2) := by decide +kernel
theorem dX10_digest_239 : decode cX10_digest 239 = .ok (.iload 4, 2) := by decide +kernel
theorem dX10_digest_241 : decode cX10_digest 241 = .ok (.bipush 8, 2) := by decide +kernel
theorem dX10_digest_243 : decode cX10_digest 243 = .ok (.if_icmp .ge 22, 3) := by decide +kernel
theorem dX10_digest_246 : decode cX10_digest 246 = .ok (.lload_n 1, 1) := by decide +kernel
theorem dX10_digest_247 : decode cX10_digest 247 = .ok (.aload_n 0, 1) := by decide +kernel
theorem dX10_digest_248 : decode cX10_digest 248 = .ok (.iload_n 3, 1) := by decide +kernel
theorem dX10_digest_249 : decode cX10_digest 249 = .ok (.iload 4, 2) := by decide +kernel
theorem dX10_digest_251 : decode cX10_digest 251 = .ok (.invokevirtual 277, 3) := by decide +kernel
theorem dX10_digest_254 : decode cX10_digest 254 = .ok (.i2l, 1) := by decide +kernel
theorem dX10_digest_255 : decode cX10_digest 255 = .ok (.invokestatic 320, 3) := by decide +kernel
theorem dX10_digest_258 : decode cX10_digest 258 = .ok (.lstore_n 1, 1) := by decide +kernel
theorem dX10_digest_259 : decode cX10_digest 259 = .ok (.iinc 4 1, 3) := by decide +kernel
theorem dX10_digest_262 : decode cX10_digest 262 = .ok (.goto (-23), 3) := by decide +kernel
theorem dX10_digest_265 : decode cX10_digest 265 = .ok (.lload_n 1, 1) := by decide +kernel
theorem dX10_digest_266 : decode cX10_digest 266 = .ok (.aload_n 0, 1) := by decide +kernel
theorem dX10_digest_267 : decode cX10_digest 267 = .ok (.iload_n 3, 1) := by decide +kernel
theorem dX10_digest_268 : decode cX10_digest 268 = .ok (.iconst 3, 1) := by decide +kernel
theorem dX10_digest_269 : decode cX10_digest 269 = .ok (.bipush 50, 2) := by decide +kernel
theorem dX10_digest_271 : decode cX10_digest 271 = .ok (.invokevirtual 302, 3) := by decide +kernel
theorem dX10_digest_274 : decode cX10_digest 274 = .ok (.i2l, 1) := by decide +kernel
theorem dX10_digest_275 : decode cX10_digest 275 = .ok (.invokestatic 320, 3) := by decide +kernel
theorem dX10_digest_278 : decode cX10_digest 278 = .ok (.lstore_n 1, 1) := by decide +kernel
theorem dX10_digest_279 : decode cX10_digest 279 = .ok (.iconst 0, 1) := by decide +kernel
theorem dX10_digest_280 : decode cX10_digest 280 = .ok (.istore 4, 2) := by decide +kernel
theorem dX10_digest_282 : decode cX10_digest 282 = .ok (.iload 4, 2) := by decide +kernel
theorem dX10_digest_284 : decode cX10_digest 284 = .ok (.aload_n 0, 1) := by decide +kernel
theorem dX10_digest_285 : decode cX10_digest 285 = .ok (.getfield 19, 3) := by decide +kernel
theorem dX10_digest_288 : decode cX10_digest 288 = .ok (.invokevirtual 33, 3) := by decide +kernel
theorem dX10_digest_291 : decode cX10_digest 291 = .ok (.if_icmp .ge 22, 3) := by decide +kernel
theorem dX10_digest_294 : decode cX10_digest 294 = .ok (.lload_n 1, 1) := by decide +kernel
theorem dX10_digest_295 : decode cX10_digest 295 = .ok (.aload_n 0, 1) := by decide +kernel
theorem dX10_digest_296 : decode cX10_digest 296 = .ok (.iload_n 3, 1) := by decide +kernel
theorem dX10_digest_297 : decode cX10_digest 297 = .ok (.iload 4, 2) := by decide +kernel
theorem dX10_digest_299 : decode cX10_digest 299 = .ok (.invokevirtual 254, 3) := by decide +kernel
theorem dX10_digest_302 : decode cX10_digest 302 = .ok (.i2l, 1) := by decide +kernel
theorem dX10_digest_303 : decode cX10_digest 303 = .ok (.invokestatic 320, 3) := by decide +kernel
theorem dX10_digest_306 : decode cX10_digest 306 = .ok (.lstore_n 1, 1) := by decide +kernel
theorem dX10_digest_307 : decode cX10_digest 307 = .ok (.iinc 4 1, 3) := by decide +kernel
theorem dX10_digest_310 : decode cX10_digest 310 = .ok (.goto (-28), 3) := by decide +kernel
theorem dX10_digest_313 : decode cX10_digest 313 = .ok (.iinc 3 1, 3) := by decide +kernel
theorem dX10_digest_316 : decode cX10_digest 316 = .ok (.goto (-91), 3) := by decide +kernel
theorem dX10_digest_319 : decode cX10_digest 319 = .ok (.iconst 0, 1) := by decide +kernel
theorem dX10_digest_320 : decode cX10_digest 320 = .ok (.istore_n 3, 1) := by decide +kernel
theorem dX10_digest_321 : decode cX10_digest 321 = .ok (.iload_n 3, 1) := by decide +kernel
theorem dX10_digest_322 : decode cX10_digest 322 = .ok (.aload_n 0, 1) := by decide +kernel
theorem dX10_digest_323 : decode cX10_digest 323 = .ok (.getfield 22, 3) := by decide +kernel
theorem dX10_digest_326 : decode cX10_digest 326 = .ok (.invokevirtual 33, 3) := by decide +kernel
theorem dX10_digest_329 : decode cX10_digest 329 = .ok (.if_icmp .ge 60, 3) := by decide +kernel
theorem dX10_digest_332 : decode cX10_digest 332 = .ok (.iconst 0, 1) := by decide +kernel
theorem dX10_digest_333 : decode cX10_digest 333 = .ok (.istore 4, 2) := by decide +kernel
theorem dX10_digest_335 : decode cX10_digest 335 = .ok (.iload 4, 2) := by decide +kernel
theorem dX10_digest_337 : decode cX10_digest 337 = .ok (.aload_n 0, 1) := by decide +kernel
theorem dX10_digest_338 : decode cX10_digest 338 = .ok (.getfield 16, 3) := by decide +kernel
theorem dX10_digest_341 : decode cX10_digest 341 = .ok (.invokevirtual 33, 3) := by decide +kernel
theorem dX10_digest_344 : decode cX10_digest 344 = .ok (.if_icmp .ge 39, 3) := by decide +kernel
theorem dX10_digest_347 : decode cX10_digest 347 = .ok (.iconst 0, 1) := by decide +kernel
theorem dX10_digest_348 : decode cX10_digest 348 = .ok (.istore 5, 2) := by decide +kernel
theorem dX10_digest_350 : decode cX10_digest 350 = .ok (.iload 5, 2) := by decide +kernel
theorem dX10_digest_352 : decode cX10_digest 352 = .ok (.iconst 4, 1) := by decide +kernel
theorem dX10_digest_353 : decode cX10_digest 353 = .ok (.if_icmp .ge 24, 3) := by decide +kernel
theorem dX10_digest_356 : decode cX10_digest 356 = .ok (.lload_n 1, 1) := by decide +kernel
theorem dX10_digest_357 : decode cX10_digest 357 = .ok (.aload_n 0, 1) := by decide +kernel
theorem dX10_digest_358 : decode cX10_digest 358 = .ok (.iload_n 3, 1) := by decide +kernel
theorem dX10_digest_359 : decode cX10_digest 359 = .ok (.iload 4, 2) := by decide +kernel
theorem dX10_digest_361 : decode cX10_digest 361 = .ok (.iload 5, 2) := by decide +kernel
theorem dX10_digest_363 : decode cX10_digest 363 = .ok (.invokevirtual 257, 3) := by decide +kernel
theorem dX10_digest_366 : decode cX10_digest 366 = .ok (.i2l, 1) := by decide +kernel
theorem dX10_digest_367 : decode cX10_digest 367 = .ok (.invokestatic 320, 3) := by decide +kernel
theorem dX10_digest_370 : decode cX10_digest 370 = .ok (.lstore_n 1, 1) := by decide +kernel
theorem dX10_digest_371 : decode cX10_digest 371 = .ok (.iinc 5 1, 3) := by decide +kernel
theorem dX10_digest_374 : decode cX10_digest 374 = .ok (.goto (-24), 3) := by decide +kernel
theorem dX10_digest_377 : decode cX10_digest 377 = .ok (.iinc 4 1, 3) := by decide +kernel
theorem dX10_digest_380 : decode cX10_digest 380 = .ok (.goto (-45), 3) := by decide +kernel
theorem dX10_digest_383 : decode cX10_digest 383 = .ok (.iinc 3 1, 3) := by decide +kernel
theorem dX10_digest_386 : decode cX10_digest 386 = .ok (.goto (-65), 3) := by decide +kernel
theorem dX10_digest_389 : decode cX10_digest 389 = .ok (.lload_n 1, 1) := by decide +kernel
theorem dX10_digest_390 : decode cX10_digest 390 = .ok (.lreturn, 1) := by decide +kernel
theorem dJ6_bitCount_0f7a4_0 : decode cJ6_bitCount_0f7a4 0 = .ok (.iload_n 0, 1) := by decide +kernel
theorem dJ6_bitCount_0f7a4_1 : decode cJ6_bitCount_0f7a4 1 = .ok (.iload_n 0, 1) := by decide +kernel
theorem dJ6_bitCount_0f7a4_2 : decode cJ6_bitCount_0f7a4 2 = .ok (.iconst 1, 1) := by decide +kernel
theorem dJ6_bitCount_0f7a4_3 : decode cJ6_bitCount_0f7a4 3 = .ok (.iushr, 1) := by decide +kernel
theorem dJ6_bitCount_0f7a4_4 : decode cJ6_bitCount_0f7a4 4 = .ok (.ldc_w 265, 3) := by decide +kernel
theorem dJ6_bitCount_0f7a4_7 : decode cJ6_bitCount_0f7a4 7 = .ok (.iand, 1) := by decide +kernel
theorem dJ6_bitCount_0f7a4_8 : decode cJ6_bitCount_0f7a4 8 = .ok (.isub, 1) := by decide +kernel
theorem dJ6_bitCount_0f7a4_9 : decode cJ6_bitCount_0f7a4 9 = .ok (.istore_n 0, 1) := by decide +kernel
theorem dJ6_bitCount_0f7a4_10 : decode cJ6_bitCount_0f7a4 10 = .ok (.iload_n 0, 1) := by decide +kernel
theorem dJ6_bitCount_0f7a4_11 : decode cJ6_bitCount_0f7a4 11 = .ok (.ldc_w 266, 3) := by decide +kernel
theorem dJ6_bitCount_0f7a4_14 : decode cJ6_bitCount_0f7a4 14 = .ok (.iand, 1) := by decide +kernel
theorem dJ6_bitCount_0f7a4_15 : decode cJ6_bitCount_0f7a4 15 = .ok (.iload_n 0, 1) := by decide +kernel
theorem dJ6_bitCount_0f7a4_16 : decode cJ6_bitCount_0f7a4 16 = .ok (.iconst 2, 1) := by decide +kernel
theorem dJ6_bitCount_0f7a4_17 : decode cJ6_bitCount_0f7a4 17 = .ok (.iushr, 1) := by decide +kernel
theorem dJ6_bitCount_0f7a4_18 : decode cJ6_bitCount_0f7a4 18 = .ok (.ldc_w 266, 3) := by decide +kernel
theorem dJ6_bitCount_0f7a4_21 : decode cJ6_bitCount_0f7a4 21 = .ok (.iand, 1) := by decide +kernel
theorem dJ6_bitCount_0f7a4_22 : decode cJ6_bitCount_0f7a4 22 = .ok (.iadd, 1) := by decide +kernel
theorem dJ6_bitCount_0f7a4_23 : decode cJ6_bitCount_0f7a4 23 = .ok (.istore_n 0, 1) := by decide +kernel
theorem dJ6_bitCount_0f7a4_24 : decode cJ6_bitCount_0f7a4 24 = .ok (.iload_n 0, 1) := by decide +kernel
theorem dJ6_bitCount_0f7a4_25 : decode cJ6_bitCount_0f7a4 25 = .ok (.iload_n 0, 1) := by decide +kernel
theorem dJ6_bitCount_0f7a4_26 : decode cJ6_bitCount_0f7a4 26 = .ok (.iconst 4, 1) := by decide +kernel
theorem dJ6_bitCount_0f7a4_27 : decode cJ6_bitCount_0f7a4 27 = .ok (.iushr, 1) := by decide +kernel
theorem dJ6_bitCount_0f7a4_28 : decode cJ6_bitCount_0f7a4 28 = .ok (.iadd, 1) := by decide +kernel
theorem dJ6_bitCount_0f7a4_29 : decode cJ6_bitCount_0f7a4 29 = .ok (.ldc_w 267, 3) := by decide +kernel
theorem dJ6_bitCount_0f7a4_32 : decode cJ6_bitCount_0f7a4 32 = .ok (.iand, 1) := by decide +kernel
theorem dJ6_bitCount_0f7a4_33 : decode cJ6_bitCount_0f7a4 33 = .ok (.istore_n 0, 1) := by decide +kernel
theorem dJ6_bitCount_0f7a4_34 : decode cJ6_bitCount_0f7a4 34 = .ok (.iload_n 0, 1) := by decide +kernel
theorem dJ6_bitCount_0f7a4_35 : decode cJ6_bitCount_0f7a4 35 = .ok (.iload_n 0, 1) := by decide +kernel
theorem dJ6_bitCount_0f7a4_36 : decode cJ6_bitCount_0f7a4 36 = .ok (.bipush 8, 2) := by decide +kernel
theorem dJ6_bitCount_0f7a4_38 : decode cJ6_bitCount_0f7a4 38 = .ok (.iushr, 1) := by decide +kernel
theorem dJ6_bitCount_0f7a4_39 : decode cJ6_bitCount_0f7a4 39 = .ok (.iadd, 1) := by decide +kernel
theorem dJ6_bitCount_0f7a4_40 : decode cJ6_bitCount_0f7a4 40 = .ok (.istore_n 0, 1) := by decide +kernel
theorem dJ6_bitCount_0f7a4_41 : decode cJ6_bitCount_0f7a4 41 = .ok (.iload_n 0, 1) := by decide +kernel
theorem dJ6_bitCount_0f7a4_42 : decode cJ6_bitCount_0f7a4 42 = .ok (.iload_n 0, 1) := by decide +kernel
theorem dJ6_bitCount_0f7a4_43 : decode cJ6_bitCount_0f7a4 43 = .ok (.bipush 16, 2) := by decide +kernel
theorem dJ6_bitCount_0f7a4_45 : decode cJ6_bitCount_0f7a4 45 = .ok (.iushr, 1) := by decide +kernel
theorem dJ6_bitCount_0f7a4_46 : decode cJ6_bitCount_0f7a4 46 = .ok (.iadd, 1) := by decide +kernel
theorem dJ6_bitCount_0f7a4_47 : decode cJ6_bitCount_0f7a4 47 = .ok (.istore_n 0, 1) := by decide +kernel
theorem dJ6_bitCount_0f7a4_48 : decode cJ6_bitCount_0f7a4 48 = .ok (.iload_n 0, 1) := by decide +kernel
theorem dJ6_bitCount_0f7a4_49 : decode cJ6_bitCount_0f7a4 49 = .ok (.bipush 63, 2) := by decide +kernel
theorem dJ6_bitCount_0f7a4_51 : decode cJ6_bitCount_0f7a4 51 = .ok (.iand, 1) := by decide +kernel
theorem dJ6_bitCount_0f7a4_52 : decode cJ6_bitCount_0f7a4 52 = .ok (.ireturn, 1) := by decide +kernel
theorem dJ9_max_7cf53_0 : decode cJ9_max_7cf53 0 = .ok (.iload_n 0, 1) := by decide +kernel
theorem dJ9_max_7cf53_1 : decode cJ9_max_7cf53 1 = .ok (.iload_n 1, 1) := by decide +kernel
theorem dJ9_max_7cf53_2 : decode cJ9_max_7cf53 2 = .ok (.if_icmp .lt 7, 3) := by decide +kernel
theorem dJ9_max_7cf53_5 : decode cJ9_max_7cf53 5 = .ok (.iload_n 0, 1) := by decide +kernel
theorem dJ9_max_7cf53_6 : decode cJ9_max_7cf53 6 = .ok (.goto 4, 3) := by decide +kernel
theorem dJ9_max_7cf53_9 : decode cJ9_max_7cf53 9 = .ok (.iload_n 1, 1) := by decide +kernel
theorem dJ9_max_7cf53_10 : decode cJ9_max_7cf53 10 = .ok (.ireturn, 1) := by decide +kernel
theorem dJ9_min_7cf53_0 : decode cJ9_min_7cf53 0 = .ok (.iload_n 0, 1) := by decide +kernel
theorem dJ9_min_7cf53_1 : decode cJ9_min_7cf53 1 = .ok (.iload_n 1, 1) := by decide +kernel
theorem dJ9_min_7cf53_2 : decode cJ9_min_7cf53 2 = .ok (.if_icmp .gt 7, 3) := by decide +kernel
theorem dJ9_min_7cf53_5 : decode cJ9_min_7cf53 5 = .ok (.iload_n 0, 1) := by decide +kernel
theorem dJ9_min_7cf53_6 : decode cJ9_min_7cf53 6 = .ok (.goto 4, 3) := by decide +kernel
theorem dJ9_min_7cf53_9 : decode cJ9_min_7cf53 9 = .ok (.iload_n 1, 1) := by decide +kernel
theorem dJ9_min_7cf53_10 : decode cJ9_min_7cf53 10 = .ok (.ireturn, 1) := by decide +kernel
theorem dJxa1e45_init_da8c8_0 : decode cJxa1e45_init_da8c8 0 = .ok (.aload_n 0, 1) := by decide +kernel
theorem dJxa1e45_init_da8c8_1 : decode cJxa1e45_init_da8c8 1 = .ok (.invokespecial 1, 3) := by decide +kernel
theorem dJxa1e45_init_da8c8_4 : decode cJxa1e45_init_da8c8 4 = .ok (.return_, 1) := by decide +kernel
theorem dJxc12de_init_da8c8_0 : decode cJxc12de_init_da8c8 0 = .ok (.aload_n 0, 1) := by decide +kernel
theorem dJxc12de_init_da8c8_1 : decode cJxc12de_init_da8c8 1 = .ok (.invokespecial 1, 3) := by decide +kernel
theorem dJxc12de_init_da8c8_4 : decode cJxc12de_init_da8c8 4 = .ok (.aload_n 0, 1) := by decide +kernel
theorem dJxc12de_init_da8c8_5 : decode cJxc12de_init_da8c8 5 = .ok (.iconst 0, 1) := by decide +kernel
theorem dJxc12de_init_da8c8_6 : decode cJxc12de_init_da8c8 6 = .ok (.putfield 7, 3) := by decide +kernel
theorem dJxc12de_init_da8c8_9 : decode cJxc12de_init_da8c8 9 = .ok (.return_, 1) := by decide +kernel
theorem dJx35411_init_45d68_0 : decode cJx35411_init_45d68 0 = .ok (.aload_n 0, 1) := by decide +kernel
theorem dJx35411_init_45d68_1 : decode cJx35411_init_45d68 1 = .ok (.aload_n 1, 1) := by decide +kernel
theorem dJx35411_init_45d68_2 : decode cJx35411_init_45d68 2 = .ok (.putfield 1, 3) := by decide +kernel
theorem dJx35411_init_45d68_5 : decode cJx35411_init_45d68 5 = .ok (.aload_n 0, 1) := by decide +kernel
theorem dJx35411_init_45d68_6 : decode cJx35411_init_45d68 6 = .ok (.invokespecial 7, 3) := by decide +kernel
theorem dJx35411_init_45d68_9 : decode cJx35411_init_45d68 9 = .ok (.aload_n 0, 1) := by decide +kernel
theorem dJx35411_init_45d68_10 : decode cJx35411_init_45d68 10 = .ok (.iconst (-1), 1) := by decide +kernel
theorem dJx35411_init_45d68_11 : decode cJx35411_init_45d68 11 = .ok (.putfield 13, 3) := by decide +kernel
theorem dJx35411_init_45d68_14 : decode cJx35411_init_45d68 14 = .ok (.aload_n 0, 1) := by decide +kernel
theorem dJx35411_init_45d68_15 : decode cJx35411_init_45d68 15 = .ok (.aload_n 0, 1) := by decide +kernel
theorem dJx35411_init_45d68_16 : decode cJx35411_init_45d68 16 = .ok (.getfield 1, 3) := by decide +kernel
theorem dJx35411_init_45d68_19 : decode cJx35411_init_45d68 19 = .ok (.getfield 17, 3) := by decide +kernel
theorem dJx35411_init_45d68_22 : decode cJx35411_init_45d68 22 = .ok (.putfield 22, 3) := by decide +kernel
theorem dJx35411_init_45d68_25 : decode cJx35411_init_45d68 25 = .ok (.return_, 1) := by decide +kernel
theorem dJx35411_hasNext_aae02_0 : decode cJx35411_hasNext_aae02 0 = .ok (.aload_n 0, 1) := by decide +kernel
theorem dJx35411_hasNext_aae02_1 : decode cJx35411_hasNext_aae02 1 = .ok (.getfield 25, 3) := by decide +kernel
theorem dJx35411_hasNext_aae02_4 : decode cJx35411_hasNext_aae02 4 = .ok (.aload_n 0, 1) := by decide +kernel
theorem dJx35411_hasNext_aae02_5 : decode cJx35411_hasNext_aae02 5 = .ok (.getfield 1, 3) := by decide +kernel
theorem dJx35411_hasNext_aae02_8 : decode cJx35411_hasNext_aae02 8 = .ok (.getfield 28, 3) := by decide +kernel
theorem dJx35411_hasNext_aae02_11 : decode cJx35411_hasNext_aae02 11 = .ok (.if_icmp .eq 7, 3) := by decide +kernel
theorem dJx35411_hasNext_aae02_14 : decode cJx35411_hasNext_aae02 14 = .ok (.iconst 1, 1) := by decide +kernel
theorem dJx35411_hasNext_aae02_15 : decode cJx35411_hasNext_aae02 15 = .ok (.goto 4, 3) := by decide +kernel
theorem dJx35411_hasNext_aae02_18 : decode cJx35411_hasNext_aae02 18 = .ok (.iconst 0, 1) := by decide +kernel
theorem dJx35411_hasNext_aae02_19 : decode cJx35411_hasNext_aae02 19 = .ok (.ireturn, 1) := by decide +kernel
theorem dJx35411_next_0502b_0 : decode cJx35411_next_0502b 0 = .ok (.aload_n 0, 1) := by decide +kernel
theorem dJx35411_next_0502b_1 : decode cJx35411_next_0502b 1 = .ok (.invokevirtual 31, 3) := by decide +kernel
theorem dJx35411_next_0502b_4 : decode cJx35411_next_0502b 4 = .ok (.aload_n 0, 1) := by decide +kernel
theorem dJx35411_next_0502b_5 : decode cJx35411_next_0502b 5 = .ok (.getfield 25, 3) := by decide +kernel
theorem dJx35411_next_0502b_8 : decode cJx35411_next_0502b 8 = .ok (.istore_n 1, 1) := by decide +kernel
theorem dJx35411_next_0502b_9 : decode cJx35411_next_0502b 9 = .ok (.iload_n 1, 1) := by decide +kernel
theorem dJx35411_next_0502b_10 : decode cJx35411_next_0502b 10 = .ok (.aload_n 0, 1) := by decide +kernel
theorem dJx35411_next_0502b_11 : decode cJx35411_next_0502b 11 = .ok (.getfield 1, 3) := by decide +kernel
theorem dJx35411_next_0502b_14 : decode cJx35411_next_0502b 14 = .ok (.getfield 28, 3) := by decide +kernel
theorem dJx35411_next_0502b_17 : decode cJx35411_next_0502b 17 = .ok (.if_icmp .lt 11, 3) := by decide +kernel
theorem dJx35411_next_0502b_20 : decode cJx35411_next_0502b 20 = .ok (.new 34, 3) := by decide +kernel
theorem dJx35411_next_0502b_23 : decode cJx35411_next_0502b 23 = .ok (.dup, 1) := by decide +kernel
theorem dJx35411_next_0502b_24 : decode cJx35411_next_0502b 24 = .ok (.invokespecial 36, 3) := by decide +kernel
theorem dJx35411_next_0502b_27 : decode cJx35411_next_0502b 27 = .ok (.athrow, 1) := by decide +kernel
theorem dJx35411_next_0502b_28 : decode cJx35411_next_0502b 28 = .ok (.aload_n 0, 1) := by decide +kernel
theorem dJx35411_next_0502b_29 : decode cJx35411_next_0502b 29 = .ok (.getfield 1, 3) := by decide +kernel
theorem dJx35411_next_0502b_32 : decode cJx35411_next_0502b 32 = .ok (.getfield 37, 3) := by decide +kernel
theorem dJx35411_next_0502b_35 : decode cJx35411_next_0502b 35 = .ok (.astore_n 2, 1) := by decide +kernel
theorem dJx35411_next_0502b_36 : decode cJx35411_next_0502b 36 = .ok (.iload_n 1, 1) := by decide +kernel
theorem dJx35411_next_0502b_37 : decode cJx35411_next_0502b 37 = .ok (.aload_n 2, 1) := by decide +kernel
theorem dJx35411_next_0502b_38 : decode cJx35411_next_0502b 38 = .ok (.arraylength, 1) := by decide +kernel
theorem dJx35411_next_0502b_39 : decode cJx35411_next_0502b 39 = .ok (.if_icmp .lt 11, 3) := by decide +kernel
theorem dJx35411_next_0502b_42 : decode cJx35411_next_0502b 42 = .ok (.new 41, 3) := by decide +kernel
theorem dJx35411_next_0502b_45 : decode cJx35411_next_0502b 45 = .ok (.dup, 1) := by decide +kernel
theorem dJx35411_next_0502b_46 : decode cJx35411_next_0502b 46 = .ok (.invokespecial 43, 3) := by decide +kernel
theorem dJx35411_next_0502b_49 : decode cJx35411_next_0502b 49 = .ok (.athrow, 1) := by decide +kernel
theorem dJx35411_next_0502b_50 : decode cJx35411_next_0502b 50 = .ok (.aload_n 0, 1) := by decide +kernel
theorem dJx35411_next_0502b_51 : decode cJx35411_next_0502b 51 = .ok (.iload_n 1, 1) := by decide +kernel
theorem dJx35411_next_0502b_52 : decode cJx35411_next_0502b 52 = .ok (.iconst 1, 1) := by decide +kernel
theorem dJx35411_next_0502b_53 : decode cJx35411_next_0502b 53 = .ok (.iadd, 1) := by decide +kernel
theorem dJx35411_next_0502b_54 : decode cJx35411_next_0502b 54 = .ok (.putfield 25, 3) := by decide +kernel
theorem dJx35411_next_0502b_57 : decode cJx35411_next_0502b 57 = .ok (.aload_n 2, 1) := by decide +kernel
theorem dJx35411_next_0502b_58 : decode cJx35411_next_0502b 58 = .ok (.aload_n 0, 1) := by decide +kernel
theorem dJx35411_next_0502b_59 : decode cJx35411_next_0502b 59 = .ok (.iload_n 1, 1) := by decide +kernel
theorem dJx35411_next_0502b_60 : decode cJx35411_next_0502b 60 = .ok (.dup_x1, 1) := by decide +kernel
theorem dJx35411_next_0502b_61 : decode cJx35411_next_0502b 61 = .ok (.putfield 13, 3) := by decide +kernel
theorem dJx35411_next_0502b_64 : decode cJx35411_next_0502b 64 = .ok (.aaload, 1) := by decide +kernel
theorem dJx35411_next_0502b_65 : decode cJx35411_next_0502b 65 = .ok (.areturn, 1) := by decide +kernel
theorem dJx35411_checkForComodification_da8c8_0 : decode cJx35411_checkForComodification_da8c8 0 = .ok (.aload_n 0, 1) := by decide +kernel
theorem dJx35411_checkForComodification_da8c8_1 : decode cJx35411_checkForComodification_da8c8 1 = .ok (.getfield 1, 3) := by decide +kernel
theorem dJx35411_checkForComodification_da8c8_4 : decode cJx35411_checkForComodification_da8c8 4 = .ok (.getfield 17, 3) := by decide +kernel
theorem dJx35411_checkForComodification_da8c8_7 : decode cJx35411_checkForComodification_da8c8 7 = .ok (.aload_n 0, 1) := by decide +kernel
theorem dJx35411_checkForComodification_da8c8_8 : decode cJx35411_checkForComodification_da8c8 8 = .ok (.getfield 22, 3) := by decide +kernel
theorem dJx35411_checkForComodification_da8c8_11 : decode cJx35411_checkForComodification_da8c8 11 = .ok (.if_icmp .eq 11, 3) := by decide +kernel
theorem dJx35411_checkForComodification_da8c8_14 : decode cJx35411_checkForComodification_da8c8 14 = .ok (.new 41, 3) := by decide +kernel
theorem dJx35411_checkForComodification_da8c8_17 : decode cJx35411_checkForComodification_da8c8 17 = .ok (.dup, 1) := by decide +kernel
theorem dJx35411_checkForComodification_da8c8_18 : decode cJx35411_checkForComodification_da8c8 18 = .ok (.invokespecial 43, 3) := by decide +kernel
theorem dJx35411_checkForComodification_da8c8_21 : decode cJx35411_checkForComodification_da8c8 21 = .ok (.athrow, 1) := by decide +kernel
theorem dJx35411_checkForComodification_da8c8_22 : decode cJx35411_checkForComodification_da8c8 22 = .ok (.return_, 1) := by decide +kernel
theorem dJx4a65c_init_da8c8_0 : decode cJx4a65c_init_da8c8 0 = .ok (.aload_n 0, 1) := by decide +kernel
theorem dJx4a65c_init_da8c8_1 : decode cJx4a65c_init_da8c8 1 = .ok (.invokespecial 1, 3) := by decide +kernel
theorem dJx4a65c_init_da8c8_4 : decode cJx4a65c_init_da8c8 4 = .ok (.aload_n 0, 1) := by decide +kernel
theorem dJx4a65c_init_da8c8_5 : decode cJx4a65c_init_da8c8 5 = .ok (.getstatic 39, 3) := by decide +kernel
theorem dJx4a65c_init_da8c8_8 : decode cJx4a65c_init_da8c8 8 = .ok (.putfield 9, 3) := by decide +kernel
theorem dJx4a65c_init_da8c8_11 : decode cJx4a65c_init_da8c8 11 = .ok (.return_, 1) := by decide +kernel
theorem dJx4a65c_init_4bcb3_0 : decode cJx4a65c_init_4bcb3 0 = .ok (.aload_n 0, 1) := by decide +kernel
theorem dJx4a65c_init_4bcb3_1 : decode cJx4a65c_init_4bcb3 1 = .ok (.invokespecial 1, 3) := by decide +kernel
theorem dJx4a65c_init_4bcb3_4 : decode cJx4a65c_init_4bcb3 4 = .ok (.aload_n 1, 1) := by decide +kernel
theorem dJx4a65c_init_4bcb3_5 : decode cJx4a65c_init_4bcb3 5 = .ok (.invokeinterface 42 1, 5) := by decide +kernel
theorem dJx4a65c_init_4bcb3_10 : decode cJx4a65c_init_4bcb3 10 = .ok (.astore_n 2, 1) := by decide +kernel
theorem dJx4a65c_init_4bcb3_11 : decode cJx4a65c_init_4bcb3 11 = .ok (.aload_n 0, 1) := by decide +kernel
theorem dJx4a65c_init_4bcb3_12 : decode cJx4a65c_init_4bcb3 12 = .ok (.aload_n 2, 1) := by decide +kernel
theorem dJx4a65c_init_4bcb3_13 : decode cJx4a65c_init_4bcb3 13 = .ok (.arraylength, 1) := by decide +kernel
theorem dJx4a65c_init_4bcb3_14 : decode cJx4a65c_init_4bcb3 14 = .ok (.dup_x1, 1) := by decide +kernel
theorem dJx4a65c_init_4bcb3_15 : decode cJx4a65c_init_4bcb3 15 = .ok (.putfield 48, 3) := by decide +kernel
theorem dJx4a65c_init_4bcb3_18 : decode cJx4a65c_init_4bcb3 18 = .ok (.ifCond .eq 39, 3) := by decide +kernel
theorem dJx4a65c_init_4bcb3_21 : decode cJx4a65c_init_4bcb3 21 = .ok (.aload_n 1, 1) := by decide +kernel
theorem dJx4a65c_init_4bcb3_22 : decode cJx4a65c_init_4bcb3 22 = .ok (.invokeinterface 52 1, 5) := by decide +kernel
theorem dJx4a65c_init_4bcb3_27 : decode cJx4a65c_init_4bcb3 27 = .ok (.ldc 10, 2) := by decide +kernel
theorem dJx4a65c_init_4bcb3_29 : decode cJx4a65c_init_4bcb3 29 = .ok (.if_acmp .ne 11, 3) := by decide +kernel
theorem dJx4a65c_init_4bcb3_32 : decode cJx4a65c_init_4bcb3 32 = .ok (.aload_n 0, 1) := by decide +kernel
theorem dJx4a65c_init_4bcb3_33 : decode cJx4a65c_init_4bcb3 33 = .ok (.aload_n 2, 1) := by decide +kernel
theorem dJx4a65c_init_4bcb3_34 : decode cJx4a65c_init_4bcb3 34 = .ok (.putfield 9, 3) := by decide +kernel
theorem dJx4a65c_init_4bcb3_37 : decode cJx4a65c_init_4bcb3 37 = .ok (.goto 27, 3) := by decide +kernel
theorem dJx4a65c_init_4bcb3_40 : decode cJx4a65c_init_4bcb3 40 = .ok (.aload_n 0, 1) := by decide +kernel
theorem dJx4a65c_init_4bcb3_41 : decode cJx4a65c_init_4bcb3 41 = .ok (.aload_n 2, 1) := by decide +kernel
theorem dJx4a65c_init_4bcb3_42 : decode cJx4a65c_init_4bcb3 42 = .ok (.aload_n 0, 1) := by decide +kernel
theorem dJx4a65c_init_4bcb3_43 : decode cJx4a65c_init_4bcb3 43 = .ok (.getfield 48, 3) := by decide +kernel
theorem dJx4a65c_init_4bcb3_46 : decode cJx4a65c_init_4bcb3 46 = .ok (.ldc 56, 2) := by decide +kernel
theorem dJx4a65c_init_4bcb3_48 : decode cJx4a65c_init_4bcb3 48 = .ok (.invokestatic 57, 3) := by decide +kernel
theorem dJx4a65c_init_4bcb3_51 : decode cJx4a65c_init_4bcb3 51 = .ok (.putfield 9, 3) := by decide +kernel
theorem dJx4a65c_init_4bcb3_54 : decode cJx4a65c_init_4bcb3 54 = .ok (.goto 10, 3) := by decide +kernel
theorem dJx4a65c_init_4bcb3_57 : decode cJx4a65c_init_4bcb3 57 = .ok (.aload_n 0, 1) := by decide +kernel
theorem dJx4a65c_init_4bcb3_58 : decode cJx4a65c_init_4bcb3 58 = .ok (.getstatic 15, 3) := by decide +kernel
theorem dJx4a65c_init_4bcb3_61 : decode cJx4a65c_init_4bcb3 61 = .ok (.putfield 9, 3) := by decide +kernel
theorem dJx4a65c_init_4bcb3_64 : decode cJx4a65c_init_4bcb3 64 = .ok (.return_, 1) := by decide +kernel
theorem dJx4a65c_grow_92f84_0 : decode cJx4a65c_grow_92f84 0 = .ok (.aload_n 0, 1) := by decide +kernel
theorem dJx4a65c_grow_92f84_1 : decode cJx4a65c_grow_92f84 1 = .ok (.getfield 9, 3) := by decide +kernel
theorem dJx4a65c_grow_92f84_4 : decode cJx4a65c_grow_92f84 4 = .ok (.arraylength, 1) := by decide +kernel
theorem dJx4a65c_grow_92f84_5 : decode cJx4a65c_grow_92f84 5 = .ok (.istore_n 2, 1) := by decide +kernel
theorem dJx4a65c_grow_92f84_6 : decode cJx4a65c_grow_92f84 6 = .ok (.iload_n 2, 1) := by decide +kernel
theorem dJx4a65c_grow_92f84_7 : decode cJx4a65c_grow_92f84 7 = .ok (.ifCond .gt 13, 3) := by decide +kernel
theorem dJx4a65c_grow_92f84_10 : decode cJx4a65c_grow_92f84 10 = .ok (.aload_n 0, 1) := by decide +kernel
theorem dJx4a65c_grow_92f84_11 : decode cJx4a65c_grow_92f84 11 = .ok (.getfield 9, 3) := by decide +kernel
theorem dJx4a65c_grow_92f84_14 : decode cJx4a65c_grow_92f84 14 = .ok (.getstatic 39, 3) := by decide +kernel
theorem dJx4a65c_grow_92f84_17 : decode cJx4a65c_grow_92f84 17 = .ok (.if_acmp .eq 28, 3) := by decide +kernel
theorem dJx4a65c_grow_92f84_20 : decode cJx4a65c_grow_92f84 20 = .ok (.iload_n 2, 1) := by decide +kernel
theorem dJx4a65c_grow_92f84_21 : decode cJx4a65c_grow_92f84 21 = .ok (.iload_n 1, 1) := by decide +kernel
theorem dJx4a65c_grow_92f84_22 : decode cJx4a65c_grow_92f84 22 = .ok (.iload_n 2, 1) := by decide +kernel
theorem dJx4a65c_grow_92f84_23 : decode cJx4a65c_grow_92f84 23 = .ok (.isub, 1) := by decide +kernel
theorem dJx4a65c_grow_92f84_24 : decode cJx4a65c_grow_92f84 24 = .ok (.iload_n 2, 1) := by decide +kernel
theorem dJx4a65c_grow_92f84_25 : decode cJx4a65c_grow_92f84 25 = .ok (.iconst 1, 1) := by decide +kernel
theorem dJx4a65c_grow_92f84_26 : decode cJx4a65c_grow_92f84 26 = .ok (.ishr, 1) := by decide +kernel
theorem dJx4a65c_grow_92f84_27 : decode cJx4a65c_grow_92f84 27 = .ok (.invokestatic 73, 3) := by decide +kernel
theorem dJx4a65c_grow_92f84_30 : decode cJx4a65c_grow_92f84 30 = .ok (.istore_n 3, 1) := by decide +kernel
theorem dJx4a65c_grow_92f84_31 : decode cJx4a65c_grow_92f84 31 = .ok (.aload_n 0, 1) := by decide +kernel
theorem dJx4a65c_grow_92f84_32 : decode cJx4a65c_grow_92f84 32 = .ok (.aload_n 0, 1) := by decide +kernel
theorem dJx4a65c_grow_92f84_33 : decode cJx4a65c_grow_92f84 33 = .ok (.getfield 9, 3) := by decide +kernel
theorem dJx4a65c_grow_92f84_36 : decode cJx4a65c_grow_92f84 36 = .ok (.iload_n 3, 1) := by decide +kernel
theorem dJx4a65c_grow_92f84_37 : decode cJx4a65c_grow_92f84 37 = .ok (.invokestatic 66, 3) := by decide +kernel
theorem dJx4a65c_grow_92f84_40 : decode cJx4a65c_grow_92f84 40 = .ok (.dup_x1, 1) := by decide +kernel
theorem dJx4a65c_grow_92f84_41 : decode cJx4a65c_grow_92f84 41 = .ok (.putfield 9, 3) := by decide +kernel
theorem dJx4a65c_grow_92f84_44 : decode cJx4a65c_grow_92f84 44 = .ok (.areturn, 1) := by decide +kernel
theorem dJx4a65c_grow_92f84_45 : decode cJx4a65c_grow_92f84 45 = .ok (.aload_n 0, 1) := by decide +kernel
theorem dJx4a65c_grow_92f84_46 : decode cJx4a65c_grow_92f84 46 = .ok (.bipush 10, 2) := by decide +kernel
theorem dJx4a65c_grow_92f84_48 : decode cJx4a65c_grow_92f84 48 = .ok (.iload_n 1, 1) := by decide +kernel
theorem dJx4a65c_grow_92f84_49 : decode cJx4a65c_grow_92f84 49 = .ok (.invokestatic 79, 3) := by decide +kernel
theorem dJx4a65c_grow_92f84_52 : decode cJx4a65c_grow_92f84 52 = .ok (.anewarray 7, 3) := by decide +kernel
theorem dJx4a65c_grow_92f84_55 : decode cJx4a65c_grow_92f84 55 = .ok (.dup_x1, 1) := by decide +kernel
theorem dJx4a65c_grow_92f84_56 : decode cJx4a65c_grow_92f84 56 = .ok (.putfield 9, 3) := by decide +kernel
theorem dJx4a65c_grow_92f84_59 : decode cJx4a65c_grow_92f84 59 = .ok (.areturn, 1) := by decide +kernel
theorem dJx4a65c_grow_d5877_0 : decode cJx4a65c_grow_d5877 0 = .ok (.aload_n 0, 1) := by decide +kernel
theorem dJx4a65c_grow_d5877_1 : decode cJx4a65c_grow_d5877 1 = .ok (.aload_n 0, 1) := by decide +kernel
theorem dJx4a65c_grow_d5877_2 : decode cJx4a65c_grow_d5877 2 = .ok (.getfield 48, 3) := by decide +kernel
theorem dJx4a65c_grow_d5877_5 : decode cJx4a65c_grow_d5877 5 = .ok (.iconst 1, 1) := by decide +kernel
theorem dJx4a65c_grow_d5877_6 : decode cJx4a65c_grow_d5877 6 = .ok (.iadd, 1) := by decide +kernel
theorem dJx4a65c_grow_d5877_7 : decode cJx4a65c_grow_d5877 7 = .ok (.invokevirtual 69, 3) := by decide +kernel
theorem dJx4a65c_grow_d5877_10 : decode cJx4a65c_grow_d5877 10 = .ok (.areturn, 1) := by decide +kernel
theorem dJx4a65c_size_8abf5_0 : decode cJx4a65c_size_8abf5 0 = .ok (.aload_n 0, 1) := by decide +kernel
theorem dJx4a65c_size_8abf5_1 : decode cJx4a65c_size_8abf5 1 = .ok (.getfield 48, 3) := by decide +kernel
theorem dJx4a65c_size_8abf5_4 : decode cJx4a65c_size_8abf5 4 = .ok (.ireturn, 1) := by decide +kernel
theorem dJx4a65c_toArray_d5877_0 : decode cJx4a65c_toArray_d5877 0 = .ok (.aload_n 0, 1) := by decide +kernel
theorem dJx4a65c_toArray_d5877_1 : decode cJx4a65c_toArray_d5877 1 = .ok (.getfield 9, 3) := by decide +kernel
theorem dJx4a65c_toArray_d5877_4 : decode cJx4a65c_toArray_d5877 4 = .ok (.aload_n 0, 1) := by decide +kernel
theorem dJx4a65c_toArray_d5877_5 : decode cJx4a65c_toArray_d5877 5 = .ok (.getfield 48, 3) := by decide +kernel
theorem dJx4a65c_toArray_d5877_8 : decode cJx4a65c_toArray_d5877 8 = .ok (.invokestatic 66, 3) := by decide +kernel
theorem dJx4a65c_toArray_d5877_11 : decode cJx4a65c_toArray_d5877 11 = .ok (.areturn, 1) := by decide +kernel
theorem dJx4a65c_elementData_915e3_0 : decode cJx4a65c_elementData_915e3 0 = .ok (.aload_n 0, 1) := by decide +kernel
theorem dJx4a65c_elementData_915e3_1 : decode cJx4a65c_elementData_915e3 1 = .ok (.getfield 9, 3) := by decide +kernel
theorem dJx4a65c_elementData_915e3_4 : decode cJx4a65c_elementData_915e3 4 = .ok (.iload_n 1, 1) := by decide +kernel
theorem dJx4a65c_elementData_915e3_5 : decode cJx4a65c_elementData_915e3 5 = .ok (.aaload, 1) := by decide +kernel
theorem dJx4a65c_elementData_915e3_6 : decode cJx4a65c_elementData_915e3 6 = .ok (.areturn, 1) := by decide +kernel
theorem dJx4a65c_get_915e3_0 : decode cJx4a65c_get_915e3 0 = .ok (.iload_n 1, 1) := by decide +kernel
theorem dJx4a65c_get_915e3_1 : decode cJx4a65c_get_915e3 1 = .ok (.aload_n 0, 1) := by decide +kernel
theorem dJx4a65c_get_915e3_2 : decode cJx4a65c_get_915e3 2 = .ok (.getfield 48, 3) := by decide +kernel
theorem dJx4a65c_get_915e3_5 : decode cJx4a65c_get_915e3 5 = .ok (.invokestatic 118, 3) := by decide +kernel
theorem dJx4a65c_get_915e3_8 : decode cJx4a65c_get_915e3 8 = .ok (.pop, 1) := by decide +kernel
theorem dJx4a65c_get_915e3_9 : decode cJx4a65c_get_915e3 9 = .ok (.aload_n 0, 1) := by decide +kernel
theorem dJx4a65c_get_915e3_10 : decode cJx4a65c_get_915e3 10 = .ok (.iload_n 1, 1) := by decide +kernel
theorem dJx4a65c_get_915e3_11 : decode cJx4a65c_get_915e3 11 = .ok (.invokevirtual 123, 3) := by decide +kernel
theorem dJx4a65c_get_915e3_14 : decode cJx4a65c_get_915e3 14 = .ok (.areturn, 1) := by decide +kernel
theorem dJx4a65c_add_72be8_0 : decode cJx4a65c_add_72be8 0 = .ok (.iload_n 3, 1) := by decide +kernel
theorem dJx4a65c_add_72be8_1 : decode cJx4a65c_add_72be8 1 = .ok (.aload_n 2, 1) := by decide +kernel
theorem dJx4a65c_add_72be8_2 : decode cJx4a65c_add_72be8 2 = .ok (.arraylength, 1) := by decide +kernel
theorem dJx4a65c_add_72be8_3 : decode cJx4a65c_add_72be8 3 = .ok (.if_icmp .ne 8, 3) := by decide +kernel
theorem dJx4a65c_add_72be8_6 : decode cJx4a65c_add_72be8 6 = .ok (.aload_n 0, 1) := by decide +kernel
theorem dJx4a65c_add_72be8_7 : decode cJx4a65c_add_72be8 7 = .ok (.invokevirtual 129, 3) := by decide +kernel
theorem dJx4a65c_add_72be8_10 : decode cJx4a65c_add_72be8 10 = .ok (.astore_n 2, 1) := by decide +kernel
theorem dJx4a65c_add_72be8_11 : decode cJx4a65c_add_72be8 11 = .ok (.aload_n 2, 1) := by decide +kernel
theorem dJx4a65c_add_72be8_12 : decode cJx4a65c_add_72be8 12 = .ok (.iload_n 3, 1) := by decide +kernel
theorem dJx4a65c_add_72be8_13 : decode cJx4a65c_add_72be8 13 = .ok (.aload_n 1, 1) := by decide +kernel
theorem dJx4a65c_add_72be8_14 : decode cJx4a65c_add_72be8 14 = .ok (.aastore, 1) := by decide +kernel
theorem dJx4a65c_add_72be8_15 : decode cJx4a65c_add_72be8 15 = .ok (.aload_n 0, 1) := by decide +kernel
theorem dJx4a65c_add_72be8_16 : decode cJx4a65c_add_72be8 16 = .ok (.iload_n 3, 1) := by decide +kernel
theorem dJx4a65c_add_72be8_17 : decode cJx4a65c_add_72be8 17 = .ok (.iconst 1, 1) := by decide +kernel
theorem dJx4a65c_add_72be8_18 : decode cJx4a65c_add_72be8 18 = .ok (.iadd, 1) := by decide +kernel
theorem dJx4a65c_add_72be8_19 : decode cJx4a65c_add_72be8 19 = .ok (.putfield 48, 3) := by decide +kernel
theorem dJx4a65c_add_72be8_22 : decode cJx4a65c_add_72be8 22 = .ok (.return_, 1) := by decide +kernel
theorem dJx4a65c_add_9ea2d_0 : decode cJx4a65c_add_9ea2d 0 = .ok (.aload_n 0, 1) := by decide +kernel
theorem dJx4a65c_add_9ea2d_1 : decode cJx4a65c_add_9ea2d 1 = .ok (.dup, 1) := by decide +kernel
theorem dJx4a65c_add_9ea2d_2 : decode cJx4a65c_add_9ea2d 2 = .ok (.getfield 63, 3) := by decide +kernel
theorem dJx4a65c_add_9ea2d_5 : decode cJx4a65c_add_9ea2d 5 = .ok (.iconst 1, 1) := by decide +kernel
theorem dJx4a65c_add_9ea2d_6 : decode cJx4a65c_add_9ea2d 6 = .ok (.iadd, 1) := by decide +kernel
theorem dJx4a65c_add_9ea2d_7 : decode cJx4a65c_add_9ea2d 7 = .ok (.putfield 63, 3) := by decide +kernel
theorem dJx4a65c_add_9ea2d_10 : decode cJx4a65c_add_9ea2d 10 = .ok (.aload_n 0, 1) := by decide +kernel
theorem dJx4a65c_add_9ea2d_11 : decode cJx4a65c_add_9ea2d 11 = .ok (.aload_n 1, 1) := by decide +kernel
theorem dJx4a65c_add_9ea2d_12 : decode cJx4a65c_add_9ea2d 12 = .ok (.aload_n 0, 1) := by decide +kernel
theorem dJx4a65c_add_9ea2d_13 : decode cJx4a65c_add_9ea2d 13 = .ok (.getfield 9, 3) := by decide +kernel
theorem dJx4a65c_add_9ea2d_16 : decode cJx4a65c_add_9ea2d 16 = .ok (.aload_n 0, 1) := by decide +kernel
theorem dJx4a65c_add_9ea2d_17 : decode cJx4a65c_add_9ea2d 17 = .ok (.getfield 48, 3) := by decide +kernel
theorem dJx4a65c_add_9ea2d_20 : decode cJx4a65c_add_9ea2d 20 = .ok (.invokevirtual 131, 3) := by decide +kernel
theorem dJx4a65c_add_9ea2d_23 : decode cJx4a65c_add_9ea2d 23 = .ok (.iconst 1, 1) := by decide +kernel
theorem dJx4a65c_add_9ea2d_24 : decode cJx4a65c_add_9ea2d 24 = .ok (.ireturn, 1) := by decide +kernel
theorem dJx4a65c_iterator_32c93_0 : decode cJx4a65c_iterator_32c93 0 = .ok (.new 267, 3) := by decide +kernel
theorem dJx4a65c_iterator_32c93_3 : decode cJx4a65c_iterator_32c93 3 = .ok (.dup, 1) := by decide +kernel
theorem dJx4a65c_iterator_32c93_4 : decode cJx4a65c_iterator_32c93 4 = .ok (.aload_n 0, 1) := by decide +kernel
theorem dJx4a65c_iterator_32c93_5 : decode cJx4a65c_iterator_32c93 5 = .ok (.invokespecial 269, 3) := by decide +kernel
theorem dJx4a65c_iterator_32c93_8 : decode cJx4a65c_iterator_32c93 8 = .ok (.areturn, 1) := by decide +kernel
theorem dJ7_fill_53178_0 : decode cJ7_fill_53178 0 = .ok (.iconst 0, 1) := by decide +kernel
theorem dJ7_fill_53178_1 : decode cJ7_fill_53178 1 = .ok (.istore_n 2, 1) := by decide +kernel
theorem dJ7_fill_53178_2 : decode cJ7_fill_53178 2 = .ok (.aload_n 0, 1) := by decide +kernel
theorem dJ7_fill_53178_3 : decode cJ7_fill_53178 3 = .ok (.arraylength, 1) := by decide +kernel
theorem dJ7_fill_53178_4 : decode cJ7_fill_53178 4 = .ok (.istore_n 3, 1) := by decide +kernel
theorem dJ7_fill_53178_5 : decode cJ7_fill_53178 5 = .ok (.iload_n 2, 1) := by decide +kernel
theorem dJ7_fill_53178_6 : decode cJ7_fill_53178 6 = .ok (.iload_n 3, 1) := by decide +kernel
theorem dJ7_fill_53178_7 : decode cJ7_fill_53178 7 = .ok (.if_icmp .ge 13, 3) := by decide +kernel
theorem dJ7_fill_53178_10 : decode cJ7_fill_53178 10 = .ok (.aload_n 0, 1) := by decide +kernel
theorem dJ7_fill_53178_11 : decode cJ7_fill_53178 11 = .ok (.iload_n 2, 1) := by decide +kernel
theorem dJ7_fill_53178_12 : decode cJ7_fill_53178 12 = .ok (.iload_n 1, 1) := by decide +kernel
theorem dJ7_fill_53178_13 : decode cJ7_fill_53178 13 = .ok (.iastore, 1) := by decide +kernel
theorem dJ7_fill_53178_14 : decode cJ7_fill_53178 14 = .ok (.iinc 2 1, 3) := by decide +kernel
theorem dJ7_fill_53178_17 : decode cJ7_fill_53178 17 = .ok (.goto (-12), 3) := by decide +kernel
theorem dJ7_fill_53178_20 : decode cJ7_fill_53178 20 = .ok (.return_, 1) := by decide +kernel
theorem dJ7_copyOf_1904c_0 : decode cJ7_copyOf_1904c 0 = .ok (.aload_n 0, 1) := by decide +kernel
theorem dJ7_copyOf_1904c_1 : decode cJ7_copyOf_1904c 1 = .ok (.iload_n 1, 1) := by decide +kernel
theorem dJ7_copyOf_1904c_2 : decode cJ7_copyOf_1904c 2 = .ok (.aload_n 0, 1) := by decide +kernel
theorem dJ7_copyOf_1904c_3 : decode cJ7_copyOf_1904c 3 = .ok (.invokevirtual 86, 3) := by decide +kernel
theorem dJ7_copyOf_1904c_6 : decode cJ7_copyOf_1904c 6 = .ok (.invokestatic 300, 3) := by decide +kernel
theorem dJ7_copyOf_1904c_9 : decode cJ7_copyOf_1904c 9 = .ok (.areturn, 1) := by decide +kernel
theorem dJ7_copyOf_6403c_0 : decode cJ7_copyOf_6403c 0 = .ok (.aload_n 2, 1) := by decide +kernel
theorem dJ7_copyOf_6403c_1 : decode cJ7_copyOf_6403c 1 = .ok (.ldc 110, 2) := by decide +kernel
theorem dJ7_copyOf_6403c_3 : decode cJ7_copyOf_6403c 3 = .ok (.if_acmp .ne 10, 3) := by decide +kernel
theorem dJ7_copyOf_6403c_6 : decode cJ7_copyOf_6403c 6 = .ok (.iload_n 1, 1) := by decide +kernel
theorem dJ7_copyOf_6403c_7 : decode cJ7_copyOf_6403c 7 = .ok (.anewarray 2, 3) := by decide +kernel
theorem dJ7_copyOf_6403c_10 : decode cJ7_copyOf_6403c 10 = .ok (.goto 14, 3) := by decide +kernel
theorem dJ7_copyOf_6403c_13 : decode cJ7_copyOf_6403c 13 = .ok (.aload_n 2, 1) := by decide +kernel
theorem dJ7_copyOf_6403c_14 : decode cJ7_copyOf_6403c 14 = .ok (.invokevirtual 90, 3) := by decide +kernel
theorem dJ7_copyOf_6403c_17 : decode cJ7_copyOf_6403c 17 = .ok (.iload_n 1, 1) := by decide +kernel
theorem dJ7_copyOf_6403c_18 : decode cJ7_copyOf_6403c 18 = .ok (.invokestatic 95, 3) := by decide +kernel
theorem dJ7_copyOf_6403c_21 : decode cJ7_copyOf_6403c 21 = .ok (.checkcast 110, 3) := by decide +kernel
theorem dJ7_copyOf_6403c_24 : decode cJ7_copyOf_6403c 24 = .ok (.astore_n 3, 1) := by decide +kernel
theorem dJ7_copyOf_6403c_25 : decode cJ7_copyOf_6403c 25 = .ok (.aload_n 0, 1) := by decide +kernel
theorem dJ7_copyOf_6403c_26 : decode cJ7_copyOf_6403c 26 = .ok (.iconst 0, 1) := by decide +kernel
theorem dJ7_copyOf_6403c_27 : decode cJ7_copyOf_6403c 27 = .ok (.aload_n 3, 1) := by decide +kernel
theorem dJ7_copyOf_6403c_28 : decode cJ7_copyOf_6403c 28 = .ok (.iconst 0, 1) := by decide +kernel
theorem dJ7_copyOf_6403c_29 : decode cJ7_copyOf_6403c 29 = .ok (.aload_n 0, 1) := by decide +kernel
theorem dJ7_copyOf_6403c_30 : decode cJ7_copyOf_6403c 30 = .ok (.arraylength, 1) := by decide +kernel
theorem dJ7_copyOf_6403c_31 : decode cJ7_copyOf_6403c 31 = .ok (.iload_n 1, 1) := by decide +kernel
theorem dJ7_copyOf_6403c_32 : decode cJ7_copyOf_6403c 32 = .ok (.invokestatic 304, 3) := by decide +kernel
theorem dJ7_copyOf_6403c_35 : decode cJ7_copyOf_6403c 35 = .ok (.invokestatic 150, 3) := by decide +kernel
theorem dJ7_copyOf_6403c_38 : decode cJ7_copyOf_6403c 38 = .ok (.aload_n 3, 1) := by decide +kernel
theorem dJ7_copyOf_6403c_39 : decode cJ7_copyOf_6403c 39 = .ok (.areturn, 1) := by decide +kernel
theorem dJ15_checkIndex_7cf53_0 : decode cJ15_checkIndex_7cf53 0 = .ok (.iload_n 0, 1) := by decide +kernel
theorem dJ15_checkIndex_7cf53_1 : decode cJ15_checkIndex_7cf53 1 = .ok (.iload_n 1, 1) := by decide +kernel
theorem dJ15_checkIndex_7cf53_2 : decode cJ15_checkIndex_7cf53 2 = .ok (.aconst_null, 1) := by decide +kernel
theorem dJ15_checkIndex_7cf53_3 : decode cJ15_checkIndex_7cf53 3 = .ok (.invokestatic 105, 3) := by decide +kernel
theorem dJ15_checkIndex_7cf53_6 : decode cJ15_checkIndex_7cf53 6 = .ok (.ireturn, 1) := by decide +kernel
theorem dJ8_newLength_cabcc_0 : decode cJ8_newLength_cabcc 0 = .ok (.iload_n 0, 1) := by decide +kernel
theorem dJ8_newLength_cabcc_1 : decode cJ8_newLength_cabcc 1 = .ok (.iload_n 1, 1) := by decide +kernel
theorem dJ8_newLength_cabcc_2 : decode cJ8_newLength_cabcc 2 = .ok (.iload_n 2, 1) := by decide +kernel
theorem dJ8_newLength_cabcc_3 : decode cJ8_newLength_cabcc 3 = .ok (.invokestatic 194, 3) := by decide +kernel
theorem dJ8_newLength_cabcc_6 : decode cJ8_newLength_cabcc 6 = .ok (.iadd, 1) := by decide +kernel
theorem dJ8_newLength_cabcc_7 : decode cJ8_newLength_cabcc 7 = .ok (.istore_n 3, 1) := by decide +kernel
theorem dJ8_newLength_cabcc_8 : decode cJ8_newLength_cabcc 8 = .ok (.iconst 0, 1) := by decide +kernel
theorem dJ8_newLength_cabcc_9 : decode cJ8_newLength_cabcc 9 = .ok (.iload_n 3, 1) := by decide +kernel
theorem dJ8_newLength_cabcc_10 : decode cJ8_newLength_cabcc 10 = .ok (.if_icmp .ge 11, 3) := by decide +kernel
theorem dJ8_newLength_cabcc_13 : decode cJ8_newLength_cabcc 13 = .ok (.iload_n 3, 1) := by decide +kernel
theorem dJ8_newLength_cabcc_14 : decode cJ8_newLength_cabcc 14 = .ok (.ldc 200, 2) := by decide +kernel
theorem dJ8_newLength_cabcc_16 : decode cJ8_newLength_cabcc 16 = .ok (.if_icmp .gt 5, 3) := by decide +kernel
theorem dJ8_newLength_cabcc_19 : decode cJ8_newLength_cabcc 19 = .ok (.iload_n 3, 1) := by decide +kernel
theorem dJ8_newLength_cabcc_20 : decode cJ8_newLength_cabcc 20 = .ok (.ireturn, 1) := by decide +kernel
theorem dJ8_newLength_cabcc_21 : decode cJ8_newLength_cabcc 21 = .ok (.iload_n 0, 1) := by decide +kernel
theorem dJ8_newLength_cabcc_22 : decode cJ8_newLength_cabcc 22 = .ok (.iload_n 1, 1) := by decide +kernel
theorem dJ8_newLength_cabcc_23 : decode cJ8_newLength_cabcc 23 = .ok (.invokestatic 201, 3) := by decide +kernel
theorem dJ8_newLength_cabcc_26 : decode cJ8_newLength_cabcc 26 = .ok (.ireturn, 1) := by decide +kernel
theorem dJ8_hugeLength_7cf53_0 : decode cJ8_hugeLength_7cf53 0 = .ok (.iload_n 0, 1) := by decide +kernel
theorem dJ8_hugeLength_7cf53_1 : decode cJ8_hugeLength_7cf53 1 = .ok (.iload_n 1, 1) := by decide +kernel
theorem dJ8_hugeLength_7cf53_2 : decode cJ8_hugeLength_7cf53 2 = .ok (.iadd, 1) := by decide +kernel
theorem dJ8_hugeLength_7cf53_3 : decode cJ8_hugeLength_7cf53 3 = .ok (.istore_n 2, 1) := by decide +kernel
theorem dJ8_hugeLength_7cf53_4 : decode cJ8_hugeLength_7cf53 4 = .ok (.iload_n 2, 1) := by decide +kernel
theorem dJ8_hugeLength_7cf53_5 : decode cJ8_hugeLength_7cf53 5 = .ok (.ifCond .ge 44, 3) := by decide +kernel
theorem dJ8_hugeLength_7cf53_8 : decode cJ8_hugeLength_7cf53 8 = .ok (.new 204, 3) := by decide +kernel
theorem dJ8_hugeLength_7cf53_11 : decode cJ8_hugeLength_7cf53 11 = .ok (.dup, 1) := by decide +kernel
theorem dJ8_hugeLength_7cf53_12 : decode cJ8_hugeLength_7cf53 12 = .ok (.new 89, 3) := by decide +kernel
theorem dJ8_hugeLength_7cf53_15 : decode cJ8_hugeLength_7cf53 15 = .ok (.dup, 1) := by decide +kernel
theorem dJ8_hugeLength_7cf53_16 : decode cJ8_hugeLength_7cf53 16 = .ok (.invokespecial 91, 3) := by decide +kernel
theorem dJ8_hugeLength_7cf53_19 : decode cJ8_hugeLength_7cf53 19 = .ok (.ldc 206, 2) := by decide +kernel
theorem dJ8_hugeLength_7cf53_21 : decode cJ8_hugeLength_7cf53 21 = .ok (.invokevirtual 94, 3) := by decide +kernel
theorem dJ8_hugeLength_7cf53_24 : decode cJ8_hugeLength_7cf53 24 = .ok (.iload_n 0, 1) := by decide +kernel
theorem dJ8_hugeLength_7cf53_25 : decode cJ8_hugeLength_7cf53 25 = .ok (.invokevirtual 98, 3) := by decide +kernel
theorem dJ8_hugeLength_7cf53_28 : decode cJ8_hugeLength_7cf53 28 = .ok (.ldc 208, 2) := by decide +kernel
theorem dJ8_hugeLength_7cf53_30 : decode cJ8_hugeLength_7cf53 30 = .ok (.invokevirtual 94, 3) := by decide +kernel
theorem dJ8_hugeLength_7cf53_33 : decode cJ8_hugeLength_7cf53 33 = .ok (.iload_n 1, 1) := by decide +kernel
theorem dJ8_hugeLength_7cf53_34 : decode cJ8_hugeLength_7cf53 34 = .ok (.invokevirtual 98, 3) := by decide +kernel
theorem dJ8_hugeLength_7cf53_37 : decode cJ8_hugeLength_7cf53 37 = .ok (.ldc 210, 2) := by decide +kernel
theorem dJ8_hugeLength_7cf53_39 : decode cJ8_hugeLength_7cf53 39 = .ok (.invokevirtual 94, 3) := by decide +kernel
theorem dJ8_hugeLength_7cf53_42 : decode cJ8_hugeLength_7cf53 42 = .ok (.invokevirtual 101, 3) := by decide +kernel
theorem dJ8_hugeLength_7cf53_45 : decode cJ8_hugeLength_7cf53 45 = .ok (.invokespecial 212, 3) := by decide +kernel
theorem dJ8_hugeLength_7cf53_48 : decode cJ8_hugeLength_7cf53 48 = .ok (.athrow, 1) := by decide +kernel
theorem dJ8_hugeLength_7cf53_49 : decode cJ8_hugeLength_7cf53 49 = .ok (.iload_n 2, 1) := by decide +kernel
theorem dJ8_hugeLength_7cf53_50 : decode cJ8_hugeLength_7cf53 50 = .ok (.ldc 200, 2) := by decide +kernel
theorem dJ8_hugeLength_7cf53_52 : decode cJ8_hugeLength_7cf53 52 = .ok (.if_icmp .gt 6, 3) := by decide +kernel
theorem dJ8_hugeLength_7cf53_55 : decode cJ8_hugeLength_7cf53 55 = .ok (.ldc 200, 2) := by decide +kernel
theorem dJ8_hugeLength_7cf53_57 : decode cJ8_hugeLength_7cf53 57 = .ok (.ireturn, 1) := by decide +kernel
theorem dJ8_hugeLength_7cf53_58 : decode cJ8_hugeLength_7cf53 58 = .ok (.iload_n 2, 1) := by decide +kernel
theorem dJ8_hugeLength_7cf53_59 : decode cJ8_hugeLength_7cf53 59 = .ok (.ireturn, 1) := by decide +kernel
theorem dJ3_checkIndex_8e157_0 : decode cJ3_checkIndex_8e157 0 = .ok (.iload_n 0, 1) := by decide +kernel
theorem dJ3_checkIndex_8e157_1 : decode cJ3_checkIndex_8e157 1 = .ok (.ifCond .lt 8, 3) := by decide +kernel
theorem dJ3_checkIndex_8e157_4 : decode cJ3_checkIndex_8e157 4 = .ok (.iload_n 0, 1) := by decide +kernel
theorem dJ3_checkIndex_8e157_5 : decode cJ3_checkIndex_8e157 5 = .ok (.iload_n 1, 1) := by decide +kernel
theorem dJ3_checkIndex_8e157_6 : decode cJ3_checkIndex_8e157 6 = .ok (.if_icmp .lt 10, 3) := by decide +kernel
theorem dJ3_checkIndex_8e157_9 : decode cJ3_checkIndex_8e157 9 = .ok (.aload_n 2, 1) := by decide +kernel
theorem dJ3_checkIndex_8e157_10 : decode cJ3_checkIndex_8e157 10 = .ok (.iload_n 0, 1) := by decide +kernel
theorem dJ3_checkIndex_8e157_11 : decode cJ3_checkIndex_8e157 11 = .ok (.iload_n 1, 1) := by decide +kernel
theorem dJ3_checkIndex_8e157_12 : decode cJ3_checkIndex_8e157 12 = .ok (.invokestatic 95, 3) := by decide +kernel
theorem dJ3_checkIndex_8e157_15 : decode cJ3_checkIndex_8e157 15 = .ok (.athrow, 1) := by decide +kernel
theorem dJ3_checkIndex_8e157_16 : decode cJ3_checkIndex_8e157 16 = .ok (.iload_n 0, 1) := by decide +kernel
theorem dJ3_checkIndex_8e157_17 : decode cJ3_checkIndex_8e157 17 = .ok (.ireturn, 1) := by decide +kernel
theorem dL_source_0 : decode cL_source 0 = .ok (.aload_n 3, 1) := by decide +kernel
theorem dL_source_1 : decode cL_source 1 = .ok (.iconst 0, 1) := by decide +kernel
theorem dL_source_2 : decode cL_source 2 = .ok (.aload_n 0, 1) := by decide +kernel
theorem dL_source_3 : decode cL_source 3 = .ok (.iload_n 1, 1) := by decide +kernel
theorem dL_source_4 : decode cL_source 4 = .ok (.iload_n 2, 1) := by decide +kernel
theorem dL_source_5 : decode cL_source 5 = .ok (.invokevirtual 7, 3) := by decide +kernel
theorem dL_source_8 : decode cL_source 8 = .ok (.i2l, 1) := by decide +kernel
theorem dL_source_9 : decode cL_source 9 = .ok (.lastore, 1) := by decide +kernel
theorem dL_source_10 : decode cL_source 10 = .ok (.goto 15, 3) := by decide +kernel
theorem dL_source_13 : decode cL_source 13 = .ok (.astore 4, 2) := by decide +kernel
theorem dL_source_15 : decode cL_source 15 = .ok (.iconst 1, 1) := by decide +kernel
theorem dL_source_16 : decode cL_source 16 = .ok (.ireturn, 1) := by decide +kernel
theorem dL_source_17 : decode cL_source 17 = .ok (.astore 4, 2) := by decide +kernel
theorem dL_source_19 : decode cL_source 19 = .ok (.iconst 2, 1) := by decide +kernel
theorem dL_source_20 : decode cL_source 20 = .ok (.ireturn, 1) := by decide +kernel
theorem dL_source_21 : decode cL_source 21 = .ok (.astore 4, 2) := by decide +kernel
theorem dL_source_23 : decode cL_source 23 = .ok (.iconst 3, 1) := by decide +kernel
theorem dL_source_24 : decode cL_source 24 = .ok (.ireturn, 1) := by decide +kernel
theorem dL_source_25 : decode cL_source 25 = .ok (.iconst 0, 1) := by decide +kernel
theorem dL_source_26 : decode cL_source 26 = .ok (.ireturn, 1) := by decide +kernel
theorem dL_story_0 : decode cL_story 0 = .ok (.aload_n 1, 1) := by decide +kernel
theorem dL_story_1 : decode cL_story 1 = .ok (.iconst 0, 1) := by decide +kernel
theorem dL_story_2 : decode cL_story 2 = .ok (.aload_n 0, 1) := by decide +kernel
theorem dL_story_3 : decode cL_story 3 = .ok (.invokevirtual 19, 3) := by decide +kernel
theorem dL_story_6 : decode cL_story 6 = .ok (.i2l, 1) := by decide +kernel
theorem dL_story_7 : decode cL_story 7 = .ok (.lastore, 1) := by decide +kernel
theorem dL_story_8 : decode cL_story 8 = .ok (.goto 6, 3) := by decide +kernel
theorem dL_story_11 : decode cL_story 11 = .ok (.astore_n 2, 1) := by decide +kernel
theorem dL_story_12 : decode cL_story 12 = .ok (.iconst 1, 1) := by decide +kernel
theorem dL_story_13 : decode cL_story 13 = .ok (.ireturn, 1) := by decide +kernel
theorem dL_story_14 : decode cL_story 14 = .ok (.iconst 0, 1) := by decide +kernel
theorem dL_story_15 : decode cL_story 15 = .ok (.ireturn, 1) := by decide +kernel
theorem dL_line_0 : decode cL_line 0 = .ok (.aload_n 3, 1) := by decide +kernel
theorem dL_line_1 : decode cL_line 1 = .ok (.iconst 0, 1) := by decide +kernel
theorem dL_line_2 : decode cL_line 2 = .ok (.aload_n 0, 1) := by decide +kernel
theorem dL_line_3 : decode cL_line 3 = .ok (.iload_n 1, 1) := by decide +kernel
theorem dL_line_4 : decode cL_line 4 = .ok (.iload_n 2, 1) := by decide +kernel
theorem dL_line_5 : decode cL_line 5 = .ok (.invokevirtual 23, 3) := by decide +kernel
theorem dL_line_8 : decode cL_line 8 = .ok (.i2l, 1) := by decide +kernel
theorem dL_line_9 : decode cL_line 9 = .ok (.lastore, 1) := by decide +kernel
theorem dL_line_10 : decode cL_line 10 = .ok (.goto 11, 3) := by decide +kernel
theorem dL_line_13 : decode cL_line 13 = .ok (.astore 4, 2) := by decide +kernel
theorem dL_line_15 : decode cL_line 15 = .ok (.iconst 1, 1) := by decide +kernel
theorem dL_line_16 : decode cL_line 16 = .ok (.ireturn, 1) := by decide +kernel
theorem dL_line_17 : decode cL_line 17 = .ok (.astore 4, 2) := by decide +kernel
theorem dL_line_19 : decode cL_line 19 = .ok (.iconst 2, 1) := by decide +kernel
theorem dL_line_20 : decode cL_line 20 = .ok (.ireturn, 1) := by decide +kernel
theorem dL_line_21 : decode cL_line 21 = .ok (.iconst 0, 1) := by decide +kernel
theorem dL_line_22 : decode cL_line 22 = .ok (.ireturn, 1) := by decide +kernel
theorem dL_report_0 : decode cL_report 0 = .ok (.aload 5, 2) := by decide +kernel
theorem dL_report_2 : decode cL_report 2 = .ok (.iconst 0, 1) := by decide +kernel
theorem dL_report_3 : decode cL_report 3 = .ok (.aload_n 0, 1) := by decide +kernel
theorem dL_report_4 : decode cL_report 4 = .ok (.iload_n 1, 1) := by decide +kernel
theorem dL_report_5 : decode cL_report 5 = .ok (.iload_n 2, 1) := by decide +kernel
theorem dL_report_6 : decode cL_report 6 = .ok (.iload_n 3, 1) := by decide +kernel
theorem dL_report_7 : decode cL_report 7 = .ok (.iload 4, 2) := by decide +kernel
theorem dL_report_9 : decode cL_report 9 = .ok (.invokevirtual 26, 3) := by decide +kernel
theorem dL_report_12 : decode cL_report 12 = .ok (.i2l, 1) := by decide +kernel
theorem dL_report_13 : decode cL_report 13 = .ok (.lastore, 1) := by decide +kernel
theorem dL_report_14 : decode cL_report 14 = .ok (.goto 11, 3) := by decide +kernel
theorem dL_report_17 : decode cL_report 17 = .ok (.astore 6, 2) := by decide +kernel
theorem dL_report_19 : decode cL_report 19 = .ok (.iconst 1, 1) := by decide +kernel
theorem dL_report_20 : decode cL_report 20 = .ok (.ireturn, 1) := by decide +kernel
theorem dL_report_21 : decode cL_report 21 = .ok (.astore 6, 2) := by decide +kernel
theorem dL_report_23 : decode cL_report 23 = .ok (.iconst 2, 1) := by decide +kernel
theorem dL_report_24 : decode cL_report 24 = .ok (.ireturn, 1) := by decide +kernel
theorem dL_report_25 : decode cL_report 25 = .ok (.iconst 0, 1) := by decide +kernel
theorem dL_report_26 : decode cL_report 26 = .ok (.ireturn, 1) := by decide +kernel
theorem dL_retract_0 : decode cL_retract 0 = .ok (.aload 4, 2) := by decide +kernel
theorem dL_retract_2 : decode cL_retract 2 = .ok (.iconst 0, 1) := by decide +kernel
theorem dL_retract_3 : decode cL_retract 3 = .ok (.aload_n 0, 1) := by decide +kernel
theorem dL_retract_4 : decode cL_retract 4 = .ok (.iload_n 1, 1) := by decide +kernel
theorem dL_retract_5 : decode cL_retract 5 = .ok (.iload_n 2, 1) := by decide +kernel
theorem dL_retract_6 : decode cL_retract 6 = .ok (.iload_n 3, 1) := by decide +kernel
theorem dL_retract_7 : decode cL_retract 7 = .ok (.invokevirtual 30, 3) := by decide +kernel
theorem dL_retract_10 : decode cL_retract 10 = .ok (.i2l, 1) := by decide +kernel
theorem dL_retract_11 : decode cL_retract 11 = .ok (.lastore, 1) := by decide +kernel
theorem dL_retract_12 : decode cL_retract 12 = .ok (.goto 11, 3) := by decide +kernel
theorem dL_retract_15 : decode cL_retract 15 = .ok (.astore 5, 2) := by decide +kernel
theorem dL_retract_17 : decode cL_retract 17 = .ok (.iconst 1, 1) := by decide +kernel
theorem dL_retract_18 : decode cL_retract 18 = .ok (.ireturn, 1) := by decide +kernel
theorem dL_retract_19 : decode cL_retract 19 = .ok (.astore 5, 2) := by decide +kernel
theorem dL_retract_21 : decode cL_retract 21 = .ok (.iconst 2, 1) := by decide +kernel
theorem dL_retract_22 : decode cL_retract 22 = .ok (.ireturn, 1) := by decide +kernel
theorem dL_retract_23 : decode cL_retract 23 = .ok (.iconst 0, 1) := by decide +kernel
theorem dL_retract_24 : decode cL_retract 24 = .ok (.ireturn, 1) := by decide +kernel
theorem dL_rival_0 : decode cL_rival 0 = .ok (.aload_n 3, 1) := by decide +kernel
theorem dL_rival_1 : decode cL_rival 1 = .ok (.iconst 0, 1) := by decide +kernel
theorem dL_rival_2 : decode cL_rival 2 = .ok (.aload_n 0, 1) := by decide +kernel
theorem dL_rival_3 : decode cL_rival 3 = .ok (.iload_n 1, 1) := by decide +kernel
theorem dL_rival_4 : decode cL_rival 4 = .ok (.iload_n 2, 1) := by decide +kernel
theorem dL_rival_5 : decode cL_rival 5 = .ok (.invokevirtual 34, 3) := by decide +kernel
theorem dL_rival_8 : decode cL_rival 8 = .ok (.ifCond .eq 7, 3) := by decide +kernel
theorem dL_rival_11 : decode cL_rival 11 = .ok (.lconst 1, 1) := by decide +kernel
theorem dL_rival_12 : decode cL_rival 12 = .ok (.goto 4, 3) := by decide +kernel
theorem dL_rival_15 : decode cL_rival 15 = .ok (.lconst 0, 1) := by decide +kernel
theorem dL_rival_16 : decode cL_rival 16 = .ok (.lastore, 1) := by decide +kernel
theorem dL_rival_17 : decode cL_rival 17 = .ok (.goto 7, 3) := by decide +kernel
theorem dL_rival_20 : decode cL_rival 20 = .ok (.astore 4, 2) := by decide +kernel
theorem dL_rival_22 : decode cL_rival 22 = .ok (.iconst 1, 1) := by decide +kernel
theorem dL_rival_23 : decode cL_rival 23 = .ok (.ireturn, 1) := by decide +kernel
theorem dL_rival_24 : decode cL_rival 24 = .ok (.iconst 0, 1) := by decide +kernel
theorem dL_rival_25 : decode cL_rival 25 = .ok (.ireturn, 1) := by decide +kernel
theorem dL_down_0 : decode cL_down 0 = .ok (.aload_n 3, 1) := by decide +kernel
theorem dL_down_1 : decode cL_down 1 = .ok (.iconst 0, 1) := by decide +kernel
theorem dL_down_2 : decode cL_down 2 = .ok (.aload_n 0, 1) := by decide +kernel
theorem dL_down_3 : decode cL_down 3 = .ok (.iload_n 1, 1) := by decide +kernel
theorem dL_down_4 : decode cL_down 4 = .ok (.iload_n 2, 1) := by decide +kernel
theorem dL_down_5 : decode cL_down 5 = .ok (.invokevirtual 38, 3) := by decide +kernel
theorem dL_down_8 : decode cL_down 8 = .ok (.i2l, 1) := by decide +kernel
theorem dL_down_9 : decode cL_down 9 = .ok (.lastore, 1) := by decide +kernel
theorem dL_down_10 : decode cL_down 10 = .ok (.goto 11, 3) := by decide +kernel
theorem dL_down_13 : decode cL_down 13 = .ok (.astore 4, 2) := by decide +kernel
theorem dL_down_15 : decode cL_down 15 = .ok (.iconst 1, 1) := by decide +kernel
theorem dL_down_16 : decode cL_down 16 = .ok (.ireturn, 1) := by decide +kernel
theorem dL_down_17 : decode cL_down 17 = .ok (.astore 4, 2) := by decide +kernel
theorem dL_down_19 : decode cL_down 19 = .ok (.iconst 2, 1) := by decide +kernel
theorem dL_down_20 : decode cL_down 20 = .ok (.ireturn, 1) := by decide +kernel
theorem dL_down_21 : decode cL_down 21 = .ok (.iconst 0, 1) := by decide +kernel
theorem dL_down_22 : decode cL_down 22 = .ok (.ireturn, 1) := by decide +kernel
theorem dL_file_0 : decode cL_file 0 = .ok (.aload 6, 2) := by decide +kernel
theorem dL_file_2 : decode cL_file 2 = .ok (.iconst 0, 1) := by decide +kernel
theorem dL_file_3 : decode cL_file 3 = .ok (.aload_n 0, 1) := by decide +kernel
theorem dL_file_4 : decode cL_file 4 = .ok (.iload_n 1, 1) := by decide +kernel
theorem dL_file_5 : decode cL_file 5 = .ok (.iload_n 2, 1) := by decide +kernel
theorem dL_file_6 : decode cL_file 6 = .ok (.iload_n 3, 1) := by decide +kernel
theorem dL_file_7 : decode cL_file 7 = .ok (.iload 4, 2) := by decide +kernel
theorem dL_file_9 : decode cL_file 9 = .ok (.iload 5, 2) := by decide +kernel
theorem dL_file_11 : decode cL_file 11 = .ok (.invokevirtual 41, 3) := by decide +kernel
theorem dL_file_14 : decode cL_file 14 = .ok (.i2l, 1) := by decide +kernel
theorem dL_file_15 : decode cL_file 15 = .ok (.lastore, 1) := by decide +kernel
theorem dL_file_16 : decode cL_file 16 = .ok (.goto 15, 3) := by decide +kernel
theorem dL_file_19 : decode cL_file 19 = .ok (.astore 7, 2) := by decide +kernel
theorem dL_file_21 : decode cL_file 21 = .ok (.iconst 1, 1) := by decide +kernel
theorem dL_file_22 : decode cL_file 22 = .ok (.ireturn, 1) := by decide +kernel
theorem dL_file_23 : decode cL_file 23 = .ok (.astore 7, 2) := by decide +kernel
theorem dL_file_25 : decode cL_file 25 = .ok (.iconst 2, 1) := by decide +kernel
theorem dL_file_26 : decode cL_file 26 = .ok (.ireturn, 1) := by decide +kernel
theorem dL_file_27 : decode cL_file 27 = .ok (.astore 7, 2) := by decide +kernel
theorem dL_file_29 : decode cL_file 29 = .ok (.iconst 3, 1) := by decide +kernel
theorem dL_file_30 : decode cL_file 30 = .ok (.ireturn, 1) := by decide +kernel
theorem dL_file_31 : decode cL_file 31 = .ok (.iconst 0, 1) := by decide +kernel
theorem dL_file_32 : decode cL_file 32 = .ok (.ireturn, 1) := by decide +kernel
theorem dL_correct_0 : decode cL_correct 0 = .ok (.aload_n 3, 1) := by decide +kernel
theorem dL_correct_1 : decode cL_correct 1 = .ok (.iconst 0, 1) := by decide +kernel
theorem dL_correct_2 : decode cL_correct 2 = .ok (.aload_n 0, 1) := by decide +kernel
theorem dL_correct_3 : decode cL_correct 3 = .ok (.iload_n 1, 1) := by decide +kernel
theorem dL_correct_4 : decode cL_correct 4 = .ok (.iload_n 2, 1) := by decide +kernel
theorem dL_correct_5 : decode cL_correct 5 = .ok (.invokevirtual 45, 3) := by decide +kernel
theorem dL_correct_8 : decode cL_correct 8 = .ok (.i2l, 1) := by decide +kernel
theorem dL_correct_9 : decode cL_correct 9 = .ok (.lastore, 1) := by decide +kernel
theorem dL_correct_10 : decode cL_correct 10 = .ok (.goto 15, 3) := by decide +kernel
theorem dL_correct_13 : decode cL_correct 13 = .ok (.astore 4, 2) := by decide +kernel
theorem dL_correct_15 : decode cL_correct 15 = .ok (.iconst 1, 1) := by decide +kernel
theorem dL_correct_16 : decode cL_correct 16 = .ok (.ireturn, 1) := by decide +kernel
theorem dL_correct_17 : decode cL_correct 17 = .ok (.astore 4, 2) := by decide +kernel
theorem dL_correct_19 : decode cL_correct 19 = .ok (.iconst 2, 1) := by decide +kernel
theorem dL_correct_20 : decode cL_correct 20 = .ok (.ireturn, 1) := by decide +kernel
theorem dL_correct_21 : decode cL_correct 21 = .ok (.astore 4, 2) := by decide +kernel
theorem dL_correct_23 : decode cL_correct 23 = .ok (.iconst 3, 1) := by decide +kernel
theorem dL_correct_24 : decode cL_correct 24 = .ok (.ireturn, 1) := by decide +kernel
theorem dL_correct_25 : decode cL_correct 25 = .ok (.iconst 0, 1) := by decide +kernel
theorem dL_correct_26 : decode cL_correct 26 = .ok (.ireturn, 1) := by decide +kernel
theorem dL_kill_0 : decode cL_kill 0 = .ok (.aload_n 2, 1) := by decide +kernel
theorem dL_kill_1 : decode cL_kill 1 = .ok (.iconst 0, 1) := by decide +kernel
theorem dL_kill_2 : decode cL_kill 2 = .ok (.aload_n 0, 1) := by decide +kernel
theorem dL_kill_3 : decode cL_kill 3 = .ok (.iload_n 1, 1) := by decide +kernel
theorem dL_kill_4 : decode cL_kill 4 = .ok (.invokevirtual 48, 3) := by decide +kernel
theorem dL_kill_7 : decode cL_kill 7 = .ok (.i2l, 1) := by decide +kernel
theorem dL_kill_8 : decode cL_kill 8 = .ok (.lastore, 1) := by decide +kernel
theorem dL_kill_9 : decode cL_kill 9 = .ok (.goto 9, 3) := by decide +kernel
theorem dL_kill_12 : decode cL_kill 12 = .ok (.astore_n 3, 1) := by decide +kernel
theorem dL_kill_13 : decode cL_kill 13 = .ok (.iconst 1, 1) := by decide +kernel
theorem dL_kill_14 : decode cL_kill 14 = .ok (.ireturn, 1) := by decide +kernel
theorem dL_kill_15 : decode cL_kill 15 = .ok (.astore_n 3, 1) := by decide +kernel
theorem dL_kill_16 : decode cL_kill 16 = .ok (.iconst 2, 1) := by decide +kernel
theorem dL_kill_17 : decode cL_kill 17 = .ok (.ireturn, 1) := by decide +kernel
theorem dL_kill_18 : decode cL_kill 18 = .ok (.iconst 0, 1) := by decide +kernel
theorem dL_kill_19 : decode cL_kill 19 = .ok (.ireturn, 1) := by decide +kernel
theorem dL_pass_0 : decode cL_pass 0 = .ok (.aload_n 2, 1) := by decide +kernel
theorem dL_pass_1 : decode cL_pass 1 = .ok (.iconst 0, 1) := by decide +kernel
theorem dL_pass_2 : decode cL_pass 2 = .ok (.aload_n 0, 1) := by decide +kernel
theorem dL_pass_3 : decode cL_pass 3 = .ok (.iload_n 1, 1) := by decide +kernel
theorem dL_pass_4 : decode cL_pass 4 = .ok (.invokevirtual 52, 3) := by decide +kernel
theorem dL_pass_7 : decode cL_pass 7 = .ok (.i2l, 1) := by decide +kernel
theorem dL_pass_8 : decode cL_pass 8 = .ok (.lastore, 1) := by decide +kernel
theorem dL_pass_9 : decode cL_pass 9 = .ok (.goto 9, 3) := by decide +kernel
theorem dL_pass_12 : decode cL_pass 12 = .ok (.astore_n 3, 1) := by decide +kernel
theorem dL_pass_13 : decode cL_pass 13 = .ok (.iconst 1, 1) := by decide +kernel
theorem dL_pass_14 : decode cL_pass 14 = .ok (.ireturn, 1) := by decide +kernel
theorem dL_pass_15 : decode cL_pass 15 = .ok (.astore_n 3, 1) := by decide +kernel
theorem dL_pass_16 : decode cL_pass 16 = .ok (.iconst 2, 1) := by decide +kernel
theorem dL_pass_17 : decode cL_pass 17 = .ok (.ireturn, 1) := by decide +kernel
theorem dL_pass_18 : decode cL_pass 18 = .ok (.iconst 0, 1) := by decide +kernel
theorem dL_pass_19 : decode cL_pass 19 = .ok (.ireturn, 1) := by decide +kernel
theorem dL_areIndependent_0 : decode cL_areIndependent 0 = .ok (.aload_n 3, 1) := by decide +kernel
theorem dL_areIndependent_1 : decode cL_areIndependent 1 = .ok (.iconst 0, 1) := by decide +kernel
theorem dL_areIndependent_2 : decode cL_areIndependent 2 = .ok (.aload_n 0, 1) := by decide +kernel
theorem dL_areIndependent_3 : decode cL_areIndependent 3 = .ok (.iload_n 1, 1) := by decide +kernel
theorem dL_areIndependent_4 : decode cL_areIndependent 4 = .ok (.iload_n 2, 1) := by decide +kernel
theorem dL_areIndependent_5 : decode cL_areIndependent 5 = .ok (.invokevirtual 55, 3) := by decide +kernel
theorem dL_areIndependent_8 : decode cL_areIndependent 8 = .ok (.ifCond .eq 7, 3) := by decide +kernel
theorem dL_areIndependent_11 : decode cL_areIndependent 11 = .ok (.lconst 1, 1) := by decide +kernel
theorem dL_areIndependent_12 : decode cL_areIndependent 12 = .ok (.goto 4, 3) := by decide +kernel
theorem dL_areIndependent_15 : decode cL_areIndependent 15 = .ok (.lconst 0, 1) := by decide +kernel
theorem dL_areIndependent_16 : decode cL_areIndependent 16 = .ok (.lastore, 1) := by decide +kernel
theorem dL_areIndependent_17 : decode cL_areIndependent 17 = .ok (.goto 7, 3) := by decide +kernel
theorem dL_areIndependent_20 : decode cL_areIndependent 20 = .ok (.astore 4, 2) := by decide +kernel
theorem dL_areIndependent_22 : decode cL_areIndependent 22 = .ok (.iconst 1, 1) := by decide +kernel
theorem dL_areIndependent_23 : decode cL_areIndependent 23 = .ok (.ireturn, 1) := by decide +kernel
theorem dL_areIndependent_24 : decode cL_areIndependent 24 = .ok (.iconst 0, 1) := by decide +kernel
theorem dL_areIndependent_25 : decode cL_areIndependent 25 = .ok (.ireturn, 1) := by decide +kernel
theorem dL_ofFact_0 : decode cL_ofFact 0 = .ok (.aload 4, 2) := by decide +kernel
theorem dL_ofFact_2 : decode cL_ofFact 2 = .ok (.iconst 0, 1) := by decide +kernel
theorem dL_ofFact_3 : decode cL_ofFact 3 = .ok (.aload_n 0, 1) := by decide +kernel
theorem dL_ofFact_4 : decode cL_ofFact 4 = .ok (.iload_n 1, 1) := by decide +kernel
theorem dL_ofFact_5 : decode cL_ofFact 5 = .ok (.iload_n 2, 1) := by decide +kernel
theorem dL_ofFact_6 : decode cL_ofFact 6 = .ok (.iload_n 3, 1) := by decide +kernel
theorem dL_ofFact_7 : decode cL_ofFact 7 = .ok (.invokevirtual 58, 3) := by decide +kernel
theorem dL_ofFact_10 : decode cL_ofFact 10 = .ok (.i2l, 1) := by decide +kernel
theorem dL_ofFact_11 : decode cL_ofFact 11 = .ok (.lastore, 1) := by decide +kernel
theorem dL_ofFact_12 : decode cL_ofFact 12 = .ok (.goto 11, 3) := by decide +kernel
theorem dL_ofFact_15 : decode cL_ofFact 15 = .ok (.astore 5, 2) := by decide +kernel
theorem dL_ofFact_17 : decode cL_ofFact 17 = .ok (.iconst 1, 1) := by decide +kernel
theorem dL_ofFact_18 : decode cL_ofFact 18 = .ok (.ireturn, 1) := by decide +kernel
theorem dL_ofFact_19 : decode cL_ofFact 19 = .ok (.astore 5, 2) := by decide +kernel
theorem dL_ofFact_21 : decode cL_ofFact 21 = .ok (.iconst 2, 1) := by decide +kernel
theorem dL_ofFact_22 : decode cL_ofFact 22 = .ok (.ireturn, 1) := by decide +kernel
theorem dL_ofFact_23 : decode cL_ofFact 23 = .ok (.iconst 0, 1) := by decide +kernel
theorem dL_ofFact_24 : decode cL_ofFact 24 = .ok (.ireturn, 1) := by decide +kernel
theorem dL_proof_0 : decode cL_proof 0 = .ok (.aload 5, 2) := by decide +kernel
theorem dL_proof_2 : decode cL_proof 2 = .ok (.iconst 0, 1) := by decide +kernel
theorem dL_proof_3 : decode cL_proof 3 = .ok (.aload_n 0, 1) := by decide +kernel
theorem dL_proof_4 : decode cL_proof 4 = .ok (.iload_n 1, 1) := by decide +kernel
theorem dL_proof_5 : decode cL_proof 5 = .ok (.iload_n 2, 1) := by decide +kernel
theorem dL_proof_6 : decode cL_proof 6 = .ok (.iload_n 3, 1) := by decide +kernel
theorem dL_proof_7 : decode cL_proof 7 = .ok (.iload 4, 2) := by decide +kernel
theorem dL_proof_9 : decode cL_proof 9 = .ok (.invokevirtual 61, 3) := by decide +kernel
theorem dL_proof_12 : decode cL_proof 12 = .ok (.i2l, 1) := by decide +kernel
theorem dL_proof_13 : decode cL_proof 13 = .ok (.lastore, 1) := by decide +kernel
theorem dL_proof_14 : decode cL_proof 14 = .ok (.goto 11, 3) := by decide +kernel
theorem dL_proof_17 : decode cL_proof 17 = .ok (.astore 6, 2) := by decide +kernel
theorem dL_proof_19 : decode cL_proof 19 = .ok (.iconst 1, 1) := by decide +kernel
theorem dL_proof_20 : decode cL_proof 20 = .ok (.ireturn, 1) := by decide +kernel
theorem dL_proof_21 : decode cL_proof 21 = .ok (.astore 6, 2) := by decide +kernel
theorem dL_proof_23 : decode cL_proof 23 = .ok (.iconst 2, 1) := by decide +kernel
theorem dL_proof_24 : decode cL_proof 24 = .ok (.ireturn, 1) := by decide +kernel
theorem dL_proof_25 : decode cL_proof 25 = .ok (.iconst 0, 1) := by decide +kernel
theorem dL_proof_26 : decode cL_proof 26 = .ok (.ireturn, 1) := by decide +kernel
theorem dL_ofTake_0 : decode cL_ofTake 0 = .ok (.aload_n 3, 1) := by decide +kernel
theorem dL_ofTake_1 : decode cL_ofTake 1 = .ok (.iconst 0, 1) := by decide +kernel
theorem dL_ofTake_2 : decode cL_ofTake 2 = .ok (.aload_n 0, 1) := by decide +kernel
theorem dL_ofTake_3 : decode cL_ofTake 3 = .ok (.iload_n 1, 1) := by decide +kernel
theorem dL_ofTake_4 : decode cL_ofTake 4 = .ok (.iload_n 2, 1) := by decide +kernel
theorem dL_ofTake_5 : decode cL_ofTake 5 = .ok (.invokevirtual 65, 3) := by decide +kernel
theorem dL_ofTake_8 : decode cL_ofTake 8 = .ok (.i2l, 1) := by decide +kernel
theorem dL_ofTake_9 : decode cL_ofTake 9 = .ok (.lastore, 1) := by decide +kernel
theorem dL_ofTake_10 : decode cL_ofTake 10 = .ok (.goto 11, 3) := by decide +kernel
theorem dL_ofTake_13 : decode cL_ofTake 13 = .ok (.astore 4, 2) := by decide +kernel
theorem dL_ofTake_15 : decode cL_ofTake 15 = .ok (.iconst 1, 1) := by decide +kernel
theorem dL_ofTake_16 : decode cL_ofTake 16 = .ok (.ireturn, 1) := by decide +kernel
theorem dL_ofTake_17 : decode cL_ofTake 17 = .ok (.astore 4, 2) := by decide +kernel
theorem dL_ofTake_19 : decode cL_ofTake 19 = .ok (.iconst 2, 1) := by decide +kernel
theorem dL_ofTake_20 : decode cL_ofTake 20 = .ok (.ireturn, 1) := by decide +kernel
theorem dL_ofTake_21 : decode cL_ofTake 21 = .ok (.iconst 0, 1) := by decide +kernel
theorem dL_ofTake_22 : decode cL_ofTake 22 = .ok (.ireturn, 1) := by decide +kernel
theorem dL_says_0 : decode cL_says 0 = .ok (.aload_n 3, 1) := by decide +kernel
theorem dL_says_1 : decode cL_says 1 = .ok (.iconst 0, 1) := by decide +kernel
theorem dL_says_2 : decode cL_says 2 = .ok (.aload_n 0, 1) := by decide +kernel
theorem dL_says_3 : decode cL_says 3 = .ok (.iload_n 1, 1) := by decide +kernel
theorem dL_says_4 : decode cL_says 4 = .ok (.iload_n 2, 1) := by decide +kernel
theorem dL_says_5 : decode cL_says 5 = .ok (.invokevirtual 68, 3) := by decide +kernel
theorem dL_says_8 : decode cL_says 8 = .ok (.i2l, 1) := by decide +kernel
theorem dL_says_9 : decode cL_says 9 = .ok (.lastore, 1) := by decide +kernel
theorem dL_says_10 : decode cL_says 10 = .ok (.goto 7, 3) := by decide +kernel
theorem dL_says_13 : decode cL_says 13 = .ok (.astore 4, 2) := by decide +kernel
theorem dL_says_15 : decode cL_says 15 = .ok (.iconst 1, 1) := by decide +kernel
theorem dL_says_16 : decode cL_says 16 = .ok (.ireturn, 1) := by decide +kernel
theorem dL_says_17 : decode cL_says 17 = .ok (.iconst 0, 1) := by decide +kernel
theorem dL_says_18 : decode cL_says 18 = .ok (.ireturn, 1) := by decide +kernel
theorem dL_state_0 : decode cL_state 0 = .ok (.aload_n 3, 1) := by decide +kernel
theorem dL_state_1 : decode cL_state 1 = .ok (.iconst 0, 1) := by decide +kernel
theorem dL_state_2 : decode cL_state 2 = .ok (.aload_n 0, 1) := by decide +kernel
theorem dL_state_3 : decode cL_state 3 = .ok (.iload_n 1, 1) := by decide +kernel
theorem dL_state_4 : decode cL_state 4 = .ok (.iload_n 2, 1) := by decide +kernel
theorem dL_state_5 : decode cL_state 5 = .ok (.invokevirtual 71, 3) := by decide +kernel
theorem dL_state_8 : decode cL_state 8 = .ok (.i2l, 1) := by decide +kernel
theorem dL_state_9 : decode cL_state 9 = .ok (.lastore, 1) := by decide +kernel
theorem dL_state_10 : decode cL_state 10 = .ok (.goto 7, 3) := by decide +kernel
theorem dL_state_13 : decode cL_state 13 = .ok (.astore 4, 2) := by decide +kernel
theorem dL_state_15 : decode cL_state 15 = .ok (.iconst 1, 1) := by decide +kernel
theorem dL_state_16 : decode cL_state 16 = .ok (.ireturn, 1) := by decide +kernel
theorem dL_state_17 : decode cL_state 17 = .ok (.iconst 0, 1) := by decide +kernel
theorem dL_state_18 : decode cL_state 18 = .ok (.ireturn, 1) := by decide +kernel
theorem dL_tells_0 : decode cL_tells 0 = .ok (.aload 4, 2) := by decide +kernel
theorem dL_tells_2 : decode cL_tells 2 = .ok (.iconst 0, 1) := by decide +kernel
theorem dL_tells_3 : decode cL_tells 3 = .ok (.aload_n 0, 1) := by decide +kernel
theorem dL_tells_4 : decode cL_tells 4 = .ok (.iload_n 1, 1) := by decide +kernel
theorem dL_tells_5 : decode cL_tells 5 = .ok (.iload_n 2, 1) := by decide +kernel
theorem dL_tells_6 : decode cL_tells 6 = .ok (.iload_n 3, 1) := by decide +kernel
theorem dL_tells_7 : decode cL_tells 7 = .ok (.invokevirtual 74, 3) := by decide +kernel
theorem dL_tells_10 : decode cL_tells 10 = .ok (.i2l, 1) := by decide +kernel
theorem dL_tells_11 : decode cL_tells 11 = .ok (.lastore, 1) := by decide +kernel
theorem dL_tells_12 : decode cL_tells 12 = .ok (.goto 7, 3) := by decide +kernel
theorem dL_tells_15 : decode cL_tells 15 = .ok (.astore 5, 2) := by decide +kernel
theorem dL_tells_17 : decode cL_tells 17 = .ok (.iconst 1, 1) := by decide +kernel
theorem dL_tells_18 : decode cL_tells 18 = .ok (.ireturn, 1) := by decide +kernel
theorem dL_tells_19 : decode cL_tells 19 = .ok (.iconst 0, 1) := by decide +kernel
theorem dL_tells_20 : decode cL_tells 20 = .ok (.ireturn, 1) := by decide +kernel
theorem dL_ofLine_0 : decode cL_ofLine 0 = .ok (.aload_n 3, 1) := by decide +kernel
theorem dL_ofLine_1 : decode cL_ofLine 1 = .ok (.iconst 0, 1) := by decide +kernel
theorem dL_ofLine_2 : decode cL_ofLine 2 = .ok (.aload_n 0, 1) := by decide +kernel
theorem dL_ofLine_3 : decode cL_ofLine 3 = .ok (.iload_n 1, 1) := by decide +kernel
theorem dL_ofLine_4 : decode cL_ofLine 4 = .ok (.iload_n 2, 1) := by decide +kernel
theorem dL_ofLine_5 : decode cL_ofLine 5 = .ok (.invokevirtual 77, 3) := by decide +kernel
theorem dL_ofLine_8 : decode cL_ofLine 8 = .ok (.i2l, 1) := by decide +kernel
theorem dL_ofLine_9 : decode cL_ofLine 9 = .ok (.lastore, 1) := by decide +kernel
theorem dL_ofLine_10 : decode cL_ofLine 10 = .ok (.goto 11, 3) := by decide +kernel
theorem dL_ofLine_13 : decode cL_ofLine 13 = .ok (.astore 4, 2) := by decide +kernel
theorem dL_ofLine_15 : decode cL_ofLine 15 = .ok (.iconst 1, 1) := by decide +kernel
theorem dL_ofLine_16 : decode cL_ofLine 16 = .ok (.ireturn, 1) := by decide +kernel
theorem dL_ofLine_17 : decode cL_ofLine 17 = .ok (.astore 4, 2) := by decide +kernel
theorem dL_ofLine_19 : decode cL_ofLine 19 = .ok (.iconst 2, 1) := by decide +kernel
theorem dL_ofLine_20 : decode cL_ofLine 20 = .ok (.ireturn, 1) := by decide +kernel
theorem dL_ofLine_21 : decode cL_ofLine 21 = .ok (.iconst 0, 1) := by decide +kernel
theorem dL_ofLine_22 : decode cL_ofLine 22 = .ok (.ireturn, 1) := by decide +kernel
theorem dL_many_0 : decode cL_many 0 = .ok (.aload_n 2, 1) := by decide +kernel
theorem dL_many_1 : decode cL_many 1 = .ok (.iconst 0, 1) := by decide +kernel
theorem dL_many_2 : decode cL_many 2 = .ok (.aload_n 0, 1) := by decide +kernel
theorem dL_many_3 : decode cL_many 3 = .ok (.iload_n 1, 1) := by decide +kernel
theorem dL_many_4 : decode cL_many 4 = .ok (.invokevirtual 80, 3) := by decide +kernel
theorem dL_many_7 : decode cL_many 7 = .ok (.i2l, 1) := by decide +kernel
theorem dL_many_8 : decode cL_many 8 = .ok (.lastore, 1) := by decide +kernel
theorem dL_many_9 : decode cL_many 9 = .ok (.goto 6, 3) := by decide +kernel
theorem dL_many_12 : decode cL_many 12 = .ok (.astore_n 3, 1) := by decide +kernel
theorem dL_many_13 : decode cL_many 13 = .ok (.iconst 1, 1) := by decide +kernel
theorem dL_many_14 : decode cL_many 14 = .ok (.ireturn, 1) := by decide +kernel
theorem dL_many_15 : decode cL_many 15 = .ok (.iconst 0, 1) := by decide +kernel
theorem dL_many_16 : decode cL_many 16 = .ok (.ireturn, 1) := by decide +kernel
theorem dL_arrives_0 : decode cL_arrives 0 = .ok (.aload_n 3, 1) := by decide +kernel
theorem dL_arrives_1 : decode cL_arrives 1 = .ok (.iconst 0, 1) := by decide +kernel
theorem dL_arrives_2 : decode cL_arrives 2 = .ok (.aload_n 0, 1) := by decide +kernel
theorem dL_arrives_3 : decode cL_arrives 3 = .ok (.iload_n 1, 1) := by decide +kernel
theorem dL_arrives_4 : decode cL_arrives 4 = .ok (.iload_n 2, 1) := by decide +kernel
theorem dL_arrives_5 : decode cL_arrives 5 = .ok (.invokevirtual 83, 3) := by decide +kernel
theorem dL_arrives_8 : decode cL_arrives 8 = .ok (.i2l, 1) := by decide +kernel
theorem dL_arrives_9 : decode cL_arrives 9 = .ok (.lastore, 1) := by decide +kernel
theorem dL_arrives_10 : decode cL_arrives 10 = .ok (.goto 7, 3) := by decide +kernel
theorem dL_arrives_13 : decode cL_arrives 13 = .ok (.astore 4, 2) := by decide +kernel
theorem dL_arrives_15 : decode cL_arrives 15 = .ok (.iconst 1, 1) := by decide +kernel
theorem dL_arrives_16 : decode cL_arrives 16 = .ok (.ireturn, 1) := by decide +kernel
theorem dL_arrives_17 : decode cL_arrives 17 = .ok (.iconst 0, 1) := by decide +kernel
theorem dL_arrives_18 : decode cL_arrives 18 = .ok (.ireturn, 1) := by decide +kernel
theorem dL_wouldArrive_0 : decode cL_wouldArrive 0 = .ok (.aload 4, 2) := by decide +kernel
theorem dL_wouldArrive_2 : decode cL_wouldArrive 2 = .ok (.iconst 0, 1) := by decide +kernel
theorem dL_wouldArrive_3 : decode cL_wouldArrive 3 = .ok (.aload_n 0, 1) := by decide +kernel
theorem dL_wouldArrive_4 : decode cL_wouldArrive 4 = .ok (.iload_n 1, 1) := by decide +kernel
theorem dL_wouldArrive_5 : decode cL_wouldArrive 5 = .ok (.iload_n 2, 1) := by decide +kernel
theorem dL_wouldArrive_6 : decode cL_wouldArrive 6 = .ok (.iload_n 3, 1) := by decide +kernel
theorem dL_wouldArrive_7 : decode cL_wouldArrive 7 = .ok (.invokevirtual 86, 3) := by decide +kernel
theorem dL_wouldArrive_10 : decode cL_wouldArrive 10 = .ok (.i2l, 1) := by decide +kernel
theorem dL_wouldArrive_11 : decode cL_wouldArrive 11 = .ok (.lastore, 1) := by decide +kernel
theorem dL_wouldArrive_12 : decode cL_wouldArrive 12 = .ok (.goto 11, 3) := by decide +kernel
theorem dL_wouldArrive_15 : decode cL_wouldArrive 15 = .ok (.astore 5, 2) := by decide +kernel
theorem dL_wouldArrive_17 : decode cL_wouldArrive 17 = .ok (.iconst 1, 1) := by decide +kernel
theorem dL_wouldArrive_18 : decode cL_wouldArrive 18 = .ok (.ireturn, 1) := by decide +kernel
theorem dL_wouldArrive_19 : decode cL_wouldArrive 19 = .ok (.astore 5, 2) := by decide +kernel
theorem dL_wouldArrive_21 : decode cL_wouldArrive 21 = .ok (.iconst 2, 1) := by decide +kernel
theorem dL_wouldArrive_22 : decode cL_wouldArrive 22 = .ok (.ireturn, 1) := by decide +kernel
theorem dL_wouldArrive_23 : decode cL_wouldArrive 23 = .ok (.iconst 0, 1) := by decide +kernel
theorem dL_wouldArrive_24 : decode cL_wouldArrive 24 = .ok (.ireturn, 1) := by decide +kernel
theorem dL_needs_0 : decode cL_needs 0 = .ok (.aload 5, 2) := by decide +kernel
theorem dL_needs_2 : decode cL_needs 2 = .ok (.iconst 0, 1) := by decide +kernel
theorem dL_needs_3 : decode cL_needs 3 = .ok (.aload_n 0, 1) := by decide +kernel
theorem dL_needs_4 : decode cL_needs 4 = .ok (.iload_n 1, 1) := by decide +kernel
theorem dL_needs_5 : decode cL_needs 5 = .ok (.iload_n 2, 1) := by decide +kernel
theorem dL_needs_6 : decode cL_needs 6 = .ok (.iload_n 3, 1) := by decide +kernel
theorem dL_needs_7 : decode cL_needs 7 = .ok (.iload 4, 2) := by decide +kernel
theorem dL_needs_9 : decode cL_needs 9 = .ok (.invokevirtual 89, 3) := by decide +kernel
theorem dL_needs_12 : decode cL_needs 12 = .ok (.i2l, 1) := by decide +kernel
theorem dL_needs_13 : decode cL_needs 13 = .ok (.lastore, 1) := by decide +kernel
theorem dL_needs_14 : decode cL_needs 14 = .ok (.goto 11, 3) := by decide +kernel
theorem dL_needs_17 : decode cL_needs 17 = .ok (.astore 6, 2) := by decide +kernel
theorem dL_needs_19 : decode cL_needs 19 = .ok (.iconst 1, 1) := by decide +kernel
theorem dL_needs_20 : decode cL_needs 20 = .ok (.ireturn, 1) := by decide +kernel
theorem dL_needs_21 : decode cL_needs 21 = .ok (.astore 6, 2) := by decide +kernel
theorem dL_needs_23 : decode cL_needs 23 = .ok (.iconst 2, 1) := by decide +kernel
theorem dL_needs_24 : decode cL_needs 24 = .ok (.ireturn, 1) := by decide +kernel
theorem dL_needs_25 : decode cL_needs 25 = .ok (.iconst 0, 1) := by decide +kernel
theorem dL_needs_26 : decode cL_needs 26 = .ok (.ireturn, 1) := by decide +kernel
theorem dL_lead_0 : decode cL_lead 0 = .ok (.aload_n 3, 1) := by decide +kernel
theorem dL_lead_1 : decode cL_lead 1 = .ok (.iconst 0, 1) := by decide +kernel
theorem dL_lead_2 : decode cL_lead 2 = .ok (.aload_n 0, 1) := by decide +kernel
theorem dL_lead_3 : decode cL_lead 3 = .ok (.iload_n 1, 1) := by decide +kernel
theorem dL_lead_4 : decode cL_lead 4 = .ok (.iload_n 2, 1) := by decide +kernel
theorem dL_lead_5 : decode cL_lead 5 = .ok (.invokevirtual 92, 3) := by decide +kernel
theorem dL_lead_8 : decode cL_lead 8 = .ok (.i2l, 1) := by decide +kernel
theorem dL_lead_9 : decode cL_lead 9 = .ok (.lastore, 1) := by decide +kernel
theorem dL_lead_10 : decode cL_lead 10 = .ok (.goto 11, 3) := by decide +kernel
theorem dL_lead_13 : decode cL_lead 13 = .ok (.astore 4, 2) := by decide +kernel
theorem dL_lead_15 : decode cL_lead 15 = .ok (.iconst 1, 1) := by decide +kernel
theorem dL_lead_16 : decode cL_lead 16 = .ok (.ireturn, 1) := by decide +kernel
theorem dL_lead_17 : decode cL_lead 17 = .ok (.astore 4, 2) := by decide +kernel
theorem dL_lead_19 : decode cL_lead 19 = .ok (.iconst 2, 1) := by decide +kernel
theorem dL_lead_20 : decode cL_lead 20 = .ok (.ireturn, 1) := by decide +kernel
theorem dL_lead_21 : decode cL_lead 21 = .ok (.iconst 0, 1) := by decide +kernel
theorem dL_lead_22 : decode cL_lead 22 = .ok (.ireturn, 1) := by decide +kernel
theorem dL_law_0 : decode cL_law 0 = .ok (.new 8, 3) := by decide +kernel
theorem dL_law_3 : decode cL_law 3 = .ok (.dup, 1) := by decide +kernel
theorem dL_law_4 : decode cL_law 4 = .ok (.invokespecial 95, 3) := by decide +kernel
theorem dL_law_7 : decode cL_law 7 = .ok (.astore_n 1, 1) := by decide +kernel
theorem dL_law_8 : decode cL_law 8 = .ok (.new 96, 3) := by decide +kernel
theorem dL_law_11 : decode cL_law 11 = .ok (.dup, 1) := by decide +kernel
theorem dL_law_12 : decode cL_law 12 = .ok (.invokespecial 98, 3) := by decide +kernel
theorem dL_law_15 : decode cL_law 15 = .ok (.astore_n 2, 1) := by decide +kernel
theorem dL_law_16 : decode cL_law 16 = .ok (.iconst 1, 1) := by decide +kernel
theorem dL_law_17 : decode cL_law 17 = .ok (.newarray .long, 2) := by decide +kernel
theorem dL_law_19 : decode cL_law 19 = .ok (.astore_n 3, 1) := by decide +kernel
theorem dL_law_20 : decode cL_law 20 = .ok (.iconst 0, 1) := by decide +kernel
theorem dL_law_21 : decode cL_law 21 = .ok (.istore 4, 2) := by decide +kernel
theorem dL_law_23 : decode cL_law 23 = .ok (.iload 4, 2) := by decide +kernel
theorem dL_law_25 : decode cL_law 25 = .ok (.aload_n 0, 1) := by decide +kernel
theorem dL_law_26 : decode cL_law 26 = .ok (.arraylength, 1) := by decide +kernel
theorem dL_law_27 : decode cL_law 27 = .ok (.bipush 6, 2) := by decide +kernel
theorem dL_law_29 : decode cL_law 29 = .ok (.isub, 1) := by decide +kernel
theorem dL_law_30 : decode cL_law 30 = .ok (.if_icmp .gt 1965, 3) := by decide +kernel
theorem dL_law_33 : decode cL_law 33 = .ok (.aload_n 0, 1) := by decide +kernel
theorem dL_law_34 : decode cL_law 34 = .ok (.iload 4, 2) := by decide +kernel
theorem dL_law_36 : decode cL_law 36 = .ok (.iaload, 1) := by decide +kernel
theorem dL_law_37 : decode cL_law 37 = .ok (.bipush 31, 2) := by decide +kernel
theorem dL_law_39 : decode cL_law 39 = .ok (.iand, 1) := by decide +kernel
theorem dL_law_40 : decode cL_law 40 = .ok (.tableswitch 1949 0 25 #[120, 188, 232, 300, 392, 472, 547, 615, 735, 803, 859, 915, 990, 1070, 1178, 1246, 1314, 1382, 1462, 1530, 1586, 1627, 1695, 1775, 1867, 1935], 120) := by decide +kernel
theorem dL_law_160 : decode cL_law 160 = .ok (.aload_n 1, 1) := by decide +kernel
theorem dL_law_161 : decode cL_law 161 = .ok (.aload_n 0, 1) := by decide +kernel
theorem dL_law_162 : decode cL_law 162 = .ok (.iload 4, 2) := by decide +kernel
theorem dL_law_164 : decode cL_law 164 = .ok (.iconst 1, 1) := by decide +kernel
theorem dL_law_165 : decode cL_law 165 = .ok (.iadd, 1) := by decide +kernel
theorem dL_law_166 : decode cL_law 166 = .ok (.iaload, 1) := by decide +kernel
theorem dL_law_167 : decode cL_law 167 = .ok (.aload_n 0, 1) := by decide +kernel
theorem dL_law_168 : decode cL_law 168 = .ok (.iload 4, 2) := by decide +kernel
theorem dL_law_170 : decode cL_law 170 = .ok (.iconst 2, 1) := by decide +kernel
theorem dL_law_171 : decode cL_law 171 = .ok (.iadd, 1) := by decide +kernel
theorem dL_law_172 : decode cL_law 172 = .ok (.iaload, 1) := by decide +kernel
theorem dL_law_173 : decode cL_law 173 = .ok (.aload_n 3, 1) := by decide +kernel
theorem dL_law_174 : decode cL_law 174 = .ok (.invokestatic 99, 3) := by decide +kernel
theorem dL_law_177 : decode cL_law 177 = .ok (.istore 5, 2) := by decide +kernel
theorem dL_law_179 : decode cL_law 179 = .ok (.aload_n 2, 1) := by decide +kernel
theorem dL_law_180 : decode cL_law 180 = .ok (.aload_n 0, 1) := by decide +kernel
theorem dL_law_181 : decode cL_law 181 = .ok (.iload 4, 2) := by decide +kernel
theorem dL_law_183 : decode cL_law 183 = .ok (.iconst 1, 1) := by decide +kernel
theorem dL_law_184 : decode cL_law 184 = .ok (.iadd, 1) := by decide +kernel
theorem dL_law_185 : decode cL_law 185 = .ok (.iaload, 1) := by decide +kernel
theorem dL_law_186 : decode cL_law 186 = .ok (.aload_n 0, 1) := by decide +kernel
theorem dL_law_187 : decode cL_law 187 = .ok (.iload 4, 2) := by decide +kernel
theorem dL_law_189 : decode cL_law 189 = .ok (.iconst 2, 1) := by decide +kernel
theorem dL_law_190 : decode cL_law 190 = .ok (.iadd, 1) := by decide +kernel
theorem dL_law_191 : decode cL_law 191 = .ok (.iaload, 1) := by decide +kernel
theorem dL_law_192 : decode cL_law 192 = .ok (.invokevirtual 104, 3) := by decide +kernel
theorem dL_law_195 : decode cL_law 195 = .ok (.istore 6, 2) := by decide +kernel
theorem dL_law_197 : decode cL_law 197 = .ok (.aload_n 2, 1) := by decide +kernel
theorem dL_law_198 : decode cL_law 198 = .ok (.invokevirtual 105, 3) := by decide +kernel
theorem dL_law_201 : decode cL_law 201 = .ok (.iload 5, 2) := by decide +kernel
theorem dL_law_203 : decode cL_law 203 = .ok (.if_icmp .eq 5, 3) := by decide +kernel
theorem dL_law_206 : decode cL_law 206 = .ok (.iconst 0, 1) := by decide +kernel
theorem dL_law_207 : decode cL_law 207 = .ok (.ireturn, 1) := by decide +kernel
theorem dL_law_208 : decode cL_law 208 = .ok (.iload 5, 2) := by decide +kernel
theorem dL_law_210 : decode cL_law 210 = .ok (.ifCond .ne 15, 3) := by decide +kernel
theorem dL_law_213 : decode cL_law 213 = .ok (.aload_n 3, 1) := by decide +kernel
theorem dL_law_214 : decode cL_law 214 = .ok (.iconst 0, 1) := by decide +kernel
theorem dL_law_215 : decode cL_law 215 = .ok (.laload, 1) := by decide +kernel
theorem dL_law_216 : decode cL_law 216 = .ok (.iload 6, 2) := by decide +kernel
theorem dL_law_218 : decode cL_law 218 = .ok (.i2l, 1) := by decide +kernel
theorem dL_law_219 : decode cL_law 219 = .ok (.lcmp, 1) := by decide +kernel
theorem dL_law_220 : decode cL_law 220 = .ok (.ifCond .eq 5, 3) := by decide +kernel
theorem dL_law_223 : decode cL_law 223 = .ok (.iconst 0, 1) := by decide +kernel
theorem dL_law_224 : decode cL_law 224 = .ok (.ireturn, 1) := by decide +kernel
theorem dL_law_225 : decode cL_law 225 = .ok (.goto 1764, 3) := by decide +kernel
theorem dL_law_228 : decode cL_law 228 = .ok (.aload_n 1, 1) := by decide +kernel
theorem dL_law_229 : decode cL_law 229 = .ok (.aload_n 3, 1) := by decide +kernel
theorem dL_law_230 : decode cL_law 230 = .ok (.invokestatic 108, 3) := by decide +kernel
theorem dL_law_233 : decode cL_law 233 = .ok (.istore 5, 2) := by decide +kernel
theorem dL_law_235 : decode cL_law 235 = .ok (.aload_n 2, 1) := by decide +kernel
theorem dL_law_236 : decode cL_law 236 = .ok (.invokevirtual 111, 3) := by decide +kernel
theorem dL_law_239 : decode cL_law 239 = .ok (.istore 6, 2) := by decide +kernel
theorem dL_law_241 : decode cL_law 241 = .ok (.aload_n 2, 1) := by decide +kernel
theorem dL_law_242 : decode cL_law 242 = .ok (.invokevirtual 105, 3) := by decide +kernel
theorem dL_law_245 : decode cL_law 245 = .ok (.iload 5, 2) := by decide +kernel
theorem dL_law_247 : decode cL_law 247 = .ok (.if_icmp .eq 5, 3) := by decide +kernel
theorem dL_law_250 : decode cL_law 250 = .ok (.iconst 0, 1) := by decide +kernel
theorem dL_law_251 : decode cL_law 251 = .ok (.ireturn, 1) := by decide +kernel
theorem dL_law_252 : decode cL_law 252 = .ok (.iload 5, 2) := by decide +kernel
theorem dL_law_254 : decode cL_law 254 = .ok (.ifCond .ne 15, 3) := by decide +kernel
theorem dL_law_257 : decode cL_law 257 = .ok (.aload_n 3, 1) := by decide +kernel
theorem dL_law_258 : decode cL_law 258 = .ok (.iconst 0, 1) := by decide +kernel
theorem dL_law_259 : decode cL_law 259 = .ok (.laload, 1) := by decide +kernel
theorem dL_law_260 : decode cL_law 260 = .ok (.iload 6, 2) := by decide +kernel
theorem dL_law_262 : decode cL_law 262 = .ok (.i2l, 1) := by decide +kernel
theorem dL_law_263 : decode cL_law 263 = .ok (.lcmp, 1) := by decide +kernel
theorem dL_law_264 : decode cL_law 264 = .ok (.ifCond .eq 5, 3) := by decide +kernel
theorem dL_law_267 : decode cL_law 267 = .ok (.iconst 0, 1) := by decide +kernel
theorem dL_law_268 : decode cL_law 268 = .ok (.ireturn, 1) := by decide +kernel
theorem dL_law_269 : decode cL_law 269 = .ok (.goto 1720, 3) := by decide +kernel
theorem dL_law_272 : decode cL_law 272 = .ok (.aload_n 1, 1) := by decide +kernel
theorem dL_law_273 : decode cL_law 273 = .ok (.aload_n 0, 1) := by decide +kernel
theorem dL_law_274 : decode cL_law 274 = .ok (.iload 4, 2) := by decide +kernel
theorem dL_law_276 : decode cL_law 276 = .ok (.iconst 1, 1) := by decide +kernel
theorem dL_law_277 : decode cL_law 277 = .ok (.iadd, 1) := by decide +kernel
theorem dL_law_278 : decode cL_law 278 = .ok (.iaload, 1) := by decide +kernel
theorem dL_law_279 : decode cL_law 279 = .ok (.aload_n 0, 1) := by decide +kernel
theorem dL_law_280 : decode cL_law 280 = .ok (.iload 4, 2) := by decide +kernel
theorem dL_law_282 : decode cL_law 282 = .ok (.iconst 2, 1) := by decide +kernel
theorem dL_law_283 : decode cL_law 283 = .ok (.iadd, 1) := by decide +kernel
theorem dL_law_284 : decode cL_law 284 = .ok (.iaload, 1) := by decide +kernel
theorem dL_law_285 : decode cL_law 285 = .ok (.aload_n 3, 1) := by decide +kernel
theorem dL_law_286 : decode cL_law 286 = .ok (.invokestatic 112, 3) := by decide +kernel
theorem dL_law_289 : decode cL_law 289 = .ok (.istore 5, 2) := by decide +kernel
theorem dL_law_291 : decode cL_law 291 = .ok (.aload_n 2, 1) := by decide +kernel
theorem dL_law_292 : decode cL_law 292 = .ok (.aload_n 0, 1) := by decide +kernel
theorem dL_law_293 : decode cL_law 293 = .ok (.iload 4, 2) := by decide +kernel
theorem dL_law_295 : decode cL_law 295 = .ok (.iconst 1, 1) := by decide +kernel
theorem dL_law_296 : decode cL_law 296 = .ok (.iadd, 1) := by decide +kernel
theorem dL_law_297 : decode cL_law 297 = .ok (.iaload, 1) := by decide +kernel
theorem dL_law_298 : decode cL_law 298 = .ok (.aload_n 0, 1) := by decide +kernel
theorem dL_law_299 : decode cL_law 299 = .ok (.iload 4, 2) := by decide +kernel
theorem dL_law_301 : decode cL_law 301 = .ok (.iconst 2, 1) := by decide +kernel
theorem dL_law_302 : decode cL_law 302 = .ok (.iadd, 1) := by decide +kernel
theorem dL_law_303 : decode cL_law 303 = .ok (.iaload, 1) := by decide +kernel
theorem dL_law_304 : decode cL_law 304 = .ok (.invokevirtual 114, 3) := by decide +kernel
theorem dL_law_307 : decode cL_law 307 = .ok (.istore 6, 2) := by decide +kernel
theorem dL_law_309 : decode cL_law 309 = .ok (.aload_n 2, 1) := by decide +kernel
theorem dL_law_310 : decode cL_law 310 = .ok (.invokevirtual 105, 3) := by decide +kernel
theorem dL_law_313 : decode cL_law 313 = .ok (.iload 5, 2) := by decide +kernel
theorem dL_law_315 : decode cL_law 315 = .ok (.if_icmp .eq 5, 3) := by decide +kernel
theorem dL_law_318 : decode cL_law 318 = .ok (.iconst 0, 1) := by decide +kernel
theorem dL_law_319 : decode cL_law 319 = .ok (.ireturn, 1) := by decide +kernel
theorem dL_law_320 : decode cL_law 320 = .ok (.iload 5, 2) := by decide +kernel
theorem dL_law_322 : decode cL_law 322 = .ok (.ifCond .ne 15, 3) := by decide +kernel
theorem dL_law_325 : decode cL_law 325 = .ok (.aload_n 3, 1) := by decide +kernel
theorem dL_law_326 : decode cL_law 326 = .ok (.iconst 0, 1) := by decide +kernel
theorem dL_law_327 : decode cL_law 327 = .ok (.laload, 1) := by decide +kernel
theorem dL_law_328 : decode cL_law 328 = .ok (.iload 6, 2) := by decide +kernel
theorem dL_law_330 : decode cL_law 330 = .ok (.i2l, 1) := by decide +kernel
theorem dL_law_331 : decode cL_law 331 = .ok (.lcmp, 1) := by decide +kernel
theorem dL_law_332 : decode cL_law 332 = .ok (.ifCond .eq 5, 3) := by decide +kernel
theorem dL_law_335 : decode cL_law 335 = .ok (.iconst 0, 1) := by decide +kernel
theorem dL_law_336 : decode cL_law 336 = .ok (.ireturn, 1) := by decide +kernel
theorem dL_law_337 : decode cL_law 337 = .ok (.goto 1652, 3) := by decide +kernel
theorem dL_law_340 : decode cL_law 340 = .ok (.aload_n 1, 1) := by decide +kernel
theorem dL_law_341 : decode cL_law 341 = .ok (.aload_n 0, 1) := by decide +kernel
theorem dL_law_342 : decode cL_law 342 = .ok (.iload 4, 2) := by decide +kernel
theorem dL_law_344 : decode cL_law 344 = .ok (.iconst 1, 1) := by decide +kernel
theorem dL_law_345 : decode cL_law 345 = .ok (.iadd, 1) := by decide +kernel
theorem dL_law_346 : decode cL_law 346 = .ok (.iaload, 1) := by decide +kernel
theorem dL_law_347 : decode cL_law 347 = .ok (.aload_n 0, 1) := by decide +kernel
theorem dL_law_348 : decode cL_law 348 = .ok (.iload 4, 2) := by decide +kernel
theorem dL_law_350 : decode cL_law 350 = .ok (.iconst 2, 1) := by decide +kernel
theorem dL_law_351 : decode cL_law 351 = .ok (.iadd, 1) := by decide +kernel
theorem dL_law_352 : decode cL_law 352 = .ok (.iaload, 1) := by decide +kernel
theorem dL_law_353 : decode cL_law 353 = .ok (.aload_n 0, 1) := by decide +kernel
theorem dL_law_354 : decode cL_law 354 = .ok (.iload 4, 2) := by decide +kernel
theorem dL_law_356 : decode cL_law 356 = .ok (.iconst 3, 1) := by decide +kernel
theorem dL_law_357 : decode cL_law 357 = .ok (.iadd, 1) := by decide +kernel
theorem dL_law_358 : decode cL_law 358 = .ok (.iaload, 1) := by decide +kernel
theorem dL_law_359 : decode cL_law 359 = .ok (.aload_n 0, 1) := by decide +kernel
theorem dL_law_360 : decode cL_law 360 = .ok (.iload 4, 2) := by decide +kernel
theorem dL_law_362 : decode cL_law 362 = .ok (.iconst 4, 1) := by decide +kernel
theorem dL_law_363 : decode cL_law 363 = .ok (.iadd, 1) := by decide +kernel
theorem dL_law_364 : decode cL_law 364 = .ok (.iaload, 1) := by decide +kernel
theorem dL_law_365 : decode cL_law 365 = .ok (.aload_n 3, 1) := by decide +kernel
theorem dL_law_366 : decode cL_law 366 = .ok (.invokestatic 115, 3) := by decide +kernel
theorem dL_law_369 : decode cL_law 369 = .ok (.istore 5, 2) := by decide +kernel
theorem dL_law_371 : decode cL_law 371 = .ok (.aload_n 2, 1) := by decide +kernel
theorem dL_law_372 : decode cL_law 372 = .ok (.aload_n 0, 1) := by decide +kernel
theorem dL_law_373 : decode cL_law 373 = .ok (.iload 4, 2) := by decide +kernel
theorem dL_law_375 : decode cL_law 375 = .ok (.iconst 1, 1) := by decide +kernel
theorem dL_law_376 : decode cL_law 376 = .ok (.iadd, 1) := by decide +kernel
theorem dL_law_377 : decode cL_law 377 = .ok (.iaload, 1) := by decide +kernel
theorem dL_law_378 : decode cL_law 378 = .ok (.aload_n 0, 1) := by decide +kernel
theorem dL_law_379 : decode cL_law 379 = .ok (.iload 4, 2) := by decide +kernel
theorem dL_law_381 : decode cL_law 381 = .ok (.iconst 2, 1) := by decide +kernel
theorem dL_law_382 : decode cL_law 382 = .ok (.iadd, 1) := by decide +kernel
theorem dL_law_383 : decode cL_law 383 = .ok (.iaload, 1) := by decide +kernel
theorem dL_law_384 : decode cL_law 384 = .ok (.aload_n 0, 1) := by decide +kernel
theorem dL_law_385 : decode cL_law 385 = .ok (.iload 4, 2) := by decide +kernel
theorem dL_law_387 : decode cL_law 387 = .ok (.iconst 3, 1) := by decide +kernel
theorem dL_law_388 : decode cL_law 388 = .ok (.iadd, 1) := by decide +kernel
theorem dL_law_389 : decode cL_law 389 = .ok (.iaload, 1) := by decide +kernel
theorem dL_law_390 : decode cL_law 390 = .ok (.aload_n 0, 1) := by decide +kernel
theorem dL_law_391 : decode cL_law 391 = .ok (.iload 4, 2) := by decide +kernel
theorem dL_law_393 : decode cL_law 393 = .ok (.iconst 4, 1) := by decide +kernel
theorem dL_law_394 : decode cL_law 394 = .ok (.iadd, 1) := by decide +kernel
theorem dL_law_395 : decode cL_law 395 = .ok (.iaload, 1) := by decide +kernel
theorem dL_law_396 : decode cL_law 396 = .ok (.invokevirtual 118, 3) := by decide +kernel
theorem dL_law_399 : decode cL_law 399 = .ok (.istore 6, 2) := by decide +kernel
theorem dL_law_401 : decode cL_law 401 = .ok (.aload_n 2, 1) := by decide +kernel
theorem dL_law_402 : decode cL_law 402 = .ok (.invokevirtual 105, 3) := by decide +kernel
theorem dL_law_405 : decode cL_law 405 = .ok (.iload 5, 2) := by decide +kernel
theorem dL_law_407 : decode cL_law 407 = .ok (.if_icmp .eq 5, 3) := by decide +kernel
theorem dL_law_410 : decode cL_law 410 = .ok (.iconst 0, 1) := by decide +kernel
theorem dL_law_411 : decode cL_law 411 = .ok (.ireturn, 1) := by decide +kernel
theorem dL_law_412 : decode cL_law 412 = .ok (.iload 5, 2) := by decide +kernel
theorem dL_law_414 : decode cL_law 414 = .ok (.ifCond .ne 15, 3) := by decide +kernel
theorem dL_law_417 : decode cL_law 417 = .ok (.aload_n 3, 1) := by decide +kernel
theorem dL_law_418 : decode cL_law 418 = .ok (.iconst 0, 1) := by decide +kernel
theorem dL_law_419 : decode cL_law 419 = .ok (.laload, 1) := by decide +kernel
theorem dL_law_420 : decode cL_law 420 = .ok (.iload 6, 2) := by decide +kernel
theorem dL_law_422 : decode cL_law 422 = .ok (.i2l, 1) := by decide +kernel
theorem dL_law_423 : decode cL_law 423 = .ok (.lcmp, 1) := by decide +kernel
theorem dL_law_424 : decode cL_law 424 = .ok (.ifCond .eq 5, 3) := by decide +kernel
theorem dL_law_427 : decode cL_law 427 = .ok (.iconst 0, 1) := by decide +kernel
theorem dL_law_428 : decode cL_law 428 = .ok (.ireturn, 1) := by decide +kernel
theorem dL_law_429 : decode cL_law 429 = .ok (.goto 1560, 3) := by decide +kernel
theorem dL_law_432 : decode cL_law 432 = .ok (.aload_n 1, 1) := by decide +kernel
theorem dL_law_433 : decode cL_law 433 = .ok (.aload_n 0, 1) := by decide +kernel
theorem dL_law_434 : decode cL_law 434 = .ok (.iload 4, 2) := by decide +kernel
theorem dL_law_436 : decode cL_law 436 = .ok (.iconst 1, 1) := by decide +kernel
theorem dL_law_437 : decode cL_law 437 = .ok (.iadd, 1) := by decide +kernel
theorem dL_law_438 : decode cL_law 438 = .ok (.iaload, 1) := by decide +kernel
theorem dL_law_439 : decode cL_law 439 = .ok (.aload_n 0, 1) := by decide +kernel
theorem dL_law_440 : decode cL_law 440 = .ok (.iload 4, 2) := by decide +kernel
theorem dL_law_442 : decode cL_law 442 = .ok (.iconst 2, 1) := by decide +kernel
theorem dL_law_443 : decode cL_law 443 = .ok (.iadd, 1) := by decide +kernel
theorem dL_law_444 : decode cL_law 444 = .ok (.iaload, 1) := by decide +kernel
theorem dL_law_445 : decode cL_law 445 = .ok (.aload_n 0, 1) := by decide +kernel
theorem dL_law_446 : decode cL_law 446 = .ok (.iload 4, 2) := by decide +kernel
theorem dL_law_448 : decode cL_law 448 = .ok (.iconst 3, 1) := by decide +kernel
theorem dL_law_449 : decode cL_law 449 = .ok (.iadd, 1) := by decide +kernel
theorem dL_law_450 : decode cL_law 450 = .ok (.iaload, 1) := by decide +kernel
theorem dL_law_451 : decode cL_law 451 = .ok (.aload_n 3, 1) := by decide +kernel
theorem dL_law_452 : decode cL_law 452 = .ok (.invokestatic 119, 3) := by decide +kernel
theorem dL_law_455 : decode cL_law 455 = .ok (.istore 5, 2) := by decide +kernel
theorem dL_law_457 : decode cL_law 457 = .ok (.aload_n 2, 1) := by decide +kernel
theorem dL_law_458 : decode cL_law 458 = .ok (.aload_n 0, 1) := by decide +kernel
theorem dL_law_459 : decode cL_law 459 = .ok (.iload 4, 2) := by decide +kernel
theorem dL_law_461 : decode cL_law 461 = .ok (.iconst 1, 1) := by decide +kernel
theorem dL_law_462 : decode cL_law 462 = .ok (.iadd, 1) := by decide +kernel
theorem dL_law_463 : decode cL_law 463 = .ok (.iaload, 1) := by decide +kernel
theorem dL_law_464 : decode cL_law 464 = .ok (.aload_n 0, 1) := by decide +kernel
theorem dL_law_465 : decode cL_law 465 = .ok (.iload 4, 2) := by decide +kernel
theorem dL_law_467 : decode cL_law 467 = .ok (.iconst 2, 1) := by decide +kernel
theorem dL_law_468 : decode cL_law 468 = .ok (.iadd, 1) := by decide +kernel
theorem dL_law_469 : decode cL_law 469 = .ok (.iaload, 1) := by decide +kernel
theorem dL_law_470 : decode cL_law 470 = .ok (.aload_n 0, 1) := by decide +kernel
theorem dL_law_471 : decode cL_law 471 = .ok (.iload 4, 2) := by decide +kernel
theorem dL_law_473 : decode cL_law 473 = .ok (.iconst 3, 1) := by decide +kernel
theorem dL_law_474 : decode cL_law 474 = .ok (.iadd, 1) := by decide +kernel
theorem dL_law_475 : decode cL_law 475 = .ok (.iaload, 1) := by decide +kernel
theorem dL_law_476 : decode cL_law 476 = .ok (.invokevirtual 122, 3) := by decide +kernel
theorem dL_law_479 : decode cL_law 479 = .ok (.istore 6, 2) := by decide +kernel
theorem dL_law_481 : decode cL_law 481 = .ok (.aload_n 2, 1) := by decide +kernel
theorem dL_law_482 : decode cL_law 482 = .ok (.invokevirtual 105, 3) := by decide +kernel
theorem dL_law_485 : decode cL_law 485 = .ok (.iload 5, 2) := by decide +kernel
theorem dL_law_487 : decode cL_law 487 = .ok (.if_icmp .eq 5, 3) := by decide +kernel
theorem dL_law_490 : decode cL_law 490 = .ok (.iconst 0, 1) := by decide +kernel
theorem dL_law_491 : decode cL_law 491 = .ok (.ireturn, 1) := by decide +kernel
theorem dL_law_492 : decode cL_law 492 = .ok (.iload 5, 2) := by decide +kernel
theorem dL_law_494 : decode cL_law 494 = .ok (.ifCond .ne 15, 3) := by decide +kernel
theorem dL_law_497 : decode cL_law 497 = .ok (.aload_n 3, 1) := by decide +kernel
theorem dL_law_498 : decode cL_law 498 = .ok (.iconst 0, 1) := by decide +kernel
theorem dL_law_499 : decode cL_law 499 = .ok (.laload, 1) := by decide +kernel
theorem dL_law_500 : decode cL_law 500 = .ok (.iload 6, 2) := by decide +kernel
theorem dL_law_502 : decode cL_law 502 = .ok (.i2l, 1) := by decide +kernel
theorem dL_law_503 : decode cL_law 503 = .ok (.lcmp, 1) := by decide +kernel
theorem dL_law_504 : decode cL_law 504 = .ok (.ifCond .eq 5, 3) := by decide +kernel
theorem dL_law_507 : decode cL_law 507 = .ok (.iconst 0, 1) := by decide +kernel
theorem dL_law_508 : decode cL_law 508 = .ok (.ireturn, 1) := by decide +kernel
theorem dL_law_509 : decode cL_law 509 = .ok (.goto 1480, 3) := by decide +kernel
theorem dL_law_512 : decode cL_law 512 = .ok (.aload_n 1, 1) := by decide +kernel
theorem dL_law_513 : decode cL_law 513 = .ok (.aload_n 0, 1) := by decide +kernel
theorem dL_law_514 : decode cL_law 514 = .ok (.iload 4, 2) := by decide +kernel
theorem dL_law_516 : decode cL_law 516 = .ok (.iconst 1, 1) := by decide +kernel
theorem dL_law_517 : decode cL_law 517 = .ok (.iadd, 1) := by decide +kernel
theorem dL_law_518 : decode cL_law 518 = .ok (.iaload, 1) := by decide +kernel
theorem dL_law_519 : decode cL_law 519 = .ok (.aload_n 0, 1) := by decide +kernel
theorem dL_law_520 : decode cL_law 520 = .ok (.iload 4, 2) := by decide +kernel
theorem dL_law_522 : decode cL_law 522 = .ok (.iconst 2, 1) := by decide +kernel
theorem dL_law_523 : decode cL_law 523 = .ok (.iadd, 1) := by decide +kernel
theorem dL_law_524 : decode cL_law 524 = .ok (.iaload, 1) := by decide +kernel
theorem dL_law_525 : decode cL_law 525 = .ok (.aload_n 3, 1) := by decide +kernel
theorem dL_law_526 : decode cL_law 526 = .ok (.invokestatic 123, 3) := by decide +kernel
theorem dL_law_529 : decode cL_law 529 = .ok (.istore 5, 2) := by decide +kernel
theorem dL_law_531 : decode cL_law 531 = .ok (.aload_n 2, 1) := by decide +kernel
theorem dL_law_532 : decode cL_law 532 = .ok (.aload_n 0, 1) := by decide +kernel
theorem dL_law_533 : decode cL_law 533 = .ok (.iload 4, 2) := by decide +kernel
theorem dL_law_535 : decode cL_law 535 = .ok (.iconst 1, 1) := by decide +kernel
theorem dL_law_536 : decode cL_law 536 = .ok (.iadd, 1) := by decide +kernel
theorem dL_law_537 : decode cL_law 537 = .ok (.iaload, 1) := by decide +kernel
theorem dL_law_538 : decode cL_law 538 = .ok (.aload_n 0, 1) := by decide +kernel
theorem dL_law_539 : decode cL_law 539 = .ok (.iload 4, 2) := by decide +kernel
theorem dL_law_541 : decode cL_law 541 = .ok (.iconst 2, 1) := by decide +kernel
theorem dL_law_542 : decode cL_law 542 = .ok (.iadd, 1) := by decide +kernel
theorem dL_law_543 : decode cL_law 543 = .ok (.iaload, 1) := by decide +kernel
theorem dL_law_544 : decode cL_law 544 = .ok (.invokevirtual 125, 3) := by decide +kernel
theorem dL_law_547 : decode cL_law 547 = .ok (.istore 6, 2) := by decide +kernel
theorem dL_law_549 : decode cL_law 549 = .ok (.aload_n 2, 1) := by decide +kernel
theorem dL_law_550 : decode cL_law 550 = .ok (.invokevirtual 105, 3) := by decide +kernel
theorem dL_law_553 : decode cL_law 553 = .ok (.iload 5, 2) := by decide +kernel
theorem dL_law_555 : decode cL_law 555 = .ok (.if_icmp .eq 5, 3) := by decide +kernel
theorem dL_law_558 : decode cL_law 558 = .ok (.iconst 0, 1) := by decide +kernel
theorem dL_law_559 : decode cL_law 559 = .ok (.ireturn, 1) := by decide +kernel
theorem dL_law_560 : decode cL_law 560 = .ok (.iload 5, 2) := by decide +kernel
theorem dL_law_562 : decode cL_law 562 = .ok (.ifCond .ne 22, 3) := by decide +kernel
theorem dL_law_565 : decode cL_law 565 = .ok (.aload_n 3, 1) := by decide +kernel
theorem dL_law_566 : decode cL_law 566 = .ok (.iconst 0, 1) := by decide +kernel
theorem dL_law_567 : decode cL_law 567 = .ok (.laload, 1) := by decide +kernel
theorem dL_law_568 : decode cL_law 568 = .ok (.iload 6, 2) := by decide +kernel
theorem dL_law_570 : decode cL_law 570 = .ok (.ifCond .eq 7, 3) := by decide +kernel
theorem dL_law_573 : decode cL_law 573 = .ok (.lconst 1, 1) := by decide +kernel
theorem dL_law_574 : decode cL_law 574 = .ok (.goto 4, 3) := by decide +kernel
theorem dL_law_577 : decode cL_law 577 = .ok (.lconst 0, 1) := by decide +kernel
theorem dL_law_578 : decode cL_law 578 = .ok (.lcmp, 1) := by decide +kernel
theorem dL_law_579 : decode cL_law 579 = .ok (.ifCond .eq 5, 3) := by decide +kernel
theorem dL_law_582 : decode cL_law 582 = .ok (.iconst 0, 1) := by decide +kernel
theorem dL_law_583 : decode cL_law 583 = .ok (.ireturn, 1) := by decide +kernel
theorem dL_law_584 : decode cL_law 584 = .ok (.goto 1405, 3) := by decide +kernel
theorem dL_law_587 : decode cL_law 587 = .ok (.aload_n 1, 1) := by decide +kernel
theorem dL_law_588 : decode cL_law 588 = .ok (.aload_n 0, 1) := by decide +kernel
theorem dL_law_589 : decode cL_law 589 = .ok (.iload 4, 2) := by decide +kernel
theorem dL_law_591 : decode cL_law 591 = .ok (.iconst 1, 1) := by decide +kernel
theorem dL_law_592 : decode cL_law 592 = .ok (.iadd, 1) := by decide +kernel
theorem dL_law_593 : decode cL_law 593 = .ok (.iaload, 1) := by decide +kernel
theorem dL_law_594 : decode cL_law 594 = .ok (.aload_n 0, 1) := by decide +kernel
theorem dL_law_595 : decode cL_law 595 = .ok (.iload 4, 2) := by decide +kernel
theorem dL_law_597 : decode cL_law 597 = .ok (.iconst 2, 1) := by decide +kernel
theorem dL_law_598 : decode cL_law 598 = .ok (.iadd, 1) := by decide +kernel
theorem dL_law_599 : decode cL_law 599 = .ok (.iaload, 1) := by decide +kernel
theorem dL_law_600 : decode cL_law 600 = .ok (.aload_n 3, 1) := by decide +kernel
theorem dL_law_601 : decode cL_law 601 = .ok (.invokestatic 126, 3) := by decide +kernel
theorem dL_law_604 : decode cL_law 604 = .ok (.istore 5, 2) := by decide +kernel
theorem dL_law_606 : decode cL_law 606 = .ok (.aload_n 2, 1) := by decide +kernel
theorem dL_law_607 : decode cL_law 607 = .ok (.aload_n 0, 1) := by decide +kernel
theorem dL_law_608 : decode cL_law 608 = .ok (.iload 4, 2) := by decide +kernel
theorem dL_law_610 : decode cL_law 610 = .ok (.iconst 1, 1) := by decide +kernel
theorem dL_law_611 : decode cL_law 611 = .ok (.iadd, 1) := by decide +kernel
theorem dL_law_612 : decode cL_law 612 = .ok (.iaload, 1) := by decide +kernel
theorem dL_law_613 : decode cL_law 613 = .ok (.aload_n 0, 1) := by decide +kernel
theorem dL_law_614 : decode cL_law 614 = .ok (.iload 4, 2) := by decide +kernel
theorem dL_law_616 : decode cL_law 616 = .ok (.iconst 2, 1) := by decide +kernel
theorem dL_law_617 : decode cL_law 617 = .ok (.iadd, 1) := by decide +kernel
theorem dL_law_618 : decode cL_law 618 = .ok (.iaload, 1) := by decide +kernel
theorem dL_law_619 : decode cL_law 619 = .ok (.invokevirtual 128, 3) := by decide +kernel
theorem dL_law_622 : decode cL_law 622 = .ok (.istore 6, 2) := by decide +kernel
theorem dL_law_624 : decode cL_law 624 = .ok (.aload_n 2, 1) := by decide +kernel
theorem dL_law_625 : decode cL_law 625 = .ok (.invokevirtual 105, 3) := by decide +kernel
theorem dL_law_628 : decode cL_law 628 = .ok (.iload 5, 2) := by decide +kernel
theorem dL_law_630 : decode cL_law 630 = .ok (.if_icmp .eq 5, 3) := by decide +kernel
theorem dL_law_633 : decode cL_law 633 = .ok (.iconst 0, 1) := by decide +kernel
theorem dL_law_634 : decode cL_law 634 = .ok (.ireturn, 1) := by decide +kernel
theorem dL_law_635 : decode cL_law 635 = .ok (.iload 5, 2) := by decide +kernel
theorem dL_law_637 : decode cL_law 637 = .ok (.ifCond .ne 15, 3) := by decide +kernel
theorem dL_law_640 : decode cL_law 640 = .ok (.aload_n 3, 1) := by decide +kernel
theorem dL_law_641 : decode cL_law 641 = .ok (.iconst 0, 1) := by decide +kernel
theorem dL_law_642 : decode cL_law 642 = .ok (.laload, 1) := by decide +kernel
theorem dL_law_643 : decode cL_law 643 = .ok (.iload 6, 2) := by decide +kernel
theorem dL_law_645 : decode cL_law 645 = .ok (.i2l, 1) := by decide +kernel
theorem dL_law_646 : decode cL_law 646 = .ok (.lcmp, 1) := by decide +kernel
theorem dL_law_647 : decode cL_law 647 = .ok (.ifCond .eq 5, 3) := by decide +kernel
theorem dL_law_650 : decode cL_law 650 = .ok (.iconst 0, 1) := by decide +kernel
theorem dL_law_651 : decode cL_law 651 = .ok (.ireturn, 1) := by decide +kernel
theorem dL_law_652 : decode cL_law 652 = .ok (.goto 1337, 3) := by decide +kernel
theorem dL_law_655 : decode cL_law 655 = .ok (.aload_n 1, 1) := by decide +kernel
theorem dL_law_656 : decode cL_law 656 = .ok (.aload_n 0, 1) := by decide +kernel
theorem dL_law_657 : decode cL_law 657 = .ok (.iload 4, 2) := by decide +kernel
theorem dL_law_659 : decode cL_law 659 = .ok (.iconst 1, 1) := by decide +kernel
theorem dL_law_660 : decode cL_law 660 = .ok (.iadd, 1) := by decide +kernel
theorem dL_law_661 : decode cL_law 661 = .ok (.iaload, 1) := by decide +kernel
theorem dL_law_662 : decode cL_law 662 = .ok (.aload_n 0, 1) := by decide +kernel
theorem dL_law_663 : decode cL_law 663 = .ok (.iload 4, 2) := by decide +kernel
theorem dL_law_665 : decode cL_law 665 = .ok (.iconst 2, 1) := by decide +kernel
theorem dL_law_666 : decode cL_law 666 = .ok (.iadd, 1) := by decide +kernel
theorem dL_law_667 : decode cL_law 667 = .ok (.iaload, 1) := by decide +kernel
theorem dL_law_668 : decode cL_law 668 = .ok (.aload_n 0, 1) := by decide +kernel
theorem dL_law_669 : decode cL_law 669 = .ok (.iload 4, 2) := by decide +kernel
theorem dL_law_671 : decode cL_law 671 = .ok (.iconst 3, 1) := by decide +kernel
theorem dL_law_672 : decode cL_law 672 = .ok (.iadd, 1) := by decide +kernel
theorem dL_law_673 : decode cL_law 673 = .ok (.iaload, 1) := by decide +kernel
theorem dL_law_674 : decode cL_law 674 = .ok (.aload_n 0, 1) := by decide +kernel
theorem dL_law_675 : decode cL_law 675 = .ok (.iload 4, 2) := by decide +kernel
theorem dL_law_677 : decode cL_law 677 = .ok (.iconst 4, 1) := by decide +kernel
theorem dL_law_678 : decode cL_law 678 = .ok (.iadd, 1) := by decide +kernel
theorem dL_law_679 : decode cL_law 679 = .ok (.iaload, 1) := by decide +kernel
theorem dL_law_680 : decode cL_law 680 = .ok (.ifCond .eq 7, 3) := by decide +kernel
theorem dL_law_683 : decode cL_law 683 = .ok (.iconst 1, 1) := by decide +kernel
theorem dL_law_684 : decode cL_law 684 = .ok (.goto 4, 3) := by decide +kernel
theorem dL_law_687 : decode cL_law 687 = .ok (.iconst 0, 1) := by decide +kernel
theorem dL_law_688 : decode cL_law 688 = .ok (.aload_n 0, 1) := by decide +kernel
theorem dL_law_689 : decode cL_law 689 = .ok (.iload 4, 2) := by decide +kernel
theorem dL_law_691 : decode cL_law 691 = .ok (.iconst 5, 1) := by decide +kernel
theorem dL_law_692 : decode cL_law 692 = .ok (.iadd, 1) := by decide +kernel
theorem dL_law_693 : decode cL_law 693 = .ok (.iaload, 1) := by decide +kernel
theorem dL_law_694 : decode cL_law 694 = .ok (.aload_n 3, 1) := by decide +kernel
theorem dL_law_695 : decode cL_law 695 = .ok (.invokestatic 129, 3) := by decide +kernel
theorem dL_law_698 : decode cL_law 698 = .ok (.istore 5, 2) := by decide +kernel
theorem dL_law_700 : decode cL_law 700 = .ok (.aload_n 2, 1) := by decide +kernel
theorem dL_law_701 : decode cL_law 701 = .ok (.aload_n 0, 1) := by decide +kernel
theorem dL_law_702 : decode cL_law 702 = .ok (.iload 4, 2) := by decide +kernel
theorem dL_law_704 : decode cL_law 704 = .ok (.iconst 1, 1) := by decide +kernel
theorem dL_law_705 : decode cL_law 705 = .ok (.iadd, 1) := by decide +kernel
theorem dL_law_706 : decode cL_law 706 = .ok (.iaload, 1) := by decide +kernel
theorem dL_law_707 : decode cL_law 707 = .ok (.aload_n 0, 1) := by decide +kernel
theorem dL_law_708 : decode cL_law 708 = .ok (.iload 4, 2) := by decide +kernel
theorem dL_law_710 : decode cL_law 710 = .ok (.iconst 2, 1) := by decide +kernel
theorem dL_law_711 : decode cL_law 711 = .ok (.iadd, 1) := by decide +kernel
theorem dL_law_712 : decode cL_law 712 = .ok (.iaload, 1) := by decide +kernel
theorem dL_law_713 : decode cL_law 713 = .ok (.aload_n 0, 1) := by decide +kernel
theorem dL_law_714 : decode cL_law 714 = .ok (.iload 4, 2) := by decide +kernel
theorem dL_law_716 : decode cL_law 716 = .ok (.iconst 3, 1) := by decide +kernel
theorem dL_law_717 : decode cL_law 717 = .ok (.iadd, 1) := by decide +kernel
theorem dL_law_718 : decode cL_law 718 = .ok (.iaload, 1) := by decide +kernel
theorem dL_law_719 : decode cL_law 719 = .ok (.aload_n 0, 1) := by decide +kernel
theorem dL_law_720 : decode cL_law 720 = .ok (.iload 4, 2) := by decide +kernel
theorem dL_law_722 : decode cL_law 722 = .ok (.iconst 4, 1) := by decide +kernel
theorem dL_law_723 : decode cL_law 723 = .ok (.iadd, 1) := by decide +kernel
theorem dL_law_724 : decode cL_law 724 = .ok (.iaload, 1) := by decide +kernel
theorem dL_law_725 : decode cL_law 725 = .ok (.ifCond .eq 7, 3) := by decide +kernel
theorem dL_law_728 : decode cL_law 728 = .ok (.iconst 1, 1) := by decide +kernel
theorem dL_law_729 : decode cL_law 729 = .ok (.goto 4, 3) := by decide +kernel
theorem dL_law_732 : decode cL_law 732 = .ok (.iconst 0, 1) := by decide +kernel
theorem dL_law_733 : decode cL_law 733 = .ok (.aload_n 0, 1) := by decide +kernel
theorem dL_law_734 : decode cL_law 734 = .ok (.iload 4, 2) := by decide +kernel
theorem dL_law_736 : decode cL_law 736 = .ok (.iconst 5, 1) := by decide +kernel
theorem dL_law_737 : decode cL_law 737 = .ok (.iadd, 1) := by decide +kernel
theorem dL_law_738 : decode cL_law 738 = .ok (.iaload, 1) := by decide +kernel
theorem dL_law_739 : decode cL_law 739 = .ok (.invokevirtual 132, 3) := by decide +kernel
theorem dL_law_742 : decode cL_law 742 = .ok (.istore 6, 2) := by decide +kernel
theorem dL_law_744 : decode cL_law 744 = .ok (.aload_n 2, 1) := by decide +kernel
theorem dL_law_745 : decode cL_law 745 = .ok (.invokevirtual 105, 3) := by decide +kernel
theorem dL_law_748 : decode cL_law 748 = .ok (.iload 5, 2) := by decide +kernel
theorem dL_law_750 : decode cL_law 750 = .ok (.if_icmp .eq 5, 3) := by decide +kernel
theorem dL_law_753 : decode cL_law 753 = .ok (.iconst 0, 1) := by decide +kernel
theorem dL_law_754 : decode cL_law 754 = .ok (.ireturn, 1) := by decide +kernel
theorem dL_law_755 : decode cL_law 755 = .ok (.iload 5, 2) := by decide +kernel
theorem dL_law_757 : decode cL_law 757 = .ok (.ifCond .ne 15, 3) := by decide +kernel
theorem dL_law_760 : decode cL_law 760 = .ok (.aload_n 3, 1) := by decide +kernel
theorem dL_law_761 : decode cL_law 761 = .ok (.iconst 0, 1) := by decide +kernel
theorem dL_law_762 : decode cL_law 762 = .ok (.laload, 1) := by decide +kernel
theorem dL_law_763 : decode cL_law 763 = .ok (.iload 6, 2) := by decide +kernel
theorem dL_law_765 : decode cL_law 765 = .ok (.i2l, 1) := by decide +kernel
theorem dL_law_766 : decode cL_law 766 = .ok (.lcmp, 1) := by decide +kernel
theorem dL_law_767 : decode cL_law 767 = .ok (.ifCond .eq 5, 3) := by decide +kernel
theorem dL_law_770 : decode cL_law 770 = .ok (.iconst 0, 1) := by decide +kernel
theorem dL_law_771 : decode cL_law 771 = .ok (.ireturn, 1) := by decide +kernel
theorem dL_law_772 : decode cL_law 772 = .ok (.goto 1217, 3) := by decide +kernel
theorem dL_law_775 : decode cL_law 775 = .ok (.aload_n 1, 1) := by decide +kernel
theorem dL_law_776 : decode cL_law 776 = .ok (.aload_n 0, 1) := by decide +kernel
theorem dL_law_777 : decode cL_law 777 = .ok (.iload 4, 2) := by decide +kernel
theorem dL_law_779 : decode cL_law 779 = .ok (.iconst 1, 1) := by decide +kernel
theorem dL_law_780 : decode cL_law 780 = .ok (.iadd, 1) := by decide +kernel
theorem dL_law_781 : decode cL_law 781 = .ok (.iaload, 1) := by decide +kernel
theorem dL_law_782 : decode cL_law 782 = .ok (.aload_n 0, 1) := by decide +kernel
theorem dL_law_783 : decode cL_law 783 = .ok (.iload 4, 2) := by decide +kernel
theorem dL_law_785 : decode cL_law 785 = .ok (.iconst 2, 1) := by decide +kernel
theorem dL_law_786 : decode cL_law 786 = .ok (.iadd, 1) := by decide +kernel
theorem dL_law_787 : decode cL_law 787 = .ok (.iaload, 1) := by decide +kernel
theorem dL_law_788 : decode cL_law 788 = .ok (.aload_n 3, 1) := by decide +kernel
theorem dL_law_789 : decode cL_law 789 = .ok (.invokestatic 133, 3) := by decide +kernel
theorem dL_law_792 : decode cL_law 792 = .ok (.istore 5, 2) := by decide +kernel
theorem dL_law_794 : decode cL_law 794 = .ok (.aload_n 2, 1) := by decide +kernel
theorem dL_law_795 : decode cL_law 795 = .ok (.aload_n 0, 1) := by decide +kernel
theorem dL_law_796 : decode cL_law 796 = .ok (.iload 4, 2) := by decide +kernel
theorem dL_law_798 : decode cL_law 798 = .ok (.iconst 1, 1) := by decide +kernel
theorem dL_law_799 : decode cL_law 799 = .ok (.iadd, 1) := by decide +kernel
theorem dL_law_800 : decode cL_law 800 = .ok (.iaload, 1) := by decide +kernel
theorem dL_law_801 : decode cL_law 801 = .ok (.aload_n 0, 1) := by decide +kernel
theorem dL_law_802 : decode cL_law 802 = .ok (.iload 4, 2) := by decide +kernel
theorem dL_law_804 : decode cL_law 804 = .ok (.iconst 2, 1) := by decide +kernel
theorem dL_law_805 : decode cL_law 805 = .ok (.iadd, 1) := by decide +kernel
theorem dL_law_806 : decode cL_law 806 = .ok (.iaload, 1) := by decide +kernel
theorem dL_law_807 : decode cL_law 807 = .ok (.invokevirtual 135, 3) := by decide +kernel
theorem dL_law_810 : decode cL_law 810 = .ok (.istore 6, 2) := by decide +kernel
theorem dL_law_812 : decode cL_law 812 = .ok (.aload_n 2, 1) := by decide +kernel
theorem dL_law_813 : decode cL_law 813 = .ok (.invokevirtual 105, 3) := by decide +kernel
theorem dL_law_816 : decode cL_law 816 = .ok (.iload 5, 2) := by decide +kernel
theorem dL_law_818 : decode cL_law 818 = .ok (.if_icmp .eq 5, 3) := by decide +kernel
theorem dL_law_821 : decode cL_law 821 = .ok (.iconst 0, 1) := by decide +kernel
theorem dL_law_822 : decode cL_law 822 = .ok (.ireturn, 1) := by decide +kernel
theorem dL_law_823 : decode cL_law 823 = .ok (.iload 5, 2) := by decide +kernel
theorem dL_law_825 : decode cL_law 825 = .ok (.ifCond .ne 15, 3) := by decide +kernel
theorem dL_law_828 : decode cL_law 828 = .ok (.aload_n 3, 1) := by decide +kernel
theorem dL_law_829 : decode cL_law 829 = .ok (.iconst 0, 1) := by decide +kernel
theorem dL_law_830 : decode cL_law 830 = .ok (.laload, 1) := by decide +kernel
theorem dL_law_831 : decode cL_law 831 = .ok (.iload 6, 2) := by decide +kernel
theorem dL_law_833 : decode cL_law 833 = .ok (.i2l, 1) := by decide +kernel
theorem dL_law_834 : decode cL_law 834 = .ok (.lcmp, 1) := by decide +kernel
theorem dL_law_835 : decode cL_law 835 = .ok (.ifCond .eq 5, 3) := by decide +kernel
theorem dL_law_838 : decode cL_law 838 = .ok (.iconst 0, 1) := by decide +kernel
theorem dL_law_839 : decode cL_law 839 = .ok (.ireturn, 1) := by decide +kernel
theorem dL_law_840 : decode cL_law 840 = .ok (.goto 1149, 3) := by decide +kernel
theorem dL_law_843 : decode cL_law 843 = .ok (.aload_n 1, 1) := by decide +kernel
theorem dL_law_844 : decode cL_law 844 = .ok (.aload_n 0, 1) := by decide +kernel
theorem dL_law_845 : decode cL_law 845 = .ok (.iload 4, 2) := by decide +kernel
theorem dL_law_847 : decode cL_law 847 = .ok (.iconst 1, 1) := by decide +kernel
theorem dL_law_848 : decode cL_law 848 = .ok (.iadd, 1) := by decide +kernel
theorem dL_law_849 : decode cL_law 849 = .ok (.iaload, 1) := by decide +kernel
theorem dL_law_850 : decode cL_law 850 = .ok (.aload_n 3, 1) := by decide +kernel
theorem dL_law_851 : decode cL_law 851 = .ok (.invokestatic 136, 3) := by decide +kernel
theorem dL_law_854 : decode cL_law 854 = .ok (.istore 5, 2) := by decide +kernel
theorem dL_law_856 : decode cL_law 856 = .ok (.aload_n 2, 1) := by decide +kernel
theorem dL_law_857 : decode cL_law 857 = .ok (.aload_n 0, 1) := by decide +kernel
theorem dL_law_858 : decode cL_law 858 = .ok (.iload 4, 2) := by decide +kernel
theorem dL_law_860 : decode cL_law 860 = .ok (.iconst 1, 1) := by decide +kernel
theorem dL_law_861 : decode cL_law 861 = .ok (.iadd, 1) := by decide +kernel
theorem dL_law_862 : decode cL_law 862 = .ok (.iaload, 1) := by decide +kernel
theorem dL_law_863 : decode cL_law 863 = .ok (.invokevirtual 139, 3) := by decide +kernel
theorem dL_law_866 : decode cL_law 866 = .ok (.istore 6, 2) := by decide +kernel
theorem dL_law_868 : decode cL_law 868 = .ok (.aload_n 2, 1) := by decide +kernel
theorem dL_law_869 : decode cL_law 869 = .ok (.invokevirtual 105, 3) := by decide +kernel
theorem dL_law_872 : decode cL_law 872 = .ok (.iload 5, 2) := by decide +kernel
theorem dL_law_874 : decode cL_law 874 = .ok (.if_icmp .eq 5, 3) := by decide +kernel
theorem dL_law_877 : decode cL_law 877 = .ok (.iconst 0, 1) := by decide +kernel
theorem dL_law_878 : decode cL_law 878 = .ok (.ireturn, 1) := by decide +kernel
theorem dL_law_879 : decode cL_law 879 = .ok (.iload 5, 2) := by decide +kernel
theorem dL_law_881 : decode cL_law 881 = .ok (.ifCond .ne 15, 3) := by decide +kernel
theorem dL_law_884 : decode cL_law 884 = .ok (.aload_n 3, 1) := by decide +kernel
theorem dL_law_885 : decode cL_law 885 = .ok (.iconst 0, 1) := by decide +kernel
theorem dL_law_886 : decode cL_law 886 = .ok (.laload, 1) := by decide +kernel
theorem dL_law_887 : decode cL_law 887 = .ok (.iload 6, 2) := by decide +kernel
theorem dL_law_889 : decode cL_law 889 = .ok (.i2l, 1) := by decide +kernel
theorem dL_law_890 : decode cL_law 890 = .ok (.lcmp, 1) := by decide +kernel
theorem dL_law_891 : decode cL_law 891 = .ok (.ifCond .eq 5, 3) := by decide +kernel
theorem dL_law_894 : decode cL_law 894 = .ok (.iconst 0, 1) := by decide +kernel
theorem dL_law_895 : decode cL_law 895 = .ok (.ireturn, 1) := by decide +kernel
theorem dL_law_896 : decode cL_law 896 = .ok (.goto 1093, 3) := by decide +kernel
theorem dL_law_899 : decode cL_law 899 = .ok (.aload_n 1, 1) := by decide +kernel
theorem dL_law_900 : decode cL_law 900 = .ok (.aload_n 0, 1) := by decide +kernel
theorem dL_law_901 : decode cL_law 901 = .ok (.iload 4, 2) := by decide +kernel
theorem dL_law_903 : decode cL_law 903 = .ok (.iconst 1, 1) := by decide +kernel
theorem dL_law_904 : decode cL_law 904 = .ok (.iadd, 1) := by decide +kernel
theorem dL_law_905 : decode cL_law 905 = .ok (.iaload, 1) := by decide +kernel
theorem dL_law_906 : decode cL_law 906 = .ok (.aload_n 3, 1) := by decide +kernel
theorem dL_law_907 : decode cL_law 907 = .ok (.invokestatic 140, 3) := by decide +kernel
theorem dL_law_910 : decode cL_law 910 = .ok (.istore 5, 2) := by decide +kernel
theorem dL_law_912 : decode cL_law 912 = .ok (.aload_n 2, 1) := by decide +kernel
theorem dL_law_913 : decode cL_law 913 = .ok (.aload_n 0, 1) := by decide +kernel
theorem dL_law_914 : decode cL_law 914 = .ok (.iload 4, 2) := by decide +kernel
theorem dL_law_916 : decode cL_law 916 = .ok (.iconst 1, 1) := by decide +kernel
theorem dL_law_917 : decode cL_law 917 = .ok (.iadd, 1) := by decide +kernel
theorem dL_law_918 : decode cL_law 918 = .ok (.iaload, 1) := by decide +kernel
theorem dL_law_919 : decode cL_law 919 = .ok (.invokevirtual 142, 3) := by decide +kernel
theorem dL_law_922 : decode cL_law 922 = .ok (.istore 6, 2) := by decide +kernel
theorem dL_law_924 : decode cL_law 924 = .ok (.aload_n 2, 1) := by decide +kernel
theorem dL_law_925 : decode cL_law 925 = .ok (.invokevirtual 105, 3) := by decide +kernel
theorem dL_law_928 : decode cL_law 928 = .ok (.iload 5, 2) := by decide +kernel
theorem dL_law_930 : decode cL_law 930 = .ok (.if_icmp .eq 5, 3) := by decide +kernel
theorem dL_law_933 : decode cL_law 933 = .ok (.iconst 0, 1) := by decide +kernel
theorem dL_law_934 : decode cL_law 934 = .ok (.ireturn, 1) := by decide +kernel
theorem dL_law_935 : decode cL_law 935 = .ok (.iload 5, 2) := by decide +kernel
theorem dL_law_937 : decode cL_law 937 = .ok (.ifCond .ne 15, 3) := by decide +kernel
theorem dL_law_940 : decode cL_law 940 = .ok (.aload_n 3, 1) := by decide +kernel
theorem dL_law_941 : decode cL_law 941 = .ok (.iconst 0, 1) := by decide +kernel
theorem dL_law_942 : decode cL_law 942 = .ok (.laload, 1) := by decide +kernel
theorem dL_law_943 : decode cL_law 943 = .ok (.iload 6, 2) := by decide +kernel
theorem dL_law_945 : decode cL_law 945 = .ok (.i2l, 1) := by decide +kernel
theorem dL_law_946 : decode cL_law 946 = .ok (.lcmp, 1) := by decide +kernel
theorem dL_law_947 : decode cL_law 947 = .ok (.ifCond .eq 5, 3) := by decide +kernel
theorem dL_law_950 : decode cL_law 950 = .ok (.iconst 0, 1) := by decide +kernel
theorem dL_law_951 : decode cL_law 951 = .ok (.ireturn, 1) := by decide +kernel
theorem dL_law_952 : decode cL_law 952 = .ok (.goto 1037, 3) := by decide +kernel
theorem dL_law_955 : decode cL_law 955 = .ok (.aload_n 1, 1) := by decide +kernel
theorem dL_law_956 : decode cL_law 956 = .ok (.aload_n 0, 1) := by decide +kernel
theorem dL_law_957 : decode cL_law 957 = .ok (.iload 4, 2) := by decide +kernel
theorem dL_law_959 : decode cL_law 959 = .ok (.iconst 1, 1) := by decide +kernel
theorem dL_law_960 : decode cL_law 960 = .ok (.iadd, 1) := by decide +kernel
theorem dL_law_961 : decode cL_law 961 = .ok (.iaload, 1) := by decide +kernel
theorem dL_law_962 : decode cL_law 962 = .ok (.aload_n 0, 1) := by decide +kernel
theorem dL_law_963 : decode cL_law 963 = .ok (.iload 4, 2) := by decide +kernel
theorem dL_law_965 : decode cL_law 965 = .ok (.iconst 2, 1) := by decide +kernel
theorem dL_law_966 : decode cL_law 966 = .ok (.iadd, 1) := by decide +kernel
theorem dL_law_967 : decode cL_law 967 = .ok (.iaload, 1) := by decide +kernel
theorem dL_law_968 : decode cL_law 968 = .ok (.aload_n 3, 1) := by decide +kernel
theorem dL_law_969 : decode cL_law 969 = .ok (.invokestatic 143, 3) := by decide +kernel
theorem dL_law_972 : decode cL_law 972 = .ok (.istore 5, 2) := by decide +kernel
theorem dL_law_974 : decode cL_law 974 = .ok (.aload_n 2, 1) := by decide +kernel
theorem dL_law_975 : decode cL_law 975 = .ok (.aload_n 0, 1) := by decide +kernel
theorem dL_law_976 : decode cL_law 976 = .ok (.iload 4, 2) := by decide +kernel
theorem dL_law_978 : decode cL_law 978 = .ok (.iconst 1, 1) := by decide +kernel
theorem dL_law_979 : decode cL_law 979 = .ok (.iadd, 1) := by decide +kernel
theorem dL_law_980 : decode cL_law 980 = .ok (.iaload, 1) := by decide +kernel
theorem dL_law_981 : decode cL_law 981 = .ok (.aload_n 0, 1) := by decide +kernel
theorem dL_law_982 : decode cL_law 982 = .ok (.iload 4, 2) := by decide +kernel
theorem dL_law_984 : decode cL_law 984 = .ok (.iconst 2, 1) := by decide +kernel
theorem dL_law_985 : decode cL_law 985 = .ok (.iadd, 1) := by decide +kernel
theorem dL_law_986 : decode cL_law 986 = .ok (.iaload, 1) := by decide +kernel
theorem dL_law_987 : decode cL_law 987 = .ok (.invokevirtual 145, 3) := by decide +kernel
theorem dL_law_990 : decode cL_law 990 = .ok (.istore 6, 2) := by decide +kernel
theorem dL_law_992 : decode cL_law 992 = .ok (.aload_n 2, 1) := by decide +kernel
theorem dL_law_993 : decode cL_law 993 = .ok (.invokevirtual 105, 3) := by decide +kernel
theorem dL_law_996 : decode cL_law 996 = .ok (.iload 5, 2) := by decide +kernel
theorem dL_law_998 : decode cL_law 998 = .ok (.if_icmp .eq 5, 3) := by decide +kernel
theorem dL_law_1001 : decode cL_law 1001 = .ok (.iconst 0, 1) := by decide +kernel
theorem dL_law_1002 : decode cL_law 1002 = .ok (.ireturn, 1) := by decide +kernel
theorem dL_law_1003 : decode cL_law 1003 = .ok (.iload 5, 2) := by decide +kernel
theorem dL_law_1005 : decode cL_law 1005 = .ok (.ifCond .ne 22, 3) := by decide +kernel
theorem dL_law_1008 : decode cL_law 1008 = .ok (.aload_n 3, 1) := by decide +kernel
theorem dL_law_1009 : decode cL_law 1009 = .ok (.iconst 0, 1) := by decide +kernel
theorem dL_law_1010 : decode cL_law 1010 = .ok (.laload, 1) := by decide +kernel
theorem dL_law_1011 : decode cL_law 1011 = .ok (.iload 6, 2) := by decide +kernel
theorem dL_law_1013 : decode cL_law 1013 = .ok (.ifCond .eq 7, 3) := by decide +kernel
theorem dL_law_1016 : decode cL_law 1016 = .ok (.lconst 1, 1) := by decide +kernel
theorem dL_law_1017 : decode cL_law 1017 = .ok (.goto 4, 3) := by decide +kernel
theorem dL_law_1020 : decode cL_law 1020 = .ok (.lconst 0, 1) := by decide +kernel
theorem dL_law_1021 : decode cL_law 1021 = .ok (.lcmp, 1) := by decide +kernel
theorem dL_law_1022 : decode cL_law 1022 = .ok (.ifCond .eq 5, 3) := by decide +kernel
theorem dL_law_1025 : decode cL_law 1025 = .ok (.iconst 0, 1) := by decide +kernel
theorem dL_law_1026 : decode cL_law 1026 = .ok (.ireturn, 1) := by decide +kernel
theorem dL_law_1027 : decode cL_law 1027 = .ok (.goto 962, 3) := by decide +kernel
theorem dL_law_1030 : decode cL_law 1030 = .ok (.aload_n 1, 1) := by decide +kernel
theorem dL_law_1031 : decode cL_law 1031 = .ok (.aload_n 0, 1) := by decide +kernel
theorem dL_law_1032 : decode cL_law 1032 = .ok (.iload 4, 2) := by decide +kernel
theorem dL_law_1034 : decode cL_law 1034 = .ok (.iconst 1, 1) := by decide +kernel
theorem dL_law_1035 : decode cL_law 1035 = .ok (.iadd, 1) := by decide +kernel
theorem dL_law_1036 : decode cL_law 1036 = .ok (.iaload, 1) := by decide +kernel
theorem dL_law_1037 : decode cL_law 1037 = .ok (.aload_n 0, 1) := by decide +kernel
theorem dL_law_1038 : decode cL_law 1038 = .ok (.iload 4, 2) := by decide +kernel
theorem dL_law_1040 : decode cL_law 1040 = .ok (.iconst 2, 1) := by decide +kernel
theorem dL_law_1041 : decode cL_law 1041 = .ok (.iadd, 1) := by decide +kernel
theorem dL_law_1042 : decode cL_law 1042 = .ok (.iaload, 1) := by decide +kernel
theorem dL_law_1043 : decode cL_law 1043 = .ok (.aload_n 0, 1) := by decide +kernel
theorem dL_law_1044 : decode cL_law 1044 = .ok (.iload 4, 2) := by decide +kernel
theorem dL_law_1046 : decode cL_law 1046 = .ok (.iconst 3, 1) := by decide +kernel
theorem dL_law_1047 : decode cL_law 1047 = .ok (.iadd, 1) := by decide +kernel
theorem dL_law_1048 : decode cL_law 1048 = .ok (.iaload, 1) := by decide +kernel
theorem dL_law_1049 : decode cL_law 1049 = .ok (.aload_n 3, 1) := by decide +kernel
theorem dL_law_1050 : decode cL_law 1050 = .ok (.invokestatic 146, 3) := by decide +kernel
theorem dL_law_1053 : decode cL_law 1053 = .ok (.istore 5, 2) := by decide +kernel
theorem dL_law_1055 : decode cL_law 1055 = .ok (.aload_n 2, 1) := by decide +kernel
theorem dL_law_1056 : decode cL_law 1056 = .ok (.aload_n 0, 1) := by decide +kernel
theorem dL_law_1057 : decode cL_law 1057 = .ok (.iload 4, 2) := by decide +kernel
theorem dL_law_1059 : decode cL_law 1059 = .ok (.iconst 1, 1) := by decide +kernel
theorem dL_law_1060 : decode cL_law 1060 = .ok (.iadd, 1) := by decide +kernel
theorem dL_law_1061 : decode cL_law 1061 = .ok (.iaload, 1) := by decide +kernel
theorem dL_law_1062 : decode cL_law 1062 = .ok (.aload_n 0, 1) := by decide +kernel
theorem dL_law_1063 : decode cL_law 1063 = .ok (.iload 4, 2) := by decide +kernel
theorem dL_law_1065 : decode cL_law 1065 = .ok (.iconst 2, 1) := by decide +kernel
theorem dL_law_1066 : decode cL_law 1066 = .ok (.iadd, 1) := by decide +kernel
theorem dL_law_1067 : decode cL_law 1067 = .ok (.iaload, 1) := by decide +kernel
theorem dL_law_1068 : decode cL_law 1068 = .ok (.aload_n 0, 1) := by decide +kernel
theorem dL_law_1069 : decode cL_law 1069 = .ok (.iload 4, 2) := by decide +kernel
theorem dL_law_1071 : decode cL_law 1071 = .ok (.iconst 3, 1) := by decide +kernel
theorem dL_law_1072 : decode cL_law 1072 = .ok (.iadd, 1) := by decide +kernel
theorem dL_law_1073 : decode cL_law 1073 = .ok (.iaload, 1) := by decide +kernel
theorem dL_law_1074 : decode cL_law 1074 = .ok (.invokevirtual 148, 3) := by decide +kernel
theorem dL_law_1077 : decode cL_law 1077 = .ok (.istore 6, 2) := by decide +kernel
theorem dL_law_1079 : decode cL_law 1079 = .ok (.aload_n 2, 1) := by decide +kernel
theorem dL_law_1080 : decode cL_law 1080 = .ok (.invokevirtual 105, 3) := by decide +kernel
theorem dL_law_1083 : decode cL_law 1083 = .ok (.iload 5, 2) := by decide +kernel
theorem dL_law_1085 : decode cL_law 1085 = .ok (.if_icmp .eq 5, 3) := by decide +kernel
theorem dL_law_1088 : decode cL_law 1088 = .ok (.iconst 0, 1) := by decide +kernel
theorem dL_law_1089 : decode cL_law 1089 = .ok (.ireturn, 1) := by decide +kernel
theorem dL_law_1090 : decode cL_law 1090 = .ok (.iload 5, 2) := by decide +kernel
theorem dL_law_1092 : decode cL_law 1092 = .ok (.ifCond .ne 15, 3) := by decide +kernel
theorem dL_law_1095 : decode cL_law 1095 = .ok (.aload_n 3, 1) := by decide +kernel
theorem dL_law_1096 : decode cL_law 1096 = .ok (.iconst 0, 1) := by decide +kernel
theorem dL_law_1097 : decode cL_law 1097 = .ok (.laload, 1) := by decide +kernel
theorem dL_law_1098 : decode cL_law 1098 = .ok (.iload 6, 2) := by decide +kernel
theorem dL_law_1100 : decode cL_law 1100 = .ok (.i2l, 1) := by decide +kernel
theorem dL_law_1101 : decode cL_law 1101 = .ok (.lcmp, 1) := by decide +kernel
theorem dL_law_1102 : decode cL_law 1102 = .ok (.ifCond .eq 5, 3) := by decide +kernel
theorem dL_law_1105 : decode cL_law 1105 = .ok (.iconst 0, 1) := by decide +kernel
theorem dL_law_1106 : decode cL_law 1106 = .ok (.ireturn, 1) := by decide +kernel
theorem dL_law_1107 : decode cL_law 1107 = .ok (.goto 882, 3) := by decide +kernel
theorem dL_law_1110 : decode cL_law 1110 = .ok (.aload_n 1, 1) := by decide +kernel
theorem dL_law_1111 : decode cL_law 1111 = .ok (.aload_n 0, 1) := by decide +kernel
theorem dL_law_1112 : decode cL_law 1112 = .ok (.iload 4, 2) := by decide +kernel
theorem dL_law_1114 : decode cL_law 1114 = .ok (.iconst 1, 1) := by decide +kernel
theorem dL_law_1115 : decode cL_law 1115 = .ok (.iadd, 1) := by decide +kernel
theorem dL_law_1116 : decode cL_law 1116 = .ok (.iaload, 1) := by decide +kernel
theorem dL_law_1117 : decode cL_law 1117 = .ok (.aload_n 0, 1) := by decide +kernel
theorem dL_law_1118 : decode cL_law 1118 = .ok (.iload 4, 2) := by decide +kernel
theorem dL_law_1120 : decode cL_law 1120 = .ok (.iconst 2, 1) := by decide +kernel
theorem dL_law_1121 : decode cL_law 1121 = .ok (.iadd, 1) := by decide +kernel
theorem dL_law_1122 : decode cL_law 1122 = .ok (.iaload, 1) := by decide +kernel
theorem dL_law_1123 : decode cL_law 1123 = .ok (.aload_n 0, 1) := by decide +kernel
theorem dL_law_1124 : decode cL_law 1124 = .ok (.iload 4, 2) := by decide +kernel
theorem dL_law_1126 : decode cL_law 1126 = .ok (.iconst 3, 1) := by decide +kernel
theorem dL_law_1127 : decode cL_law 1127 = .ok (.iadd, 1) := by decide +kernel
theorem dL_law_1128 : decode cL_law 1128 = .ok (.iaload, 1) := by decide +kernel
theorem dL_law_1129 : decode cL_law 1129 = .ok (.aload_n 0, 1) := by decide +kernel
theorem dL_law_1130 : decode cL_law 1130 = .ok (.iload 4, 2) := by decide +kernel
theorem dL_law_1132 : decode cL_law 1132 = .ok (.iconst 4, 1) := by decide +kernel
theorem dL_law_1133 : decode cL_law 1133 = .ok (.iadd, 1) := by decide +kernel
theorem dL_law_1134 : decode cL_law 1134 = .ok (.iaload, 1) := by decide +kernel
theorem dL_law_1135 : decode cL_law 1135 = .ok (.ifCond .eq 7, 3) := by decide +kernel
theorem dL_law_1138 : decode cL_law 1138 = .ok (.iconst 1, 1) := by decide +kernel
theorem dL_law_1139 : decode cL_law 1139 = .ok (.goto 4, 3) := by decide +kernel
theorem dL_law_1142 : decode cL_law 1142 = .ok (.iconst 0, 1) := by decide +kernel
theorem dL_law_1143 : decode cL_law 1143 = .ok (.aload_n 3, 1) := by decide +kernel
theorem dL_law_1144 : decode cL_law 1144 = .ok (.invokestatic 149, 3) := by decide +kernel
theorem dL_law_1147 : decode cL_law 1147 = .ok (.istore 5, 2) := by decide +kernel
theorem dL_law_1149 : decode cL_law 1149 = .ok (.aload_n 2, 1) := by decide +kernel
theorem dL_law_1150 : decode cL_law 1150 = .ok (.aload_n 0, 1) := by decide +kernel
theorem dL_law_1151 : decode cL_law 1151 = .ok (.iload 4, 2) := by decide +kernel
theorem dL_law_1153 : decode cL_law 1153 = .ok (.iconst 1, 1) := by decide +kernel
theorem dL_law_1154 : decode cL_law 1154 = .ok (.iadd, 1) := by decide +kernel
theorem dL_law_1155 : decode cL_law 1155 = .ok (.iaload, 1) := by decide +kernel
theorem dL_law_1156 : decode cL_law 1156 = .ok (.aload_n 0, 1) := by decide +kernel
theorem dL_law_1157 : decode cL_law 1157 = .ok (.iload 4, 2) := by decide +kernel
theorem dL_law_1159 : decode cL_law 1159 = .ok (.iconst 2, 1) := by decide +kernel
theorem dL_law_1160 : decode cL_law 1160 = .ok (.iadd, 1) := by decide +kernel
theorem dL_law_1161 : decode cL_law 1161 = .ok (.iaload, 1) := by decide +kernel
theorem dL_law_1162 : decode cL_law 1162 = .ok (.aload_n 0, 1) := by decide +kernel
theorem dL_law_1163 : decode cL_law 1163 = .ok (.iload 4, 2) := by decide +kernel
theorem dL_law_1165 : decode cL_law 1165 = .ok (.iconst 3, 1) := by decide +kernel
theorem dL_law_1166 : decode cL_law 1166 = .ok (.iadd, 1) := by decide +kernel
theorem dL_law_1167 : decode cL_law 1167 = .ok (.iaload, 1) := by decide +kernel
theorem dL_law_1168 : decode cL_law 1168 = .ok (.aload_n 0, 1) := by decide +kernel
theorem dL_law_1169 : decode cL_law 1169 = .ok (.iload 4, 2) := by decide +kernel
theorem dL_law_1171 : decode cL_law 1171 = .ok (.iconst 4, 1) := by decide +kernel
theorem dL_law_1172 : decode cL_law 1172 = .ok (.iadd, 1) := by decide +kernel
theorem dL_law_1173 : decode cL_law 1173 = .ok (.iaload, 1) := by decide +kernel
theorem dL_law_1174 : decode cL_law 1174 = .ok (.ifCond .eq 7, 3) := by decide +kernel
theorem dL_law_1177 : decode cL_law 1177 = .ok (.iconst 1, 1) := by decide +kernel
theorem dL_law_1178 : decode cL_law 1178 = .ok (.goto 4, 3) := by decide +kernel
theorem dL_law_1181 : decode cL_law 1181 = .ok (.iconst 0, 1) := by decide +kernel
theorem dL_law_1182 : decode cL_law 1182 = .ok (.invokevirtual 152, 3) := by decide +kernel
theorem dL_law_1185 : decode cL_law 1185 = .ok (.istore 6, 2) := by decide +kernel
theorem dL_law_1187 : decode cL_law 1187 = .ok (.aload_n 2, 1) := by decide +kernel
theorem dL_law_1188 : decode cL_law 1188 = .ok (.invokevirtual 105, 3) := by decide +kernel
theorem dL_law_1191 : decode cL_law 1191 = .ok (.iload 5, 2) := by decide +kernel
theorem dL_law_1193 : decode cL_law 1193 = .ok (.if_icmp .eq 5, 3) := by decide +kernel
theorem dL_law_1196 : decode cL_law 1196 = .ok (.iconst 0, 1) := by decide +kernel
theorem dL_law_1197 : decode cL_law 1197 = .ok (.ireturn, 1) := by decide +kernel
theorem dL_law_1198 : decode cL_law 1198 = .ok (.iload 5, 2) := by decide +kernel
theorem dL_law_1200 : decode cL_law 1200 = .ok (.ifCond .ne 15, 3) := by decide +kernel
theorem dL_law_1203 : decode cL_law 1203 = .ok (.aload_n 3, 1) := by decide +kernel
theorem dL_law_1204 : decode cL_law 1204 = .ok (.iconst 0, 1) := by decide +kernel
theorem dL_law_1205 : decode cL_law 1205 = .ok (.laload, 1) := by decide +kernel
theorem dL_law_1206 : decode cL_law 1206 = .ok (.iload 6, 2) := by decide +kernel
theorem dL_law_1208 : decode cL_law 1208 = .ok (.i2l, 1) := by decide +kernel
theorem dL_law_1209 : decode cL_law 1209 = .ok (.lcmp, 1) := by decide +kernel
theorem dL_law_1210 : decode cL_law 1210 = .ok (.ifCond .eq 5, 3) := by decide +kernel
theorem dL_law_1213 : decode cL_law 1213 = .ok (.iconst 0, 1) := by decide +kernel
theorem dL_law_1214 : decode cL_law 1214 = .ok (.ireturn, 1) := by decide +kernel
theorem dL_law_1215 : decode cL_law 1215 = .ok (.goto 774, 3) := by decide +kernel
theorem dL_law_1218 : decode cL_law 1218 = .ok (.aload_n 1, 1) := by decide +kernel
theorem dL_law_1219 : decode cL_law 1219 = .ok (.aload_n 0, 1) := by decide +kernel
theorem dL_law_1220 : decode cL_law 1220 = .ok (.iload 4, 2) := by decide +kernel
theorem dL_law_1222 : decode cL_law 1222 = .ok (.iconst 1, 1) := by decide +kernel
theorem dL_law_1223 : decode cL_law 1223 = .ok (.iadd, 1) := by decide +kernel
theorem dL_law_1224 : decode cL_law 1224 = .ok (.iaload, 1) := by decide +kernel
theorem dL_law_1225 : decode cL_law 1225 = .ok (.aload_n 0, 1) := by decide +kernel
theorem dL_law_1226 : decode cL_law 1226 = .ok (.iload 4, 2) := by decide +kernel
theorem dL_law_1228 : decode cL_law 1228 = .ok (.iconst 2, 1) := by decide +kernel
theorem dL_law_1229 : decode cL_law 1229 = .ok (.iadd, 1) := by decide +kernel
theorem dL_law_1230 : decode cL_law 1230 = .ok (.iaload, 1) := by decide +kernel
theorem dL_law_1231 : decode cL_law 1231 = .ok (.aload_n 3, 1) := by decide +kernel
theorem dL_law_1232 : decode cL_law 1232 = .ok (.invokestatic 153, 3) := by decide +kernel
theorem dL_law_1235 : decode cL_law 1235 = .ok (.istore 5, 2) := by decide +kernel
theorem dL_law_1237 : decode cL_law 1237 = .ok (.aload_n 2, 1) := by decide +kernel
theorem dL_law_1238 : decode cL_law 1238 = .ok (.aload_n 0, 1) := by decide +kernel
theorem dL_law_1239 : decode cL_law 1239 = .ok (.iload 4, 2) := by decide +kernel
theorem dL_law_1241 : decode cL_law 1241 = .ok (.iconst 1, 1) := by decide +kernel
theorem dL_law_1242 : decode cL_law 1242 = .ok (.iadd, 1) := by decide +kernel
theorem dL_law_1243 : decode cL_law 1243 = .ok (.iaload, 1) := by decide +kernel
theorem dL_law_1244 : decode cL_law 1244 = .ok (.aload_n 0, 1) := by decide +kernel
theorem dL_law_1245 : decode cL_law 1245 = .ok (.iload 4, 2) := by decide +kernel
theorem dL_law_1247 : decode cL_law 1247 = .ok (.iconst 2, 1) := by decide +kernel
theorem dL_law_1248 : decode cL_law 1248 = .ok (.iadd, 1) := by decide +kernel
theorem dL_law_1249 : decode cL_law 1249 = .ok (.iaload, 1) := by decide +kernel
theorem dL_law_1250 : decode cL_law 1250 = .ok (.invokevirtual 155, 3) := by decide +kernel
theorem dL_law_1253 : decode cL_law 1253 = .ok (.istore 6, 2) := by decide +kernel
theorem dL_law_1255 : decode cL_law 1255 = .ok (.aload_n 2, 1) := by decide +kernel
theorem dL_law_1256 : decode cL_law 1256 = .ok (.invokevirtual 105, 3) := by decide +kernel
theorem dL_law_1259 : decode cL_law 1259 = .ok (.iload 5, 2) := by decide +kernel
theorem dL_law_1261 : decode cL_law 1261 = .ok (.if_icmp .eq 5, 3) := by decide +kernel
theorem dL_law_1264 : decode cL_law 1264 = .ok (.iconst 0, 1) := by decide +kernel
theorem dL_law_1265 : decode cL_law 1265 = .ok (.ireturn, 1) := by decide +kernel
theorem dL_law_1266 : decode cL_law 1266 = .ok (.iload 5, 2) := by decide +kernel
theorem dL_law_1268 : decode cL_law 1268 = .ok (.ifCond .ne 15, 3) := by decide +kernel
theorem dL_law_1271 : decode cL_law 1271 = .ok (.aload_n 3, 1) := by decide +kernel
theorem dL_law_1272 : decode cL_law 1272 = .ok (.iconst 0, 1) := by decide +kernel
theorem dL_law_1273 : decode cL_law 1273 = .ok (.laload, 1) := by decide +kernel
theorem dL_law_1274 : decode cL_law 1274 = .ok (.iload 6, 2) := by decide +kernel
theorem dL_law_1276 : decode cL_law 1276 = .ok (.i2l, 1) := by decide +kernel
theorem dL_law_1277 : decode cL_law 1277 = .ok (.lcmp, 1) := by decide +kernel
theorem dL_law_1278 : decode cL_law 1278 = .ok (.ifCond .eq 5, 3) := by decide +kernel
theorem dL_law_1281 : decode cL_law 1281 = .ok (.iconst 0, 1) := by decide +kernel
theorem dL_law_1282 : decode cL_law 1282 = .ok (.ireturn, 1) := by decide +kernel
theorem dL_law_1283 : decode cL_law 1283 = .ok (.goto 706, 3) := by decide +kernel
theorem dL_law_1286 : decode cL_law 1286 = .ok (.aload_n 1, 1) := by decide +kernel
theorem dL_law_1287 : decode cL_law 1287 = .ok (.aload_n 0, 1) := by decide +kernel
theorem dL_law_1288 : decode cL_law 1288 = .ok (.iload 4, 2) := by decide +kernel
theorem dL_law_1290 : decode cL_law 1290 = .ok (.iconst 1, 1) := by decide +kernel
theorem dL_law_1291 : decode cL_law 1291 = .ok (.iadd, 1) := by decide +kernel
theorem dL_law_1292 : decode cL_law 1292 = .ok (.iaload, 1) := by decide +kernel
theorem dL_law_1293 : decode cL_law 1293 = .ok (.aload_n 0, 1) := by decide +kernel
theorem dL_law_1294 : decode cL_law 1294 = .ok (.iload 4, 2) := by decide +kernel
theorem dL_law_1296 : decode cL_law 1296 = .ok (.iconst 2, 1) := by decide +kernel
theorem dL_law_1297 : decode cL_law 1297 = .ok (.iadd, 1) := by decide +kernel
theorem dL_law_1298 : decode cL_law 1298 = .ok (.iaload, 1) := by decide +kernel
theorem dL_law_1299 : decode cL_law 1299 = .ok (.aload_n 3, 1) := by decide +kernel
theorem dL_law_1300 : decode cL_law 1300 = .ok (.invokestatic 156, 3) := by decide +kernel
theorem dL_law_1303 : decode cL_law 1303 = .ok (.istore 5, 2) := by decide +kernel
theorem dL_law_1305 : decode cL_law 1305 = .ok (.aload_n 2, 1) := by decide +kernel
theorem dL_law_1306 : decode cL_law 1306 = .ok (.aload_n 0, 1) := by decide +kernel
theorem dL_law_1307 : decode cL_law 1307 = .ok (.iload 4, 2) := by decide +kernel
theorem dL_law_1309 : decode cL_law 1309 = .ok (.iconst 1, 1) := by decide +kernel
theorem dL_law_1310 : decode cL_law 1310 = .ok (.iadd, 1) := by decide +kernel
theorem dL_law_1311 : decode cL_law 1311 = .ok (.iaload, 1) := by decide +kernel
theorem dL_law_1312 : decode cL_law 1312 = .ok (.aload_n 0, 1) := by decide +kernel
theorem dL_law_1313 : decode cL_law 1313 = .ok (.iload 4, 2) := by decide +kernel
theorem dL_law_1315 : decode cL_law 1315 = .ok (.iconst 2, 1) := by decide +kernel
theorem dL_law_1316 : decode cL_law 1316 = .ok (.iadd, 1) := by decide +kernel
theorem dL_law_1317 : decode cL_law 1317 = .ok (.iaload, 1) := by decide +kernel
theorem dL_law_1318 : decode cL_law 1318 = .ok (.invokevirtual 158, 3) := by decide +kernel
theorem dL_law_1321 : decode cL_law 1321 = .ok (.istore 6, 2) := by decide +kernel
theorem dL_law_1323 : decode cL_law 1323 = .ok (.aload_n 2, 1) := by decide +kernel
theorem dL_law_1324 : decode cL_law 1324 = .ok (.invokevirtual 105, 3) := by decide +kernel
theorem dL_law_1327 : decode cL_law 1327 = .ok (.iload 5, 2) := by decide +kernel
theorem dL_law_1329 : decode cL_law 1329 = .ok (.if_icmp .eq 5, 3) := by decide +kernel
theorem dL_law_1332 : decode cL_law 1332 = .ok (.iconst 0, 1) := by decide +kernel
theorem dL_law_1333 : decode cL_law 1333 = .ok (.ireturn, 1) := by decide +kernel
theorem dL_law_1334 : decode cL_law 1334 = .ok (.iload 5, 2) := by decide +kernel
theorem dL_law_1336 : decode cL_law 1336 = .ok (.ifCond .ne 15, 3) := by decide +kernel
theorem dL_law_1339 : decode cL_law 1339 = .ok (.aload_n 3, 1) := by decide +kernel
theorem dL_law_1340 : decode cL_law 1340 = .ok (.iconst 0, 1) := by decide +kernel
theorem dL_law_1341 : decode cL_law 1341 = .ok (.laload, 1) := by decide +kernel
theorem dL_law_1342 : decode cL_law 1342 = .ok (.iload 6, 2) := by decide +kernel
theorem dL_law_1344 : decode cL_law 1344 = .ok (.i2l, 1) := by decide +kernel
theorem dL_law_1345 : decode cL_law 1345 = .ok (.lcmp, 1) := by decide +kernel
theorem dL_law_1346 : decode cL_law 1346 = .ok (.ifCond .eq 5, 3) := by decide +kernel
theorem dL_law_1349 : decode cL_law 1349 = .ok (.iconst 0, 1) := by decide +kernel
theorem dL_law_1350 : decode cL_law 1350 = .ok (.ireturn, 1) := by decide +kernel
theorem dL_law_1351 : decode cL_law 1351 = .ok (.goto 638, 3) := by decide +kernel
theorem dL_law_1354 : decode cL_law 1354 = .ok (.aload_n 1, 1) := by decide +kernel
theorem dL_law_1355 : decode cL_law 1355 = .ok (.aload_n 0, 1) := by decide +kernel
theorem dL_law_1356 : decode cL_law 1356 = .ok (.iload 4, 2) := by decide +kernel
theorem dL_law_1358 : decode cL_law 1358 = .ok (.iconst 1, 1) := by decide +kernel
theorem dL_law_1359 : decode cL_law 1359 = .ok (.iadd, 1) := by decide +kernel
theorem dL_law_1360 : decode cL_law 1360 = .ok (.iaload, 1) := by decide +kernel
theorem dL_law_1361 : decode cL_law 1361 = .ok (.aload_n 0, 1) := by decide +kernel
theorem dL_law_1362 : decode cL_law 1362 = .ok (.iload 4, 2) := by decide +kernel
theorem dL_law_1364 : decode cL_law 1364 = .ok (.iconst 2, 1) := by decide +kernel
theorem dL_law_1365 : decode cL_law 1365 = .ok (.iadd, 1) := by decide +kernel
theorem dL_law_1366 : decode cL_law 1366 = .ok (.iaload, 1) := by decide +kernel
theorem dL_law_1367 : decode cL_law 1367 = .ok (.aload_n 3, 1) := by decide +kernel
theorem dL_law_1368 : decode cL_law 1368 = .ok (.invokestatic 159, 3) := by decide +kernel
theorem dL_law_1371 : decode cL_law 1371 = .ok (.istore 5, 2) := by decide +kernel
theorem dL_law_1373 : decode cL_law 1373 = .ok (.aload_n 2, 1) := by decide +kernel
theorem dL_law_1374 : decode cL_law 1374 = .ok (.aload_n 0, 1) := by decide +kernel
theorem dL_law_1375 : decode cL_law 1375 = .ok (.iload 4, 2) := by decide +kernel
theorem dL_law_1377 : decode cL_law 1377 = .ok (.iconst 1, 1) := by decide +kernel
theorem dL_law_1378 : decode cL_law 1378 = .ok (.iadd, 1) := by decide +kernel
theorem dL_law_1379 : decode cL_law 1379 = .ok (.iaload, 1) := by decide +kernel
theorem dL_law_1380 : decode cL_law 1380 = .ok (.aload_n 0, 1) := by decide +kernel
theorem dL_law_1381 : decode cL_law 1381 = .ok (.iload 4, 2) := by decide +kernel
theorem dL_law_1383 : decode cL_law 1383 = .ok (.iconst 2, 1) := by decide +kernel
theorem dL_law_1384 : decode cL_law 1384 = .ok (.iadd, 1) := by decide +kernel
theorem dL_law_1385 : decode cL_law 1385 = .ok (.iaload, 1) := by decide +kernel
theorem dL_law_1386 : decode cL_law 1386 = .ok (.invokevirtual 161, 3) := by decide +kernel
theorem dL_law_1389 : decode cL_law 1389 = .ok (.istore 6, 2) := by decide +kernel
theorem dL_law_1391 : decode cL_law 1391 = .ok (.aload_n 2, 1) := by decide +kernel
theorem dL_law_1392 : decode cL_law 1392 = .ok (.invokevirtual 105, 3) := by decide +kernel
theorem dL_law_1395 : decode cL_law 1395 = .ok (.iload 5, 2) := by decide +kernel
theorem dL_law_1397 : decode cL_law 1397 = .ok (.if_icmp .eq 5, 3) := by decide +kernel
theorem dL_law_1400 : decode cL_law 1400 = .ok (.iconst 0, 1) := by decide +kernel
theorem dL_law_1401 : decode cL_law 1401 = .ok (.ireturn, 1) := by decide +kernel
theorem dL_law_1402 : decode cL_law 1402 = .ok (.iload 5, 2) := by decide +kernel
theorem dL_law_1404 : decode cL_law 1404 = .ok (.ifCond .ne 15, 3) := by decide +kernel
theorem dL_law_1407 : decode cL_law 1407 = .ok (.aload_n 3, 1) := by decide +kernel
theorem dL_law_1408 : decode cL_law 1408 = .ok (.iconst 0, 1) := by decide +kernel
theorem dL_law_1409 : decode cL_law 1409 = .ok (.laload, 1) := by decide +kernel
theorem dL_law_1410 : decode cL_law 1410 = .ok (.iload 6, 2) := by decide +kernel
theorem dL_law_1412 : decode cL_law 1412 = .ok (.i2l, 1) := by decide +kernel
theorem dL_law_1413 : decode cL_law 1413 = .ok (.lcmp, 1) := by decide +kernel
theorem dL_law_1414 : decode cL_law 1414 = .ok (.ifCond .eq 5, 3) := by decide +kernel
theorem dL_law_1417 : decode cL_law 1417 = .ok (.iconst 0, 1) := by decide +kernel
theorem dL_law_1418 : decode cL_law 1418 = .ok (.ireturn, 1) := by decide +kernel
theorem dL_law_1419 : decode cL_law 1419 = .ok (.goto 570, 3) := by decide +kernel
theorem dL_law_1422 : decode cL_law 1422 = .ok (.aload_n 1, 1) := by decide +kernel
theorem dL_law_1423 : decode cL_law 1423 = .ok (.aload_n 0, 1) := by decide +kernel
theorem dL_law_1424 : decode cL_law 1424 = .ok (.iload 4, 2) := by decide +kernel
theorem dL_law_1426 : decode cL_law 1426 = .ok (.iconst 1, 1) := by decide +kernel
theorem dL_law_1427 : decode cL_law 1427 = .ok (.iadd, 1) := by decide +kernel
theorem dL_law_1428 : decode cL_law 1428 = .ok (.iaload, 1) := by decide +kernel
theorem dL_law_1429 : decode cL_law 1429 = .ok (.aload_n 0, 1) := by decide +kernel
theorem dL_law_1430 : decode cL_law 1430 = .ok (.iload 4, 2) := by decide +kernel
theorem dL_law_1432 : decode cL_law 1432 = .ok (.iconst 2, 1) := by decide +kernel
theorem dL_law_1433 : decode cL_law 1433 = .ok (.iadd, 1) := by decide +kernel
theorem dL_law_1434 : decode cL_law 1434 = .ok (.iaload, 1) := by decide +kernel
theorem dL_law_1435 : decode cL_law 1435 = .ok (.aload_n 0, 1) := by decide +kernel
theorem dL_law_1436 : decode cL_law 1436 = .ok (.iload 4, 2) := by decide +kernel
theorem dL_law_1438 : decode cL_law 1438 = .ok (.iconst 3, 1) := by decide +kernel
theorem dL_law_1439 : decode cL_law 1439 = .ok (.iadd, 1) := by decide +kernel
theorem dL_law_1440 : decode cL_law 1440 = .ok (.iaload, 1) := by decide +kernel
theorem dL_law_1441 : decode cL_law 1441 = .ok (.aload_n 3, 1) := by decide +kernel
theorem dL_law_1442 : decode cL_law 1442 = .ok (.invokestatic 162, 3) := by decide +kernel
theorem dL_law_1445 : decode cL_law 1445 = .ok (.istore 5, 2) := by decide +kernel
theorem dL_law_1447 : decode cL_law 1447 = .ok (.aload_n 2, 1) := by decide +kernel
theorem dL_law_1448 : decode cL_law 1448 = .ok (.aload_n 0, 1) := by decide +kernel
theorem dL_law_1449 : decode cL_law 1449 = .ok (.iload 4, 2) := by decide +kernel
theorem dL_law_1451 : decode cL_law 1451 = .ok (.iconst 1, 1) := by decide +kernel
theorem dL_law_1452 : decode cL_law 1452 = .ok (.iadd, 1) := by decide +kernel
theorem dL_law_1453 : decode cL_law 1453 = .ok (.iaload, 1) := by decide +kernel
theorem dL_law_1454 : decode cL_law 1454 = .ok (.aload_n 0, 1) := by decide +kernel
theorem dL_law_1455 : decode cL_law 1455 = .ok (.iload 4, 2) := by decide +kernel
theorem dL_law_1457 : decode cL_law 1457 = .ok (.iconst 2, 1) := by decide +kernel
theorem dL_law_1458 : decode cL_law 1458 = .ok (.iadd, 1) := by decide +kernel
theorem dL_law_1459 : decode cL_law 1459 = .ok (.iaload, 1) := by decide +kernel
theorem dL_law_1460 : decode cL_law 1460 = .ok (.aload_n 0, 1) := by decide +kernel
theorem dL_law_1461 : decode cL_law 1461 = .ok (.iload 4, 2) := by decide +kernel
theorem dL_law_1463 : decode cL_law 1463 = .ok (.iconst 3, 1) := by decide +kernel
theorem dL_law_1464 : decode cL_law 1464 = .ok (.iadd, 1) := by decide +kernel
theorem dL_law_1465 : decode cL_law 1465 = .ok (.iaload, 1) := by decide +kernel
theorem dL_law_1466 : decode cL_law 1466 = .ok (.invokevirtual 164, 3) := by decide +kernel
theorem dL_law_1469 : decode cL_law 1469 = .ok (.istore 6, 2) := by decide +kernel
theorem dL_law_1471 : decode cL_law 1471 = .ok (.aload_n 2, 1) := by decide +kernel
theorem dL_law_1472 : decode cL_law 1472 = .ok (.invokevirtual 105, 3) := by decide +kernel
theorem dL_law_1475 : decode cL_law 1475 = .ok (.iload 5, 2) := by decide +kernel
theorem dL_law_1477 : decode cL_law 1477 = .ok (.if_icmp .eq 5, 3) := by decide +kernel
theorem dL_law_1480 : decode cL_law 1480 = .ok (.iconst 0, 1) := by decide +kernel
theorem dL_law_1481 : decode cL_law 1481 = .ok (.ireturn, 1) := by decide +kernel
theorem dL_law_1482 : decode cL_law 1482 = .ok (.iload 5, 2) := by decide +kernel
theorem dL_law_1484 : decode cL_law 1484 = .ok (.ifCond .ne 15, 3) := by decide +kernel
theorem dL_law_1487 : decode cL_law 1487 = .ok (.aload_n 3, 1) := by decide +kernel
theorem dL_law_1488 : decode cL_law 1488 = .ok (.iconst 0, 1) := by decide +kernel
theorem dL_law_1489 : decode cL_law 1489 = .ok (.laload, 1) := by decide +kernel
theorem dL_law_1490 : decode cL_law 1490 = .ok (.iload 6, 2) := by decide +kernel
theorem dL_law_1492 : decode cL_law 1492 = .ok (.i2l, 1) := by decide +kernel
theorem dL_law_1493 : decode cL_law 1493 = .ok (.lcmp, 1) := by decide +kernel
theorem dL_law_1494 : decode cL_law 1494 = .ok (.ifCond .eq 5, 3) := by decide +kernel
theorem dL_law_1497 : decode cL_law 1497 = .ok (.iconst 0, 1) := by decide +kernel
theorem dL_law_1498 : decode cL_law 1498 = .ok (.ireturn, 1) := by decide +kernel
theorem dL_law_1499 : decode cL_law 1499 = .ok (.goto 490, 3) := by decide +kernel
theorem dL_law_1502 : decode cL_law 1502 = .ok (.aload_n 1, 1) := by decide +kernel
theorem dL_law_1503 : decode cL_law 1503 = .ok (.aload_n 0, 1) := by decide +kernel
theorem dL_law_1504 : decode cL_law 1504 = .ok (.iload 4, 2) := by decide +kernel
theorem dL_law_1506 : decode cL_law 1506 = .ok (.iconst 1, 1) := by decide +kernel
theorem dL_law_1507 : decode cL_law 1507 = .ok (.iadd, 1) := by decide +kernel
theorem dL_law_1508 : decode cL_law 1508 = .ok (.iaload, 1) := by decide +kernel
theorem dL_law_1509 : decode cL_law 1509 = .ok (.aload_n 0, 1) := by decide +kernel
theorem dL_law_1510 : decode cL_law 1510 = .ok (.iload 4, 2) := by decide +kernel
theorem dL_law_1512 : decode cL_law 1512 = .ok (.iconst 2, 1) := by decide +kernel
theorem dL_law_1513 : decode cL_law 1513 = .ok (.iadd, 1) := by decide +kernel
theorem dL_law_1514 : decode cL_law 1514 = .ok (.iaload, 1) := by decide +kernel
theorem dL_law_1515 : decode cL_law 1515 = .ok (.aload_n 3, 1) := by decide +kernel
theorem dL_law_1516 : decode cL_law 1516 = .ok (.invokestatic 165, 3) := by decide +kernel
theorem dL_law_1519 : decode cL_law 1519 = .ok (.istore 5, 2) := by decide +kernel
theorem dL_law_1521 : decode cL_law 1521 = .ok (.aload_n 2, 1) := by decide +kernel
theorem dL_law_1522 : decode cL_law 1522 = .ok (.aload_n 0, 1) := by decide +kernel
theorem dL_law_1523 : decode cL_law 1523 = .ok (.iload 4, 2) := by decide +kernel
theorem dL_law_1525 : decode cL_law 1525 = .ok (.iconst 1, 1) := by decide +kernel
theorem dL_law_1526 : decode cL_law 1526 = .ok (.iadd, 1) := by decide +kernel
theorem dL_law_1527 : decode cL_law 1527 = .ok (.iaload, 1) := by decide +kernel
theorem dL_law_1528 : decode cL_law 1528 = .ok (.aload_n 0, 1) := by decide +kernel
theorem dL_law_1529 : decode cL_law 1529 = .ok (.iload 4, 2) := by decide +kernel
theorem dL_law_1531 : decode cL_law 1531 = .ok (.iconst 2, 1) := by decide +kernel
theorem dL_law_1532 : decode cL_law 1532 = .ok (.iadd, 1) := by decide +kernel
theorem dL_law_1533 : decode cL_law 1533 = .ok (.iaload, 1) := by decide +kernel
theorem dL_law_1534 : decode cL_law 1534 = .ok (.invokevirtual 167, 3) := by decide +kernel
theorem dL_law_1537 : decode cL_law 1537 = .ok (.istore 6, 2) := by decide +kernel
theorem dL_law_1539 : decode cL_law 1539 = .ok (.aload_n 2, 1) := by decide +kernel
theorem dL_law_1540 : decode cL_law 1540 = .ok (.invokevirtual 105, 3) := by decide +kernel
theorem dL_law_1543 : decode cL_law 1543 = .ok (.iload 5, 2) := by decide +kernel
theorem dL_law_1545 : decode cL_law 1545 = .ok (.if_icmp .eq 5, 3) := by decide +kernel
theorem dL_law_1548 : decode cL_law 1548 = .ok (.iconst 0, 1) := by decide +kernel
theorem dL_law_1549 : decode cL_law 1549 = .ok (.ireturn, 1) := by decide +kernel
theorem dL_law_1550 : decode cL_law 1550 = .ok (.iload 5, 2) := by decide +kernel
theorem dL_law_1552 : decode cL_law 1552 = .ok (.ifCond .ne 15, 3) := by decide +kernel
theorem dL_law_1555 : decode cL_law 1555 = .ok (.aload_n 3, 1) := by decide +kernel
theorem dL_law_1556 : decode cL_law 1556 = .ok (.iconst 0, 1) := by decide +kernel
theorem dL_law_1557 : decode cL_law 1557 = .ok (.laload, 1) := by decide +kernel
theorem dL_law_1558 : decode cL_law 1558 = .ok (.iload 6, 2) := by decide +kernel
theorem dL_law_1560 : decode cL_law 1560 = .ok (.i2l, 1) := by decide +kernel
theorem dL_law_1561 : decode cL_law 1561 = .ok (.lcmp, 1) := by decide +kernel
theorem dL_law_1562 : decode cL_law 1562 = .ok (.ifCond .eq 5, 3) := by decide +kernel
theorem dL_law_1565 : decode cL_law 1565 = .ok (.iconst 0, 1) := by decide +kernel
theorem dL_law_1566 : decode cL_law 1566 = .ok (.ireturn, 1) := by decide +kernel
theorem dL_law_1567 : decode cL_law 1567 = .ok (.goto 422, 3) := by decide +kernel
theorem dL_law_1570 : decode cL_law 1570 = .ok (.aload_n 1, 1) := by decide +kernel
theorem dL_law_1571 : decode cL_law 1571 = .ok (.aload_n 0, 1) := by decide +kernel
theorem dL_law_1572 : decode cL_law 1572 = .ok (.iload 4, 2) := by decide +kernel
theorem dL_law_1574 : decode cL_law 1574 = .ok (.iconst 1, 1) := by decide +kernel
theorem dL_law_1575 : decode cL_law 1575 = .ok (.iadd, 1) := by decide +kernel
theorem dL_law_1576 : decode cL_law 1576 = .ok (.iaload, 1) := by decide +kernel
theorem dL_law_1577 : decode cL_law 1577 = .ok (.aload_n 3, 1) := by decide +kernel
theorem dL_law_1578 : decode cL_law 1578 = .ok (.invokestatic 168, 3) := by decide +kernel
theorem dL_law_1581 : decode cL_law 1581 = .ok (.istore 5, 2) := by decide +kernel
theorem dL_law_1583 : decode cL_law 1583 = .ok (.aload_n 2, 1) := by decide +kernel
theorem dL_law_1584 : decode cL_law 1584 = .ok (.aload_n 0, 1) := by decide +kernel
theorem dL_law_1585 : decode cL_law 1585 = .ok (.iload 4, 2) := by decide +kernel
theorem dL_law_1587 : decode cL_law 1587 = .ok (.iconst 1, 1) := by decide +kernel
theorem dL_law_1588 : decode cL_law 1588 = .ok (.iadd, 1) := by decide +kernel
theorem dL_law_1589 : decode cL_law 1589 = .ok (.iaload, 1) := by decide +kernel
theorem dL_law_1590 : decode cL_law 1590 = .ok (.invokevirtual 170, 3) := by decide +kernel
theorem dL_law_1593 : decode cL_law 1593 = .ok (.istore 6, 2) := by decide +kernel
theorem dL_law_1595 : decode cL_law 1595 = .ok (.aload_n 2, 1) := by decide +kernel
theorem dL_law_1596 : decode cL_law 1596 = .ok (.invokevirtual 105, 3) := by decide +kernel
theorem dL_law_1599 : decode cL_law 1599 = .ok (.iload 5, 2) := by decide +kernel
theorem dL_law_1601 : decode cL_law 1601 = .ok (.if_icmp .eq 5, 3) := by decide +kernel
theorem dL_law_1604 : decode cL_law 1604 = .ok (.iconst 0, 1) := by decide +kernel
theorem dL_law_1605 : decode cL_law 1605 = .ok (.ireturn, 1) := by decide +kernel
theorem dL_law_1606 : decode cL_law 1606 = .ok (.iload 5, 2) := by decide +kernel
theorem dL_law_1608 : decode cL_law 1608 = .ok (.ifCond .ne 15, 3) := by decide +kernel
theorem dL_law_1611 : decode cL_law 1611 = .ok (.aload_n 3, 1) := by decide +kernel
theorem dL_law_1612 : decode cL_law 1612 = .ok (.iconst 0, 1) := by decide +kernel
theorem dL_law_1613 : decode cL_law 1613 = .ok (.laload, 1) := by decide +kernel
theorem dL_law_1614 : decode cL_law 1614 = .ok (.iload 6, 2) := by decide +kernel
theorem dL_law_1616 : decode cL_law 1616 = .ok (.i2l, 1) := by decide +kernel
theorem dL_law_1617 : decode cL_law 1617 = .ok (.lcmp, 1) := by decide +kernel
theorem dL_law_1618 : decode cL_law 1618 = .ok (.ifCond .eq 5, 3) := by decide +kernel
theorem dL_law_1621 : decode cL_law 1621 = .ok (.iconst 0, 1) := by decide +kernel
theorem dL_law_1622 : decode cL_law 1622 = .ok (.ireturn, 1) := by decide +kernel
theorem dL_law_1623 : decode cL_law 1623 = .ok (.goto 366, 3) := by decide +kernel
theorem dL_law_1626 : decode cL_law 1626 = .ok (.aload_n 1, 1) := by decide +kernel
theorem dL_law_1627 : decode cL_law 1627 = .ok (.invokevirtual 171, 3) := by decide +kernel
theorem dL_law_1630 : decode cL_law 1630 = .ok (.dstore 5, 2) := by decide +kernel
theorem dL_law_1632 : decode cL_law 1632 = .ok (.aload_n 2, 1) := by decide +kernel
theorem dL_law_1633 : decode cL_law 1633 = .ok (.invokevirtual 175, 3) := by decide +kernel
theorem dL_law_1636 : decode cL_law 1636 = .ok (.dstore 7, 2) := by decide +kernel
theorem dL_law_1638 : decode cL_law 1638 = .ok (.dload 5, 2) := by decide +kernel
theorem dL_law_1640 : decode cL_law 1640 = .ok (.dload 7, 2) := by decide +kernel
theorem dL_law_1642 : decode cL_law 1642 = .ok (.dcmp .l, 1) := by decide +kernel
theorem dL_law_1643 : decode cL_law 1643 = .ok (.ifCond .eq 21, 3) := by decide +kernel
theorem dL_law_1646 : decode cL_law 1646 = .ok (.dload 5, 2) := by decide +kernel
theorem dL_law_1648 : decode cL_law 1648 = .ok (.dload 5, 2) := by decide +kernel
theorem dL_law_1650 : decode cL_law 1650 = .ok (.dcmp .l, 1) := by decide +kernel
theorem dL_law_1651 : decode cL_law 1651 = .ok (.ifCond .eq 11, 3) := by decide +kernel
theorem dL_law_1654 : decode cL_law 1654 = .ok (.dload 7, 2) := by decide +kernel
theorem dL_law_1656 : decode cL_law 1656 = .ok (.dload 7, 2) := by decide +kernel
theorem dL_law_1658 : decode cL_law 1658 = .ok (.dcmp .l, 1) := by decide +kernel
theorem dL_law_1659 : decode cL_law 1659 = .ok (.ifCond .ne 5, 3) := by decide +kernel
theorem dL_law_1662 : decode cL_law 1662 = .ok (.iconst 0, 1) := by decide +kernel
theorem dL_law_1663 : decode cL_law 1663 = .ok (.ireturn, 1) := by decide +kernel
theorem dL_law_1664 : decode cL_law 1664 = .ok (.goto 325, 3) := by decide +kernel
theorem dL_law_1667 : decode cL_law 1667 = .ok (.aload_n 1, 1) := by decide +kernel
theorem dL_law_1668 : decode cL_law 1668 = .ok (.aload_n 0, 1) := by decide +kernel
theorem dL_law_1669 : decode cL_law 1669 = .ok (.iload 4, 2) := by decide +kernel
theorem dL_law_1671 : decode cL_law 1671 = .ok (.iconst 1, 1) := by decide +kernel
theorem dL_law_1672 : decode cL_law 1672 = .ok (.iadd, 1) := by decide +kernel
theorem dL_law_1673 : decode cL_law 1673 = .ok (.iaload, 1) := by decide +kernel
theorem dL_law_1674 : decode cL_law 1674 = .ok (.aload_n 0, 1) := by decide +kernel
theorem dL_law_1675 : decode cL_law 1675 = .ok (.iload 4, 2) := by decide +kernel
theorem dL_law_1677 : decode cL_law 1677 = .ok (.iconst 2, 1) := by decide +kernel
theorem dL_law_1678 : decode cL_law 1678 = .ok (.iadd, 1) := by decide +kernel
theorem dL_law_1679 : decode cL_law 1679 = .ok (.iaload, 1) := by decide +kernel
theorem dL_law_1680 : decode cL_law 1680 = .ok (.aload_n 3, 1) := by decide +kernel
theorem dL_law_1681 : decode cL_law 1681 = .ok (.invokestatic 176, 3) := by decide +kernel
theorem dL_law_1684 : decode cL_law 1684 = .ok (.istore 5, 2) := by decide +kernel
theorem dL_law_1686 : decode cL_law 1686 = .ok (.aload_n 2, 1) := by decide +kernel
theorem dL_law_1687 : decode cL_law 1687 = .ok (.aload_n 0, 1) := by decide +kernel
theorem dL_law_1688 : decode cL_law 1688 = .ok (.iload 4, 2) := by decide +kernel
theorem dL_law_1690 : decode cL_law 1690 = .ok (.iconst 1, 1) := by decide +kernel
theorem dL_law_1691 : decode cL_law 1691 = .ok (.iadd, 1) := by decide +kernel
theorem dL_law_1692 : decode cL_law 1692 = .ok (.iaload, 1) := by decide +kernel
theorem dL_law_1693 : decode cL_law 1693 = .ok (.aload_n 0, 1) := by decide +kernel
theorem dL_law_1694 : decode cL_law 1694 = .ok (.iload 4, 2) := by decide +kernel
theorem dL_law_1696 : decode cL_law 1696 = .ok (.iconst 2, 1) := by decide +kernel
theorem dL_law_1697 : decode cL_law 1697 = .ok (.iadd, 1) := by decide +kernel
theorem dL_law_1698 : decode cL_law 1698 = .ok (.iaload, 1) := by decide +kernel
theorem dL_law_1699 : decode cL_law 1699 = .ok (.invokevirtual 178, 3) := by decide +kernel
theorem dL_law_1702 : decode cL_law 1702 = .ok (.istore 6, 2) := by decide +kernel
theorem dL_law_1704 : decode cL_law 1704 = .ok (.aload_n 2, 1) := by decide +kernel
theorem dL_law_1705 : decode cL_law 1705 = .ok (.invokevirtual 105, 3) := by decide +kernel
theorem dL_law_1708 : decode cL_law 1708 = .ok (.iload 5, 2) := by decide +kernel
theorem dL_law_1710 : decode cL_law 1710 = .ok (.if_icmp .eq 5, 3) := by decide +kernel
theorem dL_law_1713 : decode cL_law 1713 = .ok (.iconst 0, 1) := by decide +kernel
theorem dL_law_1714 : decode cL_law 1714 = .ok (.ireturn, 1) := by decide +kernel
theorem dL_law_1715 : decode cL_law 1715 = .ok (.iload 5, 2) := by decide +kernel
theorem dL_law_1717 : decode cL_law 1717 = .ok (.ifCond .ne 15, 3) := by decide +kernel
theorem dL_law_1720 : decode cL_law 1720 = .ok (.aload_n 3, 1) := by decide +kernel
theorem dL_law_1721 : decode cL_law 1721 = .ok (.iconst 0, 1) := by decide +kernel
theorem dL_law_1722 : decode cL_law 1722 = .ok (.laload, 1) := by decide +kernel
theorem dL_law_1723 : decode cL_law 1723 = .ok (.iload 6, 2) := by decide +kernel
theorem dL_law_1725 : decode cL_law 1725 = .ok (.i2l, 1) := by decide +kernel
theorem dL_law_1726 : decode cL_law 1726 = .ok (.lcmp, 1) := by decide +kernel
theorem dL_law_1727 : decode cL_law 1727 = .ok (.ifCond .eq 5, 3) := by decide +kernel
theorem dL_law_1730 : decode cL_law 1730 = .ok (.iconst 0, 1) := by decide +kernel
theorem dL_law_1731 : decode cL_law 1731 = .ok (.ireturn, 1) := by decide +kernel
theorem dL_law_1732 : decode cL_law 1732 = .ok (.goto 257, 3) := by decide +kernel
theorem dL_law_1735 : decode cL_law 1735 = .ok (.aload_n 1, 1) := by decide +kernel
theorem dL_law_1736 : decode cL_law 1736 = .ok (.aload_n 0, 1) := by decide +kernel
theorem dL_law_1737 : decode cL_law 1737 = .ok (.iload 4, 2) := by decide +kernel
theorem dL_law_1739 : decode cL_law 1739 = .ok (.iconst 1, 1) := by decide +kernel
theorem dL_law_1740 : decode cL_law 1740 = .ok (.iadd, 1) := by decide +kernel
theorem dL_law_1741 : decode cL_law 1741 = .ok (.iaload, 1) := by decide +kernel
theorem dL_law_1742 : decode cL_law 1742 = .ok (.aload_n 0, 1) := by decide +kernel
theorem dL_law_1743 : decode cL_law 1743 = .ok (.iload 4, 2) := by decide +kernel
theorem dL_law_1745 : decode cL_law 1745 = .ok (.iconst 2, 1) := by decide +kernel
theorem dL_law_1746 : decode cL_law 1746 = .ok (.iadd, 1) := by decide +kernel
theorem dL_law_1747 : decode cL_law 1747 = .ok (.iaload, 1) := by decide +kernel
theorem dL_law_1748 : decode cL_law 1748 = .ok (.aload_n 0, 1) := by decide +kernel
theorem dL_law_1749 : decode cL_law 1749 = .ok (.iload 4, 2) := by decide +kernel
theorem dL_law_1751 : decode cL_law 1751 = .ok (.iconst 3, 1) := by decide +kernel
theorem dL_law_1752 : decode cL_law 1752 = .ok (.iadd, 1) := by decide +kernel
theorem dL_law_1753 : decode cL_law 1753 = .ok (.iaload, 1) := by decide +kernel
theorem dL_law_1754 : decode cL_law 1754 = .ok (.aload_n 3, 1) := by decide +kernel
theorem dL_law_1755 : decode cL_law 1755 = .ok (.invokestatic 179, 3) := by decide +kernel
theorem dL_law_1758 : decode cL_law 1758 = .ok (.istore 5, 2) := by decide +kernel
theorem dL_law_1760 : decode cL_law 1760 = .ok (.aload_n 2, 1) := by decide +kernel
theorem dL_law_1761 : decode cL_law 1761 = .ok (.aload_n 0, 1) := by decide +kernel
theorem dL_law_1762 : decode cL_law 1762 = .ok (.iload 4, 2) := by decide +kernel
theorem dL_law_1764 : decode cL_law 1764 = .ok (.iconst 1, 1) := by decide +kernel
theorem dL_law_1765 : decode cL_law 1765 = .ok (.iadd, 1) := by decide +kernel
theorem dL_law_1766 : decode cL_law 1766 = .ok (.iaload, 1) := by decide +kernel
theorem dL_law_1767 : decode cL_law 1767 = .ok (.aload_n 0, 1) := by decide +kernel
theorem dL_law_1768 : decode cL_law 1768 = .ok (.iload 4, 2) := by decide +kernel
theorem dL_law_1770 : decode cL_law 1770 = .ok (.iconst 2, 1) := by decide +kernel
theorem dL_law_1771 : decode cL_law 1771 = .ok (.iadd, 1) := by decide +kernel
theorem dL_law_1772 : decode cL_law 1772 = .ok (.iaload, 1) := by decide +kernel
theorem dL_law_1773 : decode cL_law 1773 = .ok (.aload_n 0, 1) := by decide +kernel
theorem dL_law_1774 : decode cL_law 1774 = .ok (.iload 4, 2) := by decide +kernel
theorem dL_law_1776 : decode cL_law 1776 = .ok (.iconst 3, 1) := by decide +kernel
theorem dL_law_1777 : decode cL_law 1777 = .ok (.iadd, 1) := by decide +kernel
theorem dL_law_1778 : decode cL_law 1778 = .ok (.iaload, 1) := by decide +kernel
theorem dL_law_1779 : decode cL_law 1779 = .ok (.invokevirtual 181, 3) := by decide +kernel
theorem dL_law_1782 : decode cL_law 1782 = .ok (.istore 6, 2) := by decide +kernel
theorem dL_law_1784 : decode cL_law 1784 = .ok (.aload_n 2, 1) := by decide +kernel
theorem dL_law_1785 : decode cL_law 1785 = .ok (.invokevirtual 105, 3) := by decide +kernel
theorem dL_law_1788 : decode cL_law 1788 = .ok (.iload 5, 2) := by decide +kernel
theorem dL_law_1790 : decode cL_law 1790 = .ok (.if_icmp .eq 5, 3) := by decide +kernel
theorem dL_law_1793 : decode cL_law 1793 = .ok (.iconst 0, 1) := by decide +kernel
theorem dL_law_1794 : decode cL_law 1794 = .ok (.ireturn, 1) := by decide +kernel
theorem dL_law_1795 : decode cL_law 1795 = .ok (.iload 5, 2) := by decide +kernel
theorem dL_law_1797 : decode cL_law 1797 = .ok (.ifCond .ne 15, 3) := by decide +kernel
theorem dL_law_1800 : decode cL_law 1800 = .ok (.aload_n 3, 1) := by decide +kernel
theorem dL_law_1801 : decode cL_law 1801 = .ok (.iconst 0, 1) := by decide +kernel
theorem dL_law_1802 : decode cL_law 1802 = .ok (.laload, 1) := by decide +kernel
theorem dL_law_1803 : decode cL_law 1803 = .ok (.iload 6, 2) := by decide +kernel
theorem dL_law_1805 : decode cL_law 1805 = .ok (.i2l, 1) := by decide +kernel
theorem dL_law_1806 : decode cL_law 1806 = .ok (.lcmp, 1) := by decide +kernel
theorem dL_law_1807 : decode cL_law 1807 = .ok (.ifCond .eq 5, 3) := by decide +kernel
theorem dL_law_1810 : decode cL_law 1810 = .ok (.iconst 0, 1) := by decide +kernel
theorem dL_law_1811 : decode cL_law 1811 = .ok (.ireturn, 1) := by decide +kernel
theorem dL_law_1812 : decode cL_law 1812 = .ok (.goto 177, 3) := by decide +kernel
theorem dL_law_1815 : decode cL_law 1815 = .ok (.aload_n 1, 1) := by decide +kernel
theorem dL_law_1816 : decode cL_law 1816 = .ok (.aload_n 0, 1) := by decide +kernel
theorem dL_law_1817 : decode cL_law 1817 = .ok (.iload 4, 2) := by decide +kernel
theorem dL_law_1819 : decode cL_law 1819 = .ok (.iconst 1, 1) := by decide +kernel
theorem dL_law_1820 : decode cL_law 1820 = .ok (.iadd, 1) := by decide +kernel
theorem dL_law_1821 : decode cL_law 1821 = .ok (.iaload, 1) := by decide +kernel
theorem dL_law_1822 : decode cL_law 1822 = .ok (.aload_n 0, 1) := by decide +kernel
theorem dL_law_1823 : decode cL_law 1823 = .ok (.iload 4, 2) := by decide +kernel
theorem dL_law_1825 : decode cL_law 1825 = .ok (.iconst 2, 1) := by decide +kernel
theorem dL_law_1826 : decode cL_law 1826 = .ok (.iadd, 1) := by decide +kernel
theorem dL_law_1827 : decode cL_law 1827 = .ok (.iaload, 1) := by decide +kernel
theorem dL_law_1828 : decode cL_law 1828 = .ok (.aload_n 0, 1) := by decide +kernel
theorem dL_law_1829 : decode cL_law 1829 = .ok (.iload 4, 2) := by decide +kernel
theorem dL_law_1831 : decode cL_law 1831 = .ok (.iconst 3, 1) := by decide +kernel
theorem dL_law_1832 : decode cL_law 1832 = .ok (.iadd, 1) := by decide +kernel
theorem dL_law_1833 : decode cL_law 1833 = .ok (.iaload, 1) := by decide +kernel
theorem dL_law_1834 : decode cL_law 1834 = .ok (.aload_n 0, 1) := by decide +kernel
theorem dL_law_1835 : decode cL_law 1835 = .ok (.iload 4, 2) := by decide +kernel
theorem dL_law_1837 : decode cL_law 1837 = .ok (.iconst 4, 1) := by decide +kernel
theorem dL_law_1838 : decode cL_law 1838 = .ok (.iadd, 1) := by decide +kernel
theorem dL_law_1839 : decode cL_law 1839 = .ok (.iaload, 1) := by decide +kernel
theorem dL_law_1840 : decode cL_law 1840 = .ok (.aload_n 3, 1) := by decide +kernel
theorem dL_law_1841 : decode cL_law 1841 = .ok (.invokestatic 182, 3) := by decide +kernel
theorem dL_law_1844 : decode cL_law 1844 = .ok (.istore 5, 2) := by decide +kernel
theorem dL_law_1846 : decode cL_law 1846 = .ok (.aload_n 2, 1) := by decide +kernel
theorem dL_law_1847 : decode cL_law 1847 = .ok (.aload_n 0, 1) := by decide +kernel
theorem dL_law_1848 : decode cL_law 1848 = .ok (.iload 4, 2) := by decide +kernel
theorem dL_law_1850 : decode cL_law 1850 = .ok (.iconst 1, 1) := by decide +kernel
theorem dL_law_1851 : decode cL_law 1851 = .ok (.iadd, 1) := by decide +kernel
theorem dL_law_1852 : decode cL_law 1852 = .ok (.iaload, 1) := by decide +kernel
theorem dL_law_1853 : decode cL_law 1853 = .ok (.aload_n 0, 1) := by decide +kernel
theorem dL_law_1854 : decode cL_law 1854 = .ok (.iload 4, 2) := by decide +kernel
theorem dL_law_1856 : decode cL_law 1856 = .ok (.iconst 2, 1) := by decide +kernel
theorem dL_law_1857 : decode cL_law 1857 = .ok (.iadd, 1) := by decide +kernel
theorem dL_law_1858 : decode cL_law 1858 = .ok (.iaload, 1) := by decide +kernel
theorem dL_law_1859 : decode cL_law 1859 = .ok (.aload_n 0, 1) := by decide +kernel
theorem dL_law_1860 : decode cL_law 1860 = .ok (.iload 4, 2) := by decide +kernel
theorem dL_law_1862 : decode cL_law 1862 = .ok (.iconst 3, 1) := by decide +kernel
theorem dL_law_1863 : decode cL_law 1863 = .ok (.iadd, 1) := by decide +kernel
theorem dL_law_1864 : decode cL_law 1864 = .ok (.iaload, 1) := by decide +kernel
theorem dL_law_1865 : decode cL_law 1865 = .ok (.aload_n 0, 1) := by decide +kernel
theorem dL_law_1866 : decode cL_law 1866 = .ok (.iload 4, 2) := by decide +kernel
theorem dL_law_1868 : decode cL_law 1868 = .ok (.iconst 4, 1) := by decide +kernel
theorem dL_law_1869 : decode cL_law 1869 = .ok (.iadd, 1) := by decide +kernel
theorem dL_law_1870 : decode cL_law 1870 = .ok (.iaload, 1) := by decide +kernel
theorem dL_law_1871 : decode cL_law 1871 = .ok (.invokevirtual 184, 3) := by decide +kernel
theorem dL_law_1874 : decode cL_law 1874 = .ok (.istore 6, 2) := by decide +kernel
theorem dL_law_1876 : decode cL_law 1876 = .ok (.aload_n 2, 1) := by decide +kernel
theorem dL_law_1877 : decode cL_law 1877 = .ok (.invokevirtual 105, 3) := by decide +kernel
theorem dL_law_1880 : decode cL_law 1880 = .ok (.iload 5, 2) := by decide +kernel
theorem dL_law_1882 : decode cL_law 1882 = .ok (.if_icmp .eq 5, 3) := by decide +kernel
theorem dL_law_1885 : decode cL_law 1885 = .ok (.iconst 0, 1) := by decide +kernel
theorem dL_law_1886 : decode cL_law 1886 = .ok (.ireturn, 1) := by decide +kernel
theorem dL_law_1887 : decode cL_law 1887 = .ok (.iload 5, 2) := by decide +kernel
theorem dL_law_1889 : decode cL_law 1889 = .ok (.ifCond .ne 15, 3) := by decide +kernel
theorem dL_law_1892 : decode cL_law 1892 = .ok (.aload_n 3, 1) := by decide +kernel
theorem dL_law_1893 : decode cL_law 1893 = .ok (.iconst 0, 1) := by decide +kernel
theorem dL_law_1894 : decode cL_law 1894 = .ok (.laload, 1) := by decide +kernel
theorem dL_law_1895 : decode cL_law 1895 = .ok (.iload 6, 2) := by decide +kernel
theorem dL_law_1897 : decode cL_law 1897 = .ok (.i2l, 1) := by decide +kernel
theorem dL_law_1898 : decode cL_law 1898 = .ok (.lcmp, 1) := by decide +kernel
theorem dL_law_1899 : decode cL_law 1899 = .ok (.ifCond .eq 5, 3) := by decide +kernel
theorem dL_law_1902 : decode cL_law 1902 = .ok (.iconst 0, 1) := by decide +kernel
theorem dL_law_1903 : decode cL_law 1903 = .ok (.ireturn, 1) := by decide +kernel
theorem dL_law_1904 : decode cL_law 1904 = .ok (.goto 85, 3) := by decide +kernel
theorem dL_law_1907 : decode cL_law 1907 = .ok (.aload_n 1, 1) := by decide +kernel
theorem dL_law_1908 : decode cL_law 1908 = .ok (.aload_n 0, 1) := by decide +kernel
theorem dL_law_1909 : decode cL_law 1909 = .ok (.iload 4, 2) := by decide +kernel
theorem dL_law_1911 : decode cL_law 1911 = .ok (.iconst 1, 1) := by decide +kernel
theorem dL_law_1912 : decode cL_law 1912 = .ok (.iadd, 1) := by decide +kernel
theorem dL_law_1913 : decode cL_law 1913 = .ok (.iaload, 1) := by decide +kernel
theorem dL_law_1914 : decode cL_law 1914 = .ok (.aload_n 0, 1) := by decide +kernel
theorem dL_law_1915 : decode cL_law 1915 = .ok (.iload 4, 2) := by decide +kernel
theorem dL_law_1917 : decode cL_law 1917 = .ok (.iconst 2, 1) := by decide +kernel
theorem dL_law_1918 : decode cL_law 1918 = .ok (.iadd, 1) := by decide +kernel
theorem dL_law_1919 : decode cL_law 1919 = .ok (.iaload, 1) := by decide +kernel
theorem dL_law_1920 : decode cL_law 1920 = .ok (.aload_n 3, 1) := by decide +kernel
theorem dL_law_1921 : decode cL_law 1921 = .ok (.invokestatic 185, 3) := by decide +kernel
theorem dL_law_1924 : decode cL_law 1924 = .ok (.istore 5, 2) := by decide +kernel
theorem dL_law_1926 : decode cL_law 1926 = .ok (.aload_n 2, 1) := by decide +kernel
theorem dL_law_1927 : decode cL_law 1927 = .ok (.aload_n 0, 1) := by decide +kernel
theorem dL_law_1928 : decode cL_law 1928 = .ok (.iload 4, 2) := by decide +kernel
theorem dL_law_1930 : decode cL_law 1930 = .ok (.iconst 1, 1) := by decide +kernel
theorem dL_law_1931 : decode cL_law 1931 = .ok (.iadd, 1) := by decide +kernel
theorem dL_law_1932 : decode cL_law 1932 = .ok (.iaload, 1) := by decide +kernel
theorem dL_law_1933 : decode cL_law 1933 = .ok (.aload_n 0, 1) := by decide +kernel
theorem dL_law_1934 : decode cL_law 1934 = .ok (.iload 4, 2) := by decide +kernel
theorem dL_law_1936 : decode cL_law 1936 = .ok (.iconst 2, 1) := by decide +kernel
theorem dL_law_1937 : decode cL_law 1937 = .ok (.iadd, 1) := by decide +kernel
theorem dL_law_1938 : decode cL_law 1938 = .ok (.iaload, 1) := by decide +kernel
theorem dL_law_1939 : decode cL_law 1939 = .ok (.invokevirtual 187, 3) := by decide +kernel
theorem dL_law_1942 : decode cL_law 1942 = .ok (.istore 6, 2) := by decide +kernel
theorem dL_law_1944 : decode cL_law 1944 = .ok (.aload_n 2, 1) := by decide +kernel
theorem dL_law_1945 : decode cL_law 1945 = .ok (.invokevirtual 105, 3) := by decide +kernel
theorem dL_law_1948 : decode cL_law 1948 = .ok (.iload 5, 2) := by decide +kernel
theorem dL_law_1950 : decode cL_law 1950 = .ok (.if_icmp .eq 5, 3) := by decide +kernel
theorem dL_law_1953 : decode cL_law 1953 = .ok (.iconst 0, 1) := by decide +kernel
theorem dL_law_1954 : decode cL_law 1954 = .ok (.ireturn, 1) := by decide +kernel
theorem dL_law_1955 : decode cL_law 1955 = .ok (.iload 5, 2) := by decide +kernel
theorem dL_law_1957 : decode cL_law 1957 = .ok (.ifCond .ne 15, 3) := by decide +kernel
theorem dL_law_1960 : decode cL_law 1960 = .ok (.aload_n 3, 1) := by decide +kernel
theorem dL_law_1961 : decode cL_law 1961 = .ok (.iconst 0, 1) := by decide +kernel
theorem dL_law_1962 : decode cL_law 1962 = .ok (.laload, 1) := by decide +kernel
theorem dL_law_1963 : decode cL_law 1963 = .ok (.iload 6, 2) := by decide +kernel
theorem dL_law_1965 : decode cL_law 1965 = .ok (.i2l, 1) := by decide +kernel
theorem dL_law_1966 : decode cL_law 1966 = .ok (.lcmp, 1) := by decide +kernel
theorem dL_law_1967 : decode cL_law 1967 = .ok (.ifCond .eq 5, 3) := by decide +kernel
theorem dL_law_1970 : decode cL_law 1970 = .ok (.iconst 0, 1) := by decide +kernel
theorem dL_law_1971 : decode cL_law 1971 = .ok (.ireturn, 1) := by decide +kernel
theorem dL_law_1972 : decode cL_law 1972 = .ok (.goto 17, 3) := by decide +kernel
theorem dL_law_1975 : decode cL_law 1975 = .ok (.aload_n 1, 1) := by decide +kernel
theorem dL_law_1976 : decode cL_law 1976 = .ok (.invokevirtual 188, 3) := by decide +kernel
theorem dL_law_1979 : decode cL_law 1979 = .ok (.aload_n 2, 1) := by decide +kernel
theorem dL_law_1980 : decode cL_law 1980 = .ok (.invokevirtual 192, 3) := by decide +kernel
theorem dL_law_1983 : decode cL_law 1983 = .ok (.lcmp, 1) := by decide +kernel
theorem dL_law_1984 : decode cL_law 1984 = .ok (.ifCond .eq 5, 3) := by decide +kernel
theorem dL_law_1987 : decode cL_law 1987 = .ok (.iconst 0, 1) := by decide +kernel
theorem dL_law_1988 : decode cL_law 1988 = .ok (.ireturn, 1) := by decide +kernel
theorem dL_law_1989 : decode cL_law 1989 = .ok (.iinc 4 6, 3) := by decide +kernel
theorem dL_law_1992 : decode cL_law 1992 = .ok (.goto (-1969), 3) := by decide +kernel
theorem dL_law_1995 : decode cL_law 1995 = .ok (.iconst 1, 1) := by decide +kernel
theorem dL_law_1996 : decode cL_law 1996 = .ok (.ireturn, 1) := by decide +kernel
end
section
/-! ===== memory: two functions G (shape: kinds, lengths, references) and M (numbers) =====
G 0 a 0 kind (class number + 1, or 100 + array type; 98, 99: the two empty arrays of ArrayList), G 1 a 0 length, G 2 f a reference field f of a, G 3 a j reference at j of a, G 4 0 0 the heap's size, G 5 .. marks;
M 0 f a number in field f of a, M 1 a j number at j of a. A field's number is 20 * class + slot. A reference is its address, or -1. -/
abbrev Mm : Type := Int → Int → Int → Int
def mup (M : Mm) (b x y v : Int) : Mm := fun b' x' y' => if b' = b ∧ x' = x ∧ y' = y then v else M b' x' y'
theorem mup_s (M : Mm) (b x y v : Int) : mup M b x y v b x y = v := by simp [mup]
theorem mup_n {M : Mm} {b x y v b' x' y' : Int} (h : ¬ (b' = b ∧ x' = x ∧ y' = y)) : mup M b x y v b' x' y' = M b' x' y' := by simp [mup, h]
def vI (x : Int) : Value := .int (Int32.ofInt x)
def vL (x : Int) : Value := .long (Int64.ofInt x)
def oI (x : Int) : Option Nat := if x < 0 then none else some x.toNat
def vR (x : Int) : Value := va_rf (oI x)
theorem vR_pos {x : Int} (h : 0 ≤ x) : vR x = .ref x.toNat := by
  have h1 : ¬ x < 0 := by omega
  simp [vR, oI, h1, va_rf]
theorem vR_neg {x : Int} (h : x < 0) : vR x = .null := by simp [vR, oI, h, va_rf]
theorem cat_vI (x : Int) : (vI x).category = 1 := rfl
theorem cat_vL (x : Int) : (vL x).category = 2 := rfl
theorem cat_vR (x : Int) : (vR x).category = 1 := by
  by_cases h : x < 0
  · rw [vR_neg h]; rfl
  · rw [vR_pos (by omega)]; rfl
theorem i32_toInt {x : Int} (h1 : -2147483648 ≤ x) (h2 : x ≤ 2147483647) : (Int32.ofInt x).toInt = x := Int32.toInt_ofInt_of_le (by omega) (by omega)
theorem i32_eq {x y : Int} (h : (-2147483648 ≤ x ∧ x ≤ 2147483647) ∧ (-2147483648 ≤ y ∧ y ≤ 2147483647)) : Int32.ofInt x = Int32.ofInt y ↔ x = y := by
  constructor
  · intro e
    have := congrArg Int32.toInt e
    rwa [i32_toInt h.1.1 h.1.2, i32_toInt h.2.1 h.2.2] at this
  · intro e; rw [e]
theorem i32_lt {x y : Int} (h : (-2147483648 ≤ x ∧ x ≤ 2147483647) ∧ (-2147483648 ≤ y ∧ y ≤ 2147483647)) : Int32.ofInt x < Int32.ofInt y ↔ x < y := by
  rw [Int32.lt_iff_toInt_lt, i32_toInt h.1.1 h.1.2, i32_toInt h.2.1 h.2.2]
theorem i32_le {x y : Int} (h : (-2147483648 ≤ x ∧ x ≤ 2147483647) ∧ (-2147483648 ≤ y ∧ y ≤ 2147483647)) : Int32.ofInt x ≤ Int32.ofInt y ↔ x ≤ y := by
  rw [Int32.le_iff_toInt_le, i32_toInt h.1.1 h.1.2, i32_toInt h.2.1 h.2.2]
theorem i32_clamp {x : Int} (h1 : 0 ≤ x) (h2 : x ≤ 2147483647) : (Int32.ofInt x).toNatClampNeg = x.toNat := Int32.toNatClampNeg_ofInt_of_le (by omega) (by omega)
theorem i32_vin {x : Int} {n : Nat} (h1 : 0 ≤ x) (h2 : x < n) (h3 : x ≤ 2147483647) : vp_in (Int32.ofInt x) n := by
  unfold vp_in
  rw [i32_clamp h1 h3]
  intro q
  rcases q with q | q
  · have q2 : Int32.ofInt x < Int32.ofInt 0 := q
    rw [i32_lt (by omega)] at q2
    omega
  · omega
theorem i32_of (x : Int32) : Int32.ofInt x.toInt = x := by simp
def isRf (f : Int) : Bool := [3, 21, 40, 60, 61, 62, 63, 80, 81, 100, 120, 140, 141, 142, 143, 144, 145, 160, 184, 185, 186, 223, 242, 243, 244, 245].contains f
def fv (G M : Mm) (ci k : Nat) (a : Int) : Value := if isRf (20 * (ci : Int) + (k : Int)) = true then vR (G 2 (20 * (ci : Int) + (k : Int)) a) else vI (M 0 (20 * (ci : Int) + (k : Int)) a)
/-- array types: 0 int, 1 boolean, 2 long, 3.. references -/
def avx (G M : Mm) (t : Nat) (a j : Int) : Value := if t < 2 then vI (M 1 a j) else if t = 2 then vL (M 1 a j) else vR (G 3 a j)
abbrev tysL (cA : Nat → ClassId) : List (ClassId × FieldType) := [(cA 0, .int), (cA 1, .boolean), (cA 2, .long), (cA 3, .object "Slugwire$Fact"), (cA 4, .object "Slugwire$Take"), (cA 5, .object "Slugwire$Line"), (cA 6, .object "SlugwireModel$Fact"), (cA 7, .object "java/lang/Object")]
def cellOk (D : va_G) (cA : Nat → ClassId) (G M : Mm) (a : Int) (H : Heap) : Prop :=
  (∀ ci : Nat, ci < 13 → G 0 a 0 = (ci : Int) + 1 → ∃ r, vwCl[ci]? = some r ∧ t_OB a.toNat (D.1 ci) r.2.2 (D.2 ci) H (fun k => fv G M ci k a)) ∧
  (∀ t : Nat, t < 8 → G 0 a 0 = (t : Int) + 100 → 0 ≤ G 1 a 0 ∧ G 1 a 0 ≤ 2147483647 ∧ H[a.toNat]? = some (arrV (cA t) (G 1 a 0).toNat (fun j => avx G M t a (j : Int)))) ∧
  (G 0 a 0 = 98 ∨ G 0 a 0 = 99 → H[a.toNat]? = some (arrV (cA 7) 0 (fun _ => .null)))
def agr (G M G1 M1 : Mm) (a : Int) : Prop := G1 0 a 0 = G 0 a 0 ∧ G1 1 a 0 = G 1 a 0 ∧ (∀ f, G1 2 f a = G 2 f a) ∧ (∀ j, G1 3 a j = G 3 a j) ∧ (∀ f, M1 0 f a = M 0 f a) ∧ ∀ j, M1 1 a j = M 1 a j
theorem cellOk.kept {D : va_G} {cA : Nat → ClassId} {G M G1 M1 : Mm} {a : Int} {H H1 : Heap} (h : cellOk D cA G M a H) (hH : H1[a.toNat]? = H[a.toNat]?) (e : agr G M G1 M1 a) : cellOk D cA G1 M1 a H1 := by
  obtain ⟨e0, e1, e2, e3, e4, e5⟩ := e
  obtain ⟨h1, h2, h3⟩ := h
  refine ⟨fun ci hc hk => ?_, fun t ht hk => ?_, fun hk => ?_⟩
  · obtain ⟨r, hr, ho⟩ := h1 ci hc (by rw [← e0]; exact hk)
    refine ⟨r, hr, (ho.kept hH).to fun k _ => ?_⟩
    simp only [fv, e2, e4]
  · obtain ⟨q1, q2, q3⟩ := h2 t ht (by rw [← e0]; exact hk)
    rw [e1]
    refine ⟨q1, q2, ?_⟩
    rw [hH, q3]
    simp only [avx, e3, e5]
  · rw [hH]
    exact h3 (by rw [← e0]; exact hk)
def HR (D : va_G) (cA : Nat → ClassId) (B0 : Nat) (G M : Mm) (H : Heap) : Prop := (∀ a, G 0 a 0 ≠ 0 → ((B0 : Int) ≤ a ∨ (0 ≤ a ∧ (G 0 a 0 = 98 ∨ G 0 a 0 = 99))) ∧ a < (H.size : Int) ∧ cellOk D cA G M a H) ∧ G 4 0 0 = (H.size : Int) ∧ (B0 : Int) ≤ G 4 0 0
theorem HR.nn {D : va_G} {cA : Nat → ClassId} {B0 : Nat} {G M : Mm} {H : Heap} (h : HR D cA B0 G M H) {a : Int} (ha : G 0 a 0 ≠ 0) : 0 ≤ a := by
  obtain ⟨h1, -, -⟩ := h.1 a ha
  omega
theorem HR.lo {D : va_G} {cA : Nat → ClassId} {B0 : Nat} {G M : Mm} {H : Heap} (h : HR D cA B0 G M H) {a : Int} (ha : G 0 a 0 ≠ 0) (h8 : G 0 a 0 ≠ 98 ∧ G 0 a 0 ≠ 99) : (B0 : Int) ≤ a := by
  obtain ⟨h1, -, -⟩ := h.1 a ha
  omega
theorem HR.set {D : va_G} {cA : Nat → ClassId} {B0 : Nat} {G M G1 M1 : Mm} {H H1 : Heap} (h : HR D cA B0 G M H) {a : Int} (ha : G 0 a 0 ≠ 0) (hz : H1.size = H.size) (ho : ∀ q : Nat, q ≠ a.toNat → H1[q]? = H[q]?) (h1 : cellOk D cA G1 M1 a H1) (hg : ∀ a', a' ≠ a → agr G M G1 M1 a') (hga : G1 0 a 0 = G 0 a 0) (h4 : G1 4 0 0 = G 4 0 0) : HR D cA B0 G1 M1 H1 := by
  have hn := h.nn ha
  refine ⟨fun b hb => ?_, by rw [h4, hz]; exact h.2.1, by rw [h4]; exact h.2.2⟩
  rw [hz]
  by_cases e : b = a
  · subst e
    obtain ⟨q1, q2, -⟩ := h.1 b ha
    rw [hga]
    exact ⟨q1, q2, h1⟩
  · have g := hg b e
    have hb' : G 0 b 0 ≠ 0 := by rw [← g.1]; exact hb
    obtain ⟨q1, q2, q3⟩ := h.1 b hb'
    have hbn := h.nn hb'
    rw [g.1]
    exact ⟨q1, q2, q3.kept (ho _ (by omega)) g⟩
theorem HR.new {D : va_G} {cA : Nat → ClassId} {B0 : Nat} {G M G1 M1 : Mm} {H H1 : Heap} (h : HR D cA B0 G M H) (hz : H1.size = H.size + 1) (ho : ∀ q : Nat, q < H.size → H1[q]? = H[q]?) (h1 : cellOk D cA G1 M1 (G 4 0 0) H1) (hg : ∀ a', a' ≠ G 4 0 0 → agr G M G1 M1 a') (h4 : G1 4 0 0 = G 4 0 0 + 1) : HR D cA B0 G1 M1 H1 := by
  have hs := h.2.1
  refine ⟨fun b hb => ?_, by rw [h4, hz, hs]; omega, by rw [h4]; have := h.2.2; omega⟩
  rw [hz]
  by_cases e : b = G 4 0 0
  · subst e
    exact ⟨Or.inl h.2.2, by omega, h1⟩
  · have g := hg b e
    have hb' : G 0 b 0 ≠ 0 := by rw [← g.1]; exact hb
    obtain ⟨q1, q2, q3⟩ := h.1 b hb'
    have hbn := h.nn hb'
    rw [g.1]
    exact ⟨q1, by omega, q3.kept (ho _ (by omega)) g⟩
/-! ===== the tables' words ===== -/
def isNest : Cond → Bool
  | .fieldLinkNest .. => true
  | .methodLinkNest .. => true
  | _ => false
def isAC : Cond → Bool
  | .arrayClass _ => true
  | _ => false
def okw (w : Cond) : Bool := (w.onTables && (w.keepsFace || isNest w)) || isAC w
theorem okw_warm {s U : State} (hW : s.WarmedH U.vm) {w : Cond} (ho : okw w = true) {A A' : Array Value} (h : w.before A s = true) : w.before A' U = true := by
  unfold okw at ho
  rw [Bool.or_eq_true, Bool.and_eq_true, Bool.or_eq_true] at ho
  rcases ho with ⟨h1, h2 | h2⟩ | h2
  · have h3 := Cond.before_shiftedFace (State.Shifted.of_warmed hW) w h2 h
    exact va_tabs h1 (rfl : (s.setVm U.vm).vm = U.vm) h3
  · cases w with
    | fieldLinkNest a b c d e f => exact va_Nw.use rfl (va_Nw.warmF hW (va_Nw.of rfl h))
    | methodLinkNest a b c d => exact va_Nw.use rfl (va_Nw.warmM hW (va_Nw.of rfl h))
    | _ => simp [isNest] at h2
  · cases w with
    | arrayClass ty => exact word_at hW (Or.inr ⟨ty, rfl⟩) h
    | _ => simp [isAC] at h2
theorem okw_same {s U : State} (hvm : s.vm = U.vm) {w : Cond} (ho : okw w = true) {A A' : Array Value} (h : w.before A s = true) : w.before A' U = true :=
  okw_warm (by rw [← hvm]; exact State.WarmedH.refl s) ho h
theorem lay_in : ∀ (ci : Nat) (r : vw_C), vwCl[ci]? = some r → ∀ w ∈ u_ws r.1 r.2.1 r.2.2, w ∈ lw_tbl := by
  intro ci r h
  match ci, h with
  | 0, h => cases h; exact inJx35411
  | 1, h => cases h; exact inJx4a65c
  | 2, h => cases h; exact inX0
  | 3, h => cases h; exact inX1
  | 4, h => cases h; exact inX2
  | 5, h => cases h; exact inX3
  | 6, h => cases h; exact inX4
  | 7, h => cases h; exact inX5
  | 8, h => cases h; exact inX6
  | 9, h => cases h; exact inX7
  | 10, h => cases h; exact inX8
  | 11, h => cases h; exact inX9
  | 12, h => cases h; exact inX10
  | k + 13, h => simp [vwCl] at h
theorem lay_ok {C : String} {T : u_T} {N : Nat} : ∀ w ∈ u_ws C T N, okw w = true := by
  intro w hw
  obtain ⟨k, -, rfl⟩ := List.mem_map.mp hw
  unfold u_lay
  by_cases h : (T k).2.2.2 = true
  · rw [if_pos h]; rfl
  · rw [if_neg h]; rfl
theorem lay_ty : ∀ (ci : Nat) (r : vw_C), vwCl[ci]? = some r → ∃ ty : Nat → FieldType, (∀ k, k < r.2.2 → parseFieldDescriptor (r.2.1 k).2.2.1 = some (ty k)) ∧ ∀ a, a < r.2.2 → ∀ b, b < r.2.2 → a ≠ b → (r.2.1 a).2.1 ≠ (r.2.1 b).2.1 := by
  intro ci r h
  match ci, h with
  | 0, h => cases h; exact ⟨tyJx35411, tyJx35411_ok, nmJx35411⟩
  | 1, h => cases h; exact ⟨tyJx4a65c, tyJx4a65c_ok, nmJx4a65c⟩
  | 2, h => cases h; exact ⟨tyX0, tyX0_ok, nmX0⟩
  | 3, h => cases h; exact ⟨tyX1, tyX1_ok, nmX1⟩
  | 4, h => cases h; exact ⟨tyX2, tyX2_ok, nmX2⟩
  | 5, h => cases h; exact ⟨tyX3, tyX3_ok, nmX3⟩
  | 6, h => cases h; exact ⟨tyX4, tyX4_ok, nmX4⟩
  | 7, h => cases h; exact ⟨tyX5, tyX5_ok, nmX5⟩
  | 8, h => cases h; exact ⟨tyX6, tyX6_ok, nmX6⟩
  | 9, h => cases h; exact ⟨tyX7, tyX7_ok, nmX7⟩
  | 10, h => cases h; exact ⟨tyX8, tyX8_ok, nmX8⟩
  | 11, h => cases h; exact ⟨tyX9, tyX9_ok, nmX9⟩
  | 12, h => cases h; exact ⟨tyX10, tyX10_ok, nmX10⟩
  | k + 13, h => simp [vwCl] at h
theorem cls_lt {ci : Nat} {r : vw_C} (h : vwCl[ci]? = some r) : ci < 13 := (List.getElem?_eq_some_iff.mp h).1
end
section
/-! ===== what every state of the walk knows ===== -/
/-- own class, pool index, text: the String constants of the class -/
abbrev strL : List (String × Nat × String) := []
abbrev aoL : List String := ["Slugwire$Fact", "Slugwire$Take", "Slugwire$Line", "SlugwireModel$Fact", "java/lang/Object"]
/-- the launch, the classes' numbers and slots, the array classes, the first cell of ours -/
abbrev Xv : Type := Launch × va_G × (Nat → ClassId) × Nat
def Ks (X : Xv) (U : State) : Prop := match X with
  | (l, D, cA, B0) => l.stackTraces = false ∧ va_K D vwCl (tysL cA) U ∧ (∀ w ∈ lw_tbl, okw w = true → w.before #[] U = true) ∧
    vx_Zq Bundle.tN "UNASSIGNED_STACK" Bundle.steD (fun q => B0 ≤ q) U U.heap ∧ vx_Zq Bundle.tN "SUPPRESSED_SENTINEL" Bundle.listD (fun q => B0 ≤ q) U U.heap ∧
    (∀ own k tx, Cond.stringRef own k tx ∈ lw_tbl → ∃ sa, vk_R own k tx sa U) ∧ (∀ C ∈ aoL, va_AO C U)
theorem Ks.moved {X : Xv} {s U : State} {H : Heap} (h : Ks X s) (hH : U.heap = H) (hS : ∀ q : Nat, q < s.heap.size → ¬ X.2.2.2 ≤ q → H[q]? = s.heap[q]?) (hW : s.WarmedH U.vm) : Ks X U := by
  obtain ⟨l, D, cA, B0⟩ := X
  obtain ⟨h1, h2, h3, h4, h5, h6, h7⟩ := h
  refine ⟨h1, h2.moved hW.alike, fun w hw ho => okw_warm hW ho (h3 w hw ho), ?_, ?_, fun own k tx hm => ?_, fun C hC => (h7 C hC).moved hW.alike⟩
  · rw [hH]; exact (h4.kept hS).moved hW.alike
  · rw [hH]; exact (h5.kept hS).moved hW.alike
  · obtain ⟨sa, hs⟩ := h6 own k tx hm
    exact ⟨sa, hs.warm hW⟩
theorem Ks.blind {X : Xv} {U : State} (h : Ks X U) (g : JFrame) (mk : MethodId) (a : Array Value) : Ks X (U.calling g mk a) :=
  h.moved (H := U.heap) rfl (fun _ _ _ => rfl) (State.WarmedH.refl U)
/-! ===== contracts ===== -/
def Qn (X : Xv) (Post : Option Value → Mm → Mm → Prop) : Array Value → State → Outcome → State → Prop := fun _ st o t =>
  (∃ (r : Option Value) (G' M' : Mm), o = .returned r ∧ Post r G' M' ∧ HR X.2.1 X.2.2.1 X.2.2.2 G' M' t.heap) ∧ va_F (fun q => X.2.2.2 ≤ q) st t
def Xn (X : Xv) (PX : String → Mm → Mm → Prop) : String → State → State → Prop := fun E st t =>
  (∃ G' M' : Mm, PX E G' M' ∧ HR X.2.1 X.2.2.1 X.2.2.2 G' M' t.heap) ∧ va_F (fun q => X.2.2.2 ≤ q) st t
def Pn (X : Xv) (av : List Value) (G M : Mm) : Array Value → State → Prop := fun v U => v = av.toArray ∧ Ks X U ∧ HR X.2.1 X.2.2.1 X.2.2.2 G M U.heap
def frX (X : Xv) : Addr → Prop := fun q => X.2.2.2 ≤ q
/-- method y (its code, locals, type) returns: frames, locals, cells, slots that it takes at most; its arguments; the memory before; what holds behind -/
def CT (X : Xv) (y : MethodName) (b : ByteArray) (nL : Nat) (ret : Option FieldType) (fr lo mc ms : Nat) (av : List Value) (G M : Mm) (Post : Option Value → Mm → Mm → Prop) : Prop :=
  Met X.1 y [.code y b nL ret] { frames := fr, cells := mc, slots := ms, locals := lo } (Pn X av G M) (Qn X Post) mc ms (frX X)
/-- as CT; it may also throw: PX says what class then, and the memory -/
def CX (X : Xv) (y : MethodName) (b : ByteArray) (nL : Nat) (ret : Option FieldType) (fr lo mc ms : Nat) (av : List Value) (G M : Mm) (Post : Option Value → Mm → Mm → Prop) (PX : String → Mm → Mm → Prop) : Prop :=
  vx_Met X.1 y [.code y b nL ret] { frames := fr, cells := mc, slots := ms, locals := lo } (Pn X av G M) (Qn X Post) (Xn X PX) mc ms (frX X)
theorem Pn.blind {X : Xv} {av : List Value} {G M : Mm} : FrameBlind (Pn X av G M) := fun a U g mk h => ⟨h.1, h.2.1.blind g mk a, h.2.2⟩
/-! ===== the walk ===== -/
abbrev Ev : Type := Xv × Program × Env × Room × State × MethodId × Array Value × List Frame × Method × Code × (State → Prop)
abbrev LE : Type := Nat × Nat × Value
def LV (ls : Array Slot) (nL : Nat) (ll : List LE) : Prop := ls.size = nL ∧ lv_wf ls ∧ ∀ q ∈ ll, ls[q.1]? = some (.val q.2.2) ∧ q.2.2.category = q.2.1
def lk (i : Nat) : List LE → Option Value
  | [] => none
  | q :: r => match Nat.beq q.1 i with
    | true => some q.2.2
    | false => lk i r
theorem lk_in {i : Nat} {v : Value} : ∀ {ll : List LE}, lk i ll = some v → ∃ c, (i, c, v) ∈ ll
  | [], h => by cases h
  | q :: r, h => by
    unfold lk at h
    cases hb : Nat.beq q.1 i with
    | true =>
      rw [hb] at h
      obtain ⟨a, b, c⟩ := q
      have e1 : a = i := Nat.eq_of_beq_eq_true hb
      have e2 : c = v := Option.some.inj h
      subst e1 e2
      exact ⟨b, List.mem_cons_self⟩
    | false =>
      rw [hb] at h
      obtain ⟨c, hc⟩ := lk_in h
      exact ⟨c, List.mem_cons_of_mem _ hc⟩
theorem LV.at {ls : Array Slot} {nL : Nat} {ll : List LE} (h : LV ls nL ll) {i : Nat} {v : Value} (hk : lk i ll = some v) : ls[i]? = some (.val v) := by
  obtain ⟨c, hc⟩ := lk_in hk
  exact (h.2.2 _ hc).1
/-- storing a value of one slot, or of two -/
def st1 (i : Nat) (v : Value) (ll : List LE) : List LE := (i, 1, v) :: ll.filter (fun q => !(q.1 == i) && !(q.1 + 1 == i && q.2.1 == 2))
def st2 (i : Nat) (v : Value) (ll : List LE) : List LE := (i, 2, v) :: ll.filter (fun q => !(q.1 == i) && (!(q.1 == i + 1) && !(q.1 + 1 == i && q.2.1 == 2)))
theorem LV.has {ls : Array Slot} {nL : Nat} {ll : List LE} (h : LV ls nL ll) : lv_has ls nL (ll.map fun q => (q.1, q.2.2)) := by
  refine ⟨h.1, h.2.1, fun q hq => ?_⟩
  obtain ⟨x, hx, rfl⟩ := List.mem_map.mp hq
  exact (h.2.2 x hx).1
theorem LV.st1 {ls : Array Slot} {nL : Nat} {ll : List LE} (h : LV ls nL ll) {i : Nat} {v : Value} (hi : i < nL) (hc : v.category = 1) : ∃ ls', storeLocals ls i v = some ls' ∧ LV ls' nL (st1 i v ll) := by
  obtain ⟨ls', e, h'⟩ := lv_store1 h.has hi hc
  refine ⟨ls', e, h'.1, h'.2.1, fun q hq => ?_⟩
  rcases List.mem_cons.mp hq with rfl | hq
  · exact ⟨h'.2.2 (i, v) List.mem_cons_self, hc⟩
  · obtain ⟨h1, h2⟩ := List.mem_filter.mp hq
    refine ⟨h'.2.2 (q.1, q.2.2) (List.mem_cons_of_mem _ (List.mem_filter.mpr ⟨List.mem_map.mpr ⟨q, h1, rfl⟩, ?_⟩)), (h.2.2 q h1).2⟩
    rw [(h.2.2 q h1).2]
    exact h2
theorem LV.st2 {ls : Array Slot} {nL : Nat} {ll : List LE} (h : LV ls nL ll) {i : Nat} {v : Value} (hi : i + 1 < nL) (hc : v.category = 2) : ∃ ls', storeLocals ls i v = some ls' ∧ LV ls' nL (st2 i v ll) := by
  obtain ⟨ls', e, h'⟩ := lv_store2 h.has hi hc
  refine ⟨ls', e, h'.1, h'.2.1, fun q hq => ?_⟩
  rcases List.mem_cons.mp hq with rfl | hq
  · exact ⟨h'.2.2 (i, v) List.mem_cons_self, hc⟩
  · obtain ⟨h1, h2⟩ := List.mem_filter.mp hq
    refine ⟨h'.2.2 (q.1, q.2.2) (List.mem_cons_of_mem _ (List.mem_filter.mpr ⟨List.mem_map.mpr ⟨q, h1, rfl⟩, ?_⟩)), (h.2.2 q h1).2⟩
    rw [(h.2.2 q h1).2]
    exact h2
/-- the locals of ll' are among those of ll -/
def subL : List LE → List LE → Prop
  | [], _ => True
  | q :: r, ll => lk q.1 ll = some q.2.2 ∧ q.2.2.category = q.2.1 ∧ subL r ll
theorem LV.sub {ls : Array Slot} {nL : Nat} {ll : List LE} (h : LV ls nL ll) : ∀ {ll' : List LE}, subL ll' ll → LV ls nL ll'
  | [], _ => ⟨h.1, h.2.1, fun q hq => by cases hq⟩
  | q :: r, hs => by
    obtain ⟨h1, h2, h3⟩ := hs
    refine ⟨h.1, h.2.1, fun x hx => ?_⟩
    rcases List.mem_cons.mp hx with rfl | hx
    · exact ⟨h.at h1, h2⟩
    · exact (h.sub h3).2.2 x hx
/-- the entry's locals, by the arguments' sizes -/
def agc : Nat → List Nat → List Value → List LE
  | _, _, [] => []
  | _, [], _ :: _ => []
  | i, c :: cs, v :: vs => (i, c, v) :: agc (i + c) cs vs
def catsOk : List Nat → List Value → Prop
  | _, [] => True
  | [], _ :: _ => False
  | c :: cs, v :: vs => v.category = c ∧ catsOk cs vs
theorem agc_args : ∀ (cs : List Nat) (vs : List Value) (i : Nat), catsOk cs vs → ∀ q ∈ agc i cs vs, (q.1, q.2.2) ∈ lv_args i vs ∧ q.2.2.category = q.2.1
  | _, [], _, _ => fun q hq => by simp [agc] at hq
  | [], v :: vs, i, h => by cases h
  | c :: cs, v :: vs, i, h => by
    obtain ⟨h1, h2⟩ := h
    intro q hq
    simp only [agc] at hq
    have hc := lv_cat v
    rcases List.mem_cons.mp hq with rfl | hq
    · refine ⟨?_, h1⟩
      simp only [lv_args]
      by_cases h : v.category = 2
      · simp [h]
      · simp [h]
    · obtain ⟨q1, q2⟩ := agc_args cs vs (i + c) h2 q hq
      refine ⟨?_, q2⟩
      subst h1
      simp only [lv_args]
      rcases hc with hc | hc
      · rw [hc] at q1
        simp only [hc]
        exact List.mem_cons_of_mem _ q1
      · rw [hc] at q1
        simp only [hc]
        exact List.mem_cons_of_mem _ q1
/-- at pc, with the memory G, M, cells k and slots n used, locals ll, stack st: the method comes to its end as E's last part says -/
def PW (E : Ev) (G M : Mm) (k n : Nat) (pc : Nat) (ll : List LE) (st : List Value) : Prop := match E with
  | ((l, D, cA, B0), p, e, R, s, m, args, below, meth, c, Q) => ∀ (H : Heap) (locs : List Loc) (ls : Array Slot), HR D cA B0 G M H → va_S (fun q => B0 ≤ q) s.heap H locs → LV ls c.maxLocals ll →
    W p l e R s m args below meth c H locs k n Q (F0 m pc ls st)
/-- what stands fast in a method: its bytes cc, its class, its table of handlers, its room -/
def Cx (E : Ev) (cc : ByteArray) (nL : Nat) (own : String) (tb : List ExceptionTableEntry) (R0 : Room) : Prop := match E with
  | (X, p, _, R, s, m, _, _, meth, c, _) => p.tables.exec = Jvm.exec ∧ c.code = cc ∧ c.maxLocals = nL ∧ s.vm.findClass own = some m.cls ∧ meth.locks = false ∧ c.exceptionTable.toList = tb ∧ R = R0 ∧ Ks X s
/-- what its end asks -/
def Rt (E : Ev) (Post : Option Value → Mm → Mm → Prop) (ret : Option FieldType) (mc ms : Nat) : Prop := match E with
  | ((l, D, cA, B0), p, e, R, s, m, args, below, meth, c, Q) => meth.sig.returnType = ret ∧ ∀ (H : Heap) (locs : List Loc) (g : JFrame), W p l e R s m args below meth c H locs mc ms (MQ below (Qn (l, D, cA, B0) Post) args s mc ms (frX (l, D, cA, B0))) g → W p l e R s m args below meth c H locs mc ms Q g
/-- what it asks where it throws -/
def Rx (E : Ev) (PX : String → Mm → Mm → Prop) (mc ms : Nat) : Prop := match E with
  | ((l, D, cA, B0), _, _, _, s, _, args, below, _, _, Q) => ∃ Qc, Q = vx_MQ below Qc (Xn (l, D, cA, B0) PX) args s mc ms (frX (l, D, cA, B0))
/-- a constructor's own name -/
def Ini (E : Ev) : Prop := E.2.2.2.2.2.2.2.2.1.name = "<init>"
theorem CT.mk {X : Xv} {y : MethodName} {b : ByteArray} {nL : Nat} {ret : Option FieldType} {fr lo mc ms : Nat} {av : List Value} {G M : Mm} {Post : Option Value → Mm → Mm → Prop} (hy : plainName y.cls = true) (cs : List Nat) (hcs : catsOk cs av) (hn : (lg_sl av).length ≤ nL)
    (body : ∀ E : Ev, E.1 = X → Cx E b nL y.cls [] { frames := fr, cells := mc, slots := ms, locals := lo } → Rt E Post ret mc ms → (y.name = "<init>" → Ini E) → PW E G M 0 0 0 (agc 0 cs av) []) : CT X y b nL ret fr lo mc ms av G M Post := by
  obtain ⟨l, D, cA, B0⟩ := X
  refine Met.ofW (cc := b) (maxL := nL) (ret := ret) hy rfl ?_
  intro p e s m args below meth c s₁ B hml hv
  obtain ⟨rfl, hK, hH⟩ := hv
  have ht : c.exceptionTable.toList = [] := by
    obtain ⟨meth9, c9, h1, h2, -, -, -, -, h7, -⟩ := Cond.code_spec B.named (atoms_spec (ws := [Cond.code y b nL ret]) B.pre _ List.mem_cons_self)
    cases Option.some.inj (h1.symm.trans B.method)
    cases Option.some.inj (h2.symm.trans (Stand.of_body B).code)
    rw [Array.isEmpty_iff.mp h7]
  have h := body ((l, D, cA, B0), p, e, { frames := fr, cells := mc, slots := ms, locals := lo }, s, m, av.toArray, below, meth, c, MQ below (Qn (l, D, cA, B0) Post) av.toArray s mc ms (frX (l, D, cA, B0))) rfl
    ⟨B.exec, B.bytes, hml, findClass_of_methodNamed B.named, B.notSynchronized, ht, rfl, hK⟩ ⟨B.returns, fun _ _ _ h => h⟩ (fun hn => (name_of_methodNamed B.named B.method).1.trans hn)
  have hl := lv_entry av (n := nL) hn
  rw [lg_entry_eq]
  refine h s.heap [] _ hH va_S.rf ?_
  rw [hml]
  exact ⟨hl.1, hl.2.1, fun q hq => ⟨hl.2.2 (q.1, q.2.2) (agc_args cs av 0 hcs q hq).1, (agc_args cs av 0 hcs q hq).2⟩⟩
theorem CX.mk {X : Xv} {y : MethodName} {b : ByteArray} {nL : Nat} {ret : Option FieldType} {fr lo mc ms : Nat} {av : List Value} {G M : Mm} {Post : Option Value → Mm → Mm → Prop} {PX : String → Mm → Mm → Prop} (hy : plainName y.cls = true) (cs : List Nat) (hcs : catsOk cs av) (hn : (lg_sl av).length ≤ nL)
    (body : ∀ E : Ev, E.1 = X → Cx E b nL y.cls [] { frames := fr, cells := mc, slots := ms, locals := lo } → Rt E Post ret mc ms → Rx E PX mc ms → PW E G M 0 0 0 (agc 0 cs av) []) : CX X y b nL ret fr lo mc ms av G M Post PX := by
  obtain ⟨l, D, cA, B0⟩ := X
  refine vx_ofW (cc := b) (maxL := nL) (ret := ret) hy rfl ?_
  intro p e s m args below meth c s₁ B hml ht hv
  obtain ⟨rfl, hK, hH⟩ := hv
  have ht : c.exceptionTable.toList = [] := List.eq_nil_iff_forall_not_mem.mpr ht
  have h := body ((l, D, cA, B0), p, e, { frames := fr, cells := mc, slots := ms, locals := lo }, s, m, av.toArray, below, meth, c, vx_MQ below (Qn (l, D, cA, B0) Post) (Xn (l, D, cA, B0) PX) av.toArray s mc ms (frX (l, D, cA, B0))) rfl
    ⟨B.exec, B.bytes, hml, findClass_of_methodNamed B.named, B.notSynchronized, ht, rfl, hK⟩ ⟨B.returns, fun _ _ _ h => vx_ret h⟩ ⟨_, rfl⟩
  have hl := lv_entry av (n := nL) hn
  rw [lg_entry_eq]
  refine h s.heap [] _ hH va_S.rf ?_
  rw [hml]
  exact ⟨hl.1, hl.2.1, fun q hq => ⟨hl.2.2 (q.1, q.2.2) (agc_args cs av 0 hcs q hq).1, (agc_args cs av 0 hcs q hq).2⟩⟩
theorem Cx.word {E : Ev} {cc : ByteArray} {nL : Nat} {own : String} {tb : List ExceptionTableEntry} {R0 : Room} (C : Cx E cc nL own tb R0) {w : Cond} (hw : w ∈ lw_tbl) (ho : okw w = true) : w.before E.2.2.2.2.2.2.1 E.2.2.2.2.1 = true := by
  obtain ⟨⟨l, D, cA, B0⟩, p, e, R, s, m, args, below, meth, c, Q⟩ := E
  exact okw_same rfl ho (C.2.2.2.2.2.2.2.2.2.1 w hw ho)
end
section
theorem lx_of1 {ls ls' : Array Slot} {nL : Nat} {ll : List LE} (h : LV ls nL ll) {i : Nat} {v : Value} (h' : lv_has ls' nL ((i, v) :: (ll.map fun q => (q.1, q.2.2)).filter (fun q => !(q.1 == i) && !(q.1 + 1 == i && q.2.category == 2)))) (hc : v.category = 1) : LV ls' nL (st1 i v ll) := by
  refine ⟨h'.1, h'.2.1, fun q hq => ?_⟩
  rcases List.mem_cons.mp hq with rfl | hq
  · exact ⟨h'.2.2 (i, v) List.mem_cons_self, hc⟩
  · obtain ⟨h1, h2⟩ := List.mem_filter.mp hq
    refine ⟨h'.2.2 (q.1, q.2.2) (List.mem_cons_of_mem _ (List.mem_filter.mpr ⟨List.mem_map.mpr ⟨q, h1, rfl⟩, ?_⟩)), (h.2.2 q h1).2⟩
    rw [(h.2.2 q h1).2]
    exact h2
theorem lx_of2 {ls ls' : Array Slot} {nL : Nat} {ll : List LE} (h : LV ls nL ll) {i : Nat} {v : Value} (h' : lv_has ls' nL ((i, v) :: (ll.map fun q => (q.1, q.2.2)).filter (fun q => !(q.1 == i) && (!(q.1 == i + 1) && !(q.1 + 1 == i && q.2.category == 2))))) (hc : v.category = 2) : LV ls' nL (st2 i v ll) := by
  refine ⟨h'.1, h'.2.1, fun q hq => ?_⟩
  rcases List.mem_cons.mp hq with rfl | hq
  · exact ⟨h'.2.2 (i, v) List.mem_cons_self, hc⟩
  · obtain ⟨h1, h2⟩ := List.mem_filter.mp hq
    refine ⟨h'.2.2 (q.1, q.2.2) (List.mem_cons_of_mem _ (List.mem_filter.mpr ⟨List.mem_map.mpr ⟨q, h1, rfl⟩, ?_⟩)), (h.2.2 q h1).2⟩
    rw [(h.2.2 q h1).2]
    exact h2
theorem LV.find {ls : Array Slot} {nL : Nat} {ll : List LE} (_ : LV ls nL ll) {i : Nat} {v : Value} (hk : lk i ll = some v) : ∃ j : Nat, (ll.map fun q => (q.1, q.2.2))[j]? = some (i, v) := by
  obtain ⟨c, hc⟩ := lk_in hk
  exact List.getElem?_of_mem (List.mem_map.mpr ⟨_, hc, rfl⟩)
section Rows1
variable {E : Ev} {cc : ByteArray} {nL : Nat} {own : String} {tb : List ExceptionTableEntry} {R0 : Room} {G M : Mm} {k n pc : Nat} {ll : List LE} {st : List Value}
theorem pw_iconst (C : Cx E cc nL own tb R0) {v : Int} (d : decode cc pc = .ok (.iconst v, 1)) (kk : PW E G M k n (pc + 1) ll (vI v :: st)) : PW E G M k n pc ll (st) := by
  obtain ⟨⟨l, D, cA, B0⟩, p, e, R, s, m, args, below, meth, c, Q⟩ := E
  obtain ⟨hx, hb, hml, hown, hlocks, htb, hR, hK⟩ := C
  intro H locs ls h1 h2 h3
  exact lv_iconst hx hb d rfl (kk H locs ls h1 h2 h3)
theorem pw_bipush (C : Cx E cc nL own tb R0) {v : Int} (d : decode cc pc = .ok (.bipush v, 2)) (hv : (Int8.ofInt v).toInt32 = Int32.ofInt v) (kk : PW E G M k n (pc + 2) ll (vI v :: st)) : PW E G M k n pc ll (st) := by
  obtain ⟨⟨l, D, cA, B0⟩, p, e, R, s, m, args, below, meth, c, Q⟩ := E
  obtain ⟨hx, hb, hml, hown, hlocks, htb, hR, hK⟩ := C
  intro H locs ls h1 h2 h3
  exact lv_bipush hx hb d hv (kk H locs ls h1 h2 h3)
theorem pw_sipush (C : Cx E cc nL own tb R0) {v : Int} (d : decode cc pc = .ok (.sipush v, 3)) (hv : (Int16.ofInt v).toInt32 = Int32.ofInt v) (kk : PW E G M k n (pc + 3) ll (vI v :: st)) : PW E G M k n pc ll (st) := by
  obtain ⟨⟨l, D, cA, B0⟩, p, e, R, s, m, args, below, meth, c, Q⟩ := E
  obtain ⟨hx, hb, hml, hown, hlocks, htb, hR, hK⟩ := C
  intro H locs ls h1 h2 h3
  exact lv_sipush hx hb d hv (kk H locs ls h1 h2 h3)
theorem pw_lconst (C : Cx E cc nL own tb R0) {j : Fin 2} {v : Int} (d : decode cc pc = .ok (.lconst j, 1)) (hv : Int64.ofNat (j : Nat) = Int64.ofInt v) (kk : PW E G M k n (pc + 1) ll (vL v :: st)) : PW E G M k n pc ll (st) := by
  obtain ⟨⟨l, D, cA, B0⟩, p, e, R, s, m, args, below, meth, c, Q⟩ := E
  obtain ⟨hx, hb, hml, hown, hlocks, htb, hR, hK⟩ := C
  intro H locs ls h1 h2 h3
  exact lv_lconst hx hb d hv (kk H locs ls h1 h2 h3)
theorem pw_null (C : Cx E cc nL own tb R0) (d : decode cc pc = .ok (.aconst_null, 1)) (kk : PW E G M k n (pc + 1) ll (vR (-1) :: st)) : PW E G M k n pc ll (st) := by
  obtain ⟨⟨l, D, cA, B0⟩, p, e, R, s, m, args, below, meth, c, Q⟩ := E
  obtain ⟨hx, hb, hml, hown, hlocks, htb, hR, hK⟩ := C
  intro H locs ls h1 h2 h3
  exact lv_null hx hb d (kk H locs ls h1 h2 h3)
theorem pw_iload_n (C : Cx E cc nL own tb R0) {j : Fin 4} {x : Int32} (d : decode cc pc = .ok (.iload_n j, 1)) (h : lk (j : Nat) ll = some (.int x)) (kk : PW E G M k n (pc + 1) ll (.int x :: st)) : PW E G M k n pc ll (st) := by
  obtain ⟨⟨l, D, cA, B0⟩, p, e, R, s, m, args, below, meth, c, Q⟩ := E
  obtain ⟨hx, hb, hml, hown, hlocks, htb, hR, hK⟩ := C
  intro H locs ls h1 h2 h3
  exact lv_iload_n hx hb d rfl (h3.at h) (kk H locs ls h1 h2 h3)
theorem pw_iload (C : Cx E cc nL own tb R0) {i : Nat} {x : Int32} (d : decode cc pc = .ok (.iload i, 2)) (h : lk i ll = some (.int x)) (kk : PW E G M k n (pc + 2) ll (.int x :: st)) : PW E G M k n pc ll (st) := by
  obtain ⟨⟨l, D, cA, B0⟩, p, e, R, s, m, args, below, meth, c, Q⟩ := E
  obtain ⟨hx, hb, hml, hown, hlocks, htb, hR, hK⟩ := C
  intro H locs ls h1 h2 h3
  exact lv_iload hx hb d (h3.at h) (kk H locs ls h1 h2 h3)
theorem pw_lload_n (C : Cx E cc nL own tb R0) {j : Fin 4} {x : Int64} (d : decode cc pc = .ok (.lload_n j, 1)) (h : lk (j : Nat) ll = some (.long x)) (kk : PW E G M k n (pc + 1) ll (.long x :: st)) : PW E G M k n pc ll (st) := by
  obtain ⟨⟨l, D, cA, B0⟩, p, e, R, s, m, args, below, meth, c, Q⟩ := E
  obtain ⟨hx, hb, hml, hown, hlocks, htb, hR, hK⟩ := C
  intro H locs ls h1 h2 h3
  exact lv_lload_n hx hb d rfl (h3.at h) (kk H locs ls h1 h2 h3)
theorem pw_lload (C : Cx E cc nL own tb R0) {i : Nat} {x : Int64} (d : decode cc pc = .ok (.lload i, 2)) (h : lk i ll = some (.long x)) (kk : PW E G M k n (pc + 2) ll (.long x :: st)) : PW E G M k n pc ll (st) := by
  obtain ⟨⟨l, D, cA, B0⟩, p, e, R, s, m, args, below, meth, c, Q⟩ := E
  obtain ⟨hx, hb, hml, hown, hlocks, htb, hR, hK⟩ := C
  intro H locs ls h1 h2 h3
  exact lv_lload hx hb d (h3.at h) (kk H locs ls h1 h2 h3)
theorem pw_dload_n (C : Cx E cc nL own tb R0) {j : Fin 4} {x : UInt64} (d : decode cc pc = .ok (.dload_n j, 1)) (h : lk (j : Nat) ll = some (.double x)) (kk : PW E G M k n (pc + 1) ll (.double x :: st)) : PW E G M k n pc ll (st) := by
  obtain ⟨⟨l, D, cA, B0⟩, p, e, R, s, m, args, below, meth, c, Q⟩ := E
  obtain ⟨hx, hb, hml, hown, hlocks, htb, hR, hK⟩ := C
  intro H locs ls h1 h2 h3
  exact lv_dload_n hx hb d rfl (h3.at h) (kk H locs ls h1 h2 h3)
theorem pw_dload (C : Cx E cc nL own tb R0) {i : Nat} {x : UInt64} (d : decode cc pc = .ok (.dload i, 2)) (h : lk i ll = some (.double x)) (kk : PW E G M k n (pc + 2) ll (.double x :: st)) : PW E G M k n pc ll (st) := by
  obtain ⟨⟨l, D, cA, B0⟩, p, e, R, s, m, args, below, meth, c, Q⟩ := E
  obtain ⟨hx, hb, hml, hown, hlocks, htb, hR, hK⟩ := C
  intro H locs ls h1 h2 h3
  exact lv_dload hx hb d (h3.at h) (kk H locs ls h1 h2 h3)
theorem pw_aload_n (C : Cx E cc nL own tb R0) {j : Fin 4} {x : Int} (d : decode cc pc = .ok (.aload_n j, 1)) (h : lk (j : Nat) ll = some (vR x)) (kk : PW E G M k n (pc + 1) ll (vR x :: st)) : PW E G M k n pc ll (st) := by
  obtain ⟨⟨l, D, cA, B0⟩, p, e, R, s, m, args, below, meth, c, Q⟩ := E
  obtain ⟨hx, hb, hml, hown, hlocks, htb, hR, hK⟩ := C
  intro H locs ls h1 h2 h3
  have q := (kk H locs ls h1 h2 h3)
  have h' := h3.at h
  by_cases hn : x < 0
  · rw [vR_neg hn] at q h'
    exact lv_aload_nN hx hb d rfl h' q
  · rw [vR_pos (by omega)] at q h'
    exact lv_aload_n hx hb d rfl h' q
theorem pw_aload (C : Cx E cc nL own tb R0) {i : Nat} {x : Int} (d : decode cc pc = .ok (.aload i, 2)) (h : lk i ll = some (vR x)) (kk : PW E G M k n (pc + 2) ll (vR x :: st)) : PW E G M k n pc ll (st) := by
  obtain ⟨⟨l, D, cA, B0⟩, p, e, R, s, m, args, below, meth, c, Q⟩ := E
  obtain ⟨hx, hb, hml, hown, hlocks, htb, hR, hK⟩ := C
  intro H locs ls h1 h2 h3
  have q := (kk H locs ls h1 h2 h3)
  have h' := h3.at h
  by_cases hn : x < 0
  · rw [vR_neg hn] at q h'
    exact lv_aloadN hx hb d h' q
  · rw [vR_pos (by omega)] at q h'
    exact lv_aload hx hb d h' q
theorem pw_istore (C : Cx E cc nL own tb R0) {i : Nat} {x : Int32} {ll' : List LE} (d : decode cc pc = .ok (.istore i, 2)) (hi : i < nL) (hl : st1 i (.int x) ll = ll') (kk : PW E G M k n (pc + 2) ll' st) : PW E G M k n pc ll (.int x :: st) := by
  obtain ⟨⟨l, D, cA, B0⟩, p, e, R, s, m, args, below, meth, c, Q⟩ := E
  obtain ⟨hx, hb, hml, hown, hlocks, htb, hR, hK⟩ := C
  intro H locs ls h1 h2 h3
  subst hl
  exact lv_istore hx hb d h3.has (by rw [hml]; exact hi) rfl (fun ls' h' => kk H locs ls' h1 h2 (lx_of1 h3 h' rfl))
theorem pw_istore_n (C : Cx E cc nL own tb R0) {j : Fin 4} {x : Int32} {ll' : List LE} (d : decode cc pc = .ok (.istore_n j, 1)) (hi : (j : Nat) < nL) (hl : st1 (j : Nat) (.int x) ll = ll') (kk : PW E G M k n (pc + 1) ll' st) : PW E G M k n pc ll (.int x :: st) := by
  obtain ⟨⟨l, D, cA, B0⟩, p, e, R, s, m, args, below, meth, c, Q⟩ := E
  obtain ⟨hx, hb, hml, hown, hlocks, htb, hR, hK⟩ := C
  intro H locs ls h1 h2 h3
  subst hl
  exact lv_istore_n hx hb d rfl h3.has (by rw [hml]; exact hi) rfl (fun ls' h' => kk H locs ls' h1 h2 (lx_of1 h3 h' rfl))
theorem pw_lstore (C : Cx E cc nL own tb R0) {i : Nat} {x : Int64} {ll' : List LE} (d : decode cc pc = .ok (.lstore i, 2)) (hi : i + 1 < nL) (hl : st2 i (.long x) ll = ll') (kk : PW E G M k n (pc + 2) ll' st) : PW E G M k n pc ll (.long x :: st) := by
  obtain ⟨⟨l, D, cA, B0⟩, p, e, R, s, m, args, below, meth, c, Q⟩ := E
  obtain ⟨hx, hb, hml, hown, hlocks, htb, hR, hK⟩ := C
  intro H locs ls h1 h2 h3
  subst hl
  exact lv_lstore hx hb d h3.has (by rw [hml]; exact hi) rfl (fun ls' h' => kk H locs ls' h1 h2 (lx_of2 h3 h' rfl))
theorem pw_lstore_n (C : Cx E cc nL own tb R0) {j : Fin 4} {x : Int64} {ll' : List LE} (d : decode cc pc = .ok (.lstore_n j, 1)) (hi : (j : Nat) + 1 < nL) (hl : st2 (j : Nat) (.long x) ll = ll') (kk : PW E G M k n (pc + 1) ll' st) : PW E G M k n pc ll (.long x :: st) := by
  obtain ⟨⟨l, D, cA, B0⟩, p, e, R, s, m, args, below, meth, c, Q⟩ := E
  obtain ⟨hx, hb, hml, hown, hlocks, htb, hR, hK⟩ := C
  intro H locs ls h1 h2 h3
  subst hl
  exact lv_lstore_n hx hb d rfl h3.has (by rw [hml]; exact hi) rfl (fun ls' h' => kk H locs ls' h1 h2 (lx_of2 h3 h' rfl))
theorem pw_dstore (C : Cx E cc nL own tb R0) {i : Nat} {x : UInt64} {ll' : List LE} (d : decode cc pc = .ok (.dstore i, 2)) (hi : i + 1 < nL) (hl : st2 i (.double x) ll = ll') (kk : PW E G M k n (pc + 2) ll' st) : PW E G M k n pc ll (.double x :: st) := by
  obtain ⟨⟨l, D, cA, B0⟩, p, e, R, s, m, args, below, meth, c, Q⟩ := E
  obtain ⟨hx, hb, hml, hown, hlocks, htb, hR, hK⟩ := C
  intro H locs ls h1 h2 h3
  subst hl
  exact lv_dstore hx hb d h3.has (by rw [hml]; exact hi) rfl (fun ls' h' => kk H locs ls' h1 h2 (lx_of2 h3 h' rfl))
theorem pw_dstore_n (C : Cx E cc nL own tb R0) {j : Fin 4} {x : UInt64} {ll' : List LE} (d : decode cc pc = .ok (.dstore_n j, 1)) (hi : (j : Nat) + 1 < nL) (hl : st2 (j : Nat) (.double x) ll = ll') (kk : PW E G M k n (pc + 1) ll' st) : PW E G M k n pc ll (.double x :: st) := by
  obtain ⟨⟨l, D, cA, B0⟩, p, e, R, s, m, args, below, meth, c, Q⟩ := E
  obtain ⟨hx, hb, hml, hown, hlocks, htb, hR, hK⟩ := C
  intro H locs ls h1 h2 h3
  subst hl
  exact lv_dstore_n hx hb d rfl h3.has (by rw [hml]; exact hi) rfl (fun ls' h' => kk H locs ls' h1 h2 (lx_of2 h3 h' rfl))
theorem pw_astore (C : Cx E cc nL own tb R0) {i : Nat} {x : Int} {ll' : List LE} (d : decode cc pc = .ok (.astore i, 2)) (hi : i < nL) (hl : st1 i (vR x) ll = ll') (kk : PW E G M k n (pc + 2) ll' st) : PW E G M k n pc ll (vR x :: st) := by
  obtain ⟨⟨l, D, cA, B0⟩, p, e, R, s, m, args, below, meth, c, Q⟩ := E
  obtain ⟨hx, hb, hml, hown, hlocks, htb, hR, hK⟩ := C
  intro H locs ls h1 h2 h3
  subst hl
  have q : ∀ ls' : Array Slot, LV ls' c.maxLocals (st1 i (vR x) ll) → W p l e R s m args below meth c H locs k n Q (F0 m (pc + 2) ls' st) := fun ls' h' => kk H locs ls' h1 h2 h'
  by_cases hn : x < 0
  · rw [vR_neg hn] at q ⊢
    exact lv_astoreN hx hb d h3.has (by rw [hml]; exact hi) rfl (fun ls' h' => q ls' (lx_of1 h3 h' rfl))
  · rw [vR_pos (by omega)] at q ⊢
    exact lv_astore hx hb d h3.has (by rw [hml]; exact hi) rfl (fun ls' h' => q ls' (lx_of1 h3 h' rfl))
theorem pw_astore_n (C : Cx E cc nL own tb R0) {j : Fin 4} {x : Int} {ll' : List LE} (d : decode cc pc = .ok (.astore_n j, 1)) (hi : (j : Nat) < nL) (hl : st1 (j : Nat) (vR x) ll = ll') (kk : PW E G M k n (pc + 1) ll' st) : PW E G M k n pc ll (vR x :: st) := by
  obtain ⟨⟨l, D, cA, B0⟩, p, e, R, s, m, args, below, meth, c, Q⟩ := E
  obtain ⟨hx, hb, hml, hown, hlocks, htb, hR, hK⟩ := C
  intro H locs ls h1 h2 h3
  subst hl
  have q : ∀ ls' : Array Slot, LV ls' c.maxLocals (st1 (j : Nat) (vR x) ll) → W p l e R s m args below meth c H locs k n Q (F0 m (pc + 1) ls' st) := fun ls' h' => kk H locs ls' h1 h2 h'
  by_cases hn : x < 0
  · rw [vR_neg hn] at q ⊢
    exact lv_astore_nN hx hb d rfl h3.has (by rw [hml]; exact hi) rfl (fun ls' h' => q ls' (lx_of1 h3 h' rfl))
  · rw [vR_pos (by omega)] at q ⊢
    exact lv_astore_n hx hb d rfl h3.has (by rw [hml]; exact hi) rfl (fun ls' h' => q ls' (lx_of1 h3 h' rfl))
theorem pw_iinc (C : Cx E cc nL own tb R0) {i : Nat} {x v : Int} {ll' : List LE} (d : decode cc pc = .ok (.iinc i v, 3)) (h : lk i ll = some (vI x)) (hi : i < nL) (hl : st1 i (vI (x + v)) ll = ll') (kk : PW E G M k n (pc + 3) ll' st) : PW E G M k n pc ll st := by
  obtain ⟨⟨l, D, cA, B0⟩, p, e, R, s, m, args, below, meth, c, Q⟩ := E
  obtain ⟨hx, hb, hml, hown, hlocks, htb, hR, hK⟩ := C
  intro H locs ls h1 h2 h3
  subst hl
  obtain ⟨j, hj⟩ := h3.find h
  exact lv_iinc (v := Int32.ofInt (x + v)) hx hb d h3.has hj (by rw [Int32.ofInt_add]) (by rw [hml]; exact hi) rfl (fun ls' h' => kk H locs ls' h1 h2 (lx_of1 h3 h' rfl))
theorem pw_iadd (C : Cx E cc nL own tb R0) {x y : Int} (d : decode cc pc = .ok (.iadd, 1)) (kk : PW E G M k n (pc + 1) ll (vI (x + y) :: st)) : PW E G M k n pc ll (vI y :: vI x :: st) := by
  obtain ⟨⟨l, D, cA, B0⟩, p, e, R, s, m, args, below, meth, c, Q⟩ := E
  obtain ⟨hx, hb, hml, hown, hlocks, htb, hR, hK⟩ := C
  intro H locs ls h1 h2 h3
  have q := (kk H locs ls h1 h2 h3)
  simp only [vI, Int32.ofInt_add] at q
  exact lv_iadd hx hb d q
theorem pw_isub (C : Cx E cc nL own tb R0) {x y : Int} (d : decode cc pc = .ok (.isub, 1)) (kk : PW E G M k n (pc + 1) ll (vI (x - y) :: st)) : PW E G M k n pc ll (vI y :: vI x :: st) := by
  obtain ⟨⟨l, D, cA, B0⟩, p, e, R, s, m, args, below, meth, c, Q⟩ := E
  obtain ⟨hx, hb, hml, hown, hlocks, htb, hR, hK⟩ := C
  intro H locs ls h1 h2 h3
  have q := (kk H locs ls h1 h2 h3)
  simp only [vI, Int32.ofInt_sub] at q
  exact lv_isub hx hb d q
theorem pw_imul (C : Cx E cc nL own tb R0) {x y : Int} (d : decode cc pc = .ok (.imul, 1)) (kk : PW E G M k n (pc + 1) ll (vI (x * y) :: st)) : PW E G M k n pc ll (vI y :: vI x :: st) := by
  obtain ⟨⟨l, D, cA, B0⟩, p, e, R, s, m, args, below, meth, c, Q⟩ := E
  obtain ⟨hx, hb, hml, hown, hlocks, htb, hR, hK⟩ := C
  intro H locs ls h1 h2 h3
  have q := (kk H locs ls h1 h2 h3)
  simp only [vI, Int32.ofInt_mul] at q
  exact lv_imul hx hb d q
theorem pw_ladd (C : Cx E cc nL own tb R0) {x y : Int} (d : decode cc pc = .ok (.ladd, 1)) (kk : PW E G M k n (pc + 1) ll (vL (x + y) :: st)) : PW E G M k n pc ll (vL y :: vL x :: st) := by
  obtain ⟨⟨l, D, cA, B0⟩, p, e, R, s, m, args, below, meth, c, Q⟩ := E
  obtain ⟨hx, hb, hml, hown, hlocks, htb, hR, hK⟩ := C
  intro H locs ls h1 h2 h3
  have q := (kk H locs ls h1 h2 h3)
  simp only [vL, Int64.ofInt_add] at q
  exact lv_ladd hx hb d q
theorem pw_lmul (C : Cx E cc nL own tb R0) {x y : Int} (d : decode cc pc = .ok (.lmul, 1)) (kk : PW E G M k n (pc + 1) ll (vL (x * y) :: st)) : PW E G M k n pc ll (vL y :: vL x :: st) := by
  obtain ⟨⟨l, D, cA, B0⟩, p, e, R, s, m, args, below, meth, c, Q⟩ := E
  obtain ⟨hx, hb, hml, hown, hlocks, htb, hR, hK⟩ := C
  intro H locs ls h1 h2 h3
  have q := (kk H locs ls h1 h2 h3)
  simp only [vL, Int64.ofInt_mul] at q
  exact lv_lmul hx hb d q
theorem pw_iand (C : Cx E cc nL own tb R0) {x y : Int32} (d : decode cc pc = .ok (.iand, 1)) (kk : PW E G M k n (pc + 1) ll (.int (x &&& y) :: st)) : PW E G M k n pc ll (.int y :: .int x :: st) := by
  obtain ⟨⟨l, D, cA, B0⟩, p, e, R, s, m, args, below, meth, c, Q⟩ := E
  obtain ⟨hx, hb, hml, hown, hlocks, htb, hR, hK⟩ := C
  intro H locs ls h1 h2 h3
  exact lv_iand hx hb d (kk H locs ls h1 h2 h3)
theorem pw_ior (C : Cx E cc nL own tb R0) {x y : Int32} (d : decode cc pc = .ok (.ior, 1)) (kk : PW E G M k n (pc + 1) ll (.int (x ||| y) :: st)) : PW E G M k n pc ll (.int y :: .int x :: st) := by
  obtain ⟨⟨l, D, cA, B0⟩, p, e, R, s, m, args, below, meth, c, Q⟩ := E
  obtain ⟨hx, hb, hml, hown, hlocks, htb, hR, hK⟩ := C
  intro H locs ls h1 h2 h3
  exact lv_ior hx hb d (kk H locs ls h1 h2 h3)
theorem pw_ishl (C : Cx E cc nL own tb R0) {x y : Int32} (d : decode cc pc = .ok (.ishl, 1)) (kk : PW E G M k n (pc + 1) ll (.int (x <<< (y &&& 31)) :: st)) : PW E G M k n pc ll (.int y :: .int x :: st) := by
  obtain ⟨⟨l, D, cA, B0⟩, p, e, R, s, m, args, below, meth, c, Q⟩ := E
  obtain ⟨hx, hb, hml, hown, hlocks, htb, hR, hK⟩ := C
  intro H locs ls h1 h2 h3
  exact lv_ishl hx hb d (kk H locs ls h1 h2 h3)
theorem pw_ishr (C : Cx E cc nL own tb R0) {x y : Int32} (d : decode cc pc = .ok (.ishr, 1)) (kk : PW E G M k n (pc + 1) ll (.int (x >>> (y &&& 31)) :: st)) : PW E G M k n pc ll (.int y :: .int x :: st) := by
  obtain ⟨⟨l, D, cA, B0⟩, p, e, R, s, m, args, below, meth, c, Q⟩ := E
  obtain ⟨hx, hb, hml, hown, hlocks, htb, hR, hK⟩ := C
  intro H locs ls h1 h2 h3
  exact lv_ishr hx hb d (kk H locs ls h1 h2 h3)
theorem pw_iushr (C : Cx E cc nL own tb R0) {x y : Int32} (d : decode cc pc = .ok (.iushr, 1)) (kk : PW E G M k n (pc + 1) ll (.int (x.toUInt32 >>> (y.toUInt32 &&& Int32.toUInt32 31)).toInt32 :: st)) : PW E G M k n pc ll (.int y :: .int x :: st) := by
  obtain ⟨⟨l, D, cA, B0⟩, p, e, R, s, m, args, below, meth, c, Q⟩ := E
  obtain ⟨hx, hb, hml, hown, hlocks, htb, hR, hK⟩ := C
  intro H locs ls h1 h2 h3
  exact lv_iushr hx hb d rfl (kk H locs ls h1 h2 h3)
theorem pw_iaddw (C : Cx E cc nL own tb R0) {x y : Int32} (d : decode cc pc = .ok (.iadd, 1)) (kk : PW E G M k n (pc + 1) ll (.int (x + y) :: st)) : PW E G M k n pc ll (.int y :: .int x :: st) := by
  obtain ⟨⟨l, D, cA, B0⟩, p, e, R, s, m, args, below, meth, c, Q⟩ := E
  obtain ⟨hx, hb, hml, hown, hlocks, htb, hR, hK⟩ := C
  intro H locs ls h1 h2 h3
  exact lv_iadd hx hb d (kk H locs ls h1 h2 h3)
theorem pw_isubw (C : Cx E cc nL own tb R0) {x y : Int32} (d : decode cc pc = .ok (.isub, 1)) (kk : PW E G M k n (pc + 1) ll (.int (x - y) :: st)) : PW E G M k n pc ll (.int y :: .int x :: st) := by
  obtain ⟨⟨l, D, cA, B0⟩, p, e, R, s, m, args, below, meth, c, Q⟩ := E
  obtain ⟨hx, hb, hml, hown, hlocks, htb, hR, hK⟩ := C
  intro H locs ls h1 h2 h3
  exact lv_isub hx hb d (kk H locs ls h1 h2 h3)
theorem pw_i2l (C : Cx E cc nL own tb R0) {x : Int} (d : decode cc pc = .ok (.i2l, 1)) (hx0 : -2147483648 ≤ x ∧ x ≤ 2147483647) (kk : PW E G M k n (pc + 1) ll (vL x :: st)) : PW E G M k n pc ll (vI x :: st) := by
  obtain ⟨⟨l, D, cA, B0⟩, p, e, R, s, m, args, below, meth, c, Q⟩ := E
  obtain ⟨hx, hb, hml, hown, hlocks, htb, hR, hK⟩ := C
  intro H locs ls h1 h2 h3
  exact lv_i2l hx hb d (Int32.toInt64_ofInt (by exact hx0.1) (by exact hx0.2)) (kk H locs ls h1 h2 h3)
theorem pw_i2d (C : Cx E cc nL own tb R0) {x : Int32} (d : decode cc pc = .ok (.i2d, 1)) (kk : PW E G M k n (pc + 1) ll (.double (FP.i2d x) :: st)) : PW E G M k n pc ll (.int x :: st) := by
  obtain ⟨⟨l, D, cA, B0⟩, p, e, R, s, m, args, below, meth, c, Q⟩ := E
  obtain ⟨hx, hb, hml, hown, hlocks, htb, hR, hK⟩ := C
  intro H locs ls h1 h2 h3
  exact lv_i2d hx hb d (kk H locs ls h1 h2 h3)
theorem pw_dconst0 (C : Cx E cc nL own tb R0) (d : decode cc pc = .ok (.dconst 0, 1)) (kk : PW E G M k n (pc + 1) ll (.double FP.dconst0 :: st)) : PW E G M k n pc ll (st) := by
  obtain ⟨⟨l, D, cA, B0⟩, p, e, R, s, m, args, below, meth, c, Q⟩ := E
  obtain ⟨hx, hb, hml, hown, hlocks, htb, hR, hK⟩ := C
  intro H locs ls h1 h2 h3
  exact lv_dconst0 hx hb d (kk H locs ls h1 h2 h3)
theorem pw_ddiv (C : Cx E cc nL own tb R0) {x y : UInt64} (d : decode cc pc = .ok (.ddiv, 1)) (hne : vf_n64 (FP.ddiv x y)) (kk : PW E G M k n (pc + 1) ll (.double (FP.ddiv x y) :: st)) : PW E G M k n pc ll (.double y :: .double x :: st) := by
  obtain ⟨⟨l, D, cA, B0⟩, p, e, R, s, m, args, below, meth, c, Q⟩ := E
  obtain ⟨hx, hb, hml, hown, hlocks, htb, hR, hK⟩ := C
  intro H locs ls h1 h2 h3
  exact lv_ddiv hx hb d hne (kk H locs ls h1 h2 h3)
theorem pw_dcmp (C : Cx E cc nL own tb R0) {x y : UInt64} {op : CmpOp} (d : decode cc pc = .ok (.dcmp op, 1)) (kk : PW E G M k n (pc + 1) ll (.int (Op.cmpValue (FP.dcmp x y) op) :: st)) : PW E G M k n pc ll (.double y :: .double x :: st) := by
  obtain ⟨⟨l, D, cA, B0⟩, p, e, R, s, m, args, below, meth, c, Q⟩ := E
  obtain ⟨hx, hb, hml, hown, hlocks, htb, hR, hK⟩ := C
  intro H locs ls h1 h2 h3
  exact lv_dcmp hx hb d (kk H locs ls h1 h2 h3)
theorem pw_lcmp (C : Cx E cc nL own tb R0) {x y : Int64} (d : decode cc pc = .ok (.lcmp, 1)) (kk : PW E G M k n (pc + 1) ll (.int (lg_cmp x y) :: st)) : PW E G M k n pc ll (.long y :: .long x :: st) := by
  obtain ⟨⟨l, D, cA, B0⟩, p, e, R, s, m, args, below, meth, c, Q⟩ := E
  obtain ⟨hx, hb, hml, hown, hlocks, htb, hR, hK⟩ := C
  intro H locs ls h1 h2 h3
  exact W.lcmp hx hb d (kk H locs ls h1 h2 h3)
theorem pw_dup (C : Cx E cc nL own tb R0) {v : Value} (d : decode cc pc = .ok (.dup, 1)) (hc : v.category = 1) (kk : PW E G M k n (pc + 1) ll (v :: v :: st)) : PW E G M k n pc ll (v :: st) := by
  obtain ⟨⟨l, D, cA, B0⟩, p, e, R, s, m, args, below, meth, c, Q⟩ := E
  obtain ⟨hx, hb, hml, hown, hlocks, htb, hR, hK⟩ := C
  intro H locs ls h1 h2 h3
  exact lv_dup hx hb d hc (kk H locs ls h1 h2 h3)
theorem pw_pop (C : Cx E cc nL own tb R0) {v : Value} (d : decode cc pc = .ok (.pop, 1)) (hc : v.category = 1) (kk : PW E G M k n (pc + 1) ll (st)) : PW E G M k n pc ll (v :: st) := by
  obtain ⟨⟨l, D, cA, B0⟩, p, e, R, s, m, args, below, meth, c, Q⟩ := E
  obtain ⟨hx, hb, hml, hown, hlocks, htb, hR, hK⟩ := C
  intro H locs ls h1 h2 h3
  exact lv_pop hx hb d hc (kk H locs ls h1 h2 h3)
theorem pw_dup_x1 (C : Cx E cc nL own tb R0) {v w : Value} (d : decode cc pc = .ok (.dup_x1, 1)) (hc : v.category = 1) (hw : w.category = 1) (kk : PW E G M k n (pc + 1) ll (v :: w :: v :: st)) : PW E G M k n pc ll (v :: w :: st) := by
  obtain ⟨⟨l, D, cA, B0⟩, p, e, R, s, m, args, below, meth, c, Q⟩ := E
  obtain ⟨hx, hb, hml, hown, hlocks, htb, hR, hK⟩ := C
  intro H locs ls h1 h2 h3
  exact lv_dup_x1 hx hb d hc hw (kk H locs ls h1 h2 h3)
theorem pw_dup2 (C : Cx E cc nL own tb R0) {v w : Value} (d : decode cc pc = .ok (.dup2, 1)) (hc : v.category = 1) (hw : w.category = 1) (kk : PW E G M k n (pc + 1) ll (v :: w :: v :: w :: st)) : PW E G M k n pc ll (v :: w :: st) := by
  obtain ⟨⟨l, D, cA, B0⟩, p, e, R, s, m, args, below, meth, c, Q⟩ := E
  obtain ⟨hx, hb, hml, hown, hlocks, htb, hR, hK⟩ := C
  intro H locs ls h1 h2 h3
  exact lv_dup2_11 hx hb d hc hw (kk H locs ls h1 h2 h3)
theorem pw_goto (C : Cx E cc nL own tb R0) {off : Int} {tgt : Nat} (d : decode cc pc = .ok (.goto off, 3)) (ht : (pc : Int) + off = (tgt : Int)) (kk : PW E G M k n tgt ll st) : PW E G M k n pc ll st := by
  obtain ⟨⟨l, D, cA, B0⟩, p, e, R, s, m, args, below, meth, c, Q⟩ := E
  obtain ⟨hx, hb, hml, hown, hlocks, htb, hR, hK⟩ := C
  intro H locs ls h1 h2 h3
  exact lv_goto hx hb d ht (kk H locs ls h1 h2 h3)
theorem pw_icmp_eq (C : Cx E cc nL own tb R0) {x y off : Int} {tgt : Nat} (d : decode cc pc = .ok (.if_icmp .eq off, 3)) (ht : (pc : Int) + off = (tgt : Int)) (hr : (-2147483648 ≤ x ∧ x ≤ 2147483647) ∧ (-2147483648 ≤ y ∧ y ≤ 2147483647)) (kt : x = y → PW E G M k n tgt ll st) (kf : ¬ x = y → PW E G M k n (pc + 3) ll st) : PW E G M k n pc ll (vI y :: vI x :: st) := by
  obtain ⟨⟨l, D, cA, B0⟩, p, e, R, s, m, args, below, meth, c, Q⟩ := E
  obtain ⟨hx, hb, hml, hown, hlocks, htb, hR, hK⟩ := C
  intro H locs ls h1 h2 h3
  have hq := i32_eq (x := x) (y := y) hr
  exact lv_icmp_eq hx hb d ht (fun q => kt (hq.mp q) H locs ls h1 h2 h3) (fun q => kf (fun z => q (hq.mpr z)) H locs ls h1 h2 h3)
theorem pw_if_eq (C : Cx E cc nL own tb R0) {x off : Int} {tgt : Nat} (d : decode cc pc = .ok (.ifCond .eq off, 3)) (ht : (pc : Int) + off = (tgt : Int)) (hr : -2147483648 ≤ x ∧ x ≤ 2147483647) (kt : x = 0 → PW E G M k n tgt ll st) (kf : ¬ x = 0 → PW E G M k n (pc + 3) ll st) : PW E G M k n pc ll (vI x :: st) := by
  obtain ⟨⟨l, D, cA, B0⟩, p, e, R, s, m, args, below, meth, c, Q⟩ := E
  obtain ⟨hx, hb, hml, hown, hlocks, htb, hR, hK⟩ := C
  intro H locs ls h1 h2 h3
  have hq := i32_eq (x := x) (y := 0) (by omega)
  exact lv_if_eq hx hb d ht (fun q => kt (hq.mp q) H locs ls h1 h2 h3) (fun q => kf (fun z => q (hq.mpr z)) H locs ls h1 h2 h3)
theorem pw_icmp_ne (C : Cx E cc nL own tb R0) {x y off : Int} {tgt : Nat} (d : decode cc pc = .ok (.if_icmp .ne off, 3)) (ht : (pc : Int) + off = (tgt : Int)) (hr : (-2147483648 ≤ x ∧ x ≤ 2147483647) ∧ (-2147483648 ≤ y ∧ y ≤ 2147483647)) (kt : ¬ x = y → PW E G M k n tgt ll st) (kf : x = y → PW E G M k n (pc + 3) ll st) : PW E G M k n pc ll (vI y :: vI x :: st) := by
  obtain ⟨⟨l, D, cA, B0⟩, p, e, R, s, m, args, below, meth, c, Q⟩ := E
  obtain ⟨hx, hb, hml, hown, hlocks, htb, hR, hK⟩ := C
  intro H locs ls h1 h2 h3
  have hq := i32_eq (x := x) (y := y) hr
  exact lv_icmp_ne hx hb d ht (fun q => kt (fun z => q (hq.mpr z)) H locs ls h1 h2 h3) (fun q => kf (hq.mp q) H locs ls h1 h2 h3)
theorem pw_if_ne (C : Cx E cc nL own tb R0) {x off : Int} {tgt : Nat} (d : decode cc pc = .ok (.ifCond .ne off, 3)) (ht : (pc : Int) + off = (tgt : Int)) (hr : -2147483648 ≤ x ∧ x ≤ 2147483647) (kt : ¬ x = 0 → PW E G M k n tgt ll st) (kf : x = 0 → PW E G M k n (pc + 3) ll st) : PW E G M k n pc ll (vI x :: st) := by
  obtain ⟨⟨l, D, cA, B0⟩, p, e, R, s, m, args, below, meth, c, Q⟩ := E
  obtain ⟨hx, hb, hml, hown, hlocks, htb, hR, hK⟩ := C
  intro H locs ls h1 h2 h3
  have hq := i32_eq (x := x) (y := 0) (by omega)
  exact lv_if_ne hx hb d ht (fun q => kt (fun z => q (hq.mpr z)) H locs ls h1 h2 h3) (fun q => kf (hq.mp q) H locs ls h1 h2 h3)
theorem pw_icmp_lt (C : Cx E cc nL own tb R0) {x y off : Int} {tgt : Nat} (d : decode cc pc = .ok (.if_icmp .lt off, 3)) (ht : (pc : Int) + off = (tgt : Int)) (hr : (-2147483648 ≤ x ∧ x ≤ 2147483647) ∧ (-2147483648 ≤ y ∧ y ≤ 2147483647)) (kt : x < y → PW E G M k n tgt ll st) (kf : ¬ x < y → PW E G M k n (pc + 3) ll st) : PW E G M k n pc ll (vI y :: vI x :: st) := by
  obtain ⟨⟨l, D, cA, B0⟩, p, e, R, s, m, args, below, meth, c, Q⟩ := E
  obtain ⟨hx, hb, hml, hown, hlocks, htb, hR, hK⟩ := C
  intro H locs ls h1 h2 h3
  have hq := i32_lt (x := x) (y := y) hr
  exact lv_icmp_lt hx hb d ht (fun q => kt (hq.mp q) H locs ls h1 h2 h3) (fun q => kf (fun z => q (hq.mpr z)) H locs ls h1 h2 h3)
theorem pw_if_lt (C : Cx E cc nL own tb R0) {x off : Int} {tgt : Nat} (d : decode cc pc = .ok (.ifCond .lt off, 3)) (ht : (pc : Int) + off = (tgt : Int)) (hr : -2147483648 ≤ x ∧ x ≤ 2147483647) (kt : x < 0 → PW E G M k n tgt ll st) (kf : ¬ x < 0 → PW E G M k n (pc + 3) ll st) : PW E G M k n pc ll (vI x :: st) := by
  obtain ⟨⟨l, D, cA, B0⟩, p, e, R, s, m, args, below, meth, c, Q⟩ := E
  obtain ⟨hx, hb, hml, hown, hlocks, htb, hR, hK⟩ := C
  intro H locs ls h1 h2 h3
  have hq := i32_lt (x := x) (y := 0) (by omega)
  exact lv_if_lt hx hb d ht (fun q => kt (hq.mp q) H locs ls h1 h2 h3) (fun q => kf (fun z => q (hq.mpr z)) H locs ls h1 h2 h3)
theorem pw_icmp_ge (C : Cx E cc nL own tb R0) {x y off : Int} {tgt : Nat} (d : decode cc pc = .ok (.if_icmp .ge off, 3)) (ht : (pc : Int) + off = (tgt : Int)) (hr : (-2147483648 ≤ x ∧ x ≤ 2147483647) ∧ (-2147483648 ≤ y ∧ y ≤ 2147483647)) (kt : y ≤ x → PW E G M k n tgt ll st) (kf : ¬ y ≤ x → PW E G M k n (pc + 3) ll st) : PW E G M k n pc ll (vI y :: vI x :: st) := by
  obtain ⟨⟨l, D, cA, B0⟩, p, e, R, s, m, args, below, meth, c, Q⟩ := E
  obtain ⟨hx, hb, hml, hown, hlocks, htb, hR, hK⟩ := C
  intro H locs ls h1 h2 h3
  have hq := i32_le (x := y) (y := x) ⟨hr.2, hr.1⟩
  exact lv_icmp_ge hx hb d ht (fun q => kt (hq.mp q) H locs ls h1 h2 h3) (fun q => kf (fun z => q (hq.mpr z)) H locs ls h1 h2 h3)
theorem pw_if_ge (C : Cx E cc nL own tb R0) {x off : Int} {tgt : Nat} (d : decode cc pc = .ok (.ifCond .ge off, 3)) (ht : (pc : Int) + off = (tgt : Int)) (hr : -2147483648 ≤ x ∧ x ≤ 2147483647) (kt : 0 ≤ x → PW E G M k n tgt ll st) (kf : ¬ 0 ≤ x → PW E G M k n (pc + 3) ll st) : PW E G M k n pc ll (vI x :: st) := by
  obtain ⟨⟨l, D, cA, B0⟩, p, e, R, s, m, args, below, meth, c, Q⟩ := E
  obtain ⟨hx, hb, hml, hown, hlocks, htb, hR, hK⟩ := C
  intro H locs ls h1 h2 h3
  have hq := i32_le (x := 0) (y := x) (by omega)
  exact lv_if_ge hx hb d ht (fun q => kt (hq.mp q) H locs ls h1 h2 h3) (fun q => kf (fun z => q (hq.mpr z)) H locs ls h1 h2 h3)
theorem pw_icmp_gt (C : Cx E cc nL own tb R0) {x y off : Int} {tgt : Nat} (d : decode cc pc = .ok (.if_icmp .gt off, 3)) (ht : (pc : Int) + off = (tgt : Int)) (hr : (-2147483648 ≤ x ∧ x ≤ 2147483647) ∧ (-2147483648 ≤ y ∧ y ≤ 2147483647)) (kt : y < x → PW E G M k n tgt ll st) (kf : ¬ y < x → PW E G M k n (pc + 3) ll st) : PW E G M k n pc ll (vI y :: vI x :: st) := by
  obtain ⟨⟨l, D, cA, B0⟩, p, e, R, s, m, args, below, meth, c, Q⟩ := E
  obtain ⟨hx, hb, hml, hown, hlocks, htb, hR, hK⟩ := C
  intro H locs ls h1 h2 h3
  have hq := i32_lt (x := y) (y := x) ⟨hr.2, hr.1⟩
  exact lv_icmp_gt hx hb d ht (fun q => kt (hq.mp q) H locs ls h1 h2 h3) (fun q => kf (fun z => q (hq.mpr z)) H locs ls h1 h2 h3)
theorem pw_if_gt (C : Cx E cc nL own tb R0) {x off : Int} {tgt : Nat} (d : decode cc pc = .ok (.ifCond .gt off, 3)) (ht : (pc : Int) + off = (tgt : Int)) (hr : -2147483648 ≤ x ∧ x ≤ 2147483647) (kt : 0 < x → PW E G M k n tgt ll st) (kf : ¬ 0 < x → PW E G M k n (pc + 3) ll st) : PW E G M k n pc ll (vI x :: st) := by
  obtain ⟨⟨l, D, cA, B0⟩, p, e, R, s, m, args, below, meth, c, Q⟩ := E
  obtain ⟨hx, hb, hml, hown, hlocks, htb, hR, hK⟩ := C
  intro H locs ls h1 h2 h3
  have hq := i32_lt (x := 0) (y := x) (by omega)
  exact lv_if_gt hx hb d ht (fun q => kt (hq.mp q) H locs ls h1 h2 h3) (fun q => kf (fun z => q (hq.mpr z)) H locs ls h1 h2 h3)
theorem pw_icmp_le (C : Cx E cc nL own tb R0) {x y off : Int} {tgt : Nat} (d : decode cc pc = .ok (.if_icmp .le off, 3)) (ht : (pc : Int) + off = (tgt : Int)) (hr : (-2147483648 ≤ x ∧ x ≤ 2147483647) ∧ (-2147483648 ≤ y ∧ y ≤ 2147483647)) (kt : x ≤ y → PW E G M k n tgt ll st) (kf : ¬ x ≤ y → PW E G M k n (pc + 3) ll st) : PW E G M k n pc ll (vI y :: vI x :: st) := by
  obtain ⟨⟨l, D, cA, B0⟩, p, e, R, s, m, args, below, meth, c, Q⟩ := E
  obtain ⟨hx, hb, hml, hown, hlocks, htb, hR, hK⟩ := C
  intro H locs ls h1 h2 h3
  have hq := i32_le (x := x) (y := y) hr
  exact lv_icmp_le hx hb d ht (fun q => kt (hq.mp q) H locs ls h1 h2 h3) (fun q => kf (fun z => q (hq.mpr z)) H locs ls h1 h2 h3)
theorem pw_if_le (C : Cx E cc nL own tb R0) {x off : Int} {tgt : Nat} (d : decode cc pc = .ok (.ifCond .le off, 3)) (ht : (pc : Int) + off = (tgt : Int)) (hr : -2147483648 ≤ x ∧ x ≤ 2147483647) (kt : x ≤ 0 → PW E G M k n tgt ll st) (kf : ¬ x ≤ 0 → PW E G M k n (pc + 3) ll st) : PW E G M k n pc ll (vI x :: st) := by
  obtain ⟨⟨l, D, cA, B0⟩, p, e, R, s, m, args, below, meth, c, Q⟩ := E
  obtain ⟨hx, hb, hml, hown, hlocks, htb, hR, hK⟩ := C
  intro H locs ls h1 h2 h3
  have hq := i32_le (x := x) (y := 0) (by omega)
  exact lv_if_le hx hb d ht (fun q => kt (hq.mp q) H locs ls h1 h2 h3) (fun q => kf (fun z => q (hq.mpr z)) H locs ls h1 h2 h3)
theorem pw_acmp_eq (C : Cx E cc nL own tb R0) {x y off : Int} {tgt : Nat} (d : decode cc pc = .ok (.if_acmp .eq off, 3)) (ht : (pc : Int) + off = (tgt : Int)) (hr : 0 ≤ x ∧ 0 ≤ y) (kt : x = y → PW E G M k n tgt ll st) (kf : ¬ x = y → PW E G M k n (pc + 3) ll st) : PW E G M k n pc ll (vR y :: vR x :: st) := by
  obtain ⟨⟨l, D, cA, B0⟩, p, e, R, s, m, args, below, meth, c, Q⟩ := E
  obtain ⟨hx, hb, hml, hown, hlocks, htb, hR, hK⟩ := C
  intro H locs ls h1 h2 h3
  have hq : oI x = oI y ↔ x = y := by
    have a1 : ¬ x < 0 := by omega
    have a2 : ¬ y < 0 := by omega
    simp only [oI, a1, a2, if_false, Option.some.injEq]
    omega
  exact lv_acmp_eq hx hb d ht (fun q => kt (hq.mp q) H locs ls h1 h2 h3) (fun q => kf (fun z => q (hq.mpr z)) H locs ls h1 h2 h3)
theorem pw_acmp_ne (C : Cx E cc nL own tb R0) {x y off : Int} {tgt : Nat} (d : decode cc pc = .ok (.if_acmp .ne off, 3)) (ht : (pc : Int) + off = (tgt : Int)) (hr : 0 ≤ x ∧ 0 ≤ y) (kt : ¬ x = y → PW E G M k n tgt ll st) (kf : x = y → PW E G M k n (pc + 3) ll st) : PW E G M k n pc ll (vR y :: vR x :: st) := by
  obtain ⟨⟨l, D, cA, B0⟩, p, e, R, s, m, args, below, meth, c, Q⟩ := E
  obtain ⟨hx, hb, hml, hown, hlocks, htb, hR, hK⟩ := C
  intro H locs ls h1 h2 h3
  have hq : oI x = oI y ↔ x = y := by
    have a1 : ¬ x < 0 := by omega
    have a2 : ¬ y < 0 := by omega
    simp only [oI, a1, a2, if_false, Option.some.injEq]
    omega
  exact lv_acmp_ne hx hb d ht (fun q => kt (fun z => q (hq.mpr z)) H locs ls h1 h2 h3) (fun q => kf (hq.mp q) H locs ls h1 h2 h3)
theorem pw_swin (C : Cx E cc nL own tb R0) {dflt lo hi x off : Int} {offs : Array Int} {len tgt : Nat} (d : decode cc pc = .ok (.tableswitch dflt lo hi offs, len)) (hr : -2147483648 ≤ x ∧ x ≤ 2147483647) (h1' : lo ≤ x) (h2' : x ≤ hi) (ho : offs[(x - lo).toNat]? = some off) (ht : (pc : Int) + off = (tgt : Int)) (kk : PW E G M k n tgt ll st) : PW E G M k n pc ll (vI x :: st) := by
  obtain ⟨⟨l, D, cA, B0⟩, p, e, R, s, m, args, below, meth, c, Q⟩ := E
  obtain ⟨hx, hb, hml, hown, hlocks, htb, hR, hK⟩ := C
  intro H locs ls h1 h2 h3
  exact lv_tableIn (x := Int32.ofInt x) hx hb d (by rw [i32_toInt hr.1 hr.2]; omega) (by rw [i32_toInt hr.1 hr.2]; omega) (by rw [i32_toInt hr.1 hr.2]; exact ho) ht (kk H locs ls h1 h2 h3)
theorem pw_swout (C : Cx E cc nL own tb R0) {dflt lo hi x : Int} {offs : Array Int} {len tgt : Nat} (d : decode cc pc = .ok (.tableswitch dflt lo hi offs, len)) (hr : -2147483648 ≤ x ∧ x ≤ 2147483647) (h : x < lo ∨ hi < x) (ht : (pc : Int) + dflt = (tgt : Int)) (kk : PW E G M k n tgt ll st) : PW E G M k n pc ll (vI x :: st) := by
  obtain ⟨⟨l, D, cA, B0⟩, p, e, R, s, m, args, below, meth, c, Q⟩ := E
  obtain ⟨hx, hb, hml, hown, hlocks, htb, hR, hK⟩ := C
  intro H locs ls h1 h2 h3
  exact lv_tableOut (x := Int32.ofInt x) hx hb d (by rw [i32_toInt hr.1 hr.2]; exact h) ht (kk H locs ls h1 h2 h3)
theorem pw_top {v v' : Value} (h : v = v') (kk : PW E G M k n pc ll (v' :: st)) : PW E G M k n pc ll (v :: st) := by rw [h]; exact kk
theorem pw_locs {ll' : List LE} (h : subL ll' ll) (kk : PW E G M k n pc ll' st) : PW E G M k n pc ll st := by
  obtain ⟨⟨l, D, cA, B0⟩, p, e, R, s, m, args, below, meth, c, Q⟩ := E
  intro H locs ls h1 h2 h3
  exact kk H locs ls h1 h2 (h3.sub h)
theorem pw_widen {k' n' : Nat} (h : k ≤ k') (h' : n ≤ n') (kk : PW E G M k' n' pc ll st) : PW E G M k n pc ll st := by
  obtain ⟨⟨l, D, cA, B0⟩, p, e, R, s, m, args, below, meth, c, Q⟩ := E
  intro H locs ls h1 h2 h3
  exact W.widen h h' (kk H locs ls h1 h2 h3)
theorem pw_mem {G' M' : Mm} (h : G = G') (h' : M = M') (kk : PW E G' M' k n pc ll st) : PW E G M k n pc ll st := by rw [h, h']; exact kk
theorem pw_iret (C : Cx E cc nL own tb R0) {Post : Option Value → Mm → Mm → Prop} {mc ms : Nat} {x : Int} (hr : Rt E Post (some .int) mc ms) (d : decode cc pc = .ok (.ireturn, 1)) (hp : Post (some (vI x)) G M) (hk : k ≤ mc) (hn : n ≤ ms) : PW E G M k n pc ll [vI x] := by
  obtain ⟨⟨l, D, cA, B0⟩, p, e, R, s, m, args, below, meth, c, Q⟩ := E
  obtain ⟨hx, hb, hml, hown, hlocks, htb, hR, hK⟩ := C
  intro H locs ls h1 h2 h3
  obtain ⟨hr1, hr2⟩ := hr
  refine W.widen hk hn (hr2 _ _ _ ?_)
  exact W.iret (v := Int32.ofInt x) hx hb hr1 (fun t ht hW => ⟨⟨_, G, M, rfl, hp, by rw [ht]; exact h1⟩, h2.F ht⟩) h2.2.2 d hlocks
theorem pw_zret (C : Cx E cc nL own tb R0) {Post : Option Value → Mm → Mm → Prop} {mc ms : Nat} {x : Int} (hr : Rt E Post (some .boolean) mc ms) (d : decode cc pc = .ok (.ireturn, 1)) (hx01 : x = 0 ∨ x = 1) (hp : Post (some (vI x)) G M) (hk : k ≤ mc) (hn : n ≤ ms) : PW E G M k n pc ll [vI x] := by
  obtain ⟨⟨l, D, cA, B0⟩, p, e, R, s, m, args, below, meth, c, Q⟩ := E
  obtain ⟨hx, hb, hml, hown, hlocks, htb, hR, hK⟩ := C
  intro H locs ls h1 h2 h3
  obtain ⟨hr1, hr2⟩ := hr
  refine W.widen hk hn (hr2 _ _ _ ?_)
  exact W.zret (v := Int32.ofInt x) hx hb hr1 (by rcases hx01 with rfl | rfl <;> rfl) (fun t ht hW => ⟨⟨_, G, M, rfl, hp, by rw [ht]; exact h1⟩, h2.F ht⟩) h2.2.2 d hlocks
theorem pw_vret (C : Cx E cc nL own tb R0) {Post : Option Value → Mm → Mm → Prop} {mc ms : Nat} (hr : Rt E Post (none) mc ms) (d : decode cc pc = .ok (.return_, 1)) (hp : Post (none) G M) (hk : k ≤ mc) (hn : n ≤ ms) : PW E G M k n pc ll [] := by
  obtain ⟨⟨l, D, cA, B0⟩, p, e, R, s, m, args, below, meth, c, Q⟩ := E
  obtain ⟨hx, hb, hml, hown, hlocks, htb, hR, hK⟩ := C
  intro H locs ls h1 h2 h3
  obtain ⟨hr1, hr2⟩ := hr
  refine W.widen hk hn (hr2 _ _ _ ?_)
  exact W.vret hx hb hr1 (fun t ht hW => ⟨⟨_, G, M, rfl, hp, by rw [ht]; exact h1⟩, h2.F ht⟩) h2.2.2 d hlocks
theorem pw_lret (C : Cx E cc nL own tb R0) {Post : Option Value → Mm → Mm → Prop} {mc ms : Nat} {x : Int} (hr : Rt E Post (some .long) mc ms) (d : decode cc pc = .ok (.lreturn, 1)) (hp : Post (some (vL x)) G M) (hk : k ≤ mc) (hn : n ≤ ms) : PW E G M k n pc ll [vL x] := by
  obtain ⟨⟨l, D, cA, B0⟩, p, e, R, s, m, args, below, meth, c, Q⟩ := E
  obtain ⟨hx, hb, hml, hown, hlocks, htb, hR, hK⟩ := C
  intro H locs ls h1 h2 h3
  obtain ⟨hr1, hr2⟩ := hr
  refine W.widen hk hn (hr2 _ _ _ ?_)
  exact W.lret (v := Int64.ofInt x) hx hb hr1 (fun t ht hW => ⟨⟨_, G, M, rfl, hp, by rw [ht]; exact h1⟩, h2.F ht⟩) h2.2.2 d hlocks
theorem pw_dret (C : Cx E cc nL own tb R0) {Post : Option Value → Mm → Mm → Prop} {mc ms : Nat} {x : UInt64} (hr : Rt E Post (some .double) mc ms) (d : decode cc pc = .ok (.dreturn, 1)) (hp : Post (some (.double x)) G M) (hk : k ≤ mc) (hn : n ≤ ms) : PW E G M k n pc ll [.double x] := by
  obtain ⟨⟨l, D, cA, B0⟩, p, e, R, s, m, args, below, meth, c, Q⟩ := E
  obtain ⟨hx, hb, hml, hown, hlocks, htb, hR, hK⟩ := C
  intro H locs ls h1 h2 h3
  obtain ⟨hr1, hr2⟩ := hr
  refine W.widen hk hn (hr2 _ _ _ ?_)
  exact W.dret (v := x) hx hb hr1 (fun t ht hW => ⟨⟨_, G, M, rfl, hp, by rw [ht]; exact h1⟩, h2.F ht⟩) h2.2.2 d hlocks
theorem pw_aret (C : Cx E cc nL own tb R0) {Post : Option Value → Mm → Mm → Prop} {mc ms : Nat} {x : Int} {rt : FieldType} (hr : Rt E Post (some rt) mc ms) (d : decode cc pc = .ok (.areturn, 1)) (hrt : (∃ n, rt = .object n) ∨ ∃ t, rt = .array t) (hp : Post (some (vR x)) G M) (hk : k ≤ mc) (hn : n ≤ ms) : PW E G M k n pc ll [vR x] := by
  obtain ⟨⟨l, D, cA, B0⟩, p, e, R, s, m, args, below, meth, c, Q⟩ := E
  obtain ⟨hx, hb, hml, hown, hlocks, htb, hR, hK⟩ := C
  intro H locs ls h1 h2 h3
  obtain ⟨hr1, hr2⟩ := hr
  refine W.widen hk hn (hr2 _ _ _ ?_)
  exact W.aret (v := vR x) hx hb hr1 hrt (by by_cases hn : x < 0; exact Or.inl (vR_neg hn); exact Or.inr ⟨_, vR_pos (by omega)⟩) (fun t ht hW => ⟨⟨_, G, M, rfl, hp, by rw [ht]; exact h1⟩, h2.F ht⟩) h2.2.2 d hlocks
end Rows1
end
section
theorem zz_t : (1:Nat) = 1 := rfl
end
