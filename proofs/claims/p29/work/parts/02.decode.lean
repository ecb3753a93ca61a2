theorem dX0_init_0 : decode cX0_init 0 = .ok (.aload_n 0, 1) := by decide +kernel
theorem dX0_init_1 : decode cX0_init 1 = .ok (.invokespecial 3, 3) := by decide +kernel
theorem dX0_init_4 : decode cX0_init 4 = .ok (.aload_n 0, 1) := by decide +kernel
theorem dX0_init_5 : decode cX0_init 5 = .ok (.bipush 10, 2) := by decide +kernel
theorem dX0_init_7 : decode cX0_init 7 = .ok (.newarray .int, 2) := by decide +kernel
theorem dX0_init_9 : decode cX0_init 9 = .ok (.putfield 9, 3) := by decide +kernel
theorem dX0_init_12 : decode cX0_init 12 = .ok (.aload_n 0, 1) := by decide +kernel
theorem dX0_init_13 : decode cX0_init 13 = .ok (.iconst (-1), 1) := by decide +kernel
theorem dX0_init_14 : decode cX0_init 14 = .ok (.putfield 15, 3) := by decide +kernel
theorem dX0_init_17 : decode cX0_init 17 = .ok (.aload_n 0, 1) := by decide +kernel
theorem dX0_init_18 : decode cX0_init 18 = .ok (.iconst (-1), 1) := by decide +kernel
theorem dX0_init_19 : decode cX0_init 19 = .ok (.putfield 19, 3) := by decide +kernel
theorem dX0_init_22 : decode cX0_init 22 = .ok (.aload_n 0, 1) := by decide +kernel
theorem dX0_init_23 : decode cX0_init 23 = .ok (.iconst (-1), 1) := by decide +kernel
theorem dX0_init_24 : decode cX0_init 24 = .ok (.putfield 22, 3) := by decide +kernel
theorem dX0_init_27 : decode cX0_init 27 = .ok (.aload_n 0, 1) := by decide +kernel
theorem dX0_init_28 : decode cX0_init 28 = .ok (.getfield 9, 3) := by decide +kernel
theorem dX0_init_31 : decode cX0_init 31 = .ok (.iconst (-1), 1) := by decide +kernel
theorem dX0_init_32 : decode cX0_init 32 = .ok (.invokestatic 25, 3) := by decide +kernel
theorem dX0_init_35 : decode cX0_init 35 = .ok (.return_, 1) := by decide +kernel
theorem dX0_settle_0 : decode cX0_settle 0 = .ok (.aload_n 0, 1) := by decide +kernel
theorem dX0_settle_1 : decode cX0_settle 1 = .ok (.aload_n 0, 1) := by decide +kernel
theorem dX0_settle_2 : decode cX0_settle 2 = .ok (.aload_n 1, 1) := by decide +kernel
theorem dX0_settle_3 : decode cX0_settle 3 = .ok (.aload_n 2, 1) := by decide +kernel
theorem dX0_settle_4 : decode cX0_settle 4 = .ok (.iconst 1, 1) := by decide +kernel
theorem dX0_settle_5 : decode cX0_settle 5 = .ok (.iconst (-1), 1) := by decide +kernel
theorem dX0_settle_6 : decode cX0_settle 6 = .ok (.invokevirtual 31, 3) := by decide +kernel
theorem dX0_settle_9 : decode cX0_settle 9 = .ok (.putfield 15, 3) := by decide +kernel
theorem dX0_settle_12 : decode cX0_settle 12 = .ok (.aload_n 0, 1) := by decide +kernel
theorem dX0_settle_13 : decode cX0_settle 13 = .ok (.iconst 0, 1) := by decide +kernel
theorem dX0_settle_14 : decode cX0_settle 14 = .ok (.putfield 35, 3) := by decide +kernel
theorem dX0_settle_17 : decode cX0_settle 17 = .ok (.aload_n 0, 1) := by decide +kernel
theorem dX0_settle_18 : decode cX0_settle 18 = .ok (.getfield 15, 3) := by decide +kernel
theorem dX0_settle_21 : decode cX0_settle 21 = .ok (.iconst (-1), 1) := by decide +kernel
theorem dX0_settle_22 : decode cX0_settle 22 = .ok (.if_icmp .eq 24, 3) := by decide +kernel
theorem dX0_settle_25 : decode cX0_settle 25 = .ok (.aload_n 2, 1) := by decide +kernel
theorem dX0_settle_26 : decode cX0_settle 26 = .ok (.aload_n 1, 1) := by decide +kernel
theorem dX0_settle_27 : decode cX0_settle 27 = .ok (.aload_n 0, 1) := by decide +kernel
theorem dX0_settle_28 : decode cX0_settle 28 = .ok (.getfield 9, 3) := by decide +kernel
theorem dX0_settle_31 : decode cX0_settle 31 = .ok (.aload_n 0, 1) := by decide +kernel
theorem dX0_settle_32 : decode cX0_settle 32 = .ok (.getfield 15, 3) := by decide +kernel
theorem dX0_settle_35 : decode cX0_settle 35 = .ok (.invokevirtual 38, 3) := by decide +kernel
theorem dX0_settle_38 : decode cX0_settle 38 = .ok (.aload_n 0, 1) := by decide +kernel
theorem dX0_settle_39 : decode cX0_settle 39 = .ok (.aload_n 2, 1) := by decide +kernel
theorem dX0_settle_40 : decode cX0_settle 40 = .ok (.getfield 44, 3) := by decide +kernel
theorem dX0_settle_43 : decode cX0_settle 43 = .ok (.putfield 35, 3) := by decide +kernel
theorem dX0_settle_46 : decode cX0_settle 46 = .ok (.aload_n 0, 1) := by decide +kernel
theorem dX0_settle_47 : decode cX0_settle 47 = .ok (.aload_n 0, 1) := by decide +kernel
theorem dX0_settle_48 : decode cX0_settle 48 = .ok (.getfield 15, 3) := by decide +kernel
theorem dX0_settle_51 : decode cX0_settle 51 = .ok (.iconst (-1), 1) := by decide +kernel
theorem dX0_settle_52 : decode cX0_settle 52 = .ok (.if_icmp .eq 10, 3) := by decide +kernel
theorem dX0_settle_55 : decode cX0_settle 55 = .ok (.aload_n 0, 1) := by decide +kernel
theorem dX0_settle_56 : decode cX0_settle 56 = .ok (.getfield 15, 3) := by decide +kernel
theorem dX0_settle_59 : decode cX0_settle 59 = .ok (.goto 11, 3) := by decide +kernel
theorem dX0_settle_62 : decode cX0_settle 62 = .ok (.aload_n 0, 1) := by decide +kernel
theorem dX0_settle_63 : decode cX0_settle 63 = .ok (.aload_n 1, 1) := by decide +kernel
theorem dX0_settle_64 : decode cX0_settle 64 = .ok (.aload_n 2, 1) := by decide +kernel
theorem dX0_settle_65 : decode cX0_settle 65 = .ok (.iconst 0, 1) := by decide +kernel
theorem dX0_settle_66 : decode cX0_settle 66 = .ok (.iconst (-1), 1) := by decide +kernel
theorem dX0_settle_67 : decode cX0_settle 67 = .ok (.invokevirtual 31, 3) := by decide +kernel
theorem dX0_settle_70 : decode cX0_settle 70 = .ok (.putfield 19, 3) := by decide +kernel
theorem dX0_settle_73 : decode cX0_settle 73 = .ok (.return_, 1) := by decide +kernel
theorem dX0_strongest_0 : decode cX0_strongest 0 = .ok (.iconst (-1), 1) := by decide +kernel
theorem dX0_strongest_1 : decode cX0_strongest 1 = .ok (.istore 5, 2) := by decide +kernel
theorem dX0_strongest_3 : decode cX0_strongest 3 = .ok (.iconst 0, 1) := by decide +kernel
theorem dX0_strongest_4 : decode cX0_strongest 4 = .ok (.istore 6, 2) := by decide +kernel
theorem dX0_strongest_6 : decode cX0_strongest 6 = .ok (.iconst 0, 1) := by decide +kernel
theorem dX0_strongest_7 : decode cX0_strongest 7 = .ok (.istore 7, 2) := by decide +kernel
theorem dX0_strongest_9 : decode cX0_strongest 9 = .ok (.iload 7, 2) := by decide +kernel
theorem dX0_strongest_11 : decode cX0_strongest 11 = .ok (.aload_n 1, 1) := by decide +kernel
theorem dX0_strongest_12 : decode cX0_strongest 12 = .ok (.getfield 47, 3) := by decide +kernel
theorem dX0_strongest_15 : decode cX0_strongest 15 = .ok (.if_icmp .ge 100, 3) := by decide +kernel
theorem dX0_strongest_18 : decode cX0_strongest 18 = .ok (.aload_n 0, 1) := by decide +kernel
theorem dX0_strongest_19 : decode cX0_strongest 19 = .ok (.getfield 9, 3) := by decide +kernel
theorem dX0_strongest_22 : decode cX0_strongest 22 = .ok (.iload 7, 2) := by decide +kernel
theorem dX0_strongest_24 : decode cX0_strongest 24 = .ok (.iaload, 1) := by decide +kernel
theorem dX0_strongest_25 : decode cX0_strongest 25 = .ok (.istore 8, 2) := by decide +kernel
theorem dX0_strongest_27 : decode cX0_strongest 27 = .ok (.iload 8, 2) := by decide +kernel
theorem dX0_strongest_29 : decode cX0_strongest 29 = .ok (.iconst (-1), 1) := by decide +kernel
theorem dX0_strongest_30 : decode cX0_strongest 30 = .ok (.if_icmp .eq 79, 3) := by decide +kernel
theorem dX0_strongest_33 : decode cX0_strongest 33 = .ok (.iload 8, 2) := by decide +kernel
theorem dX0_strongest_35 : decode cX0_strongest 35 = .ok (.iload 4, 2) := by decide +kernel
theorem dX0_strongest_37 : decode cX0_strongest 37 = .ok (.if_icmp .eq 72, 3) := by decide +kernel
theorem dX0_strongest_40 : decode cX0_strongest 40 = .ok (.aload_n 2, 1) := by decide +kernel
theorem dX0_strongest_41 : decode cX0_strongest 41 = .ok (.aload_n 1, 1) := by decide +kernel
theorem dX0_strongest_42 : decode cX0_strongest 42 = .ok (.aload_n 0, 1) := by decide +kernel
theorem dX0_strongest_43 : decode cX0_strongest 43 = .ok (.getfield 9, 3) := by decide +kernel
theorem dX0_strongest_46 : decode cX0_strongest 46 = .ok (.iload 8, 2) := by decide +kernel
theorem dX0_strongest_48 : decode cX0_strongest 48 = .ok (.invokevirtual 38, 3) := by decide +kernel
theorem dX0_strongest_51 : decode cX0_strongest 51 = .ok (.aload_n 2, 1) := by decide +kernel
theorem dX0_strongest_52 : decode cX0_strongest 52 = .ok (.getfield 44, 3) := by decide +kernel
theorem dX0_strongest_55 : decode cX0_strongest 55 = .ok (.iload 6, 2) := by decide +kernel
theorem dX0_strongest_57 : decode cX0_strongest 57 = .ok (.if_icmp .gt 19, 3) := by decide +kernel
theorem dX0_strongest_60 : decode cX0_strongest 60 = .ok (.aload_n 2, 1) := by decide +kernel
theorem dX0_strongest_61 : decode cX0_strongest 61 = .ok (.getfield 44, 3) := by decide +kernel
theorem dX0_strongest_64 : decode cX0_strongest 64 = .ok (.iload 6, 2) := by decide +kernel
theorem dX0_strongest_66 : decode cX0_strongest 66 = .ok (.if_icmp .ne 14, 3) := by decide +kernel
theorem dX0_strongest_69 : decode cX0_strongest 69 = .ok (.iload 8, 2) := by decide +kernel
theorem dX0_strongest_71 : decode cX0_strongest 71 = .ok (.iload 5, 2) := by decide +kernel
theorem dX0_strongest_73 : decode cX0_strongest 73 = .ok (.if_icmp .ge 7, 3) := by decide +kernel
theorem dX0_strongest_76 : decode cX0_strongest 76 = .ok (.iconst 1, 1) := by decide +kernel
theorem dX0_strongest_77 : decode cX0_strongest 77 = .ok (.goto 4, 3) := by decide +kernel
theorem dX0_strongest_80 : decode cX0_strongest 80 = .ok (.iconst 0, 1) := by decide +kernel
theorem dX0_strongest_81 : decode cX0_strongest 81 = .ok (.istore 9, 2) := by decide +kernel
theorem dX0_strongest_83 : decode cX0_strongest 83 = .ok (.iload 9, 2) := by decide +kernel
theorem dX0_strongest_85 : decode cX0_strongest 85 = .ok (.ifCond .eq 24, 3) := by decide +kernel
theorem dX0_strongest_88 : decode cX0_strongest 88 = .ok (.iload_n 3, 1) := by decide +kernel
theorem dX0_strongest_89 : decode cX0_strongest 89 = .ok (.ifCond .eq 10, 3) := by decide +kernel
theorem dX0_strongest_92 : decode cX0_strongest 92 = .ok (.aload_n 2, 1) := by decide +kernel
theorem dX0_strongest_93 : decode cX0_strongest 93 = .ok (.invokevirtual 52, 3) := by decide +kernel
theorem dX0_strongest_96 : decode cX0_strongest 96 = .ok (.ifCond .le 13, 3) := by decide +kernel
theorem dX0_strongest_99 : decode cX0_strongest 99 = .ok (.iload 8, 2) := by decide +kernel
theorem dX0_strongest_101 : decode cX0_strongest 101 = .ok (.istore 5, 2) := by decide +kernel
theorem dX0_strongest_103 : decode cX0_strongest 103 = .ok (.aload_n 2, 1) := by decide +kernel
theorem dX0_strongest_104 : decode cX0_strongest 104 = .ok (.getfield 44, 3) := by decide +kernel
theorem dX0_strongest_107 : decode cX0_strongest 107 = .ok (.istore 6, 2) := by decide +kernel
theorem dX0_strongest_109 : decode cX0_strongest 109 = .ok (.iinc 7 1, 3) := by decide +kernel
theorem dX0_strongest_112 : decode cX0_strongest 112 = .ok (.goto (-103), 3) := by decide +kernel
theorem dX0_strongest_115 : decode cX0_strongest 115 = .ok (.iload 5, 2) := by decide +kernel
theorem dX0_strongest_117 : decode cX0_strongest 117 = .ok (.ireturn, 1) := by decide +kernel
theorem dX0_valueToFile_0 : decode cX0_valueToFile 0 = .ok (.iload_n 1, 1) := by decide +kernel
theorem dX0_valueToFile_1 : decode cX0_valueToFile 1 = .ok (.ifCond .eq 10, 3) := by decide +kernel
theorem dX0_valueToFile_4 : decode cX0_valueToFile 4 = .ok (.aload_n 0, 1) := by decide +kernel
theorem dX0_valueToFile_5 : decode cX0_valueToFile 5 = .ok (.getfield 19, 3) := by decide +kernel
theorem dX0_valueToFile_8 : decode cX0_valueToFile 8 = .ok (.goto 7, 3) := by decide +kernel
theorem dX0_valueToFile_11 : decode cX0_valueToFile 11 = .ok (.aload_n 0, 1) := by decide +kernel
theorem dX0_valueToFile_12 : decode cX0_valueToFile 12 = .ok (.getfield 15, 3) := by decide +kernel
theorem dX0_valueToFile_15 : decode cX0_valueToFile 15 = .ok (.ireturn, 1) := by decide +kernel
theorem dX0_countSayers_0 : decode cX0_countSayers 0 = .ok (.iconst 0, 1) := by decide +kernel
theorem dX0_countSayers_1 : decode cX0_countSayers 1 = .ok (.istore_n 1, 1) := by decide +kernel
theorem dX0_countSayers_2 : decode cX0_countSayers 2 = .ok (.iconst 0, 1) := by decide +kernel
theorem dX0_countSayers_3 : decode cX0_countSayers 3 = .ok (.istore_n 2, 1) := by decide +kernel
theorem dX0_countSayers_4 : decode cX0_countSayers 4 = .ok (.iload_n 2, 1) := by decide +kernel
theorem dX0_countSayers_5 : decode cX0_countSayers 5 = .ok (.aload_n 0, 1) := by decide +kernel
theorem dX0_countSayers_6 : decode cX0_countSayers 6 = .ok (.getfield 9, 3) := by decide +kernel
theorem dX0_countSayers_9 : decode cX0_countSayers 9 = .ok (.arraylength, 1) := by decide +kernel
theorem dX0_countSayers_10 : decode cX0_countSayers 10 = .ok (.if_icmp .ge 22, 3) := by decide +kernel
theorem dX0_countSayers_13 : decode cX0_countSayers 13 = .ok (.aload_n 0, 1) := by decide +kernel
theorem dX0_countSayers_14 : decode cX0_countSayers 14 = .ok (.getfield 9, 3) := by decide +kernel
theorem dX0_countSayers_17 : decode cX0_countSayers 17 = .ok (.iload_n 2, 1) := by decide +kernel
theorem dX0_countSayers_18 : decode cX0_countSayers 18 = .ok (.iaload, 1) := by decide +kernel
theorem dX0_countSayers_19 : decode cX0_countSayers 19 = .ok (.iconst (-1), 1) := by decide +kernel
theorem dX0_countSayers_20 : decode cX0_countSayers 20 = .ok (.if_icmp .eq 6, 3) := by decide +kernel
theorem dX0_countSayers_23 : decode cX0_countSayers 23 = .ok (.iinc 1 1, 3) := by decide +kernel
theorem dX0_countSayers_26 : decode cX0_countSayers 26 = .ok (.iinc 2 1, 3) := by decide +kernel
theorem dX0_countSayers_29 : decode cX0_countSayers 29 = .ok (.goto (-25), 3) := by decide +kernel
theorem dX0_countSayers_32 : decode cX0_countSayers 32 = .ok (.iload_n 1, 1) := by decide +kernel
theorem dX0_countSayers_33 : decode cX0_countSayers 33 = .ok (.ireturn, 1) := by decide +kernel
theorem dX0_countValues_0 : decode cX0_countValues 0 = .ok (.iconst 0, 1) := by decide +kernel
theorem dX0_countValues_1 : decode cX0_countValues 1 = .ok (.istore_n 1, 1) := by decide +kernel
theorem dX0_countValues_2 : decode cX0_countValues 2 = .ok (.iconst 0, 1) := by decide +kernel
theorem dX0_countValues_3 : decode cX0_countValues 3 = .ok (.istore_n 2, 1) := by decide +kernel
theorem dX0_countValues_4 : decode cX0_countValues 4 = .ok (.iload_n 2, 1) := by decide +kernel
theorem dX0_countValues_5 : decode cX0_countValues 5 = .ok (.aload_n 0, 1) := by decide +kernel
theorem dX0_countValues_6 : decode cX0_countValues 6 = .ok (.getfield 9, 3) := by decide +kernel
theorem dX0_countValues_9 : decode cX0_countValues 9 = .ok (.arraylength, 1) := by decide +kernel
theorem dX0_countValues_10 : decode cX0_countValues 10 = .ok (.if_icmp .ge 30, 3) := by decide +kernel
theorem dX0_countValues_13 : decode cX0_countValues 13 = .ok (.aload_n 0, 1) := by decide +kernel
theorem dX0_countValues_14 : decode cX0_countValues 14 = .ok (.getfield 9, 3) := by decide +kernel
theorem dX0_countValues_17 : decode cX0_countValues 17 = .ok (.iload_n 2, 1) := by decide +kernel
theorem dX0_countValues_18 : decode cX0_countValues 18 = .ok (.iaload, 1) := by decide +kernel
theorem dX0_countValues_19 : decode cX0_countValues 19 = .ok (.iconst (-1), 1) := by decide +kernel
theorem dX0_countValues_20 : decode cX0_countValues 20 = .ok (.if_icmp .eq 14, 3) := by decide +kernel
theorem dX0_countValues_23 : decode cX0_countValues 23 = .ok (.aload_n 0, 1) := by decide +kernel
theorem dX0_countValues_24 : decode cX0_countValues 24 = .ok (.iload_n 2, 1) := by decide +kernel
theorem dX0_countValues_25 : decode cX0_countValues 25 = .ok (.invokevirtual 56, 3) := by decide +kernel
theorem dX0_countValues_28 : decode cX0_countValues 28 = .ok (.ifCond .ne 6, 3) := by decide +kernel
theorem dX0_countValues_31 : decode cX0_countValues 31 = .ok (.iinc 1 1, 3) := by decide +kernel
theorem dX0_countValues_34 : decode cX0_countValues 34 = .ok (.iinc 2 1, 3) := by decide +kernel
theorem dX0_countValues_37 : decode cX0_countValues 37 = .ok (.goto (-33), 3) := by decide +kernel
theorem dX0_countValues_40 : decode cX0_countValues 40 = .ok (.iload_n 1, 1) := by decide +kernel
theorem dX0_countValues_41 : decode cX0_countValues 41 = .ok (.ireturn, 1) := by decide +kernel
theorem dX0_isSaidAhead_0 : decode cX0_isSaidAhead 0 = .ok (.iconst 0, 1) := by decide +kernel
theorem dX0_isSaidAhead_1 : decode cX0_isSaidAhead 1 = .ok (.istore_n 2, 1) := by decide +kernel
theorem dX0_isSaidAhead_2 : decode cX0_isSaidAhead 2 = .ok (.iload_n 2, 1) := by decide +kernel
theorem dX0_isSaidAhead_3 : decode cX0_isSaidAhead 3 = .ok (.iload_n 1, 1) := by decide +kernel
theorem dX0_isSaidAhead_4 : decode cX0_isSaidAhead 4 = .ok (.if_icmp .ge 26, 3) := by decide +kernel
theorem dX0_isSaidAhead_7 : decode cX0_isSaidAhead 7 = .ok (.aload_n 0, 1) := by decide +kernel
theorem dX0_isSaidAhead_8 : decode cX0_isSaidAhead 8 = .ok (.getfield 9, 3) := by decide +kernel
theorem dX0_isSaidAhead_11 : decode cX0_isSaidAhead 11 = .ok (.iload_n 2, 1) := by decide +kernel
theorem dX0_isSaidAhead_12 : decode cX0_isSaidAhead 12 = .ok (.iaload, 1) := by decide +kernel
theorem dX0_isSaidAhead_13 : decode cX0_isSaidAhead 13 = .ok (.aload_n 0, 1) := by decide +kernel
theorem dX0_isSaidAhead_14 : decode cX0_isSaidAhead 14 = .ok (.getfield 9, 3) := by decide +kernel
theorem dX0_isSaidAhead_17 : decode cX0_isSaidAhead 17 = .ok (.iload_n 1, 1) := by decide +kernel
theorem dX0_isSaidAhead_18 : decode cX0_isSaidAhead 18 = .ok (.iaload, 1) := by decide +kernel
theorem dX0_isSaidAhead_19 : decode cX0_isSaidAhead 19 = .ok (.if_icmp .ne 5, 3) := by decide +kernel
theorem dX0_isSaidAhead_22 : decode cX0_isSaidAhead 22 = .ok (.iconst 1, 1) := by decide +kernel
theorem dX0_isSaidAhead_23 : decode cX0_isSaidAhead 23 = .ok (.ireturn, 1) := by decide +kernel
theorem dX0_isSaidAhead_24 : decode cX0_isSaidAhead 24 = .ok (.iinc 2 1, 3) := by decide +kernel
theorem dX0_isSaidAhead_27 : decode cX0_isSaidAhead 27 = .ok (.goto (-25), 3) := by decide +kernel
theorem dX0_isSaidAhead_30 : decode cX0_isSaidAhead 30 = .ok (.iconst 0, 1) := by decide +kernel
theorem dX0_isSaidAhead_31 : decode cX0_isSaidAhead 31 = .ok (.ireturn, 1) := by decide +kernel
theorem dX1_init_0 : decode cX1_init 0 = .ok (.aload_n 0, 1) := by decide +kernel
theorem dX1_init_1 : decode cX1_init 1 = .ok (.invokespecial 3, 3) := by decide +kernel
theorem dX1_init_4 : decode cX1_init 4 = .ok (.aload_n 0, 1) := by decide +kernel
theorem dX1_init_5 : decode cX1_init 5 = .ok (.bipush 61, 2) := by decide +kernel
theorem dX1_init_7 : decode cX1_init 7 = .ok (.newarray .int, 2) := by decide +kernel
theorem dX1_init_9 : decode cX1_init 9 = .ok (.putfield 11, 3) := by decide +kernel
theorem dX1_init_12 : decode cX1_init 12 = .ok (.aload_n 0, 1) := by decide +kernel
theorem dX1_init_13 : decode cX1_init 13 = .ok (.bipush 61, 2) := by decide +kernel
theorem dX1_init_15 : decode cX1_init 15 = .ok (.newarray .int, 2) := by decide +kernel
theorem dX1_init_17 : decode cX1_init 17 = .ok (.putfield 15, 3) := by decide +kernel
theorem dX1_init_20 : decode cX1_init 20 = .ok (.aload_n 0, 1) := by decide +kernel
theorem dX1_init_21 : decode cX1_init 21 = .ok (.bipush 61, 2) := by decide +kernel
theorem dX1_init_23 : decode cX1_init 23 = .ok (.newarray .int, 2) := by decide +kernel
theorem dX1_init_25 : decode cX1_init 25 = .ok (.putfield 18, 3) := by decide +kernel
theorem dX1_init_28 : decode cX1_init 28 = .ok (.aload_n 0, 1) := by decide +kernel
theorem dX1_init_29 : decode cX1_init 29 = .ok (.bipush 61, 2) := by decide +kernel
theorem dX1_init_31 : decode cX1_init 31 = .ok (.newarray .int, 2) := by decide +kernel
theorem dX1_init_33 : decode cX1_init 33 = .ok (.putfield 21, 3) := by decide +kernel
theorem dX1_init_36 : decode cX1_init 36 = .ok (.aload_n 0, 1) := by decide +kernel
theorem dX1_init_37 : decode cX1_init 37 = .ok (.getfield 11, 3) := by decide +kernel
theorem dX1_init_40 : decode cX1_init 40 = .ok (.iconst (-1), 1) := by decide +kernel
theorem dX1_init_41 : decode cX1_init 41 = .ok (.invokestatic 24, 3) := by decide +kernel
theorem dX1_init_44 : decode cX1_init 44 = .ok (.aload_n 0, 1) := by decide +kernel
theorem dX1_init_45 : decode cX1_init 45 = .ok (.getfield 21, 3) := by decide +kernel
theorem dX1_init_48 : decode cX1_init 48 = .ok (.iconst (-1), 1) := by decide +kernel
theorem dX1_init_49 : decode cX1_init 49 = .ok (.invokestatic 24, 3) := by decide +kernel
theorem dX1_init_52 : decode cX1_init 52 = .ok (.return_, 1) := by decide +kernel
theorem dX1_copyFrom_0 : decode cX1_copyFrom 0 = .ok (.aload_n 1, 1) := by decide +kernel
theorem dX1_copyFrom_1 : decode cX1_copyFrom 1 = .ok (.getfield 11, 3) := by decide +kernel
theorem dX1_copyFrom_4 : decode cX1_copyFrom 4 = .ok (.iconst 0, 1) := by decide +kernel
theorem dX1_copyFrom_5 : decode cX1_copyFrom 5 = .ok (.aload_n 0, 1) := by decide +kernel
theorem dX1_copyFrom_6 : decode cX1_copyFrom 6 = .ok (.getfield 11, 3) := by decide +kernel
theorem dX1_copyFrom_9 : decode cX1_copyFrom 9 = .ok (.iconst 0, 1) := by decide +kernel
theorem dX1_copyFrom_10 : decode cX1_copyFrom 10 = .ok (.bipush 61, 2) := by decide +kernel
theorem dX1_copyFrom_12 : decode cX1_copyFrom 12 = .ok (.invokestatic 30, 3) := by decide +kernel
theorem dX1_copyFrom_15 : decode cX1_copyFrom 15 = .ok (.aload_n 1, 1) := by decide +kernel
theorem dX1_copyFrom_16 : decode cX1_copyFrom 16 = .ok (.getfield 15, 3) := by decide +kernel
theorem dX1_copyFrom_19 : decode cX1_copyFrom 19 = .ok (.iconst 0, 1) := by decide +kernel
theorem dX1_copyFrom_20 : decode cX1_copyFrom 20 = .ok (.aload_n 0, 1) := by decide +kernel
theorem dX1_copyFrom_21 : decode cX1_copyFrom 21 = .ok (.getfield 15, 3) := by decide +kernel
theorem dX1_copyFrom_24 : decode cX1_copyFrom 24 = .ok (.iconst 0, 1) := by decide +kernel
theorem dX1_copyFrom_25 : decode cX1_copyFrom 25 = .ok (.bipush 61, 2) := by decide +kernel
theorem dX1_copyFrom_27 : decode cX1_copyFrom 27 = .ok (.invokestatic 30, 3) := by decide +kernel
theorem dX1_copyFrom_30 : decode cX1_copyFrom 30 = .ok (.aload_n 1, 1) := by decide +kernel
theorem dX1_copyFrom_31 : decode cX1_copyFrom 31 = .ok (.getfield 18, 3) := by decide +kernel
theorem dX1_copyFrom_34 : decode cX1_copyFrom 34 = .ok (.iconst 0, 1) := by decide +kernel
theorem dX1_copyFrom_35 : decode cX1_copyFrom 35 = .ok (.aload_n 0, 1) := by decide +kernel
theorem dX1_copyFrom_36 : decode cX1_copyFrom 36 = .ok (.getfield 18, 3) := by decide +kernel
theorem dX1_copyFrom_39 : decode cX1_copyFrom 39 = .ok (.iconst 0, 1) := by decide +kernel
theorem dX1_copyFrom_40 : decode cX1_copyFrom 40 = .ok (.bipush 61, 2) := by decide +kernel
theorem dX1_copyFrom_42 : decode cX1_copyFrom 42 = .ok (.invokestatic 30, 3) := by decide +kernel
theorem dX1_copyFrom_45 : decode cX1_copyFrom 45 = .ok (.aload_n 1, 1) := by decide +kernel
theorem dX1_copyFrom_46 : decode cX1_copyFrom 46 = .ok (.getfield 21, 3) := by decide +kernel
theorem dX1_copyFrom_49 : decode cX1_copyFrom 49 = .ok (.iconst 0, 1) := by decide +kernel
theorem dX1_copyFrom_50 : decode cX1_copyFrom 50 = .ok (.aload_n 0, 1) := by decide +kernel
theorem dX1_copyFrom_51 : decode cX1_copyFrom 51 = .ok (.getfield 21, 3) := by decide +kernel
theorem dX1_copyFrom_54 : decode cX1_copyFrom 54 = .ok (.iconst 0, 1) := by decide +kernel
theorem dX1_copyFrom_55 : decode cX1_copyFrom 55 = .ok (.bipush 61, 2) := by decide +kernel
theorem dX1_copyFrom_57 : decode cX1_copyFrom 57 = .ok (.invokestatic 30, 3) := by decide +kernel
theorem dX1_copyFrom_60 : decode cX1_copyFrom 60 = .ok (.aload_n 0, 1) := by decide +kernel
theorem dX1_copyFrom_61 : decode cX1_copyFrom 61 = .ok (.aload_n 1, 1) := by decide +kernel
theorem dX1_copyFrom_62 : decode cX1_copyFrom 62 = .ok (.getfield 36, 3) := by decide +kernel
theorem dX1_copyFrom_65 : decode cX1_copyFrom 65 = .ok (.putfield 36, 3) := by decide +kernel
theorem dX1_copyFrom_68 : decode cX1_copyFrom 68 = .ok (.aload_n 0, 1) := by decide +kernel
theorem dX1_copyFrom_69 : decode cX1_copyFrom 69 = .ok (.aload_n 1, 1) := by decide +kernel
theorem dX1_copyFrom_70 : decode cX1_copyFrom 70 = .ok (.getfield 40, 3) := by decide +kernel
theorem dX1_copyFrom_73 : decode cX1_copyFrom 73 = .ok (.putfield 40, 3) := by decide +kernel
theorem dX1_copyFrom_76 : decode cX1_copyFrom 76 = .ok (.aload_n 0, 1) := by decide +kernel
theorem dX1_copyFrom_77 : decode cX1_copyFrom 77 = .ok (.aload_n 1, 1) := by decide +kernel
theorem dX1_copyFrom_78 : decode cX1_copyFrom 78 = .ok (.getfield 43, 3) := by decide +kernel
theorem dX1_copyFrom_81 : decode cX1_copyFrom 81 = .ok (.putfield 43, 3) := by decide +kernel
theorem dX1_copyFrom_84 : decode cX1_copyFrom 84 = .ok (.aload_n 0, 1) := by decide +kernel
theorem dX1_copyFrom_85 : decode cX1_copyFrom 85 = .ok (.aload_n 1, 1) := by decide +kernel
theorem dX1_copyFrom_86 : decode cX1_copyFrom 86 = .ok (.getfield 46, 3) := by decide +kernel
theorem dX1_copyFrom_89 : decode cX1_copyFrom 89 = .ok (.putfield 46, 3) := by decide +kernel
theorem dX1_copyFrom_92 : decode cX1_copyFrom 92 = .ok (.aload_n 0, 1) := by decide +kernel
theorem dX1_copyFrom_93 : decode cX1_copyFrom 93 = .ok (.aload_n 1, 1) := by decide +kernel
theorem dX1_copyFrom_94 : decode cX1_copyFrom 94 = .ok (.getfield 49, 3) := by decide +kernel
theorem dX1_copyFrom_97 : decode cX1_copyFrom 97 = .ok (.putfield 49, 3) := by decide +kernel
theorem dX1_copyFrom_100 : decode cX1_copyFrom 100 = .ok (.return_, 1) := by decide +kernel
theorem dX1_start_0 : decode cX1_start 0 = .ok (.aload_n 0, 1) := by decide +kernel
theorem dX1_start_1 : decode cX1_start 1 = .ok (.iload_n 1, 1) := by decide +kernel
theorem dX1_start_2 : decode cX1_start 2 = .ok (.aload_n 2, 1) := by decide +kernel
theorem dX1_start_3 : decode cX1_start 3 = .ok (.getfield 52, 3) := by decide +kernel
theorem dX1_start_6 : decode cX1_start 6 = .ok (.aload_n 2, 1) := by decide +kernel
theorem dX1_start_7 : decode cX1_start 7 = .ok (.getfield 57, 3) := by decide +kernel
theorem dX1_start_10 : decode cX1_start 10 = .ok (.aload_n 2, 1) := by decide +kernel
theorem dX1_start_11 : decode cX1_start 11 = .ok (.getfield 60, 3) := by decide +kernel
theorem dX1_start_14 : decode cX1_start 14 = .ok (.invokevirtual 63, 3) := by decide +kernel
theorem dX1_start_17 : decode cX1_start 17 = .ok (.return_, 1) := by decide +kernel
theorem dX1_enqueue_0 : decode cX1_enqueue 0 = .ok (.aload_n 0, 1) := by decide +kernel
theorem dX1_enqueue_1 : decode cX1_enqueue 1 = .ok (.getfield 11, 3) := by decide +kernel
theorem dX1_enqueue_4 : decode cX1_enqueue 4 = .ok (.iload_n 1, 1) := by decide +kernel
theorem dX1_enqueue_5 : decode cX1_enqueue 5 = .ok (.iload_n 3, 1) := by decide +kernel
theorem dX1_enqueue_6 : decode cX1_enqueue 6 = .ok (.iastore, 1) := by decide +kernel
theorem dX1_enqueue_7 : decode cX1_enqueue 7 = .ok (.aload_n 0, 1) := by decide +kernel
theorem dX1_enqueue_8 : decode cX1_enqueue 8 = .ok (.getfield 15, 3) := by decide +kernel
theorem dX1_enqueue_11 : decode cX1_enqueue 11 = .ok (.iload_n 1, 1) := by decide +kernel
theorem dX1_enqueue_12 : decode cX1_enqueue 12 = .ok (.iload_n 2, 1) := by decide +kernel
theorem dX1_enqueue_13 : decode cX1_enqueue 13 = .ok (.iastore, 1) := by decide +kernel
theorem dX1_enqueue_14 : decode cX1_enqueue 14 = .ok (.aload_n 0, 1) := by decide +kernel
theorem dX1_enqueue_15 : decode cX1_enqueue 15 = .ok (.getfield 18, 3) := by decide +kernel
theorem dX1_enqueue_18 : decode cX1_enqueue 18 = .ok (.iload_n 1, 1) := by decide +kernel
theorem dX1_enqueue_19 : decode cX1_enqueue 19 = .ok (.iload 4, 2) := by decide +kernel
theorem dX1_enqueue_21 : decode cX1_enqueue 21 = .ok (.iastore, 1) := by decide +kernel
theorem dX1_enqueue_22 : decode cX1_enqueue 22 = .ok (.aload_n 0, 1) := by decide +kernel
theorem dX1_enqueue_23 : decode cX1_enqueue 23 = .ok (.iload_n 1, 1) := by decide +kernel
theorem dX1_enqueue_24 : decode cX1_enqueue 24 = .ok (.iconst 1, 1) := by decide +kernel
theorem dX1_enqueue_25 : decode cX1_enqueue 25 = .ok (.iadd, 1) := by decide +kernel
theorem dX1_enqueue_26 : decode cX1_enqueue 26 = .ok (.putfield 49, 3) := by decide +kernel
theorem dX1_enqueue_29 : decode cX1_enqueue 29 = .ok (.return_, 1) := by decide +kernel
theorem dX1_stop_0 : decode cX1_stop 0 = .ok (.aload_n 0, 1) := by decide +kernel
theorem dX1_stop_1 : decode cX1_stop 1 = .ok (.getfield 11, 3) := by decide +kernel
theorem dX1_stop_4 : decode cX1_stop 4 = .ok (.iload_n 1, 1) := by decide +kernel
theorem dX1_stop_5 : decode cX1_stop 5 = .ok (.iconst (-1), 1) := by decide +kernel
theorem dX1_stop_6 : decode cX1_stop 6 = .ok (.iastore, 1) := by decide +kernel
theorem dX1_stop_7 : decode cX1_stop 7 = .ok (.return_, 1) := by decide +kernel
theorem dX1_isRunning_0 : decode cX1_isRunning 0 = .ok (.aload_n 0, 1) := by decide +kernel
theorem dX1_isRunning_1 : decode cX1_isRunning 1 = .ok (.getfield 11, 3) := by decide +kernel
theorem dX1_isRunning_4 : decode cX1_isRunning 4 = .ok (.iload_n 1, 1) := by decide +kernel
theorem dX1_isRunning_5 : decode cX1_isRunning 5 = .ok (.iaload, 1) := by decide +kernel
theorem dX1_isRunning_6 : decode cX1_isRunning 6 = .ok (.iconst (-1), 1) := by decide +kernel
theorem dX1_isRunning_7 : decode cX1_isRunning 7 = .ok (.if_icmp .eq 7, 3) := by decide +kernel
theorem dX1_isRunning_10 : decode cX1_isRunning 10 = .ok (.iconst 1, 1) := by decide +kernel
theorem dX1_isRunning_11 : decode cX1_isRunning 11 = .ok (.goto 4, 3) := by decide +kernel
theorem dX1_isRunning_14 : decode cX1_isRunning 14 = .ok (.iconst 0, 1) := by decide +kernel
theorem dX1_isRunning_15 : decode cX1_isRunning 15 = .ok (.ireturn, 1) := by decide +kernel
theorem dX1_isSent_0 : decode cX1_isSent 0 = .ok (.aload_n 0, 1) := by decide +kernel
theorem dX1_isSent_1 : decode cX1_isSent 1 = .ok (.getfield 11, 3) := by decide +kernel
theorem dX1_isSent_4 : decode cX1_isSent 4 = .ok (.iload_n 1, 1) := by decide +kernel
theorem dX1_isSent_5 : decode cX1_isSent 5 = .ok (.iaload, 1) := by decide +kernel
theorem dX1_isSent_6 : decode cX1_isSent 6 = .ok (.ifCond .ne 7, 3) := by decide +kernel
theorem dX1_isSent_9 : decode cX1_isSent 9 = .ok (.iconst 1, 1) := by decide +kernel
theorem dX1_isSent_10 : decode cX1_isSent 10 = .ok (.goto 4, 3) := by decide +kernel
theorem dX1_isSent_13 : decode cX1_isSent 13 = .ok (.iconst 0, 1) := by decide +kernel
theorem dX1_isSent_14 : decode cX1_isSent 14 = .ok (.ireturn, 1) := by decide +kernel
theorem dX1_hasAtDesk_0 : decode cX1_hasAtDesk 0 = .ok (.aload_n 0, 1) := by decide +kernel
theorem dX1_hasAtDesk_1 : decode cX1_hasAtDesk 1 = .ok (.getfield 11, 3) := by decide +kernel
theorem dX1_hasAtDesk_4 : decode cX1_hasAtDesk 4 = .ok (.iload_n 1, 1) := by decide +kernel
theorem dX1_hasAtDesk_5 : decode cX1_hasAtDesk 5 = .ok (.iaload, 1) := by decide +kernel
theorem dX1_hasAtDesk_6 : decode cX1_hasAtDesk 6 = .ok (.ifCond .ne 22, 3) := by decide +kernel
theorem dX1_hasAtDesk_9 : decode cX1_hasAtDesk 9 = .ok (.aload_n 0, 1) := by decide +kernel
theorem dX1_hasAtDesk_10 : decode cX1_hasAtDesk 10 = .ok (.getfield 21, 3) := by decide +kernel
theorem dX1_hasAtDesk_13 : decode cX1_hasAtDesk 13 = .ok (.iload_n 1, 1) := by decide +kernel
theorem dX1_hasAtDesk_14 : decode cX1_hasAtDesk 14 = .ok (.iaload, 1) := by decide +kernel
theorem dX1_hasAtDesk_15 : decode cX1_hasAtDesk 15 = .ok (.aload_n 0, 1) := by decide +kernel
theorem dX1_hasAtDesk_16 : decode cX1_hasAtDesk 16 = .ok (.getfield 40, 3) := by decide +kernel
theorem dX1_hasAtDesk_19 : decode cX1_hasAtDesk 19 = .ok (.iadd, 1) := by decide +kernel
theorem dX1_hasAtDesk_20 : decode cX1_hasAtDesk 20 = .ok (.iload_n 2, 1) := by decide +kernel
theorem dX1_hasAtDesk_21 : decode cX1_hasAtDesk 21 = .ok (.if_icmp .gt 7, 3) := by decide +kernel
theorem dX1_hasAtDesk_24 : decode cX1_hasAtDesk 24 = .ok (.iconst 1, 1) := by decide +kernel
theorem dX1_hasAtDesk_25 : decode cX1_hasAtDesk 25 = .ok (.goto 4, 3) := by decide +kernel
theorem dX1_hasAtDesk_28 : decode cX1_hasAtDesk 28 = .ok (.iconst 0, 1) := by decide +kernel
theorem dX1_hasAtDesk_29 : decode cX1_hasAtDesk 29 = .ok (.ireturn, 1) := by decide +kernel
theorem dX1_runMinute_0 : decode cX1_runMinute 0 = .ok (.aload_n 0, 1) := by decide +kernel
theorem dX1_runMinute_1 : decode cX1_runMinute 1 = .ok (.getfield 43, 3) := by decide +kernel
theorem dX1_runMinute_4 : decode cX1_runMinute 4 = .ok (.ifCond .le 15, 3) := by decide +kernel
theorem dX1_runMinute_7 : decode cX1_runMinute 7 = .ok (.aload_n 0, 1) := by decide +kernel
theorem dX1_runMinute_8 : decode cX1_runMinute 8 = .ok (.dup, 1) := by decide +kernel
theorem dX1_runMinute_9 : decode cX1_runMinute 9 = .ok (.getfield 43, 3) := by decide +kernel
theorem dX1_runMinute_12 : decode cX1_runMinute 12 = .ok (.iconst 1, 1) := by decide +kernel
theorem dX1_runMinute_13 : decode cX1_runMinute 13 = .ok (.isub, 1) := by decide +kernel
theorem dX1_runMinute_14 : decode cX1_runMinute 14 = .ok (.putfield 43, 3) := by decide +kernel
theorem dX1_runMinute_17 : decode cX1_runMinute 17 = .ok (.iconst 0, 1) := by decide +kernel
theorem dX1_runMinute_18 : decode cX1_runMinute 18 = .ok (.ireturn, 1) := by decide +kernel
theorem dX1_runMinute_19 : decode cX1_runMinute 19 = .ok (.iconst 0, 1) := by decide +kernel
theorem dX1_runMinute_20 : decode cX1_runMinute 20 = .ok (.istore_n 2, 1) := by decide +kernel
theorem dX1_runMinute_21 : decode cX1_runMinute 21 = .ok (.aload_n 0, 1) := by decide +kernel
theorem dX1_runMinute_22 : decode cX1_runMinute 22 = .ok (.getfield 36, 3) := by decide +kernel
theorem dX1_runMinute_25 : decode cX1_runMinute 25 = .ok (.istore_n 3, 1) := by decide +kernel
theorem dX1_runMinute_26 : decode cX1_runMinute 26 = .ok (.iconst 0, 1) := by decide +kernel
theorem dX1_runMinute_27 : decode cX1_runMinute 27 = .ok (.istore 4, 2) := by decide +kernel
theorem dX1_runMinute_29 : decode cX1_runMinute 29 = .ok (.iload 4, 2) := by decide +kernel
theorem dX1_runMinute_31 : decode cX1_runMinute 31 = .ok (.aload_n 0, 1) := by decide +kernel
theorem dX1_runMinute_32 : decode cX1_runMinute 32 = .ok (.getfield 36, 3) := by decide +kernel
theorem dX1_runMinute_35 : decode cX1_runMinute 35 = .ok (.if_icmp .ge 90, 3) := by decide +kernel
theorem dX1_runMinute_38 : decode cX1_runMinute 38 = .ok (.iload_n 3, 1) := by decide +kernel
theorem dX1_runMinute_39 : decode cX1_runMinute 39 = .ok (.ifCond .le 86, 3) := by decide +kernel
theorem dX1_runMinute_42 : decode cX1_runMinute 42 = .ok (.aload_n 0, 1) := by decide +kernel
theorem dX1_runMinute_43 : decode cX1_runMinute 43 = .ok (.iload_n 1, 1) := by decide +kernel
theorem dX1_runMinute_44 : decode cX1_runMinute 44 = .ok (.invokevirtual 67, 3) := by decide +kernel
theorem dX1_runMinute_47 : decode cX1_runMinute 47 = .ok (.istore 5, 2) := by decide +kernel
theorem dX1_runMinute_49 : decode cX1_runMinute 49 = .ok (.iload 5, 2) := by decide +kernel
theorem dX1_runMinute_51 : decode cX1_runMinute 51 = .ok (.iconst (-1), 1) := by decide +kernel
theorem dX1_runMinute_52 : decode cX1_runMinute 52 = .ok (.if_icmp .ne 5, 3) := by decide +kernel
theorem dX1_runMinute_55 : decode cX1_runMinute 55 = .ok (.iload_n 2, 1) := by decide +kernel
theorem dX1_runMinute_56 : decode cX1_runMinute 56 = .ok (.ireturn, 1) := by decide +kernel
theorem dX1_runMinute_57 : decode cX1_runMinute 57 = .ok (.iload_n 3, 1) := by decide +kernel
theorem dX1_runMinute_58 : decode cX1_runMinute 58 = .ok (.aload_n 0, 1) := by decide +kernel
theorem dX1_runMinute_59 : decode cX1_runMinute 59 = .ok (.getfield 11, 3) := by decide +kernel
theorem dX1_runMinute_62 : decode cX1_runMinute 62 = .ok (.iload 5, 2) := by decide +kernel
theorem dX1_runMinute_64 : decode cX1_runMinute 64 = .ok (.iaload, 1) := by decide +kernel
theorem dX1_runMinute_65 : decode cX1_runMinute 65 = .ok (.invokestatic 71, 3) := by decide +kernel
theorem dX1_runMinute_68 : decode cX1_runMinute 68 = .ok (.istore 6, 2) := by decide +kernel
theorem dX1_runMinute_70 : decode cX1_runMinute 70 = .ok (.aload_n 0, 1) := by decide +kernel
theorem dX1_runMinute_71 : decode cX1_runMinute 71 = .ok (.getfield 11, 3) := by decide +kernel
theorem dX1_runMinute_74 : decode cX1_runMinute 74 = .ok (.iload 5, 2) := by decide +kernel
theorem dX1_runMinute_76 : decode cX1_runMinute 76 = .ok (.dup2, 1) := by decide +kernel
theorem dX1_runMinute_77 : decode cX1_runMinute 77 = .ok (.iaload, 1) := by decide +kernel
theorem dX1_runMinute_78 : decode cX1_runMinute 78 = .ok (.iload 6, 2) := by decide +kernel
theorem dX1_runMinute_80 : decode cX1_runMinute 80 = .ok (.isub, 1) := by decide +kernel
theorem dX1_runMinute_81 : decode cX1_runMinute 81 = .ok (.iastore, 1) := by decide +kernel
theorem dX1_runMinute_82 : decode cX1_runMinute 82 = .ok (.iload_n 3, 1) := by decide +kernel
theorem dX1_runMinute_83 : decode cX1_runMinute 83 = .ok (.iload 6, 2) := by decide +kernel
theorem dX1_runMinute_85 : decode cX1_runMinute 85 = .ok (.isub, 1) := by decide +kernel
theorem dX1_runMinute_86 : decode cX1_runMinute 86 = .ok (.istore_n 3, 1) := by decide +kernel
theorem dX1_runMinute_87 : decode cX1_runMinute 87 = .ok (.aload_n 0, 1) := by decide +kernel
theorem dX1_runMinute_88 : decode cX1_runMinute 88 = .ok (.dup, 1) := by decide +kernel
theorem dX1_runMinute_89 : decode cX1_runMinute 89 = .ok (.getfield 46, 3) := by decide +kernel
theorem dX1_runMinute_92 : decode cX1_runMinute 92 = .ok (.iload 6, 2) := by decide +kernel
theorem dX1_runMinute_94 : decode cX1_runMinute 94 = .ok (.iadd, 1) := by decide +kernel
theorem dX1_runMinute_95 : decode cX1_runMinute 95 = .ok (.putfield 46, 3) := by decide +kernel
theorem dX1_runMinute_98 : decode cX1_runMinute 98 = .ok (.aload_n 0, 1) := by decide +kernel
theorem dX1_runMinute_99 : decode cX1_runMinute 99 = .ok (.getfield 11, 3) := by decide +kernel
theorem dX1_runMinute_102 : decode cX1_runMinute 102 = .ok (.iload 5, 2) := by decide +kernel
theorem dX1_runMinute_104 : decode cX1_runMinute 104 = .ok (.iaload, 1) := by decide +kernel
theorem dX1_runMinute_105 : decode cX1_runMinute 105 = .ok (.ifCond .ne 14, 3) := by decide +kernel
theorem dX1_runMinute_108 : decode cX1_runMinute 108 = .ok (.aload_n 0, 1) := by decide +kernel
theorem dX1_runMinute_109 : decode cX1_runMinute 109 = .ok (.getfield 21, 3) := by decide +kernel
theorem dX1_runMinute_112 : decode cX1_runMinute 112 = .ok (.iload 5, 2) := by decide +kernel
theorem dX1_runMinute_114 : decode cX1_runMinute 114 = .ok (.iload_n 1, 1) := by decide +kernel
theorem dX1_runMinute_115 : decode cX1_runMinute 115 = .ok (.iastore, 1) := by decide +kernel
theorem dX1_runMinute_116 : decode cX1_runMinute 116 = .ok (.iinc 2 1, 3) := by decide +kernel
theorem dX1_runMinute_119 : decode cX1_runMinute 119 = .ok (.iinc 4 1, 3) := by decide +kernel
theorem dX1_runMinute_122 : decode cX1_runMinute 122 = .ok (.goto (-93), 3) := by decide +kernel
theorem dX1_runMinute_125 : decode cX1_runMinute 125 = .ok (.iload_n 2, 1) := by decide +kernel
theorem dX1_runMinute_126 : decode cX1_runMinute 126 = .ok (.ireturn, 1) := by decide +kernel
theorem dX1_mostUrgent_0 : decode cX1_mostUrgent 0 = .ok (.iconst (-1), 1) := by decide +kernel
theorem dX1_mostUrgent_1 : decode cX1_mostUrgent 1 = .ok (.istore_n 2, 1) := by decide +kernel
theorem dX1_mostUrgent_2 : decode cX1_mostUrgent 2 = .ok (.iconst 0, 1) := by decide +kernel
theorem dX1_mostUrgent_3 : decode cX1_mostUrgent 3 = .ok (.istore_n 3, 1) := by decide +kernel
theorem dX1_mostUrgent_4 : decode cX1_mostUrgent 4 = .ok (.iload_n 3, 1) := by decide +kernel
theorem dX1_mostUrgent_5 : decode cX1_mostUrgent 5 = .ok (.aload_n 0, 1) := by decide +kernel
theorem dX1_mostUrgent_6 : decode cX1_mostUrgent 6 = .ok (.getfield 49, 3) := by decide +kernel
theorem dX1_mostUrgent_9 : decode cX1_mostUrgent 9 = .ok (.if_icmp .ge 62, 3) := by decide +kernel
theorem dX1_mostUrgent_12 : decode cX1_mostUrgent 12 = .ok (.aload_n 0, 1) := by decide +kernel
theorem dX1_mostUrgent_13 : decode cX1_mostUrgent 13 = .ok (.getfield 11, 3) := by decide +kernel
theorem dX1_mostUrgent_16 : decode cX1_mostUrgent 16 = .ok (.iload_n 3, 1) := by decide +kernel
theorem dX1_mostUrgent_17 : decode cX1_mostUrgent 17 = .ok (.iaload, 1) := by decide +kernel
theorem dX1_mostUrgent_18 : decode cX1_mostUrgent 18 = .ok (.ifCond .le 17, 3) := by decide +kernel
theorem dX1_mostUrgent_21 : decode cX1_mostUrgent 21 = .ok (.aload_n 0, 1) := by decide +kernel
theorem dX1_mostUrgent_22 : decode cX1_mostUrgent 22 = .ok (.getfield 18, 3) := by decide +kernel
theorem dX1_mostUrgent_25 : decode cX1_mostUrgent 25 = .ok (.iload_n 3, 1) := by decide +kernel
theorem dX1_mostUrgent_26 : decode cX1_mostUrgent 26 = .ok (.iaload, 1) := by decide +kernel
theorem dX1_mostUrgent_27 : decode cX1_mostUrgent 27 = .ok (.iload_n 1, 1) := by decide +kernel
theorem dX1_mostUrgent_28 : decode cX1_mostUrgent 28 = .ok (.if_icmp .gt 7, 3) := by decide +kernel
theorem dX1_mostUrgent_31 : decode cX1_mostUrgent 31 = .ok (.iconst 1, 1) := by decide +kernel
theorem dX1_mostUrgent_32 : decode cX1_mostUrgent 32 = .ok (.goto 4, 3) := by decide +kernel
theorem dX1_mostUrgent_35 : decode cX1_mostUrgent 35 = .ok (.iconst 0, 1) := by decide +kernel
theorem dX1_mostUrgent_36 : decode cX1_mostUrgent 36 = .ok (.istore 4, 2) := by decide +kernel
theorem dX1_mostUrgent_38 : decode cX1_mostUrgent 38 = .ok (.iload 4, 2) := by decide +kernel
theorem dX1_mostUrgent_40 : decode cX1_mostUrgent 40 = .ok (.ifCond .eq 25, 3) := by decide +kernel
theorem dX1_mostUrgent_43 : decode cX1_mostUrgent 43 = .ok (.iload_n 2, 1) := by decide +kernel
theorem dX1_mostUrgent_44 : decode cX1_mostUrgent 44 = .ok (.iconst (-1), 1) := by decide +kernel
theorem dX1_mostUrgent_45 : decode cX1_mostUrgent 45 = .ok (.if_icmp .eq 18, 3) := by decide +kernel
theorem dX1_mostUrgent_48 : decode cX1_mostUrgent 48 = .ok (.aload_n 0, 1) := by decide +kernel
theorem dX1_mostUrgent_49 : decode cX1_mostUrgent 49 = .ok (.getfield 15, 3) := by decide +kernel
theorem dX1_mostUrgent_52 : decode cX1_mostUrgent 52 = .ok (.iload_n 3, 1) := by decide +kernel
theorem dX1_mostUrgent_53 : decode cX1_mostUrgent 53 = .ok (.iaload, 1) := by decide +kernel
theorem dX1_mostUrgent_54 : decode cX1_mostUrgent 54 = .ok (.aload_n 0, 1) := by decide +kernel
theorem dX1_mostUrgent_55 : decode cX1_mostUrgent 55 = .ok (.getfield 15, 3) := by decide +kernel
theorem dX1_mostUrgent_58 : decode cX1_mostUrgent 58 = .ok (.iload_n 2, 1) := by decide +kernel
theorem dX1_mostUrgent_59 : decode cX1_mostUrgent 59 = .ok (.iaload, 1) := by decide +kernel
theorem dX1_mostUrgent_60 : decode cX1_mostUrgent 60 = .ok (.if_icmp .ge 5, 3) := by decide +kernel
theorem dX1_mostUrgent_63 : decode cX1_mostUrgent 63 = .ok (.iload_n 3, 1) := by decide +kernel
theorem dX1_mostUrgent_64 : decode cX1_mostUrgent 64 = .ok (.istore_n 2, 1) := by decide +kernel
theorem dX1_mostUrgent_65 : decode cX1_mostUrgent 65 = .ok (.iinc 3 1, 3) := by decide +kernel
theorem dX1_mostUrgent_68 : decode cX1_mostUrgent 68 = .ok (.goto (-64), 3) := by decide +kernel
theorem dX1_mostUrgent_71 : decode cX1_mostUrgent 71 = .ok (.iload_n 2, 1) := by decide +kernel
theorem dX1_mostUrgent_72 : decode cX1_mostUrgent 72 = .ok (.ireturn, 1) := by decide +kernel
theorem dX1_runUntilHad_0 : decode cX1_runUntilHad 0 = .ok (.iconst 1, 1) := by decide +kernel
theorem dX1_runUntilHad_1 : decode cX1_runUntilHad 1 = .ok (.istore_n 3, 1) := by decide +kernel
theorem dX1_runUntilHad_2 : decode cX1_runUntilHad 2 = .ok (.iload_n 3, 1) := by decide +kernel
theorem dX1_runUntilHad_3 : decode cX1_runUntilHad 3 = .ok (.aload_n 0, 1) := by decide +kernel
theorem dX1_runUntilHad_4 : decode cX1_runUntilHad 4 = .ok (.getfield 40, 3) := by decide +kernel
theorem dX1_runUntilHad_7 : decode cX1_runUntilHad 7 = .ok (.iadd, 1) := by decide +kernel
theorem dX1_runUntilHad_8 : decode cX1_runUntilHad 8 = .ok (.bipush 99, 2) := by decide +kernel
theorem dX1_runUntilHad_10 : decode cX1_runUntilHad 10 = .ok (.if_icmp .gt 32, 3) := by decide +kernel
theorem dX1_runUntilHad_13 : decode cX1_runUntilHad 13 = .ok (.aload_n 0, 1) := by decide +kernel
theorem dX1_runUntilHad_14 : decode cX1_runUntilHad 14 = .ok (.iload_n 2, 1) := by decide +kernel
theorem dX1_runUntilHad_15 : decode cX1_runUntilHad 15 = .ok (.iload_n 3, 1) := by decide +kernel
theorem dX1_runUntilHad_16 : decode cX1_runUntilHad 16 = .ok (.iadd, 1) := by decide +kernel
theorem dX1_runUntilHad_17 : decode cX1_runUntilHad 17 = .ok (.invokevirtual 77, 3) := by decide +kernel
theorem dX1_runUntilHad_20 : decode cX1_runUntilHad 20 = .ok (.pop, 1) := by decide +kernel
theorem dX1_runUntilHad_21 : decode cX1_runUntilHad 21 = .ok (.aload_n 0, 1) := by decide +kernel
theorem dX1_runUntilHad_22 : decode cX1_runUntilHad 22 = .ok (.iload_n 1, 1) := by decide +kernel
theorem dX1_runUntilHad_23 : decode cX1_runUntilHad 23 = .ok (.invokevirtual 80, 3) := by decide +kernel
theorem dX1_runUntilHad_26 : decode cX1_runUntilHad 26 = .ok (.ifCond .eq 10, 3) := by decide +kernel
theorem dX1_runUntilHad_29 : decode cX1_runUntilHad 29 = .ok (.iload_n 3, 1) := by decide +kernel
theorem dX1_runUntilHad_30 : decode cX1_runUntilHad 30 = .ok (.aload_n 0, 1) := by decide +kernel
theorem dX1_runUntilHad_31 : decode cX1_runUntilHad 31 = .ok (.getfield 40, 3) := by decide +kernel
theorem dX1_runUntilHad_34 : decode cX1_runUntilHad 34 = .ok (.iadd, 1) := by decide +kernel
theorem dX1_runUntilHad_35 : decode cX1_runUntilHad 35 = .ok (.ireturn, 1) := by decide +kernel
theorem dX1_runUntilHad_36 : decode cX1_runUntilHad 36 = .ok (.iinc 3 1, 3) := by decide +kernel
theorem dX1_runUntilHad_39 : decode cX1_runUntilHad 39 = .ok (.goto (-37), 3) := by decide +kernel
theorem dX1_runUntilHad_42 : decode cX1_runUntilHad 42 = .ok (.iconst (-1), 1) := by decide +kernel
theorem dX1_runUntilHad_43 : decode cX1_runUntilHad 43 = .ok (.ireturn, 1) := by decide +kernel
theorem dX1_countWaiting_0 : decode cX1_countWaiting 0 = .ok (.iconst 0, 1) := by decide +kernel
theorem dX1_countWaiting_1 : decode cX1_countWaiting 1 = .ok (.istore_n 1, 1) := by decide +kernel
theorem dX1_countWaiting_2 : decode cX1_countWaiting 2 = .ok (.iconst 0, 1) := by decide +kernel
theorem dX1_countWaiting_3 : decode cX1_countWaiting 3 = .ok (.istore_n 2, 1) := by decide +kernel
theorem dX1_countWaiting_4 : decode cX1_countWaiting 4 = .ok (.iload_n 2, 1) := by decide +kernel
theorem dX1_countWaiting_5 : decode cX1_countWaiting 5 = .ok (.aload_n 0, 1) := by decide +kernel
theorem dX1_countWaiting_6 : decode cX1_countWaiting 6 = .ok (.getfield 49, 3) := by decide +kernel
theorem dX1_countWaiting_9 : decode cX1_countWaiting 9 = .ok (.if_icmp .ge 21, 3) := by decide +kernel
theorem dX1_countWaiting_12 : decode cX1_countWaiting 12 = .ok (.aload_n 0, 1) := by decide +kernel
theorem dX1_countWaiting_13 : decode cX1_countWaiting 13 = .ok (.getfield 11, 3) := by decide +kernel
theorem dX1_countWaiting_16 : decode cX1_countWaiting 16 = .ok (.iload_n 2, 1) := by decide +kernel
theorem dX1_countWaiting_17 : decode cX1_countWaiting 17 = .ok (.iaload, 1) := by decide +kernel
theorem dX1_countWaiting_18 : decode cX1_countWaiting 18 = .ok (.ifCond .le 6, 3) := by decide +kernel
theorem dX1_countWaiting_21 : decode cX1_countWaiting 21 = .ok (.iinc 1 1, 3) := by decide +kernel
theorem dX1_countWaiting_24 : decode cX1_countWaiting 24 = .ok (.iinc 2 1, 3) := by decide +kernel
theorem dX1_countWaiting_27 : decode cX1_countWaiting 27 = .ok (.goto (-23), 3) := by decide +kernel
theorem dX1_countWaiting_30 : decode cX1_countWaiting 30 = .ok (.iload_n 1, 1) := by decide +kernel
theorem dX1_countWaiting_31 : decode cX1_countWaiting 31 = .ok (.ireturn, 1) := by decide +kernel
theorem dX1_countWordsLeft_0 : decode cX1_countWordsLeft 0 = .ok (.iconst 0, 1) := by decide +kernel
theorem dX1_countWordsLeft_1 : decode cX1_countWordsLeft 1 = .ok (.istore_n 1, 1) := by decide +kernel
theorem dX1_countWordsLeft_2 : decode cX1_countWordsLeft 2 = .ok (.iconst 0, 1) := by decide +kernel
theorem dX1_countWordsLeft_3 : decode cX1_countWordsLeft 3 = .ok (.istore_n 2, 1) := by decide +kernel
theorem dX1_countWordsLeft_4 : decode cX1_countWordsLeft 4 = .ok (.iload_n 2, 1) := by decide +kernel
theorem dX1_countWordsLeft_5 : decode cX1_countWordsLeft 5 = .ok (.aload_n 0, 1) := by decide +kernel
theorem dX1_countWordsLeft_6 : decode cX1_countWordsLeft 6 = .ok (.getfield 49, 3) := by decide +kernel
theorem dX1_countWordsLeft_9 : decode cX1_countWordsLeft 9 = .ok (.if_icmp .ge 27, 3) := by decide +kernel
theorem dX1_countWordsLeft_12 : decode cX1_countWordsLeft 12 = .ok (.aload_n 0, 1) := by decide +kernel
theorem dX1_countWordsLeft_13 : decode cX1_countWordsLeft 13 = .ok (.getfield 11, 3) := by decide +kernel
theorem dX1_countWordsLeft_16 : decode cX1_countWordsLeft 16 = .ok (.iload_n 2, 1) := by decide +kernel
theorem dX1_countWordsLeft_17 : decode cX1_countWordsLeft 17 = .ok (.iaload, 1) := by decide +kernel
theorem dX1_countWordsLeft_18 : decode cX1_countWordsLeft 18 = .ok (.ifCond .le 12, 3) := by decide +kernel
theorem dX1_countWordsLeft_21 : decode cX1_countWordsLeft 21 = .ok (.iload_n 1, 1) := by decide +kernel
theorem dX1_countWordsLeft_22 : decode cX1_countWordsLeft 22 = .ok (.aload_n 0, 1) := by decide +kernel
theorem dX1_countWordsLeft_23 : decode cX1_countWordsLeft 23 = .ok (.getfield 11, 3) := by decide +kernel
theorem dX1_countWordsLeft_26 : decode cX1_countWordsLeft 26 = .ok (.iload_n 2, 1) := by decide +kernel
theorem dX1_countWordsLeft_27 : decode cX1_countWordsLeft 27 = .ok (.iaload, 1) := by decide +kernel
theorem dX1_countWordsLeft_28 : decode cX1_countWordsLeft 28 = .ok (.iadd, 1) := by decide +kernel
theorem dX1_countWordsLeft_29 : decode cX1_countWordsLeft 29 = .ok (.istore_n 1, 1) := by decide +kernel
theorem dX1_countWordsLeft_30 : decode cX1_countWordsLeft 30 = .ok (.iinc 2 1, 3) := by decide +kernel
theorem dX1_countWordsLeft_33 : decode cX1_countWordsLeft 33 = .ok (.goto (-29), 3) := by decide +kernel
theorem dX1_countWordsLeft_36 : decode cX1_countWordsLeft 36 = .ok (.iload_n 1, 1) := by decide +kernel
theorem dX1_countWordsLeft_37 : decode cX1_countWordsLeft 37 = .ok (.ireturn, 1) := by decide +kernel
theorem dX2_init_0 : decode cX2_init 0 = .ok (.aload_n 0, 1) := by decide +kernel
theorem dX2_init_1 : decode cX2_init 1 = .ok (.invokespecial 3, 3) := by decide +kernel
theorem dX2_init_4 : decode cX2_init 4 = .ok (.aload_n 0, 1) := by decide +kernel
theorem dX2_init_5 : decode cX2_init 5 = .ok (.bipush 10, 2) := by decide +kernel
theorem dX2_init_7 : decode cX2_init 7 = .ok (.newarray .int, 2) := by decide +kernel
theorem dX2_init_9 : decode cX2_init 9 = .ok (.putfield 9, 3) := by decide +kernel
theorem dX2_init_12 : decode cX2_init 12 = .ok (.aload_n 0, 1) := by decide +kernel
theorem dX2_init_13 : decode cX2_init 13 = .ok (.bipush 10, 2) := by decide +kernel
theorem dX2_init_15 : decode cX2_init 15 = .ok (.newarray .int, 2) := by decide +kernel
theorem dX2_init_17 : decode cX2_init 17 = .ok (.putfield 15, 3) := by decide +kernel
theorem dX2_init_20 : decode cX2_init 20 = .ok (.return_, 1) := by decide +kernel
theorem dX2_add_0 : decode cX2_add 0 = .ok (.aload_n 0, 1) := by decide +kernel
theorem dX2_add_1 : decode cX2_add 1 = .ok (.getfield 18, 3) := by decide +kernel
theorem dX2_add_4 : decode cX2_add 4 = .ok (.istore_n 3, 1) := by decide +kernel
theorem dX2_add_5 : decode cX2_add 5 = .ok (.aload_n 0, 1) := by decide +kernel
theorem dX2_add_6 : decode cX2_add 6 = .ok (.dup, 1) := by decide +kernel
theorem dX2_add_7 : decode cX2_add 7 = .ok (.getfield 18, 3) := by decide +kernel
theorem dX2_add_10 : decode cX2_add 10 = .ok (.iconst 1, 1) := by decide +kernel
theorem dX2_add_11 : decode cX2_add 11 = .ok (.iadd, 1) := by decide +kernel
theorem dX2_add_12 : decode cX2_add 12 = .ok (.putfield 18, 3) := by decide +kernel
theorem dX2_add_15 : decode cX2_add 15 = .ok (.aload_n 0, 1) := by decide +kernel
theorem dX2_add_16 : decode cX2_add 16 = .ok (.getfield 9, 3) := by decide +kernel
theorem dX2_add_19 : decode cX2_add 19 = .ok (.iload_n 3, 1) := by decide +kernel
theorem dX2_add_20 : decode cX2_add 20 = .ok (.iload_n 1, 1) := by decide +kernel
theorem dX2_add_21 : decode cX2_add 21 = .ok (.iastore, 1) := by decide +kernel
theorem dX2_add_22 : decode cX2_add 22 = .ok (.aload_n 0, 1) := by decide +kernel
theorem dX2_add_23 : decode cX2_add 23 = .ok (.getfield 15, 3) := by decide +kernel
theorem dX2_add_26 : decode cX2_add 26 = .ok (.iload_n 3, 1) := by decide +kernel
theorem dX2_add_27 : decode cX2_add 27 = .ok (.iload_n 2, 1) := by decide +kernel
theorem dX2_add_28 : decode cX2_add 28 = .ok (.iconst (-1), 1) := by decide +kernel
theorem dX2_add_29 : decode cX2_add 29 = .ok (.if_icmp .ne 7, 3) := by decide +kernel
theorem dX2_add_32 : decode cX2_add 32 = .ok (.iload_n 3, 1) := by decide +kernel
theorem dX2_add_33 : decode cX2_add 33 = .ok (.goto 9, 3) := by decide +kernel
theorem dX2_add_36 : decode cX2_add 36 = .ok (.aload_n 0, 1) := by decide +kernel
theorem dX2_add_37 : decode cX2_add 37 = .ok (.getfield 15, 3) := by decide +kernel
theorem dX2_add_40 : decode cX2_add 40 = .ok (.iload_n 2, 1) := by decide +kernel
theorem dX2_add_41 : decode cX2_add 41 = .ok (.iaload, 1) := by decide +kernel
theorem dX2_add_42 : decode cX2_add 42 = .ok (.iastore, 1) := by decide +kernel
theorem dX2_add_43 : decode cX2_add 43 = .ok (.iload_n 3, 1) := by decide +kernel
theorem dX2_add_44 : decode cX2_add 44 = .ok (.ireturn, 1) := by decide +kernel
theorem dX3_init_0 : decode cX3_init 0 = .ok (.aload_n 0, 1) := by decide +kernel
theorem dX3_init_1 : decode cX3_init 1 = .ok (.invokespecial 3, 3) := by decide +kernel
theorem dX3_init_4 : decode cX3_init 4 = .ok (.aload_n 0, 1) := by decide +kernel
theorem dX3_init_5 : decode cX3_init 5 = .ok (.iconst 4, 1) := by decide +kernel
theorem dX3_init_6 : decode cX3_init 6 = .ok (.newarray .int, 2) := by decide +kernel
theorem dX3_init_8 : decode cX3_init 8 = .ok (.putfield 9, 3) := by decide +kernel
theorem dX3_init_11 : decode cX3_init 11 = .ok (.aload_n 0, 1) := by decide +kernel
theorem dX3_init_12 : decode cX3_init 12 = .ok (.iconst (-1), 1) := by decide +kernel
theorem dX3_init_13 : decode cX3_init 13 = .ok (.putfield 15, 3) := by decide +kernel
theorem dX3_init_16 : decode cX3_init 16 = .ok (.aload_n 0, 1) := by decide +kernel
theorem dX3_init_17 : decode cX3_init 17 = .ok (.iconst (-1), 1) := by decide +kernel
theorem dX3_init_18 : decode cX3_init 18 = .ok (.putfield 19, 3) := by decide +kernel
theorem dX3_init_21 : decode cX3_init 21 = .ok (.return_, 1) := by decide +kernel
theorem dX4_init_0 : decode cX4_init 0 = .ok (.aload_n 0, 1) := by decide +kernel
theorem dX4_init_1 : decode cX4_init 1 = .ok (.invokespecial 3, 3) := by decide +kernel
theorem dX4_init_4 : decode cX4_init 4 = .ok (.aload_n 0, 1) := by decide +kernel
theorem dX4_init_5 : decode cX4_init 5 = .ok (.bipush 10, 2) := by decide +kernel
theorem dX4_init_7 : decode cX4_init 7 = .ok (.newarray .int, 2) := by decide +kernel
theorem dX4_init_9 : decode cX4_init 9 = .ok (.putfield 9, 3) := by decide +kernel
theorem dX4_init_12 : decode cX4_init 12 = .ok (.return_, 1) := by decide +kernel
theorem dX4_weigh_0 : decode cX4_weigh 0 = .ok (.aload_n 0, 1) := by decide +kernel
theorem dX4_weigh_1 : decode cX4_weigh 1 = .ok (.getfield 9, 3) := by decide +kernel
theorem dX4_weigh_4 : decode cX4_weigh 4 = .ok (.iconst 0, 1) := by decide +kernel
theorem dX4_weigh_5 : decode cX4_weigh 5 = .ok (.invokestatic 15, 3) := by decide +kernel
theorem dX4_weigh_8 : decode cX4_weigh 8 = .ok (.iconst 0, 1) := by decide +kernel
theorem dX4_weigh_9 : decode cX4_weigh 9 = .ok (.istore 4, 2) := by decide +kernel
theorem dX4_weigh_11 : decode cX4_weigh 11 = .ok (.iload 4, 2) := by decide +kernel
theorem dX4_weigh_13 : decode cX4_weigh 13 = .ok (.aload_n 1, 1) := by decide +kernel
theorem dX4_weigh_14 : decode cX4_weigh 14 = .ok (.getfield 21, 3) := by decide +kernel
theorem dX4_weigh_17 : decode cX4_weigh 17 = .ok (.if_icmp .ge 50, 3) := by decide +kernel
theorem dX4_weigh_20 : decode cX4_weigh 20 = .ok (.aload_n 2, 1) := by decide +kernel
theorem dX4_weigh_21 : decode cX4_weigh 21 = .ok (.iload 4, 2) := by decide +kernel
theorem dX4_weigh_23 : decode cX4_weigh 23 = .ok (.iaload, 1) := by decide +kernel
theorem dX4_weigh_24 : decode cX4_weigh 24 = .ok (.iload_n 3, 1) := by decide +kernel
theorem dX4_weigh_25 : decode cX4_weigh 25 = .ok (.if_icmp .ne 36, 3) := by decide +kernel
theorem dX4_weigh_28 : decode cX4_weigh 28 = .ok (.aload_n 1, 1) := by decide +kernel
theorem dX4_weigh_29 : decode cX4_weigh 29 = .ok (.getfield 27, 3) := by decide +kernel
theorem dX4_weigh_32 : decode cX4_weigh 32 = .ok (.iload 4, 2) := by decide +kernel
theorem dX4_weigh_34 : decode cX4_weigh 34 = .ok (.iaload, 1) := by decide +kernel
theorem dX4_weigh_35 : decode cX4_weigh 35 = .ok (.istore 5, 2) := by decide +kernel
theorem dX4_weigh_37 : decode cX4_weigh 37 = .ok (.aload_n 0, 1) := by decide +kernel
theorem dX4_weigh_38 : decode cX4_weigh 38 = .ok (.getfield 9, 3) := by decide +kernel
theorem dX4_weigh_41 : decode cX4_weigh 41 = .ok (.iload 5, 2) := by decide +kernel
theorem dX4_weigh_43 : decode cX4_weigh 43 = .ok (.aload_n 0, 1) := by decide +kernel
theorem dX4_weigh_44 : decode cX4_weigh 44 = .ok (.getfield 9, 3) := by decide +kernel
theorem dX4_weigh_47 : decode cX4_weigh 47 = .ok (.iload 5, 2) := by decide +kernel
theorem dX4_weigh_49 : decode cX4_weigh 49 = .ok (.iaload, 1) := by decide +kernel
theorem dX4_weigh_50 : decode cX4_weigh 50 = .ok (.aload_n 1, 1) := by decide +kernel
theorem dX4_weigh_51 : decode cX4_weigh 51 = .ok (.getfield 30, 3) := by decide +kernel
theorem dX4_weigh_54 : decode cX4_weigh 54 = .ok (.iload 4, 2) := by decide +kernel
theorem dX4_weigh_56 : decode cX4_weigh 56 = .ok (.iaload, 1) := by decide +kernel
theorem dX4_weigh_57 : decode cX4_weigh 57 = .ok (.invokestatic 33, 3) := by decide +kernel
theorem dX4_weigh_60 : decode cX4_weigh 60 = .ok (.iastore, 1) := by decide +kernel
theorem dX4_weigh_61 : decode cX4_weigh 61 = .ok (.iinc 4 1, 3) := by decide +kernel
theorem dX4_weigh_64 : decode cX4_weigh 64 = .ok (.goto (-53), 3) := by decide +kernel
theorem dX4_weigh_67 : decode cX4_weigh 67 = .ok (.aload_n 0, 1) := by decide +kernel
theorem dX4_weigh_68 : decode cX4_weigh 68 = .ok (.iconst 0, 1) := by decide +kernel
theorem dX4_weigh_69 : decode cX4_weigh 69 = .ok (.putfield 39, 3) := by decide +kernel
theorem dX4_weigh_72 : decode cX4_weigh 72 = .ok (.aload_n 0, 1) := by decide +kernel
theorem dX4_weigh_73 : decode cX4_weigh 73 = .ok (.iconst 0, 1) := by decide +kernel
theorem dX4_weigh_74 : decode cX4_weigh 74 = .ok (.putfield 42, 3) := by decide +kernel
theorem dX4_weigh_77 : decode cX4_weigh 77 = .ok (.aload_n 0, 1) := by decide +kernel
theorem dX4_weigh_78 : decode cX4_weigh 78 = .ok (.iconst 0, 1) := by decide +kernel
theorem dX4_weigh_79 : decode cX4_weigh 79 = .ok (.putfield 45, 3) := by decide +kernel
theorem dX4_weigh_82 : decode cX4_weigh 82 = .ok (.aload_n 0, 1) := by decide +kernel
theorem dX4_weigh_83 : decode cX4_weigh 83 = .ok (.iconst 0, 1) := by decide +kernel
theorem dX4_weigh_84 : decode cX4_weigh 84 = .ok (.putfield 48, 3) := by decide +kernel
theorem dX4_weigh_87 : decode cX4_weigh 87 = .ok (.iconst 0, 1) := by decide +kernel
theorem dX4_weigh_88 : decode cX4_weigh 88 = .ok (.istore 4, 2) := by decide +kernel
theorem dX4_weigh_90 : decode cX4_weigh 90 = .ok (.iload 4, 2) := by decide +kernel
theorem dX4_weigh_92 : decode cX4_weigh 92 = .ok (.aload_n 1, 1) := by decide +kernel
theorem dX4_weigh_93 : decode cX4_weigh 93 = .ok (.getfield 21, 3) := by decide +kernel
theorem dX4_weigh_96 : decode cX4_weigh 96 = .ok (.if_icmp .ge 30, 3) := by decide +kernel
theorem dX4_weigh_99 : decode cX4_weigh 99 = .ok (.aload_n 0, 1) := by decide +kernel
theorem dX4_weigh_100 : decode cX4_weigh 100 = .ok (.getfield 9, 3) := by decide +kernel
theorem dX4_weigh_103 : decode cX4_weigh 103 = .ok (.iload 4, 2) := by decide +kernel
theorem dX4_weigh_105 : decode cX4_weigh 105 = .ok (.iaload, 1) := by decide +kernel
theorem dX4_weigh_106 : decode cX4_weigh 106 = .ok (.ifCond .le 14, 3) := by decide +kernel
theorem dX4_weigh_109 : decode cX4_weigh 109 = .ok (.aload_n 0, 1) := by decide +kernel
theorem dX4_weigh_110 : decode cX4_weigh 110 = .ok (.aload_n 0, 1) := by decide +kernel
theorem dX4_weigh_111 : decode cX4_weigh 111 = .ok (.getfield 9, 3) := by decide +kernel
theorem dX4_weigh_114 : decode cX4_weigh 114 = .ok (.iload 4, 2) := by decide +kernel
theorem dX4_weigh_116 : decode cX4_weigh 116 = .ok (.iaload, 1) := by decide +kernel
theorem dX4_weigh_117 : decode cX4_weigh 117 = .ok (.invokevirtual 51, 3) := by decide +kernel
theorem dX4_weigh_120 : decode cX4_weigh 120 = .ok (.iinc 4 1, 3) := by decide +kernel
theorem dX4_weigh_123 : decode cX4_weigh 123 = .ok (.goto (-33), 3) := by decide +kernel
theorem dX4_weigh_126 : decode cX4_weigh 126 = .ok (.return_, 1) := by decide +kernel
theorem dX4_addRoot_0 : decode cX4_addRoot 0 = .ok (.aload_n 0, 1) := by decide +kernel
theorem dX4_addRoot_1 : decode cX4_addRoot 1 = .ok (.dup, 1) := by decide +kernel
theorem dX4_addRoot_2 : decode cX4_addRoot 2 = .ok (.getfield 39, 3) := by decide +kernel
theorem dX4_addRoot_5 : decode cX4_addRoot 5 = .ok (.iconst 1, 1) := by decide +kernel
theorem dX4_addRoot_6 : decode cX4_addRoot 6 = .ok (.iadd, 1) := by decide +kernel
theorem dX4_addRoot_7 : decode cX4_addRoot 7 = .ok (.putfield 39, 3) := by decide +kernel
theorem dX4_addRoot_10 : decode cX4_addRoot 10 = .ok (.aload_n 0, 1) := by decide +kernel
theorem dX4_addRoot_11 : decode cX4_addRoot 11 = .ok (.dup, 1) := by decide +kernel
theorem dX4_addRoot_12 : decode cX4_addRoot 12 = .ok (.getfield 48, 3) := by decide +kernel
theorem dX4_addRoot_15 : decode cX4_addRoot 15 = .ok (.iload_n 1, 1) := by decide +kernel
theorem dX4_addRoot_16 : decode cX4_addRoot 16 = .ok (.iadd, 1) := by decide +kernel
theorem dX4_addRoot_17 : decode cX4_addRoot 17 = .ok (.putfield 48, 3) := by decide +kernel
theorem dX4_addRoot_20 : decode cX4_addRoot 20 = .ok (.iload_n 1, 1) := by decide +kernel
theorem dX4_addRoot_21 : decode cX4_addRoot 21 = .ok (.iconst 3, 1) := by decide +kernel
theorem dX4_addRoot_22 : decode cX4_addRoot 22 = .ok (.if_icmp .ne 16, 3) := by decide +kernel
theorem dX4_addRoot_25 : decode cX4_addRoot 25 = .ok (.aload_n 0, 1) := by decide +kernel
theorem dX4_addRoot_26 : decode cX4_addRoot 26 = .ok (.dup, 1) := by decide +kernel
theorem dX4_addRoot_27 : decode cX4_addRoot 27 = .ok (.getfield 45, 3) := by decide +kernel
theorem dX4_addRoot_30 : decode cX4_addRoot 30 = .ok (.iconst 1, 1) := by decide +kernel
theorem dX4_addRoot_31 : decode cX4_addRoot 31 = .ok (.iadd, 1) := by decide +kernel
theorem dX4_addRoot_32 : decode cX4_addRoot 32 = .ok (.putfield 45, 3) := by decide +kernel
theorem dX4_addRoot_35 : decode cX4_addRoot 35 = .ok (.goto 18, 3) := by decide +kernel
theorem dX4_addRoot_38 : decode cX4_addRoot 38 = .ok (.iload_n 1, 1) := by decide +kernel
theorem dX4_addRoot_39 : decode cX4_addRoot 39 = .ok (.iconst 2, 1) := by decide +kernel
theorem dX4_addRoot_40 : decode cX4_addRoot 40 = .ok (.if_icmp .ne 13, 3) := by decide +kernel
theorem dX4_addRoot_43 : decode cX4_addRoot 43 = .ok (.aload_n 0, 1) := by decide +kernel
theorem dX4_addRoot_44 : decode cX4_addRoot 44 = .ok (.dup, 1) := by decide +kernel
theorem dX4_addRoot_45 : decode cX4_addRoot 45 = .ok (.getfield 42, 3) := by decide +kernel
theorem dX4_addRoot_48 : decode cX4_addRoot 48 = .ok (.iconst 1, 1) := by decide +kernel
theorem dX4_addRoot_49 : decode cX4_addRoot 49 = .ok (.iadd, 1) := by decide +kernel
theorem dX4_addRoot_50 : decode cX4_addRoot 50 = .ok (.putfield 42, 3) := by decide +kernel
theorem dX4_addRoot_53 : decode cX4_addRoot 53 = .ok (.return_, 1) := by decide +kernel
theorem dX4_proofGrade_0 : decode cX4_proofGrade 0 = .ok (.aload_n 0, 1) := by decide +kernel
theorem dX4_proofGrade_1 : decode cX4_proofGrade 1 = .ok (.getfield 45, 3) := by decide +kernel
theorem dX4_proofGrade_4 : decode cX4_proofGrade 4 = .ok (.ifCond .le 5, 3) := by decide +kernel
theorem dX4_proofGrade_7 : decode cX4_proofGrade 7 = .ok (.iconst 3, 1) := by decide +kernel
theorem dX4_proofGrade_8 : decode cX4_proofGrade 8 = .ok (.ireturn, 1) := by decide +kernel
theorem dX4_proofGrade_9 : decode cX4_proofGrade 9 = .ok (.aload_n 0, 1) := by decide +kernel
theorem dX4_proofGrade_10 : decode cX4_proofGrade 10 = .ok (.getfield 42, 3) := by decide +kernel
theorem dX4_proofGrade_13 : decode cX4_proofGrade 13 = .ok (.iconst 2, 1) := by decide +kernel
theorem dX4_proofGrade_14 : decode cX4_proofGrade 14 = .ok (.if_icmp .lt 5, 3) := by decide +kernel
theorem dX4_proofGrade_17 : decode cX4_proofGrade 17 = .ok (.iconst 2, 1) := by decide +kernel
theorem dX4_proofGrade_18 : decode cX4_proofGrade 18 = .ok (.ireturn, 1) := by decide +kernel
theorem dX4_proofGrade_19 : decode cX4_proofGrade 19 = .ok (.aload_n 0, 1) := by decide +kernel
theorem dX4_proofGrade_20 : decode cX4_proofGrade 20 = .ok (.getfield 39, 3) := by decide +kernel
theorem dX4_proofGrade_23 : decode cX4_proofGrade 23 = .ok (.iconst 3, 1) := by decide +kernel
theorem dX4_proofGrade_24 : decode cX4_proofGrade 24 = .ok (.if_icmp .lt 7, 3) := by decide +kernel
theorem dX4_proofGrade_27 : decode cX4_proofGrade 27 = .ok (.iconst 1, 1) := by decide +kernel
theorem dX4_proofGrade_28 : decode cX4_proofGrade 28 = .ok (.goto 4, 3) := by decide +kernel
theorem dX4_proofGrade_31 : decode cX4_proofGrade 31 = .ok (.iconst 0, 1) := by decide +kernel
theorem dX4_proofGrade_32 : decode cX4_proofGrade 32 = .ok (.ireturn, 1) := by decide +kernel
theorem dX5_init_0 : decode cX5_init 0 = .ok (.aload_n 0, 1) := by decide +kernel
theorem dX5_init_1 : decode cX5_init 1 = .ok (.invokespecial 1, 3) := by decide +kernel
theorem dX5_init_4 : decode cX5_init 4 = .ok (.aload_n 0, 1) := by decide +kernel
theorem dX5_init_5 : decode cX5_init 5 = .ok (.new 7, 3) := by decide +kernel
theorem dX5_init_8 : decode cX5_init 8 = .ok (.dup, 1) := by decide +kernel
theorem dX5_init_9 : decode cX5_init 9 = .ok (.invokespecial 9, 3) := by decide +kernel
theorem dX5_init_12 : decode cX5_init 12 = .ok (.putfield 10, 3) := by decide +kernel
theorem dX5_init_15 : decode cX5_init 15 = .ok (.aload_n 0, 1) := by decide +kernel
theorem dX5_init_16 : decode cX5_init 16 = .ok (.new 16, 3) := by decide +kernel
theorem dX5_init_19 : decode cX5_init 19 = .ok (.dup, 1) := by decide +kernel
theorem dX5_init_20 : decode cX5_init 20 = .ok (.invokespecial 18, 3) := by decide +kernel
theorem dX5_init_23 : decode cX5_init 23 = .ok (.putfield 19, 3) := by decide +kernel
theorem dX5_init_26 : decode cX5_init 26 = .ok (.aload_n 0, 1) := by decide +kernel
theorem dX5_init_27 : decode cX5_init 27 = .ok (.bipush 24, 2) := by decide +kernel
theorem dX5_init_29 : decode cX5_init 29 = .ok (.anewarray 23, 3) := by decide +kernel
theorem dX5_init_32 : decode cX5_init 32 = .ok (.putfield 25, 3) := by decide +kernel
theorem dX5_init_35 : decode cX5_init 35 = .ok (.iconst 0, 1) := by decide +kernel
theorem dX5_init_36 : decode cX5_init 36 = .ok (.istore_n 1, 1) := by decide +kernel
theorem dX5_init_37 : decode cX5_init 37 = .ok (.iload_n 1, 1) := by decide +kernel
theorem dX5_init_38 : decode cX5_init 38 = .ok (.aload_n 0, 1) := by decide +kernel
theorem dX5_init_39 : decode cX5_init 39 = .ok (.getfield 25, 3) := by decide +kernel
theorem dX5_init_42 : decode cX5_init 42 = .ok (.arraylength, 1) := by decide +kernel
theorem dX5_init_43 : decode cX5_init 43 = .ok (.if_icmp .ge 22, 3) := by decide +kernel
theorem dX5_init_46 : decode cX5_init 46 = .ok (.aload_n 0, 1) := by decide +kernel
theorem dX5_init_47 : decode cX5_init 47 = .ok (.getfield 25, 3) := by decide +kernel
theorem dX5_init_50 : decode cX5_init 50 = .ok (.iload_n 1, 1) := by decide +kernel
theorem dX5_init_51 : decode cX5_init 51 = .ok (.new 23, 3) := by decide +kernel
theorem dX5_init_54 : decode cX5_init 54 = .ok (.dup, 1) := by decide +kernel
theorem dX5_init_55 : decode cX5_init 55 = .ok (.invokespecial 29, 3) := by decide +kernel
theorem dX5_init_58 : decode cX5_init 58 = .ok (.aastore, 1) := by decide +kernel
theorem dX5_init_59 : decode cX5_init 59 = .ok (.iinc 1 1, 3) := by decide +kernel
theorem dX5_init_62 : decode cX5_init 62 = .ok (.goto (-25), 3) := by decide +kernel
theorem dX5_init_65 : decode cX5_init 65 = .ok (.aload_n 0, 1) := by decide +kernel
theorem dX5_init_66 : decode cX5_init 66 = .ok (.bipush 60, 2) := by decide +kernel
theorem dX5_init_68 : decode cX5_init 68 = .ok (.anewarray 30, 3) := by decide +kernel
theorem dX5_init_71 : decode cX5_init 71 = .ok (.putfield 32, 3) := by decide +kernel
theorem dX5_init_74 : decode cX5_init 74 = .ok (.iconst 0, 1) := by decide +kernel
theorem dX5_init_75 : decode cX5_init 75 = .ok (.istore_n 1, 1) := by decide +kernel
theorem dX5_init_76 : decode cX5_init 76 = .ok (.iload_n 1, 1) := by decide +kernel
theorem dX5_init_77 : decode cX5_init 77 = .ok (.aload_n 0, 1) := by decide +kernel
theorem dX5_init_78 : decode cX5_init 78 = .ok (.getfield 32, 3) := by decide +kernel
theorem dX5_init_81 : decode cX5_init 81 = .ok (.arraylength, 1) := by decide +kernel
theorem dX5_init_82 : decode cX5_init 82 = .ok (.if_icmp .ge 22, 3) := by decide +kernel
theorem dX5_init_85 : decode cX5_init 85 = .ok (.aload_n 0, 1) := by decide +kernel
theorem dX5_init_86 : decode cX5_init 86 = .ok (.getfield 32, 3) := by decide +kernel
theorem dX5_init_89 : decode cX5_init 89 = .ok (.iload_n 1, 1) := by decide +kernel
theorem dX5_init_90 : decode cX5_init 90 = .ok (.new 30, 3) := by decide +kernel
theorem dX5_init_93 : decode cX5_init 93 = .ok (.dup, 1) := by decide +kernel
theorem dX5_init_94 : decode cX5_init 94 = .ok (.invokespecial 36, 3) := by decide +kernel
theorem dX5_init_97 : decode cX5_init 97 = .ok (.aastore, 1) := by decide +kernel
theorem dX5_init_98 : decode cX5_init 98 = .ok (.iinc 1 1, 3) := by decide +kernel
theorem dX5_init_101 : decode cX5_init 101 = .ok (.goto (-25), 3) := by decide +kernel
theorem dX5_init_104 : decode cX5_init 104 = .ok (.aload_n 0, 1) := by decide +kernel
theorem dX5_init_105 : decode cX5_init 105 = .ok (.iconst 4, 1) := by decide +kernel
theorem dX5_init_106 : decode cX5_init 106 = .ok (.anewarray 37, 3) := by decide +kernel
theorem dX5_init_109 : decode cX5_init 109 = .ok (.putfield 39, 3) := by decide +kernel
theorem dX5_init_112 : decode cX5_init 112 = .ok (.iconst 0, 1) := by decide +kernel
theorem dX5_init_113 : decode cX5_init 113 = .ok (.istore_n 1, 1) := by decide +kernel
theorem dX5_init_114 : decode cX5_init 114 = .ok (.iload_n 1, 1) := by decide +kernel
theorem dX5_init_115 : decode cX5_init 115 = .ok (.aload_n 0, 1) := by decide +kernel
theorem dX5_init_116 : decode cX5_init 116 = .ok (.getfield 39, 3) := by decide +kernel
theorem dX5_init_119 : decode cX5_init 119 = .ok (.arraylength, 1) := by decide +kernel
theorem dX5_init_120 : decode cX5_init 120 = .ok (.if_icmp .ge 22, 3) := by decide +kernel
theorem dX5_init_123 : decode cX5_init 123 = .ok (.aload_n 0, 1) := by decide +kernel
theorem dX5_init_124 : decode cX5_init 124 = .ok (.getfield 39, 3) := by decide +kernel
theorem dX5_init_127 : decode cX5_init 127 = .ok (.iload_n 1, 1) := by decide +kernel
theorem dX5_init_128 : decode cX5_init 128 = .ok (.new 37, 3) := by decide +kernel
theorem dX5_init_131 : decode cX5_init 131 = .ok (.dup, 1) := by decide +kernel
theorem dX5_init_132 : decode cX5_init 132 = .ok (.invokespecial 43, 3) := by decide +kernel
theorem dX5_init_135 : decode cX5_init 135 = .ok (.aastore, 1) := by decide +kernel
theorem dX5_init_136 : decode cX5_init 136 = .ok (.iinc 1 1, 3) := by decide +kernel
theorem dX5_init_139 : decode cX5_init 139 = .ok (.goto (-25), 3) := by decide +kernel
theorem dX5_init_142 : decode cX5_init 142 = .ok (.aload_n 0, 1) := by decide +kernel
theorem dX5_init_143 : decode cX5_init 143 = .ok (.new 37, 3) := by decide +kernel
theorem dX5_init_146 : decode cX5_init 146 = .ok (.dup, 1) := by decide +kernel
theorem dX5_init_147 : decode cX5_init 147 = .ok (.invokespecial 43, 3) := by decide +kernel
theorem dX5_init_150 : decode cX5_init 150 = .ok (.putfield 44, 3) := by decide +kernel
theorem dX5_init_153 : decode cX5_init 153 = .ok (.return_, 1) := by decide +kernel
theorem dX5_source_0 : decode cX5_source 0 = .ok (.iload_n 2, 1) := by decide +kernel
theorem dX5_source_1 : decode cX5_source 1 = .ok (.iconst (-1), 1) := by decide +kernel
theorem dX5_source_2 : decode cX5_source 2 = .ok (.if_icmp .eq 8, 3) := by decide +kernel
theorem dX5_source_5 : decode cX5_source 5 = .ok (.aload_n 0, 1) := by decide +kernel
theorem dX5_source_6 : decode cX5_source 6 = .ok (.iload_n 2, 1) := by decide +kernel
theorem dX5_source_7 : decode cX5_source 7 = .ok (.invokevirtual 48, 3) := by decide +kernel
theorem dX5_source_10 : decode cX5_source 10 = .ok (.iload_n 1, 1) := by decide +kernel
theorem dX5_source_11 : decode cX5_source 11 = .ok (.invokestatic 52, 3) := by decide +kernel
theorem dX5_source_14 : decode cX5_source 14 = .ok (.aload_n 0, 1) := by decide +kernel
theorem dX5_source_15 : decode cX5_source 15 = .ok (.getfield 10, 3) := by decide +kernel
theorem dX5_source_18 : decode cX5_source 18 = .ok (.getfield 55, 3) := by decide +kernel
theorem dX5_source_21 : decode cX5_source 21 = .ok (.bipush 10, 2) := by decide +kernel
theorem dX5_source_23 : decode cX5_source 23 = .ok (.if_icmp .lt 13, 3) := by decide +kernel
theorem dX5_source_26 : decode cX5_source 26 = .ok (.new 59, 3) := by decide +kernel
theorem dX5_source_29 : decode cX5_source 29 = .ok (.dup, 1) := by decide +kernel
theorem dX5_source_30 : decode cX5_source 30 = .ok (.ldc 61, 2) := by decide +kernel
theorem dX5_source_32 : decode cX5_source 32 = .ok (.invokespecial 63, 3) := by decide +kernel
theorem dX5_source_35 : decode cX5_source 35 = .ok (.athrow, 1) := by decide +kernel
theorem dX5_source_36 : decode cX5_source 36 = .ok (.aload_n 0, 1) := by decide +kernel
theorem dX5_source_37 : decode cX5_source 37 = .ok (.getfield 10, 3) := by decide +kernel
theorem dX5_source_40 : decode cX5_source 40 = .ok (.iload_n 1, 1) := by decide +kernel
theorem dX5_source_41 : decode cX5_source 41 = .ok (.iload_n 2, 1) := by decide +kernel
theorem dX5_source_42 : decode cX5_source 42 = .ok (.invokevirtual 66, 3) := by decide +kernel
theorem dX5_source_45 : decode cX5_source 45 = .ok (.ireturn, 1) := by decide +kernel
theorem dX5_story_0 : decode cX5_story 0 = .ok (.aload_n 0, 1) := by decide +kernel
theorem dX5_story_1 : decode cX5_story 1 = .ok (.getfield 70, 3) := by decide +kernel
theorem dX5_story_4 : decode cX5_story 4 = .ok (.bipush 6, 2) := by decide +kernel
theorem dX5_story_6 : decode cX5_story 6 = .ok (.if_icmp .lt 13, 3) := by decide +kernel
theorem dX5_story_9 : decode cX5_story 9 = .ok (.new 59, 3) := by decide +kernel
theorem dX5_story_12 : decode cX5_story 12 = .ok (.dup, 1) := by decide +kernel
theorem dX5_story_13 : decode cX5_story 13 = .ok (.ldc 73, 2) := by decide +kernel
theorem dX5_story_15 : decode cX5_story 15 = .ok (.invokespecial 63, 3) := by decide +kernel
theorem dX5_story_18 : decode cX5_story 18 = .ok (.athrow, 1) := by decide +kernel
theorem dX5_story_19 : decode cX5_story 19 = .ok (.aload_n 0, 1) := by decide +kernel
theorem dX5_story_20 : decode cX5_story 20 = .ok (.dup, 1) := by decide +kernel
theorem dX5_story_21 : decode cX5_story 21 = .ok (.getfield 70, 3) := by decide +kernel
theorem dX5_story_24 : decode cX5_story 24 = .ok (.iconst 1, 1) := by decide +kernel
theorem dX5_story_25 : decode cX5_story 25 = .ok (.iadd, 1) := by decide +kernel
theorem dX5_story_26 : decode cX5_story 26 = .ok (.putfield 70, 3) := by decide +kernel
theorem dX5_story_29 : decode cX5_story 29 = .ok (.aload_n 0, 1) := by decide +kernel
theorem dX5_story_30 : decode cX5_story 30 = .ok (.getfield 70, 3) := by decide +kernel
theorem dX5_story_33 : decode cX5_story 33 = .ok (.iconst 1, 1) := by decide +kernel
theorem dX5_story_34 : decode cX5_story 34 = .ok (.isub, 1) := by decide +kernel
theorem dX5_story_35 : decode cX5_story 35 = .ok (.ireturn, 1) := by decide +kernel
theorem dX5_line_0 : decode cX5_line 0 = .ok (.iload_n 1, 1) := by decide +kernel
theorem dX5_line_1 : decode cX5_line 1 = .ok (.iconst 1, 1) := by decide +kernel
theorem dX5_line_2 : decode cX5_line 2 = .ok (.if_icmp .lt 19, 3) := by decide +kernel
theorem dX5_line_5 : decode cX5_line 5 = .ok (.iload_n 1, 1) := by decide +kernel
theorem dX5_line_6 : decode cX5_line 6 = .ok (.bipush 60, 2) := by decide +kernel
theorem dX5_line_8 : decode cX5_line 8 = .ok (.if_icmp .gt 13, 3) := by decide +kernel
theorem dX5_line_11 : decode cX5_line 11 = .ok (.iload_n 2, 1) := by decide +kernel
theorem dX5_line_12 : decode cX5_line 12 = .ok (.ifCond .lt 9, 3) := by decide +kernel
theorem dX5_line_15 : decode cX5_line 15 = .ok (.iload_n 2, 1) := by decide +kernel
theorem dX5_line_16 : decode cX5_line 16 = .ok (.bipush 9, 2) := by decide +kernel
theorem dX5_line_18 : decode cX5_line 18 = .ok (.if_icmp .le 13, 3) := by decide +kernel
theorem dX5_line_21 : decode cX5_line 21 = .ok (.new 75, 3) := by decide +kernel
theorem dX5_line_24 : decode cX5_line 24 = .ok (.dup, 1) := by decide +kernel
theorem dX5_line_25 : decode cX5_line 25 = .ok (.ldc 77, 2) := by decide +kernel
theorem dX5_line_27 : decode cX5_line 27 = .ok (.invokespecial 79, 3) := by decide +kernel
theorem dX5_line_30 : decode cX5_line 30 = .ok (.athrow, 1) := by decide +kernel
theorem dX5_line_31 : decode cX5_line 31 = .ok (.aload_n 0, 1) := by decide +kernel
theorem dX5_line_32 : decode cX5_line 32 = .ok (.getfield 80, 3) := by decide +kernel
theorem dX5_line_35 : decode cX5_line 35 = .ok (.iconst 4, 1) := by decide +kernel
theorem dX5_line_36 : decode cX5_line 36 = .ok (.if_icmp .lt 13, 3) := by decide +kernel
theorem dX5_line_39 : decode cX5_line 39 = .ok (.new 59, 3) := by decide +kernel
theorem dX5_line_42 : decode cX5_line 42 = .ok (.dup, 1) := by decide +kernel
theorem dX5_line_43 : decode cX5_line 43 = .ok (.ldc 83, 2) := by decide +kernel
theorem dX5_line_45 : decode cX5_line 45 = .ok (.invokespecial 63, 3) := by decide +kernel
theorem dX5_line_48 : decode cX5_line 48 = .ok (.athrow, 1) := by decide +kernel
theorem dX5_line_49 : decode cX5_line 49 = .ok (.aload_n 0, 1) := by decide +kernel
theorem dX5_line_50 : decode cX5_line 50 = .ok (.getfield 39, 3) := by decide +kernel
theorem dX5_line_53 : decode cX5_line 53 = .ok (.aload_n 0, 1) := by decide +kernel
theorem dX5_line_54 : decode cX5_line 54 = .ok (.getfield 80, 3) := by decide +kernel
theorem dX5_line_57 : decode cX5_line 57 = .ok (.aaload, 1) := by decide +kernel
theorem dX5_line_58 : decode cX5_line 58 = .ok (.iload_n 1, 1) := by decide +kernel
theorem dX5_line_59 : decode cX5_line 59 = .ok (.putfield 85, 3) := by decide +kernel
theorem dX5_line_62 : decode cX5_line 62 = .ok (.aload_n 0, 1) := by decide +kernel
theorem dX5_line_63 : decode cX5_line 63 = .ok (.getfield 39, 3) := by decide +kernel
theorem dX5_line_66 : decode cX5_line 66 = .ok (.aload_n 0, 1) := by decide +kernel
theorem dX5_line_67 : decode cX5_line 67 = .ok (.getfield 80, 3) := by decide +kernel
theorem dX5_line_70 : decode cX5_line 70 = .ok (.aaload, 1) := by decide +kernel
theorem dX5_line_71 : decode cX5_line 71 = .ok (.iload_n 2, 1) := by decide +kernel
theorem dX5_line_72 : decode cX5_line 72 = .ok (.putfield 88, 3) := by decide +kernel
theorem dX5_line_75 : decode cX5_line 75 = .ok (.aload_n 0, 1) := by decide +kernel
theorem dX5_line_76 : decode cX5_line 76 = .ok (.dup, 1) := by decide +kernel
theorem dX5_line_77 : decode cX5_line 77 = .ok (.getfield 80, 3) := by decide +kernel
theorem dX5_line_80 : decode cX5_line 80 = .ok (.iconst 1, 1) := by decide +kernel
theorem dX5_line_81 : decode cX5_line 81 = .ok (.iadd, 1) := by decide +kernel
theorem dX5_line_82 : decode cX5_line 82 = .ok (.putfield 80, 3) := by decide +kernel
theorem dX5_line_85 : decode cX5_line 85 = .ok (.aload_n 0, 1) := by decide +kernel
theorem dX5_line_86 : decode cX5_line 86 = .ok (.getfield 80, 3) := by decide +kernel
theorem dX5_line_89 : decode cX5_line 89 = .ok (.iconst 1, 1) := by decide +kernel
theorem dX5_line_90 : decode cX5_line 90 = .ok (.isub, 1) := by decide +kernel
theorem dX5_line_91 : decode cX5_line 91 = .ok (.ireturn, 1) := by decide +kernel
theorem dX5_report_0 : decode cX5_report 0 = .ok (.aload_n 0, 1) := by decide +kernel
theorem dX5_report_1 : decode cX5_report 1 = .ok (.iload_n 1, 1) := by decide +kernel
theorem dX5_report_2 : decode cX5_report 2 = .ok (.invokevirtual 48, 3) := by decide +kernel
theorem dX5_report_5 : decode cX5_report 5 = .ok (.aload_n 0, 1) := by decide +kernel
theorem dX5_report_6 : decode cX5_report 6 = .ok (.iload_n 2, 1) := by decide +kernel
theorem dX5_report_7 : decode cX5_report 7 = .ok (.iload_n 3, 1) := by decide +kernel
theorem dX5_report_8 : decode cX5_report 8 = .ok (.invokevirtual 91, 3) := by decide +kernel
theorem dX5_report_11 : decode cX5_report 11 = .ok (.iload 4, 2) := by decide +kernel
theorem dX5_report_13 : decode cX5_report 13 = .ok (.invokestatic 95, 3) := by decide +kernel
theorem dX5_report_16 : decode cX5_report 16 = .ok (.aload_n 0, 1) := by decide +kernel
theorem dX5_report_17 : decode cX5_report 17 = .ok (.iload_n 2, 1) := by decide +kernel
theorem dX5_report_18 : decode cX5_report 18 = .ok (.iload_n 3, 1) := by decide +kernel
theorem dX5_report_19 : decode cX5_report 19 = .ok (.invokevirtual 98, 3) := by decide +kernel
theorem dX5_report_22 : decode cX5_report 22 = .ok (.astore 5, 2) := by decide +kernel
theorem dX5_report_24 : decode cX5_report 24 = .ok (.aload 5, 2) := by decide +kernel
theorem dX5_report_26 : decode cX5_report 26 = .ok (.getfield 102, 3) := by decide +kernel
theorem dX5_report_29 : decode cX5_report 29 = .ok (.iload_n 1, 1) := by decide +kernel
theorem dX5_report_30 : decode cX5_report 30 = .ok (.iload 4, 2) := by decide +kernel
theorem dX5_report_32 : decode cX5_report 32 = .ok (.iastore, 1) := by decide +kernel
theorem dX5_report_33 : decode cX5_report 33 = .ok (.aload 5, 2) := by decide +kernel
theorem dX5_report_35 : decode cX5_report 35 = .ok (.aload_n 0, 1) := by decide +kernel
theorem dX5_report_36 : decode cX5_report 36 = .ok (.getfield 10, 3) := by decide +kernel
theorem dX5_report_39 : decode cX5_report 39 = .ok (.aload_n 0, 1) := by decide +kernel
theorem dX5_report_40 : decode cX5_report 40 = .ok (.getfield 19, 3) := by decide +kernel
theorem dX5_report_43 : decode cX5_report 43 = .ok (.invokevirtual 106, 3) := by decide +kernel
theorem dX5_report_46 : decode cX5_report 46 = .ok (.aload_n 0, 1) := by decide +kernel
theorem dX5_report_47 : decode cX5_report 47 = .ok (.getfield 19, 3) := by decide +kernel
theorem dX5_report_50 : decode cX5_report 50 = .ok (.aload_n 0, 1) := by decide +kernel
theorem dX5_report_51 : decode cX5_report 51 = .ok (.getfield 10, 3) := by decide +kernel
theorem dX5_report_54 : decode cX5_report 54 = .ok (.aload 5, 2) := by decide +kernel
theorem dX5_report_56 : decode cX5_report 56 = .ok (.getfield 102, 3) := by decide +kernel
theorem dX5_report_59 : decode cX5_report 59 = .ok (.iload 4, 2) := by decide +kernel
theorem dX5_report_61 : decode cX5_report 61 = .ok (.invokevirtual 110, 3) := by decide +kernel
theorem dX5_report_64 : decode cX5_report 64 = .ok (.aload_n 0, 1) := by decide +kernel
theorem dX5_report_65 : decode cX5_report 65 = .ok (.getfield 19, 3) := by decide +kernel
theorem dX5_report_68 : decode cX5_report 68 = .ok (.invokevirtual 114, 3) := by decide +kernel
theorem dX5_report_71 : decode cX5_report 71 = .ok (.ireturn, 1) := by decide +kernel
theorem dX5_retract_0 : decode cX5_retract 0 = .ok (.aload_n 0, 1) := by decide +kernel
theorem dX5_retract_1 : decode cX5_retract 1 = .ok (.iload_n 1, 1) := by decide +kernel
theorem dX5_retract_2 : decode cX5_retract 2 = .ok (.invokevirtual 48, 3) := by decide +kernel
theorem dX5_retract_5 : decode cX5_retract 5 = .ok (.aload_n 0, 1) := by decide +kernel
theorem dX5_retract_6 : decode cX5_retract 6 = .ok (.iload_n 2, 1) := by decide +kernel
theorem dX5_retract_7 : decode cX5_retract 7 = .ok (.iload_n 3, 1) := by decide +kernel
theorem dX5_retract_8 : decode cX5_retract 8 = .ok (.invokevirtual 91, 3) := by decide +kernel
theorem dX5_retract_11 : decode cX5_retract 11 = .ok (.aload_n 0, 1) := by decide +kernel
theorem dX5_retract_12 : decode cX5_retract 12 = .ok (.iload_n 2, 1) := by decide +kernel
theorem dX5_retract_13 : decode cX5_retract 13 = .ok (.iload_n 3, 1) := by decide +kernel
theorem dX5_retract_14 : decode cX5_retract 14 = .ok (.invokevirtual 98, 3) := by decide +kernel
theorem dX5_retract_17 : decode cX5_retract 17 = .ok (.astore 4, 2) := by decide +kernel
theorem dX5_retract_19 : decode cX5_retract 19 = .ok (.aload 4, 2) := by decide +kernel
theorem dX5_retract_21 : decode cX5_retract 21 = .ok (.getfield 102, 3) := by decide +kernel
theorem dX5_retract_24 : decode cX5_retract 24 = .ok (.iload_n 1, 1) := by decide +kernel
theorem dX5_retract_25 : decode cX5_retract 25 = .ok (.iaload, 1) := by decide +kernel
theorem dX5_retract_26 : decode cX5_retract 26 = .ok (.istore 5, 2) := by decide +kernel
theorem dX5_retract_28 : decode cX5_retract 28 = .ok (.iload 5, 2) := by decide +kernel
theorem dX5_retract_30 : decode cX5_retract 30 = .ok (.iconst (-1), 1) := by decide +kernel
theorem dX5_retract_31 : decode cX5_retract 31 = .ok (.if_icmp .ne 13, 3) := by decide +kernel
theorem dX5_retract_34 : decode cX5_retract 34 = .ok (.new 59, 3) := by decide +kernel
theorem dX5_retract_37 : decode cX5_retract 37 = .ok (.dup, 1) := by decide +kernel
theorem dX5_retract_38 : decode cX5_retract 38 = .ok (.ldc 118, 2) := by decide +kernel
theorem dX5_retract_40 : decode cX5_retract 40 = .ok (.invokespecial 63, 3) := by decide +kernel
theorem dX5_retract_43 : decode cX5_retract 43 = .ok (.athrow, 1) := by decide +kernel
theorem dX5_retract_44 : decode cX5_retract 44 = .ok (.aload 4, 2) := by decide +kernel
theorem dX5_retract_46 : decode cX5_retract 46 = .ok (.getfield 102, 3) := by decide +kernel
theorem dX5_retract_49 : decode cX5_retract 49 = .ok (.iload_n 1, 1) := by decide +kernel
theorem dX5_retract_50 : decode cX5_retract 50 = .ok (.iconst (-1), 1) := by decide +kernel
theorem dX5_retract_51 : decode cX5_retract 51 = .ok (.iastore, 1) := by decide +kernel
theorem dX5_retract_52 : decode cX5_retract 52 = .ok (.aload 4, 2) := by decide +kernel
theorem dX5_retract_54 : decode cX5_retract 54 = .ok (.aload_n 0, 1) := by decide +kernel
theorem dX5_retract_55 : decode cX5_retract 55 = .ok (.getfield 10, 3) := by decide +kernel
theorem dX5_retract_58 : decode cX5_retract 58 = .ok (.aload_n 0, 1) := by decide +kernel
theorem dX5_retract_59 : decode cX5_retract 59 = .ok (.getfield 19, 3) := by decide +kernel
theorem dX5_retract_62 : decode cX5_retract 62 = .ok (.invokevirtual 106, 3) := by decide +kernel
theorem dX5_retract_65 : decode cX5_retract 65 = .ok (.iload 5, 2) := by decide +kernel
theorem dX5_retract_67 : decode cX5_retract 67 = .ok (.ireturn, 1) := by decide +kernel
theorem dX5_rival_0 : decode cX5_rival 0 = .ok (.aload_n 0, 1) := by decide +kernel
theorem dX5_rival_1 : decode cX5_rival 1 = .ok (.iload_n 1, 1) := by decide +kernel
theorem dX5_rival_2 : decode cX5_rival 2 = .ok (.iload_n 2, 1) := by decide +kernel
theorem dX5_rival_3 : decode cX5_rival 3 = .ok (.invokevirtual 91, 3) := by decide +kernel
theorem dX5_rival_6 : decode cX5_rival 6 = .ok (.aload_n 0, 1) := by decide +kernel
theorem dX5_rival_7 : decode cX5_rival 7 = .ok (.iload_n 1, 1) := by decide +kernel
theorem dX5_rival_8 : decode cX5_rival 8 = .ok (.iload_n 2, 1) := by decide +kernel
theorem dX5_rival_9 : decode cX5_rival 9 = .ok (.invokevirtual 98, 3) := by decide +kernel
theorem dX5_rival_12 : decode cX5_rival 12 = .ok (.astore_n 3, 1) := by decide +kernel
theorem dX5_rival_13 : decode cX5_rival 13 = .ok (.aload_n 3, 1) := by decide +kernel
theorem dX5_rival_14 : decode cX5_rival 14 = .ok (.getfield 120, 3) := by decide +kernel
theorem dX5_rival_17 : decode cX5_rival 17 = .ok (.iconst (-1), 1) := by decide +kernel
theorem dX5_rival_18 : decode cX5_rival 18 = .ok (.if_icmp .eq 5, 3) := by decide +kernel
theorem dX5_rival_21 : decode cX5_rival 21 = .ok (.iconst 0, 1) := by decide +kernel
theorem dX5_rival_22 : decode cX5_rival 22 = .ok (.ireturn, 1) := by decide +kernel
theorem dX5_rival_23 : decode cX5_rival 23 = .ok (.aload_n 3, 1) := by decide +kernel
theorem dX5_rival_24 : decode cX5_rival 24 = .ok (.aload_n 0, 1) := by decide +kernel
theorem dX5_rival_25 : decode cX5_rival 25 = .ok (.getfield 123, 3) := by decide +kernel
theorem dX5_rival_28 : decode cX5_rival 28 = .ok (.putfield 120, 3) := by decide +kernel
theorem dX5_rival_31 : decode cX5_rival 31 = .ok (.iconst 1, 1) := by decide +kernel
theorem dX5_rival_32 : decode cX5_rival 32 = .ok (.ireturn, 1) := by decide +kernel
theorem dX5_down_0 : decode cX5_down 0 = .ok (.aload_n 0, 1) := by decide +kernel
theorem dX5_down_1 : decode cX5_down 1 = .ok (.iload_n 1, 1) := by decide +kernel
theorem dX5_down_2 : decode cX5_down 2 = .ok (.invokevirtual 126, 3) := by decide +kernel
theorem dX5_down_5 : decode cX5_down 5 = .ok (.iload_n 2, 1) := by decide +kernel
theorem dX5_down_6 : decode cX5_down 6 = .ok (.ifCond .lt 9, 3) := by decide +kernel
theorem dX5_down_9 : decode cX5_down 9 = .ok (.iload_n 2, 1) := by decide +kernel
theorem dX5_down_10 : decode cX5_down 10 = .ok (.bipush 99, 2) := by decide +kernel
theorem dX5_down_12 : decode cX5_down 12 = .ok (.if_icmp .le 13, 3) := by decide +kernel
theorem dX5_down_15 : decode cX5_down 15 = .ok (.new 75, 3) := by decide +kernel
theorem dX5_down_18 : decode cX5_down 18 = .ok (.dup, 1) := by decide +kernel
theorem dX5_down_19 : decode cX5_down 19 = .ok (.ldc 129, 2) := by decide +kernel
theorem dX5_down_21 : decode cX5_down 21 = .ok (.invokespecial 79, 3) := by decide +kernel
theorem dX5_down_24 : decode cX5_down 24 = .ok (.athrow, 1) := by decide +kernel
theorem dX5_down_25 : decode cX5_down 25 = .ok (.aload_n 0, 1) := by decide +kernel
theorem dX5_down_26 : decode cX5_down 26 = .ok (.getfield 39, 3) := by decide +kernel
theorem dX5_down_29 : decode cX5_down 29 = .ok (.iload_n 1, 1) := by decide +kernel
theorem dX5_down_30 : decode cX5_down 30 = .ok (.aaload, 1) := by decide +kernel
theorem dX5_down_31 : decode cX5_down 31 = .ok (.getfield 131, 3) := by decide +kernel
theorem dX5_down_34 : decode cX5_down 34 = .ok (.istore_n 3, 1) := by decide +kernel
theorem dX5_down_35 : decode cX5_down 35 = .ok (.aload_n 0, 1) := by decide +kernel
theorem dX5_down_36 : decode cX5_down 36 = .ok (.getfield 39, 3) := by decide +kernel
theorem dX5_down_39 : decode cX5_down 39 = .ok (.iload_n 1, 1) := by decide +kernel
theorem dX5_down_40 : decode cX5_down 40 = .ok (.aaload, 1) := by decide +kernel
theorem dX5_down_41 : decode cX5_down 41 = .ok (.iload_n 2, 1) := by decide +kernel
theorem dX5_down_42 : decode cX5_down 42 = .ok (.putfield 131, 3) := by decide +kernel
theorem dX5_down_45 : decode cX5_down 45 = .ok (.iload_n 3, 1) := by decide +kernel
theorem dX5_down_46 : decode cX5_down 46 = .ok (.ireturn, 1) := by decide +kernel
theorem dX5_file_0 : decode cX5_file 0 = .ok (.aload_n 0, 1) := by decide +kernel
theorem dX5_file_1 : decode cX5_file 1 = .ok (.iload_n 1, 1) := by decide +kernel
theorem dX5_file_2 : decode cX5_file 2 = .ok (.invokevirtual 134, 3) := by decide +kernel
theorem dX5_file_5 : decode cX5_file 5 = .ok (.iload_n 2, 1) := by decide +kernel
theorem dX5_file_6 : decode cX5_file 6 = .ok (.ifCond .eq 13, 3) := by decide +kernel
theorem dX5_file_9 : decode cX5_file 9 = .ok (.iload_n 2, 1) := by decide +kernel
theorem dX5_file_10 : decode cX5_file 10 = .ok (.iconst 3, 1) := by decide +kernel
theorem dX5_file_11 : decode cX5_file 11 = .ok (.if_icmp .eq 8, 3) := by decide +kernel
theorem dX5_file_14 : decode cX5_file 14 = .ok (.iload_n 2, 1) := by decide +kernel
theorem dX5_file_15 : decode cX5_file 15 = .ok (.iconst 4, 1) := by decide +kernel
theorem dX5_file_16 : decode cX5_file 16 = .ok (.if_icmp .ne 7, 3) := by decide +kernel
theorem dX5_file_19 : decode cX5_file 19 = .ok (.iconst 1, 1) := by decide +kernel
theorem dX5_file_20 : decode cX5_file 20 = .ok (.goto 4, 3) := by decide +kernel
theorem dX5_file_23 : decode cX5_file 23 = .ok (.iconst 0, 1) := by decide +kernel
theorem dX5_file_24 : decode cX5_file 24 = .ok (.istore 6, 2) := by decide +kernel
theorem dX5_file_26 : decode cX5_file 26 = .ok (.iload 6, 2) := by decide +kernel
theorem dX5_file_28 : decode cX5_file 28 = .ok (.ifCond .eq 27, 3) := by decide +kernel
theorem dX5_file_31 : decode cX5_file 31 = .ok (.iload_n 3, 1) := by decide +kernel
theorem dX5_file_32 : decode cX5_file 32 = .ok (.iconst 1, 1) := by decide +kernel
theorem dX5_file_33 : decode cX5_file 33 = .ok (.if_icmp .lt 22, 3) := by decide +kernel
theorem dX5_file_36 : decode cX5_file 36 = .ok (.iload_n 3, 1) := by decide +kernel
theorem dX5_file_37 : decode cX5_file 37 = .ok (.bipush 15, 2) := by decide +kernel
theorem dX5_file_39 : decode cX5_file 39 = .ok (.if_icmp .gt 16, 3) := by decide +kernel
theorem dX5_file_42 : decode cX5_file 42 = .ok (.iload 5, 2) := by decide +kernel
theorem dX5_file_44 : decode cX5_file 44 = .ok (.ifCond .lt 11, 3) := by decide +kernel
theorem dX5_file_47 : decode cX5_file 47 = .ok (.iload 5, 2) := by decide +kernel
theorem dX5_file_49 : decode cX5_file 49 = .ok (.sipush 9999, 3) := by decide +kernel
theorem dX5_file_52 : decode cX5_file 52 = .ok (.if_icmp .le 13, 3) := by decide +kernel
theorem dX5_file_55 : decode cX5_file 55 = .ok (.new 75, 3) := by decide +kernel
theorem dX5_file_58 : decode cX5_file 58 = .ok (.dup, 1) := by decide +kernel
theorem dX5_file_59 : decode cX5_file 59 = .ok (.ldc 137, 2) := by decide +kernel
theorem dX5_file_61 : decode cX5_file 61 = .ok (.invokespecial 79, 3) := by decide +kernel
theorem dX5_file_64 : decode cX5_file 64 = .ok (.athrow, 1) := by decide +kernel
theorem dX5_file_65 : decode cX5_file 65 = .ok (.aload_n 0, 1) := by decide +kernel
theorem dX5_file_66 : decode cX5_file 66 = .ok (.invokevirtual 139, 3) := by decide +kernel
theorem dX5_file_69 : decode cX5_file 69 = .ok (.aload_n 0, 1) := by decide +kernel
theorem dX5_file_70 : decode cX5_file 70 = .ok (.iload_n 1, 1) := by decide +kernel
theorem dX5_file_71 : decode cX5_file 71 = .ok (.iload_n 3, 1) := by decide +kernel
theorem dX5_file_72 : decode cX5_file 72 = .ok (.iload 4, 2) := by decide +kernel
theorem dX5_file_74 : decode cX5_file 74 = .ok (.invokevirtual 142, 3) := by decide +kernel
theorem dX5_file_77 : decode cX5_file 77 = .ok (.ifCond .ne 6, 3) := by decide +kernel
theorem dX5_file_80 : decode cX5_file 80 = .ok (.bipush (-2), 2) := by decide +kernel
theorem dX5_file_82 : decode cX5_file 82 = .ok (.ireturn, 1) := by decide +kernel
theorem dX5_file_83 : decode cX5_file 83 = .ok (.iload_n 2, 1) := by decide +kernel
theorem dX5_file_84 : decode cX5_file 84 = .ok (.ifCond .ne 14, 3) := by decide +kernel
theorem dX5_file_87 : decode cX5_file 87 = .ok (.iload_n 3, 1) := by decide +kernel
theorem dX5_file_88 : decode cX5_file 88 = .ok (.invokestatic 146, 3) := by decide +kernel
theorem dX5_file_91 : decode cX5_file 91 = .ok (.iconst 1, 1) := by decide +kernel
theorem dX5_file_92 : decode cX5_file 92 = .ok (.if_icmp .eq 6, 3) := by decide +kernel
theorem dX5_file_95 : decode cX5_file 95 = .ok (.bipush (-3), 2) := by decide +kernel
theorem dX5_file_97 : decode cX5_file 97 = .ok (.ireturn, 1) := by decide +kernel
theorem dX5_file_98 : decode cX5_file 98 = .ok (.aload_n 0, 1) := by decide +kernel
theorem dX5_file_99 : decode cX5_file 99 = .ok (.iload_n 1, 1) := by decide +kernel
theorem dX5_file_100 : decode cX5_file 100 = .ok (.iload_n 2, 1) := by decide +kernel
theorem dX5_file_101 : decode cX5_file 101 = .ok (.iload_n 3, 1) := by decide +kernel
theorem dX5_file_102 : decode cX5_file 102 = .ok (.iload 4, 2) := by decide +kernel
theorem dX5_file_104 : decode cX5_file 104 = .ok (.iload 5, 2) := by decide +kernel
theorem dX5_file_106 : decode cX5_file 106 = .ok (.iconst (-1), 1) := by decide +kernel
theorem dX5_file_107 : decode cX5_file 107 = .ok (.invokevirtual 152, 3) := by decide +kernel
theorem dX5_file_110 : decode cX5_file 110 = .ok (.istore 7, 2) := by decide +kernel
theorem dX5_file_112 : decode cX5_file 112 = .ok (.aload_n 0, 1) := by decide +kernel
theorem dX5_file_113 : decode cX5_file 113 = .ok (.iload 7, 2) := by decide +kernel
theorem dX5_file_115 : decode cX5_file 115 = .ok (.invokevirtual 156, 3) := by decide +kernel
theorem dX5_file_118 : decode cX5_file 118 = .ok (.iload 7, 2) := by decide +kernel
theorem dX5_file_120 : decode cX5_file 120 = .ok (.ireturn, 1) := by decide +kernel
theorem dX5_correct_0 : decode cX5_correct 0 = .ok (.aload_n 0, 1) := by decide +kernel
theorem dX5_correct_1 : decode cX5_correct 1 = .ok (.iload_n 1, 1) := by decide +kernel
theorem dX5_correct_2 : decode cX5_correct 2 = .ok (.invokevirtual 159, 3) := by decide +kernel
theorem dX5_correct_5 : decode cX5_correct 5 = .ok (.iload_n 2, 1) := by decide +kernel
theorem dX5_correct_6 : decode cX5_correct 6 = .ok (.ifCond .lt 23, 3) := by decide +kernel
theorem dX5_correct_9 : decode cX5_correct 9 = .ok (.iload_n 2, 1) := by decide +kernel
theorem dX5_correct_10 : decode cX5_correct 10 = .ok (.iconst 4, 1) := by decide +kernel
theorem dX5_correct_11 : decode cX5_correct 11 = .ok (.if_icmp .ge 18, 3) := by decide +kernel
theorem dX5_correct_14 : decode cX5_correct 14 = .ok (.aload_n 0, 1) := by decide +kernel
theorem dX5_correct_15 : decode cX5_correct 15 = .ok (.getfield 32, 3) := by decide +kernel
theorem dX5_correct_18 : decode cX5_correct 18 = .ok (.iload_n 1, 1) := by decide +kernel
theorem dX5_correct_19 : decode cX5_correct 19 = .ok (.aaload, 1) := by decide +kernel
theorem dX5_correct_20 : decode cX5_correct 20 = .ok (.getfield 162, 3) := by decide +kernel
theorem dX5_correct_23 : decode cX5_correct 23 = .ok (.iload_n 2, 1) := by decide +kernel
theorem dX5_correct_24 : decode cX5_correct 24 = .ok (.iaload, 1) := by decide +kernel
theorem dX5_correct_25 : decode cX5_correct 25 = .ok (.iconst (-1), 1) := by decide +kernel
theorem dX5_correct_26 : decode cX5_correct 26 = .ok (.if_icmp .ne 13, 3) := by decide +kernel
theorem dX5_correct_29 : decode cX5_correct 29 = .ok (.new 75, 3) := by decide +kernel
theorem dX5_correct_32 : decode cX5_correct 32 = .ok (.dup, 1) := by decide +kernel
theorem dX5_correct_33 : decode cX5_correct 33 = .ok (.ldc 165, 2) := by decide +kernel
theorem dX5_correct_35 : decode cX5_correct 35 = .ok (.invokespecial 79, 3) := by decide +kernel
theorem dX5_correct_38 : decode cX5_correct 38 = .ok (.athrow, 1) := by decide +kernel
theorem dX5_correct_39 : decode cX5_correct 39 = .ok (.aload_n 0, 1) := by decide +kernel
theorem dX5_correct_40 : decode cX5_correct 40 = .ok (.getfield 32, 3) := by decide +kernel
theorem dX5_correct_43 : decode cX5_correct 43 = .ok (.iload_n 1, 1) := by decide +kernel
theorem dX5_correct_44 : decode cX5_correct 44 = .ok (.aaload, 1) := by decide +kernel
theorem dX5_correct_45 : decode cX5_correct 45 = .ok (.getfield 167, 3) := by decide +kernel
theorem dX5_correct_48 : decode cX5_correct 48 = .ok (.iconst (-1), 1) := by decide +kernel
theorem dX5_correct_49 : decode cX5_correct 49 = .ok (.if_icmp .eq 13, 3) := by decide +kernel
theorem dX5_correct_52 : decode cX5_correct 52 = .ok (.new 59, 3) := by decide +kernel
theorem dX5_correct_55 : decode cX5_correct 55 = .ok (.dup, 1) := by decide +kernel
theorem dX5_correct_56 : decode cX5_correct 56 = .ok (.ldc 170, 2) := by decide +kernel
theorem dX5_correct_58 : decode cX5_correct 58 = .ok (.invokespecial 63, 3) := by decide +kernel
theorem dX5_correct_61 : decode cX5_correct 61 = .ok (.athrow, 1) := by decide +kernel
theorem dX5_correct_62 : decode cX5_correct 62 = .ok (.aload_n 0, 1) := by decide +kernel
theorem dX5_correct_63 : decode cX5_correct 63 = .ok (.invokevirtual 139, 3) := by decide +kernel
theorem dX5_correct_66 : decode cX5_correct 66 = .ok (.aload_n 0, 1) := by decide +kernel
theorem dX5_correct_67 : decode cX5_correct 67 = .ok (.getfield 32, 3) := by decide +kernel
theorem dX5_correct_70 : decode cX5_correct 70 = .ok (.iload_n 1, 1) := by decide +kernel
theorem dX5_correct_71 : decode cX5_correct 71 = .ok (.aaload, 1) := by decide +kernel
theorem dX5_correct_72 : decode cX5_correct 72 = .ok (.getfield 172, 3) := by decide +kernel
theorem dX5_correct_75 : decode cX5_correct 75 = .ok (.istore_n 3, 1) := by decide +kernel
theorem dX5_correct_76 : decode cX5_correct 76 = .ok (.aload_n 0, 1) := by decide +kernel
theorem dX5_correct_77 : decode cX5_correct 77 = .ok (.iload_n 3, 1) := by decide +kernel
theorem dX5_correct_78 : decode cX5_correct 78 = .ok (.iload_n 2, 1) := by decide +kernel
theorem dX5_correct_79 : decode cX5_correct 79 = .ok (.invokevirtual 98, 3) := by decide +kernel
theorem dX5_correct_82 : decode cX5_correct 82 = .ok (.getfield 175, 3) := by decide +kernel
theorem dX5_correct_85 : decode cX5_correct 85 = .ok (.istore 4, 2) := by decide +kernel
theorem dX5_correct_87 : decode cX5_correct 87 = .ok (.iload 4, 2) := by decide +kernel
theorem dX5_correct_89 : decode cX5_correct 89 = .ok (.iconst (-1), 1) := by decide +kernel
theorem dX5_correct_90 : decode cX5_correct 90 = .ok (.if_icmp .eq 19, 3) := by decide +kernel
theorem dX5_correct_93 : decode cX5_correct 93 = .ok (.iload 4, 2) := by decide +kernel
theorem dX5_correct_95 : decode cX5_correct 95 = .ok (.aload_n 0, 1) := by decide +kernel
theorem dX5_correct_96 : decode cX5_correct 96 = .ok (.getfield 32, 3) := by decide +kernel
theorem dX5_correct_99 : decode cX5_correct 99 = .ok (.iload_n 1, 1) := by decide +kernel
theorem dX5_correct_100 : decode cX5_correct 100 = .ok (.aaload, 1) := by decide +kernel
theorem dX5_correct_101 : decode cX5_correct 101 = .ok (.getfield 162, 3) := by decide +kernel
theorem dX5_correct_104 : decode cX5_correct 104 = .ok (.iload_n 2, 1) := by decide +kernel
theorem dX5_correct_105 : decode cX5_correct 105 = .ok (.iaload, 1) := by decide +kernel
theorem dX5_correct_106 : decode cX5_correct 106 = .ok (.if_icmp .ne 6, 3) := by decide +kernel
theorem dX5_correct_109 : decode cX5_correct 109 = .ok (.bipush (-2), 2) := by decide +kernel
theorem dX5_correct_111 : decode cX5_correct 111 = .ok (.ireturn, 1) := by decide +kernel
theorem dX5_correct_112 : decode cX5_correct 112 = .ok (.aload_n 0, 1) := by decide +kernel
theorem dX5_correct_113 : decode cX5_correct 113 = .ok (.iload_n 3, 1) := by decide +kernel
theorem dX5_correct_114 : decode cX5_correct 114 = .ok (.iconst 2, 1) := by decide +kernel
theorem dX5_correct_115 : decode cX5_correct 115 = .ok (.iconst 1, 1) := by decide +kernel
theorem dX5_correct_116 : decode cX5_correct 116 = .ok (.iload_n 2, 1) := by decide +kernel
theorem dX5_correct_117 : decode cX5_correct 117 = .ok (.ishl, 1) := by decide +kernel
theorem dX5_correct_118 : decode cX5_correct 118 = .ok (.iconst 0, 1) := by decide +kernel
theorem dX5_correct_119 : decode cX5_correct 119 = .ok (.iconst 0, 1) := by decide +kernel
theorem dX5_correct_120 : decode cX5_correct 120 = .ok (.iload_n 1, 1) := by decide +kernel
theorem dX5_correct_121 : decode cX5_correct 121 = .ok (.invokevirtual 152, 3) := by decide +kernel
theorem dX5_correct_124 : decode cX5_correct 124 = .ok (.istore 5, 2) := by decide +kernel
theorem dX5_correct_126 : decode cX5_correct 126 = .ok (.aload_n 0, 1) := by decide +kernel
theorem dX5_correct_127 : decode cX5_correct 127 = .ok (.iload 5, 2) := by decide +kernel
theorem dX5_correct_129 : decode cX5_correct 129 = .ok (.invokevirtual 156, 3) := by decide +kernel
theorem dX5_correct_132 : decode cX5_correct 132 = .ok (.iload 5, 2) := by decide +kernel
theorem dX5_correct_134 : decode cX5_correct 134 = .ok (.ireturn, 1) := by decide +kernel
theorem dX5_kill_0 : decode cX5_kill 0 = .ok (.aload_n 0, 1) := by decide +kernel
theorem dX5_kill_1 : decode cX5_kill 1 = .ok (.iload_n 1, 1) := by decide +kernel
theorem dX5_kill_2 : decode cX5_kill 2 = .ok (.invokevirtual 159, 3) := by decide +kernel
theorem dX5_kill_5 : decode cX5_kill 5 = .ok (.aload_n 0, 1) := by decide +kernel
theorem dX5_kill_6 : decode cX5_kill 6 = .ok (.getfield 32, 3) := by decide +kernel
theorem dX5_kill_9 : decode cX5_kill 9 = .ok (.iload_n 1, 1) := by decide +kernel
theorem dX5_kill_10 : decode cX5_kill 10 = .ok (.aaload, 1) := by decide +kernel
theorem dX5_kill_11 : decode cX5_kill 11 = .ok (.getfield 178, 3) := by decide +kernel
theorem dX5_kill_14 : decode cX5_kill 14 = .ok (.iconst 1, 1) := by decide +kernel
theorem dX5_kill_15 : decode cX5_kill 15 = .ok (.if_icmp .eq 16, 3) := by decide +kernel
theorem dX5_kill_18 : decode cX5_kill 18 = .ok (.aload_n 0, 1) := by decide +kernel
theorem dX5_kill_19 : decode cX5_kill 19 = .ok (.getfield 32, 3) := by decide +kernel
theorem dX5_kill_22 : decode cX5_kill 22 = .ok (.iload_n 1, 1) := by decide +kernel
theorem dX5_kill_23 : decode cX5_kill 23 = .ok (.aaload, 1) := by decide +kernel
theorem dX5_kill_24 : decode cX5_kill 24 = .ok (.getfield 167, 3) := by decide +kernel
theorem dX5_kill_27 : decode cX5_kill 27 = .ok (.iconst (-1), 1) := by decide +kernel
theorem dX5_kill_28 : decode cX5_kill 28 = .ok (.if_icmp .eq 13, 3) := by decide +kernel
theorem dX5_kill_31 : decode cX5_kill 31 = .ok (.new 59, 3) := by decide +kernel
theorem dX5_kill_34 : decode cX5_kill 34 = .ok (.dup, 1) := by decide +kernel
theorem dX5_kill_35 : decode cX5_kill 35 = .ok (.ldc 181, 2) := by decide +kernel
theorem dX5_kill_37 : decode cX5_kill 37 = .ok (.invokespecial 63, 3) := by decide +kernel
theorem dX5_kill_40 : decode cX5_kill 40 = .ok (.athrow, 1) := by decide +kernel
theorem dX5_kill_41 : decode cX5_kill 41 = .ok (.aload_n 0, 1) := by decide +kernel
theorem dX5_kill_42 : decode cX5_kill 42 = .ok (.invokevirtual 139, 3) := by decide +kernel
theorem dX5_kill_45 : decode cX5_kill 45 = .ok (.aload_n 0, 1) := by decide +kernel
theorem dX5_kill_46 : decode cX5_kill 46 = .ok (.aload_n 0, 1) := by decide +kernel
theorem dX5_kill_47 : decode cX5_kill 47 = .ok (.getfield 32, 3) := by decide +kernel
theorem dX5_kill_50 : decode cX5_kill 50 = .ok (.iload_n 1, 1) := by decide +kernel
theorem dX5_kill_51 : decode cX5_kill 51 = .ok (.aaload, 1) := by decide +kernel
theorem dX5_kill_52 : decode cX5_kill 52 = .ok (.getfield 172, 3) := by decide +kernel
theorem dX5_kill_55 : decode cX5_kill 55 = .ok (.iconst 1, 1) := by decide +kernel
theorem dX5_kill_56 : decode cX5_kill 56 = .ok (.iconst 0, 1) := by decide +kernel
theorem dX5_kill_57 : decode cX5_kill 57 = .ok (.iconst 0, 1) := by decide +kernel
theorem dX5_kill_58 : decode cX5_kill 58 = .ok (.iconst 0, 1) := by decide +kernel
theorem dX5_kill_59 : decode cX5_kill 59 = .ok (.iload_n 1, 1) := by decide +kernel
theorem dX5_kill_60 : decode cX5_kill 60 = .ok (.invokevirtual 152, 3) := by decide +kernel
theorem dX5_kill_63 : decode cX5_kill 63 = .ok (.istore_n 2, 1) := by decide +kernel
theorem dX5_kill_64 : decode cX5_kill 64 = .ok (.aload_n 0, 1) := by decide +kernel
theorem dX5_kill_65 : decode cX5_kill 65 = .ok (.getfield 32, 3) := by decide +kernel
theorem dX5_kill_68 : decode cX5_kill 68 = .ok (.iload_n 1, 1) := by decide +kernel
theorem dX5_kill_69 : decode cX5_kill 69 = .ok (.aaload, 1) := by decide +kernel
theorem dX5_kill_70 : decode cX5_kill 70 = .ok (.iload_n 2, 1) := by decide +kernel
theorem dX5_kill_71 : decode cX5_kill 71 = .ok (.putfield 167, 3) := by decide +kernel
theorem dX5_kill_74 : decode cX5_kill 74 = .ok (.iconst 0, 1) := by decide +kernel
theorem dX5_kill_75 : decode cX5_kill 75 = .ok (.istore_n 3, 1) := by decide +kernel
theorem dX5_kill_76 : decode cX5_kill 76 = .ok (.iconst 0, 1) := by decide +kernel
theorem dX5_kill_77 : decode cX5_kill 77 = .ok (.istore 4, 2) := by decide +kernel
theorem dX5_kill_79 : decode cX5_kill 79 = .ok (.iload 4, 2) := by decide +kernel
theorem dX5_kill_81 : decode cX5_kill 81 = .ok (.aload_n 0, 1) := by decide +kernel
theorem dX5_kill_82 : decode cX5_kill 82 = .ok (.getfield 80, 3) := by decide +kernel
theorem dX5_kill_85 : decode cX5_kill 85 = .ok (.if_icmp .ge 57, 3) := by decide +kernel
theorem dX5_kill_88 : decode cX5_kill 88 = .ok (.aload_n 0, 1) := by decide +kernel
theorem dX5_kill_89 : decode cX5_kill 89 = .ok (.getfield 39, 3) := by decide +kernel
theorem dX5_kill_92 : decode cX5_kill 92 = .ok (.iload 4, 2) := by decide +kernel
theorem dX5_kill_94 : decode cX5_kill 94 = .ok (.aaload, 1) := by decide +kernel
theorem dX5_kill_95 : decode cX5_kill 95 = .ok (.iload_n 1, 1) := by decide +kernel
theorem dX5_kill_96 : decode cX5_kill 96 = .ok (.invokevirtual 183, 3) := by decide +kernel
theorem dX5_kill_99 : decode cX5_kill 99 = .ok (.ifCond .eq 26, 3) := by decide +kernel
theorem dX5_kill_102 : decode cX5_kill 102 = .ok (.aload_n 0, 1) := by decide +kernel
theorem dX5_kill_103 : decode cX5_kill 103 = .ok (.getfield 39, 3) := by decide +kernel
theorem dX5_kill_106 : decode cX5_kill 106 = .ok (.iload 4, 2) := by decide +kernel
theorem dX5_kill_108 : decode cX5_kill 108 = .ok (.aaload, 1) := by decide +kernel
theorem dX5_kill_109 : decode cX5_kill 109 = .ok (.iload_n 2, 1) := by decide +kernel
theorem dX5_kill_110 : decode cX5_kill 110 = .ok (.aload_n 0, 1) := by decide +kernel
theorem dX5_kill_111 : decode cX5_kill 111 = .ok (.getfield 32, 3) := by decide +kernel
theorem dX5_kill_114 : decode cX5_kill 114 = .ok (.iload_n 2, 1) := by decide +kernel
theorem dX5_kill_115 : decode cX5_kill 115 = .ok (.aaload, 1) := by decide +kernel
theorem dX5_kill_116 : decode cX5_kill 116 = .ok (.invokevirtual 187, 3) := by decide +kernel
theorem dX5_kill_119 : decode cX5_kill 119 = .ok (.iinc 3 1, 3) := by decide +kernel
theorem dX5_kill_122 : decode cX5_kill 122 = .ok (.goto 14, 3) := by decide +kernel
theorem dX5_kill_125 : decode cX5_kill 125 = .ok (.aload_n 0, 1) := by decide +kernel
theorem dX5_kill_126 : decode cX5_kill 126 = .ok (.getfield 39, 3) := by decide +kernel
theorem dX5_kill_129 : decode cX5_kill 129 = .ok (.iload 4, 2) := by decide +kernel
theorem dX5_kill_131 : decode cX5_kill 131 = .ok (.aaload, 1) := by decide +kernel
theorem dX5_kill_132 : decode cX5_kill 132 = .ok (.iload_n 1, 1) := by decide +kernel
theorem dX5_kill_133 : decode cX5_kill 133 = .ok (.invokevirtual 191, 3) := by decide +kernel
theorem dX5_kill_136 : decode cX5_kill 136 = .ok (.iinc 4 1, 3) := by decide +kernel
theorem dX5_kill_139 : decode cX5_kill 139 = .ok (.goto (-60), 3) := by decide +kernel
theorem dX5_kill_142 : decode cX5_kill 142 = .ok (.iload_n 3, 1) := by decide +kernel
theorem dX5_kill_143 : decode cX5_kill 143 = .ok (.ireturn, 1) := by decide +kernel
theorem dX5_pass_0 : decode cX5_pass 0 = .ok (.iload_n 1, 1) := by decide +kernel
theorem dX5_pass_1 : decode cX5_pass 1 = .ok (.iconst 1, 1) := by decide +kernel
theorem dX5_pass_2 : decode cX5_pass 2 = .ok (.if_icmp .lt 9, 3) := by decide +kernel
theorem dX5_pass_5 : decode cX5_pass 5 = .ok (.iload_n 1, 1) := by decide +kernel
theorem dX5_pass_6 : decode cX5_pass 6 = .ok (.bipush 99, 2) := by decide +kernel
theorem dX5_pass_8 : decode cX5_pass 8 = .ok (.if_icmp .le 13, 3) := by decide +kernel
theorem dX5_pass_11 : decode cX5_pass 11 = .ok (.new 75, 3) := by decide +kernel
theorem dX5_pass_14 : decode cX5_pass 14 = .ok (.dup, 1) := by decide +kernel
theorem dX5_pass_15 : decode cX5_pass 15 = .ok (.ldc 194, 2) := by decide +kernel
theorem dX5_pass_17 : decode cX5_pass 17 = .ok (.invokespecial 79, 3) := by decide +kernel
theorem dX5_pass_20 : decode cX5_pass 20 = .ok (.athrow, 1) := by decide +kernel
theorem dX5_pass_21 : decode cX5_pass 21 = .ok (.aload_n 0, 1) := by decide +kernel
theorem dX5_pass_22 : decode cX5_pass 22 = .ok (.getfield 123, 3) := by decide +kernel
theorem dX5_pass_25 : decode cX5_pass 25 = .ok (.iload_n 1, 1) := by decide +kernel
theorem dX5_pass_26 : decode cX5_pass 26 = .ok (.iadd, 1) := by decide +kernel
theorem dX5_pass_27 : decode cX5_pass 27 = .ok (.sipush 9999, 3) := by decide +kernel
theorem dX5_pass_30 : decode cX5_pass 30 = .ok (.if_icmp .le 13, 3) := by decide +kernel
theorem dX5_pass_33 : decode cX5_pass 33 = .ok (.new 59, 3) := by decide +kernel
theorem dX5_pass_36 : decode cX5_pass 36 = .ok (.dup, 1) := by decide +kernel
theorem dX5_pass_37 : decode cX5_pass 37 = .ok (.ldc 196, 2) := by decide +kernel
theorem dX5_pass_39 : decode cX5_pass 39 = .ok (.invokespecial 63, 3) := by decide +kernel
theorem dX5_pass_42 : decode cX5_pass 42 = .ok (.athrow, 1) := by decide +kernel
theorem dX5_pass_43 : decode cX5_pass 43 = .ok (.iconst 0, 1) := by decide +kernel
theorem dX5_pass_44 : decode cX5_pass 44 = .ok (.istore_n 2, 1) := by decide +kernel
theorem dX5_pass_45 : decode cX5_pass 45 = .ok (.iconst 0, 1) := by decide +kernel
theorem dX5_pass_46 : decode cX5_pass 46 = .ok (.istore_n 3, 1) := by decide +kernel
theorem dX5_pass_47 : decode cX5_pass 47 = .ok (.iload_n 3, 1) := by decide +kernel
theorem dX5_pass_48 : decode cX5_pass 48 = .ok (.iload_n 1, 1) := by decide +kernel
theorem dX5_pass_49 : decode cX5_pass 49 = .ok (.if_icmp .ge 54, 3) := by decide +kernel
theorem dX5_pass_52 : decode cX5_pass 52 = .ok (.aload_n 0, 1) := by decide +kernel
theorem dX5_pass_53 : decode cX5_pass 53 = .ok (.dup, 1) := by decide +kernel
theorem dX5_pass_54 : decode cX5_pass 54 = .ok (.getfield 123, 3) := by decide +kernel
theorem dX5_pass_57 : decode cX5_pass 57 = .ok (.iconst 1, 1) := by decide +kernel
theorem dX5_pass_58 : decode cX5_pass 58 = .ok (.iadd, 1) := by decide +kernel
theorem dX5_pass_59 : decode cX5_pass 59 = .ok (.putfield 123, 3) := by decide +kernel
theorem dX5_pass_62 : decode cX5_pass 62 = .ok (.iconst 0, 1) := by decide +kernel
theorem dX5_pass_63 : decode cX5_pass 63 = .ok (.istore 4, 2) := by decide +kernel
theorem dX5_pass_65 : decode cX5_pass 65 = .ok (.iload 4, 2) := by decide +kernel
theorem dX5_pass_67 : decode cX5_pass 67 = .ok (.aload_n 0, 1) := by decide +kernel
theorem dX5_pass_68 : decode cX5_pass 68 = .ok (.getfield 80, 3) := by decide +kernel
theorem dX5_pass_71 : decode cX5_pass 71 = .ok (.if_icmp .ge 26, 3) := by decide +kernel
theorem dX5_pass_74 : decode cX5_pass 74 = .ok (.iload_n 2, 1) := by decide +kernel
theorem dX5_pass_75 : decode cX5_pass 75 = .ok (.aload_n 0, 1) := by decide +kernel
theorem dX5_pass_76 : decode cX5_pass 76 = .ok (.getfield 39, 3) := by decide +kernel
theorem dX5_pass_79 : decode cX5_pass 79 = .ok (.iload 4, 2) := by decide +kernel
theorem dX5_pass_81 : decode cX5_pass 81 = .ok (.aaload, 1) := by decide +kernel
theorem dX5_pass_82 : decode cX5_pass 82 = .ok (.aload_n 0, 1) := by decide +kernel
theorem dX5_pass_83 : decode cX5_pass 83 = .ok (.getfield 123, 3) := by decide +kernel
theorem dX5_pass_86 : decode cX5_pass 86 = .ok (.invokevirtual 198, 3) := by decide +kernel
theorem dX5_pass_89 : decode cX5_pass 89 = .ok (.iadd, 1) := by decide +kernel
theorem dX5_pass_90 : decode cX5_pass 90 = .ok (.istore_n 2, 1) := by decide +kernel
theorem dX5_pass_91 : decode cX5_pass 91 = .ok (.iinc 4 1, 3) := by decide +kernel
theorem dX5_pass_94 : decode cX5_pass 94 = .ok (.goto (-29), 3) := by decide +kernel
theorem dX5_pass_97 : decode cX5_pass 97 = .ok (.iinc 3 1, 3) := by decide +kernel
theorem dX5_pass_100 : decode cX5_pass 100 = .ok (.goto (-53), 3) := by decide +kernel
theorem dX5_pass_103 : decode cX5_pass 103 = .ok (.iload_n 2, 1) := by decide +kernel
theorem dX5_pass_104 : decode cX5_pass 104 = .ok (.ireturn, 1) := by decide +kernel
theorem dX5_ofFact_0 : decode cX5_ofFact 0 = .ok (.aload_n 0, 1) := by decide +kernel
theorem dX5_ofFact_1 : decode cX5_ofFact 1 = .ok (.iload_n 1, 1) := by decide +kernel
theorem dX5_ofFact_2 : decode cX5_ofFact 2 = .ok (.iload_n 2, 1) := by decide +kernel
theorem dX5_ofFact_3 : decode cX5_ofFact 3 = .ok (.invokevirtual 91, 3) := by decide +kernel
theorem dX5_ofFact_6 : decode cX5_ofFact 6 = .ok (.aload_n 0, 1) := by decide +kernel
theorem dX5_ofFact_7 : decode cX5_ofFact 7 = .ok (.iload_n 1, 1) := by decide +kernel
theorem dX5_ofFact_8 : decode cX5_ofFact 8 = .ok (.iload_n 2, 1) := by decide +kernel
theorem dX5_ofFact_9 : decode cX5_ofFact 9 = .ok (.invokevirtual 98, 3) := by decide +kernel
theorem dX5_ofFact_12 : decode cX5_ofFact 12 = .ok (.astore 4, 2) := by decide +kernel
theorem dX5_ofFact_14 : decode cX5_ofFact 14 = .ok (.iload_n 3, 1) := by decide +kernel
theorem dX5_ofFact_15 : decode cX5_ofFact 15 = .ok (.tableswitch 93 0 6 #[41, 47, 53, 59, 65, 71, 78], 41) := by decide +kernel
theorem dX5_ofFact_56 : decode cX5_ofFact 56 = .ok (.aload 4, 2) := by decide +kernel
theorem dX5_ofFact_58 : decode cX5_ofFact 58 = .ok (.getfield 175, 3) := by decide +kernel
theorem dX5_ofFact_61 : decode cX5_ofFact 61 = .ok (.ireturn, 1) := by decide +kernel
theorem dX5_ofFact_62 : decode cX5_ofFact 62 = .ok (.aload 4, 2) := by decide +kernel
theorem dX5_ofFact_64 : decode cX5_ofFact 64 = .ok (.getfield 204, 3) := by decide +kernel
theorem dX5_ofFact_67 : decode cX5_ofFact 67 = .ok (.ireturn, 1) := by decide +kernel
theorem dX5_ofFact_68 : decode cX5_ofFact 68 = .ok (.aload 4, 2) := by decide +kernel
theorem dX5_ofFact_70 : decode cX5_ofFact 70 = .ok (.invokevirtual 207, 3) := by decide +kernel
theorem dX5_ofFact_73 : decode cX5_ofFact 73 = .ok (.ireturn, 1) := by decide +kernel
theorem dX5_ofFact_74 : decode cX5_ofFact 74 = .ok (.aload 4, 2) := by decide +kernel
theorem dX5_ofFact_76 : decode cX5_ofFact 76 = .ok (.invokevirtual 210, 3) := by decide +kernel
theorem dX5_ofFact_79 : decode cX5_ofFact 79 = .ok (.ireturn, 1) := by decide +kernel
theorem dX5_ofFact_80 : decode cX5_ofFact 80 = .ok (.aload 4, 2) := by decide +kernel
theorem dX5_ofFact_82 : decode cX5_ofFact 82 = .ok (.getfield 120, 3) := by decide +kernel
theorem dX5_ofFact_85 : decode cX5_ofFact 85 = .ok (.ireturn, 1) := by decide +kernel
theorem dX5_ofFact_86 : decode cX5_ofFact 86 = .ok (.aload_n 0, 1) := by decide +kernel
theorem dX5_ofFact_87 : decode cX5_ofFact 87 = .ok (.iload_n 1, 1) := by decide +kernel
theorem dX5_ofFact_88 : decode cX5_ofFact 88 = .ok (.iload_n 2, 1) := by decide +kernel
theorem dX5_ofFact_89 : decode cX5_ofFact 89 = .ok (.invokevirtual 213, 3) := by decide +kernel
theorem dX5_ofFact_92 : decode cX5_ofFact 92 = .ok (.ireturn, 1) := by decide +kernel
theorem dX5_ofFact_93 : decode cX5_ofFact 93 = .ok (.aload_n 0, 1) := by decide +kernel
theorem dX5_ofFact_94 : decode cX5_ofFact 94 = .ok (.iload_n 1, 1) := by decide +kernel
theorem dX5_ofFact_95 : decode cX5_ofFact 95 = .ok (.iload_n 2, 1) := by decide +kernel
theorem dX5_ofFact_96 : decode cX5_ofFact 96 = .ok (.invokevirtual 216, 3) := by decide +kernel
theorem dX5_ofFact_99 : decode cX5_ofFact 99 = .ok (.ifCond .eq 7, 3) := by decide +kernel
theorem dX5_ofFact_102 : decode cX5_ofFact 102 = .ok (.iconst 1, 1) := by decide +kernel
theorem dX5_ofFact_103 : decode cX5_ofFact 103 = .ok (.goto 4, 3) := by decide +kernel
theorem dX5_ofFact_106 : decode cX5_ofFact 106 = .ok (.iconst 0, 1) := by decide +kernel
theorem dX5_ofFact_107 : decode cX5_ofFact 107 = .ok (.ireturn, 1) := by decide +kernel
theorem dX5_ofFact_108 : decode cX5_ofFact 108 = .ok (.new 75, 3) := by decide +kernel
theorem dX5_ofFact_111 : decode cX5_ofFact 111 = .ok (.dup, 1) := by decide +kernel
theorem dX5_ofFact_112 : decode cX5_ofFact 112 = .ok (.ldc 220, 2) := by decide +kernel
theorem dX5_ofFact_114 : decode cX5_ofFact 114 = .ok (.invokespecial 79, 3) := by decide +kernel
theorem dX5_ofFact_117 : decode cX5_ofFact 117 = .ok (.athrow, 1) := by decide +kernel
theorem dX5_proof_0 : decode cX5_proof 0 = .ok (.aload_n 0, 1) := by decide +kernel
theorem dX5_proof_1 : decode cX5_proof 1 = .ok (.iload_n 1, 1) := by decide +kernel
theorem dX5_proof_2 : decode cX5_proof 2 = .ok (.iload_n 2, 1) := by decide +kernel
theorem dX5_proof_3 : decode cX5_proof 3 = .ok (.invokevirtual 91, 3) := by decide +kernel
theorem dX5_proof_6 : decode cX5_proof 6 = .ok (.iload_n 3, 1) := by decide +kernel
theorem dX5_proof_7 : decode cX5_proof 7 = .ok (.invokestatic 95, 3) := by decide +kernel
theorem dX5_proof_10 : decode cX5_proof 10 = .ok (.aload_n 0, 1) := by decide +kernel
theorem dX5_proof_11 : decode cX5_proof 11 = .ok (.getfield 19, 3) := by decide +kernel
theorem dX5_proof_14 : decode cX5_proof 14 = .ok (.aload_n 0, 1) := by decide +kernel
theorem dX5_proof_15 : decode cX5_proof 15 = .ok (.getfield 10, 3) := by decide +kernel
theorem dX5_proof_18 : decode cX5_proof 18 = .ok (.aload_n 0, 1) := by decide +kernel
theorem dX5_proof_19 : decode cX5_proof 19 = .ok (.iload_n 1, 1) := by decide +kernel
theorem dX5_proof_20 : decode cX5_proof 20 = .ok (.iload_n 2, 1) := by decide +kernel
theorem dX5_proof_21 : decode cX5_proof 21 = .ok (.invokevirtual 98, 3) := by decide +kernel
theorem dX5_proof_24 : decode cX5_proof 24 = .ok (.getfield 102, 3) := by decide +kernel
theorem dX5_proof_27 : decode cX5_proof 27 = .ok (.iload_n 3, 1) := by decide +kernel
theorem dX5_proof_28 : decode cX5_proof 28 = .ok (.invokevirtual 110, 3) := by decide +kernel
theorem dX5_proof_31 : decode cX5_proof 31 = .ok (.iload 4, 2) := by decide +kernel
theorem dX5_proof_33 : decode cX5_proof 33 = .ok (.ifCond .eq 13, 3) := by decide +kernel
theorem dX5_proof_36 : decode cX5_proof 36 = .ok (.aload_n 0, 1) := by decide +kernel
theorem dX5_proof_37 : decode cX5_proof 37 = .ok (.getfield 19, 3) := by decide +kernel
theorem dX5_proof_40 : decode cX5_proof 40 = .ok (.getfield 222, 3) := by decide +kernel
theorem dX5_proof_43 : decode cX5_proof 43 = .ok (.goto 10, 3) := by decide +kernel
theorem dX5_proof_46 : decode cX5_proof 46 = .ok (.aload_n 0, 1) := by decide +kernel
theorem dX5_proof_47 : decode cX5_proof 47 = .ok (.getfield 19, 3) := by decide +kernel
theorem dX5_proof_50 : decode cX5_proof 50 = .ok (.invokevirtual 114, 3) := by decide +kernel
theorem dX5_proof_53 : decode cX5_proof 53 = .ok (.ireturn, 1) := by decide +kernel
theorem dX5_ofTake_0 : decode cX5_ofTake 0 = .ok (.aload_n 0, 1) := by decide +kernel
theorem dX5_ofTake_1 : decode cX5_ofTake 1 = .ok (.iload_n 1, 1) := by decide +kernel
theorem dX5_ofTake_2 : decode cX5_ofTake 2 = .ok (.invokevirtual 159, 3) := by decide +kernel
theorem dX5_ofTake_5 : decode cX5_ofTake 5 = .ok (.aload_n 0, 1) := by decide +kernel
theorem dX5_ofTake_6 : decode cX5_ofTake 6 = .ok (.getfield 32, 3) := by decide +kernel
theorem dX5_ofTake_9 : decode cX5_ofTake 9 = .ok (.iload_n 1, 1) := by decide +kernel
theorem dX5_ofTake_10 : decode cX5_ofTake 10 = .ok (.aaload, 1) := by decide +kernel
theorem dX5_ofTake_11 : decode cX5_ofTake 11 = .ok (.astore_n 3, 1) := by decide +kernel
theorem dX5_ofTake_12 : decode cX5_ofTake 12 = .ok (.iload_n 2, 1) := by decide +kernel
theorem dX5_ofTake_13 : decode cX5_ofTake 13 = .ok (.tableswitch 113 0 8 #[51, 56, 61, 66, 71, 76, 89, 103, 108], 51) := by decide +kernel
theorem dX5_ofTake_64 : decode cX5_ofTake 64 = .ok (.aload_n 3, 1) := by decide +kernel
theorem dX5_ofTake_65 : decode cX5_ofTake 65 = .ok (.getfield 172, 3) := by decide +kernel
theorem dX5_ofTake_68 : decode cX5_ofTake 68 = .ok (.ireturn, 1) := by decide +kernel
theorem dX5_ofTake_69 : decode cX5_ofTake 69 = .ok (.aload_n 3, 1) := by decide +kernel
theorem dX5_ofTake_70 : decode cX5_ofTake 70 = .ok (.getfield 178, 3) := by decide +kernel
theorem dX5_ofTake_73 : decode cX5_ofTake 73 = .ok (.ireturn, 1) := by decide +kernel
theorem dX5_ofTake_74 : decode cX5_ofTake 74 = .ok (.aload_n 3, 1) := by decide +kernel
theorem dX5_ofTake_75 : decode cX5_ofTake 75 = .ok (.getfield 225, 3) := by decide +kernel
theorem dX5_ofTake_78 : decode cX5_ofTake 78 = .ok (.ireturn, 1) := by decide +kernel
theorem dX5_ofTake_79 : decode cX5_ofTake 79 = .ok (.aload_n 3, 1) := by decide +kernel
theorem dX5_ofTake_80 : decode cX5_ofTake 80 = .ok (.getfield 228, 3) := by decide +kernel
theorem dX5_ofTake_83 : decode cX5_ofTake 83 = .ok (.ireturn, 1) := by decide +kernel
theorem dX5_ofTake_84 : decode cX5_ofTake 84 = .ok (.aload_n 3, 1) := by decide +kernel
theorem dX5_ofTake_85 : decode cX5_ofTake 85 = .ok (.getfield 231, 3) := by decide +kernel
theorem dX5_ofTake_88 : decode cX5_ofTake 88 = .ok (.ireturn, 1) := by decide +kernel
theorem dX5_ofTake_89 : decode cX5_ofTake 89 = .ok (.aload_n 3, 1) := by decide +kernel
theorem dX5_ofTake_90 : decode cX5_ofTake 90 = .ok (.getfield 234, 3) := by decide +kernel
theorem dX5_ofTake_93 : decode cX5_ofTake 93 = .ok (.ifCond .eq 7, 3) := by decide +kernel
theorem dX5_ofTake_96 : decode cX5_ofTake 96 = .ok (.iconst 1, 1) := by decide +kernel
theorem dX5_ofTake_97 : decode cX5_ofTake 97 = .ok (.goto 4, 3) := by decide +kernel
theorem dX5_ofTake_100 : decode cX5_ofTake 100 = .ok (.iconst 0, 1) := by decide +kernel
theorem dX5_ofTake_101 : decode cX5_ofTake 101 = .ok (.ireturn, 1) := by decide +kernel
theorem dX5_ofTake_102 : decode cX5_ofTake 102 = .ok (.aload_n 3, 1) := by decide +kernel
theorem dX5_ofTake_103 : decode cX5_ofTake 103 = .ok (.getfield 167, 3) := by decide +kernel
theorem dX5_ofTake_106 : decode cX5_ofTake 106 = .ok (.iconst (-1), 1) := by decide +kernel
theorem dX5_ofTake_107 : decode cX5_ofTake 107 = .ok (.if_icmp .eq 7, 3) := by decide +kernel
theorem dX5_ofTake_110 : decode cX5_ofTake 110 = .ok (.iconst 1, 1) := by decide +kernel
theorem dX5_ofTake_111 : decode cX5_ofTake 111 = .ok (.goto 4, 3) := by decide +kernel
theorem dX5_ofTake_114 : decode cX5_ofTake 114 = .ok (.iconst 0, 1) := by decide +kernel
theorem dX5_ofTake_115 : decode cX5_ofTake 115 = .ok (.ireturn, 1) := by decide +kernel
theorem dX5_ofTake_116 : decode cX5_ofTake 116 = .ok (.aload_n 3, 1) := by decide +kernel
theorem dX5_ofTake_117 : decode cX5_ofTake 117 = .ok (.getfield 238, 3) := by decide +kernel
theorem dX5_ofTake_120 : decode cX5_ofTake 120 = .ok (.ireturn, 1) := by decide +kernel
theorem dX5_ofTake_121 : decode cX5_ofTake 121 = .ok (.aload_n 3, 1) := by decide +kernel
theorem dX5_ofTake_122 : decode cX5_ofTake 122 = .ok (.getfield 241, 3) := by decide +kernel
theorem dX5_ofTake_125 : decode cX5_ofTake 125 = .ok (.ireturn, 1) := by decide +kernel
theorem dX5_ofTake_126 : decode cX5_ofTake 126 = .ok (.new 75, 3) := by decide +kernel
theorem dX5_ofTake_129 : decode cX5_ofTake 129 = .ok (.dup, 1) := by decide +kernel
theorem dX5_ofTake_130 : decode cX5_ofTake 130 = .ok (.ldc 244, 2) := by decide +kernel
theorem dX5_ofTake_132 : decode cX5_ofTake 132 = .ok (.invokespecial 79, 3) := by decide +kernel
theorem dX5_ofTake_135 : decode cX5_ofTake 135 = .ok (.athrow, 1) := by decide +kernel
theorem dX5_says_0 : decode cX5_says 0 = .ok (.aload_n 0, 1) := by decide +kernel
theorem dX5_says_1 : decode cX5_says 1 = .ok (.iload_n 1, 1) := by decide +kernel
theorem dX5_says_2 : decode cX5_says 2 = .ok (.invokevirtual 159, 3) := by decide +kernel
theorem dX5_says_5 : decode cX5_says 5 = .ok (.iload_n 2, 1) := by decide +kernel
theorem dX5_says_6 : decode cX5_says 6 = .ok (.ifCond .lt 8, 3) := by decide +kernel
theorem dX5_says_9 : decode cX5_says 9 = .ok (.iload_n 2, 1) := by decide +kernel
theorem dX5_says_10 : decode cX5_says 10 = .ok (.iconst 4, 1) := by decide +kernel
theorem dX5_says_11 : decode cX5_says 11 = .ok (.if_icmp .lt 13, 3) := by decide +kernel
theorem dX5_says_14 : decode cX5_says 14 = .ok (.new 246, 3) := by decide +kernel
theorem dX5_says_17 : decode cX5_says 17 = .ok (.dup, 1) := by decide +kernel
theorem dX5_says_18 : decode cX5_says 18 = .ok (.ldc 248, 2) := by decide +kernel
theorem dX5_says_20 : decode cX5_says 20 = .ok (.invokespecial 250, 3) := by decide +kernel
theorem dX5_says_23 : decode cX5_says 23 = .ok (.athrow, 1) := by decide +kernel
theorem dX5_says_24 : decode cX5_says 24 = .ok (.aload_n 0, 1) := by decide +kernel
theorem dX5_says_25 : decode cX5_says 25 = .ok (.getfield 32, 3) := by decide +kernel
theorem dX5_says_28 : decode cX5_says 28 = .ok (.iload_n 1, 1) := by decide +kernel
theorem dX5_says_29 : decode cX5_says 29 = .ok (.aaload, 1) := by decide +kernel
theorem dX5_says_30 : decode cX5_says 30 = .ok (.getfield 162, 3) := by decide +kernel
theorem dX5_says_33 : decode cX5_says 33 = .ok (.iload_n 2, 1) := by decide +kernel
theorem dX5_says_34 : decode cX5_says 34 = .ok (.iaload, 1) := by decide +kernel
theorem dX5_says_35 : decode cX5_says 35 = .ok (.ireturn, 1) := by decide +kernel
theorem dX5_state_0 : decode cX5_state 0 = .ok (.aload_n 0, 1) := by decide +kernel
theorem dX5_state_1 : decode cX5_state 1 = .ok (.iload_n 1, 1) := by decide +kernel
theorem dX5_state_2 : decode cX5_state 2 = .ok (.invokevirtual 126, 3) := by decide +kernel
theorem dX5_state_5 : decode cX5_state 5 = .ok (.aload_n 0, 1) := by decide +kernel
theorem dX5_state_6 : decode cX5_state 6 = .ok (.iload_n 2, 1) := by decide +kernel
theorem dX5_state_7 : decode cX5_state 7 = .ok (.invokevirtual 159, 3) := by decide +kernel
theorem dX5_state_10 : decode cX5_state 10 = .ok (.aload_n 0, 1) := by decide +kernel
theorem dX5_state_11 : decode cX5_state 11 = .ok (.getfield 39, 3) := by decide +kernel
theorem dX5_state_14 : decode cX5_state 14 = .ok (.iload_n 1, 1) := by decide +kernel
theorem dX5_state_15 : decode cX5_state 15 = .ok (.aaload, 1) := by decide +kernel
theorem dX5_state_16 : decode cX5_state 16 = .ok (.astore_n 3, 1) := by decide +kernel
theorem dX5_state_17 : decode cX5_state 17 = .ok (.aload_n 3, 1) := by decide +kernel
theorem dX5_state_18 : decode cX5_state 18 = .ok (.iload_n 2, 1) := by decide +kernel
theorem dX5_state_19 : decode cX5_state 19 = .ok (.invokevirtual 251, 3) := by decide +kernel
theorem dX5_state_22 : decode cX5_state 22 = .ok (.ifCond .ne 5, 3) := by decide +kernel
theorem dX5_state_25 : decode cX5_state 25 = .ok (.iconst 0, 1) := by decide +kernel
theorem dX5_state_26 : decode cX5_state 26 = .ok (.ireturn, 1) := by decide +kernel
theorem dX5_state_27 : decode cX5_state 27 = .ok (.aload_n 3, 1) := by decide +kernel
theorem dX5_state_28 : decode cX5_state 28 = .ok (.iload_n 2, 1) := by decide +kernel
theorem dX5_state_29 : decode cX5_state 29 = .ok (.invokevirtual 183, 3) := by decide +kernel
theorem dX5_state_32 : decode cX5_state 32 = .ok (.ifCond .ne 27, 3) := by decide +kernel
theorem dX5_state_35 : decode cX5_state 35 = .ok (.aload_n 3, 1) := by decide +kernel
theorem dX5_state_36 : decode cX5_state 36 = .ok (.getfield 254, 3) := by decide +kernel
theorem dX5_state_39 : decode cX5_state 39 = .ok (.iload_n 2, 1) := by decide +kernel
theorem dX5_state_40 : decode cX5_state 40 = .ok (.iaload, 1) := by decide +kernel
theorem dX5_state_41 : decode cX5_state 41 = .ok (.aload_n 0, 1) := by decide +kernel
theorem dX5_state_42 : decode cX5_state 42 = .ok (.getfield 32, 3) := by decide +kernel
theorem dX5_state_45 : decode cX5_state 45 = .ok (.iload_n 2, 1) := by decide +kernel
theorem dX5_state_46 : decode cX5_state 46 = .ok (.aaload, 1) := by decide +kernel
theorem dX5_state_47 : decode cX5_state 47 = .ok (.getfield 228, 3) := by decide +kernel
theorem dX5_state_50 : decode cX5_state 50 = .ok (.if_icmp .ne 7, 3) := by decide +kernel
theorem dX5_state_53 : decode cX5_state 53 = .ok (.iconst 1, 1) := by decide +kernel
theorem dX5_state_54 : decode cX5_state 54 = .ok (.goto 4, 3) := by decide +kernel
theorem dX5_state_57 : decode cX5_state 57 = .ok (.iconst 2, 1) := by decide +kernel
theorem dX5_state_58 : decode cX5_state 58 = .ok (.ireturn, 1) := by decide +kernel
theorem dX5_state_59 : decode cX5_state 59 = .ok (.aload_n 3, 1) := by decide +kernel
theorem dX5_state_60 : decode cX5_state 60 = .ok (.iload_n 2, 1) := by decide +kernel
theorem dX5_state_61 : decode cX5_state 61 = .ok (.aload_n 0, 1) := by decide +kernel
theorem dX5_state_62 : decode cX5_state 62 = .ok (.getfield 123, 3) := by decide +kernel
theorem dX5_state_65 : decode cX5_state 65 = .ok (.invokevirtual 257, 3) := by decide +kernel
theorem dX5_state_68 : decode cX5_state 68 = .ok (.ifCond .ne 5, 3) := by decide +kernel
theorem dX5_state_71 : decode cX5_state 71 = .ok (.iconst 3, 1) := by decide +kernel
theorem dX5_state_72 : decode cX5_state 72 = .ok (.ireturn, 1) := by decide +kernel
theorem dX5_state_73 : decode cX5_state 73 = .ok (.aload_n 0, 1) := by decide +kernel
theorem dX5_state_74 : decode cX5_state 74 = .ok (.iload_n 1, 1) := by decide +kernel
theorem dX5_state_75 : decode cX5_state 75 = .ok (.iload_n 2, 1) := by decide +kernel
theorem dX5_state_76 : decode cX5_state 76 = .ok (.invokevirtual 260, 3) := by decide +kernel
theorem dX5_state_79 : decode cX5_state 79 = .ok (.ifCond .eq 7, 3) := by decide +kernel
theorem dX5_state_82 : decode cX5_state 82 = .ok (.iconst 5, 1) := by decide +kernel
theorem dX5_state_83 : decode cX5_state 83 = .ok (.goto 4, 3) := by decide +kernel
theorem dX5_state_86 : decode cX5_state 86 = .ok (.iconst 4, 1) := by decide +kernel
theorem dX5_state_87 : decode cX5_state 87 = .ok (.ireturn, 1) := by decide +kernel
theorem dX5_tells_0 : decode cX5_tells 0 = .ok (.aload_n 0, 1) := by decide +kernel
theorem dX5_tells_1 : decode cX5_tells 1 = .ok (.iload_n 1, 1) := by decide +kernel
theorem dX5_tells_2 : decode cX5_tells 2 = .ok (.invokevirtual 126, 3) := by decide +kernel
theorem dX5_tells_5 : decode cX5_tells 5 = .ok (.aload_n 0, 1) := by decide +kernel
theorem dX5_tells_6 : decode cX5_tells 6 = .ok (.iload_n 2, 1) := by decide +kernel
theorem dX5_tells_7 : decode cX5_tells 7 = .ok (.iload_n 3, 1) := by decide +kernel
theorem dX5_tells_8 : decode cX5_tells 8 = .ok (.invokevirtual 91, 3) := by decide +kernel
theorem dX5_tells_11 : decode cX5_tells 11 = .ok (.aload_n 0, 1) := by decide +kernel
theorem dX5_tells_12 : decode cX5_tells 12 = .ok (.iload_n 1, 1) := by decide +kernel
theorem dX5_tells_13 : decode cX5_tells 13 = .ok (.iload_n 2, 1) := by decide +kernel
theorem dX5_tells_14 : decode cX5_tells 14 = .ok (.iload_n 3, 1) := by decide +kernel
theorem dX5_tells_15 : decode cX5_tells 15 = .ok (.invokevirtual 263, 3) := by decide +kernel
theorem dX5_tells_18 : decode cX5_tells 18 = .ok (.ireturn, 1) := by decide +kernel
theorem dX5_ofLine_0 : decode cX5_ofLine 0 = .ok (.aload_n 0, 1) := by decide +kernel
theorem dX5_ofLine_1 : decode cX5_ofLine 1 = .ok (.iload_n 1, 1) := by decide +kernel
theorem dX5_ofLine_2 : decode cX5_ofLine 2 = .ok (.invokevirtual 126, 3) := by decide +kernel
theorem dX5_ofLine_5 : decode cX5_ofLine 5 = .ok (.aload_n 0, 1) := by decide +kernel
theorem dX5_ofLine_6 : decode cX5_ofLine 6 = .ok (.getfield 39, 3) := by decide +kernel
theorem dX5_ofLine_9 : decode cX5_ofLine 9 = .ok (.iload_n 1, 1) := by decide +kernel
theorem dX5_ofLine_10 : decode cX5_ofLine 10 = .ok (.aaload, 1) := by decide +kernel
theorem dX5_ofLine_11 : decode cX5_ofLine 11 = .ok (.astore_n 3, 1) := by decide +kernel
theorem dX5_ofLine_12 : decode cX5_ofLine 12 = .ok (.iload_n 2, 1) := by decide +kernel
theorem dX5_ofLine_13 : decode cX5_ofLine 13 = .ok (.tableswitch 89 0 7 #[47, 52, 57, 62, 67, 72, 77, 83], 47) := by decide +kernel
theorem dX5_ofLine_60 : decode cX5_ofLine 60 = .ok (.aload_n 3, 1) := by decide +kernel
theorem dX5_ofLine_61 : decode cX5_ofLine 61 = .ok (.getfield 85, 3) := by decide +kernel
theorem dX5_ofLine_64 : decode cX5_ofLine 64 = .ok (.ireturn, 1) := by decide +kernel
theorem dX5_ofLine_65 : decode cX5_ofLine 65 = .ok (.aload_n 3, 1) := by decide +kernel
theorem dX5_ofLine_66 : decode cX5_ofLine 66 = .ok (.getfield 88, 3) := by decide +kernel
theorem dX5_ofLine_69 : decode cX5_ofLine 69 = .ok (.ireturn, 1) := by decide +kernel
theorem dX5_ofLine_70 : decode cX5_ofLine 70 = .ok (.aload_n 3, 1) := by decide +kernel
theorem dX5_ofLine_71 : decode cX5_ofLine 71 = .ok (.getfield 131, 3) := by decide +kernel
theorem dX5_ofLine_74 : decode cX5_ofLine 74 = .ok (.ireturn, 1) := by decide +kernel
theorem dX5_ofLine_75 : decode cX5_ofLine 75 = .ok (.aload_n 3, 1) := by decide +kernel
theorem dX5_ofLine_76 : decode cX5_ofLine 76 = .ok (.invokevirtual 267, 3) := by decide +kernel
theorem dX5_ofLine_79 : decode cX5_ofLine 79 = .ok (.ireturn, 1) := by decide +kernel
theorem dX5_ofLine_80 : decode cX5_ofLine 80 = .ok (.aload_n 3, 1) := by decide +kernel
theorem dX5_ofLine_81 : decode cX5_ofLine 81 = .ok (.invokevirtual 270, 3) := by decide +kernel
theorem dX5_ofLine_84 : decode cX5_ofLine 84 = .ok (.ireturn, 1) := by decide +kernel
theorem dX5_ofLine_85 : decode cX5_ofLine 85 = .ok (.aload_n 3, 1) := by decide +kernel
theorem dX5_ofLine_86 : decode cX5_ofLine 86 = .ok (.getfield 273, 3) := by decide +kernel
theorem dX5_ofLine_89 : decode cX5_ofLine 89 = .ok (.ireturn, 1) := by decide +kernel
theorem dX5_ofLine_90 : decode cX5_ofLine 90 = .ok (.aload_n 0, 1) := by decide +kernel
theorem dX5_ofLine_91 : decode cX5_ofLine 91 = .ok (.iload_n 1, 1) := by decide +kernel
theorem dX5_ofLine_92 : decode cX5_ofLine 92 = .ok (.invokevirtual 276, 3) := by decide +kernel
theorem dX5_ofLine_95 : decode cX5_ofLine 95 = .ok (.ireturn, 1) := by decide +kernel
theorem dX5_ofLine_96 : decode cX5_ofLine 96 = .ok (.aload_n 0, 1) := by decide +kernel
theorem dX5_ofLine_97 : decode cX5_ofLine 97 = .ok (.iload_n 1, 1) := by decide +kernel
theorem dX5_ofLine_98 : decode cX5_ofLine 98 = .ok (.invokevirtual 279, 3) := by decide +kernel
theorem dX5_ofLine_101 : decode cX5_ofLine 101 = .ok (.ireturn, 1) := by decide +kernel
theorem dX5_ofLine_102 : decode cX5_ofLine 102 = .ok (.new 75, 3) := by decide +kernel
theorem dX5_ofLine_105 : decode cX5_ofLine 105 = .ok (.dup, 1) := by decide +kernel
theorem dX5_ofLine_106 : decode cX5_ofLine 106 = .ok (.ldc_w 282, 3) := by decide +kernel
theorem dX5_ofLine_109 : decode cX5_ofLine 109 = .ok (.invokespecial 79, 3) := by decide +kernel
theorem dX5_ofLine_112 : decode cX5_ofLine 112 = .ok (.athrow, 1) := by decide +kernel
theorem dX5_many_0 : decode cX5_many 0 = .ok (.iload_n 1, 1) := by decide +kernel
theorem dX5_many_1 : decode cX5_many 1 = .ok (.tableswitch 117 0 10 #[59, 64, 72, 77, 82, 87, 92, 97, 102, 107, 112], 59) := by decide +kernel
theorem dX5_many_60 : decode cX5_many 60 = .ok (.aload_n 0, 1) := by decide +kernel
theorem dX5_many_61 : decode cX5_many 61 = .ok (.getfield 123, 3) := by decide +kernel
theorem dX5_many_64 : decode cX5_many 64 = .ok (.ireturn, 1) := by decide +kernel
theorem dX5_many_65 : decode cX5_many 65 = .ok (.aload_n 0, 1) := by decide +kernel
theorem dX5_many_66 : decode cX5_many 66 = .ok (.getfield 10, 3) := by decide +kernel
theorem dX5_many_69 : decode cX5_many 69 = .ok (.getfield 55, 3) := by decide +kernel
theorem dX5_many_72 : decode cX5_many 72 = .ok (.ireturn, 1) := by decide +kernel
theorem dX5_many_73 : decode cX5_many 73 = .ok (.aload_n 0, 1) := by decide +kernel
theorem dX5_many_74 : decode cX5_many 74 = .ok (.getfield 70, 3) := by decide +kernel
theorem dX5_many_77 : decode cX5_many 77 = .ok (.ireturn, 1) := by decide +kernel
theorem dX5_many_78 : decode cX5_many 78 = .ok (.aload_n 0, 1) := by decide +kernel
theorem dX5_many_79 : decode cX5_many 79 = .ok (.getfield 80, 3) := by decide +kernel
theorem dX5_many_82 : decode cX5_many 82 = .ok (.ireturn, 1) := by decide +kernel
theorem dX5_many_83 : decode cX5_many 83 = .ok (.aload_n 0, 1) := by decide +kernel
theorem dX5_many_84 : decode cX5_many 84 = .ok (.getfield 284, 3) := by decide +kernel
theorem dX5_many_87 : decode cX5_many 87 = .ok (.ireturn, 1) := by decide +kernel
theorem dX5_many_88 : decode cX5_many 88 = .ok (.aload_n 0, 1) := by decide +kernel
theorem dX5_many_89 : decode cX5_many 89 = .ok (.invokevirtual 287, 3) := by decide +kernel
theorem dX5_many_92 : decode cX5_many 92 = .ok (.ireturn, 1) := by decide +kernel
theorem dX5_many_93 : decode cX5_many 93 = .ok (.aload_n 0, 1) := by decide +kernel
theorem dX5_many_94 : decode cX5_many 94 = .ok (.invokevirtual 290, 3) := by decide +kernel
theorem dX5_many_97 : decode cX5_many 97 = .ok (.ireturn, 1) := by decide +kernel
theorem dX5_many_98 : decode cX5_many 98 = .ok (.aload_n 0, 1) := by decide +kernel
theorem dX5_many_99 : decode cX5_many 99 = .ok (.invokevirtual 293, 3) := by decide +kernel
theorem dX5_many_102 : decode cX5_many 102 = .ok (.ireturn, 1) := by decide +kernel
theorem dX5_many_103 : decode cX5_many 103 = .ok (.aload_n 0, 1) := by decide +kernel
theorem dX5_many_104 : decode cX5_many 104 = .ok (.invokevirtual 296, 3) := by decide +kernel
theorem dX5_many_107 : decode cX5_many 107 = .ok (.ireturn, 1) := by decide +kernel
theorem dX5_many_108 : decode cX5_many 108 = .ok (.aload_n 0, 1) := by decide +kernel
theorem dX5_many_109 : decode cX5_many 109 = .ok (.invokevirtual 299, 3) := by decide +kernel
theorem dX5_many_112 : decode cX5_many 112 = .ok (.ireturn, 1) := by decide +kernel
theorem dX5_many_113 : decode cX5_many 113 = .ok (.aload_n 0, 1) := by decide +kernel
theorem dX5_many_114 : decode cX5_many 114 = .ok (.invokevirtual 302, 3) := by decide +kernel
theorem dX5_many_117 : decode cX5_many 117 = .ok (.ireturn, 1) := by decide +kernel
theorem dX5_many_118 : decode cX5_many 118 = .ok (.new 75, 3) := by decide +kernel
theorem dX5_many_121 : decode cX5_many 121 = .ok (.dup, 1) := by decide +kernel
theorem dX5_many_122 : decode cX5_many 122 = .ok (.ldc_w 305, 3) := by decide +kernel
theorem dX5_many_125 : decode cX5_many 125 = .ok (.invokespecial 79, 3) := by decide +kernel
theorem dX5_many_128 : decode cX5_many 128 = .ok (.athrow, 1) := by decide +kernel
theorem dX5_meanDelay_0 : decode cX5_meanDelay 0 = .ok (.iconst 0, 1) := by decide +kernel
theorem dX5_meanDelay_1 : decode cX5_meanDelay 1 = .ok (.istore_n 1, 1) := by decide +kernel
theorem dX5_meanDelay_2 : decode cX5_meanDelay 2 = .ok (.iconst 0, 1) := by decide +kernel
theorem dX5_meanDelay_3 : decode cX5_meanDelay 3 = .ok (.istore_n 2, 1) := by decide +kernel
theorem dX5_meanDelay_4 : decode cX5_meanDelay 4 = .ok (.iconst 0, 1) := by decide +kernel
theorem dX5_meanDelay_5 : decode cX5_meanDelay 5 = .ok (.istore_n 3, 1) := by decide +kernel
theorem dX5_meanDelay_6 : decode cX5_meanDelay 6 = .ok (.iload_n 3, 1) := by decide +kernel
theorem dX5_meanDelay_7 : decode cX5_meanDelay 7 = .ok (.aload_n 0, 1) := by decide +kernel
theorem dX5_meanDelay_8 : decode cX5_meanDelay 8 = .ok (.getfield 80, 3) := by decide +kernel
theorem dX5_meanDelay_11 : decode cX5_meanDelay 11 = .ok (.if_icmp .ge 83, 3) := by decide +kernel
theorem dX5_meanDelay_14 : decode cX5_meanDelay 14 = .ok (.iconst 0, 1) := by decide +kernel
theorem dX5_meanDelay_15 : decode cX5_meanDelay 15 = .ok (.istore 4, 2) := by decide +kernel
theorem dX5_meanDelay_17 : decode cX5_meanDelay 17 = .ok (.iload 4, 2) := by decide +kernel
theorem dX5_meanDelay_19 : decode cX5_meanDelay 19 = .ok (.aload_n 0, 1) := by decide +kernel
theorem dX5_meanDelay_20 : decode cX5_meanDelay 20 = .ok (.getfield 284, 3) := by decide +kernel
theorem dX5_meanDelay_23 : decode cX5_meanDelay 23 = .ok (.if_icmp .ge 65, 3) := by decide +kernel
theorem dX5_meanDelay_26 : decode cX5_meanDelay 26 = .ok (.aload_n 0, 1) := by decide +kernel
theorem dX5_meanDelay_27 : decode cX5_meanDelay 27 = .ok (.getfield 39, 3) := by decide +kernel
theorem dX5_meanDelay_30 : decode cX5_meanDelay 30 = .ok (.iload_n 3, 1) := by decide +kernel
theorem dX5_meanDelay_31 : decode cX5_meanDelay 31 = .ok (.aaload, 1) := by decide +kernel
theorem dX5_meanDelay_32 : decode cX5_meanDelay 32 = .ok (.iload 4, 2) := by decide +kernel
theorem dX5_meanDelay_34 : decode cX5_meanDelay 34 = .ok (.invokevirtual 183, 3) := by decide +kernel
theorem dX5_meanDelay_37 : decode cX5_meanDelay 37 = .ok (.ifCond .eq 45, 3) := by decide +kernel
theorem dX5_meanDelay_40 : decode cX5_meanDelay 40 = .ok (.iload_n 1, 1) := by decide +kernel
theorem dX5_meanDelay_41 : decode cX5_meanDelay 41 = .ok (.aload_n 0, 1) := by decide +kernel
theorem dX5_meanDelay_42 : decode cX5_meanDelay 42 = .ok (.getfield 39, 3) := by decide +kernel
theorem dX5_meanDelay_45 : decode cX5_meanDelay 45 = .ok (.iload_n 3, 1) := by decide +kernel
theorem dX5_meanDelay_46 : decode cX5_meanDelay 46 = .ok (.aaload, 1) := by decide +kernel
theorem dX5_meanDelay_47 : decode cX5_meanDelay 47 = .ok (.getfield 307, 3) := by decide +kernel
theorem dX5_meanDelay_50 : decode cX5_meanDelay 50 = .ok (.iload 4, 2) := by decide +kernel
theorem dX5_meanDelay_52 : decode cX5_meanDelay 52 = .ok (.iaload, 1) := by decide +kernel
theorem dX5_meanDelay_53 : decode cX5_meanDelay 53 = .ok (.aload_n 0, 1) := by decide +kernel
theorem dX5_meanDelay_54 : decode cX5_meanDelay 54 = .ok (.getfield 32, 3) := by decide +kernel
theorem dX5_meanDelay_57 : decode cX5_meanDelay 57 = .ok (.iload 4, 2) := by decide +kernel
theorem dX5_meanDelay_59 : decode cX5_meanDelay 59 = .ok (.aaload, 1) := by decide +kernel
theorem dX5_meanDelay_60 : decode cX5_meanDelay 60 = .ok (.getfield 241, 3) := by decide +kernel
theorem dX5_meanDelay_63 : decode cX5_meanDelay 63 = .ok (.aload_n 0, 1) := by decide +kernel
theorem dX5_meanDelay_64 : decode cX5_meanDelay 64 = .ok (.getfield 32, 3) := by decide +kernel
theorem dX5_meanDelay_67 : decode cX5_meanDelay 67 = .ok (.iload 4, 2) := by decide +kernel
theorem dX5_meanDelay_69 : decode cX5_meanDelay 69 = .ok (.aaload, 1) := by decide +kernel
theorem dX5_meanDelay_70 : decode cX5_meanDelay 70 = .ok (.getfield 231, 3) := by decide +kernel
theorem dX5_meanDelay_73 : decode cX5_meanDelay 73 = .ok (.invokestatic 310, 3) := by decide +kernel
theorem dX5_meanDelay_76 : decode cX5_meanDelay 76 = .ok (.isub, 1) := by decide +kernel
theorem dX5_meanDelay_77 : decode cX5_meanDelay 77 = .ok (.iadd, 1) := by decide +kernel
theorem dX5_meanDelay_78 : decode cX5_meanDelay 78 = .ok (.istore_n 1, 1) := by decide +kernel
theorem dX5_meanDelay_79 : decode cX5_meanDelay 79 = .ok (.iinc 2 1, 3) := by decide +kernel
theorem dX5_meanDelay_82 : decode cX5_meanDelay 82 = .ok (.iinc 4 1, 3) := by decide +kernel
theorem dX5_meanDelay_85 : decode cX5_meanDelay 85 = .ok (.goto (-68), 3) := by decide +kernel
theorem dX5_meanDelay_88 : decode cX5_meanDelay 88 = .ok (.iinc 3 1, 3) := by decide +kernel
theorem dX5_meanDelay_91 : decode cX5_meanDelay 91 = .ok (.goto (-85), 3) := by decide +kernel
theorem dX5_meanDelay_94 : decode cX5_meanDelay 94 = .ok (.iload_n 2, 1) := by decide +kernel
theorem dX5_meanDelay_95 : decode cX5_meanDelay 95 = .ok (.ifCond .ne 7, 3) := by decide +kernel
theorem dX5_meanDelay_98 : decode cX5_meanDelay 98 = .ok (.dconst 0, 1) := by decide +kernel
theorem dX5_meanDelay_99 : decode cX5_meanDelay 99 = .ok (.goto 8, 3) := by decide +kernel
theorem dX5_meanDelay_102 : decode cX5_meanDelay 102 = .ok (.iload_n 1, 1) := by decide +kernel
theorem dX5_meanDelay_103 : decode cX5_meanDelay 103 = .ok (.i2d, 1) := by decide +kernel
theorem dX5_meanDelay_104 : decode cX5_meanDelay 104 = .ok (.iload_n 2, 1) := by decide +kernel
theorem dX5_meanDelay_105 : decode cX5_meanDelay 105 = .ok (.i2d, 1) := by decide +kernel
theorem dX5_meanDelay_106 : decode cX5_meanDelay 106 = .ok (.ddiv, 1) := by decide +kernel
theorem dX5_meanDelay_107 : decode cX5_meanDelay 107 = .ok (.dreturn, 1) := by decide +kernel
theorem dX5_arrives_0 : decode cX5_arrives 0 = .ok (.aload_n 0, 1) := by decide +kernel
theorem dX5_arrives_1 : decode cX5_arrives 1 = .ok (.iload_n 1, 1) := by decide +kernel
theorem dX5_arrives_2 : decode cX5_arrives 2 = .ok (.invokevirtual 126, 3) := by decide +kernel
theorem dX5_arrives_5 : decode cX5_arrives 5 = .ok (.aload_n 0, 1) := by decide +kernel
theorem dX5_arrives_6 : decode cX5_arrives 6 = .ok (.iload_n 2, 1) := by decide +kernel
theorem dX5_arrives_7 : decode cX5_arrives 7 = .ok (.invokevirtual 159, 3) := by decide +kernel
theorem dX5_arrives_10 : decode cX5_arrives 10 = .ok (.aload_n 0, 1) := by decide +kernel
theorem dX5_arrives_11 : decode cX5_arrives 11 = .ok (.getfield 39, 3) := by decide +kernel
theorem dX5_arrives_14 : decode cX5_arrives 14 = .ok (.iload_n 1, 1) := by decide +kernel
theorem dX5_arrives_15 : decode cX5_arrives 15 = .ok (.aaload, 1) := by decide +kernel
theorem dX5_arrives_16 : decode cX5_arrives 16 = .ok (.astore_n 3, 1) := by decide +kernel
theorem dX5_arrives_17 : decode cX5_arrives 17 = .ok (.aload_n 3, 1) := by decide +kernel
theorem dX5_arrives_18 : decode cX5_arrives 18 = .ok (.iload_n 2, 1) := by decide +kernel
theorem dX5_arrives_19 : decode cX5_arrives 19 = .ok (.invokevirtual 251, 3) := by decide +kernel
theorem dX5_arrives_22 : decode cX5_arrives 22 = .ok (.ifCond .ne 5, 3) := by decide +kernel
theorem dX5_arrives_25 : decode cX5_arrives 25 = .ok (.iconst (-1), 1) := by decide +kernel
theorem dX5_arrives_26 : decode cX5_arrives 26 = .ok (.ireturn, 1) := by decide +kernel
theorem dX5_arrives_27 : decode cX5_arrives 27 = .ok (.aload_n 3, 1) := by decide +kernel
theorem dX5_arrives_28 : decode cX5_arrives 28 = .ok (.iload_n 2, 1) := by decide +kernel
theorem dX5_arrives_29 : decode cX5_arrives 29 = .ok (.invokevirtual 183, 3) := by decide +kernel
theorem dX5_arrives_32 : decode cX5_arrives 32 = .ok (.ifCond .eq 24, 3) := by decide +kernel
theorem dX5_arrives_35 : decode cX5_arrives 35 = .ok (.iconst 0, 1) := by decide +kernel
theorem dX5_arrives_36 : decode cX5_arrives 36 = .ok (.aload_n 3, 1) := by decide +kernel
theorem dX5_arrives_37 : decode cX5_arrives 37 = .ok (.getfield 307, 3) := by decide +kernel
theorem dX5_arrives_40 : decode cX5_arrives 40 = .ok (.iload_n 2, 1) := by decide +kernel
theorem dX5_arrives_41 : decode cX5_arrives 41 = .ok (.iaload, 1) := by decide +kernel
theorem dX5_arrives_42 : decode cX5_arrives 42 = .ok (.aload_n 3, 1) := by decide +kernel
theorem dX5_arrives_43 : decode cX5_arrives 43 = .ok (.getfield 88, 3) := by decide +kernel
theorem dX5_arrives_46 : decode cX5_arrives 46 = .ok (.iadd, 1) := by decide +kernel
theorem dX5_arrives_47 : decode cX5_arrives 47 = .ok (.aload_n 0, 1) := by decide +kernel
theorem dX5_arrives_48 : decode cX5_arrives 48 = .ok (.getfield 123, 3) := by decide +kernel
theorem dX5_arrives_51 : decode cX5_arrives 51 = .ok (.isub, 1) := by decide +kernel
theorem dX5_arrives_52 : decode cX5_arrives 52 = .ok (.invokestatic 310, 3) := by decide +kernel
theorem dX5_arrives_55 : decode cX5_arrives 55 = .ok (.ireturn, 1) := by decide +kernel
theorem dX5_arrives_56 : decode cX5_arrives 56 = .ok (.aload_n 0, 1) := by decide +kernel
theorem dX5_arrives_57 : decode cX5_arrives 57 = .ok (.getfield 44, 3) := by decide +kernel
theorem dX5_arrives_60 : decode cX5_arrives 60 = .ok (.aload_n 3, 1) := by decide +kernel
theorem dX5_arrives_61 : decode cX5_arrives 61 = .ok (.invokevirtual 315, 3) := by decide +kernel
theorem dX5_arrives_64 : decode cX5_arrives 64 = .ok (.aload_n 0, 1) := by decide +kernel
theorem dX5_arrives_65 : decode cX5_arrives 65 = .ok (.getfield 44, 3) := by decide +kernel
theorem dX5_arrives_68 : decode cX5_arrives 68 = .ok (.iload_n 2, 1) := by decide +kernel
theorem dX5_arrives_69 : decode cX5_arrives 69 = .ok (.aload_n 0, 1) := by decide +kernel
theorem dX5_arrives_70 : decode cX5_arrives 70 = .ok (.getfield 123, 3) := by decide +kernel
theorem dX5_arrives_73 : decode cX5_arrives 73 = .ok (.invokevirtual 319, 3) := by decide +kernel
theorem dX5_arrives_76 : decode cX5_arrives 76 = .ok (.ireturn, 1) := by decide +kernel
theorem dX5_wouldArrive_0 : decode cX5_wouldArrive 0 = .ok (.aload_n 0, 1) := by decide +kernel
theorem dX5_wouldArrive_1 : decode cX5_wouldArrive 1 = .ok (.iload_n 1, 1) := by decide +kernel
theorem dX5_wouldArrive_2 : decode cX5_wouldArrive 2 = .ok (.invokevirtual 126, 3) := by decide +kernel
theorem dX5_wouldArrive_5 : decode cX5_wouldArrive 5 = .ok (.iload_n 2, 1) := by decide +kernel
theorem dX5_wouldArrive_6 : decode cX5_wouldArrive 6 = .ok (.ifCond .lt 20, 3) := by decide +kernel
theorem dX5_wouldArrive_9 : decode cX5_wouldArrive 9 = .ok (.iload_n 2, 1) := by decide +kernel
theorem dX5_wouldArrive_10 : decode cX5_wouldArrive 10 = .ok (.iconst 4, 1) := by decide +kernel
theorem dX5_wouldArrive_11 : decode cX5_wouldArrive 11 = .ok (.if_icmp .gt 15, 3) := by decide +kernel
theorem dX5_wouldArrive_14 : decode cX5_wouldArrive 14 = .ok (.iload_n 3, 1) := by decide +kernel
theorem dX5_wouldArrive_15 : decode cX5_wouldArrive 15 = .ok (.iconst 1, 1) := by decide +kernel
theorem dX5_wouldArrive_16 : decode cX5_wouldArrive 16 = .ok (.if_icmp .lt 10, 3) := by decide +kernel
theorem dX5_wouldArrive_19 : decode cX5_wouldArrive 19 = .ok (.iload_n 3, 1) := by decide +kernel
theorem dX5_wouldArrive_20 : decode cX5_wouldArrive 20 = .ok (.sipush 200, 3) := by decide +kernel
theorem dX5_wouldArrive_23 : decode cX5_wouldArrive 23 = .ok (.if_icmp .le 14, 3) := by decide +kernel
theorem dX5_wouldArrive_26 : decode cX5_wouldArrive 26 = .ok (.new 75, 3) := by decide +kernel
theorem dX5_wouldArrive_29 : decode cX5_wouldArrive 29 = .ok (.dup, 1) := by decide +kernel
theorem dX5_wouldArrive_30 : decode cX5_wouldArrive 30 = .ok (.ldc_w 322, 3) := by decide +kernel
theorem dX5_wouldArrive_33 : decode cX5_wouldArrive 33 = .ok (.invokespecial 79, 3) := by decide +kernel
theorem dX5_wouldArrive_36 : decode cX5_wouldArrive 36 = .ok (.athrow, 1) := by decide +kernel
theorem dX5_wouldArrive_37 : decode cX5_wouldArrive 37 = .ok (.aload_n 0, 1) := by decide +kernel
theorem dX5_wouldArrive_38 : decode cX5_wouldArrive 38 = .ok (.getfield 44, 3) := by decide +kernel
theorem dX5_wouldArrive_41 : decode cX5_wouldArrive 41 = .ok (.aload_n 0, 1) := by decide +kernel
theorem dX5_wouldArrive_42 : decode cX5_wouldArrive 42 = .ok (.getfield 39, 3) := by decide +kernel
theorem dX5_wouldArrive_45 : decode cX5_wouldArrive 45 = .ok (.iload_n 1, 1) := by decide +kernel
theorem dX5_wouldArrive_46 : decode cX5_wouldArrive 46 = .ok (.aaload, 1) := by decide +kernel
theorem dX5_wouldArrive_47 : decode cX5_wouldArrive 47 = .ok (.invokevirtual 315, 3) := by decide +kernel
theorem dX5_wouldArrive_50 : decode cX5_wouldArrive 50 = .ok (.aload_n 0, 1) := by decide +kernel
theorem dX5_wouldArrive_51 : decode cX5_wouldArrive 51 = .ok (.getfield 44, 3) := by decide +kernel
theorem dX5_wouldArrive_54 : decode cX5_wouldArrive 54 = .ok (.aload_n 0, 1) := by decide +kernel
theorem dX5_wouldArrive_55 : decode cX5_wouldArrive 55 = .ok (.getfield 284, 3) := by decide +kernel
theorem dX5_wouldArrive_58 : decode cX5_wouldArrive 58 = .ok (.iload_n 2, 1) := by decide +kernel
theorem dX5_wouldArrive_59 : decode cX5_wouldArrive 59 = .ok (.iload_n 3, 1) := by decide +kernel
theorem dX5_wouldArrive_60 : decode cX5_wouldArrive 60 = .ok (.iconst 0, 1) := by decide +kernel
theorem dX5_wouldArrive_61 : decode cX5_wouldArrive 61 = .ok (.invokevirtual 324, 3) := by decide +kernel
theorem dX5_wouldArrive_64 : decode cX5_wouldArrive 64 = .ok (.aload_n 0, 1) := by decide +kernel
theorem dX5_wouldArrive_65 : decode cX5_wouldArrive 65 = .ok (.getfield 44, 3) := by decide +kernel
theorem dX5_wouldArrive_68 : decode cX5_wouldArrive 68 = .ok (.aload_n 0, 1) := by decide +kernel
theorem dX5_wouldArrive_69 : decode cX5_wouldArrive 69 = .ok (.getfield 284, 3) := by decide +kernel
theorem dX5_wouldArrive_72 : decode cX5_wouldArrive 72 = .ok (.aload_n 0, 1) := by decide +kernel
theorem dX5_wouldArrive_73 : decode cX5_wouldArrive 73 = .ok (.getfield 123, 3) := by decide +kernel
theorem dX5_wouldArrive_76 : decode cX5_wouldArrive 76 = .ok (.invokevirtual 319, 3) := by decide +kernel
theorem dX5_wouldArrive_79 : decode cX5_wouldArrive 79 = .ok (.ireturn, 1) := by decide +kernel
theorem dX5_needs_0 : decode cX5_needs 0 = .ok (.aload_n 0, 1) := by decide +kernel
theorem dX5_needs_1 : decode cX5_needs 1 = .ok (.iload_n 1, 1) := by decide +kernel
theorem dX5_needs_2 : decode cX5_needs 2 = .ok (.iload_n 2, 1) := by decide +kernel
theorem dX5_needs_3 : decode cX5_needs 3 = .ok (.invokevirtual 91, 3) := by decide +kernel
theorem dX5_needs_6 : decode cX5_needs 6 = .ok (.iload_n 3, 1) := by decide +kernel
theorem dX5_needs_7 : decode cX5_needs 7 = .ok (.invokestatic 95, 3) := by decide +kernel
theorem dX5_needs_10 : decode cX5_needs 10 = .ok (.iload 4, 2) := by decide +kernel
theorem dX5_needs_12 : decode cX5_needs 12 = .ok (.invokestatic 52, 3) := by decide +kernel
theorem dX5_needs_15 : decode cX5_needs 15 = .ok (.aload_n 0, 1) := by decide +kernel
theorem dX5_needs_16 : decode cX5_needs 16 = .ok (.iload_n 1, 1) := by decide +kernel
theorem dX5_needs_17 : decode cX5_needs 17 = .ok (.iload_n 2, 1) := by decide +kernel
theorem dX5_needs_18 : decode cX5_needs 18 = .ok (.invokevirtual 98, 3) := by decide +kernel
theorem dX5_needs_21 : decode cX5_needs 21 = .ok (.astore 5, 2) := by decide +kernel
theorem dX5_needs_23 : decode cX5_needs 23 = .ok (.aload 5, 2) := by decide +kernel
theorem dX5_needs_25 : decode cX5_needs 25 = .ok (.aload_n 0, 1) := by decide +kernel
theorem dX5_needs_26 : decode cX5_needs 26 = .ok (.getfield 10, 3) := by decide +kernel
theorem dX5_needs_29 : decode cX5_needs 29 = .ok (.aload_n 0, 1) := by decide +kernel
theorem dX5_needs_30 : decode cX5_needs 30 = .ok (.getfield 19, 3) := by decide +kernel
theorem dX5_needs_33 : decode cX5_needs 33 = .ok (.iconst 1, 1) := by decide +kernel
theorem dX5_needs_34 : decode cX5_needs 34 = .ok (.iload_n 3, 1) := by decide +kernel
theorem dX5_needs_35 : decode cX5_needs 35 = .ok (.invokevirtual 328, 3) := by decide +kernel
theorem dX5_needs_38 : decode cX5_needs 38 = .ok (.istore 6, 2) := by decide +kernel
theorem dX5_needs_40 : decode cX5_needs 40 = .ok (.iconst 0, 1) := by decide +kernel
theorem dX5_needs_41 : decode cX5_needs 41 = .ok (.istore 7, 2) := by decide +kernel
theorem dX5_needs_43 : decode cX5_needs 43 = .ok (.iload 6, 2) := by decide +kernel
theorem dX5_needs_45 : decode cX5_needs 45 = .ok (.iconst (-1), 1) := by decide +kernel
theorem dX5_needs_46 : decode cX5_needs 46 = .ok (.if_icmp .eq 30, 3) := by decide +kernel
theorem dX5_needs_49 : decode cX5_needs 49 = .ok (.aload_n 0, 1) := by decide +kernel
theorem dX5_needs_50 : decode cX5_needs 50 = .ok (.getfield 19, 3) := by decide +kernel
theorem dX5_needs_53 : decode cX5_needs 53 = .ok (.aload_n 0, 1) := by decide +kernel
theorem dX5_needs_54 : decode cX5_needs 54 = .ok (.getfield 10, 3) := by decide +kernel
theorem dX5_needs_57 : decode cX5_needs 57 = .ok (.aload 5, 2) := by decide +kernel
theorem dX5_needs_59 : decode cX5_needs 59 = .ok (.getfield 102, 3) := by decide +kernel
theorem dX5_needs_62 : decode cX5_needs 62 = .ok (.iload 6, 2) := by decide +kernel
theorem dX5_needs_64 : decode cX5_needs 64 = .ok (.invokevirtual 110, 3) := by decide +kernel
theorem dX5_needs_67 : decode cX5_needs 67 = .ok (.aload_n 0, 1) := by decide +kernel
theorem dX5_needs_68 : decode cX5_needs 68 = .ok (.getfield 19, 3) := by decide +kernel
theorem dX5_needs_71 : decode cX5_needs 71 = .ok (.getfield 222, 3) := by decide +kernel
theorem dX5_needs_74 : decode cX5_needs 74 = .ok (.istore 7, 2) := by decide +kernel
theorem dX5_needs_76 : decode cX5_needs 76 = .ok (.aload_n 0, 1) := by decide +kernel
theorem dX5_needs_77 : decode cX5_needs 77 = .ok (.getfield 19, 3) := by decide +kernel
theorem dX5_needs_80 : decode cX5_needs 80 = .ok (.aload_n 0, 1) := by decide +kernel
theorem dX5_needs_81 : decode cX5_needs 81 = .ok (.getfield 10, 3) := by decide +kernel
theorem dX5_needs_84 : decode cX5_needs 84 = .ok (.aload 5, 2) := by decide +kernel
theorem dX5_needs_86 : decode cX5_needs 86 = .ok (.getfield 102, 3) := by decide +kernel
theorem dX5_needs_89 : decode cX5_needs 89 = .ok (.iload_n 3, 1) := by decide +kernel
theorem dX5_needs_90 : decode cX5_needs 90 = .ok (.invokevirtual 110, 3) := by decide +kernel
theorem dX5_needs_93 : decode cX5_needs 93 = .ok (.iconst 0, 1) := by decide +kernel
theorem dX5_needs_94 : decode cX5_needs 94 = .ok (.istore 8, 2) := by decide +kernel
theorem dX5_needs_96 : decode cX5_needs 96 = .ok (.iload 8, 2) := by decide +kernel
theorem dX5_needs_98 : decode cX5_needs 98 = .ok (.bipush 10, 2) := by decide +kernel
theorem dX5_needs_100 : decode cX5_needs 100 = .ok (.if_icmp .gt 73, 3) := by decide +kernel
theorem dX5_needs_103 : decode cX5_needs 103 = .ok (.aload_n 0, 1) := by decide +kernel
theorem dX5_needs_104 : decode cX5_needs 104 = .ok (.getfield 19, 3) := by decide +kernel
theorem dX5_needs_107 : decode cX5_needs 107 = .ok (.getfield 222, 3) := by decide +kernel
theorem dX5_needs_110 : decode cX5_needs 110 = .ok (.iload 7, 2) := by decide +kernel
theorem dX5_needs_112 : decode cX5_needs 112 = .ok (.if_icmp .gt 21, 3) := by decide +kernel
theorem dX5_needs_115 : decode cX5_needs 115 = .ok (.aload_n 0, 1) := by decide +kernel
theorem dX5_needs_116 : decode cX5_needs 116 = .ok (.getfield 19, 3) := by decide +kernel
theorem dX5_needs_119 : decode cX5_needs 119 = .ok (.getfield 222, 3) := by decide +kernel
theorem dX5_needs_122 : decode cX5_needs 122 = .ok (.iload 7, 2) := by decide +kernel
theorem dX5_needs_124 : decode cX5_needs 124 = .ok (.if_icmp .ne 13, 3) := by decide +kernel
theorem dX5_needs_127 : decode cX5_needs 127 = .ok (.iload_n 3, 1) := by decide +kernel
theorem dX5_needs_128 : decode cX5_needs 128 = .ok (.iload 6, 2) := by decide +kernel
theorem dX5_needs_130 : decode cX5_needs 130 = .ok (.if_icmp .ge 7, 3) := by decide +kernel
theorem dX5_needs_133 : decode cX5_needs 133 = .ok (.iconst 1, 1) := by decide +kernel
theorem dX5_needs_134 : decode cX5_needs 134 = .ok (.goto 4, 3) := by decide +kernel
theorem dX5_needs_137 : decode cX5_needs 137 = .ok (.iconst 0, 1) := by decide +kernel
theorem dX5_needs_138 : decode cX5_needs 138 = .ok (.istore 9, 2) := by decide +kernel
theorem dX5_needs_140 : decode cX5_needs 140 = .ok (.iload 9, 2) := by decide +kernel
theorem dX5_needs_142 : decode cX5_needs 142 = .ok (.ifCond .eq 16, 3) := by decide +kernel
theorem dX5_needs_145 : decode cX5_needs 145 = .ok (.aload_n 0, 1) := by decide +kernel
theorem dX5_needs_146 : decode cX5_needs 146 = .ok (.getfield 19, 3) := by decide +kernel
theorem dX5_needs_149 : decode cX5_needs 149 = .ok (.invokevirtual 114, 3) := by decide +kernel
theorem dX5_needs_152 : decode cX5_needs 152 = .ok (.ifCond .le 6, 3) := by decide +kernel
theorem dX5_needs_155 : decode cX5_needs 155 = .ok (.iload 8, 2) := by decide +kernel
theorem dX5_needs_157 : decode cX5_needs 157 = .ok (.ireturn, 1) := by decide +kernel
theorem dX5_needs_158 : decode cX5_needs 158 = .ok (.aload_n 0, 1) := by decide +kernel
theorem dX5_needs_159 : decode cX5_needs 159 = .ok (.getfield 19, 3) := by decide +kernel
theorem dX5_needs_162 : decode cX5_needs 162 = .ok (.iload 4, 2) := by decide +kernel
theorem dX5_needs_164 : decode cX5_needs 164 = .ok (.invokevirtual 332, 3) := by decide +kernel
theorem dX5_needs_167 : decode cX5_needs 167 = .ok (.iinc 8 1, 3) := by decide +kernel
theorem dX5_needs_170 : decode cX5_needs 170 = .ok (.goto (-74), 3) := by decide +kernel
theorem dX5_needs_173 : decode cX5_needs 173 = .ok (.iconst (-1), 1) := by decide +kernel
theorem dX5_needs_174 : decode cX5_needs 174 = .ok (.ireturn, 1) := by decide +kernel
theorem dX5_lead_0 : decode cX5_lead 0 = .ok (.aload_n 0, 1) := by decide +kernel
theorem dX5_lead_1 : decode cX5_lead 1 = .ok (.iload_n 1, 1) := by decide +kernel
theorem dX5_lead_2 : decode cX5_lead 2 = .ok (.invokevirtual 134, 3) := by decide +kernel
theorem dX5_lead_5 : decode cX5_lead 5 = .ok (.iload_n 2, 1) := by decide +kernel
theorem dX5_lead_6 : decode cX5_lead 6 = .ok (.ifCond .lt 9, 3) := by decide +kernel
theorem dX5_lead_9 : decode cX5_lead 9 = .ok (.iload_n 2, 1) := by decide +kernel
theorem dX5_lead_10 : decode cX5_lead 10 = .ok (.bipush 99, 2) := by decide +kernel
theorem dX5_lead_12 : decode cX5_lead 12 = .ok (.if_icmp .le 14, 3) := by decide +kernel
theorem dX5_lead_15 : decode cX5_lead 15 = .ok (.new 75, 3) := by decide +kernel
theorem dX5_lead_18 : decode cX5_lead 18 = .ok (.dup, 1) := by decide +kernel
theorem dX5_lead_19 : decode cX5_lead 19 = .ok (.ldc_w 335, 3) := by decide +kernel
theorem dX5_lead_22 : decode cX5_lead 22 = .ok (.invokespecial 79, 3) := by decide +kernel
theorem dX5_lead_25 : decode cX5_lead 25 = .ok (.athrow, 1) := by decide +kernel
theorem dX5_lead_26 : decode cX5_lead 26 = .ok (.iconst 0, 1) := by decide +kernel
theorem dX5_lead_27 : decode cX5_lead 27 = .ok (.istore_n 3, 1) := by decide +kernel
theorem dX5_lead_28 : decode cX5_lead 28 = .ok (.iconst 0, 1) := by decide +kernel
theorem dX5_lead_29 : decode cX5_lead 29 = .ok (.istore 4, 2) := by decide +kernel
theorem dX5_lead_31 : decode cX5_lead 31 = .ok (.iconst 1, 1) := by decide +kernel
theorem dX5_lead_32 : decode cX5_lead 32 = .ok (.istore 5, 2) := by decide +kernel
theorem dX5_lead_34 : decode cX5_lead 34 = .ok (.iload 5, 2) := by decide +kernel
theorem dX5_lead_36 : decode cX5_lead 36 = .ok (.bipush 15, 2) := by decide +kernel
theorem dX5_lead_38 : decode cX5_lead 38 = .ok (.if_icmp .gt 53, 3) := by decide +kernel
theorem dX5_lead_41 : decode cX5_lead 41 = .ok (.aload_n 0, 1) := by decide +kernel
theorem dX5_lead_42 : decode cX5_lead 42 = .ok (.iload_n 1, 1) := by decide +kernel
theorem dX5_lead_43 : decode cX5_lead 43 = .ok (.iload 5, 2) := by decide +kernel
theorem dX5_lead_45 : decode cX5_lead 45 = .ok (.iconst 0, 1) := by decide +kernel
theorem dX5_lead_46 : decode cX5_lead 46 = .ok (.invokevirtual 142, 3) := by decide +kernel
theorem dX5_lead_49 : decode cX5_lead 49 = .ok (.ifCond .eq 36, 3) := by decide +kernel
theorem dX5_lead_52 : decode cX5_lead 52 = .ok (.iconst 3, 1) := by decide +kernel
theorem dX5_lead_53 : decode cX5_lead 53 = .ok (.iload 5, 2) := by decide +kernel
theorem dX5_lead_55 : decode cX5_lead 55 = .ok (.invokestatic 337, 3) := by decide +kernel
theorem dX5_lead_58 : decode cX5_lead 58 = .ok (.iload_n 2, 1) := by decide +kernel
theorem dX5_lead_59 : decode cX5_lead 59 = .ok (.if_icmp .gt 26, 3) := by decide +kernel
theorem dX5_lead_62 : decode cX5_lead 62 = .ok (.aload_n 0, 1) := by decide +kernel
theorem dX5_lead_63 : decode cX5_lead 63 = .ok (.iload_n 1, 1) := by decide +kernel
theorem dX5_lead_64 : decode cX5_lead 64 = .ok (.iload 5, 2) := by decide +kernel
theorem dX5_lead_66 : decode cX5_lead 66 = .ok (.invokevirtual 340, 3) := by decide +kernel
theorem dX5_lead_69 : decode cX5_lead 69 = .ok (.istore 6, 2) := by decide +kernel
theorem dX5_lead_71 : decode cX5_lead 71 = .ok (.iload 6, 2) := by decide +kernel
theorem dX5_lead_73 : decode cX5_lead 73 = .ok (.iload 4, 2) := by decide +kernel
theorem dX5_lead_75 : decode cX5_lead 75 = .ok (.if_icmp .le 10, 3) := by decide +kernel
theorem dX5_lead_78 : decode cX5_lead 78 = .ok (.iload 5, 2) := by decide +kernel
theorem dX5_lead_80 : decode cX5_lead 80 = .ok (.istore_n 3, 1) := by decide +kernel
theorem dX5_lead_81 : decode cX5_lead 81 = .ok (.iload 6, 2) := by decide +kernel
theorem dX5_lead_83 : decode cX5_lead 83 = .ok (.istore 4, 2) := by decide +kernel
theorem dX5_lead_85 : decode cX5_lead 85 = .ok (.iinc 5 1, 3) := by decide +kernel
theorem dX5_lead_88 : decode cX5_lead 88 = .ok (.goto (-54), 3) := by decide +kernel
theorem dX5_lead_91 : decode cX5_lead 91 = .ok (.iload_n 3, 1) := by decide +kernel
theorem dX5_lead_92 : decode cX5_lead 92 = .ok (.ireturn, 1) := by decide +kernel
theorem dX5_digest_0 : decode cX5_digest 0 = .ok (.ldc2_w 343, 3) := by decide +kernel
theorem dX5_digest_3 : decode cX5_digest 3 = .ok (.lstore_n 1, 1) := by decide +kernel
theorem dX5_digest_4 : decode cX5_digest 4 = .ok (.iconst 0, 1) := by decide +kernel
theorem dX5_digest_5 : decode cX5_digest 5 = .ok (.istore_n 3, 1) := by decide +kernel
theorem dX5_digest_6 : decode cX5_digest 6 = .ok (.iload_n 3, 1) := by decide +kernel
theorem dX5_digest_7 : decode cX5_digest 7 = .ok (.bipush 10, 2) := by decide +kernel
theorem dX5_digest_9 : decode cX5_digest 9 = .ok (.if_icmp .gt 22, 3) := by decide +kernel
theorem dX5_digest_12 : decode cX5_digest 12 = .ok (.lload_n 1, 1) := by decide +kernel
theorem dX5_digest_13 : decode cX5_digest 13 = .ok (.ldc2_w 345, 3) := by decide +kernel
theorem dX5_digest_16 : decode cX5_digest 16 = .ok (.lmul, 1) := by decide +kernel
theorem dX5_digest_17 : decode cX5_digest 17 = .ok (.aload_n 0, 1) := by decide +kernel
theorem dX5_digest_18 : decode cX5_digest 18 = .ok (.iload_n 3, 1) := by decide +kernel
theorem dX5_digest_19 : decode cX5_digest 19 = .ok (.invokevirtual 347, 3) := by decide +kernel
theorem dX5_digest_22 : decode cX5_digest 22 = .ok (.i2l, 1) := by decide +kernel
theorem dX5_digest_23 : decode cX5_digest 23 = .ok (.ladd, 1) := by decide +kernel
theorem dX5_digest_24 : decode cX5_digest 24 = .ok (.lstore_n 1, 1) := by decide +kernel
theorem dX5_digest_25 : decode cX5_digest 25 = .ok (.iinc 3 1, 3) := by decide +kernel
theorem dX5_digest_28 : decode cX5_digest 28 = .ok (.goto (-22), 3) := by decide +kernel
theorem dX5_digest_31 : decode cX5_digest 31 = .ok (.aload_n 0, 1) := by decide +kernel
theorem dX5_digest_32 : decode cX5_digest 32 = .ok (.lload_n 1, 1) := by decide +kernel
theorem dX5_digest_33 : decode cX5_digest 33 = .ok (.invokevirtual 350, 3) := by decide +kernel
theorem dX5_digest_36 : decode cX5_digest 36 = .ok (.lstore_n 1, 1) := by decide +kernel
theorem dX5_digest_37 : decode cX5_digest 37 = .ok (.aload_n 0, 1) := by decide +kernel
theorem dX5_digest_38 : decode cX5_digest 38 = .ok (.lload_n 1, 1) := by decide +kernel
theorem dX5_digest_39 : decode cX5_digest 39 = .ok (.invokevirtual 354, 3) := by decide +kernel
theorem dX5_digest_42 : decode cX5_digest 42 = .ok (.lstore_n 1, 1) := by decide +kernel
theorem dX5_digest_43 : decode cX5_digest 43 = .ok (.aload_n 0, 1) := by decide +kernel
theorem dX5_digest_44 : decode cX5_digest 44 = .ok (.lload_n 1, 1) := by decide +kernel
theorem dX5_digest_45 : decode cX5_digest 45 = .ok (.invokevirtual 357, 3) := by decide +kernel
theorem dX5_digest_48 : decode cX5_digest 48 = .ok (.lstore_n 1, 1) := by decide +kernel
theorem dX5_digest_49 : decode cX5_digest 49 = .ok (.aload_n 0, 1) := by decide +kernel
theorem dX5_digest_50 : decode cX5_digest 50 = .ok (.lload_n 1, 1) := by decide +kernel
theorem dX5_digest_51 : decode cX5_digest 51 = .ok (.invokevirtual 360, 3) := by decide +kernel
theorem dX5_digest_54 : decode cX5_digest 54 = .ok (.lreturn, 1) := by decide +kernel
theorem dX5_digestStories_0 : decode cX5_digestStories 0 = .ok (.lload_n 1, 1) := by decide +kernel
theorem dX5_digestStories_1 : decode cX5_digestStories 1 = .ok (.lstore_n 3, 1) := by decide +kernel
theorem dX5_digestStories_2 : decode cX5_digestStories 2 = .ok (.iconst 0, 1) := by decide +kernel
theorem dX5_digestStories_3 : decode cX5_digestStories 3 = .ok (.istore 5, 2) := by decide +kernel
theorem dX5_digestStories_5 : decode cX5_digestStories 5 = .ok (.iload 5, 2) := by decide +kernel
theorem dX5_digestStories_7 : decode cX5_digestStories 7 = .ok (.aload_n 0, 1) := by decide +kernel
theorem dX5_digestStories_8 : decode cX5_digestStories 8 = .ok (.getfield 70, 3) := by decide +kernel
theorem dX5_digestStories_11 : decode cX5_digestStories 11 = .ok (.if_icmp .ge 77, 3) := by decide +kernel
theorem dX5_digestStories_14 : decode cX5_digestStories 14 = .ok (.iconst 0, 1) := by decide +kernel
theorem dX5_digestStories_15 : decode cX5_digestStories 15 = .ok (.istore 6, 2) := by decide +kernel
theorem dX5_digestStories_17 : decode cX5_digestStories 17 = .ok (.iload 6, 2) := by decide +kernel
theorem dX5_digestStories_19 : decode cX5_digestStories 19 = .ok (.iconst 4, 1) := by decide +kernel
theorem dX5_digestStories_20 : decode cX5_digestStories 20 = .ok (.if_icmp .ge 62, 3) := by decide +kernel
theorem dX5_digestStories_23 : decode cX5_digestStories 23 = .ok (.iconst 0, 1) := by decide +kernel
theorem dX5_digestStories_24 : decode cX5_digestStories 24 = .ok (.istore 7, 2) := by decide +kernel
theorem dX5_digestStories_26 : decode cX5_digestStories 26 = .ok (.iload 7, 2) := by decide +kernel
theorem dX5_digestStories_28 : decode cX5_digestStories 28 = .ok (.bipush 6, 2) := by decide +kernel
theorem dX5_digestStories_30 : decode cX5_digestStories 30 = .ok (.if_icmp .gt 27, 3) := by decide +kernel
theorem dX5_digestStories_33 : decode cX5_digestStories 33 = .ok (.lload_n 3, 1) := by decide +kernel
theorem dX5_digestStories_34 : decode cX5_digestStories 34 = .ok (.ldc2_w 345, 3) := by decide +kernel
theorem dX5_digestStories_37 : decode cX5_digestStories 37 = .ok (.lmul, 1) := by decide +kernel
theorem dX5_digestStories_38 : decode cX5_digestStories 38 = .ok (.aload_n 0, 1) := by decide +kernel
theorem dX5_digestStories_39 : decode cX5_digestStories 39 = .ok (.iload 5, 2) := by decide +kernel
theorem dX5_digestStories_41 : decode cX5_digestStories 41 = .ok (.iload 6, 2) := by decide +kernel
theorem dX5_digestStories_43 : decode cX5_digestStories 43 = .ok (.iload 7, 2) := by decide +kernel
theorem dX5_digestStories_45 : decode cX5_digestStories 45 = .ok (.invokevirtual 363, 3) := by decide +kernel
theorem dX5_digestStories_48 : decode cX5_digestStories 48 = .ok (.i2l, 1) := by decide +kernel
theorem dX5_digestStories_49 : decode cX5_digestStories 49 = .ok (.ladd, 1) := by decide +kernel
theorem dX5_digestStories_50 : decode cX5_digestStories 50 = .ok (.lstore_n 3, 1) := by decide +kernel
theorem dX5_digestStories_51 : decode cX5_digestStories 51 = .ok (.iinc 7 1, 3) := by decide +kernel
theorem dX5_digestStories_54 : decode cX5_digestStories 54 = .ok (.goto (-28), 3) := by decide +kernel
theorem dX5_digestStories_57 : decode cX5_digestStories 57 = .ok (.lload_n 3, 1) := by decide +kernel
theorem dX5_digestStories_58 : decode cX5_digestStories 58 = .ok (.ldc2_w 345, 3) := by decide +kernel
theorem dX5_digestStories_61 : decode cX5_digestStories 61 = .ok (.lmul, 1) := by decide +kernel
theorem dX5_digestStories_62 : decode cX5_digestStories 62 = .ok (.aload_n 0, 1) := by decide +kernel
theorem dX5_digestStories_63 : decode cX5_digestStories 63 = .ok (.iload 5, 2) := by decide +kernel
theorem dX5_digestStories_65 : decode cX5_digestStories 65 = .ok (.iload 6, 2) := by decide +kernel
theorem dX5_digestStories_67 : decode cX5_digestStories 67 = .ok (.bipush 50, 2) := by decide +kernel
theorem dX5_digestStories_69 : decode cX5_digestStories 69 = .ok (.iconst 2, 1) := by decide +kernel
theorem dX5_digestStories_70 : decode cX5_digestStories 70 = .ok (.invokevirtual 366, 3) := by decide +kernel
theorem dX5_digestStories_73 : decode cX5_digestStories 73 = .ok (.i2l, 1) := by decide +kernel
theorem dX5_digestStories_74 : decode cX5_digestStories 74 = .ok (.ladd, 1) := by decide +kernel
theorem dX5_digestStories_75 : decode cX5_digestStories 75 = .ok (.lstore_n 3, 1) := by decide +kernel
theorem dX5_digestStories_76 : decode cX5_digestStories 76 = .ok (.iinc 6 1, 3) := by decide +kernel
theorem dX5_digestStories_79 : decode cX5_digestStories 79 = .ok (.goto (-62), 3) := by decide +kernel
theorem dX5_digestStories_82 : decode cX5_digestStories 82 = .ok (.iinc 5 1, 3) := by decide +kernel
theorem dX5_digestStories_85 : decode cX5_digestStories 85 = .ok (.goto (-80), 3) := by decide +kernel
theorem dX5_digestStories_88 : decode cX5_digestStories 88 = .ok (.iconst 0, 1) := by decide +kernel
theorem dX5_digestStories_89 : decode cX5_digestStories 89 = .ok (.istore 5, 2) := by decide +kernel
theorem dX5_digestStories_91 : decode cX5_digestStories 91 = .ok (.iload 5, 2) := by decide +kernel
theorem dX5_digestStories_93 : decode cX5_digestStories 93 = .ok (.aload_n 0, 1) := by decide +kernel
theorem dX5_digestStories_94 : decode cX5_digestStories 94 = .ok (.getfield 70, 3) := by decide +kernel
theorem dX5_digestStories_97 : decode cX5_digestStories 97 = .ok (.if_icmp .ge 25, 3) := by decide +kernel
theorem dX5_digestStories_100 : decode cX5_digestStories 100 = .ok (.lload_n 3, 1) := by decide +kernel
theorem dX5_digestStories_101 : decode cX5_digestStories 101 = .ok (.ldc2_w 345, 3) := by decide +kernel
theorem dX5_digestStories_104 : decode cX5_digestStories 104 = .ok (.lmul, 1) := by decide +kernel
theorem dX5_digestStories_105 : decode cX5_digestStories 105 = .ok (.aload_n 0, 1) := by decide +kernel
theorem dX5_digestStories_106 : decode cX5_digestStories 106 = .ok (.iload 5, 2) := by decide +kernel
theorem dX5_digestStories_108 : decode cX5_digestStories 108 = .ok (.bipush 55, 2) := by decide +kernel
theorem dX5_digestStories_110 : decode cX5_digestStories 110 = .ok (.invokevirtual 370, 3) := by decide +kernel
theorem dX5_digestStories_113 : decode cX5_digestStories 113 = .ok (.i2l, 1) := by decide +kernel
theorem dX5_digestStories_114 : decode cX5_digestStories 114 = .ok (.ladd, 1) := by decide +kernel
theorem dX5_digestStories_115 : decode cX5_digestStories 115 = .ok (.lstore_n 3, 1) := by decide +kernel
theorem dX5_digestStories_116 : decode cX5_digestStories 116 = .ok (.iinc 5 1, 3) := by decide +kernel
theorem dX5_digestStories_119 : decode cX5_digestStories 119 = .ok (.goto (-28), 3) := by decide +kernel
theorem dX5_digestStories_122 : decode cX5_digestStories 122 = .ok (.lload_n 3, 1) := by decide +kernel
theorem dX5_digestStories_123 : decode cX5_digestStories 123 = .ok (.lreturn, 1) := by decide +kernel
theorem dX5_digestTakes_0 : decode cX5_digestTakes 0 = .ok (.lload_n 1, 1) := by decide +kernel
theorem dX5_digestTakes_1 : decode cX5_digestTakes 1 = .ok (.lstore_n 3, 1) := by decide +kernel
theorem dX5_digestTakes_2 : decode cX5_digestTakes 2 = .ok (.iconst 0, 1) := by decide +kernel
theorem dX5_digestTakes_3 : decode cX5_digestTakes 3 = .ok (.istore 5, 2) := by decide +kernel
theorem dX5_digestTakes_5 : decode cX5_digestTakes 5 = .ok (.iload 5, 2) := by decide +kernel
theorem dX5_digestTakes_7 : decode cX5_digestTakes 7 = .ok (.aload_n 0, 1) := by decide +kernel
theorem dX5_digestTakes_8 : decode cX5_digestTakes 8 = .ok (.getfield 284, 3) := by decide +kernel
theorem dX5_digestTakes_11 : decode cX5_digestTakes 11 = .ok (.if_icmp .ge 72, 3) := by decide +kernel
theorem dX5_digestTakes_14 : decode cX5_digestTakes 14 = .ok (.iconst 0, 1) := by decide +kernel
theorem dX5_digestTakes_15 : decode cX5_digestTakes 15 = .ok (.istore 6, 2) := by decide +kernel
theorem dX5_digestTakes_17 : decode cX5_digestTakes 17 = .ok (.iload 6, 2) := by decide +kernel
theorem dX5_digestTakes_19 : decode cX5_digestTakes 19 = .ok (.bipush 8, 2) := by decide +kernel
theorem dX5_digestTakes_21 : decode cX5_digestTakes 21 = .ok (.if_icmp .gt 25, 3) := by decide +kernel
theorem dX5_digestTakes_24 : decode cX5_digestTakes 24 = .ok (.lload_n 3, 1) := by decide +kernel
theorem dX5_digestTakes_25 : decode cX5_digestTakes 25 = .ok (.ldc2_w 345, 3) := by decide +kernel
theorem dX5_digestTakes_28 : decode cX5_digestTakes 28 = .ok (.lmul, 1) := by decide +kernel
theorem dX5_digestTakes_29 : decode cX5_digestTakes 29 = .ok (.aload_n 0, 1) := by decide +kernel
theorem dX5_digestTakes_30 : decode cX5_digestTakes 30 = .ok (.iload 5, 2) := by decide +kernel
theorem dX5_digestTakes_32 : decode cX5_digestTakes 32 = .ok (.iload 6, 2) := by decide +kernel
theorem dX5_digestTakes_34 : decode cX5_digestTakes 34 = .ok (.invokevirtual 373, 3) := by decide +kernel
theorem dX5_digestTakes_37 : decode cX5_digestTakes 37 = .ok (.i2l, 1) := by decide +kernel
theorem dX5_digestTakes_38 : decode cX5_digestTakes 38 = .ok (.ladd, 1) := by decide +kernel
theorem dX5_digestTakes_39 : decode cX5_digestTakes 39 = .ok (.lstore_n 3, 1) := by decide +kernel
theorem dX5_digestTakes_40 : decode cX5_digestTakes 40 = .ok (.iinc 6 1, 3) := by decide +kernel
theorem dX5_digestTakes_43 : decode cX5_digestTakes 43 = .ok (.goto (-26), 3) := by decide +kernel
theorem dX5_digestTakes_46 : decode cX5_digestTakes 46 = .ok (.iconst 0, 1) := by decide +kernel
theorem dX5_digestTakes_47 : decode cX5_digestTakes 47 = .ok (.istore 6, 2) := by decide +kernel
theorem dX5_digestTakes_49 : decode cX5_digestTakes 49 = .ok (.iload 6, 2) := by decide +kernel
theorem dX5_digestTakes_51 : decode cX5_digestTakes 51 = .ok (.iconst 4, 1) := by decide +kernel
theorem dX5_digestTakes_52 : decode cX5_digestTakes 52 = .ok (.if_icmp .ge 25, 3) := by decide +kernel
theorem dX5_digestTakes_55 : decode cX5_digestTakes 55 = .ok (.lload_n 3, 1) := by decide +kernel
theorem dX5_digestTakes_56 : decode cX5_digestTakes 56 = .ok (.ldc2_w 345, 3) := by decide +kernel
theorem dX5_digestTakes_59 : decode cX5_digestTakes 59 = .ok (.lmul, 1) := by decide +kernel
theorem dX5_digestTakes_60 : decode cX5_digestTakes 60 = .ok (.aload_n 0, 1) := by decide +kernel
theorem dX5_digestTakes_61 : decode cX5_digestTakes 61 = .ok (.iload 5, 2) := by decide +kernel
theorem dX5_digestTakes_63 : decode cX5_digestTakes 63 = .ok (.iload 6, 2) := by decide +kernel
theorem dX5_digestTakes_65 : decode cX5_digestTakes 65 = .ok (.invokevirtual 376, 3) := by decide +kernel
theorem dX5_digestTakes_68 : decode cX5_digestTakes 68 = .ok (.i2l, 1) := by decide +kernel
theorem dX5_digestTakes_69 : decode cX5_digestTakes 69 = .ok (.ladd, 1) := by decide +kernel
theorem dX5_digestTakes_70 : decode cX5_digestTakes 70 = .ok (.lstore_n 3, 1) := by decide +kernel
theorem dX5_digestTakes_71 : decode cX5_digestTakes 71 = .ok (.iinc 6 1, 3) := by decide +kernel
theorem dX5_digestTakes_74 : decode cX5_digestTakes 74 = .ok (.goto (-25), 3) := by decide +kernel
theorem dX5_digestTakes_77 : decode cX5_digestTakes 77 = .ok (.iinc 5 1, 3) := by decide +kernel
theorem dX5_digestTakes_80 : decode cX5_digestTakes 80 = .ok (.goto (-75), 3) := by decide +kernel
theorem dX5_digestTakes_83 : decode cX5_digestTakes 83 = .ok (.lload_n 3, 1) := by decide +kernel
theorem dX5_digestTakes_84 : decode cX5_digestTakes 84 = .ok (.lreturn, 1) := by decide +kernel
theorem dX5_digestLines_0 : decode cX5_digestLines 0 = .ok (.lload_n 1, 1) := by decide +kernel
theorem dX5_digestLines_1 : decode cX5_digestLines 1 = .ok (.lstore_n 3, 1) := by decide +kernel
theorem dX5_digestLines_2 : decode cX5_digestLines 2 = .ok (.iconst 0, 1) := by decide +kernel
theorem dX5_digestLines_3 : decode cX5_digestLines 3 = .ok (.istore 5, 2) := by decide +kernel
theorem dX5_digestLines_5 : decode cX5_digestLines 5 = .ok (.iload 5, 2) := by decide +kernel
theorem dX5_digestLines_7 : decode cX5_digestLines 7 = .ok (.aload_n 0, 1) := by decide +kernel
theorem dX5_digestLines_8 : decode cX5_digestLines 8 = .ok (.getfield 80, 3) := by decide +kernel
theorem dX5_digestLines_11 : decode cX5_digestLines 11 = .ok (.if_icmp .ge 92, 3) := by decide +kernel
theorem dX5_digestLines_14 : decode cX5_digestLines 14 = .ok (.iconst 0, 1) := by decide +kernel
theorem dX5_digestLines_15 : decode cX5_digestLines 15 = .ok (.istore 6, 2) := by decide +kernel
theorem dX5_digestLines_17 : decode cX5_digestLines 17 = .ok (.iload 6, 2) := by decide +kernel
theorem dX5_digestLines_19 : decode cX5_digestLines 19 = .ok (.bipush 7, 2) := by decide +kernel
theorem dX5_digestLines_21 : decode cX5_digestLines 21 = .ok (.if_icmp .gt 25, 3) := by decide +kernel
theorem dX5_digestLines_24 : decode cX5_digestLines 24 = .ok (.lload_n 3, 1) := by decide +kernel
theorem dX5_digestLines_25 : decode cX5_digestLines 25 = .ok (.ldc2_w 345, 3) := by decide +kernel
theorem dX5_digestLines_28 : decode cX5_digestLines 28 = .ok (.lmul, 1) := by decide +kernel
theorem dX5_digestLines_29 : decode cX5_digestLines 29 = .ok (.aload_n 0, 1) := by decide +kernel
theorem dX5_digestLines_30 : decode cX5_digestLines 30 = .ok (.iload 5, 2) := by decide +kernel
theorem dX5_digestLines_32 : decode cX5_digestLines 32 = .ok (.iload 6, 2) := by decide +kernel
theorem dX5_digestLines_34 : decode cX5_digestLines 34 = .ok (.invokevirtual 379, 3) := by decide +kernel
theorem dX5_digestLines_37 : decode cX5_digestLines 37 = .ok (.i2l, 1) := by decide +kernel
theorem dX5_digestLines_38 : decode cX5_digestLines 38 = .ok (.ladd, 1) := by decide +kernel
theorem dX5_digestLines_39 : decode cX5_digestLines 39 = .ok (.lstore_n 3, 1) := by decide +kernel
theorem dX5_digestLines_40 : decode cX5_digestLines 40 = .ok (.iinc 6 1, 3) := by decide +kernel
theorem dX5_digestLines_43 : decode cX5_digestLines 43 = .ok (.goto (-26), 3) := by decide +kernel
theorem dX5_digestLines_46 : decode cX5_digestLines 46 = .ok (.lload_n 3, 1) := by decide +kernel
theorem dX5_digestLines_47 : decode cX5_digestLines 47 = .ok (.ldc2_w 345, 3) := by decide +kernel
theorem dX5_digestLines_50 : decode cX5_digestLines 50 = .ok (.lmul, 1) := by decide +kernel
theorem dX5_digestLines_51 : decode cX5_digestLines 51 = .ok (.aload_n 0, 1) := by decide +kernel
theorem dX5_digestLines_52 : decode cX5_digestLines 52 = .ok (.iload 5, 2) := by decide +kernel
theorem dX5_digestLines_54 : decode cX5_digestLines 54 = .ok (.iconst 3, 1) := by decide +kernel
theorem dX5_digestLines_55 : decode cX5_digestLines 55 = .ok (.bipush 50, 2) := by decide +kernel
theorem dX5_digestLines_57 : decode cX5_digestLines 57 = .ok (.invokevirtual 382, 3) := by decide +kernel
theorem dX5_digestLines_60 : decode cX5_digestLines 60 = .ok (.i2l, 1) := by decide +kernel
theorem dX5_digestLines_61 : decode cX5_digestLines 61 = .ok (.ladd, 1) := by decide +kernel
theorem dX5_digestLines_62 : decode cX5_digestLines 62 = .ok (.lstore_n 3, 1) := by decide +kernel
theorem dX5_digestLines_63 : decode cX5_digestLines 63 = .ok (.iconst 0, 1) := by decide +kernel
theorem dX5_digestLines_64 : decode cX5_digestLines 64 = .ok (.istore 6, 2) := by decide +kernel
theorem dX5_digestLines_66 : decode cX5_digestLines 66 = .ok (.iload 6, 2) := by decide +kernel
theorem dX5_digestLines_68 : decode cX5_digestLines 68 = .ok (.aload_n 0, 1) := by decide +kernel
theorem dX5_digestLines_69 : decode cX5_digestLines 69 = .ok (.getfield 284, 3) := by decide +kernel
theorem dX5_digestLines_72 : decode cX5_digestLines 72 = .ok (.if_icmp .ge 25, 3) := by decide +kernel
theorem dX5_digestLines_75 : decode cX5_digestLines 75 = .ok (.lload_n 3, 1) := by decide +kernel
theorem dX5_digestLines_76 : decode cX5_digestLines 76 = .ok (.ldc2_w 345, 3) := by decide +kernel
theorem dX5_digestLines_79 : decode cX5_digestLines 79 = .ok (.lmul, 1) := by decide +kernel
theorem dX5_digestLines_80 : decode cX5_digestLines 80 = .ok (.aload_n 0, 1) := by decide +kernel
theorem dX5_digestLines_81 : decode cX5_digestLines 81 = .ok (.iload 5, 2) := by decide +kernel
theorem dX5_digestLines_83 : decode cX5_digestLines 83 = .ok (.iload 6, 2) := by decide +kernel
theorem dX5_digestLines_85 : decode cX5_digestLines 85 = .ok (.invokevirtual 385, 3) := by decide +kernel
theorem dX5_digestLines_88 : decode cX5_digestLines 88 = .ok (.i2l, 1) := by decide +kernel
theorem dX5_digestLines_89 : decode cX5_digestLines 89 = .ok (.ladd, 1) := by decide +kernel
theorem dX5_digestLines_90 : decode cX5_digestLines 90 = .ok (.lstore_n 3, 1) := by decide +kernel
theorem dX5_digestLines_91 : decode cX5_digestLines 91 = .ok (.iinc 6 1, 3) := by decide +kernel
theorem dX5_digestLines_94 : decode cX5_digestLines 94 = .ok (.goto (-28), 3) := by decide +kernel
theorem dX5_digestLines_97 : decode cX5_digestLines 97 = .ok (.iinc 5 1, 3) := by decide +kernel
theorem dX5_digestLines_100 : decode cX5_digestLines 100 = .ok (.goto (-95), 3) := by decide +kernel
theorem dX5_digestLines_103 : decode cX5_digestLines 103 = .ok (.lload_n 3, 1) := by decide +kernel
theorem dX5_digestLines_104 : decode cX5_digestLines 104 = .ok (.lreturn, 1) := by decide +kernel
theorem dX5_digestDesks_0 : decode cX5_digestDesks 0 = .ok (.lload_n 1, 1) := by decide +kernel
theorem dX5_digestDesks_1 : decode cX5_digestDesks 1 = .ok (.lstore_n 3, 1) := by decide +kernel
theorem dX5_digestDesks_2 : decode cX5_digestDesks 2 = .ok (.iconst 0, 1) := by decide +kernel
theorem dX5_digestDesks_3 : decode cX5_digestDesks 3 = .ok (.istore 5, 2) := by decide +kernel
theorem dX5_digestDesks_5 : decode cX5_digestDesks 5 = .ok (.iload 5, 2) := by decide +kernel
theorem dX5_digestDesks_7 : decode cX5_digestDesks 7 = .ok (.aload_n 0, 1) := by decide +kernel
theorem dX5_digestDesks_8 : decode cX5_digestDesks 8 = .ok (.getfield 80, 3) := by decide +kernel
theorem dX5_digestDesks_11 : decode cX5_digestDesks 11 = .ok (.if_icmp .ge 60, 3) := by decide +kernel
theorem dX5_digestDesks_14 : decode cX5_digestDesks 14 = .ok (.iconst 0, 1) := by decide +kernel
theorem dX5_digestDesks_15 : decode cX5_digestDesks 15 = .ok (.istore 6, 2) := by decide +kernel
theorem dX5_digestDesks_17 : decode cX5_digestDesks 17 = .ok (.iload 6, 2) := by decide +kernel
theorem dX5_digestDesks_19 : decode cX5_digestDesks 19 = .ok (.aload_n 0, 1) := by decide +kernel
theorem dX5_digestDesks_20 : decode cX5_digestDesks 20 = .ok (.getfield 70, 3) := by decide +kernel
theorem dX5_digestDesks_23 : decode cX5_digestDesks 23 = .ok (.if_icmp .ge 42, 3) := by decide +kernel
theorem dX5_digestDesks_26 : decode cX5_digestDesks 26 = .ok (.iconst 0, 1) := by decide +kernel
theorem dX5_digestDesks_27 : decode cX5_digestDesks 27 = .ok (.istore 7, 2) := by decide +kernel
theorem dX5_digestDesks_29 : decode cX5_digestDesks 29 = .ok (.iload 7, 2) := by decide +kernel
theorem dX5_digestDesks_31 : decode cX5_digestDesks 31 = .ok (.iconst 4, 1) := by decide +kernel
theorem dX5_digestDesks_32 : decode cX5_digestDesks 32 = .ok (.if_icmp .ge 27, 3) := by decide +kernel
theorem dX5_digestDesks_35 : decode cX5_digestDesks 35 = .ok (.lload_n 3, 1) := by decide +kernel
theorem dX5_digestDesks_36 : decode cX5_digestDesks 36 = .ok (.ldc2_w 345, 3) := by decide +kernel
theorem dX5_digestDesks_39 : decode cX5_digestDesks 39 = .ok (.lmul, 1) := by decide +kernel
theorem dX5_digestDesks_40 : decode cX5_digestDesks 40 = .ok (.aload_n 0, 1) := by decide +kernel
theorem dX5_digestDesks_41 : decode cX5_digestDesks 41 = .ok (.iload 5, 2) := by decide +kernel
theorem dX5_digestDesks_43 : decode cX5_digestDesks 43 = .ok (.iload 6, 2) := by decide +kernel
theorem dX5_digestDesks_45 : decode cX5_digestDesks 45 = .ok (.iload 7, 2) := by decide +kernel
theorem dX5_digestDesks_47 : decode cX5_digestDesks 47 = .ok (.invokevirtual 388, 3) := by decide +kernel
theorem dX5_digestDesks_50 : decode cX5_digestDesks 50 = .ok (.i2l, 1) := by decide +kernel
theorem dX5_digestDesks_51 : decode cX5_digestDesks 51 = .ok (.ladd, 1) := by decide +kernel
theorem dX5_digestDesks_52 : decode cX5_digestDesks 52 = .ok (.lstore_n 3, 1) := by decide +kernel
theorem dX5_digestDesks_53 : decode cX5_digestDesks 53 = .ok (.iinc 7 1, 3) := by decide +kernel
theorem dX5_digestDesks_56 : decode cX5_digestDesks 56 = .ok (.goto (-27), 3) := by decide +kernel
theorem dX5_digestDesks_59 : decode cX5_digestDesks 59 = .ok (.iinc 6 1, 3) := by decide +kernel
theorem dX5_digestDesks_62 : decode cX5_digestDesks 62 = .ok (.goto (-45), 3) := by decide +kernel
theorem dX5_digestDesks_65 : decode cX5_digestDesks 65 = .ok (.iinc 5 1, 3) := by decide +kernel
theorem dX5_digestDesks_68 : decode cX5_digestDesks 68 = .ok (.goto (-63), 3) := by decide +kernel
theorem dX5_digestDesks_71 : decode cX5_digestDesks 71 = .ok (.lload_n 3, 1) := by decide +kernel
theorem dX5_digestDesks_72 : decode cX5_digestDesks 72 = .ok (.lreturn, 1) := by decide +kernel
theorem dX5_checkSource_0 : decode cX5_checkSource 0 = .ok (.iload_n 1, 1) := by decide +kernel
theorem dX5_checkSource_1 : decode cX5_checkSource 1 = .ok (.ifCond .lt 14, 3) := by decide +kernel
theorem dX5_checkSource_4 : decode cX5_checkSource 4 = .ok (.iload_n 1, 1) := by decide +kernel
theorem dX5_checkSource_5 : decode cX5_checkSource 5 = .ok (.aload_n 0, 1) := by decide +kernel
theorem dX5_checkSource_6 : decode cX5_checkSource 6 = .ok (.getfield 10, 3) := by decide +kernel
theorem dX5_checkSource_9 : decode cX5_checkSource 9 = .ok (.getfield 55, 3) := by decide +kernel
theorem dX5_checkSource_12 : decode cX5_checkSource 12 = .ok (.if_icmp .lt 14, 3) := by decide +kernel
theorem dX5_checkSource_15 : decode cX5_checkSource 15 = .ok (.new 246, 3) := by decide +kernel
theorem dX5_checkSource_18 : decode cX5_checkSource 18 = .ok (.dup, 1) := by decide +kernel
theorem dX5_checkSource_19 : decode cX5_checkSource 19 = .ok (.ldc_w 391, 3) := by decide +kernel
theorem dX5_checkSource_22 : decode cX5_checkSource 22 = .ok (.invokespecial 250, 3) := by decide +kernel
theorem dX5_checkSource_25 : decode cX5_checkSource 25 = .ok (.athrow, 1) := by decide +kernel
theorem dX5_checkSource_26 : decode cX5_checkSource 26 = .ok (.return_, 1) := by decide +kernel
theorem dX5_checkStory_0 : decode cX5_checkStory 0 = .ok (.iload_n 1, 1) := by decide +kernel
theorem dX5_checkStory_1 : decode cX5_checkStory 1 = .ok (.ifCond .lt 11, 3) := by decide +kernel
theorem dX5_checkStory_4 : decode cX5_checkStory 4 = .ok (.iload_n 1, 1) := by decide +kernel
theorem dX5_checkStory_5 : decode cX5_checkStory 5 = .ok (.aload_n 0, 1) := by decide +kernel
theorem dX5_checkStory_6 : decode cX5_checkStory 6 = .ok (.getfield 70, 3) := by decide +kernel
theorem dX5_checkStory_9 : decode cX5_checkStory 9 = .ok (.if_icmp .lt 14, 3) := by decide +kernel
theorem dX5_checkStory_12 : decode cX5_checkStory 12 = .ok (.new 246, 3) := by decide +kernel
theorem dX5_checkStory_15 : decode cX5_checkStory 15 = .ok (.dup, 1) := by decide +kernel
theorem dX5_checkStory_16 : decode cX5_checkStory 16 = .ok (.ldc_w 393, 3) := by decide +kernel
theorem dX5_checkStory_19 : decode cX5_checkStory 19 = .ok (.invokespecial 250, 3) := by decide +kernel
theorem dX5_checkStory_22 : decode cX5_checkStory 22 = .ok (.athrow, 1) := by decide +kernel
theorem dX5_checkStory_23 : decode cX5_checkStory 23 = .ok (.return_, 1) := by decide +kernel
theorem dX5_checkFact_0 : decode cX5_checkFact 0 = .ok (.aload_n 0, 1) := by decide +kernel
theorem dX5_checkFact_1 : decode cX5_checkFact 1 = .ok (.iload_n 1, 1) := by decide +kernel
theorem dX5_checkFact_2 : decode cX5_checkFact 2 = .ok (.invokevirtual 134, 3) := by decide +kernel
theorem dX5_checkFact_5 : decode cX5_checkFact 5 = .ok (.iload_n 2, 1) := by decide +kernel
theorem dX5_checkFact_6 : decode cX5_checkFact 6 = .ok (.ifCond .lt 8, 3) := by decide +kernel
theorem dX5_checkFact_9 : decode cX5_checkFact 9 = .ok (.iload_n 2, 1) := by decide +kernel
theorem dX5_checkFact_10 : decode cX5_checkFact 10 = .ok (.iconst 4, 1) := by decide +kernel
theorem dX5_checkFact_11 : decode cX5_checkFact 11 = .ok (.if_icmp .lt 13, 3) := by decide +kernel
theorem dX5_checkFact_14 : decode cX5_checkFact 14 = .ok (.new 246, 3) := by decide +kernel
theorem dX5_checkFact_17 : decode cX5_checkFact 17 = .ok (.dup, 1) := by decide +kernel
theorem dX5_checkFact_18 : decode cX5_checkFact 18 = .ok (.ldc 248, 2) := by decide +kernel
theorem dX5_checkFact_20 : decode cX5_checkFact 20 = .ok (.invokespecial 250, 3) := by decide +kernel
theorem dX5_checkFact_23 : decode cX5_checkFact 23 = .ok (.athrow, 1) := by decide +kernel
theorem dX5_checkFact_24 : decode cX5_checkFact 24 = .ok (.return_, 1) := by decide +kernel
theorem dX5_checkTake_0 : decode cX5_checkTake 0 = .ok (.iload_n 1, 1) := by decide +kernel
theorem dX5_checkTake_1 : decode cX5_checkTake 1 = .ok (.ifCond .lt 11, 3) := by decide +kernel
theorem dX5_checkTake_4 : decode cX5_checkTake 4 = .ok (.iload_n 1, 1) := by decide +kernel
theorem dX5_checkTake_5 : decode cX5_checkTake 5 = .ok (.aload_n 0, 1) := by decide +kernel
theorem dX5_checkTake_6 : decode cX5_checkTake 6 = .ok (.getfield 284, 3) := by decide +kernel
theorem dX5_checkTake_9 : decode cX5_checkTake 9 = .ok (.if_icmp .lt 14, 3) := by decide +kernel
theorem dX5_checkTake_12 : decode cX5_checkTake 12 = .ok (.new 246, 3) := by decide +kernel
theorem dX5_checkTake_15 : decode cX5_checkTake 15 = .ok (.dup, 1) := by decide +kernel
theorem dX5_checkTake_16 : decode cX5_checkTake 16 = .ok (.ldc_w 395, 3) := by decide +kernel
theorem dX5_checkTake_19 : decode cX5_checkTake 19 = .ok (.invokespecial 250, 3) := by decide +kernel
theorem dX5_checkTake_22 : decode cX5_checkTake 22 = .ok (.athrow, 1) := by decide +kernel
theorem dX5_checkTake_23 : decode cX5_checkTake 23 = .ok (.return_, 1) := by decide +kernel
theorem dX5_checkLine_0 : decode cX5_checkLine 0 = .ok (.iload_n 1, 1) := by decide +kernel
theorem dX5_checkLine_1 : decode cX5_checkLine 1 = .ok (.ifCond .lt 11, 3) := by decide +kernel
theorem dX5_checkLine_4 : decode cX5_checkLine 4 = .ok (.iload_n 1, 1) := by decide +kernel
theorem dX5_checkLine_5 : decode cX5_checkLine 5 = .ok (.aload_n 0, 1) := by decide +kernel
theorem dX5_checkLine_6 : decode cX5_checkLine 6 = .ok (.getfield 80, 3) := by decide +kernel
theorem dX5_checkLine_9 : decode cX5_checkLine 9 = .ok (.if_icmp .lt 14, 3) := by decide +kernel
theorem dX5_checkLine_12 : decode cX5_checkLine 12 = .ok (.new 246, 3) := by decide +kernel
theorem dX5_checkLine_15 : decode cX5_checkLine 15 = .ok (.dup, 1) := by decide +kernel
theorem dX5_checkLine_16 : decode cX5_checkLine 16 = .ok (.ldc_w 397, 3) := by decide +kernel
theorem dX5_checkLine_19 : decode cX5_checkLine 19 = .ok (.invokespecial 250, 3) := by decide +kernel
theorem dX5_checkLine_22 : decode cX5_checkLine 22 = .ok (.athrow, 1) := by decide +kernel
theorem dX5_checkLine_23 : decode cX5_checkLine 23 = .ok (.return_, 1) := by decide +kernel
theorem dX5_checkValue_0 : decode cX5_checkValue 0 = .ok (.iload_n 0, 1) := by decide +kernel
theorem dX5_checkValue_1 : decode cX5_checkValue 1 = .ok (.ifCond .lt 9, 3) := by decide +kernel
theorem dX5_checkValue_4 : decode cX5_checkValue 4 = .ok (.iload_n 0, 1) := by decide +kernel
theorem dX5_checkValue_5 : decode cX5_checkValue 5 = .ok (.bipush 99, 2) := by decide +kernel
theorem dX5_checkValue_7 : decode cX5_checkValue 7 = .ok (.if_icmp .le 14, 3) := by decide +kernel
theorem dX5_checkValue_10 : decode cX5_checkValue 10 = .ok (.new 75, 3) := by decide +kernel
theorem dX5_checkValue_13 : decode cX5_checkValue 13 = .ok (.dup, 1) := by decide +kernel
theorem dX5_checkValue_14 : decode cX5_checkValue 14 = .ok (.ldc_w 399, 3) := by decide +kernel
theorem dX5_checkValue_17 : decode cX5_checkValue 17 = .ok (.invokespecial 79, 3) := by decide +kernel
theorem dX5_checkValue_20 : decode cX5_checkValue 20 = .ok (.athrow, 1) := by decide +kernel
theorem dX5_checkValue_21 : decode cX5_checkValue 21 = .ok (.return_, 1) := by decide +kernel
theorem dX5_checkWeight_0 : decode cX5_checkWeight 0 = .ok (.iload_n 0, 1) := by decide +kernel
theorem dX5_checkWeight_1 : decode cX5_checkWeight 1 = .ok (.iconst 1, 1) := by decide +kernel
theorem dX5_checkWeight_2 : decode cX5_checkWeight 2 = .ok (.if_icmp .lt 8, 3) := by decide +kernel
theorem dX5_checkWeight_5 : decode cX5_checkWeight 5 = .ok (.iload_n 0, 1) := by decide +kernel
theorem dX5_checkWeight_6 : decode cX5_checkWeight 6 = .ok (.iconst 3, 1) := by decide +kernel
theorem dX5_checkWeight_7 : decode cX5_checkWeight 7 = .ok (.if_icmp .le 14, 3) := by decide +kernel
theorem dX5_checkWeight_10 : decode cX5_checkWeight 10 = .ok (.new 75, 3) := by decide +kernel
theorem dX5_checkWeight_13 : decode cX5_checkWeight 13 = .ok (.dup, 1) := by decide +kernel
theorem dX5_checkWeight_14 : decode cX5_checkWeight 14 = .ok (.ldc_w 401, 3) := by decide +kernel
theorem dX5_checkWeight_17 : decode cX5_checkWeight 17 = .ok (.invokespecial 79, 3) := by decide +kernel
theorem dX5_checkWeight_20 : decode cX5_checkWeight 20 = .ok (.athrow, 1) := by decide +kernel
theorem dX5_checkWeight_21 : decode cX5_checkWeight 21 = .ok (.return_, 1) := by decide +kernel
theorem dX5_checkRoomForTake_0 : decode cX5_checkRoomForTake 0 = .ok (.aload_n 0, 1) := by decide +kernel
theorem dX5_checkRoomForTake_1 : decode cX5_checkRoomForTake 1 = .ok (.getfield 284, 3) := by decide +kernel
theorem dX5_checkRoomForTake_4 : decode cX5_checkRoomForTake 4 = .ok (.bipush 60, 2) := by decide +kernel
theorem dX5_checkRoomForTake_6 : decode cX5_checkRoomForTake 6 = .ok (.if_icmp .lt 14, 3) := by decide +kernel
theorem dX5_checkRoomForTake_9 : decode cX5_checkRoomForTake 9 = .ok (.new 59, 3) := by decide +kernel
theorem dX5_checkRoomForTake_12 : decode cX5_checkRoomForTake 12 = .ok (.dup, 1) := by decide +kernel
theorem dX5_checkRoomForTake_13 : decode cX5_checkRoomForTake 13 = .ok (.ldc_w 403, 3) := by decide +kernel
theorem dX5_checkRoomForTake_16 : decode cX5_checkRoomForTake 16 = .ok (.invokespecial 63, 3) := by decide +kernel
theorem dX5_checkRoomForTake_19 : decode cX5_checkRoomForTake 19 = .ok (.athrow, 1) := by decide +kernel
theorem dX5_checkRoomForTake_20 : decode cX5_checkRoomForTake 20 = .ok (.return_, 1) := by decide +kernel
theorem dX5_factAt_0 : decode cX5_factAt 0 = .ok (.aload_n 0, 1) := by decide +kernel
theorem dX5_factAt_1 : decode cX5_factAt 1 = .ok (.getfield 25, 3) := by decide +kernel
theorem dX5_factAt_4 : decode cX5_factAt 4 = .ok (.iload_n 1, 1) := by decide +kernel
theorem dX5_factAt_5 : decode cX5_factAt 5 = .ok (.iconst 4, 1) := by decide +kernel
theorem dX5_factAt_6 : decode cX5_factAt 6 = .ok (.imul, 1) := by decide +kernel
theorem dX5_factAt_7 : decode cX5_factAt 7 = .ok (.iload_n 2, 1) := by decide +kernel
theorem dX5_factAt_8 : decode cX5_factAt 8 = .ok (.iadd, 1) := by decide +kernel
theorem dX5_factAt_9 : decode cX5_factAt 9 = .ok (.aaload, 1) := by decide +kernel
theorem dX5_factAt_10 : decode cX5_factAt 10 = .ok (.areturn, 1) := by decide +kernel
theorem dX5_isInSet_0 : decode cX5_isInSet 0 = .ok (.iload_n 0, 1) := by decide +kernel
theorem dX5_isInSet_1 : decode cX5_isInSet 1 = .ok (.iload_n 1, 1) := by decide +kernel
theorem dX5_isInSet_2 : decode cX5_isInSet 2 = .ok (.ishr, 1) := by decide +kernel
theorem dX5_isInSet_3 : decode cX5_isInSet 3 = .ok (.iconst 1, 1) := by decide +kernel
theorem dX5_isInSet_4 : decode cX5_isInSet 4 = .ok (.iand, 1) := by decide +kernel
theorem dX5_isInSet_5 : decode cX5_isInSet 5 = .ok (.iconst 1, 1) := by decide +kernel
theorem dX5_isInSet_6 : decode cX5_isInSet 6 = .ok (.if_icmp .ne 7, 3) := by decide +kernel
theorem dX5_isInSet_9 : decode cX5_isInSet 9 = .ok (.iconst 1, 1) := by decide +kernel
theorem dX5_isInSet_10 : decode cX5_isInSet 10 = .ok (.goto 4, 3) := by decide +kernel
theorem dX5_isInSet_13 : decode cX5_isInSet 13 = .ok (.iconst 0, 1) := by decide +kernel
theorem dX5_isInSet_14 : decode cX5_isInSet 14 = .ok (.ireturn, 1) := by decide +kernel
theorem dX5_hasValues_0 : decode cX5_hasValues 0 = .ok (.iconst 0, 1) := by decide +kernel
theorem dX5_hasValues_1 : decode cX5_hasValues 1 = .ok (.istore 4, 2) := by decide +kernel
theorem dX5_hasValues_3 : decode cX5_hasValues 3 = .ok (.iload 4, 2) := by decide +kernel
theorem dX5_hasValues_5 : decode cX5_hasValues 5 = .ok (.iconst 4, 1) := by decide +kernel
theorem dX5_hasValues_6 : decode cX5_hasValues 6 = .ok (.if_icmp .ge 35, 3) := by decide +kernel
theorem dX5_hasValues_9 : decode cX5_hasValues 9 = .ok (.iload_n 2, 1) := by decide +kernel
theorem dX5_hasValues_10 : decode cX5_hasValues 10 = .ok (.iload 4, 2) := by decide +kernel
theorem dX5_hasValues_12 : decode cX5_hasValues 12 = .ok (.invokestatic 405, 3) := by decide +kernel
theorem dX5_hasValues_15 : decode cX5_hasValues 15 = .ok (.ifCond .eq 20, 3) := by decide +kernel
theorem dX5_hasValues_18 : decode cX5_hasValues 18 = .ok (.aload_n 0, 1) := by decide +kernel
theorem dX5_hasValues_19 : decode cX5_hasValues 19 = .ok (.iload_n 1, 1) := by decide +kernel
theorem dX5_hasValues_20 : decode cX5_hasValues 20 = .ok (.iload 4, 2) := by decide +kernel
theorem dX5_hasValues_22 : decode cX5_hasValues 22 = .ok (.invokevirtual 98, 3) := by decide +kernel
theorem dX5_hasValues_25 : decode cX5_hasValues 25 = .ok (.iload_n 3, 1) := by decide +kernel
theorem dX5_hasValues_26 : decode cX5_hasValues 26 = .ok (.invokevirtual 408, 3) := by decide +kernel
theorem dX5_hasValues_29 : decode cX5_hasValues 29 = .ok (.iconst (-1), 1) := by decide +kernel
theorem dX5_hasValues_30 : decode cX5_hasValues 30 = .ok (.if_icmp .ne 5, 3) := by decide +kernel
theorem dX5_hasValues_33 : decode cX5_hasValues 33 = .ok (.iconst 0, 1) := by decide +kernel
theorem dX5_hasValues_34 : decode cX5_hasValues 34 = .ok (.ireturn, 1) := by decide +kernel
theorem dX5_hasValues_35 : decode cX5_hasValues 35 = .ok (.iinc 4 1, 3) := by decide +kernel
theorem dX5_hasValues_38 : decode cX5_hasValues 38 = .ok (.goto (-35), 3) := by decide +kernel
theorem dX5_hasValues_41 : decode cX5_hasValues 41 = .ok (.iconst 1, 1) := by decide +kernel
theorem dX5_hasValues_42 : decode cX5_hasValues 42 = .ok (.ireturn, 1) := by decide +kernel
theorem dX5_forceOf_0 : decode cX5_forceOf 0 = .ok (.iconst 0, 1) := by decide +kernel
theorem dX5_forceOf_1 : decode cX5_forceOf 1 = .ok (.istore_n 3, 1) := by decide +kernel
theorem dX5_forceOf_2 : decode cX5_forceOf 2 = .ok (.iconst 0, 1) := by decide +kernel
theorem dX5_forceOf_3 : decode cX5_forceOf 3 = .ok (.istore 4, 2) := by decide +kernel
theorem dX5_forceOf_5 : decode cX5_forceOf 5 = .ok (.iload 4, 2) := by decide +kernel
theorem dX5_forceOf_7 : decode cX5_forceOf 7 = .ok (.iconst 4, 1) := by decide +kernel
theorem dX5_forceOf_8 : decode cX5_forceOf 8 = .ok (.if_icmp .ge 31, 3) := by decide +kernel
theorem dX5_forceOf_11 : decode cX5_forceOf 11 = .ok (.iload_n 2, 1) := by decide +kernel
theorem dX5_forceOf_12 : decode cX5_forceOf 12 = .ok (.iload 4, 2) := by decide +kernel
theorem dX5_forceOf_14 : decode cX5_forceOf 14 = .ok (.invokestatic 405, 3) := by decide +kernel
theorem dX5_forceOf_17 : decode cX5_forceOf 17 = .ok (.ifCond .eq 16, 3) := by decide +kernel
theorem dX5_forceOf_20 : decode cX5_forceOf 20 = .ok (.iload_n 3, 1) := by decide +kernel
theorem dX5_forceOf_21 : decode cX5_forceOf 21 = .ok (.aload_n 0, 1) := by decide +kernel
theorem dX5_forceOf_22 : decode cX5_forceOf 22 = .ok (.iload_n 1, 1) := by decide +kernel
theorem dX5_forceOf_23 : decode cX5_forceOf 23 = .ok (.iload 4, 2) := by decide +kernel
theorem dX5_forceOf_25 : decode cX5_forceOf 25 = .ok (.invokevirtual 98, 3) := by decide +kernel
theorem dX5_forceOf_28 : decode cX5_forceOf 28 = .ok (.getfield 412, 3) := by decide +kernel
theorem dX5_forceOf_31 : decode cX5_forceOf 31 = .ok (.iadd, 1) := by decide +kernel
theorem dX5_forceOf_32 : decode cX5_forceOf 32 = .ok (.istore_n 3, 1) := by decide +kernel
theorem dX5_forceOf_33 : decode cX5_forceOf 33 = .ok (.iinc 4 1, 3) := by decide +kernel
theorem dX5_forceOf_36 : decode cX5_forceOf 36 = .ok (.goto (-31), 3) := by decide +kernel
theorem dX5_forceOf_39 : decode cX5_forceOf 39 = .ok (.iload_n 3, 1) := by decide +kernel
theorem dX5_forceOf_40 : decode cX5_forceOf 40 = .ok (.ireturn, 1) := by decide +kernel
theorem dX5_firstHad_0 : decode cX5_firstHad 0 = .ok (.iconst (-1), 1) := by decide +kernel
theorem dX5_firstHad_1 : decode cX5_firstHad 1 = .ok (.istore_n 3, 1) := by decide +kernel
theorem dX5_firstHad_2 : decode cX5_firstHad 2 = .ok (.iconst 0, 1) := by decide +kernel
theorem dX5_firstHad_3 : decode cX5_firstHad 3 = .ok (.istore 4, 2) := by decide +kernel
theorem dX5_firstHad_5 : decode cX5_firstHad 5 = .ok (.iload 4, 2) := by decide +kernel
theorem dX5_firstHad_7 : decode cX5_firstHad 7 = .ok (.aload_n 0, 1) := by decide +kernel
theorem dX5_firstHad_8 : decode cX5_firstHad 8 = .ok (.getfield 284, 3) := by decide +kernel
theorem dX5_firstHad_11 : decode cX5_firstHad 11 = .ok (.if_icmp .ge 67, 3) := by decide +kernel
theorem dX5_firstHad_14 : decode cX5_firstHad 14 = .ok (.aload_n 0, 1) := by decide +kernel
theorem dX5_firstHad_15 : decode cX5_firstHad 15 = .ok (.getfield 32, 3) := by decide +kernel
theorem dX5_firstHad_18 : decode cX5_firstHad 18 = .ok (.iload 4, 2) := by decide +kernel
theorem dX5_firstHad_20 : decode cX5_firstHad 20 = .ok (.aaload, 1) := by decide +kernel
theorem dX5_firstHad_21 : decode cX5_firstHad 21 = .ok (.getfield 172, 3) := by decide +kernel
theorem dX5_firstHad_24 : decode cX5_firstHad 24 = .ok (.iload_n 1, 1) := by decide +kernel
theorem dX5_firstHad_25 : decode cX5_firstHad 25 = .ok (.if_icmp .ne 47, 3) := by decide +kernel
theorem dX5_firstHad_28 : decode cX5_firstHad 28 = .ok (.aload_n 0, 1) := by decide +kernel
theorem dX5_firstHad_29 : decode cX5_firstHad 29 = .ok (.getfield 32, 3) := by decide +kernel
theorem dX5_firstHad_32 : decode cX5_firstHad 32 = .ok (.iload 4, 2) := by decide +kernel
theorem dX5_firstHad_34 : decode cX5_firstHad 34 = .ok (.aaload, 1) := by decide +kernel
theorem dX5_firstHad_35 : decode cX5_firstHad 35 = .ok (.getfield 162, 3) := by decide +kernel
theorem dX5_firstHad_38 : decode cX5_firstHad 38 = .ok (.iload_n 2, 1) := by decide +kernel
theorem dX5_firstHad_39 : decode cX5_firstHad 39 = .ok (.iaload, 1) := by decide +kernel
theorem dX5_firstHad_40 : decode cX5_firstHad 40 = .ok (.iconst (-1), 1) := by decide +kernel
theorem dX5_firstHad_41 : decode cX5_firstHad 41 = .ok (.if_icmp .eq 31, 3) := by decide +kernel
theorem dX5_firstHad_44 : decode cX5_firstHad 44 = .ok (.aload_n 0, 1) := by decide +kernel
theorem dX5_firstHad_45 : decode cX5_firstHad 45 = .ok (.iload 4, 2) := by decide +kernel
theorem dX5_firstHad_47 : decode cX5_firstHad 47 = .ok (.invokevirtual 415, 3) := by decide +kernel
theorem dX5_firstHad_50 : decode cX5_firstHad 50 = .ok (.istore 5, 2) := by decide +kernel
theorem dX5_firstHad_52 : decode cX5_firstHad 52 = .ok (.iload 5, 2) := by decide +kernel
theorem dX5_firstHad_54 : decode cX5_firstHad 54 = .ok (.iconst (-1), 1) := by decide +kernel
theorem dX5_firstHad_55 : decode cX5_firstHad 55 = .ok (.if_icmp .eq 17, 3) := by decide +kernel
theorem dX5_firstHad_58 : decode cX5_firstHad 58 = .ok (.iload_n 3, 1) := by decide +kernel
theorem dX5_firstHad_59 : decode cX5_firstHad 59 = .ok (.iconst (-1), 1) := by decide +kernel
theorem dX5_firstHad_60 : decode cX5_firstHad 60 = .ok (.if_icmp .eq 9, 3) := by decide +kernel
theorem dX5_firstHad_63 : decode cX5_firstHad 63 = .ok (.iload 5, 2) := by decide +kernel
theorem dX5_firstHad_65 : decode cX5_firstHad 65 = .ok (.iload_n 3, 1) := by decide +kernel
theorem dX5_firstHad_66 : decode cX5_firstHad 66 = .ok (.if_icmp .ge 6, 3) := by decide +kernel
theorem dX5_firstHad_69 : decode cX5_firstHad 69 = .ok (.iload 5, 2) := by decide +kernel
theorem dX5_firstHad_71 : decode cX5_firstHad 71 = .ok (.istore_n 3, 1) := by decide +kernel
theorem dX5_firstHad_72 : decode cX5_firstHad 72 = .ok (.iinc 4 1, 3) := by decide +kernel
theorem dX5_firstHad_75 : decode cX5_firstHad 75 = .ok (.goto (-70), 3) := by decide +kernel
theorem dX5_firstHad_78 : decode cX5_firstHad 78 = .ok (.iload_n 3, 1) := by decide +kernel
theorem dX5_firstHad_79 : decode cX5_firstHad 79 = .ok (.ireturn, 1) := by decide +kernel
theorem dX5_firstHadAnywhere_0 : decode cX5_firstHadAnywhere 0 = .ok (.iconst (-1), 1) := by decide +kernel
theorem dX5_firstHadAnywhere_1 : decode cX5_firstHadAnywhere 1 = .ok (.istore_n 2, 1) := by decide +kernel
theorem dX5_firstHadAnywhere_2 : decode cX5_firstHadAnywhere 2 = .ok (.iconst 0, 1) := by decide +kernel
theorem dX5_firstHadAnywhere_3 : decode cX5_firstHadAnywhere 3 = .ok (.istore_n 3, 1) := by decide +kernel
theorem dX5_firstHadAnywhere_4 : decode cX5_firstHadAnywhere 4 = .ok (.iload_n 3, 1) := by decide +kernel
theorem dX5_firstHadAnywhere_5 : decode cX5_firstHadAnywhere 5 = .ok (.aload_n 0, 1) := by decide +kernel
theorem dX5_firstHadAnywhere_6 : decode cX5_firstHadAnywhere 6 = .ok (.getfield 80, 3) := by decide +kernel
theorem dX5_firstHadAnywhere_9 : decode cX5_firstHadAnywhere 9 = .ok (.if_icmp .ge 63, 3) := by decide +kernel
theorem dX5_firstHadAnywhere_12 : decode cX5_firstHadAnywhere 12 = .ok (.aload_n 0, 1) := by decide +kernel
theorem dX5_firstHadAnywhere_13 : decode cX5_firstHadAnywhere 13 = .ok (.getfield 39, 3) := by decide +kernel
theorem dX5_firstHadAnywhere_16 : decode cX5_firstHadAnywhere 16 = .ok (.iload_n 3, 1) := by decide +kernel
theorem dX5_firstHadAnywhere_17 : decode cX5_firstHadAnywhere 17 = .ok (.aaload, 1) := by decide +kernel
theorem dX5_firstHadAnywhere_18 : decode cX5_firstHadAnywhere 18 = .ok (.iload_n 1, 1) := by decide +kernel
theorem dX5_firstHadAnywhere_19 : decode cX5_firstHadAnywhere 19 = .ok (.aload_n 0, 1) := by decide +kernel
theorem dX5_firstHadAnywhere_20 : decode cX5_firstHadAnywhere 20 = .ok (.getfield 123, 3) := by decide +kernel
theorem dX5_firstHadAnywhere_23 : decode cX5_firstHadAnywhere 23 = .ok (.invokevirtual 257, 3) := by decide +kernel
theorem dX5_firstHadAnywhere_26 : decode cX5_firstHadAnywhere 26 = .ok (.ifCond .eq 40, 3) := by decide +kernel
theorem dX5_firstHadAnywhere_29 : decode cX5_firstHadAnywhere 29 = .ok (.aload_n 0, 1) := by decide +kernel
theorem dX5_firstHadAnywhere_30 : decode cX5_firstHadAnywhere 30 = .ok (.getfield 39, 3) := by decide +kernel
theorem dX5_firstHadAnywhere_33 : decode cX5_firstHadAnywhere 33 = .ok (.iload_n 3, 1) := by decide +kernel
theorem dX5_firstHadAnywhere_34 : decode cX5_firstHadAnywhere 34 = .ok (.aaload, 1) := by decide +kernel
theorem dX5_firstHadAnywhere_35 : decode cX5_firstHadAnywhere 35 = .ok (.getfield 307, 3) := by decide +kernel
theorem dX5_firstHadAnywhere_38 : decode cX5_firstHadAnywhere 38 = .ok (.iload_n 1, 1) := by decide +kernel
theorem dX5_firstHadAnywhere_39 : decode cX5_firstHadAnywhere 39 = .ok (.iaload, 1) := by decide +kernel
theorem dX5_firstHadAnywhere_40 : decode cX5_firstHadAnywhere 40 = .ok (.aload_n 0, 1) := by decide +kernel
theorem dX5_firstHadAnywhere_41 : decode cX5_firstHadAnywhere 41 = .ok (.getfield 39, 3) := by decide +kernel
theorem dX5_firstHadAnywhere_44 : decode cX5_firstHadAnywhere 44 = .ok (.iload_n 3, 1) := by decide +kernel
theorem dX5_firstHadAnywhere_45 : decode cX5_firstHadAnywhere 45 = .ok (.aaload, 1) := by decide +kernel
theorem dX5_firstHadAnywhere_46 : decode cX5_firstHadAnywhere 46 = .ok (.getfield 88, 3) := by decide +kernel
theorem dX5_firstHadAnywhere_49 : decode cX5_firstHadAnywhere 49 = .ok (.iadd, 1) := by decide +kernel
theorem dX5_firstHadAnywhere_50 : decode cX5_firstHadAnywhere 50 = .ok (.istore 4, 2) := by decide +kernel
theorem dX5_firstHadAnywhere_52 : decode cX5_firstHadAnywhere 52 = .ok (.iload_n 2, 1) := by decide +kernel
theorem dX5_firstHadAnywhere_53 : decode cX5_firstHadAnywhere 53 = .ok (.iconst (-1), 1) := by decide +kernel
theorem dX5_firstHadAnywhere_54 : decode cX5_firstHadAnywhere 54 = .ok (.if_icmp .eq 9, 3) := by decide +kernel
theorem dX5_firstHadAnywhere_57 : decode cX5_firstHadAnywhere 57 = .ok (.iload 4, 2) := by decide +kernel
theorem dX5_firstHadAnywhere_59 : decode cX5_firstHadAnywhere 59 = .ok (.iload_n 2, 1) := by decide +kernel
theorem dX5_firstHadAnywhere_60 : decode cX5_firstHadAnywhere 60 = .ok (.if_icmp .ge 6, 3) := by decide +kernel
theorem dX5_firstHadAnywhere_63 : decode cX5_firstHadAnywhere 63 = .ok (.iload 4, 2) := by decide +kernel
theorem dX5_firstHadAnywhere_65 : decode cX5_firstHadAnywhere 65 = .ok (.istore_n 2, 1) := by decide +kernel
theorem dX5_firstHadAnywhere_66 : decode cX5_firstHadAnywhere 66 = .ok (.iinc 3 1, 3) := by decide +kernel
theorem dX5_firstHadAnywhere_69 : decode cX5_firstHadAnywhere 69 = .ok (.goto (-65), 3) := by decide +kernel
theorem dX5_firstHadAnywhere_72 : decode cX5_firstHadAnywhere 72 = .ok (.iload_n 2, 1) := by decide +kernel
theorem dX5_firstHadAnywhere_73 : decode cX5_firstHadAnywhere 73 = .ok (.ireturn, 1) := by decide +kernel
theorem dX5_isFirst_0 : decode cX5_isFirst 0 = .ok (.aload_n 0, 1) := by decide +kernel
theorem dX5_isFirst_1 : decode cX5_isFirst 1 = .ok (.iload_n 1, 1) := by decide +kernel
theorem dX5_isFirst_2 : decode cX5_isFirst 2 = .ok (.iload_n 2, 1) := by decide +kernel
theorem dX5_isFirst_3 : decode cX5_isFirst 3 = .ok (.invokevirtual 213, 3) := by decide +kernel
theorem dX5_isFirst_6 : decode cX5_isFirst 6 = .ok (.istore_n 3, 1) := by decide +kernel
theorem dX5_isFirst_7 : decode cX5_isFirst 7 = .ok (.aload_n 0, 1) := by decide +kernel
theorem dX5_isFirst_8 : decode cX5_isFirst 8 = .ok (.iload_n 1, 1) := by decide +kernel
theorem dX5_isFirst_9 : decode cX5_isFirst 9 = .ok (.iload_n 2, 1) := by decide +kernel
theorem dX5_isFirst_10 : decode cX5_isFirst 10 = .ok (.invokevirtual 98, 3) := by decide +kernel
theorem dX5_isFirst_13 : decode cX5_isFirst 13 = .ok (.getfield 120, 3) := by decide +kernel
theorem dX5_isFirst_16 : decode cX5_isFirst 16 = .ok (.istore 4, 2) := by decide +kernel
theorem dX5_isFirst_18 : decode cX5_isFirst 18 = .ok (.iload_n 3, 1) := by decide +kernel
theorem dX5_isFirst_19 : decode cX5_isFirst 19 = .ok (.iconst (-1), 1) := by decide +kernel
theorem dX5_isFirst_20 : decode cX5_isFirst 20 = .ok (.if_icmp .eq 19, 3) := by decide +kernel
theorem dX5_isFirst_23 : decode cX5_isFirst 23 = .ok (.iload 4, 2) := by decide +kernel
theorem dX5_isFirst_25 : decode cX5_isFirst 25 = .ok (.iconst (-1), 1) := by decide +kernel
theorem dX5_isFirst_26 : decode cX5_isFirst 26 = .ok (.if_icmp .eq 9, 3) := by decide +kernel
theorem dX5_isFirst_29 : decode cX5_isFirst 29 = .ok (.iload_n 3, 1) := by decide +kernel
theorem dX5_isFirst_30 : decode cX5_isFirst 30 = .ok (.iload 4, 2) := by decide +kernel
theorem dX5_isFirst_32 : decode cX5_isFirst 32 = .ok (.if_icmp .ge 7, 3) := by decide +kernel
theorem dX5_isFirst_35 : decode cX5_isFirst 35 = .ok (.iconst 1, 1) := by decide +kernel
theorem dX5_isFirst_36 : decode cX5_isFirst 36 = .ok (.goto 4, 3) := by decide +kernel
theorem dX5_isFirst_39 : decode cX5_isFirst 39 = .ok (.iconst 0, 1) := by decide +kernel
theorem dX5_isFirst_40 : decode cX5_isFirst 40 = .ok (.ireturn, 1) := by decide +kernel
theorem dX5_countTruths_0 : decode cX5_countTruths 0 = .ok (.iconst 0, 1) := by decide +kernel
theorem dX5_countTruths_1 : decode cX5_countTruths 1 = .ok (.istore_n 1, 1) := by decide +kernel
theorem dX5_countTruths_2 : decode cX5_countTruths 2 = .ok (.iconst 0, 1) := by decide +kernel
theorem dX5_countTruths_3 : decode cX5_countTruths 3 = .ok (.istore_n 2, 1) := by decide +kernel
theorem dX5_countTruths_4 : decode cX5_countTruths 4 = .ok (.iload_n 2, 1) := by decide +kernel
theorem dX5_countTruths_5 : decode cX5_countTruths 5 = .ok (.aload_n 0, 1) := by decide +kernel
theorem dX5_countTruths_6 : decode cX5_countTruths 6 = .ok (.getfield 70, 3) := by decide +kernel
theorem dX5_countTruths_9 : decode cX5_countTruths 9 = .ok (.iconst 4, 1) := by decide +kernel
theorem dX5_countTruths_10 : decode cX5_countTruths 10 = .ok (.imul, 1) := by decide +kernel
theorem dX5_countTruths_11 : decode cX5_countTruths 11 = .ok (.if_icmp .ge 25, 3) := by decide +kernel
theorem dX5_countTruths_14 : decode cX5_countTruths 14 = .ok (.aload_n 0, 1) := by decide +kernel
theorem dX5_countTruths_15 : decode cX5_countTruths 15 = .ok (.getfield 25, 3) := by decide +kernel
theorem dX5_countTruths_18 : decode cX5_countTruths 18 = .ok (.iload_n 2, 1) := by decide +kernel
theorem dX5_countTruths_19 : decode cX5_countTruths 19 = .ok (.aaload, 1) := by decide +kernel
theorem dX5_countTruths_20 : decode cX5_countTruths 20 = .ok (.getfield 175, 3) := by decide +kernel
theorem dX5_countTruths_23 : decode cX5_countTruths 23 = .ok (.iconst (-1), 1) := by decide +kernel
theorem dX5_countTruths_24 : decode cX5_countTruths 24 = .ok (.if_icmp .eq 6, 3) := by decide +kernel
theorem dX5_countTruths_27 : decode cX5_countTruths 27 = .ok (.iinc 1 1, 3) := by decide +kernel
theorem dX5_countTruths_30 : decode cX5_countTruths 30 = .ok (.iinc 2 1, 3) := by decide +kernel
theorem dX5_countTruths_33 : decode cX5_countTruths 33 = .ok (.goto (-29), 3) := by decide +kernel
theorem dX5_countTruths_36 : decode cX5_countTruths 36 = .ok (.iload_n 1, 1) := by decide +kernel
theorem dX5_countTruths_37 : decode cX5_countTruths 37 = .ok (.ireturn, 1) := by decide +kernel
theorem dX5_countUnproven_0 : decode cX5_countUnproven 0 = .ok (.iconst 0, 1) := by decide +kernel
theorem dX5_countUnproven_1 : decode cX5_countUnproven 1 = .ok (.istore_n 1, 1) := by decide +kernel
theorem dX5_countUnproven_2 : decode cX5_countUnproven 2 = .ok (.iconst 0, 1) := by decide +kernel
theorem dX5_countUnproven_3 : decode cX5_countUnproven 3 = .ok (.istore_n 2, 1) := by decide +kernel
theorem dX5_countUnproven_4 : decode cX5_countUnproven 4 = .ok (.iload_n 2, 1) := by decide +kernel
theorem dX5_countUnproven_5 : decode cX5_countUnproven 5 = .ok (.aload_n 0, 1) := by decide +kernel
theorem dX5_countUnproven_6 : decode cX5_countUnproven 6 = .ok (.getfield 70, 3) := by decide +kernel
theorem dX5_countUnproven_9 : decode cX5_countUnproven 9 = .ok (.iconst 4, 1) := by decide +kernel
theorem dX5_countUnproven_10 : decode cX5_countUnproven 10 = .ok (.imul, 1) := by decide +kernel
theorem dX5_countUnproven_11 : decode cX5_countUnproven 11 = .ok (.if_icmp .ge 38, 3) := by decide +kernel
theorem dX5_countUnproven_14 : decode cX5_countUnproven 14 = .ok (.aload_n 0, 1) := by decide +kernel
theorem dX5_countUnproven_15 : decode cX5_countUnproven 15 = .ok (.getfield 25, 3) := by decide +kernel
theorem dX5_countUnproven_18 : decode cX5_countUnproven 18 = .ok (.iload_n 2, 1) := by decide +kernel
theorem dX5_countUnproven_19 : decode cX5_countUnproven 19 = .ok (.aaload, 1) := by decide +kernel
theorem dX5_countUnproven_20 : decode cX5_countUnproven 20 = .ok (.getfield 175, 3) := by decide +kernel
theorem dX5_countUnproven_23 : decode cX5_countUnproven 23 = .ok (.iconst (-1), 1) := by decide +kernel
theorem dX5_countUnproven_24 : decode cX5_countUnproven 24 = .ok (.if_icmp .ne 19, 3) := by decide +kernel
theorem dX5_countUnproven_27 : decode cX5_countUnproven 27 = .ok (.aload_n 0, 1) := by decide +kernel
theorem dX5_countUnproven_28 : decode cX5_countUnproven 28 = .ok (.getfield 25, 3) := by decide +kernel
theorem dX5_countUnproven_31 : decode cX5_countUnproven 31 = .ok (.iload_n 2, 1) := by decide +kernel
theorem dX5_countUnproven_32 : decode cX5_countUnproven 32 = .ok (.aaload, 1) := by decide +kernel
theorem dX5_countUnproven_33 : decode cX5_countUnproven 33 = .ok (.getfield 204, 3) := by decide +kernel
theorem dX5_countUnproven_36 : decode cX5_countUnproven 36 = .ok (.iconst (-1), 1) := by decide +kernel
theorem dX5_countUnproven_37 : decode cX5_countUnproven 37 = .ok (.if_icmp .eq 6, 3) := by decide +kernel
theorem dX5_countUnproven_40 : decode cX5_countUnproven 40 = .ok (.iinc 1 1, 3) := by decide +kernel
theorem dX5_countUnproven_43 : decode cX5_countUnproven 43 = .ok (.iinc 2 1, 3) := by decide +kernel
theorem dX5_countUnproven_46 : decode cX5_countUnproven 46 = .ok (.goto (-42), 3) := by decide +kernel
theorem dX5_countUnproven_49 : decode cX5_countUnproven 49 = .ok (.iload_n 1, 1) := by decide +kernel
theorem dX5_countUnproven_50 : decode cX5_countUnproven 50 = .ok (.ireturn, 1) := by decide +kernel
theorem dX5_countFirsts_0 : decode cX5_countFirsts 0 = .ok (.iconst 0, 1) := by decide +kernel
theorem dX5_countFirsts_1 : decode cX5_countFirsts 1 = .ok (.istore_n 1, 1) := by decide +kernel
theorem dX5_countFirsts_2 : decode cX5_countFirsts 2 = .ok (.iconst 0, 1) := by decide +kernel
theorem dX5_countFirsts_3 : decode cX5_countFirsts 3 = .ok (.istore_n 2, 1) := by decide +kernel
theorem dX5_countFirsts_4 : decode cX5_countFirsts 4 = .ok (.iload_n 2, 1) := by decide +kernel
theorem dX5_countFirsts_5 : decode cX5_countFirsts 5 = .ok (.aload_n 0, 1) := by decide +kernel
theorem dX5_countFirsts_6 : decode cX5_countFirsts 6 = .ok (.getfield 70, 3) := by decide +kernel
theorem dX5_countFirsts_9 : decode cX5_countFirsts 9 = .ok (.if_icmp .ge 34, 3) := by decide +kernel
theorem dX5_countFirsts_12 : decode cX5_countFirsts 12 = .ok (.iconst 0, 1) := by decide +kernel
theorem dX5_countFirsts_13 : decode cX5_countFirsts 13 = .ok (.istore_n 3, 1) := by decide +kernel
theorem dX5_countFirsts_14 : decode cX5_countFirsts 14 = .ok (.iload_n 3, 1) := by decide +kernel
theorem dX5_countFirsts_15 : decode cX5_countFirsts 15 = .ok (.iconst 4, 1) := by decide +kernel
theorem dX5_countFirsts_16 : decode cX5_countFirsts 16 = .ok (.if_icmp .ge 21, 3) := by decide +kernel
theorem dX5_countFirsts_19 : decode cX5_countFirsts 19 = .ok (.aload_n 0, 1) := by decide +kernel
theorem dX5_countFirsts_20 : decode cX5_countFirsts 20 = .ok (.iload_n 2, 1) := by decide +kernel
theorem dX5_countFirsts_21 : decode cX5_countFirsts 21 = .ok (.iload_n 3, 1) := by decide +kernel
theorem dX5_countFirsts_22 : decode cX5_countFirsts 22 = .ok (.invokevirtual 216, 3) := by decide +kernel
theorem dX5_countFirsts_25 : decode cX5_countFirsts 25 = .ok (.ifCond .eq 6, 3) := by decide +kernel
theorem dX5_countFirsts_28 : decode cX5_countFirsts 28 = .ok (.iinc 1 1, 3) := by decide +kernel
theorem dX5_countFirsts_31 : decode cX5_countFirsts 31 = .ok (.iinc 3 1, 3) := by decide +kernel
theorem dX5_countFirsts_34 : decode cX5_countFirsts 34 = .ok (.goto (-20), 3) := by decide +kernel
theorem dX5_countFirsts_37 : decode cX5_countFirsts 37 = .ok (.iinc 2 1, 3) := by decide +kernel
theorem dX5_countFirsts_40 : decode cX5_countFirsts 40 = .ok (.goto (-36), 3) := by decide +kernel
theorem dX5_countFirsts_43 : decode cX5_countFirsts 43 = .ok (.iload_n 1, 1) := by decide +kernel
theorem dX5_countFirsts_44 : decode cX5_countFirsts 44 = .ok (.ireturn, 1) := by decide +kernel
theorem dX5_wordsFor_0 : decode cX5_wordsFor 0 = .ok (.iload_n 0, 1) := by decide +kernel
theorem dX5_wordsFor_1 : decode cX5_wordsFor 1 = .ok (.tableswitch 50 0 3 #[31, 34, 36, 39], 31) := by decide +kernel
theorem dX5_wordsFor_32 : decode cX5_wordsFor 32 = .ok (.bipush 8, 2) := by decide +kernel
theorem dX5_wordsFor_34 : decode cX5_wordsFor 34 = .ok (.ireturn, 1) := by decide +kernel
theorem dX5_wordsFor_35 : decode cX5_wordsFor 35 = .ok (.iconst 5, 1) := by decide +kernel
theorem dX5_wordsFor_36 : decode cX5_wordsFor 36 = .ok (.ireturn, 1) := by decide +kernel
theorem dX5_wordsFor_37 : decode cX5_wordsFor 37 = .ok (.bipush 15, 2) := by decide +kernel
theorem dX5_wordsFor_39 : decode cX5_wordsFor 39 = .ok (.ireturn, 1) := by decide +kernel
theorem dX5_wordsFor_40 : decode cX5_wordsFor 40 = .ok (.bipush 20, 2) := by decide +kernel
theorem dX5_wordsFor_42 : decode cX5_wordsFor 42 = .ok (.bipush 15, 2) := by decide +kernel
theorem dX5_wordsFor_44 : decode cX5_wordsFor 44 = .ok (.iload_n 1, 1) := by decide +kernel
theorem dX5_wordsFor_45 : decode cX5_wordsFor 45 = .ok (.invokestatic 146, 3) := by decide +kernel
theorem dX5_wordsFor_48 : decode cX5_wordsFor 48 = .ok (.imul, 1) := by decide +kernel
theorem dX5_wordsFor_49 : decode cX5_wordsFor 49 = .ok (.iadd, 1) := by decide +kernel
theorem dX5_wordsFor_50 : decode cX5_wordsFor 50 = .ok (.ireturn, 1) := by decide +kernel
theorem dX5_wordsFor_51 : decode cX5_wordsFor 51 = .ok (.bipush 60, 2) := by decide +kernel
theorem dX5_wordsFor_53 : decode cX5_wordsFor 53 = .ok (.bipush 30, 2) := by decide +kernel
theorem dX5_wordsFor_55 : decode cX5_wordsFor 55 = .ok (.iload_n 1, 1) := by decide +kernel
theorem dX5_wordsFor_56 : decode cX5_wordsFor 56 = .ok (.invokestatic 146, 3) := by decide +kernel
theorem dX5_wordsFor_59 : decode cX5_wordsFor 59 = .ok (.imul, 1) := by decide +kernel
theorem dX5_wordsFor_60 : decode cX5_wordsFor 60 = .ok (.iadd, 1) := by decide +kernel
theorem dX5_wordsFor_61 : decode cX5_wordsFor 61 = .ok (.ireturn, 1) := by decide +kernel
theorem dX5_addTake_0 : decode cX5_addTake 0 = .ok (.aload_n 0, 1) := by decide +kernel
theorem dX5_addTake_1 : decode cX5_addTake 1 = .ok (.getfield 284, 3) := by decide +kernel
theorem dX5_addTake_4 : decode cX5_addTake 4 = .ok (.istore 7, 2) := by decide +kernel
theorem dX5_addTake_6 : decode cX5_addTake 6 = .ok (.aload_n 0, 1) := by decide +kernel
theorem dX5_addTake_7 : decode cX5_addTake 7 = .ok (.dup, 1) := by decide +kernel
theorem dX5_addTake_8 : decode cX5_addTake 8 = .ok (.getfield 284, 3) := by decide +kernel
theorem dX5_addTake_11 : decode cX5_addTake 11 = .ok (.iconst 1, 1) := by decide +kernel
theorem dX5_addTake_12 : decode cX5_addTake 12 = .ok (.iadd, 1) := by decide +kernel
theorem dX5_addTake_13 : decode cX5_addTake 13 = .ok (.putfield 284, 3) := by decide +kernel
theorem dX5_addTake_16 : decode cX5_addTake 16 = .ok (.aload_n 0, 1) := by decide +kernel
theorem dX5_addTake_17 : decode cX5_addTake 17 = .ok (.getfield 32, 3) := by decide +kernel
theorem dX5_addTake_20 : decode cX5_addTake 20 = .ok (.iload 7, 2) := by decide +kernel
theorem dX5_addTake_22 : decode cX5_addTake 22 = .ok (.aaload, 1) := by decide +kernel
theorem dX5_addTake_23 : decode cX5_addTake 23 = .ok (.astore 8, 2) := by decide +kernel
theorem dX5_addTake_25 : decode cX5_addTake 25 = .ok (.aload 8, 2) := by decide +kernel
theorem dX5_addTake_27 : decode cX5_addTake 27 = .ok (.iload_n 1, 1) := by decide +kernel
theorem dX5_addTake_28 : decode cX5_addTake 28 = .ok (.putfield 172, 3) := by decide +kernel
theorem dX5_addTake_31 : decode cX5_addTake 31 = .ok (.aload 8, 2) := by decide +kernel
theorem dX5_addTake_33 : decode cX5_addTake 33 = .ok (.iload_n 2, 1) := by decide +kernel
theorem dX5_addTake_34 : decode cX5_addTake 34 = .ok (.putfield 178, 3) := by decide +kernel
theorem dX5_addTake_37 : decode cX5_addTake 37 = .ok (.aload 8, 2) := by decide +kernel
theorem dX5_addTake_39 : decode cX5_addTake 39 = .ok (.iload_n 3, 1) := by decide +kernel
theorem dX5_addTake_40 : decode cX5_addTake 40 = .ok (.putfield 225, 3) := by decide +kernel
theorem dX5_addTake_43 : decode cX5_addTake 43 = .ok (.aload 8, 2) := by decide +kernel
theorem dX5_addTake_45 : decode cX5_addTake 45 = .ok (.iload_n 2, 1) := by decide +kernel
theorem dX5_addTake_46 : decode cX5_addTake 46 = .ok (.iload_n 3, 1) := by decide +kernel
theorem dX5_addTake_47 : decode cX5_addTake 47 = .ok (.invokestatic 337, 3) := by decide +kernel
theorem dX5_addTake_50 : decode cX5_addTake 50 = .ok (.putfield 228, 3) := by decide +kernel
theorem dX5_addTake_53 : decode cX5_addTake 53 = .ok (.aload 8, 2) := by decide +kernel
theorem dX5_addTake_55 : decode cX5_addTake 55 = .ok (.iload 4, 2) := by decide +kernel
theorem dX5_addTake_57 : decode cX5_addTake 57 = .ok (.putfield 234, 3) := by decide +kernel
theorem dX5_addTake_60 : decode cX5_addTake 60 = .ok (.aload 8, 2) := by decide +kernel
theorem dX5_addTake_62 : decode cX5_addTake 62 = .ok (.iload 5, 2) := by decide +kernel
theorem dX5_addTake_64 : decode cX5_addTake 64 = .ok (.putfield 231, 3) := by decide +kernel
theorem dX5_addTake_67 : decode cX5_addTake 67 = .ok (.aload 8, 2) := by decide +kernel
theorem dX5_addTake_69 : decode cX5_addTake 69 = .ok (.iload 6, 2) := by decide +kernel
theorem dX5_addTake_71 : decode cX5_addTake 71 = .ok (.putfield 238, 3) := by decide +kernel
theorem dX5_addTake_74 : decode cX5_addTake 74 = .ok (.aload 8, 2) := by decide +kernel
theorem dX5_addTake_76 : decode cX5_addTake 76 = .ok (.aload_n 0, 1) := by decide +kernel
theorem dX5_addTake_77 : decode cX5_addTake 77 = .ok (.getfield 123, 3) := by decide +kernel
theorem dX5_addTake_80 : decode cX5_addTake 80 = .ok (.putfield 241, 3) := by decide +kernel
theorem dX5_addTake_83 : decode cX5_addTake 83 = .ok (.iconst 0, 1) := by decide +kernel
theorem dX5_addTake_84 : decode cX5_addTake 84 = .ok (.istore 9, 2) := by decide +kernel
theorem dX5_addTake_86 : decode cX5_addTake 86 = .ok (.iload 9, 2) := by decide +kernel
theorem dX5_addTake_88 : decode cX5_addTake 88 = .ok (.iconst 4, 1) := by decide +kernel
theorem dX5_addTake_89 : decode cX5_addTake 89 = .ok (.if_icmp .ge 42, 3) := by decide +kernel
theorem dX5_addTake_92 : decode cX5_addTake 92 = .ok (.aload 8, 2) := by decide +kernel
theorem dX5_addTake_94 : decode cX5_addTake 94 = .ok (.getfield 162, 3) := by decide +kernel
theorem dX5_addTake_97 : decode cX5_addTake 97 = .ok (.iload 9, 2) := by decide +kernel
theorem dX5_addTake_99 : decode cX5_addTake 99 = .ok (.iload_n 3, 1) := by decide +kernel
theorem dX5_addTake_100 : decode cX5_addTake 100 = .ok (.iload 9, 2) := by decide +kernel
theorem dX5_addTake_102 : decode cX5_addTake 102 = .ok (.invokestatic 405, 3) := by decide +kernel
theorem dX5_addTake_105 : decode cX5_addTake 105 = .ok (.ifCond .eq 18, 3) := by decide +kernel
theorem dX5_addTake_108 : decode cX5_addTake 108 = .ok (.aload_n 0, 1) := by decide +kernel
theorem dX5_addTake_109 : decode cX5_addTake 109 = .ok (.iload_n 1, 1) := by decide +kernel
theorem dX5_addTake_110 : decode cX5_addTake 110 = .ok (.iload 9, 2) := by decide +kernel
theorem dX5_addTake_112 : decode cX5_addTake 112 = .ok (.invokevirtual 98, 3) := by decide +kernel
theorem dX5_addTake_115 : decode cX5_addTake 115 = .ok (.iload 4, 2) := by decide +kernel
theorem dX5_addTake_117 : decode cX5_addTake 117 = .ok (.invokevirtual 408, 3) := by decide +kernel
theorem dX5_addTake_120 : decode cX5_addTake 120 = .ok (.goto 4, 3) := by decide +kernel
theorem dX5_addTake_123 : decode cX5_addTake 123 = .ok (.iconst (-1), 1) := by decide +kernel
theorem dX5_addTake_124 : decode cX5_addTake 124 = .ok (.iastore, 1) := by decide +kernel
theorem dX5_addTake_125 : decode cX5_addTake 125 = .ok (.iinc 9 1, 3) := by decide +kernel
theorem dX5_addTake_128 : decode cX5_addTake 128 = .ok (.goto (-42), 3) := by decide +kernel
theorem dX5_addTake_131 : decode cX5_addTake 131 = .ok (.iload 7, 2) := by decide +kernel
theorem dX5_addTake_133 : decode cX5_addTake 133 = .ok (.ireturn, 1) := by decide +kernel
theorem dX5_runOnAllLines_0 : decode cX5_runOnAllLines 0 = .ok (.iconst 0, 1) := by decide +kernel
theorem dX5_runOnAllLines_1 : decode cX5_runOnAllLines 1 = .ok (.istore_n 2, 1) := by decide +kernel
theorem dX5_runOnAllLines_2 : decode cX5_runOnAllLines 2 = .ok (.iload_n 2, 1) := by decide +kernel
theorem dX5_runOnAllLines_3 : decode cX5_runOnAllLines 3 = .ok (.aload_n 0, 1) := by decide +kernel
theorem dX5_runOnAllLines_4 : decode cX5_runOnAllLines 4 = .ok (.getfield 80, 3) := by decide +kernel
theorem dX5_runOnAllLines_7 : decode cX5_runOnAllLines 7 = .ok (.if_icmp .ge 25, 3) := by decide +kernel
theorem dX5_runOnAllLines_10 : decode cX5_runOnAllLines 10 = .ok (.aload_n 0, 1) := by decide +kernel
theorem dX5_runOnAllLines_11 : decode cX5_runOnAllLines 11 = .ok (.getfield 39, 3) := by decide +kernel
theorem dX5_runOnAllLines_14 : decode cX5_runOnAllLines 14 = .ok (.iload_n 2, 1) := by decide +kernel
theorem dX5_runOnAllLines_15 : decode cX5_runOnAllLines 15 = .ok (.aaload, 1) := by decide +kernel
theorem dX5_runOnAllLines_16 : decode cX5_runOnAllLines 16 = .ok (.iload_n 1, 1) := by decide +kernel
theorem dX5_runOnAllLines_17 : decode cX5_runOnAllLines 17 = .ok (.aload_n 0, 1) := by decide +kernel
theorem dX5_runOnAllLines_18 : decode cX5_runOnAllLines 18 = .ok (.getfield 32, 3) := by decide +kernel
theorem dX5_runOnAllLines_21 : decode cX5_runOnAllLines 21 = .ok (.iload_n 1, 1) := by decide +kernel
theorem dX5_runOnAllLines_22 : decode cX5_runOnAllLines 22 = .ok (.aaload, 1) := by decide +kernel
theorem dX5_runOnAllLines_23 : decode cX5_runOnAllLines 23 = .ok (.invokevirtual 187, 3) := by decide +kernel
theorem dX5_runOnAllLines_26 : decode cX5_runOnAllLines 26 = .ok (.iinc 2 1, 3) := by decide +kernel
theorem dX5_runOnAllLines_29 : decode cX5_runOnAllLines 29 = .ok (.goto (-27), 3) := by decide +kernel
theorem dX5_runOnAllLines_32 : decode cX5_runOnAllLines 32 = .ok (.return_, 1) := by decide +kernel
theorem dX5_countKilled_0 : decode cX5_countKilled 0 = .ok (.iconst 0, 1) := by decide +kernel
theorem dX5_countKilled_1 : decode cX5_countKilled 1 = .ok (.istore_n 1, 1) := by decide +kernel
theorem dX5_countKilled_2 : decode cX5_countKilled 2 = .ok (.iconst 0, 1) := by decide +kernel
theorem dX5_countKilled_3 : decode cX5_countKilled 3 = .ok (.istore_n 2, 1) := by decide +kernel
theorem dX5_countKilled_4 : decode cX5_countKilled 4 = .ok (.iload_n 2, 1) := by decide +kernel
theorem dX5_countKilled_5 : decode cX5_countKilled 5 = .ok (.aload_n 0, 1) := by decide +kernel
theorem dX5_countKilled_6 : decode cX5_countKilled 6 = .ok (.getfield 284, 3) := by decide +kernel
theorem dX5_countKilled_9 : decode cX5_countKilled 9 = .ok (.if_icmp .ge 25, 3) := by decide +kernel
theorem dX5_countKilled_12 : decode cX5_countKilled 12 = .ok (.aload_n 0, 1) := by decide +kernel
theorem dX5_countKilled_13 : decode cX5_countKilled 13 = .ok (.getfield 32, 3) := by decide +kernel
theorem dX5_countKilled_16 : decode cX5_countKilled 16 = .ok (.iload_n 2, 1) := by decide +kernel
theorem dX5_countKilled_17 : decode cX5_countKilled 17 = .ok (.aaload, 1) := by decide +kernel
theorem dX5_countKilled_18 : decode cX5_countKilled 18 = .ok (.getfield 167, 3) := by decide +kernel
theorem dX5_countKilled_21 : decode cX5_countKilled 21 = .ok (.iconst (-1), 1) := by decide +kernel
theorem dX5_countKilled_22 : decode cX5_countKilled 22 = .ok (.if_icmp .eq 6, 3) := by decide +kernel
theorem dX5_countKilled_25 : decode cX5_countKilled 25 = .ok (.iinc 1 1, 3) := by decide +kernel
theorem dX5_countKilled_28 : decode cX5_countKilled 28 = .ok (.iinc 2 1, 3) := by decide +kernel
theorem dX5_countKilled_31 : decode cX5_countKilled 31 = .ok (.goto (-27), 3) := by decide +kernel
theorem dX5_countKilled_34 : decode cX5_countKilled 34 = .ok (.iload_n 1, 1) := by decide +kernel
theorem dX5_countKilled_35 : decode cX5_countKilled 35 = .ok (.ireturn, 1) := by decide +kernel
theorem dX5_countCorrections_0 : decode cX5_countCorrections 0 = .ok (.iconst 0, 1) := by decide +kernel
theorem dX5_countCorrections_1 : decode cX5_countCorrections 1 = .ok (.istore_n 1, 1) := by decide +kernel
theorem dX5_countCorrections_2 : decode cX5_countCorrections 2 = .ok (.iconst 0, 1) := by decide +kernel
theorem dX5_countCorrections_3 : decode cX5_countCorrections 3 = .ok (.istore_n 2, 1) := by decide +kernel
theorem dX5_countCorrections_4 : decode cX5_countCorrections 4 = .ok (.iload_n 2, 1) := by decide +kernel
theorem dX5_countCorrections_5 : decode cX5_countCorrections 5 = .ok (.aload_n 0, 1) := by decide +kernel
theorem dX5_countCorrections_6 : decode cX5_countCorrections 6 = .ok (.getfield 284, 3) := by decide +kernel
theorem dX5_countCorrections_9 : decode cX5_countCorrections 9 = .ok (.if_icmp .ge 25, 3) := by decide +kernel
theorem dX5_countCorrections_12 : decode cX5_countCorrections 12 = .ok (.aload_n 0, 1) := by decide +kernel
theorem dX5_countCorrections_13 : decode cX5_countCorrections 13 = .ok (.getfield 32, 3) := by decide +kernel
theorem dX5_countCorrections_16 : decode cX5_countCorrections 16 = .ok (.iload_n 2, 1) := by decide +kernel
theorem dX5_countCorrections_17 : decode cX5_countCorrections 17 = .ok (.aaload, 1) := by decide +kernel
theorem dX5_countCorrections_18 : decode cX5_countCorrections 18 = .ok (.getfield 178, 3) := by decide +kernel
theorem dX5_countCorrections_21 : decode cX5_countCorrections 21 = .ok (.iconst 2, 1) := by decide +kernel
theorem dX5_countCorrections_22 : decode cX5_countCorrections 22 = .ok (.if_icmp .ne 6, 3) := by decide +kernel
theorem dX5_countCorrections_25 : decode cX5_countCorrections 25 = .ok (.iinc 1 1, 3) := by decide +kernel
theorem dX5_countCorrections_28 : decode cX5_countCorrections 28 = .ok (.iinc 2 1, 3) := by decide +kernel
theorem dX5_countCorrections_31 : decode cX5_countCorrections 31 = .ok (.goto (-27), 3) := by decide +kernel
theorem dX5_countCorrections_34 : decode cX5_countCorrections 34 = .ok (.iload_n 1, 1) := by decide +kernel
theorem dX5_countCorrections_35 : decode cX5_countCorrections 35 = .ok (.ireturn, 1) := by decide +kernel
theorem dX5_isDropped_0 : decode cX5_isDropped 0 = .ok (.aload_n 0, 1) := by decide +kernel
theorem dX5_isDropped_1 : decode cX5_isDropped 1 = .ok (.getfield 32, 3) := by decide +kernel
theorem dX5_isDropped_4 : decode cX5_isDropped 4 = .ok (.iload_n 2, 1) := by decide +kernel
theorem dX5_isDropped_5 : decode cX5_isDropped 5 = .ok (.aaload, 1) := by decide +kernel
theorem dX5_isDropped_6 : decode cX5_isDropped 6 = .ok (.getfield 167, 3) := by decide +kernel
theorem dX5_isDropped_9 : decode cX5_isDropped 9 = .ok (.istore_n 3, 1) := by decide +kernel
theorem dX5_isDropped_10 : decode cX5_isDropped 10 = .ok (.iload_n 3, 1) := by decide +kernel
theorem dX5_isDropped_11 : decode cX5_isDropped 11 = .ok (.iconst (-1), 1) := by decide +kernel
theorem dX5_isDropped_12 : decode cX5_isDropped 12 = .ok (.if_icmp .eq 24, 3) := by decide +kernel
theorem dX5_isDropped_15 : decode cX5_isDropped 15 = .ok (.aload_n 0, 1) := by decide +kernel
theorem dX5_isDropped_16 : decode cX5_isDropped 16 = .ok (.getfield 39, 3) := by decide +kernel
theorem dX5_isDropped_19 : decode cX5_isDropped 19 = .ok (.iload_n 1, 1) := by decide +kernel
theorem dX5_isDropped_20 : decode cX5_isDropped 20 = .ok (.aaload, 1) := by decide +kernel
theorem dX5_isDropped_21 : decode cX5_isDropped 21 = .ok (.iload_n 3, 1) := by decide +kernel
theorem dX5_isDropped_22 : decode cX5_isDropped 22 = .ok (.aload_n 0, 1) := by decide +kernel
theorem dX5_isDropped_23 : decode cX5_isDropped 23 = .ok (.getfield 123, 3) := by decide +kernel
theorem dX5_isDropped_26 : decode cX5_isDropped 26 = .ok (.invokevirtual 257, 3) := by decide +kernel
theorem dX5_isDropped_29 : decode cX5_isDropped 29 = .ok (.ifCond .eq 7, 3) := by decide +kernel
theorem dX5_isDropped_32 : decode cX5_isDropped 32 = .ok (.iconst 1, 1) := by decide +kernel
theorem dX5_isDropped_33 : decode cX5_isDropped 33 = .ok (.goto 4, 3) := by decide +kernel
theorem dX5_isDropped_36 : decode cX5_isDropped 36 = .ok (.iconst 0, 1) := by decide +kernel
theorem dX5_isDropped_37 : decode cX5_isDropped 37 = .ok (.ireturn, 1) := by decide +kernel
theorem dX5_toldAtDesk_0 : decode cX5_toldAtDesk 0 = .ok (.aload_n 0, 1) := by decide +kernel
theorem dX5_toldAtDesk_1 : decode cX5_toldAtDesk 1 = .ok (.getfield 284, 3) := by decide +kernel
theorem dX5_toldAtDesk_4 : decode cX5_toldAtDesk 4 = .ok (.iconst 1, 1) := by decide +kernel
theorem dX5_toldAtDesk_5 : decode cX5_toldAtDesk 5 = .ok (.isub, 1) := by decide +kernel
theorem dX5_toldAtDesk_6 : decode cX5_toldAtDesk 6 = .ok (.istore 4, 2) := by decide +kernel
theorem dX5_toldAtDesk_8 : decode cX5_toldAtDesk 8 = .ok (.iload 4, 2) := by decide +kernel
theorem dX5_toldAtDesk_10 : decode cX5_toldAtDesk 10 = .ok (.ifCond .lt 92, 3) := by decide +kernel
theorem dX5_toldAtDesk_13 : decode cX5_toldAtDesk 13 = .ok (.aload_n 0, 1) := by decide +kernel
theorem dX5_toldAtDesk_14 : decode cX5_toldAtDesk 14 = .ok (.getfield 32, 3) := by decide +kernel
theorem dX5_toldAtDesk_17 : decode cX5_toldAtDesk 17 = .ok (.iload 4, 2) := by decide +kernel
theorem dX5_toldAtDesk_19 : decode cX5_toldAtDesk 19 = .ok (.aaload, 1) := by decide +kernel
theorem dX5_toldAtDesk_20 : decode cX5_toldAtDesk 20 = .ok (.getfield 172, 3) := by decide +kernel
theorem dX5_toldAtDesk_23 : decode cX5_toldAtDesk 23 = .ok (.iload_n 2, 1) := by decide +kernel
theorem dX5_toldAtDesk_24 : decode cX5_toldAtDesk 24 = .ok (.if_icmp .ne 23, 3) := by decide +kernel
theorem dX5_toldAtDesk_27 : decode cX5_toldAtDesk 27 = .ok (.aload_n 0, 1) := by decide +kernel
theorem dX5_toldAtDesk_28 : decode cX5_toldAtDesk 28 = .ok (.getfield 32, 3) := by decide +kernel
theorem dX5_toldAtDesk_31 : decode cX5_toldAtDesk 31 = .ok (.iload 4, 2) := by decide +kernel
theorem dX5_toldAtDesk_33 : decode cX5_toldAtDesk 33 = .ok (.aaload, 1) := by decide +kernel
theorem dX5_toldAtDesk_34 : decode cX5_toldAtDesk 34 = .ok (.getfield 162, 3) := by decide +kernel
theorem dX5_toldAtDesk_37 : decode cX5_toldAtDesk 37 = .ok (.iload_n 3, 1) := by decide +kernel
theorem dX5_toldAtDesk_38 : decode cX5_toldAtDesk 38 = .ok (.iaload, 1) := by decide +kernel
theorem dX5_toldAtDesk_39 : decode cX5_toldAtDesk 39 = .ok (.iconst (-1), 1) := by decide +kernel
theorem dX5_toldAtDesk_40 : decode cX5_toldAtDesk 40 = .ok (.if_icmp .eq 7, 3) := by decide +kernel
theorem dX5_toldAtDesk_43 : decode cX5_toldAtDesk 43 = .ok (.iconst 1, 1) := by decide +kernel
theorem dX5_toldAtDesk_44 : decode cX5_toldAtDesk 44 = .ok (.goto 4, 3) := by decide +kernel
theorem dX5_toldAtDesk_47 : decode cX5_toldAtDesk 47 = .ok (.iconst 0, 1) := by decide +kernel
theorem dX5_toldAtDesk_48 : decode cX5_toldAtDesk 48 = .ok (.istore 5, 2) := by decide +kernel
theorem dX5_toldAtDesk_50 : decode cX5_toldAtDesk 50 = .ok (.iload 5, 2) := by decide +kernel
theorem dX5_toldAtDesk_52 : decode cX5_toldAtDesk 52 = .ok (.ifCond .eq 44, 3) := by decide +kernel
theorem dX5_toldAtDesk_55 : decode cX5_toldAtDesk 55 = .ok (.aload_n 0, 1) := by decide +kernel
theorem dX5_toldAtDesk_56 : decode cX5_toldAtDesk 56 = .ok (.getfield 39, 3) := by decide +kernel
theorem dX5_toldAtDesk_59 : decode cX5_toldAtDesk 59 = .ok (.iload_n 1, 1) := by decide +kernel
theorem dX5_toldAtDesk_60 : decode cX5_toldAtDesk 60 = .ok (.aaload, 1) := by decide +kernel
theorem dX5_toldAtDesk_61 : decode cX5_toldAtDesk 61 = .ok (.iload 4, 2) := by decide +kernel
theorem dX5_toldAtDesk_63 : decode cX5_toldAtDesk 63 = .ok (.aload_n 0, 1) := by decide +kernel
theorem dX5_toldAtDesk_64 : decode cX5_toldAtDesk 64 = .ok (.getfield 123, 3) := by decide +kernel
theorem dX5_toldAtDesk_67 : decode cX5_toldAtDesk 67 = .ok (.invokevirtual 257, 3) := by decide +kernel
theorem dX5_toldAtDesk_70 : decode cX5_toldAtDesk 70 = .ok (.ifCond .eq 26, 3) := by decide +kernel
theorem dX5_toldAtDesk_73 : decode cX5_toldAtDesk 73 = .ok (.aload_n 0, 1) := by decide +kernel
theorem dX5_toldAtDesk_74 : decode cX5_toldAtDesk 74 = .ok (.iload_n 1, 1) := by decide +kernel
theorem dX5_toldAtDesk_75 : decode cX5_toldAtDesk 75 = .ok (.iload 4, 2) := by decide +kernel
theorem dX5_toldAtDesk_77 : decode cX5_toldAtDesk 77 = .ok (.invokevirtual 260, 3) := by decide +kernel
theorem dX5_toldAtDesk_80 : decode cX5_toldAtDesk 80 = .ok (.ifCond .ne 16, 3) := by decide +kernel
theorem dX5_toldAtDesk_83 : decode cX5_toldAtDesk 83 = .ok (.aload_n 0, 1) := by decide +kernel
theorem dX5_toldAtDesk_84 : decode cX5_toldAtDesk 84 = .ok (.getfield 32, 3) := by decide +kernel
theorem dX5_toldAtDesk_87 : decode cX5_toldAtDesk 87 = .ok (.iload 4, 2) := by decide +kernel
theorem dX5_toldAtDesk_89 : decode cX5_toldAtDesk 89 = .ok (.aaload, 1) := by decide +kernel
theorem dX5_toldAtDesk_90 : decode cX5_toldAtDesk 90 = .ok (.getfield 162, 3) := by decide +kernel
theorem dX5_toldAtDesk_93 : decode cX5_toldAtDesk 93 = .ok (.iload_n 3, 1) := by decide +kernel
theorem dX5_toldAtDesk_94 : decode cX5_toldAtDesk 94 = .ok (.iaload, 1) := by decide +kernel
theorem dX5_toldAtDesk_95 : decode cX5_toldAtDesk 95 = .ok (.ireturn, 1) := by decide +kernel
theorem dX5_toldAtDesk_96 : decode cX5_toldAtDesk 96 = .ok (.iinc 4 (-1), 3) := by decide +kernel
theorem dX5_toldAtDesk_99 : decode cX5_toldAtDesk 99 = .ok (.goto (-91), 3) := by decide +kernel
theorem dX5_toldAtDesk_102 : decode cX5_toldAtDesk 102 = .ok (.iconst (-1), 1) := by decide +kernel
theorem dX5_toldAtDesk_103 : decode cX5_toldAtDesk 103 = .ok (.ireturn, 1) := by decide +kernel
theorem dX5_countTold_0 : decode cX5_countTold 0 = .ok (.iconst 0, 1) := by decide +kernel
theorem dX5_countTold_1 : decode cX5_countTold 1 = .ok (.istore_n 2, 1) := by decide +kernel
theorem dX5_countTold_2 : decode cX5_countTold 2 = .ok (.iconst 0, 1) := by decide +kernel
theorem dX5_countTold_3 : decode cX5_countTold 3 = .ok (.istore_n 3, 1) := by decide +kernel
theorem dX5_countTold_4 : decode cX5_countTold 4 = .ok (.iload_n 3, 1) := by decide +kernel
theorem dX5_countTold_5 : decode cX5_countTold 5 = .ok (.aload_n 0, 1) := by decide +kernel
theorem dX5_countTold_6 : decode cX5_countTold 6 = .ok (.getfield 70, 3) := by decide +kernel
theorem dX5_countTold_9 : decode cX5_countTold 9 = .ok (.if_icmp .ge 39, 3) := by decide +kernel
theorem dX5_countTold_12 : decode cX5_countTold 12 = .ok (.iconst 0, 1) := by decide +kernel
theorem dX5_countTold_13 : decode cX5_countTold 13 = .ok (.istore 4, 2) := by decide +kernel
theorem dX5_countTold_15 : decode cX5_countTold 15 = .ok (.iload 4, 2) := by decide +kernel
theorem dX5_countTold_17 : decode cX5_countTold 17 = .ok (.iconst 4, 1) := by decide +kernel
theorem dX5_countTold_18 : decode cX5_countTold 18 = .ok (.if_icmp .ge 24, 3) := by decide +kernel
theorem dX5_countTold_21 : decode cX5_countTold 21 = .ok (.aload_n 0, 1) := by decide +kernel
theorem dX5_countTold_22 : decode cX5_countTold 22 = .ok (.iload_n 1, 1) := by decide +kernel
theorem dX5_countTold_23 : decode cX5_countTold 23 = .ok (.iload_n 3, 1) := by decide +kernel
theorem dX5_countTold_24 : decode cX5_countTold 24 = .ok (.iload 4, 2) := by decide +kernel
theorem dX5_countTold_26 : decode cX5_countTold 26 = .ok (.invokevirtual 263, 3) := by decide +kernel
theorem dX5_countTold_29 : decode cX5_countTold 29 = .ok (.iconst (-1), 1) := by decide +kernel
theorem dX5_countTold_30 : decode cX5_countTold 30 = .ok (.if_icmp .eq 6, 3) := by decide +kernel
theorem dX5_countTold_33 : decode cX5_countTold 33 = .ok (.iinc 2 1, 3) := by decide +kernel
theorem dX5_countTold_36 : decode cX5_countTold 36 = .ok (.iinc 4 1, 3) := by decide +kernel
theorem dX5_countTold_39 : decode cX5_countTold 39 = .ok (.goto (-24), 3) := by decide +kernel
theorem dX5_countTold_42 : decode cX5_countTold 42 = .ok (.iinc 3 1, 3) := by decide +kernel
theorem dX5_countTold_45 : decode cX5_countTold 45 = .ok (.goto (-41), 3) := by decide +kernel
theorem dX5_countTold_48 : decode cX5_countTold 48 = .ok (.iload_n 2, 1) := by decide +kernel
theorem dX5_countTold_49 : decode cX5_countTold 49 = .ok (.ireturn, 1) := by decide +kernel
theorem dX5_countWrong_0 : decode cX5_countWrong 0 = .ok (.iconst 0, 1) := by decide +kernel
theorem dX5_countWrong_1 : decode cX5_countWrong 1 = .ok (.istore_n 2, 1) := by decide +kernel
theorem dX5_countWrong_2 : decode cX5_countWrong 2 = .ok (.iconst 0, 1) := by decide +kernel
theorem dX5_countWrong_3 : decode cX5_countWrong 3 = .ok (.istore_n 3, 1) := by decide +kernel
theorem dX5_countWrong_4 : decode cX5_countWrong 4 = .ok (.iload_n 3, 1) := by decide +kernel
theorem dX5_countWrong_5 : decode cX5_countWrong 5 = .ok (.aload_n 0, 1) := by decide +kernel
theorem dX5_countWrong_6 : decode cX5_countWrong 6 = .ok (.getfield 70, 3) := by decide +kernel
theorem dX5_countWrong_9 : decode cX5_countWrong 9 = .ok (.if_icmp .ge 68, 3) := by decide +kernel
theorem dX5_countWrong_12 : decode cX5_countWrong 12 = .ok (.iconst 0, 1) := by decide +kernel
theorem dX5_countWrong_13 : decode cX5_countWrong 13 = .ok (.istore 4, 2) := by decide +kernel
theorem dX5_countWrong_15 : decode cX5_countWrong 15 = .ok (.iload 4, 2) := by decide +kernel
theorem dX5_countWrong_17 : decode cX5_countWrong 17 = .ok (.iconst 4, 1) := by decide +kernel
theorem dX5_countWrong_18 : decode cX5_countWrong 18 = .ok (.if_icmp .ge 53, 3) := by decide +kernel
theorem dX5_countWrong_21 : decode cX5_countWrong 21 = .ok (.aload_n 0, 1) := by decide +kernel
theorem dX5_countWrong_22 : decode cX5_countWrong 22 = .ok (.iload_n 1, 1) := by decide +kernel
theorem dX5_countWrong_23 : decode cX5_countWrong 23 = .ok (.iload_n 3, 1) := by decide +kernel
theorem dX5_countWrong_24 : decode cX5_countWrong 24 = .ok (.iload 4, 2) := by decide +kernel
theorem dX5_countWrong_26 : decode cX5_countWrong 26 = .ok (.invokevirtual 263, 3) := by decide +kernel
theorem dX5_countWrong_29 : decode cX5_countWrong 29 = .ok (.istore 5, 2) := by decide +kernel
theorem dX5_countWrong_31 : decode cX5_countWrong 31 = .ok (.aload_n 0, 1) := by decide +kernel
theorem dX5_countWrong_32 : decode cX5_countWrong 32 = .ok (.iload_n 3, 1) := by decide +kernel
theorem dX5_countWrong_33 : decode cX5_countWrong 33 = .ok (.iload 4, 2) := by decide +kernel
theorem dX5_countWrong_35 : decode cX5_countWrong 35 = .ok (.invokevirtual 98, 3) := by decide +kernel
theorem dX5_countWrong_38 : decode cX5_countWrong 38 = .ok (.getfield 175, 3) := by decide +kernel
theorem dX5_countWrong_41 : decode cX5_countWrong 41 = .ok (.istore 6, 2) := by decide +kernel
theorem dX5_countWrong_43 : decode cX5_countWrong 43 = .ok (.iload 5, 2) := by decide +kernel
theorem dX5_countWrong_45 : decode cX5_countWrong 45 = .ok (.iconst (-1), 1) := by decide +kernel
theorem dX5_countWrong_46 : decode cX5_countWrong 46 = .ok (.if_icmp .eq 19, 3) := by decide +kernel
theorem dX5_countWrong_49 : decode cX5_countWrong 49 = .ok (.iload 6, 2) := by decide +kernel
theorem dX5_countWrong_51 : decode cX5_countWrong 51 = .ok (.iconst (-1), 1) := by decide +kernel
theorem dX5_countWrong_52 : decode cX5_countWrong 52 = .ok (.if_icmp .eq 13, 3) := by decide +kernel
theorem dX5_countWrong_55 : decode cX5_countWrong 55 = .ok (.iload 5, 2) := by decide +kernel
theorem dX5_countWrong_57 : decode cX5_countWrong 57 = .ok (.iload 6, 2) := by decide +kernel
theorem dX5_countWrong_59 : decode cX5_countWrong 59 = .ok (.if_icmp .eq 6, 3) := by decide +kernel
theorem dX5_countWrong_62 : decode cX5_countWrong 62 = .ok (.iinc 2 1, 3) := by decide +kernel
theorem dX5_countWrong_65 : decode cX5_countWrong 65 = .ok (.iinc 4 1, 3) := by decide +kernel
theorem dX5_countWrong_68 : decode cX5_countWrong 68 = .ok (.goto (-53), 3) := by decide +kernel
theorem dX5_countWrong_71 : decode cX5_countWrong 71 = .ok (.iinc 3 1, 3) := by decide +kernel
theorem dX5_countWrong_74 : decode cX5_countWrong 74 = .ok (.goto (-70), 3) := by decide +kernel
theorem dX5_countWrong_77 : decode cX5_countWrong 77 = .ok (.iload_n 2, 1) := by decide +kernel
theorem dX5_countWrong_78 : decode cX5_countWrong 78 = .ok (.ireturn, 1) := by decide +kernel
theorem dX5_countWrongAnywhere_0 : decode cX5_countWrongAnywhere 0 = .ok (.iconst 0, 1) := by decide +kernel
theorem dX5_countWrongAnywhere_1 : decode cX5_countWrongAnywhere 1 = .ok (.istore_n 1, 1) := by decide +kernel
theorem dX5_countWrongAnywhere_2 : decode cX5_countWrongAnywhere 2 = .ok (.iconst 0, 1) := by decide +kernel
theorem dX5_countWrongAnywhere_3 : decode cX5_countWrongAnywhere 3 = .ok (.istore_n 2, 1) := by decide +kernel
theorem dX5_countWrongAnywhere_4 : decode cX5_countWrongAnywhere 4 = .ok (.iload_n 2, 1) := by decide +kernel
theorem dX5_countWrongAnywhere_5 : decode cX5_countWrongAnywhere 5 = .ok (.aload_n 0, 1) := by decide +kernel
theorem dX5_countWrongAnywhere_6 : decode cX5_countWrongAnywhere 6 = .ok (.getfield 80, 3) := by decide +kernel
theorem dX5_countWrongAnywhere_9 : decode cX5_countWrongAnywhere 9 = .ok (.if_icmp .ge 17, 3) := by decide +kernel
theorem dX5_countWrongAnywhere_12 : decode cX5_countWrongAnywhere 12 = .ok (.iload_n 1, 1) := by decide +kernel
theorem dX5_countWrongAnywhere_13 : decode cX5_countWrongAnywhere 13 = .ok (.aload_n 0, 1) := by decide +kernel
theorem dX5_countWrongAnywhere_14 : decode cX5_countWrongAnywhere 14 = .ok (.iload_n 2, 1) := by decide +kernel
theorem dX5_countWrongAnywhere_15 : decode cX5_countWrongAnywhere 15 = .ok (.invokevirtual 279, 3) := by decide +kernel
theorem dX5_countWrongAnywhere_18 : decode cX5_countWrongAnywhere 18 = .ok (.iadd, 1) := by decide +kernel
theorem dX5_countWrongAnywhere_19 : decode cX5_countWrongAnywhere 19 = .ok (.istore_n 1, 1) := by decide +kernel
theorem dX5_countWrongAnywhere_20 : decode cX5_countWrongAnywhere 20 = .ok (.iinc 2 1, 3) := by decide +kernel
theorem dX5_countWrongAnywhere_23 : decode cX5_countWrongAnywhere 23 = .ok (.goto (-19), 3) := by decide +kernel
theorem dX5_countWrongAnywhere_26 : decode cX5_countWrongAnywhere 26 = .ok (.iload_n 1, 1) := by decide +kernel
theorem dX5_countWrongAnywhere_27 : decode cX5_countWrongAnywhere 27 = .ok (.ireturn, 1) := by decide +kernel
theorem dJ6_bitCount_0f7a4_0 : decode cJ6_bitCount_0f7a4 0 = .ok (.iload_n 0, 1) := by decide +kernel
theorem dJ6_bitCount_0f7a4_1 : decode cJ6_bitCount_0f7a4 1 = .ok (.iload_n 0, 1) := by decide +kernel
theorem dJ6_bitCount_0f7a4_2 : decode cJ6_bitCount_0f7a4 2 = .ok (.iconst 1, 1) := by decide +kernel
theorem dJ6_bitCount_0f7a4_3 : decode cJ6_bitCount_0f7a4 3 = .ok (.iushr, 1) := by decide +kernel
theorem dJ6_bitCount_0f7a4_4 : decode cJ6_bitCount_0f7a4 4 = .ok (.ldc_w 265, 3) := by decide +kernel
theorem dJ6_bitCount_0f7a4_7 : decode cJ6_bitCount_0f7a4 7 = .ok (.iand, 1) := by decide +kernel
theorem dJ6_bitCount_0f7a4_8 : decode cJ6_bitCount_0f7a4 8 = .ok (.isub, 1) := by decide +kernel
theorem dJ6_bitCount_0f7a4_9 : decode cJ6_bitCount_0f7a4 9 = .ok (.istore_n 0, 1) := by decide +kernel
theorem dJ6_bitCount_0f7a4_10 : decode cJ6_bitCount_0f7a4 10 = .ok (.iload_n 0, 1) := by decide +kernel
theorem dJ6_bitCount_0f7a4_11 : decode cJ6_bitCount_0f7a4 11 = .ok (.ldc_w 266, 3) := by decide +kernel
theorem dJ6_bitCount_0f7a4_14 : decode cJ6_bitCount_0f7a4 14 = .ok (.iand, 1) := by decide +kernel
theorem dJ6_bitCount_0f7a4_15 : decode cJ6_bitCount_0f7a4 15 = .ok (.iload_n 0, 1) := by decide +kernel
theorem dJ6_bitCount_0f7a4_16 : decode cJ6_bitCount_0f7a4 16 = .ok (.iconst 2, 1) := by decide +kernel
theorem dJ6_bitCount_0f7a4_17 : decode cJ6_bitCount_0f7a4 17 = .ok (.iushr, 1) := by decide +kernel
theorem dJ6_bitCount_0f7a4_18 : decode cJ6_bitCount_0f7a4 18 = .ok (.ldc_w 266, 3) := by decide +kernel
theorem dJ6_bitCount_0f7a4_21 : decode cJ6_bitCount_0f7a4 21 = .ok (.iand, 1) := by decide +kernel
theorem dJ6_bitCount_0f7a4_22 : decode cJ6_bitCount_0f7a4 22 = .ok (.iadd, 1) := by decide +kernel
theorem dJ6_bitCount_0f7a4_23 : decode cJ6_bitCount_0f7a4 23 = .ok (.istore_n 0, 1) := by decide +kernel
theorem dJ6_bitCount_0f7a4_24 : decode cJ6_bitCount_0f7a4 24 = .ok (.iload_n 0, 1) := by decide +kernel
theorem dJ6_bitCount_0f7a4_25 : decode cJ6_bitCount_0f7a4 25 = .ok (.iload_n 0, 1) := by decide +kernel
theorem dJ6_bitCount_0f7a4_26 : decode cJ6_bitCount_0f7a4 26 = .ok (.iconst 4, 1) := by decide +kernel
theorem dJ6_bitCount_0f7a4_27 : decode cJ6_bitCount_0f7a4 27 = .ok (.iushr, 1) := by decide +kernel
theorem dJ6_bitCount_0f7a4_28 : decode cJ6_bitCount_0f7a4 28 = .ok (.iadd, 1) := by decide +kernel
theorem dJ6_bitCount_0f7a4_29 : decode cJ6_bitCount_0f7a4 29 = .ok (.ldc_w 267, 3) := by decide +kernel
theorem dJ6_bitCount_0f7a4_32 : decode cJ6_bitCount_0f7a4 32 = .ok (.iand, 1) := by decide +kernel
theorem dJ6_bitCount_0f7a4_33 : decode cJ6_bitCount_0f7a4 33 = .ok (.istore_n 0, 1) := by decide +kernel
theorem dJ6_bitCount_0f7a4_34 : decode cJ6_bitCount_0f7a4 34 = .ok (.iload_n 0, 1) := by decide +kernel
theorem dJ6_bitCount_0f7a4_35 : decode cJ6_bitCount_0f7a4 35 = .ok (.iload_n 0, 1) := by decide +kernel
theorem dJ6_bitCount_0f7a4_36 : decode cJ6_bitCount_0f7a4 36 = .ok (.bipush 8, 2) := by decide +kernel
theorem dJ6_bitCount_0f7a4_38 : decode cJ6_bitCount_0f7a4 38 = .ok (.iushr, 1) := by decide +kernel
theorem dJ6_bitCount_0f7a4_39 : decode cJ6_bitCount_0f7a4 39 = .ok (.iadd, 1) := by decide +kernel
theorem dJ6_bitCount_0f7a4_40 : decode cJ6_bitCount_0f7a4 40 = .ok (.istore_n 0, 1) := by decide +kernel
theorem dJ6_bitCount_0f7a4_41 : decode cJ6_bitCount_0f7a4 41 = .ok (.iload_n 0, 1) := by decide +kernel
theorem dJ6_bitCount_0f7a4_42 : decode cJ6_bitCount_0f7a4 42 = .ok (.iload_n 0, 1) := by decide +kernel
theorem dJ6_bitCount_0f7a4_43 : decode cJ6_bitCount_0f7a4 43 = .ok (.bipush 16, 2) := by decide +kernel
theorem dJ6_bitCount_0f7a4_45 : decode cJ6_bitCount_0f7a4 45 = .ok (.iushr, 1) := by decide +kernel
theorem dJ6_bitCount_0f7a4_46 : decode cJ6_bitCount_0f7a4 46 = .ok (.iadd, 1) := by decide +kernel
theorem dJ6_bitCount_0f7a4_47 : decode cJ6_bitCount_0f7a4 47 = .ok (.istore_n 0, 1) := by decide +kernel
theorem dJ6_bitCount_0f7a4_48 : decode cJ6_bitCount_0f7a4 48 = .ok (.iload_n 0, 1) := by decide +kernel
theorem dJ6_bitCount_0f7a4_49 : decode cJ6_bitCount_0f7a4 49 = .ok (.bipush 63, 2) := by decide +kernel
theorem dJ6_bitCount_0f7a4_51 : decode cJ6_bitCount_0f7a4 51 = .ok (.iand, 1) := by decide +kernel
theorem dJ6_bitCount_0f7a4_52 : decode cJ6_bitCount_0f7a4 52 = .ok (.ireturn, 1) := by decide +kernel
theorem dJ9_max_7cf53_0 : decode cJ9_max_7cf53 0 = .ok (.iload_n 0, 1) := by decide +kernel
theorem dJ9_max_7cf53_1 : decode cJ9_max_7cf53 1 = .ok (.iload_n 1, 1) := by decide +kernel
theorem dJ9_max_7cf53_2 : decode cJ9_max_7cf53 2 = .ok (.if_icmp .lt 7, 3) := by decide +kernel
theorem dJ9_max_7cf53_5 : decode cJ9_max_7cf53 5 = .ok (.iload_n 0, 1) := by decide +kernel
theorem dJ9_max_7cf53_6 : decode cJ9_max_7cf53 6 = .ok (.goto 4, 3) := by decide +kernel
theorem dJ9_max_7cf53_9 : decode cJ9_max_7cf53 9 = .ok (.iload_n 1, 1) := by decide +kernel
theorem dJ9_max_7cf53_10 : decode cJ9_max_7cf53 10 = .ok (.ireturn, 1) := by decide +kernel
theorem dJ9_min_7cf53_0 : decode cJ9_min_7cf53 0 = .ok (.iload_n 0, 1) := by decide +kernel
theorem dJ9_min_7cf53_1 : decode cJ9_min_7cf53 1 = .ok (.iload_n 1, 1) := by decide +kernel
theorem dJ9_min_7cf53_2 : decode cJ9_min_7cf53 2 = .ok (.if_icmp .gt 7, 3) := by decide +kernel
theorem dJ9_min_7cf53_5 : decode cJ9_min_7cf53 5 = .ok (.iload_n 0, 1) := by decide +kernel
theorem dJ9_min_7cf53_6 : decode cJ9_min_7cf53 6 = .ok (.goto 4, 3) := by decide +kernel
theorem dJ9_min_7cf53_9 : decode cJ9_min_7cf53 9 = .ok (.iload_n 1, 1) := by decide +kernel
theorem dJ9_min_7cf53_10 : decode cJ9_min_7cf53 10 = .ok (.ireturn, 1) := by decide +kernel
theorem dJ7_fill_53178_0 : decode cJ7_fill_53178 0 = .ok (.iconst 0, 1) := by decide +kernel
theorem dJ7_fill_53178_1 : decode cJ7_fill_53178 1 = .ok (.istore_n 2, 1) := by decide +kernel
theorem dJ7_fill_53178_2 : decode cJ7_fill_53178 2 = .ok (.aload_n 0, 1) := by decide +kernel
theorem dJ7_fill_53178_3 : decode cJ7_fill_53178 3 = .ok (.arraylength, 1) := by decide +kernel
theorem dJ7_fill_53178_4 : decode cJ7_fill_53178 4 = .ok (.istore_n 3, 1) := by decide +kernel
theorem dJ7_fill_53178_5 : decode cJ7_fill_53178 5 = .ok (.iload_n 2, 1) := by decide +kernel
theorem dJ7_fill_53178_6 : decode cJ7_fill_53178 6 = .ok (.iload_n 3, 1) := by decide +kernel
theorem dJ7_fill_53178_7 : decode cJ7_fill_53178 7 = .ok (.if_icmp .ge 13, 3) := by decide +kernel
theorem dJ7_fill_53178_10 : decode cJ7_fill_53178 10 = .ok (.aload_n 0, 1) := by decide +kernel
theorem dJ7_fill_53178_11 : decode cJ7_fill_53178 11 = .ok (.iload_n 2, 1) := by decide +kernel
theorem dJ7_fill_53178_12 : decode cJ7_fill_53178 12 = .ok (.iload_n 1, 1) := by decide +kernel
theorem dJ7_fill_53178_13 : decode cJ7_fill_53178 13 = .ok (.iastore, 1) := by decide +kernel
theorem dJ7_fill_53178_14 : decode cJ7_fill_53178 14 = .ok (.iinc 2 1, 3) := by decide +kernel
theorem dJ7_fill_53178_17 : decode cJ7_fill_53178 17 = .ok (.goto (-12), 3) := by decide +kernel
theorem dJ7_fill_53178_20 : decode cJ7_fill_53178 20 = .ok (.return_, 1) := by decide +kernel
theorem dL_below_0 : decode cL_below 0 = .ok (.iload_n 0, 1) := by decide +kernel
theorem dL_below_1 : decode cL_below 1 = .ok (.ldc 7, 2) := by decide +kernel
theorem dL_below_3 : decode cL_below 3 = .ok (.iand, 1) := by decide +kernel
theorem dL_below_4 : decode cL_below 4 = .ok (.iload_n 1, 1) := by decide +kernel
theorem dL_below_5 : decode cL_below 5 = .ok (.irem, 1) := by decide +kernel
theorem dL_below_6 : decode cL_below 6 = .ok (.ireturn, 1) := by decide +kernel
theorem dL_cell_0 : decode cL_cell 0 = .ok (.iload_n 1, 1) := by decide +kernel
theorem dL_cell_1 : decode cL_cell 1 = .ok (.aload_n 0, 1) := by decide +kernel
theorem dL_cell_2 : decode cL_cell 2 = .ok (.arraylength, 1) := by decide +kernel
theorem dL_cell_3 : decode cL_cell 3 = .ok (.if_icmp .ge 9, 3) := by decide +kernel
theorem dL_cell_6 : decode cL_cell 6 = .ok (.aload_n 0, 1) := by decide +kernel
theorem dL_cell_7 : decode cL_cell 7 = .ok (.iload_n 1, 1) := by decide +kernel
theorem dL_cell_8 : decode cL_cell 8 = .ok (.iaload, 1) := by decide +kernel
theorem dL_cell_9 : decode cL_cell 9 = .ok (.goto 9, 3) := by decide +kernel
theorem dL_cell_12 : decode cL_cell 12 = .ok (.ldc 8, 2) := by decide +kernel
theorem dL_cell_14 : decode cL_cell 14 = .ok (.iload_n 1, 1) := by decide +kernel
theorem dL_cell_15 : decode cL_cell 15 = .ok (.iconst 3, 1) := by decide +kernel
theorem dL_cell_16 : decode cL_cell 16 = .ok (.iadd, 1) := by decide +kernel
theorem dL_cell_17 : decode cL_cell 17 = .ok (.imul, 1) := by decide +kernel
theorem dL_cell_18 : decode cL_cell 18 = .ok (.ireturn, 1) := by decide +kernel
theorem dL_law_0 : decode cL_law 0 = .ok (.new 9, 3) := by decide +kernel
theorem dL_law_3 : decode cL_law 3 = .ok (.dup, 1) := by decide +kernel
theorem dL_law_4 : decode cL_law 4 = .ok (.invokespecial 11, 3) := by decide +kernel
theorem dL_law_7 : decode cL_law 7 = .ok (.astore_n 1, 1) := by decide +kernel
theorem dL_law_8 : decode cL_law 8 = .ok (.iconst 0, 1) := by decide +kernel
theorem dL_law_9 : decode cL_law 9 = .ok (.istore_n 2, 1) := by decide +kernel
theorem dL_law_10 : decode cL_law 10 = .ok (.iload_n 2, 1) := by decide +kernel
theorem dL_law_11 : decode cL_law 11 = .ok (.bipush 6, 2) := by decide +kernel
theorem dL_law_13 : decode cL_law 13 = .ok (.if_icmp .ge 66, 3) := by decide +kernel
theorem dL_law_16 : decode cL_law 16 = .ok (.aload_n 1, 1) := by decide +kernel
theorem dL_law_17 : decode cL_law 17 = .ok (.iconst 1, 1) := by decide +kernel
theorem dL_law_18 : decode cL_law 18 = .ok (.aload_n 0, 1) := by decide +kernel
theorem dL_law_19 : decode cL_law 19 = .ok (.iload_n 2, 1) := by decide +kernel
theorem dL_law_20 : decode cL_law 20 = .ok (.invokestatic 12, 3) := by decide +kernel
theorem dL_law_23 : decode cL_law 23 = .ok (.bipush 6, 2) := by decide +kernel
theorem dL_law_25 : decode cL_law 25 = .ok (.invokestatic 18, 3) := by decide +kernel
theorem dL_law_28 : decode cL_law 28 = .ok (.iconst 2, 1) := by decide +kernel
theorem dL_law_29 : decode cL_law 29 = .ok (.idiv, 1) := by decide +kernel
theorem dL_law_30 : decode cL_law 30 = .ok (.iadd, 1) := by decide +kernel
theorem dL_law_31 : decode cL_law 31 = .ok (.iload_n 2, 1) := by decide +kernel
theorem dL_law_32 : decode cL_law 32 = .ok (.ifCond .le 31, 3) := by decide +kernel
theorem dL_law_35 : decode cL_law 35 = .ok (.aload_n 0, 1) := by decide +kernel
theorem dL_law_36 : decode cL_law 36 = .ok (.iload_n 2, 1) := by decide +kernel
theorem dL_law_37 : decode cL_law 37 = .ok (.invokestatic 12, 3) := by decide +kernel
theorem dL_law_40 : decode cL_law 40 = .ok (.iconst 3, 1) := by decide +kernel
theorem dL_law_41 : decode cL_law 41 = .ok (.ishr, 1) := by decide +kernel
theorem dL_law_42 : decode cL_law 42 = .ok (.iconst 3, 1) := by decide +kernel
theorem dL_law_43 : decode cL_law 43 = .ok (.invokestatic 18, 3) := by decide +kernel
theorem dL_law_46 : decode cL_law 46 = .ok (.ifCond .ne 17, 3) := by decide +kernel
theorem dL_law_49 : decode cL_law 49 = .ok (.aload_n 0, 1) := by decide +kernel
theorem dL_law_50 : decode cL_law 50 = .ok (.iload_n 2, 1) := by decide +kernel
theorem dL_law_51 : decode cL_law 51 = .ok (.invokestatic 12, 3) := by decide +kernel
theorem dL_law_54 : decode cL_law 54 = .ok (.iconst 5, 1) := by decide +kernel
theorem dL_law_55 : decode cL_law 55 = .ok (.ishr, 1) := by decide +kernel
theorem dL_law_56 : decode cL_law 56 = .ok (.iload_n 2, 1) := by decide +kernel
theorem dL_law_57 : decode cL_law 57 = .ok (.invokestatic 18, 3) := by decide +kernel
theorem dL_law_60 : decode cL_law 60 = .ok (.goto 4, 3) := by decide +kernel
theorem dL_law_63 : decode cL_law 63 = .ok (.iconst (-1), 1) := by decide +kernel
theorem dL_law_64 : decode cL_law 64 = .ok (.invokevirtual 22, 3) := by decide +kernel
theorem dL_law_67 : decode cL_law 67 = .ok (.iload_n 2, 1) := by decide +kernel
theorem dL_law_68 : decode cL_law 68 = .ok (.if_icmp .eq 5, 3) := by decide +kernel
theorem dL_law_71 : decode cL_law 71 = .ok (.iconst 0, 1) := by decide +kernel
theorem dL_law_72 : decode cL_law 72 = .ok (.ireturn, 1) := by decide +kernel
theorem dL_law_73 : decode cL_law 73 = .ok (.iinc 2 1, 3) := by decide +kernel
theorem dL_law_76 : decode cL_law 76 = .ok (.goto (-66), 3) := by decide +kernel
theorem dL_law_79 : decode cL_law 79 = .ok (.iconst 0, 1) := by decide +kernel
theorem dL_law_80 : decode cL_law 80 = .ok (.istore_n 2, 1) := by decide +kernel
theorem dL_law_81 : decode cL_law 81 = .ok (.iload_n 2, 1) := by decide +kernel
theorem dL_law_82 : decode cL_law 82 = .ok (.iconst 2, 1) := by decide +kernel
theorem dL_law_83 : decode cL_law 83 = .ok (.if_icmp .ge 54, 3) := by decide +kernel
theorem dL_law_86 : decode cL_law 86 = .ok (.aload_n 1, 1) := by decide +kernel
theorem dL_law_87 : decode cL_law 87 = .ok (.invokevirtual 25, 3) := by decide +kernel
theorem dL_law_90 : decode cL_law 90 = .ok (.iload_n 2, 1) := by decide +kernel
theorem dL_law_91 : decode cL_law 91 = .ok (.if_icmp .ne 38, 3) := by decide +kernel
theorem dL_law_94 : decode cL_law 94 = .ok (.aload_n 1, 1) := by decide +kernel
theorem dL_law_95 : decode cL_law 95 = .ok (.iconst 5, 1) := by decide +kernel
theorem dL_law_96 : decode cL_law 96 = .ok (.aload_n 0, 1) := by decide +kernel
theorem dL_law_97 : decode cL_law 97 = .ok (.iload_n 2, 1) := by decide +kernel
theorem dL_law_98 : decode cL_law 98 = .ok (.bipush 6, 2) := by decide +kernel
theorem dL_law_100 : decode cL_law 100 = .ok (.iadd, 1) := by decide +kernel
theorem dL_law_101 : decode cL_law 101 = .ok (.invokestatic 12, 3) := by decide +kernel
theorem dL_law_104 : decode cL_law 104 = .ok (.bipush 40, 2) := by decide +kernel
theorem dL_law_106 : decode cL_law 106 = .ok (.invokestatic 18, 3) := by decide +kernel
theorem dL_law_109 : decode cL_law 109 = .ok (.iadd, 1) := by decide +kernel
theorem dL_law_110 : decode cL_law 110 = .ok (.aload_n 0, 1) := by decide +kernel
theorem dL_law_111 : decode cL_law 111 = .ok (.iload_n 2, 1) := by decide +kernel
theorem dL_law_112 : decode cL_law 112 = .ok (.bipush 7, 2) := by decide +kernel
theorem dL_law_114 : decode cL_law 114 = .ok (.iadd, 1) := by decide +kernel
theorem dL_law_115 : decode cL_law 115 = .ok (.invokestatic 12, 3) := by decide +kernel
theorem dL_law_118 : decode cL_law 118 = .ok (.iconst 5, 1) := by decide +kernel
theorem dL_law_119 : decode cL_law 119 = .ok (.invokestatic 18, 3) := by decide +kernel
theorem dL_law_122 : decode cL_law 122 = .ok (.invokevirtual 29, 3) := by decide +kernel
theorem dL_law_125 : decode cL_law 125 = .ok (.iload_n 2, 1) := by decide +kernel
theorem dL_law_126 : decode cL_law 126 = .ok (.if_icmp .eq 5, 3) := by decide +kernel
theorem dL_law_129 : decode cL_law 129 = .ok (.iconst 0, 1) := by decide +kernel
theorem dL_law_130 : decode cL_law 130 = .ok (.ireturn, 1) := by decide +kernel
theorem dL_law_131 : decode cL_law 131 = .ok (.iinc 2 1, 3) := by decide +kernel
theorem dL_law_134 : decode cL_law 134 = .ok (.goto (-53), 3) := by decide +kernel
theorem dL_law_137 : decode cL_law 137 = .ok (.bipush 60, 2) := by decide +kernel
theorem dL_law_139 : decode cL_law 139 = .ok (.iconst 4, 1) := by decide +kernel
theorem dL_law_140 : decode cL_law 140 = .ok (.multianewarray 32 2, 4) := by decide +kernel
theorem dL_law_144 : decode cL_law 144 = .ok (.astore_n 2, 1) := by decide +kernel
theorem dL_law_145 : decode cL_law 145 = .ok (.bipush 60, 2) := by decide +kernel
theorem dL_law_147 : decode cL_law 147 = .ok (.iconst 2, 1) := by decide +kernel
theorem dL_law_148 : decode cL_law 148 = .ok (.multianewarray 32 2, 4) := by decide +kernel
theorem dL_law_152 : decode cL_law 152 = .ok (.astore_n 3, 1) := by decide +kernel
theorem dL_law_153 : decode cL_law 153 = .ok (.iconst 0, 1) := by decide +kernel
theorem dL_law_154 : decode cL_law 154 = .ok (.istore 4, 2) := by decide +kernel
theorem dL_law_156 : decode cL_law 156 = .ok (.iconst 0, 1) := by decide +kernel
theorem dL_law_157 : decode cL_law 157 = .ok (.istore 5, 2) := by decide +kernel
theorem dL_law_159 : decode cL_law 159 = .ok (.iload 5, 2) := by decide +kernel
theorem dL_law_161 : decode cL_law 161 = .ok (.bipush 64, 2) := by decide +kernel
theorem dL_law_163 : decode cL_law 163 = .ok (.if_icmp .ge 837, 3) := by decide +kernel
theorem dL_law_166 : decode cL_law 166 = .ok (.aload_n 0, 1) := by decide +kernel
theorem dL_law_167 : decode cL_law 167 = .ok (.iload 5, 2) := by decide +kernel
theorem dL_law_169 : decode cL_law 169 = .ok (.bipush 16, 2) := by decide +kernel
theorem dL_law_171 : decode cL_law 171 = .ok (.irem, 1) := by decide +kernel
theorem dL_law_172 : decode cL_law 172 = .ok (.invokestatic 12, 3) := by decide +kernel
theorem dL_law_175 : decode cL_law 175 = .ok (.bipush 31, 2) := by decide +kernel
theorem dL_law_177 : decode cL_law 177 = .ok (.iload 5, 2) := by decide +kernel
theorem dL_law_179 : decode cL_law 179 = .ok (.imul, 1) := by decide +kernel
theorem dL_law_180 : decode cL_law 180 = .ok (.iadd, 1) := by decide +kernel
theorem dL_law_181 : decode cL_law 181 = .ok (.istore 6, 2) := by decide +kernel
theorem dL_law_183 : decode cL_law 183 = .ok (.aload_n 0, 1) := by decide +kernel
theorem dL_law_184 : decode cL_law 184 = .ok (.bipush 7, 2) := by decide +kernel
theorem dL_law_186 : decode cL_law 186 = .ok (.iload 5, 2) := by decide +kernel
theorem dL_law_188 : decode cL_law 188 = .ok (.imul, 1) := by decide +kernel
theorem dL_law_189 : decode cL_law 189 = .ok (.iconst 3, 1) := by decide +kernel
theorem dL_law_190 : decode cL_law 190 = .ok (.iadd, 1) := by decide +kernel
theorem dL_law_191 : decode cL_law 191 = .ok (.bipush 16, 2) := by decide +kernel
theorem dL_law_193 : decode cL_law 193 = .ok (.irem, 1) := by decide +kernel
theorem dL_law_194 : decode cL_law 194 = .ok (.invokestatic 12, 3) := by decide +kernel
theorem dL_law_197 : decode cL_law 197 = .ok (.iconst 5, 1) := by decide +kernel
theorem dL_law_198 : decode cL_law 198 = .ok (.iload 5, 2) := by decide +kernel
theorem dL_law_200 : decode cL_law 200 = .ok (.imul, 1) := by decide +kernel
theorem dL_law_201 : decode cL_law 201 = .ok (.iadd, 1) := by decide +kernel
theorem dL_law_202 : decode cL_law 202 = .ok (.istore 7, 2) := by decide +kernel
theorem dL_law_204 : decode cL_law 204 = .ok (.iload 7, 2) := by decide +kernel
theorem dL_law_206 : decode cL_law 206 = .ok (.iconst 2, 1) := by decide +kernel
theorem dL_law_207 : decode cL_law 207 = .ok (.invokestatic 18, 3) := by decide +kernel
theorem dL_law_210 : decode cL_law 210 = .ok (.istore 8, 2) := by decide +kernel
theorem dL_law_212 : decode cL_law 212 = .ok (.iload 7, 2) := by decide +kernel
theorem dL_law_214 : decode cL_law 214 = .ok (.iconst 2, 1) := by decide +kernel
theorem dL_law_215 : decode cL_law 215 = .ok (.ishr, 1) := by decide +kernel
theorem dL_law_216 : decode cL_law 216 = .ok (.iconst 4, 1) := by decide +kernel
theorem dL_law_217 : decode cL_law 217 = .ok (.invokestatic 18, 3) := by decide +kernel
theorem dL_law_220 : decode cL_law 220 = .ok (.istore 9, 2) := by decide +kernel
theorem dL_law_222 : decode cL_law 222 = .ok (.iload 7, 2) := by decide +kernel
theorem dL_law_224 : decode cL_law 224 = .ok (.iconst 4, 1) := by decide +kernel
theorem dL_law_225 : decode cL_law 225 = .ok (.ishr, 1) := by decide +kernel
theorem dL_law_226 : decode cL_law 226 = .ok (.bipush 6, 2) := by decide +kernel
theorem dL_law_228 : decode cL_law 228 = .ok (.invokestatic 18, 3) := by decide +kernel
theorem dL_law_231 : decode cL_law 231 = .ok (.istore 10, 2) := by decide +kernel
theorem dL_law_233 : decode cL_law 233 = .ok (.iload 6, 2) := by decide +kernel
theorem dL_law_235 : decode cL_law 235 = .ok (.iconst 4, 1) := by decide +kernel
theorem dL_law_236 : decode cL_law 236 = .ok (.ishr, 1) := by decide +kernel
theorem dL_law_237 : decode cL_law 237 = .ok (.iconst 2, 1) := by decide +kernel
theorem dL_law_238 : decode cL_law 238 = .ok (.invokestatic 18, 3) := by decide +kernel
theorem dL_law_241 : decode cL_law 241 = .ok (.istore 11, 2) := by decide +kernel
theorem dL_law_243 : decode cL_law 243 = .ok (.iload 6, 2) := by decide +kernel
theorem dL_law_245 : decode cL_law 245 = .ok (.bipush 16, 2) := by decide +kernel
theorem dL_law_247 : decode cL_law 247 = .ok (.invokestatic 18, 3) := by decide +kernel
theorem dL_law_250 : decode cL_law 250 = .ok (.tableswitch 730 0 13 #[70, 70, 70, 70, 123, 152, 278, 297, 297, 297, 297, 297, 415, 601], 70) := by decide +kernel
theorem dL_law_320 : decode cL_law 320 = .ok (.iload 6, 2) := by decide +kernel
theorem dL_law_322 : decode cL_law 322 = .ok (.iconst 4, 1) := by decide +kernel
theorem dL_law_323 : decode cL_law 323 = .ok (.ishr, 1) := by decide +kernel
theorem dL_law_324 : decode cL_law 324 = .ok (.iconst 4, 1) := by decide +kernel
theorem dL_law_325 : decode cL_law 325 = .ok (.invokestatic 18, 3) := by decide +kernel
theorem dL_law_328 : decode cL_law 328 = .ok (.istore 12, 2) := by decide +kernel
theorem dL_law_330 : decode cL_law 330 = .ok (.aload_n 1, 1) := by decide +kernel
theorem dL_law_331 : decode cL_law 331 = .ok (.iload 10, 2) := by decide +kernel
theorem dL_law_333 : decode cL_law 333 = .ok (.iload 8, 2) := by decide +kernel
theorem dL_law_335 : decode cL_law 335 = .ok (.iload 9, 2) := by decide +kernel
theorem dL_law_337 : decode cL_law 337 = .ok (.iload 12, 2) := by decide +kernel
theorem dL_law_339 : decode cL_law 339 = .ok (.invokevirtual 34, 3) := by decide +kernel
theorem dL_law_342 : decode cL_law 342 = .ok (.aload_n 1, 1) := by decide +kernel
theorem dL_law_343 : decode cL_law 343 = .ok (.iload 8, 2) := by decide +kernel
theorem dL_law_345 : decode cL_law 345 = .ok (.iload 9, 2) := by decide +kernel
theorem dL_law_347 : decode cL_law 347 = .ok (.iload 12, 2) := by decide +kernel
theorem dL_law_349 : decode cL_law 349 = .ok (.iconst 0, 1) := by decide +kernel
theorem dL_law_350 : decode cL_law 350 = .ok (.invokevirtual 38, 3) := by decide +kernel
theorem dL_law_353 : decode cL_law 353 = .ok (.if_icmp .ne 18, 3) := by decide +kernel
theorem dL_law_356 : decode cL_law 356 = .ok (.aload_n 1, 1) := by decide +kernel
theorem dL_law_357 : decode cL_law 357 = .ok (.iload 8, 2) := by decide +kernel
theorem dL_law_359 : decode cL_law 359 = .ok (.iload 9, 2) := by decide +kernel
theorem dL_law_361 : decode cL_law 361 = .ok (.iload 12, 2) := by decide +kernel
theorem dL_law_363 : decode cL_law 363 = .ok (.iconst 1, 1) := by decide +kernel
theorem dL_law_364 : decode cL_law 364 = .ok (.invokevirtual 38, 3) := by decide +kernel
theorem dL_law_367 : decode cL_law 367 = .ok (.iconst 1, 1) := by decide +kernel
theorem dL_law_368 : decode cL_law 368 = .ok (.if_icmp .ge 626, 3) := by decide +kernel
theorem dL_law_371 : decode cL_law 371 = .ok (.iconst 0, 1) := by decide +kernel
theorem dL_law_372 : decode cL_law 372 = .ok (.ireturn, 1) := by decide +kernel
theorem dL_law_373 : decode cL_law 373 = .ok (.aload_n 1, 1) := by decide +kernel
theorem dL_law_374 : decode cL_law 374 = .ok (.iload 8, 2) := by decide +kernel
theorem dL_law_376 : decode cL_law 376 = .ok (.iload 9, 2) := by decide +kernel
theorem dL_law_378 : decode cL_law 378 = .ok (.iconst 2, 1) := by decide +kernel
theorem dL_law_379 : decode cL_law 379 = .ok (.invokevirtual 42, 3) := by decide +kernel
theorem dL_law_382 : decode cL_law 382 = .ok (.bipush 6, 2) := by decide +kernel
theorem dL_law_384 : decode cL_law 384 = .ok (.if_icmp .ne 610, 3) := by decide +kernel
theorem dL_law_387 : decode cL_law 387 = .ok (.aload_n 1, 1) := by decide +kernel
theorem dL_law_388 : decode cL_law 388 = .ok (.iload 10, 2) := by decide +kernel
theorem dL_law_390 : decode cL_law 390 = .ok (.iload 8, 2) := by decide +kernel
theorem dL_law_392 : decode cL_law 392 = .ok (.iload 9, 2) := by decide +kernel
theorem dL_law_394 : decode cL_law 394 = .ok (.invokevirtual 46, 3) := by decide +kernel
theorem dL_law_397 : decode cL_law 397 = .ok (.ifCond .ge 597, 3) := by decide +kernel
theorem dL_law_400 : decode cL_law 400 = .ok (.iconst 0, 1) := by decide +kernel
theorem dL_law_401 : decode cL_law 401 = .ok (.ireturn, 1) := by decide +kernel
theorem dL_law_402 : decode cL_law 402 = .ok (.aload_n 1, 1) := by decide +kernel
theorem dL_law_403 : decode cL_law 403 = .ok (.iload 8, 2) := by decide +kernel
theorem dL_law_405 : decode cL_law 405 = .ok (.iload 9, 2) := by decide +kernel
theorem dL_law_407 : decode cL_law 407 = .ok (.bipush 6, 2) := by decide +kernel
theorem dL_law_409 : decode cL_law 409 = .ok (.invokevirtual 42, 3) := by decide +kernel
theorem dL_law_412 : decode cL_law 412 = .ok (.iconst 1, 1) := by decide +kernel
theorem dL_law_413 : decode cL_law 413 = .ok (.if_icmp .ne 7, 3) := by decide +kernel
theorem dL_law_416 : decode cL_law 416 = .ok (.iconst 1, 1) := by decide +kernel
theorem dL_law_417 : decode cL_law 417 = .ok (.goto 4, 3) := by decide +kernel
theorem dL_law_420 : decode cL_law 420 = .ok (.iconst 0, 1) := by decide +kernel
theorem dL_law_421 : decode cL_law 421 = .ok (.istore 13, 2) := by decide +kernel
theorem dL_law_423 : decode cL_law 423 = .ok (.aload_n 1, 1) := by decide +kernel
theorem dL_law_424 : decode cL_law 424 = .ok (.iload 8, 2) := by decide +kernel
theorem dL_law_426 : decode cL_law 426 = .ok (.iload 9, 2) := by decide +kernel
theorem dL_law_428 : decode cL_law 428 = .ok (.iconst 4, 1) := by decide +kernel
theorem dL_law_429 : decode cL_law 429 = .ok (.invokevirtual 42, 3) := by decide +kernel
theorem dL_law_432 : decode cL_law 432 = .ok (.ifCond .ge 7, 3) := by decide +kernel
theorem dL_law_435 : decode cL_law 435 = .ok (.iconst 1, 1) := by decide +kernel
theorem dL_law_436 : decode cL_law 436 = .ok (.goto 4, 3) := by decide +kernel
theorem dL_law_439 : decode cL_law 439 = .ok (.iconst 0, 1) := by decide +kernel
theorem dL_law_440 : decode cL_law 440 = .ok (.istore 14, 2) := by decide +kernel
theorem dL_law_442 : decode cL_law 442 = .ok (.aload_n 1, 1) := by decide +kernel
theorem dL_law_443 : decode cL_law 443 = .ok (.iload 8, 2) := by decide +kernel
theorem dL_law_445 : decode cL_law 445 = .ok (.iload 9, 2) := by decide +kernel
theorem dL_law_447 : decode cL_law 447 = .ok (.invokevirtual 49, 3) := by decide +kernel
theorem dL_law_450 : decode cL_law 450 = .ok (.iload 14, 2) := by decide +kernel
theorem dL_law_452 : decode cL_law 452 = .ok (.if_icmp .ne 74, 3) := by decide +kernel
theorem dL_law_455 : decode cL_law 455 = .ok (.aload_n 1, 1) := by decide +kernel
theorem dL_law_456 : decode cL_law 456 = .ok (.iload 8, 2) := by decide +kernel
theorem dL_law_458 : decode cL_law 458 = .ok (.iload 9, 2) := by decide +kernel
theorem dL_law_460 : decode cL_law 460 = .ok (.iconst 4, 1) := by decide +kernel
theorem dL_law_461 : decode cL_law 461 = .ok (.invokevirtual 42, 3) := by decide +kernel
theorem dL_law_464 : decode cL_law 464 = .ok (.aload_n 1, 1) := by decide +kernel
theorem dL_law_465 : decode cL_law 465 = .ok (.iconst 0, 1) := by decide +kernel
theorem dL_law_466 : decode cL_law 466 = .ok (.invokevirtual 53, 3) := by decide +kernel
theorem dL_law_469 : decode cL_law 469 = .ok (.if_icmp .gt 57, 3) := by decide +kernel
theorem dL_law_472 : decode cL_law 472 = .ok (.iload 14, 2) := by decide +kernel
theorem dL_law_474 : decode cL_law 474 = .ok (.ifCond .eq 520, 3) := by decide +kernel
theorem dL_law_477 : decode cL_law 477 = .ok (.aload_n 1, 1) := by decide +kernel
theorem dL_law_478 : decode cL_law 478 = .ok (.iload 8, 2) := by decide +kernel
theorem dL_law_480 : decode cL_law 480 = .ok (.iload 9, 2) := by decide +kernel
theorem dL_law_482 : decode cL_law 482 = .ok (.bipush 6, 2) := by decide +kernel
theorem dL_law_484 : decode cL_law 484 = .ok (.invokevirtual 42, 3) := by decide +kernel
theorem dL_law_487 : decode cL_law 487 = .ok (.iconst 1, 1) := by decide +kernel
theorem dL_law_488 : decode cL_law 488 = .ok (.if_icmp .ne 7, 3) := by decide +kernel
theorem dL_law_491 : decode cL_law 491 = .ok (.iconst 1, 1) := by decide +kernel
theorem dL_law_492 : decode cL_law 492 = .ok (.goto 4, 3) := by decide +kernel
theorem dL_law_495 : decode cL_law 495 = .ok (.iconst 0, 1) := by decide +kernel
theorem dL_law_496 : decode cL_law 496 = .ok (.iload 13, 2) := by decide +kernel
theorem dL_law_498 : decode cL_law 498 = .ok (.ifCond .eq 24, 3) := by decide +kernel
theorem dL_law_501 : decode cL_law 501 = .ok (.aload_n 1, 1) := by decide +kernel
theorem dL_law_502 : decode cL_law 502 = .ok (.iload 8, 2) := by decide +kernel
theorem dL_law_504 : decode cL_law 504 = .ok (.iload 9, 2) := by decide +kernel
theorem dL_law_506 : decode cL_law 506 = .ok (.iconst 5, 1) := by decide +kernel
theorem dL_law_507 : decode cL_law 507 = .ok (.invokevirtual 42, 3) := by decide +kernel
theorem dL_law_510 : decode cL_law 510 = .ok (.aload_n 1, 1) := by decide +kernel
theorem dL_law_511 : decode cL_law 511 = .ok (.iconst 0, 1) := by decide +kernel
theorem dL_law_512 : decode cL_law 512 = .ok (.invokevirtual 53, 3) := by decide +kernel
theorem dL_law_515 : decode cL_law 515 = .ok (.if_icmp .ge 7, 3) := by decide +kernel
theorem dL_law_518 : decode cL_law 518 = .ok (.iconst 1, 1) := by decide +kernel
theorem dL_law_519 : decode cL_law 519 = .ok (.goto 4, 3) := by decide +kernel
theorem dL_law_522 : decode cL_law 522 = .ok (.iconst 0, 1) := by decide +kernel
theorem dL_law_523 : decode cL_law 523 = .ok (.if_icmp .eq 471, 3) := by decide +kernel
theorem dL_law_526 : decode cL_law 526 = .ok (.iconst 0, 1) := by decide +kernel
theorem dL_law_527 : decode cL_law 527 = .ok (.ireturn, 1) := by decide +kernel
theorem dL_law_528 : decode cL_law 528 = .ok (.aload_n 1, 1) := by decide +kernel
theorem dL_law_529 : decode cL_law 529 = .ok (.iload 11, 2) := by decide +kernel
theorem dL_law_531 : decode cL_law 531 = .ok (.iload 7, 2) := by decide +kernel
theorem dL_law_533 : decode cL_law 533 = .ok (.iconst 3, 1) := by decide +kernel
theorem dL_law_534 : decode cL_law 534 = .ok (.ishr, 1) := by decide +kernel
theorem dL_law_535 : decode cL_law 535 = .ok (.iconst 4, 1) := by decide +kernel
theorem dL_law_536 : decode cL_law 536 = .ok (.invokestatic 18, 3) := by decide +kernel
theorem dL_law_539 : decode cL_law 539 = .ok (.invokevirtual 57, 3) := by decide +kernel
theorem dL_law_542 : decode cL_law 542 = .ok (.ifCond .ge 452, 3) := by decide +kernel
theorem dL_law_545 : decode cL_law 545 = .ok (.iconst 0, 1) := by decide +kernel
theorem dL_law_546 : decode cL_law 546 = .ok (.ireturn, 1) := by decide +kernel
theorem dL_law_547 : decode cL_law 547 = .ok (.iload 7, 2) := by decide +kernel
theorem dL_law_549 : decode cL_law 549 = .ok (.iconst 5, 1) := by decide +kernel
theorem dL_law_550 : decode cL_law 550 = .ok (.ishr, 1) := by decide +kernel
theorem dL_law_551 : decode cL_law 551 = .ok (.iconst 2, 1) := by decide +kernel
theorem dL_law_552 : decode cL_law 552 = .ok (.invokestatic 18, 3) := by decide +kernel
theorem dL_law_555 : decode cL_law 555 = .ok (.ifCond .ne 7, 3) := by decide +kernel
theorem dL_law_558 : decode cL_law 558 = .ok (.iconst 1, 1) := by decide +kernel
theorem dL_law_559 : decode cL_law 559 = .ok (.goto 4, 3) := by decide +kernel
theorem dL_law_562 : decode cL_law 562 = .ok (.iconst 0, 1) := by decide +kernel
theorem dL_law_563 : decode cL_law 563 = .ok (.istore 15, 2) := by decide +kernel
theorem dL_law_565 : decode cL_law 565 = .ok (.iconst 1, 1) := by decide +kernel
theorem dL_law_566 : decode cL_law 566 = .ok (.iload 6, 2) := by decide +kernel
theorem dL_law_568 : decode cL_law 568 = .ok (.iconst 3, 1) := by decide +kernel
theorem dL_law_569 : decode cL_law 569 = .ok (.ishr, 1) := by decide +kernel
theorem dL_law_570 : decode cL_law 570 = .ok (.bipush 15, 2) := by decide +kernel
theorem dL_law_572 : decode cL_law 572 = .ok (.invokestatic 18, 3) := by decide +kernel
theorem dL_law_575 : decode cL_law 575 = .ok (.iadd, 1) := by decide +kernel
theorem dL_law_576 : decode cL_law 576 = .ok (.istore 16, 2) := by decide +kernel
theorem dL_law_578 : decode cL_law 578 = .ok (.iload 4, 2) := by decide +kernel
theorem dL_law_580 : decode cL_law 580 = .ok (.bipush 57, 2) := by decide +kernel
theorem dL_law_582 : decode cL_law 582 = .ok (.if_icmp .le 6, 3) := by decide +kernel
theorem dL_law_585 : decode cL_law 585 = .ok (.goto 409, 3) := by decide +kernel
theorem dL_law_588 : decode cL_law 588 = .ok (.aload_n 1, 1) := by decide +kernel
theorem dL_law_589 : decode cL_law 589 = .ok (.iload 8, 2) := by decide +kernel
theorem dL_law_591 : decode cL_law 591 = .ok (.iload 6, 2) := by decide +kernel
theorem dL_law_593 : decode cL_law 593 = .ok (.bipush 6, 2) := by decide +kernel
theorem dL_law_595 : decode cL_law 595 = .ok (.ishr, 1) := by decide +kernel
theorem dL_law_596 : decode cL_law 596 = .ok (.iconst 2, 1) := by decide +kernel
theorem dL_law_597 : decode cL_law 597 = .ok (.invokestatic 18, 3) := by decide +kernel
theorem dL_law_600 : decode cL_law 600 = .ok (.iconst 3, 1) := by decide +kernel
theorem dL_law_601 : decode cL_law 601 = .ok (.iadd, 1) := by decide +kernel
theorem dL_law_602 : decode cL_law 602 = .ok (.iload 16, 2) := by decide +kernel
theorem dL_law_604 : decode cL_law 604 = .ok (.iload 15, 2) := by decide +kernel
theorem dL_law_606 : decode cL_law 606 = .ok (.iload 4, 2) := by decide +kernel
theorem dL_law_608 : decode cL_law 608 = .ok (.invokestatic 60, 3) := by decide +kernel
theorem dL_law_611 : decode cL_law 611 = .ok (.ifCond .ne 5, 3) := by decide +kernel
theorem dL_law_614 : decode cL_law 614 = .ok (.iconst 0, 1) := by decide +kernel
theorem dL_law_615 : decode cL_law 615 = .ok (.ireturn, 1) := by decide +kernel
theorem dL_law_616 : decode cL_law 616 = .ok (.aload_n 1, 1) := by decide +kernel
theorem dL_law_617 : decode cL_law 617 = .ok (.iconst 4, 1) := by decide +kernel
theorem dL_law_618 : decode cL_law 618 = .ok (.invokevirtual 53, 3) := by decide +kernel
theorem dL_law_621 : decode cL_law 621 = .ok (.iload 4, 2) := by decide +kernel
theorem dL_law_623 : decode cL_law 623 = .ok (.if_icmp .ne 6, 3) := by decide +kernel
theorem dL_law_626 : decode cL_law 626 = .ok (.goto 368, 3) := by decide +kernel
theorem dL_law_629 : decode cL_law 629 = .ok (.iconst 0, 1) := by decide +kernel
theorem dL_law_630 : decode cL_law 630 = .ok (.istore 17, 2) := by decide +kernel
theorem dL_law_632 : decode cL_law 632 = .ok (.iload 17, 2) := by decide +kernel
theorem dL_law_634 : decode cL_law 634 = .ok (.iconst 4, 1) := by decide +kernel
theorem dL_law_635 : decode cL_law 635 = .ok (.if_icmp .ge 24, 3) := by decide +kernel
theorem dL_law_638 : decode cL_law 638 = .ok (.aload_n 2, 1) := by decide +kernel
theorem dL_law_639 : decode cL_law 639 = .ok (.iload 4, 2) := by decide +kernel
theorem dL_law_641 : decode cL_law 641 = .ok (.aaload, 1) := by decide +kernel
theorem dL_law_642 : decode cL_law 642 = .ok (.iload 17, 2) := by decide +kernel
theorem dL_law_644 : decode cL_law 644 = .ok (.aload_n 1, 1) := by decide +kernel
theorem dL_law_645 : decode cL_law 645 = .ok (.iload 4, 2) := by decide +kernel
theorem dL_law_647 : decode cL_law 647 = .ok (.iload 17, 2) := by decide +kernel
theorem dL_law_649 : decode cL_law 649 = .ok (.invokevirtual 64, 3) := by decide +kernel
theorem dL_law_652 : decode cL_law 652 = .ok (.iastore, 1) := by decide +kernel
theorem dL_law_653 : decode cL_law 653 = .ok (.iinc 17 1, 3) := by decide +kernel
theorem dL_law_656 : decode cL_law 656 = .ok (.goto (-24), 3) := by decide +kernel
theorem dL_law_659 : decode cL_law 659 = .ok (.iinc 4 1, 3) := by decide +kernel
theorem dL_law_662 : decode cL_law 662 = .ok (.goto 332, 3) := by decide +kernel
theorem dL_law_665 : decode cL_law 665 = .ok (.iload 4, 2) := by decide +kernel
theorem dL_law_667 : decode cL_law 667 = .ok (.ifCond .eq 327, 3) := by decide +kernel
theorem dL_law_670 : decode cL_law 670 = .ok (.iload 4, 2) := by decide +kernel
theorem dL_law_672 : decode cL_law 672 = .ok (.bipush 57, 2) := by decide +kernel
theorem dL_law_674 : decode cL_law 674 = .ok (.if_icmp .le 6, 3) := by decide +kernel
theorem dL_law_677 : decode cL_law 677 = .ok (.goto 317, 3) := by decide +kernel
theorem dL_law_680 : decode cL_law 680 = .ok (.iload 6, 2) := by decide +kernel
theorem dL_law_682 : decode cL_law 682 = .ok (.iconst 4, 1) := by decide +kernel
theorem dL_law_683 : decode cL_law 683 = .ok (.ishr, 1) := by decide +kernel
theorem dL_law_684 : decode cL_law 684 = .ok (.iload 4, 2) := by decide +kernel
theorem dL_law_686 : decode cL_law 686 = .ok (.invokestatic 18, 3) := by decide +kernel
theorem dL_law_689 : decode cL_law 689 = .ok (.istore 17, 2) := by decide +kernel
theorem dL_law_691 : decode cL_law 691 = .ok (.aload_n 1, 1) := by decide +kernel
theorem dL_law_692 : decode cL_law 692 = .ok (.iload 17, 2) := by decide +kernel
theorem dL_law_694 : decode cL_law 694 = .ok (.bipush 6, 2) := by decide +kernel
theorem dL_law_696 : decode cL_law 696 = .ok (.invokevirtual 67, 3) := by decide +kernel
theorem dL_law_699 : decode cL_law 699 = .ok (.iconst 1, 1) := by decide +kernel
theorem dL_law_700 : decode cL_law 700 = .ok (.if_icmp .eq 294, 3) := by decide +kernel
theorem dL_law_703 : decode cL_law 703 = .ok (.aload_n 1, 1) := by decide +kernel
theorem dL_law_704 : decode cL_law 704 = .ok (.iload 17, 2) := by decide +kernel
theorem dL_law_706 : decode cL_law 706 = .ok (.iload 9, 2) := by decide +kernel
theorem dL_law_708 : decode cL_law 708 = .ok (.invokevirtual 64, 3) := by decide +kernel
theorem dL_law_711 : decode cL_law 711 = .ok (.ifCond .ge 6, 3) := by decide +kernel
theorem dL_law_714 : decode cL_law 714 = .ok (.goto 280, 3) := by decide +kernel
theorem dL_law_717 : decode cL_law 717 = .ok (.aload_n 1, 1) := by decide +kernel
theorem dL_law_718 : decode cL_law 718 = .ok (.iload 17, 2) := by decide +kernel
theorem dL_law_720 : decode cL_law 720 = .ok (.iload 9, 2) := by decide +kernel
theorem dL_law_722 : decode cL_law 722 = .ok (.invokevirtual 70, 3) := by decide +kernel
theorem dL_law_725 : decode cL_law 725 = .ok (.istore 18, 2) := by decide +kernel
theorem dL_law_727 : decode cL_law 727 = .ok (.aload_n 1, 1) := by decide +kernel
theorem dL_law_728 : decode cL_law 728 = .ok (.aload_n 1, 1) := by decide +kernel
theorem dL_law_729 : decode cL_law 729 = .ok (.iload 17, 2) := by decide +kernel
theorem dL_law_731 : decode cL_law 731 = .ok (.iconst 0, 1) := by decide +kernel
theorem dL_law_732 : decode cL_law 732 = .ok (.invokevirtual 67, 3) := by decide +kernel
theorem dL_law_735 : decode cL_law 735 = .ok (.iload 9, 2) := by decide +kernel
theorem dL_law_737 : decode cL_law 737 = .ok (.iconst 0, 1) := by decide +kernel
theorem dL_law_738 : decode cL_law 738 = .ok (.invokevirtual 42, 3) := by decide +kernel
theorem dL_law_741 : decode cL_law 741 = .ok (.istore 19, 2) := by decide +kernel
theorem dL_law_743 : decode cL_law 743 = .ok (.iload 18, 2) := by decide +kernel
theorem dL_law_745 : decode cL_law 745 = .ok (.iload 19, 2) := by decide +kernel
theorem dL_law_747 : decode cL_law 747 = .ok (.ifCond .lt 16, 3) := by decide +kernel
theorem dL_law_750 : decode cL_law 750 = .ok (.iload 19, 2) := by decide +kernel
theorem dL_law_752 : decode cL_law 752 = .ok (.aload_n 1, 1) := by decide +kernel
theorem dL_law_753 : decode cL_law 753 = .ok (.iload 17, 2) := by decide +kernel
theorem dL_law_755 : decode cL_law 755 = .ok (.iload 9, 2) := by decide +kernel
theorem dL_law_757 : decode cL_law 757 = .ok (.invokevirtual 64, 3) := by decide +kernel
theorem dL_law_760 : decode cL_law 760 = .ok (.if_icmp .ne 8, 3) := by decide +kernel
theorem dL_law_763 : decode cL_law 763 = .ok (.bipush (-2), 2) := by decide +kernel
theorem dL_law_765 : decode cL_law 765 = .ok (.goto 5, 3) := by decide +kernel
theorem dL_law_768 : decode cL_law 768 = .ok (.iload 4, 2) := by decide +kernel
theorem dL_law_770 : decode cL_law 770 = .ok (.if_icmp .ne 35, 3) := by decide +kernel
theorem dL_law_773 : decode cL_law 773 = .ok (.iload 18, 2) := by decide +kernel
theorem dL_law_775 : decode cL_law 775 = .ok (.ifCond .lt 32, 3) := by decide +kernel
theorem dL_law_778 : decode cL_law 778 = .ok (.aload_n 1, 1) := by decide +kernel
theorem dL_law_779 : decode cL_law 779 = .ok (.iload 4, 2) := by decide +kernel
theorem dL_law_781 : decode cL_law 781 = .ok (.iload 9, 2) := by decide +kernel
theorem dL_law_783 : decode cL_law 783 = .ok (.invokevirtual 64, 3) := by decide +kernel
theorem dL_law_786 : decode cL_law 786 = .ok (.iload 19, 2) := by decide +kernel
theorem dL_law_788 : decode cL_law 788 = .ok (.if_icmp .ne 17, 3) := by decide +kernel
theorem dL_law_791 : decode cL_law 791 = .ok (.aload_n 1, 1) := by decide +kernel
theorem dL_law_792 : decode cL_law 792 = .ok (.iload 4, 2) := by decide +kernel
theorem dL_law_794 : decode cL_law 794 = .ok (.iconst 2, 1) := by decide +kernel
theorem dL_law_795 : decode cL_law 795 = .ok (.invokevirtual 67, 3) := by decide +kernel
theorem dL_law_798 : decode cL_law 798 = .ok (.iconst 1, 1) := by decide +kernel
theorem dL_law_799 : decode cL_law 799 = .ok (.iload 9, 2) := by decide +kernel
theorem dL_law_801 : decode cL_law 801 = .ok (.ishl, 1) := by decide +kernel
theorem dL_law_802 : decode cL_law 802 = .ok (.if_icmp .eq 5, 3) := by decide +kernel
theorem dL_law_805 : decode cL_law 805 = .ok (.iconst 0, 1) := by decide +kernel
theorem dL_law_806 : decode cL_law 806 = .ok (.ireturn, 1) := by decide +kernel
theorem dL_law_807 : decode cL_law 807 = .ok (.iload 18, 2) := by decide +kernel
theorem dL_law_809 : decode cL_law 809 = .ok (.ifCond .ge 6, 3) := by decide +kernel
theorem dL_law_812 : decode cL_law 812 = .ok (.goto 182, 3) := by decide +kernel
theorem dL_law_815 : decode cL_law 815 = .ok (.iconst 0, 1) := by decide +kernel
theorem dL_law_816 : decode cL_law 816 = .ok (.istore 20, 2) := by decide +kernel
theorem dL_law_818 : decode cL_law 818 = .ok (.iload 20, 2) := by decide +kernel
theorem dL_law_820 : decode cL_law 820 = .ok (.iconst 4, 1) := by decide +kernel
theorem dL_law_821 : decode cL_law 821 = .ok (.if_icmp .ge 24, 3) := by decide +kernel
theorem dL_law_824 : decode cL_law 824 = .ok (.aload_n 2, 1) := by decide +kernel
theorem dL_law_825 : decode cL_law 825 = .ok (.iload 4, 2) := by decide +kernel
theorem dL_law_827 : decode cL_law 827 = .ok (.aaload, 1) := by decide +kernel
theorem dL_law_828 : decode cL_law 828 = .ok (.iload 20, 2) := by decide +kernel
theorem dL_law_830 : decode cL_law 830 = .ok (.aload_n 1, 1) := by decide +kernel
theorem dL_law_831 : decode cL_law 831 = .ok (.iload 4, 2) := by decide +kernel
theorem dL_law_833 : decode cL_law 833 = .ok (.iload 20, 2) := by decide +kernel
theorem dL_law_835 : decode cL_law 835 = .ok (.invokevirtual 64, 3) := by decide +kernel
theorem dL_law_838 : decode cL_law 838 = .ok (.iastore, 1) := by decide +kernel
theorem dL_law_839 : decode cL_law 839 = .ok (.iinc 20 1, 3) := by decide +kernel
theorem dL_law_842 : decode cL_law 842 = .ok (.goto (-24), 3) := by decide +kernel
theorem dL_law_845 : decode cL_law 845 = .ok (.iinc 4 1, 3) := by decide +kernel
theorem dL_law_848 : decode cL_law 848 = .ok (.goto 146, 3) := by decide +kernel
theorem dL_law_851 : decode cL_law 851 = .ok (.iload 4, 2) := by decide +kernel
theorem dL_law_853 : decode cL_law 853 = .ok (.ifCond .eq 141, 3) := by decide +kernel
theorem dL_law_856 : decode cL_law 856 = .ok (.iload 4, 2) := by decide +kernel
theorem dL_law_858 : decode cL_law 858 = .ok (.bipush 57, 2) := by decide +kernel
theorem dL_law_860 : decode cL_law 860 = .ok (.if_icmp .gt 134, 3) := by decide +kernel
theorem dL_law_863 : decode cL_law 863 = .ok (.aload_n 1, 1) := by decide +kernel
theorem dL_law_864 : decode cL_law 864 = .ok (.iload 6, 2) := by decide +kernel
theorem dL_law_866 : decode cL_law 866 = .ok (.iconst 4, 1) := by decide +kernel
theorem dL_law_867 : decode cL_law 867 = .ok (.ishr, 1) := by decide +kernel
theorem dL_law_868 : decode cL_law 868 = .ok (.iload 4, 2) := by decide +kernel
theorem dL_law_870 : decode cL_law 870 = .ok (.invokestatic 18, 3) := by decide +kernel
theorem dL_law_873 : decode cL_law 873 = .ok (.bipush 6, 2) := by decide +kernel
theorem dL_law_875 : decode cL_law 875 = .ok (.invokevirtual 67, 3) := by decide +kernel
theorem dL_law_878 : decode cL_law 878 = .ok (.iconst 1, 1) := by decide +kernel
theorem dL_law_879 : decode cL_law 879 = .ok (.if_icmp .eq 115, 3) := by decide +kernel
theorem dL_law_882 : decode cL_law 882 = .ok (.aload_n 1, 1) := by decide +kernel
theorem dL_law_883 : decode cL_law 883 = .ok (.iload 6, 2) := by decide +kernel
theorem dL_law_885 : decode cL_law 885 = .ok (.iconst 4, 1) := by decide +kernel
theorem dL_law_886 : decode cL_law 886 = .ok (.ishr, 1) := by decide +kernel
theorem dL_law_887 : decode cL_law 887 = .ok (.iload 4, 2) := by decide +kernel
theorem dL_law_889 : decode cL_law 889 = .ok (.invokestatic 18, 3) := by decide +kernel
theorem dL_law_892 : decode cL_law 892 = .ok (.iconst 1, 1) := by decide +kernel
theorem dL_law_893 : decode cL_law 893 = .ok (.invokevirtual 67, 3) := by decide +kernel
theorem dL_law_896 : decode cL_law 896 = .ok (.iconst 1, 1) := by decide +kernel
theorem dL_law_897 : decode cL_law 897 = .ok (.if_icmp .ne 6, 3) := by decide +kernel
theorem dL_law_900 : decode cL_law 900 = .ok (.goto 94, 3) := by decide +kernel
theorem dL_law_903 : decode cL_law 903 = .ok (.iload 6, 2) := by decide +kernel
theorem dL_law_905 : decode cL_law 905 = .ok (.iconst 4, 1) := by decide +kernel
theorem dL_law_906 : decode cL_law 906 = .ok (.ishr, 1) := by decide +kernel
theorem dL_law_907 : decode cL_law 907 = .ok (.iload 4, 2) := by decide +kernel
theorem dL_law_909 : decode cL_law 909 = .ok (.invokestatic 18, 3) := by decide +kernel
theorem dL_law_912 : decode cL_law 912 = .ok (.istore 20, 2) := by decide +kernel
theorem dL_law_914 : decode cL_law 914 = .ok (.aload_n 1, 1) := by decide +kernel
theorem dL_law_915 : decode cL_law 915 = .ok (.iload 20, 2) := by decide +kernel
theorem dL_law_917 : decode cL_law 917 = .ok (.invokevirtual 73, 3) := by decide +kernel
theorem dL_law_920 : decode cL_law 920 = .ok (.iconst 2, 1) := by decide +kernel
theorem dL_law_921 : decode cL_law 921 = .ok (.if_icmp .gt 28, 3) := by decide +kernel
theorem dL_law_924 : decode cL_law 924 = .ok (.aload_n 1, 1) := by decide +kernel
theorem dL_law_925 : decode cL_law 925 = .ok (.iload 4, 2) := by decide +kernel
theorem dL_law_927 : decode cL_law 927 = .ok (.bipush 7, 2) := by decide +kernel
theorem dL_law_929 : decode cL_law 929 = .ok (.invokevirtual 67, 3) := by decide +kernel
theorem dL_law_932 : decode cL_law 932 = .ok (.iload 20, 2) := by decide +kernel
theorem dL_law_934 : decode cL_law 934 = .ok (.if_icmp .ne 15, 3) := by decide +kernel
theorem dL_law_937 : decode cL_law 937 = .ok (.aload_n 1, 1) := by decide +kernel
theorem dL_law_938 : decode cL_law 938 = .ok (.iload 20, 2) := by decide +kernel
theorem dL_law_940 : decode cL_law 940 = .ok (.bipush 6, 2) := by decide +kernel
theorem dL_law_942 : decode cL_law 942 = .ok (.invokevirtual 67, 3) := by decide +kernel
theorem dL_law_945 : decode cL_law 945 = .ok (.iconst 1, 1) := by decide +kernel
theorem dL_law_946 : decode cL_law 946 = .ok (.if_icmp .eq 5, 3) := by decide +kernel
theorem dL_law_949 : decode cL_law 949 = .ok (.iconst 0, 1) := by decide +kernel
theorem dL_law_950 : decode cL_law 950 = .ok (.ireturn, 1) := by decide +kernel
theorem dL_law_951 : decode cL_law 951 = .ok (.iconst 0, 1) := by decide +kernel
theorem dL_law_952 : decode cL_law 952 = .ok (.istore 21, 2) := by decide +kernel
theorem dL_law_954 : decode cL_law 954 = .ok (.iload 21, 2) := by decide +kernel
theorem dL_law_956 : decode cL_law 956 = .ok (.iconst 4, 1) := by decide +kernel
theorem dL_law_957 : decode cL_law 957 = .ok (.if_icmp .ge 17, 3) := by decide +kernel
theorem dL_law_960 : decode cL_law 960 = .ok (.aload_n 2, 1) := by decide +kernel
theorem dL_law_961 : decode cL_law 961 = .ok (.iload 4, 2) := by decide +kernel
theorem dL_law_963 : decode cL_law 963 = .ok (.aaload, 1) := by decide +kernel
theorem dL_law_964 : decode cL_law 964 = .ok (.iload 21, 2) := by decide +kernel
theorem dL_law_966 : decode cL_law 966 = .ok (.iconst (-1), 1) := by decide +kernel
theorem dL_law_967 : decode cL_law 967 = .ok (.iastore, 1) := by decide +kernel
theorem dL_law_968 : decode cL_law 968 = .ok (.iinc 21 1, 3) := by decide +kernel
theorem dL_law_971 : decode cL_law 971 = .ok (.goto (-17), 3) := by decide +kernel
theorem dL_law_974 : decode cL_law 974 = .ok (.iinc 4 1, 3) := by decide +kernel
theorem dL_law_977 : decode cL_law 977 = .ok (.goto 17, 3) := by decide +kernel
theorem dL_law_980 : decode cL_law 980 = .ok (.aload_n 1, 1) := by decide +kernel
theorem dL_law_981 : decode cL_law 981 = .ok (.iload 11, 2) := by decide +kernel
theorem dL_law_983 : decode cL_law 983 = .ok (.iload 4, 2) := by decide +kernel
theorem dL_law_985 : decode cL_law 985 = .ok (.aload_n 3, 1) := by decide +kernel
theorem dL_law_986 : decode cL_law 986 = .ok (.invokestatic 76, 3) := by decide +kernel
theorem dL_law_989 : decode cL_law 989 = .ok (.ifCond .ne 5, 3) := by decide +kernel
theorem dL_law_992 : decode cL_law 992 = .ok (.iconst 0, 1) := by decide +kernel
theorem dL_law_993 : decode cL_law 993 = .ok (.ireturn, 1) := by decide +kernel
theorem dL_law_994 : decode cL_law 994 = .ok (.iinc 5 1, 3) := by decide +kernel
theorem dL_law_997 : decode cL_law 997 = .ok (.goto (-838), 3) := by decide +kernel
theorem dL_law_1000 : decode cL_law 1000 = .ok (.iconst 0, 1) := by decide +kernel
theorem dL_law_1001 : decode cL_law 1001 = .ok (.istore 5, 2) := by decide +kernel
theorem dL_law_1003 : decode cL_law 1003 = .ok (.iload 5, 2) := by decide +kernel
theorem dL_law_1005 : decode cL_law 1005 = .ok (.iload 4, 2) := by decide +kernel
theorem dL_law_1007 : decode cL_law 1007 = .ok (.if_icmp .ge 44, 3) := by decide +kernel
theorem dL_law_1010 : decode cL_law 1010 = .ok (.iconst 0, 1) := by decide +kernel
theorem dL_law_1011 : decode cL_law 1011 = .ok (.istore 6, 2) := by decide +kernel
theorem dL_law_1013 : decode cL_law 1013 = .ok (.iload 6, 2) := by decide +kernel
theorem dL_law_1015 : decode cL_law 1015 = .ok (.iconst 4, 1) := by decide +kernel
theorem dL_law_1016 : decode cL_law 1016 = .ok (.if_icmp .ge 29, 3) := by decide +kernel
theorem dL_law_1019 : decode cL_law 1019 = .ok (.aload_n 1, 1) := by decide +kernel
theorem dL_law_1020 : decode cL_law 1020 = .ok (.iload 5, 2) := by decide +kernel
theorem dL_law_1022 : decode cL_law 1022 = .ok (.iload 6, 2) := by decide +kernel
theorem dL_law_1024 : decode cL_law 1024 = .ok (.invokevirtual 64, 3) := by decide +kernel
theorem dL_law_1027 : decode cL_law 1027 = .ok (.aload_n 2, 1) := by decide +kernel
theorem dL_law_1028 : decode cL_law 1028 = .ok (.iload 5, 2) := by decide +kernel
theorem dL_law_1030 : decode cL_law 1030 = .ok (.aaload, 1) := by decide +kernel
theorem dL_law_1031 : decode cL_law 1031 = .ok (.iload 6, 2) := by decide +kernel
theorem dL_law_1033 : decode cL_law 1033 = .ok (.iaload, 1) := by decide +kernel
theorem dL_law_1034 : decode cL_law 1034 = .ok (.if_icmp .eq 5, 3) := by decide +kernel
theorem dL_law_1037 : decode cL_law 1037 = .ok (.iconst 0, 1) := by decide +kernel
theorem dL_law_1038 : decode cL_law 1038 = .ok (.ireturn, 1) := by decide +kernel
theorem dL_law_1039 : decode cL_law 1039 = .ok (.iinc 6 1, 3) := by decide +kernel
theorem dL_law_1042 : decode cL_law 1042 = .ok (.goto (-29), 3) := by decide +kernel
theorem dL_law_1045 : decode cL_law 1045 = .ok (.iinc 5 1, 3) := by decide +kernel
theorem dL_law_1048 : decode cL_law 1048 = .ok (.goto (-45), 3) := by decide +kernel
theorem dL_law_1051 : decode cL_law 1051 = .ok (.aload_n 1, 1) := by decide +kernel
theorem dL_law_1052 : decode cL_law 1052 = .ok (.invokestatic 80, 3) := by decide +kernel
theorem dL_law_1055 : decode cL_law 1055 = .ok (.ifCond .eq 32, 3) := by decide +kernel
theorem dL_law_1058 : decode cL_law 1058 = .ok (.aload_n 1, 1) := by decide +kernel
theorem dL_law_1059 : decode cL_law 1059 = .ok (.aload_n 0, 1) := by decide +kernel
theorem dL_law_1060 : decode cL_law 1060 = .ok (.iconst 3, 1) := by decide +kernel
theorem dL_law_1061 : decode cL_law 1061 = .ok (.invokestatic 12, 3) := by decide +kernel
theorem dL_law_1064 : decode cL_law 1064 = .ok (.iconst 4, 1) := by decide +kernel
theorem dL_law_1065 : decode cL_law 1065 = .ok (.invokestatic 18, 3) := by decide +kernel
theorem dL_law_1068 : decode cL_law 1068 = .ok (.aload_n 0, 1) := by decide +kernel
theorem dL_law_1069 : decode cL_law 1069 = .ok (.iconst 4, 1) := by decide +kernel
theorem dL_law_1070 : decode cL_law 1070 = .ok (.invokestatic 12, 3) := by decide +kernel
theorem dL_law_1073 : decode cL_law 1073 = .ok (.iconst 4, 1) := by decide +kernel
theorem dL_law_1074 : decode cL_law 1074 = .ok (.invokestatic 18, 3) := by decide +kernel
theorem dL_law_1077 : decode cL_law 1077 = .ok (.invokestatic 84, 3) := by decide +kernel
theorem dL_law_1080 : decode cL_law 1080 = .ok (.ifCond .eq 7, 3) := by decide +kernel
theorem dL_law_1083 : decode cL_law 1083 = .ok (.iconst 1, 1) := by decide +kernel
theorem dL_law_1084 : decode cL_law 1084 = .ok (.goto 4, 3) := by decide +kernel
theorem dL_law_1087 : decode cL_law 1087 = .ok (.iconst 0, 1) := by decide +kernel
theorem dL_law_1088 : decode cL_law 1088 = .ok (.ireturn, 1) := by decide +kernel
theorem dL_isFiled_0 : decode cL_isFiled 0 = .ok (.aload_n 0, 1) := by decide +kernel
theorem dL_isFiled_1 : decode cL_isFiled 1 = .ok (.iload_n 1, 1) := by decide +kernel
theorem dL_isFiled_2 : decode cL_isFiled 2 = .ok (.iload_n 2, 1) := by decide +kernel
theorem dL_isFiled_3 : decode cL_isFiled 3 = .ok (.iload_n 3, 1) := by decide +kernel
theorem dL_isFiled_4 : decode cL_isFiled 4 = .ok (.iload 4, 2) := by decide +kernel
theorem dL_isFiled_6 : decode cL_isFiled 6 = .ok (.iconst 0, 1) := by decide +kernel
theorem dL_isFiled_7 : decode cL_isFiled 7 = .ok (.invokevirtual 88, 3) := by decide +kernel
theorem dL_isFiled_10 : decode cL_isFiled 10 = .ok (.istore 6, 2) := by decide +kernel
theorem dL_isFiled_12 : decode cL_isFiled 12 = .ok (.iconst 1, 1) := by decide +kernel
theorem dL_isFiled_13 : decode cL_isFiled 13 = .ok (.istore 7, 2) := by decide +kernel
theorem dL_isFiled_15 : decode cL_isFiled 15 = .ok (.iconst 0, 1) := by decide +kernel
theorem dL_isFiled_16 : decode cL_isFiled 16 = .ok (.istore 8, 2) := by decide +kernel
theorem dL_isFiled_18 : decode cL_isFiled 18 = .ok (.iload 8, 2) := by decide +kernel
theorem dL_isFiled_20 : decode cL_isFiled 20 = .ok (.iconst 4, 1) := by decide +kernel
theorem dL_isFiled_21 : decode cL_isFiled 21 = .ok (.if_icmp .ge 49, 3) := by decide +kernel
theorem dL_isFiled_24 : decode cL_isFiled 24 = .ok (.iload_n 3, 1) := by decide +kernel
theorem dL_isFiled_25 : decode cL_isFiled 25 = .ok (.iload 8, 2) := by decide +kernel
theorem dL_isFiled_27 : decode cL_isFiled 27 = .ok (.ishr, 1) := by decide +kernel
theorem dL_isFiled_28 : decode cL_isFiled 28 = .ok (.iconst 1, 1) := by decide +kernel
theorem dL_isFiled_29 : decode cL_isFiled 29 = .ok (.iand, 1) := by decide +kernel
theorem dL_isFiled_30 : decode cL_isFiled 30 = .ok (.iconst 1, 1) := by decide +kernel
theorem dL_isFiled_31 : decode cL_isFiled 31 = .ok (.if_icmp .ne 33, 3) := by decide +kernel
theorem dL_isFiled_34 : decode cL_isFiled 34 = .ok (.iload 7, 2) := by decide +kernel
theorem dL_isFiled_36 : decode cL_isFiled 36 = .ok (.aload_n 0, 1) := by decide +kernel
theorem dL_isFiled_37 : decode cL_isFiled 37 = .ok (.iload_n 1, 1) := by decide +kernel
theorem dL_isFiled_38 : decode cL_isFiled 38 = .ok (.iload 8, 2) := by decide +kernel
theorem dL_isFiled_40 : decode cL_isFiled 40 = .ok (.iload 4, 2) := by decide +kernel
theorem dL_isFiled_42 : decode cL_isFiled 42 = .ok (.ifCond .eq 7, 3) := by decide +kernel
theorem dL_isFiled_45 : decode cL_isFiled 45 = .ok (.iconst 1, 1) := by decide +kernel
theorem dL_isFiled_46 : decode cL_isFiled 46 = .ok (.goto 4, 3) := by decide +kernel
theorem dL_isFiled_49 : decode cL_isFiled 49 = .ok (.iconst 0, 1) := by decide +kernel
theorem dL_isFiled_50 : decode cL_isFiled 50 = .ok (.invokevirtual 42, 3) := by decide +kernel
theorem dL_isFiled_53 : decode cL_isFiled 53 = .ok (.ifCond .lt 7, 3) := by decide +kernel
theorem dL_isFiled_56 : decode cL_isFiled 56 = .ok (.iconst 1, 1) := by decide +kernel
theorem dL_isFiled_57 : decode cL_isFiled 57 = .ok (.goto 4, 3) := by decide +kernel
theorem dL_isFiled_60 : decode cL_isFiled 60 = .ok (.iconst 0, 1) := by decide +kernel
theorem dL_isFiled_61 : decode cL_isFiled 61 = .ok (.iand, 1) := by decide +kernel
theorem dL_isFiled_62 : decode cL_isFiled 62 = .ok (.istore 7, 2) := by decide +kernel
theorem dL_isFiled_64 : decode cL_isFiled 64 = .ok (.iinc 8 1, 3) := by decide +kernel
theorem dL_isFiled_67 : decode cL_isFiled 67 = .ok (.goto (-49), 3) := by decide +kernel
theorem dL_isFiled_70 : decode cL_isFiled 70 = .ok (.iload 7, 2) := by decide +kernel
theorem dL_isFiled_72 : decode cL_isFiled 72 = .ok (.ifCond .ne 26, 3) := by decide +kernel
theorem dL_isFiled_75 : decode cL_isFiled 75 = .ok (.iload 6, 2) := by decide +kernel
theorem dL_isFiled_77 : decode cL_isFiled 77 = .ok (.bipush (-2), 2) := by decide +kernel
theorem dL_isFiled_79 : decode cL_isFiled 79 = .ok (.if_icmp .ne 17, 3) := by decide +kernel
theorem dL_isFiled_82 : decode cL_isFiled 82 = .ok (.aload_n 0, 1) := by decide +kernel
theorem dL_isFiled_83 : decode cL_isFiled 83 = .ok (.iconst 4, 1) := by decide +kernel
theorem dL_isFiled_84 : decode cL_isFiled 84 = .ok (.invokevirtual 53, 3) := by decide +kernel
theorem dL_isFiled_87 : decode cL_isFiled 87 = .ok (.iload 5, 2) := by decide +kernel
theorem dL_isFiled_89 : decode cL_isFiled 89 = .ok (.if_icmp .ne 7, 3) := by decide +kernel
theorem dL_isFiled_92 : decode cL_isFiled 92 = .ok (.iconst 1, 1) := by decide +kernel
theorem dL_isFiled_93 : decode cL_isFiled 93 = .ok (.goto 4, 3) := by decide +kernel
theorem dL_isFiled_96 : decode cL_isFiled 96 = .ok (.iconst 0, 1) := by decide +kernel
theorem dL_isFiled_97 : decode cL_isFiled 97 = .ok (.ireturn, 1) := by decide +kernel
theorem dL_isFiled_98 : decode cL_isFiled 98 = .ok (.iconst 0, 1) := by decide +kernel
theorem dL_isFiled_99 : decode cL_isFiled 99 = .ok (.istore 8, 2) := by decide +kernel
theorem dL_isFiled_101 : decode cL_isFiled 101 = .ok (.iload 8, 2) := by decide +kernel
theorem dL_isFiled_103 : decode cL_isFiled 103 = .ok (.iconst 4, 1) := by decide +kernel
theorem dL_isFiled_104 : decode cL_isFiled 104 = .ok (.if_icmp .ge 53, 3) := by decide +kernel
theorem dL_isFiled_107 : decode cL_isFiled 107 = .ok (.aload_n 0, 1) := by decide +kernel
theorem dL_isFiled_108 : decode cL_isFiled 108 = .ok (.iload 5, 2) := by decide +kernel
theorem dL_isFiled_110 : decode cL_isFiled 110 = .ok (.iload 8, 2) := by decide +kernel
theorem dL_isFiled_112 : decode cL_isFiled 112 = .ok (.invokevirtual 64, 3) := by decide +kernel
theorem dL_isFiled_115 : decode cL_isFiled 115 = .ok (.iload_n 3, 1) := by decide +kernel
theorem dL_isFiled_116 : decode cL_isFiled 116 = .ok (.iload 8, 2) := by decide +kernel
theorem dL_isFiled_118 : decode cL_isFiled 118 = .ok (.ishr, 1) := by decide +kernel
theorem dL_isFiled_119 : decode cL_isFiled 119 = .ok (.iconst 1, 1) := by decide +kernel
theorem dL_isFiled_120 : decode cL_isFiled 120 = .ok (.iand, 1) := by decide +kernel
theorem dL_isFiled_121 : decode cL_isFiled 121 = .ok (.iconst 1, 1) := by decide +kernel
theorem dL_isFiled_122 : decode cL_isFiled 122 = .ok (.if_icmp .ne 23, 3) := by decide +kernel
theorem dL_isFiled_125 : decode cL_isFiled 125 = .ok (.aload_n 0, 1) := by decide +kernel
theorem dL_isFiled_126 : decode cL_isFiled 126 = .ok (.iload_n 1, 1) := by decide +kernel
theorem dL_isFiled_127 : decode cL_isFiled 127 = .ok (.iload 8, 2) := by decide +kernel
theorem dL_isFiled_129 : decode cL_isFiled 129 = .ok (.iload 4, 2) := by decide +kernel
theorem dL_isFiled_131 : decode cL_isFiled 131 = .ok (.ifCond .eq 7, 3) := by decide +kernel
theorem dL_isFiled_134 : decode cL_isFiled 134 = .ok (.iconst 1, 1) := by decide +kernel
theorem dL_isFiled_135 : decode cL_isFiled 135 = .ok (.goto 4, 3) := by decide +kernel
theorem dL_isFiled_138 : decode cL_isFiled 138 = .ok (.iconst 0, 1) := by decide +kernel
theorem dL_isFiled_139 : decode cL_isFiled 139 = .ok (.invokevirtual 42, 3) := by decide +kernel
theorem dL_isFiled_142 : decode cL_isFiled 142 = .ok (.goto 4, 3) := by decide +kernel
theorem dL_isFiled_145 : decode cL_isFiled 145 = .ok (.iconst (-1), 1) := by decide +kernel
theorem dL_isFiled_146 : decode cL_isFiled 146 = .ok (.if_icmp .eq 5, 3) := by decide +kernel
theorem dL_isFiled_149 : decode cL_isFiled 149 = .ok (.iconst 0, 1) := by decide +kernel
theorem dL_isFiled_150 : decode cL_isFiled 150 = .ok (.ireturn, 1) := by decide +kernel
theorem dL_isFiled_151 : decode cL_isFiled 151 = .ok (.iinc 8 1, 3) := by decide +kernel
theorem dL_isFiled_154 : decode cL_isFiled 154 = .ok (.goto (-53), 3) := by decide +kernel
theorem dL_isFiled_157 : decode cL_isFiled 157 = .ok (.iload 6, 2) := by decide +kernel
theorem dL_isFiled_159 : decode cL_isFiled 159 = .ok (.iload 5, 2) := by decide +kernel
theorem dL_isFiled_161 : decode cL_isFiled 161 = .ok (.if_icmp .ne 29, 3) := by decide +kernel
theorem dL_isFiled_164 : decode cL_isFiled 164 = .ok (.aload_n 0, 1) := by decide +kernel
theorem dL_isFiled_165 : decode cL_isFiled 165 = .ok (.iconst 0, 1) := by decide +kernel
theorem dL_isFiled_166 : decode cL_isFiled 166 = .ok (.iload 5, 2) := by decide +kernel
theorem dL_isFiled_168 : decode cL_isFiled 168 = .ok (.invokevirtual 92, 3) := by decide +kernel
theorem dL_isFiled_171 : decode cL_isFiled 171 = .ok (.iconst 1, 1) := by decide +kernel
theorem dL_isFiled_172 : decode cL_isFiled 172 = .ok (.if_icmp .ne 18, 3) := by decide +kernel
theorem dL_isFiled_175 : decode cL_isFiled 175 = .ok (.aload_n 0, 1) := by decide +kernel
theorem dL_isFiled_176 : decode cL_isFiled 176 = .ok (.iconst 1, 1) := by decide +kernel
theorem dL_isFiled_177 : decode cL_isFiled 177 = .ok (.iload 5, 2) := by decide +kernel
theorem dL_isFiled_179 : decode cL_isFiled 179 = .ok (.invokevirtual 92, 3) := by decide +kernel
theorem dL_isFiled_182 : decode cL_isFiled 182 = .ok (.iconst 1, 1) := by decide +kernel
theorem dL_isFiled_183 : decode cL_isFiled 183 = .ok (.if_icmp .ne 7, 3) := by decide +kernel
theorem dL_isFiled_186 : decode cL_isFiled 186 = .ok (.iconst 1, 1) := by decide +kernel
theorem dL_isFiled_187 : decode cL_isFiled 187 = .ok (.goto 4, 3) := by decide +kernel
theorem dL_isFiled_190 : decode cL_isFiled 190 = .ok (.iconst 0, 1) := by decide +kernel
theorem dL_isFiled_191 : decode cL_isFiled 191 = .ok (.ireturn, 1) := by decide +kernel
theorem dL_isPassed_0 : decode cL_isPassed 0 = .ok (.iload_n 2, 1) := by decide +kernel
theorem dL_isPassed_1 : decode cL_isPassed 1 = .ok (.iconst 1, 1) := by decide +kernel
theorem dL_isPassed_2 : decode cL_isPassed 2 = .ok (.isub, 1) := by decide +kernel
theorem dL_isPassed_3 : decode cL_isPassed 3 = .ok (.istore 4, 2) := by decide +kernel
theorem dL_isPassed_5 : decode cL_isPassed 5 = .ok (.iload 4, 2) := by decide +kernel
theorem dL_isPassed_7 : decode cL_isPassed 7 = .ok (.ifCond .ge 7, 3) := by decide +kernel
theorem dL_isPassed_10 : decode cL_isPassed 10 = .ok (.iconst (-1), 1) := by decide +kernel
theorem dL_isPassed_11 : decode cL_isPassed 11 = .ok (.goto 10, 3) := by decide +kernel
theorem dL_isPassed_14 : decode cL_isPassed 14 = .ok (.aload_n 0, 1) := by decide +kernel
theorem dL_isPassed_15 : decode cL_isPassed 15 = .ok (.iload_n 1, 1) := by decide +kernel
theorem dL_isPassed_16 : decode cL_isPassed 16 = .ok (.iload 4, 2) := by decide +kernel
theorem dL_isPassed_18 : decode cL_isPassed 18 = .ok (.invokevirtual 95, 3) := by decide +kernel
theorem dL_isPassed_21 : decode cL_isPassed 21 = .ok (.istore 5, 2) := by decide +kernel
theorem dL_isPassed_23 : decode cL_isPassed 23 = .ok (.iconst 2, 1) := by decide +kernel
theorem dL_isPassed_24 : decode cL_isPassed 24 = .ok (.newarray .int, 2) := by decide +kernel
theorem dL_isPassed_26 : decode cL_isPassed 26 = .ok (.dup, 1) := by decide +kernel
theorem dL_isPassed_27 : decode cL_isPassed 27 = .ok (.iconst 0, 1) := by decide +kernel
theorem dL_isPassed_28 : decode cL_isPassed 28 = .ok (.aload_n 0, 1) := by decide +kernel
theorem dL_isPassed_29 : decode cL_isPassed 29 = .ok (.iconst 0, 1) := by decide +kernel
theorem dL_isPassed_30 : decode cL_isPassed 30 = .ok (.iconst 4, 1) := by decide +kernel
theorem dL_isPassed_31 : decode cL_isPassed 31 = .ok (.invokevirtual 98, 3) := by decide +kernel
theorem dL_isPassed_34 : decode cL_isPassed 34 = .ok (.aload_n 0, 1) := by decide +kernel
theorem dL_isPassed_35 : decode cL_isPassed 35 = .ok (.iconst 0, 1) := by decide +kernel
theorem dL_isPassed_36 : decode cL_isPassed 36 = .ok (.iconst 5, 1) := by decide +kernel
theorem dL_isPassed_37 : decode cL_isPassed 37 = .ok (.invokevirtual 98, 3) := by decide +kernel
theorem dL_isPassed_40 : decode cL_isPassed 40 = .ok (.iadd, 1) := by decide +kernel
theorem dL_isPassed_41 : decode cL_isPassed 41 = .ok (.iastore, 1) := by decide +kernel
theorem dL_isPassed_42 : decode cL_isPassed 42 = .ok (.dup, 1) := by decide +kernel
theorem dL_isPassed_43 : decode cL_isPassed 43 = .ok (.iconst 1, 1) := by decide +kernel
theorem dL_isPassed_44 : decode cL_isPassed 44 = .ok (.aload_n 0, 1) := by decide +kernel
theorem dL_isPassed_45 : decode cL_isPassed 45 = .ok (.iconst 1, 1) := by decide +kernel
theorem dL_isPassed_46 : decode cL_isPassed 46 = .ok (.iconst 4, 1) := by decide +kernel
theorem dL_isPassed_47 : decode cL_isPassed 47 = .ok (.invokevirtual 98, 3) := by decide +kernel
theorem dL_isPassed_50 : decode cL_isPassed 50 = .ok (.aload_n 0, 1) := by decide +kernel
theorem dL_isPassed_51 : decode cL_isPassed 51 = .ok (.iconst 1, 1) := by decide +kernel
theorem dL_isPassed_52 : decode cL_isPassed 52 = .ok (.iconst 5, 1) := by decide +kernel
theorem dL_isPassed_53 : decode cL_isPassed 53 = .ok (.invokevirtual 98, 3) := by decide +kernel
theorem dL_isPassed_56 : decode cL_isPassed 56 = .ok (.iadd, 1) := by decide +kernel
theorem dL_isPassed_57 : decode cL_isPassed 57 = .ok (.iastore, 1) := by decide +kernel
theorem dL_isPassed_58 : decode cL_isPassed 58 = .ok (.astore 6, 2) := by decide +kernel
theorem dL_isPassed_60 : decode cL_isPassed 60 = .ok (.iconst 2, 1) := by decide +kernel
theorem dL_isPassed_61 : decode cL_isPassed 61 = .ok (.newarray .int, 2) := by decide +kernel
theorem dL_isPassed_63 : decode cL_isPassed 63 = .ok (.dup, 1) := by decide +kernel
theorem dL_isPassed_64 : decode cL_isPassed 64 = .ok (.iconst 0, 1) := by decide +kernel
theorem dL_isPassed_65 : decode cL_isPassed 65 = .ok (.aload_n 0, 1) := by decide +kernel
theorem dL_isPassed_66 : decode cL_isPassed 66 = .ok (.iconst 0, 1) := by decide +kernel
theorem dL_isPassed_67 : decode cL_isPassed 67 = .ok (.iconst 5, 1) := by decide +kernel
theorem dL_isPassed_68 : decode cL_isPassed 68 = .ok (.invokevirtual 98, 3) := by decide +kernel
theorem dL_isPassed_71 : decode cL_isPassed 71 = .ok (.iastore, 1) := by decide +kernel
theorem dL_isPassed_72 : decode cL_isPassed 72 = .ok (.dup, 1) := by decide +kernel
theorem dL_isPassed_73 : decode cL_isPassed 73 = .ok (.iconst 1, 1) := by decide +kernel
theorem dL_isPassed_74 : decode cL_isPassed 74 = .ok (.aload_n 0, 1) := by decide +kernel
theorem dL_isPassed_75 : decode cL_isPassed 75 = .ok (.iconst 1, 1) := by decide +kernel
theorem dL_isPassed_76 : decode cL_isPassed 76 = .ok (.iconst 5, 1) := by decide +kernel
theorem dL_isPassed_77 : decode cL_isPassed 77 = .ok (.invokevirtual 98, 3) := by decide +kernel
theorem dL_isPassed_80 : decode cL_isPassed 80 = .ok (.iastore, 1) := by decide +kernel
theorem dL_isPassed_81 : decode cL_isPassed 81 = .ok (.astore 7, 2) := by decide +kernel
theorem dL_isPassed_83 : decode cL_isPassed 83 = .ok (.iconst 0, 1) := by decide +kernel
theorem dL_isPassed_84 : decode cL_isPassed 84 = .ok (.istore 8, 2) := by decide +kernel
theorem dL_isPassed_86 : decode cL_isPassed 86 = .ok (.iload 8, 2) := by decide +kernel
theorem dL_isPassed_88 : decode cL_isPassed 88 = .ok (.iconst 3, 1) := by decide +kernel
theorem dL_isPassed_89 : decode cL_isPassed 89 = .ok (.if_icmp .ge 166, 3) := by decide +kernel
theorem dL_isPassed_92 : decode cL_isPassed 92 = .ok (.iconst 2, 1) := by decide +kernel
theorem dL_isPassed_93 : decode cL_isPassed 93 = .ok (.newarray .boolean, 2) := by decide +kernel
theorem dL_isPassed_95 : decode cL_isPassed 95 = .ok (.dup, 1) := by decide +kernel
theorem dL_isPassed_96 : decode cL_isPassed 96 = .ok (.iconst 0, 1) := by decide +kernel
theorem dL_isPassed_97 : decode cL_isPassed 97 = .ok (.aload_n 0, 1) := by decide +kernel
theorem dL_isPassed_98 : decode cL_isPassed 98 = .ok (.iconst 0, 1) := by decide +kernel
theorem dL_isPassed_99 : decode cL_isPassed 99 = .ok (.iconst 2, 1) := by decide +kernel
theorem dL_isPassed_100 : decode cL_isPassed 100 = .ok (.invokevirtual 98, 3) := by decide +kernel
theorem dL_isPassed_103 : decode cL_isPassed 103 = .ok (.ifCond .le 7, 3) := by decide +kernel
theorem dL_isPassed_106 : decode cL_isPassed 106 = .ok (.iconst 1, 1) := by decide +kernel
theorem dL_isPassed_107 : decode cL_isPassed 107 = .ok (.goto 4, 3) := by decide +kernel
theorem dL_isPassed_110 : decode cL_isPassed 110 = .ok (.iconst 0, 1) := by decide +kernel
theorem dL_isPassed_111 : decode cL_isPassed 111 = .ok (.bastore, 1) := by decide +kernel
theorem dL_isPassed_112 : decode cL_isPassed 112 = .ok (.dup, 1) := by decide +kernel
theorem dL_isPassed_113 : decode cL_isPassed 113 = .ok (.iconst 1, 1) := by decide +kernel
theorem dL_isPassed_114 : decode cL_isPassed 114 = .ok (.aload_n 0, 1) := by decide +kernel
theorem dL_isPassed_115 : decode cL_isPassed 115 = .ok (.iconst 1, 1) := by decide +kernel
theorem dL_isPassed_116 : decode cL_isPassed 116 = .ok (.iconst 2, 1) := by decide +kernel
theorem dL_isPassed_117 : decode cL_isPassed 117 = .ok (.invokevirtual 98, 3) := by decide +kernel
theorem dL_isPassed_120 : decode cL_isPassed 120 = .ok (.ifCond .le 7, 3) := by decide +kernel
theorem dL_isPassed_123 : decode cL_isPassed 123 = .ok (.iconst 1, 1) := by decide +kernel
theorem dL_isPassed_124 : decode cL_isPassed 124 = .ok (.goto 4, 3) := by decide +kernel
theorem dL_isPassed_127 : decode cL_isPassed 127 = .ok (.iconst 0, 1) := by decide +kernel
theorem dL_isPassed_128 : decode cL_isPassed 128 = .ok (.bastore, 1) := by decide +kernel
theorem dL_isPassed_129 : decode cL_isPassed 129 = .ok (.astore 9, 2) := by decide +kernel
theorem dL_isPassed_131 : decode cL_isPassed 131 = .ok (.aload_n 0, 1) := by decide +kernel
theorem dL_isPassed_132 : decode cL_isPassed 132 = .ok (.iconst 1, 1) := by decide +kernel
theorem dL_isPassed_133 : decode cL_isPassed 133 = .ok (.invokevirtual 101, 3) := by decide +kernel
theorem dL_isPassed_136 : decode cL_isPassed 136 = .ok (.ifCond .ge 5, 3) := by decide +kernel
theorem dL_isPassed_139 : decode cL_isPassed 139 = .ok (.iconst 0, 1) := by decide +kernel
theorem dL_isPassed_140 : decode cL_isPassed 140 = .ok (.ireturn, 1) := by decide +kernel
theorem dL_isPassed_141 : decode cL_isPassed 141 = .ok (.iconst 0, 1) := by decide +kernel
theorem dL_isPassed_142 : decode cL_isPassed 142 = .ok (.istore 10, 2) := by decide +kernel
theorem dL_isPassed_144 : decode cL_isPassed 144 = .ok (.iload 10, 2) := by decide +kernel
theorem dL_isPassed_146 : decode cL_isPassed 146 = .ok (.iconst 2, 1) := by decide +kernel
theorem dL_isPassed_147 : decode cL_isPassed 147 = .ok (.if_icmp .ge 102, 3) := by decide +kernel
theorem dL_isPassed_150 : decode cL_isPassed 150 = .ok (.aload_n 0, 1) := by decide +kernel
theorem dL_isPassed_151 : decode cL_isPassed 151 = .ok (.iload 10, 2) := by decide +kernel
theorem dL_isPassed_153 : decode cL_isPassed 153 = .ok (.iconst 5, 1) := by decide +kernel
theorem dL_isPassed_154 : decode cL_isPassed 154 = .ok (.invokevirtual 98, 3) := by decide +kernel
theorem dL_isPassed_157 : decode cL_isPassed 157 = .ok (.aload 7, 2) := by decide +kernel
theorem dL_isPassed_159 : decode cL_isPassed 159 = .ok (.iload 10, 2) := by decide +kernel
theorem dL_isPassed_161 : decode cL_isPassed 161 = .ok (.iaload, 1) := by decide +kernel
theorem dL_isPassed_162 : decode cL_isPassed 162 = .ok (.isub, 1) := by decide +kernel
theorem dL_isPassed_163 : decode cL_isPassed 163 = .ok (.istore 11, 2) := by decide +kernel
theorem dL_isPassed_165 : decode cL_isPassed 165 = .ok (.aload 7, 2) := by decide +kernel
theorem dL_isPassed_167 : decode cL_isPassed 167 = .ok (.iload 10, 2) := by decide +kernel
theorem dL_isPassed_169 : decode cL_isPassed 169 = .ok (.dup2, 1) := by decide +kernel
theorem dL_isPassed_170 : decode cL_isPassed 170 = .ok (.iaload, 1) := by decide +kernel
theorem dL_isPassed_171 : decode cL_isPassed 171 = .ok (.iload 11, 2) := by decide +kernel
theorem dL_isPassed_173 : decode cL_isPassed 173 = .ok (.iadd, 1) := by decide +kernel
theorem dL_isPassed_174 : decode cL_isPassed 174 = .ok (.iastore, 1) := by decide +kernel
theorem dL_isPassed_175 : decode cL_isPassed 175 = .ok (.aload_n 0, 1) := by decide +kernel
theorem dL_isPassed_176 : decode cL_isPassed 176 = .ok (.iload 10, 2) := by decide +kernel
theorem dL_isPassed_178 : decode cL_isPassed 178 = .ok (.iconst 4, 1) := by decide +kernel
theorem dL_isPassed_179 : decode cL_isPassed 179 = .ok (.invokevirtual 98, 3) := by decide +kernel
theorem dL_isPassed_182 : decode cL_isPassed 182 = .ok (.aload_n 0, 1) := by decide +kernel
theorem dL_isPassed_183 : decode cL_isPassed 183 = .ok (.iload 10, 2) := by decide +kernel
theorem dL_isPassed_185 : decode cL_isPassed 185 = .ok (.iconst 5, 1) := by decide +kernel
theorem dL_isPassed_186 : decode cL_isPassed 186 = .ok (.invokevirtual 98, 3) := by decide +kernel
theorem dL_isPassed_189 : decode cL_isPassed 189 = .ok (.iadd, 1) := by decide +kernel
theorem dL_isPassed_190 : decode cL_isPassed 190 = .ok (.aload 6, 2) := by decide +kernel
theorem dL_isPassed_192 : decode cL_isPassed 192 = .ok (.iload 10, 2) := by decide +kernel
theorem dL_isPassed_194 : decode cL_isPassed 194 = .ok (.iaload, 1) := by decide +kernel
theorem dL_isPassed_195 : decode cL_isPassed 195 = .ok (.if_icmp .ne 46, 3) := by decide +kernel
theorem dL_isPassed_198 : decode cL_isPassed 198 = .ok (.aload 9, 2) := by decide +kernel
theorem dL_isPassed_200 : decode cL_isPassed 200 = .ok (.iload 10, 2) := by decide +kernel
theorem dL_isPassed_202 : decode cL_isPassed 202 = .ok (.baload, 1) := by decide +kernel
theorem dL_isPassed_203 : decode cL_isPassed 203 = .ok (.ifCond .eq 8, 3) := by decide +kernel
theorem dL_isPassed_206 : decode cL_isPassed 206 = .ok (.iload 11, 2) := by decide +kernel
theorem dL_isPassed_208 : decode cL_isPassed 208 = .ok (.ifCond .gt 33, 3) := by decide +kernel
theorem dL_isPassed_211 : decode cL_isPassed 211 = .ok (.aload 9, 2) := by decide +kernel
theorem dL_isPassed_213 : decode cL_isPassed 213 = .ok (.iload 10, 2) := by decide +kernel
theorem dL_isPassed_215 : decode cL_isPassed 215 = .ok (.baload, 1) := by decide +kernel
theorem dL_isPassed_216 : decode cL_isPassed 216 = .ok (.ifCond .ne 27, 3) := by decide +kernel
theorem dL_isPassed_219 : decode cL_isPassed 219 = .ok (.iload 11, 2) := by decide +kernel
theorem dL_isPassed_221 : decode cL_isPassed 221 = .ok (.aload_n 0, 1) := by decide +kernel
theorem dL_isPassed_222 : decode cL_isPassed 222 = .ok (.iload 10, 2) := by decide +kernel
theorem dL_isPassed_224 : decode cL_isPassed 224 = .ok (.iconst 0, 1) := by decide +kernel
theorem dL_isPassed_225 : decode cL_isPassed 225 = .ok (.invokevirtual 98, 3) := by decide +kernel
theorem dL_isPassed_228 : decode cL_isPassed 228 = .ok (.if_icmp .eq 15, 3) := by decide +kernel
theorem dL_isPassed_231 : decode cL_isPassed 231 = .ok (.aload_n 0, 1) := by decide +kernel
theorem dL_isPassed_232 : decode cL_isPassed 232 = .ok (.iload 10, 2) := by decide +kernel
theorem dL_isPassed_234 : decode cL_isPassed 234 = .ok (.iconst 3, 1) := by decide +kernel
theorem dL_isPassed_235 : decode cL_isPassed 235 = .ok (.invokevirtual 98, 3) := by decide +kernel
theorem dL_isPassed_238 : decode cL_isPassed 238 = .ok (.ifCond .le 5, 3) := by decide +kernel
theorem dL_isPassed_241 : decode cL_isPassed 241 = .ok (.iconst 0, 1) := by decide +kernel
theorem dL_isPassed_242 : decode cL_isPassed 242 = .ok (.ireturn, 1) := by decide +kernel
theorem dL_isPassed_243 : decode cL_isPassed 243 = .ok (.iinc 10 1, 3) := by decide +kernel
theorem dL_isPassed_246 : decode cL_isPassed 246 = .ok (.goto (-102), 3) := by decide +kernel
theorem dL_isPassed_249 : decode cL_isPassed 249 = .ok (.iinc 8 1, 3) := by decide +kernel
theorem dL_isPassed_252 : decode cL_isPassed 252 = .ok (.goto (-166), 3) := by decide +kernel
theorem dL_isPassed_255 : decode cL_isPassed 255 = .ok (.iload 4, 2) := by decide +kernel
theorem dL_isPassed_257 : decode cL_isPassed 257 = .ok (.ifCond .lt 40, 3) := by decide +kernel
theorem dL_isPassed_260 : decode cL_isPassed 260 = .ok (.aload_n 0, 1) := by decide +kernel
theorem dL_isPassed_261 : decode cL_isPassed 261 = .ok (.iload_n 1, 1) := by decide +kernel
theorem dL_isPassed_262 : decode cL_isPassed 262 = .ok (.iload 4, 2) := by decide +kernel
theorem dL_isPassed_264 : decode cL_isPassed 264 = .ok (.invokevirtual 92, 3) := by decide +kernel
theorem dL_isPassed_267 : decode cL_isPassed 267 = .ok (.iconst 3, 1) := by decide +kernel
theorem dL_isPassed_268 : decode cL_isPassed 268 = .ok (.if_icmp .le 7, 3) := by decide +kernel
theorem dL_isPassed_271 : decode cL_isPassed 271 = .ok (.iconst 1, 1) := by decide +kernel
theorem dL_isPassed_272 : decode cL_isPassed 272 = .ok (.goto 4, 3) := by decide +kernel
theorem dL_isPassed_275 : decode cL_isPassed 275 = .ok (.iconst 0, 1) := by decide +kernel
theorem dL_isPassed_276 : decode cL_isPassed 276 = .ok (.iload 5, 2) := by decide +kernel
theorem dL_isPassed_278 : decode cL_isPassed 278 = .ok (.ifCond .lt 13, 3) := by decide +kernel
theorem dL_isPassed_281 : decode cL_isPassed 281 = .ok (.iload 5, 2) := by decide +kernel
theorem dL_isPassed_283 : decode cL_isPassed 283 = .ok (.iconst 3, 1) := by decide +kernel
theorem dL_isPassed_284 : decode cL_isPassed 284 = .ok (.if_icmp .gt 7, 3) := by decide +kernel
theorem dL_isPassed_287 : decode cL_isPassed 287 = .ok (.iconst 1, 1) := by decide +kernel
theorem dL_isPassed_288 : decode cL_isPassed 288 = .ok (.goto 4, 3) := by decide +kernel
theorem dL_isPassed_291 : decode cL_isPassed 291 = .ok (.iconst 0, 1) := by decide +kernel
theorem dL_isPassed_292 : decode cL_isPassed 292 = .ok (.if_icmp .eq 5, 3) := by decide +kernel
theorem dL_isPassed_295 : decode cL_isPassed 295 = .ok (.iconst 0, 1) := by decide +kernel
theorem dL_isPassed_296 : decode cL_isPassed 296 = .ok (.ireturn, 1) := by decide +kernel
theorem dL_isPassed_297 : decode cL_isPassed 297 = .ok (.iconst 0, 1) := by decide +kernel
theorem dL_isPassed_298 : decode cL_isPassed 298 = .ok (.istore 9, 2) := by decide +kernel
theorem dL_isPassed_300 : decode cL_isPassed 300 = .ok (.iload 9, 2) := by decide +kernel
theorem dL_isPassed_302 : decode cL_isPassed 302 = .ok (.iload_n 2, 1) := by decide +kernel
theorem dL_isPassed_303 : decode cL_isPassed 303 = .ok (.if_icmp .ge 62, 3) := by decide +kernel
theorem dL_isPassed_306 : decode cL_isPassed 306 = .ok (.iconst 0, 1) := by decide +kernel
theorem dL_isPassed_307 : decode cL_isPassed 307 = .ok (.istore 10, 2) := by decide +kernel
theorem dL_isPassed_309 : decode cL_isPassed 309 = .ok (.iload 10, 2) := by decide +kernel
theorem dL_isPassed_311 : decode cL_isPassed 311 = .ok (.iconst 2, 1) := by decide +kernel
theorem dL_isPassed_312 : decode cL_isPassed 312 = .ok (.if_icmp .ge 47, 3) := by decide +kernel
theorem dL_isPassed_315 : decode cL_isPassed 315 = .ok (.aload_n 0, 1) := by decide +kernel
theorem dL_isPassed_316 : decode cL_isPassed 316 = .ok (.iload 10, 2) := by decide +kernel
theorem dL_isPassed_318 : decode cL_isPassed 318 = .ok (.iload 9, 2) := by decide +kernel
theorem dL_isPassed_320 : decode cL_isPassed 320 = .ok (.invokevirtual 92, 3) := by decide +kernel
theorem dL_isPassed_323 : decode cL_isPassed 323 = .ok (.istore 11, 2) := by decide +kernel
theorem dL_isPassed_325 : decode cL_isPassed 325 = .ok (.iload 11, 2) := by decide +kernel
theorem dL_isPassed_327 : decode cL_isPassed 327 = .ok (.aload_n 3, 1) := by decide +kernel
theorem dL_isPassed_328 : decode cL_isPassed 328 = .ok (.iload 9, 2) := by decide +kernel
theorem dL_isPassed_330 : decode cL_isPassed 330 = .ok (.aaload, 1) := by decide +kernel
theorem dL_isPassed_331 : decode cL_isPassed 331 = .ok (.iload 10, 2) := by decide +kernel
theorem dL_isPassed_333 : decode cL_isPassed 333 = .ok (.iaload, 1) := by decide +kernel
theorem dL_isPassed_334 : decode cL_isPassed 334 = .ok (.if_icmp .ge 10, 3) := by decide +kernel
theorem dL_isPassed_337 : decode cL_isPassed 337 = .ok (.iload 11, 2) := by decide +kernel
theorem dL_isPassed_339 : decode cL_isPassed 339 = .ok (.ifCond .le 5, 3) := by decide +kernel
theorem dL_isPassed_342 : decode cL_isPassed 342 = .ok (.iconst 0, 1) := by decide +kernel
theorem dL_isPassed_343 : decode cL_isPassed 343 = .ok (.ireturn, 1) := by decide +kernel
theorem dL_isPassed_344 : decode cL_isPassed 344 = .ok (.aload_n 3, 1) := by decide +kernel
theorem dL_isPassed_345 : decode cL_isPassed 345 = .ok (.iload 9, 2) := by decide +kernel
theorem dL_isPassed_347 : decode cL_isPassed 347 = .ok (.aaload, 1) := by decide +kernel
theorem dL_isPassed_348 : decode cL_isPassed 348 = .ok (.iload 10, 2) := by decide +kernel
theorem dL_isPassed_350 : decode cL_isPassed 350 = .ok (.iload 11, 2) := by decide +kernel
theorem dL_isPassed_352 : decode cL_isPassed 352 = .ok (.iastore, 1) := by decide +kernel
theorem dL_isPassed_353 : decode cL_isPassed 353 = .ok (.iinc 10 1, 3) := by decide +kernel
theorem dL_isPassed_356 : decode cL_isPassed 356 = .ok (.goto (-47), 3) := by decide +kernel
theorem dL_isPassed_359 : decode cL_isPassed 359 = .ok (.iinc 9 1, 3) := by decide +kernel
theorem dL_isPassed_362 : decode cL_isPassed 362 = .ok (.goto (-62), 3) := by decide +kernel
theorem dL_isPassed_365 : decode cL_isPassed 365 = .ok (.iconst 1, 1) := by decide +kernel
theorem dL_isPassed_366 : decode cL_isPassed 366 = .ok (.ireturn, 1) := by decide +kernel
theorem dL_areKnown_0 : decode cL_areKnown 0 = .ok (.iconst 0, 1) := by decide +kernel
theorem dL_areKnown_1 : decode cL_areKnown 1 = .ok (.istore_n 1, 1) := by decide +kernel
theorem dL_areKnown_2 : decode cL_areKnown 2 = .ok (.iconst 0, 1) := by decide +kernel
theorem dL_areKnown_3 : decode cL_areKnown 3 = .ok (.istore_n 2, 1) := by decide +kernel
theorem dL_areKnown_4 : decode cL_areKnown 4 = .ok (.aload_n 0, 1) := by decide +kernel
theorem dL_areKnown_5 : decode cL_areKnown 5 = .ok (.invokevirtual 104, 3) := by decide +kernel
theorem dL_areKnown_8 : decode cL_areKnown 8 = .ok (.lstore_n 3, 1) := by decide +kernel
theorem dL_areKnown_9 : decode cL_areKnown 9 = .ok (.iconst 0, 1) := by decide +kernel
theorem dL_areKnown_10 : decode cL_areKnown 10 = .ok (.istore 5, 2) := by decide +kernel
theorem dL_areKnown_12 : decode cL_areKnown 12 = .ok (.iload 5, 2) := by decide +kernel
theorem dL_areKnown_14 : decode cL_areKnown 14 = .ok (.iconst 2, 1) := by decide +kernel
theorem dL_areKnown_15 : decode cL_areKnown 15 = .ok (.if_icmp .ge 263, 3) := by decide +kernel
theorem dL_areKnown_18 : decode cL_areKnown 18 = .ok (.iconst 0, 1) := by decide +kernel
theorem dL_areKnown_19 : decode cL_areKnown 19 = .ok (.istore 6, 2) := by decide +kernel
theorem dL_areKnown_21 : decode cL_areKnown 21 = .ok (.iload 6, 2) := by decide +kernel
theorem dL_areKnown_23 : decode cL_areKnown 23 = .ok (.iconst 4, 1) := by decide +kernel
theorem dL_areKnown_24 : decode cL_areKnown 24 = .ok (.if_icmp .ge 248, 3) := by decide +kernel
theorem dL_areKnown_27 : decode cL_areKnown 27 = .ok (.aload_n 0, 1) := by decide +kernel
theorem dL_areKnown_28 : decode cL_areKnown 28 = .ok (.iload 5, 2) := by decide +kernel
theorem dL_areKnown_30 : decode cL_areKnown 30 = .ok (.iload 6, 2) := by decide +kernel
theorem dL_areKnown_32 : decode cL_areKnown 32 = .ok (.iconst 0, 1) := by decide +kernel
theorem dL_areKnown_33 : decode cL_areKnown 33 = .ok (.invokevirtual 42, 3) := by decide +kernel
theorem dL_areKnown_36 : decode cL_areKnown 36 = .ok (.istore 7, 2) := by decide +kernel
theorem dL_areKnown_38 : decode cL_areKnown 38 = .ok (.aload_n 0, 1) := by decide +kernel
theorem dL_areKnown_39 : decode cL_areKnown 39 = .ok (.iload 5, 2) := by decide +kernel
theorem dL_areKnown_41 : decode cL_areKnown 41 = .ok (.iload 6, 2) := by decide +kernel
theorem dL_areKnown_43 : decode cL_areKnown 43 = .ok (.iconst 1, 1) := by decide +kernel
theorem dL_areKnown_44 : decode cL_areKnown 44 = .ok (.invokevirtual 42, 3) := by decide +kernel
theorem dL_areKnown_47 : decode cL_areKnown 47 = .ok (.istore 8, 2) := by decide +kernel
theorem dL_areKnown_49 : decode cL_areKnown 49 = .ok (.iload_n 1, 1) := by decide +kernel
theorem dL_areKnown_50 : decode cL_areKnown 50 = .ok (.iload 7, 2) := by decide +kernel
theorem dL_areKnown_52 : decode cL_areKnown 52 = .ok (.ifCond .ge 7, 3) := by decide +kernel
theorem dL_areKnown_55 : decode cL_areKnown 55 = .ok (.iconst 0, 1) := by decide +kernel
theorem dL_areKnown_56 : decode cL_areKnown 56 = .ok (.goto 4, 3) := by decide +kernel
theorem dL_areKnown_59 : decode cL_areKnown 59 = .ok (.iconst 1, 1) := by decide +kernel
theorem dL_areKnown_60 : decode cL_areKnown 60 = .ok (.iadd, 1) := by decide +kernel
theorem dL_areKnown_61 : decode cL_areKnown 61 = .ok (.istore_n 1, 1) := by decide +kernel
theorem dL_areKnown_62 : decode cL_areKnown 62 = .ok (.iload 7, 2) := by decide +kernel
theorem dL_areKnown_64 : decode cL_areKnown 64 = .ok (.ifCond .lt 38, 3) := by decide +kernel
theorem dL_areKnown_67 : decode cL_areKnown 67 = .ok (.iload 8, 2) := by decide +kernel
theorem dL_areKnown_69 : decode cL_areKnown 69 = .ok (.iload 7, 2) := by decide +kernel
theorem dL_areKnown_71 : decode cL_areKnown 71 = .ok (.if_icmp .ne 61, 3) := by decide +kernel
theorem dL_areKnown_74 : decode cL_areKnown 74 = .ok (.aload_n 0, 1) := by decide +kernel
theorem dL_areKnown_75 : decode cL_areKnown 75 = .ok (.iload 5, 2) := by decide +kernel
theorem dL_areKnown_77 : decode cL_areKnown 77 = .ok (.iload 6, 2) := by decide +kernel
theorem dL_areKnown_79 : decode cL_areKnown 79 = .ok (.iload 7, 2) := by decide +kernel
theorem dL_areKnown_81 : decode cL_areKnown 81 = .ok (.iconst 0, 1) := by decide +kernel
theorem dL_areKnown_82 : decode cL_areKnown 82 = .ok (.invokevirtual 38, 3) := by decide +kernel
theorem dL_areKnown_85 : decode cL_areKnown 85 = .ok (.ifCond .eq 47, 3) := by decide +kernel
theorem dL_areKnown_88 : decode cL_areKnown 88 = .ok (.aload_n 0, 1) := by decide +kernel
theorem dL_areKnown_89 : decode cL_areKnown 89 = .ok (.iload 5, 2) := by decide +kernel
theorem dL_areKnown_91 : decode cL_areKnown 91 = .ok (.iload 6, 2) := by decide +kernel
theorem dL_areKnown_93 : decode cL_areKnown 93 = .ok (.iload 7, 2) := by decide +kernel
theorem dL_areKnown_95 : decode cL_areKnown 95 = .ok (.iconst 1, 1) := by decide +kernel
theorem dL_areKnown_96 : decode cL_areKnown 96 = .ok (.invokevirtual 108, 3) := by decide +kernel
theorem dL_areKnown_99 : decode cL_areKnown 99 = .ok (.ifCond .ne 33, 3) := by decide +kernel
theorem dL_areKnown_102 : decode cL_areKnown 102 = .ok (.iload 8, 2) := by decide +kernel
theorem dL_areKnown_104 : decode cL_areKnown 104 = .ok (.ifCond .ge 7, 3) := by decide +kernel
theorem dL_areKnown_107 : decode cL_areKnown 107 = .ok (.iconst 1, 1) := by decide +kernel
theorem dL_areKnown_108 : decode cL_areKnown 108 = .ok (.goto 4, 3) := by decide +kernel
theorem dL_areKnown_111 : decode cL_areKnown 111 = .ok (.iconst 0, 1) := by decide +kernel
theorem dL_areKnown_112 : decode cL_areKnown 112 = .ok (.aload_n 0, 1) := by decide +kernel
theorem dL_areKnown_113 : decode cL_areKnown 113 = .ok (.iload 5, 2) := by decide +kernel
theorem dL_areKnown_115 : decode cL_areKnown 115 = .ok (.iload 6, 2) := by decide +kernel
theorem dL_areKnown_117 : decode cL_areKnown 117 = .ok (.iconst 2, 1) := by decide +kernel
theorem dL_areKnown_118 : decode cL_areKnown 118 = .ok (.invokevirtual 42, 3) := by decide +kernel
theorem dL_areKnown_121 : decode cL_areKnown 121 = .ok (.ifCond .ne 7, 3) := by decide +kernel
theorem dL_areKnown_124 : decode cL_areKnown 124 = .ok (.iconst 1, 1) := by decide +kernel
theorem dL_areKnown_125 : decode cL_areKnown 125 = .ok (.goto 4, 3) := by decide +kernel
theorem dL_areKnown_128 : decode cL_areKnown 128 = .ok (.iconst 0, 1) := by decide +kernel
theorem dL_areKnown_129 : decode cL_areKnown 129 = .ok (.if_icmp .eq 5, 3) := by decide +kernel
theorem dL_areKnown_132 : decode cL_areKnown 132 = .ok (.iconst 0, 1) := by decide +kernel
theorem dL_areKnown_133 : decode cL_areKnown 133 = .ok (.ireturn, 1) := by decide +kernel
theorem dL_areKnown_134 : decode cL_areKnown 134 = .ok (.iconst 0, 1) := by decide +kernel
theorem dL_areKnown_135 : decode cL_areKnown 135 = .ok (.istore 9, 2) := by decide +kernel
theorem dL_areKnown_137 : decode cL_areKnown 137 = .ok (.iload 9, 2) := by decide +kernel
theorem dL_areKnown_139 : decode cL_areKnown 139 = .ok (.iconst 4, 1) := by decide +kernel
theorem dL_areKnown_140 : decode cL_areKnown 140 = .ok (.if_icmp .ge 55, 3) := by decide +kernel
theorem dL_areKnown_143 : decode cL_areKnown 143 = .ok (.iload 7, 2) := by decide +kernel
theorem dL_areKnown_145 : decode cL_areKnown 145 = .ok (.ifCond .lt 44, 3) := by decide +kernel
theorem dL_areKnown_148 : decode cL_areKnown 148 = .ok (.aload_n 0, 1) := by decide +kernel
theorem dL_areKnown_149 : decode cL_areKnown 149 = .ok (.iload 5, 2) := by decide +kernel
theorem dL_areKnown_151 : decode cL_areKnown 151 = .ok (.iload 6, 2) := by decide +kernel
theorem dL_areKnown_153 : decode cL_areKnown 153 = .ok (.iload 9, 2) := by decide +kernel
theorem dL_areKnown_155 : decode cL_areKnown 155 = .ok (.iconst 0, 1) := by decide +kernel
theorem dL_areKnown_156 : decode cL_areKnown 156 = .ok (.invokevirtual 38, 3) := by decide +kernel
theorem dL_areKnown_159 : decode cL_areKnown 159 = .ok (.ifCond .le 30, 3) := by decide +kernel
theorem dL_areKnown_162 : decode cL_areKnown 162 = .ok (.aload_n 0, 1) := by decide +kernel
theorem dL_areKnown_163 : decode cL_areKnown 163 = .ok (.iload 5, 2) := by decide +kernel
theorem dL_areKnown_165 : decode cL_areKnown 165 = .ok (.iload 6, 2) := by decide +kernel
theorem dL_areKnown_167 : decode cL_areKnown 167 = .ok (.iload 9, 2) := by decide +kernel
theorem dL_areKnown_169 : decode cL_areKnown 169 = .ok (.iconst 1, 1) := by decide +kernel
theorem dL_areKnown_170 : decode cL_areKnown 170 = .ok (.invokevirtual 38, 3) := by decide +kernel
theorem dL_areKnown_173 : decode cL_areKnown 173 = .ok (.aload_n 0, 1) := by decide +kernel
theorem dL_areKnown_174 : decode cL_areKnown 174 = .ok (.iload 5, 2) := by decide +kernel
theorem dL_areKnown_176 : decode cL_areKnown 176 = .ok (.iload 6, 2) := by decide +kernel
theorem dL_areKnown_178 : decode cL_areKnown 178 = .ok (.iload 7, 2) := by decide +kernel
theorem dL_areKnown_180 : decode cL_areKnown 180 = .ok (.iconst 1, 1) := by decide +kernel
theorem dL_areKnown_181 : decode cL_areKnown 181 = .ok (.invokevirtual 38, 3) := by decide +kernel
theorem dL_areKnown_184 : decode cL_areKnown 184 = .ok (.if_icmp .le 5, 3) := by decide +kernel
theorem dL_areKnown_187 : decode cL_areKnown 187 = .ok (.iconst 0, 1) := by decide +kernel
theorem dL_areKnown_188 : decode cL_areKnown 188 = .ok (.ireturn, 1) := by decide +kernel
theorem dL_areKnown_189 : decode cL_areKnown 189 = .ok (.iinc 9 1, 3) := by decide +kernel
theorem dL_areKnown_192 : decode cL_areKnown 192 = .ok (.goto (-55), 3) := by decide +kernel
theorem dL_areKnown_195 : decode cL_areKnown 195 = .ok (.iconst 0, 1) := by decide +kernel
theorem dL_areKnown_196 : decode cL_areKnown 196 = .ok (.istore 9, 2) := by decide +kernel
theorem dL_areKnown_198 : decode cL_areKnown 198 = .ok (.iload 9, 2) := by decide +kernel
theorem dL_areKnown_200 : decode cL_areKnown 200 = .ok (.iconst 2, 1) := by decide +kernel
theorem dL_areKnown_201 : decode cL_areKnown 201 = .ok (.if_icmp .ge 65, 3) := by decide +kernel
theorem dL_areKnown_204 : decode cL_areKnown 204 = .ok (.aload_n 0, 1) := by decide +kernel
theorem dL_areKnown_205 : decode cL_areKnown 205 = .ok (.iload 9, 2) := by decide +kernel
theorem dL_areKnown_207 : decode cL_areKnown 207 = .ok (.iload 5, 2) := by decide +kernel
theorem dL_areKnown_209 : decode cL_areKnown 209 = .ok (.iload 6, 2) := by decide +kernel
theorem dL_areKnown_211 : decode cL_areKnown 211 = .ok (.invokevirtual 111, 3) := by decide +kernel
theorem dL_areKnown_214 : decode cL_areKnown 214 = .ok (.istore 10, 2) := by decide +kernel
theorem dL_areKnown_216 : decode cL_areKnown 216 = .ok (.iload 10, 2) := by decide +kernel
theorem dL_areKnown_218 : decode cL_areKnown 218 = .ok (.ifCond .lt 17, 3) := by decide +kernel
theorem dL_areKnown_221 : decode cL_areKnown 221 = .ok (.aload_n 0, 1) := by decide +kernel
theorem dL_areKnown_222 : decode cL_areKnown 222 = .ok (.iload 5, 2) := by decide +kernel
theorem dL_areKnown_224 : decode cL_areKnown 224 = .ok (.iload 6, 2) := by decide +kernel
theorem dL_areKnown_226 : decode cL_areKnown 226 = .ok (.iconst 5, 1) := by decide +kernel
theorem dL_areKnown_227 : decode cL_areKnown 227 = .ok (.invokevirtual 42, 3) := by decide +kernel
theorem dL_areKnown_230 : decode cL_areKnown 230 = .ok (.ifCond .ge 5, 3) := by decide +kernel
theorem dL_areKnown_233 : decode cL_areKnown 233 = .ok (.iconst 0, 1) := by decide +kernel
theorem dL_areKnown_234 : decode cL_areKnown 234 = .ok (.ireturn, 1) := by decide +kernel
theorem dL_areKnown_235 : decode cL_areKnown 235 = .ok (.iload_n 2, 1) := by decide +kernel
theorem dL_areKnown_236 : decode cL_areKnown 236 = .ok (.iload 10, 2) := by decide +kernel
theorem dL_areKnown_238 : decode cL_areKnown 238 = .ok (.ifCond .lt 19, 3) := by decide +kernel
theorem dL_areKnown_241 : decode cL_areKnown 241 = .ok (.iload 7, 2) := by decide +kernel
theorem dL_areKnown_243 : decode cL_areKnown 243 = .ok (.ifCond .lt 14, 3) := by decide +kernel
theorem dL_areKnown_246 : decode cL_areKnown 246 = .ok (.iload 10, 2) := by decide +kernel
theorem dL_areKnown_248 : decode cL_areKnown 248 = .ok (.iload 7, 2) := by decide +kernel
theorem dL_areKnown_250 : decode cL_areKnown 250 = .ok (.if_icmp .eq 7, 3) := by decide +kernel
theorem dL_areKnown_253 : decode cL_areKnown 253 = .ok (.iconst 1, 1) := by decide +kernel
theorem dL_areKnown_254 : decode cL_areKnown 254 = .ok (.goto 4, 3) := by decide +kernel
theorem dL_areKnown_257 : decode cL_areKnown 257 = .ok (.iconst 0, 1) := by decide +kernel
theorem dL_areKnown_258 : decode cL_areKnown 258 = .ok (.iadd, 1) := by decide +kernel
theorem dL_areKnown_259 : decode cL_areKnown 259 = .ok (.istore_n 2, 1) := by decide +kernel
theorem dL_areKnown_260 : decode cL_areKnown 260 = .ok (.iinc 9 1, 3) := by decide +kernel
theorem dL_areKnown_263 : decode cL_areKnown 263 = .ok (.goto (-65), 3) := by decide +kernel
theorem dL_areKnown_266 : decode cL_areKnown 266 = .ok (.iinc 6 1, 3) := by decide +kernel
theorem dL_areKnown_269 : decode cL_areKnown 269 = .ok (.goto (-248), 3) := by decide +kernel
theorem dL_areKnown_272 : decode cL_areKnown 272 = .ok (.iinc 5 1, 3) := by decide +kernel
theorem dL_areKnown_275 : decode cL_areKnown 275 = .ok (.goto (-263), 3) := by decide +kernel
theorem dL_areKnown_278 : decode cL_areKnown 278 = .ok (.aload_n 0, 1) := by decide +kernel
theorem dL_areKnown_279 : decode cL_areKnown 279 = .ok (.bipush 7, 2) := by decide +kernel
theorem dL_areKnown_281 : decode cL_areKnown 281 = .ok (.invokevirtual 53, 3) := by decide +kernel
theorem dL_areKnown_284 : decode cL_areKnown 284 = .ok (.iload_n 1, 1) := by decide +kernel
theorem dL_areKnown_285 : decode cL_areKnown 285 = .ok (.if_icmp .ne 35, 3) := by decide +kernel
theorem dL_areKnown_288 : decode cL_areKnown 288 = .ok (.aload_n 0, 1) := by decide +kernel
theorem dL_areKnown_289 : decode cL_areKnown 289 = .ok (.bipush 10, 2) := by decide +kernel
theorem dL_areKnown_291 : decode cL_areKnown 291 = .ok (.invokevirtual 53, 3) := by decide +kernel
theorem dL_areKnown_294 : decode cL_areKnown 294 = .ok (.iload_n 2, 1) := by decide +kernel
theorem dL_areKnown_295 : decode cL_areKnown 295 = .ok (.if_icmp .ne 25, 3) := by decide +kernel
theorem dL_areKnown_298 : decode cL_areKnown 298 = .ok (.aload_n 0, 1) := by decide +kernel
theorem dL_areKnown_299 : decode cL_areKnown 299 = .ok (.invokevirtual 114, 3) := by decide +kernel
theorem dL_areKnown_302 : decode cL_areKnown 302 = .ok (.dconst 0, 1) := by decide +kernel
theorem dL_areKnown_303 : decode cL_areKnown 303 = .ok (.dcmp .l, 1) := by decide +kernel
theorem dL_areKnown_304 : decode cL_areKnown 304 = .ok (.ifCond .lt 16, 3) := by decide +kernel
theorem dL_areKnown_307 : decode cL_areKnown 307 = .ok (.aload_n 0, 1) := by decide +kernel
theorem dL_areKnown_308 : decode cL_areKnown 308 = .ok (.invokevirtual 104, 3) := by decide +kernel
theorem dL_areKnown_311 : decode cL_areKnown 311 = .ok (.lload_n 3, 1) := by decide +kernel
theorem dL_areKnown_312 : decode cL_areKnown 312 = .ok (.lcmp, 1) := by decide +kernel
theorem dL_areKnown_313 : decode cL_areKnown 313 = .ok (.ifCond .ne 7, 3) := by decide +kernel
theorem dL_areKnown_316 : decode cL_areKnown 316 = .ok (.iconst 1, 1) := by decide +kernel
theorem dL_areKnown_317 : decode cL_areKnown 317 = .ok (.goto 4, 3) := by decide +kernel
theorem dL_areKnown_320 : decode cL_areKnown 320 = .ok (.iconst 0, 1) := by decide +kernel
theorem dL_areKnown_321 : decode cL_areKnown 321 = .ok (.ireturn, 1) := by decide +kernel
theorem dL_isNeeded_0 : decode cL_isNeeded 0 = .ok (.aload_n 0, 1) := by decide +kernel
theorem dL_isNeeded_1 : decode cL_isNeeded 1 = .ok (.iconst 0, 1) := by decide +kernel
theorem dL_isNeeded_2 : decode cL_isNeeded 2 = .ok (.iload_n 1, 1) := by decide +kernel
theorem dL_isNeeded_3 : decode cL_isNeeded 3 = .ok (.iload_n 2, 1) := by decide +kernel
theorem dL_isNeeded_4 : decode cL_isNeeded 4 = .ok (.iconst 2, 1) := by decide +kernel
theorem dL_isNeeded_5 : decode cL_isNeeded 5 = .ok (.invokevirtual 108, 3) := by decide +kernel
theorem dL_isNeeded_8 : decode cL_isNeeded 8 = .ok (.istore_n 3, 1) := by decide +kernel
theorem dL_isNeeded_9 : decode cL_isNeeded 9 = .ok (.iconst 0, 1) := by decide +kernel
theorem dL_isNeeded_10 : decode cL_isNeeded 10 = .ok (.istore 4, 2) := by decide +kernel
theorem dL_isNeeded_12 : decode cL_isNeeded 12 = .ok (.iload 4, 2) := by decide +kernel
theorem dL_isNeeded_14 : decode cL_isNeeded 14 = .ok (.iconst 4, 1) := by decide +kernel
theorem dL_isNeeded_15 : decode cL_isNeeded 15 = .ok (.if_icmp .ge 80, 3) := by decide +kernel
theorem dL_isNeeded_18 : decode cL_isNeeded 18 = .ok (.aload_n 0, 1) := by decide +kernel
theorem dL_isNeeded_19 : decode cL_isNeeded 19 = .ok (.iconst 0, 1) := by decide +kernel
theorem dL_isNeeded_20 : decode cL_isNeeded 20 = .ok (.iload_n 1, 1) := by decide +kernel
theorem dL_isNeeded_21 : decode cL_isNeeded 21 = .ok (.iconst 0, 1) := by decide +kernel
theorem dL_isNeeded_22 : decode cL_isNeeded 22 = .ok (.invokevirtual 42, 3) := by decide +kernel
theorem dL_isNeeded_25 : decode cL_isNeeded 25 = .ok (.iload_n 2, 1) := by decide +kernel
theorem dL_isNeeded_26 : decode cL_isNeeded 26 = .ok (.if_icmp .ne 7, 3) := by decide +kernel
theorem dL_isNeeded_29 : decode cL_isNeeded 29 = .ok (.iconst 1, 1) := by decide +kernel
theorem dL_isNeeded_30 : decode cL_isNeeded 30 = .ok (.goto 4, 3) := by decide +kernel
theorem dL_isNeeded_33 : decode cL_isNeeded 33 = .ok (.iconst 0, 1) := by decide +kernel
theorem dL_isNeeded_34 : decode cL_isNeeded 34 = .ok (.iload_n 3, 1) := by decide +kernel
theorem dL_isNeeded_35 : decode cL_isNeeded 35 = .ok (.iload 4, 2) := by decide +kernel
theorem dL_isNeeded_37 : decode cL_isNeeded 37 = .ok (.if_icmp .ne 7, 3) := by decide +kernel
theorem dL_isNeeded_40 : decode cL_isNeeded 40 = .ok (.iconst 1, 1) := by decide +kernel
theorem dL_isNeeded_41 : decode cL_isNeeded 41 = .ok (.goto 4, 3) := by decide +kernel
theorem dL_isNeeded_44 : decode cL_isNeeded 44 = .ok (.iconst 0, 1) := by decide +kernel
theorem dL_isNeeded_45 : decode cL_isNeeded 45 = .ok (.if_icmp .eq 5, 3) := by decide +kernel
theorem dL_isNeeded_48 : decode cL_isNeeded 48 = .ok (.iconst 0, 1) := by decide +kernel
theorem dL_isNeeded_49 : decode cL_isNeeded 49 = .ok (.ireturn, 1) := by decide +kernel
theorem dL_isNeeded_50 : decode cL_isNeeded 50 = .ok (.iload_n 3, 1) := by decide +kernel
theorem dL_isNeeded_51 : decode cL_isNeeded 51 = .ok (.iload 4, 2) := by decide +kernel
theorem dL_isNeeded_53 : decode cL_isNeeded 53 = .ok (.if_icmp .ne 5, 3) := by decide +kernel
theorem dL_isNeeded_56 : decode cL_isNeeded 56 = .ok (.iconst 1, 1) := by decide +kernel
theorem dL_isNeeded_57 : decode cL_isNeeded 57 = .ok (.ireturn, 1) := by decide +kernel
theorem dL_isNeeded_58 : decode cL_isNeeded 58 = .ok (.aload_n 0, 1) := by decide +kernel
theorem dL_isNeeded_59 : decode cL_isNeeded 59 = .ok (.iconst 2, 1) := by decide +kernel
theorem dL_isNeeded_60 : decode cL_isNeeded 60 = .ok (.iconst (-1), 1) := by decide +kernel
theorem dL_isNeeded_61 : decode cL_isNeeded 61 = .ok (.invokevirtual 22, 3) := by decide +kernel
theorem dL_isNeeded_64 : decode cL_isNeeded 64 = .ok (.bipush 6, 2) := by decide +kernel
theorem dL_isNeeded_66 : decode cL_isNeeded 66 = .ok (.iload 4, 2) := by decide +kernel
theorem dL_isNeeded_68 : decode cL_isNeeded 68 = .ok (.iadd, 1) := by decide +kernel
theorem dL_isNeeded_69 : decode cL_isNeeded 69 = .ok (.if_icmp .ne 18, 3) := by decide +kernel
theorem dL_isNeeded_72 : decode cL_isNeeded 72 = .ok (.aload_n 0, 1) := by decide +kernel
theorem dL_isNeeded_73 : decode cL_isNeeded 73 = .ok (.bipush 6, 2) := by decide +kernel
theorem dL_isNeeded_75 : decode cL_isNeeded 75 = .ok (.iload 4, 2) := by decide +kernel
theorem dL_isNeeded_77 : decode cL_isNeeded 77 = .ok (.iadd, 1) := by decide +kernel
theorem dL_isNeeded_78 : decode cL_isNeeded 78 = .ok (.iconst 0, 1) := by decide +kernel
theorem dL_isNeeded_79 : decode cL_isNeeded 79 = .ok (.iload_n 1, 1) := by decide +kernel
theorem dL_isNeeded_80 : decode cL_isNeeded 80 = .ok (.iload_n 2, 1) := by decide +kernel
theorem dL_isNeeded_81 : decode cL_isNeeded 81 = .ok (.invokevirtual 34, 3) := by decide +kernel
theorem dL_isNeeded_84 : decode cL_isNeeded 84 = .ok (.ifCond .ge 5, 3) := by decide +kernel
theorem dL_isNeeded_87 : decode cL_isNeeded 87 = .ok (.iconst 0, 1) := by decide +kernel
theorem dL_isNeeded_88 : decode cL_isNeeded 88 = .ok (.ireturn, 1) := by decide +kernel
theorem dL_isNeeded_89 : decode cL_isNeeded 89 = .ok (.iinc 4 1, 3) := by decide +kernel
theorem dL_isNeeded_92 : decode cL_isNeeded 92 = .ok (.goto (-80), 3) := by decide +kernel
theorem dL_isNeeded_95 : decode cL_isNeeded 95 = .ok (.iload_n 3, 1) := by decide +kernel
theorem dL_isNeeded_96 : decode cL_isNeeded 96 = .ok (.ifCond .lt 8, 3) := by decide +kernel
theorem dL_isNeeded_99 : decode cL_isNeeded 99 = .ok (.iload_n 3, 1) := by decide +kernel
theorem dL_isNeeded_100 : decode cL_isNeeded 100 = .ok (.iconst 3, 1) := by decide +kernel
theorem dL_isNeeded_101 : decode cL_isNeeded 101 = .ok (.if_icmp .le 7, 3) := by decide +kernel
theorem dL_isNeeded_104 : decode cL_isNeeded 104 = .ok (.iconst 1, 1) := by decide +kernel
theorem dL_isNeeded_105 : decode cL_isNeeded 105 = .ok (.goto 4, 3) := by decide +kernel
theorem dL_isNeeded_108 : decode cL_isNeeded 108 = .ok (.iconst 0, 1) := by decide +kernel
theorem dL_isNeeded_109 : decode cL_isNeeded 109 = .ok (.ireturn, 1) := by decide +kernel
