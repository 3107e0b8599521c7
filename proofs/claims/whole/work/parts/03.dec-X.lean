theorem dX0_init_0 : decode cX0_init 0 = .ok (.aload_n 0, 1) := by decide +kernel
theorem dX0_init_1 : decode cX0_init 1 = .ok (.invokespecial 3, 3) := by decide +kernel
theorem dX0_init_4 : decode cX0_init 4 = .ok (.aload_n 0, 1) := by decide +kernel
theorem dX0_init_5 : decode cX0_init 5 = .ok (.bipush 8, 2) := by decide +kernel
theorem dX0_init_7 : decode cX0_init 7 = .ok (.newarray .int, 2) := by decide +kernel
theorem dX0_init_9 : decode cX0_init 9 = .ok (.putfield 11, 3) := by decide +kernel
theorem dX0_init_12 : decode cX0_init 12 = .ok (.aload_n 0, 1) := by decide +kernel
theorem dX0_init_13 : decode cX0_init 13 = .ok (.bipush 8, 2) := by decide +kernel
theorem dX0_init_15 : decode cX0_init 15 = .ok (.newarray .int, 2) := by decide +kernel
theorem dX0_init_17 : decode cX0_init 17 = .ok (.putfield 15, 3) := by decide +kernel
theorem dX0_init_20 : decode cX0_init 20 = .ok (.aload_n 0, 1) := by decide +kernel
theorem dX0_init_21 : decode cX0_init 21 = .ok (.bipush 8, 2) := by decide +kernel
theorem dX0_init_23 : decode cX0_init 23 = .ok (.newarray .int, 2) := by decide +kernel
theorem dX0_init_25 : decode cX0_init 25 = .ok (.putfield 18, 3) := by decide +kernel
theorem dX0_init_28 : decode cX0_init 28 = .ok (.aload_n 0, 1) := by decide +kernel
theorem dX0_init_29 : decode cX0_init 29 = .ok (.bipush 8, 2) := by decide +kernel
theorem dX0_init_31 : decode cX0_init 31 = .ok (.newarray .int, 2) := by decide +kernel
theorem dX0_init_33 : decode cX0_init 33 = .ok (.putfield 21, 3) := by decide +kernel
theorem dX0_init_36 : decode cX0_init 36 = .ok (.aload_n 0, 1) := by decide +kernel
theorem dX0_init_37 : decode cX0_init 37 = .ok (.bipush 16, 2) := by decide +kernel
theorem dX0_init_39 : decode cX0_init 39 = .ok (.newarray .int, 2) := by decide +kernel
theorem dX0_init_41 : decode cX0_init 41 = .ok (.putfield 24, 3) := by decide +kernel
theorem dX0_init_44 : decode cX0_init 44 = .ok (.aload_n 0, 1) := by decide +kernel
theorem dX0_init_45 : decode cX0_init 45 = .ok (.bipush 16, 2) := by decide +kernel
theorem dX0_init_47 : decode cX0_init 47 = .ok (.newarray .int, 2) := by decide +kernel
theorem dX0_init_49 : decode cX0_init 49 = .ok (.putfield 27, 3) := by decide +kernel
theorem dX0_init_52 : decode cX0_init 52 = .ok (.aload_n 0, 1) := by decide +kernel
theorem dX0_init_53 : decode cX0_init 53 = .ok (.bipush 16, 2) := by decide +kernel
theorem dX0_init_55 : decode cX0_init 55 = .ok (.newarray .int, 2) := by decide +kernel
theorem dX0_init_57 : decode cX0_init 57 = .ok (.putfield 30, 3) := by decide +kernel
theorem dX0_init_60 : decode cX0_init 60 = .ok (.aload_n 0, 1) := by decide +kernel
theorem dX0_init_61 : decode cX0_init 61 = .ok (.bipush 16, 2) := by decide +kernel
theorem dX0_init_63 : decode cX0_init 63 = .ok (.newarray .int, 2) := by decide +kernel
theorem dX0_init_65 : decode cX0_init 65 = .ok (.putfield 33, 3) := by decide +kernel
theorem dX0_init_68 : decode cX0_init 68 = .ok (.aload_n 0, 1) := by decide +kernel
theorem dX0_init_69 : decode cX0_init 69 = .ok (.bipush 64, 2) := by decide +kernel
theorem dX0_init_71 : decode cX0_init 71 = .ok (.newarray .int, 2) := by decide +kernel
theorem dX0_init_73 : decode cX0_init 73 = .ok (.putfield 36, 3) := by decide +kernel
theorem dX0_init_76 : decode cX0_init 76 = .ok (.aload_n 0, 1) := by decide +kernel
theorem dX0_init_77 : decode cX0_init 77 = .ok (.new 39, 3) := by decide +kernel
theorem dX0_init_80 : decode cX0_init 80 = .ok (.dup, 1) := by decide +kernel
theorem dX0_init_81 : decode cX0_init 81 = .ok (.bipush 16, 2) := by decide +kernel
theorem dX0_init_83 : decode cX0_init 83 = .ok (.invokespecial 41, 3) := by decide +kernel
theorem dX0_init_86 : decode cX0_init 86 = .ok (.putfield 44, 3) := by decide +kernel
theorem dX0_init_89 : decode cX0_init 89 = .ok (.return_, 1) := by decide +kernel
theorem dX0_bitsOfAll_0 : decode cX0_bitsOfAll 0 = .ok (.iconst 1, 1) := by decide +kernel
theorem dX0_bitsOfAll_1 : decode cX0_bitsOfAll 1 = .ok (.aload_n 0, 1) := by decide +kernel
theorem dX0_bitsOfAll_2 : decode cX0_bitsOfAll 2 = .ok (.getfield 48, 3) := by decide +kernel
theorem dX0_bitsOfAll_5 : decode cX0_bitsOfAll 5 = .ok (.invokevirtual 53, 3) := by decide +kernel
theorem dX0_bitsOfAll_8 : decode cX0_bitsOfAll 8 = .ok (.ishl, 1) := by decide +kernel
theorem dX0_bitsOfAll_9 : decode cX0_bitsOfAll 9 = .ok (.iconst 1, 1) := by decide +kernel
theorem dX0_bitsOfAll_10 : decode cX0_bitsOfAll 10 = .ok (.isub, 1) := by decide +kernel
theorem dX0_bitsOfAll_11 : decode cX0_bitsOfAll 11 = .ok (.ireturn, 1) := by decide +kernel
theorem dX0_joinBy_0 : decode cX0_joinBy 0 = .ok (.aload_n 0, 1) := by decide +kernel
theorem dX0_joinBy_1 : decode cX0_joinBy 1 = .ok (.aload_n 1, 1) := by decide +kernel
theorem dX0_joinBy_2 : decode cX0_joinBy 2 = .ok (.invokevirtual 57, 3) := by decide +kernel
theorem dX0_joinBy_5 : decode cX0_joinBy 5 = .ok (.aload_n 0, 1) := by decide +kernel
theorem dX0_joinBy_6 : decode cX0_joinBy 6 = .ok (.iload_n 2, 1) := by decide +kernel
theorem dX0_joinBy_7 : decode cX0_joinBy 7 = .ok (.invokevirtual 61, 3) := by decide +kernel
theorem dX0_joinBy_10 : decode cX0_joinBy 10 = .ok (.ireturn, 1) := by decide +kernel
theorem dX0_joinBest_0 : decode cX0_joinBest 0 = .ok (.aload_n 0, 1) := by decide +kernel
theorem dX0_joinBest_1 : decode cX0_joinBest 1 = .ok (.aload_n 1, 1) := by decide +kernel
theorem dX0_joinBest_2 : decode cX0_joinBest 2 = .ok (.invokevirtual 65, 3) := by decide +kernel
theorem dX0_joinBest_5 : decode cX0_joinBest 5 = .ok (.istore_n 2, 1) := by decide +kernel
theorem dX0_joinBest_6 : decode cX0_joinBest 6 = .ok (.iload_n 2, 1) := by decide +kernel
theorem dX0_joinBest_7 : decode cX0_joinBest 7 = .ok (.bipush (-5), 2) := by decide +kernel
theorem dX0_joinBest_9 : decode cX0_joinBest 9 = .ok (.if_icmp .ne 5, 3) := by decide +kernel
theorem dX0_joinBest_12 : decode cX0_joinBest 12 = .ok (.iconst 0, 1) := by decide +kernel
theorem dX0_joinBest_13 : decode cX0_joinBest 13 = .ok (.ireturn, 1) := by decide +kernel
theorem dX0_joinBest_14 : decode cX0_joinBest 14 = .ok (.aload_n 1, 1) := by decide +kernel
theorem dX0_joinBest_15 : decode cX0_joinBest 15 = .ok (.invokestatic 69, 3) := by decide +kernel
theorem dX0_joinBest_18 : decode cX0_joinBest 18 = .ok (.iload_n 2, 1) := by decide +kernel
theorem dX0_joinBest_19 : decode cX0_joinBest 19 = .ok (.iconst (-1), 1) := by decide +kernel
theorem dX0_joinBest_20 : decode cX0_joinBest 20 = .ok (.ixor, 1) := by decide +kernel
theorem dX0_joinBest_21 : decode cX0_joinBest 21 = .ok (.iand, 1) := by decide +kernel
theorem dX0_joinBest_22 : decode cX0_joinBest 22 = .ok (.istore_n 3, 1) := by decide +kernel
theorem dX0_joinBest_23 : decode cX0_joinBest 23 = .ok (.aload_n 0, 1) := by decide +kernel
theorem dX0_joinBest_24 : decode cX0_joinBest 24 = .ok (.aload_n 1, 1) := by decide +kernel
theorem dX0_joinBest_25 : decode cX0_joinBest 25 = .ok (.iload_n 3, 1) := by decide +kernel
theorem dX0_joinBest_26 : decode cX0_joinBest 26 = .ok (.invokevirtual 72, 3) := by decide +kernel
theorem dX0_joinBest_29 : decode cX0_joinBest 29 = .ok (.istore 4, 2) := by decide +kernel
theorem dX0_joinBest_31 : decode cX0_joinBest 31 = .ok (.aload_n 0, 1) := by decide +kernel
theorem dX0_joinBest_32 : decode cX0_joinBest 32 = .ok (.iload_n 3, 1) := by decide +kernel
theorem dX0_joinBest_33 : decode cX0_joinBest 33 = .ok (.invokevirtual 76, 3) := by decide +kernel
theorem dX0_joinBest_36 : decode cX0_joinBest 36 = .ok (.iload 4, 2) := by decide +kernel
theorem dX0_joinBest_38 : decode cX0_joinBest 38 = .ok (.ireturn, 1) := by decide +kernel
theorem dX0_leastOf_0 : decode cX0_leastOf 0 = .ok (.iload_n 1, 1) := by decide +kernel
theorem dX0_leastOf_1 : decode cX0_leastOf 1 = .ok (.ifCond .lt 18, 3) := by decide +kernel
theorem dX0_leastOf_4 : decode cX0_leastOf 4 = .ok (.iload_n 1, 1) := by decide +kernel
theorem dX0_leastOf_5 : decode cX0_leastOf 5 = .ok (.bipush 8, 2) := by decide +kernel
theorem dX0_leastOf_7 : decode cX0_leastOf 7 = .ok (.if_icmp .ge 12, 3) := by decide +kernel
theorem dX0_leastOf_10 : decode cX0_leastOf 10 = .ok (.aload_n 0, 1) := by decide +kernel
theorem dX0_leastOf_11 : decode cX0_leastOf 11 = .ok (.getfield 11, 3) := by decide +kernel
theorem dX0_leastOf_14 : decode cX0_leastOf 14 = .ok (.iload_n 1, 1) := by decide +kernel
theorem dX0_leastOf_15 : decode cX0_leastOf 15 = .ok (.iaload, 1) := by decide +kernel
theorem dX0_leastOf_16 : decode cX0_leastOf 16 = .ok (.goto 4, 3) := by decide +kernel
theorem dX0_leastOf_19 : decode cX0_leastOf 19 = .ok (.iconst (-1), 1) := by decide +kernel
theorem dX0_leastOf_20 : decode cX0_leastOf 20 = .ok (.ireturn, 1) := by decide +kernel
theorem dX0_greatestOf_0 : decode cX0_greatestOf 0 = .ok (.iload_n 1, 1) := by decide +kernel
theorem dX0_greatestOf_1 : decode cX0_greatestOf 1 = .ok (.ifCond .lt 18, 3) := by decide +kernel
theorem dX0_greatestOf_4 : decode cX0_greatestOf 4 = .ok (.iload_n 1, 1) := by decide +kernel
theorem dX0_greatestOf_5 : decode cX0_greatestOf 5 = .ok (.bipush 8, 2) := by decide +kernel
theorem dX0_greatestOf_7 : decode cX0_greatestOf 7 = .ok (.if_icmp .ge 12, 3) := by decide +kernel
theorem dX0_greatestOf_10 : decode cX0_greatestOf 10 = .ok (.aload_n 0, 1) := by decide +kernel
theorem dX0_greatestOf_11 : decode cX0_greatestOf 11 = .ok (.getfield 15, 3) := by decide +kernel
theorem dX0_greatestOf_14 : decode cX0_greatestOf 14 = .ok (.iload_n 1, 1) := by decide +kernel
theorem dX0_greatestOf_15 : decode cX0_greatestOf 15 = .ok (.iaload, 1) := by decide +kernel
theorem dX0_greatestOf_16 : decode cX0_greatestOf 16 = .ok (.goto 4, 3) := by decide +kernel
theorem dX0_greatestOf_19 : decode cX0_greatestOf 19 = .ok (.iconst (-1), 1) := by decide +kernel
theorem dX0_greatestOf_20 : decode cX0_greatestOf 20 = .ok (.ireturn, 1) := by decide +kernel
theorem dX0_leftOut_0 : decode cX0_leftOut 0 = .ok (.aload_n 1, 1) := by decide +kernel
theorem dX0_leftOut_1 : decode cX0_leftOut 1 = .ok (.getfield 79, 3) := by decide +kernel
theorem dX0_leftOut_4 : decode cX0_leftOut 4 = .ok (.iconst 4, 1) := by decide +kernel
theorem dX0_leftOut_5 : decode cX0_leftOut 5 = .ok (.iaload, 1) := by decide +kernel
theorem dX0_leftOut_6 : decode cX0_leftOut 6 = .ok (.istore_n 2, 1) := by decide +kernel
theorem dX0_leftOut_7 : decode cX0_leftOut 7 = .ok (.aload_n 1, 1) := by decide +kernel
theorem dX0_leftOut_8 : decode cX0_leftOut 8 = .ok (.getfield 79, 3) := by decide +kernel
theorem dX0_leftOut_11 : decode cX0_leftOut 11 = .ok (.iconst 5, 1) := by decide +kernel
theorem dX0_leftOut_12 : decode cX0_leftOut 12 = .ok (.iaload, 1) := by decide +kernel
theorem dX0_leftOut_13 : decode cX0_leftOut 13 = .ok (.istore_n 3, 1) := by decide +kernel
theorem dX0_leftOut_14 : decode cX0_leftOut 14 = .ok (.iload_n 2, 1) := by decide +kernel
theorem dX0_leftOut_15 : decode cX0_leftOut 15 = .ok (.aload_n 0, 1) := by decide +kernel
theorem dX0_leftOut_16 : decode cX0_leftOut 16 = .ok (.getfield 82, 3) := by decide +kernel
theorem dX0_leftOut_19 : decode cX0_leftOut 19 = .ok (.if_icmp .ne 25, 3) := by decide +kernel
theorem dX0_leftOut_22 : decode cX0_leftOut 22 = .ok (.iload_n 3, 1) := by decide +kernel
theorem dX0_leftOut_23 : decode cX0_leftOut 23 = .ok (.aload_n 0, 1) := by decide +kernel
theorem dX0_leftOut_24 : decode cX0_leftOut 24 = .ok (.getfield 86, 3) := by decide +kernel
theorem dX0_leftOut_27 : decode cX0_leftOut 27 = .ok (.if_icmp .ne 17, 3) := by decide +kernel
theorem dX0_leftOut_30 : decode cX0_leftOut 30 = .ok (.aload_n 0, 1) := by decide +kernel
theorem dX0_leftOut_31 : decode cX0_leftOut 31 = .ok (.getfield 44, 3) := by decide +kernel
theorem dX0_leftOut_34 : decode cX0_leftOut 34 = .ok (.aload_n 1, 1) := by decide +kernel
theorem dX0_leftOut_35 : decode cX0_leftOut 35 = .ok (.getfield 48, 3) := by decide +kernel
theorem dX0_leftOut_38 : decode cX0_leftOut 38 = .ok (.invokevirtual 89, 3) := by decide +kernel
theorem dX0_leftOut_41 : decode cX0_leftOut 41 = .ok (.ifCond .ne 41, 3) := by decide +kernel
theorem dX0_leftOut_44 : decode cX0_leftOut 44 = .ok (.aload_n 0, 1) := by decide +kernel
theorem dX0_leftOut_45 : decode cX0_leftOut 45 = .ok (.aload_n 1, 1) := by decide +kernel
theorem dX0_leftOut_46 : decode cX0_leftOut 46 = .ok (.invokevirtual 57, 3) := by decide +kernel
theorem dX0_leftOut_49 : decode cX0_leftOut 49 = .ok (.aload_n 0, 1) := by decide +kernel
theorem dX0_leftOut_50 : decode cX0_leftOut 50 = .ok (.aload_n 0, 1) := by decide +kernel
theorem dX0_leftOut_51 : decode cX0_leftOut 51 = .ok (.aload_n 1, 1) := by decide +kernel
theorem dX0_leftOut_52 : decode cX0_leftOut 52 = .ok (.invokestatic 69, 3) := by decide +kernel
theorem dX0_leftOut_55 : decode cX0_leftOut 55 = .ok (.invokevirtual 93, 3) := by decide +kernel
theorem dX0_leftOut_58 : decode cX0_leftOut 58 = .ok (.putfield 97, 3) := by decide +kernel
theorem dX0_leftOut_61 : decode cX0_leftOut 61 = .ok (.aload_n 0, 1) := by decide +kernel
theorem dX0_leftOut_62 : decode cX0_leftOut 62 = .ok (.getfield 44, 3) := by decide +kernel
theorem dX0_leftOut_65 : decode cX0_leftOut 65 = .ok (.aload_n 1, 1) := by decide +kernel
theorem dX0_leftOut_66 : decode cX0_leftOut 66 = .ok (.getfield 48, 3) := by decide +kernel
theorem dX0_leftOut_69 : decode cX0_leftOut 69 = .ok (.invokevirtual 100, 3) := by decide +kernel
theorem dX0_leftOut_72 : decode cX0_leftOut 72 = .ok (.aload_n 0, 1) := by decide +kernel
theorem dX0_leftOut_73 : decode cX0_leftOut 73 = .ok (.iload_n 2, 1) := by decide +kernel
theorem dX0_leftOut_74 : decode cX0_leftOut 74 = .ok (.putfield 82, 3) := by decide +kernel
theorem dX0_leftOut_77 : decode cX0_leftOut 77 = .ok (.aload_n 0, 1) := by decide +kernel
theorem dX0_leftOut_78 : decode cX0_leftOut 78 = .ok (.iload_n 3, 1) := by decide +kernel
theorem dX0_leftOut_79 : decode cX0_leftOut 79 = .ok (.putfield 86, 3) := by decide +kernel
theorem dX0_leftOut_82 : decode cX0_leftOut 82 = .ok (.aload_n 0, 1) := by decide +kernel
theorem dX0_leftOut_83 : decode cX0_leftOut 83 = .ok (.getfield 97, 3) := by decide +kernel
theorem dX0_leftOut_86 : decode cX0_leftOut 86 = .ok (.ireturn, 1) := by decide +kernel
theorem dX0_isYounger_0 : decode cX0_isYounger 0 = .ok (.aload_n 0, 1) := by decide +kernel
theorem dX0_isYounger_1 : decode cX0_isYounger 1 = .ok (.iload_n 1, 1) := by decide +kernel
theorem dX0_isYounger_2 : decode cX0_isYounger 2 = .ok (.iload_n 2, 1) := by decide +kernel
theorem dX0_isYounger_3 : decode cX0_isYounger 3 = .ok (.invokevirtual 104, 3) := by decide +kernel
theorem dX0_isYounger_6 : decode cX0_isYounger 6 = .ok (.ifCond .gt 16, 3) := by decide +kernel
theorem dX0_isYounger_9 : decode cX0_isYounger 9 = .ok (.aload_n 0, 1) := by decide +kernel
theorem dX0_isYounger_10 : decode cX0_isYounger 10 = .ok (.iload_n 1, 1) := by decide +kernel
theorem dX0_isYounger_11 : decode cX0_isYounger 11 = .ok (.invokevirtual 108, 3) := by decide +kernel
theorem dX0_isYounger_14 : decode cX0_isYounger 14 = .ok (.aload_n 0, 1) := by decide +kernel
theorem dX0_isYounger_15 : decode cX0_isYounger 15 = .ok (.iload_n 2, 1) := by decide +kernel
theorem dX0_isYounger_16 : decode cX0_isYounger 16 = .ok (.invokevirtual 111, 3) := by decide +kernel
theorem dX0_isYounger_19 : decode cX0_isYounger 19 = .ok (.if_icmp .ge 7, 3) := by decide +kernel
theorem dX0_isYounger_22 : decode cX0_isYounger 22 = .ok (.iconst 1, 1) := by decide +kernel
theorem dX0_isYounger_23 : decode cX0_isYounger 23 = .ok (.goto 4, 3) := by decide +kernel
theorem dX0_isYounger_26 : decode cX0_isYounger 26 = .ok (.iconst 0, 1) := by decide +kernel
theorem dX0_isYounger_27 : decode cX0_isYounger 27 = .ok (.ireturn, 1) := by decide +kernel
theorem dX0_ridgeToCore_0 : decode cX0_ridgeToCore 0 = .ok (.iconst (-1), 1) := by decide +kernel
theorem dX0_ridgeToCore_1 : decode cX0_ridgeToCore 1 = .ok (.istore_n 2, 1) := by decide +kernel
theorem dX0_ridgeToCore_2 : decode cX0_ridgeToCore 2 = .ok (.iconst 0, 1) := by decide +kernel
theorem dX0_ridgeToCore_3 : decode cX0_ridgeToCore 3 = .ok (.istore_n 3, 1) := by decide +kernel
theorem dX0_ridgeToCore_4 : decode cX0_ridgeToCore 4 = .ok (.iconst 0, 1) := by decide +kernel
theorem dX0_ridgeToCore_5 : decode cX0_ridgeToCore 5 = .ok (.istore 4, 2) := by decide +kernel
theorem dX0_ridgeToCore_7 : decode cX0_ridgeToCore 7 = .ok (.iload 4, 2) := by decide +kernel
theorem dX0_ridgeToCore_9 : decode cX0_ridgeToCore 9 = .ok (.iload_n 1, 1) := by decide +kernel
theorem dX0_ridgeToCore_10 : decode cX0_ridgeToCore 10 = .ok (.if_icmp .ge 70, 3) := by decide +kernel
theorem dX0_ridgeToCore_13 : decode cX0_ridgeToCore 13 = .ok (.iconst 0, 1) := by decide +kernel
theorem dX0_ridgeToCore_14 : decode cX0_ridgeToCore 14 = .ok (.istore 5, 2) := by decide +kernel
theorem dX0_ridgeToCore_16 : decode cX0_ridgeToCore 16 = .ok (.aload_n 0, 1) := by decide +kernel
theorem dX0_ridgeToCore_17 : decode cX0_ridgeToCore 17 = .ok (.iload 4, 2) := by decide +kernel
theorem dX0_ridgeToCore_19 : decode cX0_ridgeToCore 19 = .ok (.invokevirtual 111, 3) := by decide +kernel
theorem dX0_ridgeToCore_22 : decode cX0_ridgeToCore 22 = .ok (.istore 6, 2) := by decide +kernel
theorem dX0_ridgeToCore_24 : decode cX0_ridgeToCore 24 = .ok (.iload 6, 2) := by decide +kernel
theorem dX0_ridgeToCore_26 : decode cX0_ridgeToCore 26 = .ok (.aload_n 0, 1) := by decide +kernel
theorem dX0_ridgeToCore_27 : decode cX0_ridgeToCore 27 = .ok (.iload 4, 2) := by decide +kernel
theorem dX0_ridgeToCore_29 : decode cX0_ridgeToCore 29 = .ok (.invokevirtual 108, 3) := by decide +kernel
theorem dX0_ridgeToCore_32 : decode cX0_ridgeToCore 32 = .ok (.if_icmp .gt 25, 3) := by decide +kernel
theorem dX0_ridgeToCore_35 : decode cX0_ridgeToCore 35 = .ok (.iload 5, 2) := by decide +kernel
theorem dX0_ridgeToCore_37 : decode cX0_ridgeToCore 37 = .ok (.aload_n 0, 1) := by decide +kernel
theorem dX0_ridgeToCore_38 : decode cX0_ridgeToCore 38 = .ok (.iload_n 1, 1) := by decide +kernel
theorem dX0_ridgeToCore_39 : decode cX0_ridgeToCore 39 = .ok (.iload 4, 2) := by decide +kernel
theorem dX0_ridgeToCore_41 : decode cX0_ridgeToCore 41 = .ok (.iload 6, 2) := by decide +kernel
theorem dX0_ridgeToCore_43 : decode cX0_ridgeToCore 43 = .ok (.invokevirtual 114, 3) := by decide +kernel
theorem dX0_ridgeToCore_46 : decode cX0_ridgeToCore 46 = .ok (.invokestatic 118, 3) := by decide +kernel
theorem dX0_ridgeToCore_49 : decode cX0_ridgeToCore 49 = .ok (.istore 5, 2) := by decide +kernel
theorem dX0_ridgeToCore_51 : decode cX0_ridgeToCore 51 = .ok (.iinc 6 1, 3) := by decide +kernel
theorem dX0_ridgeToCore_54 : decode cX0_ridgeToCore 54 = .ok (.goto (-30), 3) := by decide +kernel
theorem dX0_ridgeToCore_57 : decode cX0_ridgeToCore 57 = .ok (.iload_n 2, 1) := by decide +kernel
theorem dX0_ridgeToCore_58 : decode cX0_ridgeToCore 58 = .ok (.iconst (-1), 1) := by decide +kernel
theorem dX0_ridgeToCore_59 : decode cX0_ridgeToCore 59 = .ok (.if_icmp .eq 9, 3) := by decide +kernel
theorem dX0_ridgeToCore_62 : decode cX0_ridgeToCore 62 = .ok (.iload 5, 2) := by decide +kernel
theorem dX0_ridgeToCore_64 : decode cX0_ridgeToCore 64 = .ok (.iload_n 3, 1) := by decide +kernel
theorem dX0_ridgeToCore_65 : decode cX0_ridgeToCore 65 = .ok (.if_icmp .ge 9, 3) := by decide +kernel
theorem dX0_ridgeToCore_68 : decode cX0_ridgeToCore 68 = .ok (.iload 4, 2) := by decide +kernel
theorem dX0_ridgeToCore_70 : decode cX0_ridgeToCore 70 = .ok (.istore_n 2, 1) := by decide +kernel
theorem dX0_ridgeToCore_71 : decode cX0_ridgeToCore 71 = .ok (.iload 5, 2) := by decide +kernel
theorem dX0_ridgeToCore_73 : decode cX0_ridgeToCore 73 = .ok (.istore_n 3, 1) := by decide +kernel
theorem dX0_ridgeToCore_74 : decode cX0_ridgeToCore 74 = .ok (.iinc 4 1, 3) := by decide +kernel
theorem dX0_ridgeToCore_77 : decode cX0_ridgeToCore 77 = .ok (.goto (-70), 3) := by decide +kernel
theorem dX0_ridgeToCore_80 : decode cX0_ridgeToCore 80 = .ok (.iload_n 2, 1) := by decide +kernel
theorem dX0_ridgeToCore_81 : decode cX0_ridgeToCore 81 = .ok (.ireturn, 1) := by decide +kernel
theorem dX0_firstParted_0 : decode cX0_firstParted 0 = .ok (.aload_n 0, 1) := by decide +kernel
theorem dX0_firstParted_1 : decode cX0_firstParted 1 = .ok (.aload_n 1, 1) := by decide +kernel
theorem dX0_firstParted_2 : decode cX0_firstParted 2 = .ok (.aload_n 1, 1) := by decide +kernel
theorem dX0_firstParted_3 : decode cX0_firstParted 3 = .ok (.iconst 0, 1) := by decide +kernel
theorem dX0_firstParted_4 : decode cX0_firstParted 4 = .ok (.invokestatic 123, 3) := by decide +kernel
theorem dX0_firstParted_7 : decode cX0_firstParted 7 = .ok (.invokevirtual 72, 3) := by decide +kernel
theorem dX0_firstParted_10 : decode cX0_firstParted 10 = .ok (.ifCond .ne 6, 3) := by decide +kernel
theorem dX0_firstParted_13 : decode cX0_firstParted 13 = .ok (.bipush (-5), 2) := by decide +kernel
theorem dX0_firstParted_15 : decode cX0_firstParted 15 = .ok (.ireturn, 1) := by decide +kernel
theorem dX0_firstParted_16 : decode cX0_firstParted 16 = .ok (.aload_n 0, 1) := by decide +kernel
theorem dX0_firstParted_17 : decode cX0_firstParted 17 = .ok (.getfield 11, 3) := by decide +kernel
theorem dX0_firstParted_20 : decode cX0_firstParted 20 = .ok (.iconst 0, 1) := by decide +kernel
theorem dX0_firstParted_21 : decode cX0_firstParted 21 = .ok (.aload_n 0, 1) := by decide +kernel
theorem dX0_firstParted_22 : decode cX0_firstParted 22 = .ok (.getfield 18, 3) := by decide +kernel
theorem dX0_firstParted_25 : decode cX0_firstParted 25 = .ok (.iconst 0, 1) := by decide +kernel
theorem dX0_firstParted_26 : decode cX0_firstParted 26 = .ok (.bipush 8, 2) := by decide +kernel
theorem dX0_firstParted_28 : decode cX0_firstParted 28 = .ok (.invokestatic 127, 3) := by decide +kernel
theorem dX0_firstParted_31 : decode cX0_firstParted 31 = .ok (.aload_n 0, 1) := by decide +kernel
theorem dX0_firstParted_32 : decode cX0_firstParted 32 = .ok (.getfield 15, 3) := by decide +kernel
theorem dX0_firstParted_35 : decode cX0_firstParted 35 = .ok (.iconst 0, 1) := by decide +kernel
theorem dX0_firstParted_36 : decode cX0_firstParted 36 = .ok (.aload_n 0, 1) := by decide +kernel
theorem dX0_firstParted_37 : decode cX0_firstParted 37 = .ok (.getfield 21, 3) := by decide +kernel
theorem dX0_firstParted_40 : decode cX0_firstParted 40 = .ok (.iconst 0, 1) := by decide +kernel
theorem dX0_firstParted_41 : decode cX0_firstParted 41 = .ok (.bipush 8, 2) := by decide +kernel
theorem dX0_firstParted_43 : decode cX0_firstParted 43 = .ok (.invokestatic 127, 3) := by decide +kernel
theorem dX0_firstParted_46 : decode cX0_firstParted 46 = .ok (.aload_n 0, 1) := by decide +kernel
theorem dX0_firstParted_47 : decode cX0_firstParted 47 = .ok (.aload_n 1, 1) := by decide +kernel
theorem dX0_firstParted_48 : decode cX0_firstParted 48 = .ok (.aload_n 1, 1) := by decide +kernel
theorem dX0_firstParted_49 : decode cX0_firstParted 49 = .ok (.iconst 1, 1) := by decide +kernel
theorem dX0_firstParted_50 : decode cX0_firstParted 50 = .ok (.invokestatic 123, 3) := by decide +kernel
theorem dX0_firstParted_53 : decode cX0_firstParted 53 = .ok (.invokevirtual 72, 3) := by decide +kernel
theorem dX0_firstParted_56 : decode cX0_firstParted 56 = .ok (.ifCond .ne 6, 3) := by decide +kernel
theorem dX0_firstParted_59 : decode cX0_firstParted 59 = .ok (.bipush (-5), 2) := by decide +kernel
theorem dX0_firstParted_61 : decode cX0_firstParted 61 = .ok (.ireturn, 1) := by decide +kernel
theorem dX0_firstParted_62 : decode cX0_firstParted 62 = .ok (.aload_n 1, 1) := by decide +kernel
theorem dX0_firstParted_63 : decode cX0_firstParted 63 = .ok (.getfield 133, 3) := by decide +kernel
theorem dX0_firstParted_66 : decode cX0_firstParted 66 = .ok (.bipush 8, 2) := by decide +kernel
theorem dX0_firstParted_68 : decode cX0_firstParted 68 = .ok (.invokestatic 136, 3) := by decide +kernel
theorem dX0_firstParted_71 : decode cX0_firstParted 71 = .ok (.istore_n 2, 1) := by decide +kernel
theorem dX0_firstParted_72 : decode cX0_firstParted 72 = .ok (.iconst 0, 1) := by decide +kernel
theorem dX0_firstParted_73 : decode cX0_firstParted 73 = .ok (.istore_n 3, 1) := by decide +kernel
theorem dX0_firstParted_74 : decode cX0_firstParted 74 = .ok (.iload_n 3, 1) := by decide +kernel
theorem dX0_firstParted_75 : decode cX0_firstParted 75 = .ok (.iload_n 2, 1) := by decide +kernel
theorem dX0_firstParted_76 : decode cX0_firstParted 76 = .ok (.if_icmp .ge 41, 3) := by decide +kernel
theorem dX0_firstParted_79 : decode cX0_firstParted 79 = .ok (.aload_n 0, 1) := by decide +kernel
theorem dX0_firstParted_80 : decode cX0_firstParted 80 = .ok (.getfield 21, 3) := by decide +kernel
theorem dX0_firstParted_83 : decode cX0_firstParted 83 = .ok (.iload_n 3, 1) := by decide +kernel
theorem dX0_firstParted_84 : decode cX0_firstParted 84 = .ok (.iaload, 1) := by decide +kernel
theorem dX0_firstParted_85 : decode cX0_firstParted 85 = .ok (.aload_n 0, 1) := by decide +kernel
theorem dX0_firstParted_86 : decode cX0_firstParted 86 = .ok (.getfield 11, 3) := by decide +kernel
theorem dX0_firstParted_89 : decode cX0_firstParted 89 = .ok (.iload_n 3, 1) := by decide +kernel
theorem dX0_firstParted_90 : decode cX0_firstParted 90 = .ok (.iaload, 1) := by decide +kernel
theorem dX0_firstParted_91 : decode cX0_firstParted 91 = .ok (.if_icmp .lt 18, 3) := by decide +kernel
theorem dX0_firstParted_94 : decode cX0_firstParted 94 = .ok (.aload_n 0, 1) := by decide +kernel
theorem dX0_firstParted_95 : decode cX0_firstParted 95 = .ok (.getfield 15, 3) := by decide +kernel
theorem dX0_firstParted_98 : decode cX0_firstParted 98 = .ok (.iload_n 3, 1) := by decide +kernel
theorem dX0_firstParted_99 : decode cX0_firstParted 99 = .ok (.iaload, 1) := by decide +kernel
theorem dX0_firstParted_100 : decode cX0_firstParted 100 = .ok (.aload_n 0, 1) := by decide +kernel
theorem dX0_firstParted_101 : decode cX0_firstParted 101 = .ok (.getfield 18, 3) := by decide +kernel
theorem dX0_firstParted_104 : decode cX0_firstParted 104 = .ok (.iload_n 3, 1) := by decide +kernel
theorem dX0_firstParted_105 : decode cX0_firstParted 105 = .ok (.iaload, 1) := by decide +kernel
theorem dX0_firstParted_106 : decode cX0_firstParted 106 = .ok (.if_icmp .ge 5, 3) := by decide +kernel
theorem dX0_firstParted_109 : decode cX0_firstParted 109 = .ok (.iload_n 3, 1) := by decide +kernel
theorem dX0_firstParted_110 : decode cX0_firstParted 110 = .ok (.ireturn, 1) := by decide +kernel
theorem dX0_firstParted_111 : decode cX0_firstParted 111 = .ok (.iinc 3 1, 3) := by decide +kernel
theorem dX0_firstParted_114 : decode cX0_firstParted 114 = .ok (.goto (-40), 3) := by decide +kernel
theorem dX0_firstParted_117 : decode cX0_firstParted 117 = .ok (.iconst (-1), 1) := by decide +kernel
theorem dX0_firstParted_118 : decode cX0_firstParted 118 = .ok (.ireturn, 1) := by decide +kernel
theorem dX0_bitsOfScholar_0 : decode cX0_bitsOfScholar 0 = .ok (.iconst 0, 1) := by decide +kernel
theorem dX0_bitsOfScholar_1 : decode cX0_bitsOfScholar 1 = .ok (.istore_n 2, 1) := by decide +kernel
theorem dX0_bitsOfScholar_2 : decode cX0_bitsOfScholar 2 = .ok (.iconst 0, 1) := by decide +kernel
theorem dX0_bitsOfScholar_3 : decode cX0_bitsOfScholar 3 = .ok (.istore_n 3, 1) := by decide +kernel
theorem dX0_bitsOfScholar_4 : decode cX0_bitsOfScholar 4 = .ok (.iload_n 3, 1) := by decide +kernel
theorem dX0_bitsOfScholar_5 : decode cX0_bitsOfScholar 5 = .ok (.aload_n 0, 1) := by decide +kernel
theorem dX0_bitsOfScholar_6 : decode cX0_bitsOfScholar 6 = .ok (.getfield 48, 3) := by decide +kernel
theorem dX0_bitsOfScholar_9 : decode cX0_bitsOfScholar 9 = .ok (.invokevirtual 53, 3) := by decide +kernel
theorem dX0_bitsOfScholar_12 : decode cX0_bitsOfScholar 12 = .ok (.if_icmp .ge 28, 3) := by decide +kernel
theorem dX0_bitsOfScholar_15 : decode cX0_bitsOfScholar 15 = .ok (.aload_n 0, 1) := by decide +kernel
theorem dX0_bitsOfScholar_16 : decode cX0_bitsOfScholar 16 = .ok (.getfield 48, 3) := by decide +kernel
theorem dX0_bitsOfScholar_19 : decode cX0_bitsOfScholar 19 = .ok (.iload_n 3, 1) := by decide +kernel
theorem dX0_bitsOfScholar_20 : decode cX0_bitsOfScholar 20 = .ok (.iconst 0, 1) := by decide +kernel
theorem dX0_bitsOfScholar_21 : decode cX0_bitsOfScholar 21 = .ok (.invokevirtual 139, 3) := by decide +kernel
theorem dX0_bitsOfScholar_24 : decode cX0_bitsOfScholar 24 = .ok (.iload_n 1, 1) := by decide +kernel
theorem dX0_bitsOfScholar_25 : decode cX0_bitsOfScholar 25 = .ok (.if_icmp .ne 9, 3) := by decide +kernel
theorem dX0_bitsOfScholar_28 : decode cX0_bitsOfScholar 28 = .ok (.iload_n 2, 1) := by decide +kernel
theorem dX0_bitsOfScholar_29 : decode cX0_bitsOfScholar 29 = .ok (.iconst 1, 1) := by decide +kernel
theorem dX0_bitsOfScholar_30 : decode cX0_bitsOfScholar 30 = .ok (.iload_n 3, 1) := by decide +kernel
theorem dX0_bitsOfScholar_31 : decode cX0_bitsOfScholar 31 = .ok (.ishl, 1) := by decide +kernel
theorem dX0_bitsOfScholar_32 : decode cX0_bitsOfScholar 32 = .ok (.ior, 1) := by decide +kernel
theorem dX0_bitsOfScholar_33 : decode cX0_bitsOfScholar 33 = .ok (.istore_n 2, 1) := by decide +kernel
theorem dX0_bitsOfScholar_34 : decode cX0_bitsOfScholar 34 = .ok (.iinc 3 1, 3) := by decide +kernel
theorem dX0_bitsOfScholar_37 : decode cX0_bitsOfScholar 37 = .ok (.goto (-33), 3) := by decide +kernel
theorem dX0_bitsOfScholar_40 : decode cX0_bitsOfScholar 40 = .ok (.iload_n 2, 1) := by decide +kernel
theorem dX0_bitsOfScholar_41 : decode cX0_bitsOfScholar 41 = .ok (.ireturn, 1) := by decide +kernel
theorem dX0_take_0 : decode cX0_take 0 = .ok (.aload_n 0, 1) := by decide +kernel
theorem dX0_take_1 : decode cX0_take 1 = .ok (.bipush 16, 2) := by decide +kernel
theorem dX0_take_3 : decode cX0_take 3 = .ok (.aload_n 1, 1) := by decide +kernel
theorem dX0_take_4 : decode cX0_take 4 = .ok (.getfield 48, 3) := by decide +kernel
theorem dX0_take_7 : decode cX0_take 7 = .ok (.invokevirtual 53, 3) := by decide +kernel
theorem dX0_take_10 : decode cX0_take 10 = .ok (.invokestatic 136, 3) := by decide +kernel
theorem dX0_take_13 : decode cX0_take 13 = .ok (.putfield 142, 3) := by decide +kernel
theorem dX0_take_16 : decode cX0_take 16 = .ok (.iconst 0, 1) := by decide +kernel
theorem dX0_take_17 : decode cX0_take 17 = .ok (.istore_n 2, 1) := by decide +kernel
theorem dX0_take_18 : decode cX0_take 18 = .ok (.iload_n 2, 1) := by decide +kernel
theorem dX0_take_19 : decode cX0_take 19 = .ok (.aload_n 0, 1) := by decide +kernel
theorem dX0_take_20 : decode cX0_take 20 = .ok (.getfield 142, 3) := by decide +kernel
theorem dX0_take_23 : decode cX0_take 23 = .ok (.if_icmp .ge 169, 3) := by decide +kernel
theorem dX0_take_26 : decode cX0_take 26 = .ok (.aload_n 1, 1) := by decide +kernel
theorem dX0_take_27 : decode cX0_take 27 = .ok (.getfield 48, 3) := by decide +kernel
theorem dX0_take_30 : decode cX0_take 30 = .ok (.iload_n 2, 1) := by decide +kernel
theorem dX0_take_31 : decode cX0_take 31 = .ok (.iconst 1, 1) := by decide +kernel
theorem dX0_take_32 : decode cX0_take 32 = .ok (.invokevirtual 139, 3) := by decide +kernel
theorem dX0_take_35 : decode cX0_take 35 = .ok (.istore_n 3, 1) := by decide +kernel
theorem dX0_take_36 : decode cX0_take 36 = .ok (.aload_n 1, 1) := by decide +kernel
theorem dX0_take_37 : decode cX0_take 37 = .ok (.getfield 48, 3) := by decide +kernel
theorem dX0_take_40 : decode cX0_take 40 = .ok (.iload_n 2, 1) := by decide +kernel
theorem dX0_take_41 : decode cX0_take 41 = .ok (.iconst 3, 1) := by decide +kernel
theorem dX0_take_42 : decode cX0_take 42 = .ok (.invokevirtual 139, 3) := by decide +kernel
theorem dX0_take_45 : decode cX0_take 45 = .ok (.istore 4, 2) := by decide +kernel
theorem dX0_take_47 : decode cX0_take 47 = .ok (.aload_n 0, 1) := by decide +kernel
theorem dX0_take_48 : decode cX0_take 48 = .ok (.getfield 24, 3) := by decide +kernel
theorem dX0_take_51 : decode cX0_take 51 = .ok (.iload_n 2, 1) := by decide +kernel
theorem dX0_take_52 : decode cX0_take 52 = .ok (.aload_n 1, 1) := by decide +kernel
theorem dX0_take_53 : decode cX0_take 53 = .ok (.getfield 48, 3) := by decide +kernel
theorem dX0_take_56 : decode cX0_take 56 = .ok (.iload_n 2, 1) := by decide +kernel
theorem dX0_take_57 : decode cX0_take 57 = .ok (.iconst 2, 1) := by decide +kernel
theorem dX0_take_58 : decode cX0_take 58 = .ok (.invokevirtual 139, 3) := by decide +kernel
theorem dX0_take_61 : decode cX0_take 61 = .ok (.bipush 7, 2) := by decide +kernel
theorem dX0_take_63 : decode cX0_take 63 = .ok (.iand, 1) := by decide +kernel
theorem dX0_take_64 : decode cX0_take 64 = .ok (.iastore, 1) := by decide +kernel
theorem dX0_take_65 : decode cX0_take 65 = .ok (.aload_n 0, 1) := by decide +kernel
theorem dX0_take_66 : decode cX0_take 66 = .ok (.getfield 27, 3) := by decide +kernel
theorem dX0_take_69 : decode cX0_take 69 = .ok (.iload_n 2, 1) := by decide +kernel
theorem dX0_take_70 : decode cX0_take 70 = .ok (.iload_n 3, 1) := by decide +kernel
theorem dX0_take_71 : decode cX0_take 71 = .ok (.ifCond .ne 11, 3) := by decide +kernel
theorem dX0_take_74 : decode cX0_take 74 = .ok (.iload 4, 2) := by decide +kernel
theorem dX0_take_76 : decode cX0_take 76 = .ok (.bipush 7, 2) := by decide +kernel
theorem dX0_take_78 : decode cX0_take 78 = .ok (.iand, 1) := by decide +kernel
theorem dX0_take_79 : decode cX0_take 79 = .ok (.goto 4, 3) := by decide +kernel
theorem dX0_take_82 : decode cX0_take 82 = .ok (.iconst (-1), 1) := by decide +kernel
theorem dX0_take_83 : decode cX0_take 83 = .ok (.iastore, 1) := by decide +kernel
theorem dX0_take_84 : decode cX0_take 84 = .ok (.aload_n 0, 1) := by decide +kernel
theorem dX0_take_85 : decode cX0_take 85 = .ok (.getfield 30, 3) := by decide +kernel
theorem dX0_take_88 : decode cX0_take 88 = .ok (.iload_n 2, 1) := by decide +kernel
theorem dX0_take_89 : decode cX0_take 89 = .ok (.iconst 0, 1) := by decide +kernel
theorem dX0_take_90 : decode cX0_take 90 = .ok (.iastore, 1) := by decide +kernel
theorem dX0_take_91 : decode cX0_take 91 = .ok (.aload_n 0, 1) := by decide +kernel
theorem dX0_take_92 : decode cX0_take 92 = .ok (.getfield 33, 3) := by decide +kernel
theorem dX0_take_95 : decode cX0_take 95 = .ok (.iload_n 2, 1) := by decide +kernel
theorem dX0_take_96 : decode cX0_take 96 = .ok (.sipush 999, 3) := by decide +kernel
theorem dX0_take_99 : decode cX0_take 99 = .ok (.iastore, 1) := by decide +kernel
theorem dX0_take_100 : decode cX0_take 100 = .ok (.iload_n 3, 1) := by decide +kernel
theorem dX0_take_101 : decode cX0_take 101 = .ok (.iconst 1, 1) := by decide +kernel
theorem dX0_take_102 : decode cX0_take 102 = .ok (.if_icmp .eq 8, 3) := by decide +kernel
theorem dX0_take_105 : decode cX0_take 105 = .ok (.iload_n 3, 1) := by decide +kernel
theorem dX0_take_106 : decode cX0_take 106 = .ok (.iconst 4, 1) := by decide +kernel
theorem dX0_take_107 : decode cX0_take 107 = .ok (.if_icmp .ne 11, 3) := by decide +kernel
theorem dX0_take_110 : decode cX0_take 110 = .ok (.aload_n 0, 1) := by decide +kernel
theorem dX0_take_111 : decode cX0_take 111 = .ok (.getfield 30, 3) := by decide +kernel
theorem dX0_take_114 : decode cX0_take 114 = .ok (.iload_n 2, 1) := by decide +kernel
theorem dX0_take_115 : decode cX0_take 115 = .ok (.iload 4, 2) := by decide +kernel
theorem dX0_take_117 : decode cX0_take 117 = .ok (.iastore, 1) := by decide +kernel
theorem dX0_take_118 : decode cX0_take 118 = .ok (.iload_n 3, 1) := by decide +kernel
theorem dX0_take_119 : decode cX0_take 119 = .ok (.iconst 1, 1) := by decide +kernel
theorem dX0_take_120 : decode cX0_take 120 = .ok (.if_icmp .ne 18, 3) := by decide +kernel
theorem dX0_take_123 : decode cX0_take 123 = .ok (.aload_n 0, 1) := by decide +kernel
theorem dX0_take_124 : decode cX0_take 124 = .ok (.getfield 33, 3) := by decide +kernel
theorem dX0_take_127 : decode cX0_take 127 = .ok (.iload_n 2, 1) := by decide +kernel
theorem dX0_take_128 : decode cX0_take 128 = .ok (.aload_n 1, 1) := by decide +kernel
theorem dX0_take_129 : decode cX0_take 129 = .ok (.getfield 48, 3) := by decide +kernel
theorem dX0_take_132 : decode cX0_take 132 = .ok (.iload_n 2, 1) := by decide +kernel
theorem dX0_take_133 : decode cX0_take 133 = .ok (.iconst 4, 1) := by decide +kernel
theorem dX0_take_134 : decode cX0_take 134 = .ok (.invokevirtual 139, 3) := by decide +kernel
theorem dX0_take_137 : decode cX0_take 137 = .ok (.iastore, 1) := by decide +kernel
theorem dX0_take_138 : decode cX0_take 138 = .ok (.iload_n 3, 1) := by decide +kernel
theorem dX0_take_139 : decode cX0_take 139 = .ok (.iconst 2, 1) := by decide +kernel
theorem dX0_take_140 : decode cX0_take 140 = .ok (.if_icmp .ne 33, 3) := by decide +kernel
theorem dX0_take_143 : decode cX0_take 143 = .ok (.aload_n 0, 1) := by decide +kernel
theorem dX0_take_144 : decode cX0_take 144 = .ok (.getfield 30, 3) := by decide +kernel
theorem dX0_take_147 : decode cX0_take 147 = .ok (.iload_n 2, 1) := by decide +kernel
theorem dX0_take_148 : decode cX0_take 148 = .ok (.iload 4, 2) := by decide +kernel
theorem dX0_take_150 : decode cX0_take 150 = .ok (.aload_n 1, 1) := by decide +kernel
theorem dX0_take_151 : decode cX0_take 151 = .ok (.getfield 79, 3) := by decide +kernel
theorem dX0_take_154 : decode cX0_take 154 = .ok (.iconst 4, 1) := by decide +kernel
theorem dX0_take_155 : decode cX0_take 155 = .ok (.iaload, 1) := by decide +kernel
theorem dX0_take_156 : decode cX0_take 156 = .ok (.imul, 1) := by decide +kernel
theorem dX0_take_157 : decode cX0_take 157 = .ok (.iastore, 1) := by decide +kernel
theorem dX0_take_158 : decode cX0_take 158 = .ok (.aload_n 0, 1) := by decide +kernel
theorem dX0_take_159 : decode cX0_take 159 = .ok (.getfield 33, 3) := by decide +kernel
theorem dX0_take_162 : decode cX0_take 162 = .ok (.iload_n 2, 1) := by decide +kernel
theorem dX0_take_163 : decode cX0_take 163 = .ok (.iload 4, 2) := by decide +kernel
theorem dX0_take_165 : decode cX0_take 165 = .ok (.aload_n 1, 1) := by decide +kernel
theorem dX0_take_166 : decode cX0_take 166 = .ok (.getfield 79, 3) := by decide +kernel
theorem dX0_take_169 : decode cX0_take 169 = .ok (.iconst 5, 1) := by decide +kernel
theorem dX0_take_170 : decode cX0_take 170 = .ok (.iaload, 1) := by decide +kernel
theorem dX0_take_171 : decode cX0_take 171 = .ok (.imul, 1) := by decide +kernel
theorem dX0_take_172 : decode cX0_take 172 = .ok (.iastore, 1) := by decide +kernel
theorem dX0_take_173 : decode cX0_take 173 = .ok (.iload_n 3, 1) := by decide +kernel
theorem dX0_take_174 : decode cX0_take 174 = .ok (.iconst 3, 1) := by decide +kernel
theorem dX0_take_175 : decode cX0_take 175 = .ok (.if_icmp .ne 11, 3) := by decide +kernel
theorem dX0_take_178 : decode cX0_take 178 = .ok (.aload_n 0, 1) := by decide +kernel
theorem dX0_take_179 : decode cX0_take 179 = .ok (.getfield 33, 3) := by decide +kernel
theorem dX0_take_182 : decode cX0_take 182 = .ok (.iload_n 2, 1) := by decide +kernel
theorem dX0_take_183 : decode cX0_take 183 = .ok (.iload 4, 2) := by decide +kernel
theorem dX0_take_185 : decode cX0_take 185 = .ok (.iastore, 1) := by decide +kernel
theorem dX0_take_186 : decode cX0_take 186 = .ok (.iinc 2 1, 3) := by decide +kernel
theorem dX0_take_189 : decode cX0_take 189 = .ok (.goto (-171), 3) := by decide +kernel
theorem dX0_take_192 : decode cX0_take 192 = .ok (.return_, 1) := by decide +kernel
theorem dX0_seekLeftOut_0 : decode cX0_seekLeftOut 0 = .ok (.aload_n 0, 1) := by decide +kernel
theorem dX0_seekLeftOut_1 : decode cX0_seekLeftOut 1 = .ok (.iload_n 1, 1) := by decide +kernel
theorem dX0_seekLeftOut_2 : decode cX0_seekLeftOut 2 = .ok (.invokevirtual 61, 3) := by decide +kernel
theorem dX0_seekLeftOut_5 : decode cX0_seekLeftOut 5 = .ok (.ifCond .eq 5, 3) := by decide +kernel
theorem dX0_seekLeftOut_8 : decode cX0_seekLeftOut 8 = .ok (.iconst 0, 1) := by decide +kernel
theorem dX0_seekLeftOut_9 : decode cX0_seekLeftOut 9 = .ok (.ireturn, 1) := by decide +kernel
theorem dX0_seekLeftOut_10 : decode cX0_seekLeftOut 10 = .ok (.iconst 1, 1) := by decide +kernel
theorem dX0_seekLeftOut_11 : decode cX0_seekLeftOut 11 = .ok (.istore_n 2, 1) := by decide +kernel
theorem dX0_seekLeftOut_12 : decode cX0_seekLeftOut 12 = .ok (.iload_n 2, 1) := by decide +kernel
theorem dX0_seekLeftOut_13 : decode cX0_seekLeftOut 13 = .ok (.iconst 4, 1) := by decide +kernel
theorem dX0_seekLeftOut_14 : decode cX0_seekLeftOut 14 = .ok (.if_icmp .gt 56, 3) := by decide +kernel
theorem dX0_seekLeftOut_17 : decode cX0_seekLeftOut 17 = .ok (.iconst 1, 1) := by decide +kernel
theorem dX0_seekLeftOut_18 : decode cX0_seekLeftOut 18 = .ok (.iload_n 2, 1) := by decide +kernel
theorem dX0_seekLeftOut_19 : decode cX0_seekLeftOut 19 = .ok (.ishl, 1) := by decide +kernel
theorem dX0_seekLeftOut_20 : decode cX0_seekLeftOut 20 = .ok (.iconst 1, 1) := by decide +kernel
theorem dX0_seekLeftOut_21 : decode cX0_seekLeftOut 21 = .ok (.isub, 1) := by decide +kernel
theorem dX0_seekLeftOut_22 : decode cX0_seekLeftOut 22 = .ok (.istore_n 3, 1) := by decide +kernel
theorem dX0_seekLeftOut_23 : decode cX0_seekLeftOut 23 = .ok (.iconst 0, 1) := by decide +kernel
theorem dX0_seekLeftOut_24 : decode cX0_seekLeftOut 24 = .ok (.istore 4, 2) := by decide +kernel
theorem dX0_seekLeftOut_26 : decode cX0_seekLeftOut 26 = .ok (.iload 4, 2) := by decide +kernel
theorem dX0_seekLeftOut_28 : decode cX0_seekLeftOut 28 = .ok (.sipush 2000, 3) := by decide +kernel
theorem dX0_seekLeftOut_31 : decode cX0_seekLeftOut 31 = .ok (.if_icmp .ge 33, 3) := by decide +kernel
theorem dX0_seekLeftOut_34 : decode cX0_seekLeftOut 34 = .ok (.iload_n 3, 1) := by decide +kernel
theorem dX0_seekLeftOut_35 : decode cX0_seekLeftOut 35 = .ok (.iload_n 1, 1) := by decide +kernel
theorem dX0_seekLeftOut_36 : decode cX0_seekLeftOut 36 = .ok (.if_icmp .gt 28, 3) := by decide +kernel
theorem dX0_seekLeftOut_39 : decode cX0_seekLeftOut 39 = .ok (.aload_n 0, 1) := by decide +kernel
theorem dX0_seekLeftOut_40 : decode cX0_seekLeftOut 40 = .ok (.iload_n 1, 1) := by decide +kernel
theorem dX0_seekLeftOut_41 : decode cX0_seekLeftOut 41 = .ok (.iload_n 3, 1) := by decide +kernel
theorem dX0_seekLeftOut_42 : decode cX0_seekLeftOut 42 = .ok (.iconst (-1), 1) := by decide +kernel
theorem dX0_seekLeftOut_43 : decode cX0_seekLeftOut 43 = .ok (.ixor, 1) := by decide +kernel
theorem dX0_seekLeftOut_44 : decode cX0_seekLeftOut 44 = .ok (.iand, 1) := by decide +kernel
theorem dX0_seekLeftOut_45 : decode cX0_seekLeftOut 45 = .ok (.invokevirtual 61, 3) := by decide +kernel
theorem dX0_seekLeftOut_48 : decode cX0_seekLeftOut 48 = .ok (.ifCond .eq 5, 3) := by decide +kernel
theorem dX0_seekLeftOut_51 : decode cX0_seekLeftOut 51 = .ok (.iload_n 3, 1) := by decide +kernel
theorem dX0_seekLeftOut_52 : decode cX0_seekLeftOut 52 = .ok (.ireturn, 1) := by decide +kernel
theorem dX0_seekLeftOut_53 : decode cX0_seekLeftOut 53 = .ok (.iload_n 3, 1) := by decide +kernel
theorem dX0_seekLeftOut_54 : decode cX0_seekLeftOut 54 = .ok (.invokestatic 145, 3) := by decide +kernel
theorem dX0_seekLeftOut_57 : decode cX0_seekLeftOut 57 = .ok (.istore_n 3, 1) := by decide +kernel
theorem dX0_seekLeftOut_58 : decode cX0_seekLeftOut 58 = .ok (.iinc 4 1, 3) := by decide +kernel
theorem dX0_seekLeftOut_61 : decode cX0_seekLeftOut 61 = .ok (.goto (-35), 3) := by decide +kernel
theorem dX0_seekLeftOut_64 : decode cX0_seekLeftOut 64 = .ok (.iinc 2 1, 3) := by decide +kernel
theorem dX0_seekLeftOut_67 : decode cX0_seekLeftOut 67 = .ok (.goto (-55), 3) := by decide +kernel
theorem dX0_seekLeftOut_70 : decode cX0_seekLeftOut 70 = .ok (.bipush (-5), 2) := by decide +kernel
theorem dX0_seekLeftOut_72 : decode cX0_seekLeftOut 72 = .ok (.ireturn, 1) := by decide +kernel
theorem dX0_nextOfAsManyBits_0 : decode cX0_nextOfAsManyBits 0 = .ok (.iload_n 0, 1) := by decide +kernel
theorem dX0_nextOfAsManyBits_1 : decode cX0_nextOfAsManyBits 1 = .ok (.iload_n 0, 1) := by decide +kernel
theorem dX0_nextOfAsManyBits_2 : decode cX0_nextOfAsManyBits 2 = .ok (.ineg, 1) := by decide +kernel
theorem dX0_nextOfAsManyBits_3 : decode cX0_nextOfAsManyBits 3 = .ok (.iand, 1) := by decide +kernel
theorem dX0_nextOfAsManyBits_4 : decode cX0_nextOfAsManyBits 4 = .ok (.istore_n 1, 1) := by decide +kernel
theorem dX0_nextOfAsManyBits_5 : decode cX0_nextOfAsManyBits 5 = .ok (.iload_n 0, 1) := by decide +kernel
theorem dX0_nextOfAsManyBits_6 : decode cX0_nextOfAsManyBits 6 = .ok (.iload_n 1, 1) := by decide +kernel
theorem dX0_nextOfAsManyBits_7 : decode cX0_nextOfAsManyBits 7 = .ok (.iadd, 1) := by decide +kernel
theorem dX0_nextOfAsManyBits_8 : decode cX0_nextOfAsManyBits 8 = .ok (.istore_n 2, 1) := by decide +kernel
theorem dX0_nextOfAsManyBits_9 : decode cX0_nextOfAsManyBits 9 = .ok (.iload_n 2, 1) := by decide +kernel
theorem dX0_nextOfAsManyBits_10 : decode cX0_nextOfAsManyBits 10 = .ok (.iload_n 0, 1) := by decide +kernel
theorem dX0_nextOfAsManyBits_11 : decode cX0_nextOfAsManyBits 11 = .ok (.iload_n 2, 1) := by decide +kernel
theorem dX0_nextOfAsManyBits_12 : decode cX0_nextOfAsManyBits 12 = .ok (.ixor, 1) := by decide +kernel
theorem dX0_nextOfAsManyBits_13 : decode cX0_nextOfAsManyBits 13 = .ok (.iload_n 0, 1) := by decide +kernel
theorem dX0_nextOfAsManyBits_14 : decode cX0_nextOfAsManyBits 14 = .ok (.invokestatic 148, 3) := by decide +kernel
theorem dX0_nextOfAsManyBits_17 : decode cX0_nextOfAsManyBits 17 = .ok (.iconst 2, 1) := by decide +kernel
theorem dX0_nextOfAsManyBits_18 : decode cX0_nextOfAsManyBits 18 = .ok (.iadd, 1) := by decide +kernel
theorem dX0_nextOfAsManyBits_19 : decode cX0_nextOfAsManyBits 19 = .ok (.ishr, 1) := by decide +kernel
theorem dX0_nextOfAsManyBits_20 : decode cX0_nextOfAsManyBits 20 = .ok (.ior, 1) := by decide +kernel
theorem dX0_nextOfAsManyBits_21 : decode cX0_nextOfAsManyBits 21 = .ok (.ireturn, 1) := by decide +kernel
theorem dX0_join_0 : decode cX0_join 0 = .ok (.aload_n 0, 1) := by decide +kernel
theorem dX0_join_1 : decode cX0_join 1 = .ok (.getfield 11, 3) := by decide +kernel
theorem dX0_join_4 : decode cX0_join 4 = .ok (.iconst 0, 1) := by decide +kernel
theorem dX0_join_5 : decode cX0_join 5 = .ok (.invokestatic 153, 3) := by decide +kernel
theorem dX0_join_8 : decode cX0_join 8 = .ok (.aload_n 0, 1) := by decide +kernel
theorem dX0_join_9 : decode cX0_join 9 = .ok (.getfield 15, 3) := by decide +kernel
theorem dX0_join_12 : decode cX0_join 12 = .ok (.sipush 999, 3) := by decide +kernel
theorem dX0_join_15 : decode cX0_join 15 = .ok (.invokestatic 153, 3) := by decide +kernel
theorem dX0_join_18 : decode cX0_join 18 = .ok (.iconst 0, 1) := by decide +kernel
theorem dX0_join_19 : decode cX0_join 19 = .ok (.istore_n 2, 1) := by decide +kernel
theorem dX0_join_20 : decode cX0_join 20 = .ok (.iload_n 2, 1) := by decide +kernel
theorem dX0_join_21 : decode cX0_join 21 = .ok (.aload_n 0, 1) := by decide +kernel
theorem dX0_join_22 : decode cX0_join 22 = .ok (.getfield 142, 3) := by decide +kernel
theorem dX0_join_25 : decode cX0_join 25 = .ok (.if_icmp .ge 66, 3) := by decide +kernel
theorem dX0_join_28 : decode cX0_join 28 = .ok (.iload_n 1, 1) := by decide +kernel
theorem dX0_join_29 : decode cX0_join 29 = .ok (.iload_n 2, 1) := by decide +kernel
theorem dX0_join_30 : decode cX0_join 30 = .ok (.ishr, 1) := by decide +kernel
theorem dX0_join_31 : decode cX0_join 31 = .ok (.iconst 1, 1) := by decide +kernel
theorem dX0_join_32 : decode cX0_join 32 = .ok (.iand, 1) := by decide +kernel
theorem dX0_join_33 : decode cX0_join 33 = .ok (.ifCond .eq 52, 3) := by decide +kernel
theorem dX0_join_36 : decode cX0_join 36 = .ok (.aload_n 0, 1) := by decide +kernel
theorem dX0_join_37 : decode cX0_join 37 = .ok (.getfield 24, 3) := by decide +kernel
theorem dX0_join_40 : decode cX0_join 40 = .ok (.iload_n 2, 1) := by decide +kernel
theorem dX0_join_41 : decode cX0_join 41 = .ok (.iaload, 1) := by decide +kernel
theorem dX0_join_42 : decode cX0_join 42 = .ok (.istore_n 3, 1) := by decide +kernel
theorem dX0_join_43 : decode cX0_join 43 = .ok (.aload_n 0, 1) := by decide +kernel
theorem dX0_join_44 : decode cX0_join 44 = .ok (.getfield 11, 3) := by decide +kernel
theorem dX0_join_47 : decode cX0_join 47 = .ok (.iload_n 3, 1) := by decide +kernel
theorem dX0_join_48 : decode cX0_join 48 = .ok (.aload_n 0, 1) := by decide +kernel
theorem dX0_join_49 : decode cX0_join 49 = .ok (.getfield 11, 3) := by decide +kernel
theorem dX0_join_52 : decode cX0_join 52 = .ok (.iload_n 3, 1) := by decide +kernel
theorem dX0_join_53 : decode cX0_join 53 = .ok (.iaload, 1) := by decide +kernel
theorem dX0_join_54 : decode cX0_join 54 = .ok (.aload_n 0, 1) := by decide +kernel
theorem dX0_join_55 : decode cX0_join 55 = .ok (.getfield 30, 3) := by decide +kernel
theorem dX0_join_58 : decode cX0_join 58 = .ok (.iload_n 2, 1) := by decide +kernel
theorem dX0_join_59 : decode cX0_join 59 = .ok (.iaload, 1) := by decide +kernel
theorem dX0_join_60 : decode cX0_join 60 = .ok (.invokestatic 118, 3) := by decide +kernel
theorem dX0_join_63 : decode cX0_join 63 = .ok (.iastore, 1) := by decide +kernel
theorem dX0_join_64 : decode cX0_join 64 = .ok (.aload_n 0, 1) := by decide +kernel
theorem dX0_join_65 : decode cX0_join 65 = .ok (.getfield 15, 3) := by decide +kernel
theorem dX0_join_68 : decode cX0_join 68 = .ok (.iload_n 3, 1) := by decide +kernel
theorem dX0_join_69 : decode cX0_join 69 = .ok (.aload_n 0, 1) := by decide +kernel
theorem dX0_join_70 : decode cX0_join 70 = .ok (.getfield 15, 3) := by decide +kernel
theorem dX0_join_73 : decode cX0_join 73 = .ok (.iload_n 3, 1) := by decide +kernel
theorem dX0_join_74 : decode cX0_join 74 = .ok (.iaload, 1) := by decide +kernel
theorem dX0_join_75 : decode cX0_join 75 = .ok (.aload_n 0, 1) := by decide +kernel
theorem dX0_join_76 : decode cX0_join 76 = .ok (.getfield 33, 3) := by decide +kernel
theorem dX0_join_79 : decode cX0_join 79 = .ok (.iload_n 2, 1) := by decide +kernel
theorem dX0_join_80 : decode cX0_join 80 = .ok (.iaload, 1) := by decide +kernel
theorem dX0_join_81 : decode cX0_join 81 = .ok (.invokestatic 136, 3) := by decide +kernel
theorem dX0_join_84 : decode cX0_join 84 = .ok (.iastore, 1) := by decide +kernel
theorem dX0_join_85 : decode cX0_join 85 = .ok (.iinc 2 1, 3) := by decide +kernel
theorem dX0_join_88 : decode cX0_join 88 = .ok (.goto (-68), 3) := by decide +kernel
theorem dX0_join_91 : decode cX0_join 91 = .ok (.iconst 1, 1) := by decide +kernel
theorem dX0_join_92 : decode cX0_join 92 = .ok (.istore_n 2, 1) := by decide +kernel
theorem dX0_join_93 : decode cX0_join 93 = .ok (.iconst 0, 1) := by decide +kernel
theorem dX0_join_94 : decode cX0_join 94 = .ok (.istore_n 3, 1) := by decide +kernel
theorem dX0_join_95 : decode cX0_join 95 = .ok (.iload_n 3, 1) := by decide +kernel
theorem dX0_join_96 : decode cX0_join 96 = .ok (.bipush 8, 2) := by decide +kernel
theorem dX0_join_98 : decode cX0_join 98 = .ok (.if_icmp .ge 19, 3) := by decide +kernel
theorem dX0_join_101 : decode cX0_join 101 = .ok (.iload_n 2, 1) := by decide +kernel
theorem dX0_join_102 : decode cX0_join 102 = .ok (.ifCond .eq 15, 3) := by decide +kernel
theorem dX0_join_105 : decode cX0_join 105 = .ok (.aload_n 0, 1) := by decide +kernel
theorem dX0_join_106 : decode cX0_join 106 = .ok (.iload_n 1, 1) := by decide +kernel
theorem dX0_join_107 : decode cX0_join 107 = .ok (.invokevirtual 159, 3) := by decide +kernel
theorem dX0_join_110 : decode cX0_join 110 = .ok (.istore_n 2, 1) := by decide +kernel
theorem dX0_join_111 : decode cX0_join 111 = .ok (.iinc 3 1, 3) := by decide +kernel
theorem dX0_join_114 : decode cX0_join 114 = .ok (.goto (-19), 3) := by decide +kernel
theorem dX0_join_117 : decode cX0_join 117 = .ok (.iload_n 2, 1) := by decide +kernel
theorem dX0_join_118 : decode cX0_join 118 = .ok (.ifCond .ne 14, 3) := by decide +kernel
theorem dX0_join_121 : decode cX0_join 121 = .ok (.aload_n 0, 1) := by decide +kernel
theorem dX0_join_122 : decode cX0_join 122 = .ok (.invokevirtual 162, 3) := by decide +kernel
theorem dX0_join_125 : decode cX0_join 125 = .ok (.ifCond .eq 7, 3) := by decide +kernel
theorem dX0_join_128 : decode cX0_join 128 = .ok (.iconst 1, 1) := by decide +kernel
theorem dX0_join_129 : decode cX0_join 129 = .ok (.goto 4, 3) := by decide +kernel
theorem dX0_join_132 : decode cX0_join 132 = .ok (.iconst 0, 1) := by decide +kernel
theorem dX0_join_133 : decode cX0_join 133 = .ok (.ireturn, 1) := by decide +kernel
theorem dX0_moveByCuts_0 : decode cX0_moveByCuts 0 = .ok (.iconst 0, 1) := by decide +kernel
theorem dX0_moveByCuts_1 : decode cX0_moveByCuts 1 = .ok (.istore_n 2, 1) := by decide +kernel
theorem dX0_moveByCuts_2 : decode cX0_moveByCuts 2 = .ok (.iconst 0, 1) := by decide +kernel
theorem dX0_moveByCuts_3 : decode cX0_moveByCuts 3 = .ok (.istore_n 3, 1) := by decide +kernel
theorem dX0_moveByCuts_4 : decode cX0_moveByCuts 4 = .ok (.iload_n 3, 1) := by decide +kernel
theorem dX0_moveByCuts_5 : decode cX0_moveByCuts 5 = .ok (.aload_n 0, 1) := by decide +kernel
theorem dX0_moveByCuts_6 : decode cX0_moveByCuts 6 = .ok (.getfield 142, 3) := by decide +kernel
theorem dX0_moveByCuts_9 : decode cX0_moveByCuts 9 = .ok (.if_icmp .ge 109, 3) := by decide +kernel
theorem dX0_moveByCuts_12 : decode cX0_moveByCuts 12 = .ok (.aload_n 0, 1) := by decide +kernel
theorem dX0_moveByCuts_13 : decode cX0_moveByCuts 13 = .ok (.getfield 27, 3) := by decide +kernel
theorem dX0_moveByCuts_16 : decode cX0_moveByCuts 16 = .ok (.iload_n 3, 1) := by decide +kernel
theorem dX0_moveByCuts_17 : decode cX0_moveByCuts 17 = .ok (.iaload, 1) := by decide +kernel
theorem dX0_moveByCuts_18 : decode cX0_moveByCuts 18 = .ok (.istore 4, 2) := by decide +kernel
theorem dX0_moveByCuts_20 : decode cX0_moveByCuts 20 = .ok (.iload_n 1, 1) := by decide +kernel
theorem dX0_moveByCuts_21 : decode cX0_moveByCuts 21 = .ok (.iload_n 3, 1) := by decide +kernel
theorem dX0_moveByCuts_22 : decode cX0_moveByCuts 22 = .ok (.ishr, 1) := by decide +kernel
theorem dX0_moveByCuts_23 : decode cX0_moveByCuts 23 = .ok (.iconst 1, 1) := by decide +kernel
theorem dX0_moveByCuts_24 : decode cX0_moveByCuts 24 = .ok (.iand, 1) := by decide +kernel
theorem dX0_moveByCuts_25 : decode cX0_moveByCuts 25 = .ok (.ifCond .eq 87, 3) := by decide +kernel
theorem dX0_moveByCuts_28 : decode cX0_moveByCuts 28 = .ok (.iload 4, 2) := by decide +kernel
theorem dX0_moveByCuts_30 : decode cX0_moveByCuts 30 = .ok (.iconst (-1), 1) := by decide +kernel
theorem dX0_moveByCuts_31 : decode cX0_moveByCuts 31 = .ok (.if_icmp .eq 81, 3) := by decide +kernel
theorem dX0_moveByCuts_34 : decode cX0_moveByCuts 34 = .ok (.aload_n 0, 1) := by decide +kernel
theorem dX0_moveByCuts_35 : decode cX0_moveByCuts 35 = .ok (.getfield 24, 3) := by decide +kernel
theorem dX0_moveByCuts_38 : decode cX0_moveByCuts 38 = .ok (.iload_n 3, 1) := by decide +kernel
theorem dX0_moveByCuts_39 : decode cX0_moveByCuts 39 = .ok (.iaload, 1) := by decide +kernel
theorem dX0_moveByCuts_40 : decode cX0_moveByCuts 40 = .ok (.istore 5, 2) := by decide +kernel
theorem dX0_moveByCuts_42 : decode cX0_moveByCuts 42 = .ok (.aload_n 0, 1) := by decide +kernel
theorem dX0_moveByCuts_43 : decode cX0_moveByCuts 43 = .ok (.getfield 11, 3) := by decide +kernel
theorem dX0_moveByCuts_46 : decode cX0_moveByCuts 46 = .ok (.iload 4, 2) := by decide +kernel
theorem dX0_moveByCuts_48 : decode cX0_moveByCuts 48 = .ok (.iaload, 1) := by decide +kernel
theorem dX0_moveByCuts_49 : decode cX0_moveByCuts 49 = .ok (.aload_n 0, 1) := by decide +kernel
theorem dX0_moveByCuts_50 : decode cX0_moveByCuts 50 = .ok (.getfield 11, 3) := by decide +kernel
theorem dX0_moveByCuts_53 : decode cX0_moveByCuts 53 = .ok (.iload 5, 2) := by decide +kernel
theorem dX0_moveByCuts_55 : decode cX0_moveByCuts 55 = .ok (.iaload, 1) := by decide +kernel
theorem dX0_moveByCuts_56 : decode cX0_moveByCuts 56 = .ok (.if_icmp .gt 21, 3) := by decide +kernel
theorem dX0_moveByCuts_59 : decode cX0_moveByCuts 59 = .ok (.aload_n 0, 1) := by decide +kernel
theorem dX0_moveByCuts_60 : decode cX0_moveByCuts 60 = .ok (.getfield 11, 3) := by decide +kernel
theorem dX0_moveByCuts_63 : decode cX0_moveByCuts 63 = .ok (.iload 4, 2) := by decide +kernel
theorem dX0_moveByCuts_65 : decode cX0_moveByCuts 65 = .ok (.aload_n 0, 1) := by decide +kernel
theorem dX0_moveByCuts_66 : decode cX0_moveByCuts 66 = .ok (.getfield 11, 3) := by decide +kernel
theorem dX0_moveByCuts_69 : decode cX0_moveByCuts 69 = .ok (.iload 5, 2) := by decide +kernel
theorem dX0_moveByCuts_71 : decode cX0_moveByCuts 71 = .ok (.iaload, 1) := by decide +kernel
theorem dX0_moveByCuts_72 : decode cX0_moveByCuts 72 = .ok (.iconst 1, 1) := by decide +kernel
theorem dX0_moveByCuts_73 : decode cX0_moveByCuts 73 = .ok (.iadd, 1) := by decide +kernel
theorem dX0_moveByCuts_74 : decode cX0_moveByCuts 74 = .ok (.iastore, 1) := by decide +kernel
theorem dX0_moveByCuts_75 : decode cX0_moveByCuts 75 = .ok (.iconst 1, 1) := by decide +kernel
theorem dX0_moveByCuts_76 : decode cX0_moveByCuts 76 = .ok (.istore_n 2, 1) := by decide +kernel
theorem dX0_moveByCuts_77 : decode cX0_moveByCuts 77 = .ok (.aload_n 0, 1) := by decide +kernel
theorem dX0_moveByCuts_78 : decode cX0_moveByCuts 78 = .ok (.getfield 15, 3) := by decide +kernel
theorem dX0_moveByCuts_81 : decode cX0_moveByCuts 81 = .ok (.iload 5, 2) := by decide +kernel
theorem dX0_moveByCuts_83 : decode cX0_moveByCuts 83 = .ok (.iaload, 1) := by decide +kernel
theorem dX0_moveByCuts_84 : decode cX0_moveByCuts 84 = .ok (.aload_n 0, 1) := by decide +kernel
theorem dX0_moveByCuts_85 : decode cX0_moveByCuts 85 = .ok (.getfield 15, 3) := by decide +kernel
theorem dX0_moveByCuts_88 : decode cX0_moveByCuts 88 = .ok (.iload 4, 2) := by decide +kernel
theorem dX0_moveByCuts_90 : decode cX0_moveByCuts 90 = .ok (.iaload, 1) := by decide +kernel
theorem dX0_moveByCuts_91 : decode cX0_moveByCuts 91 = .ok (.if_icmp .lt 21, 3) := by decide +kernel
theorem dX0_moveByCuts_94 : decode cX0_moveByCuts 94 = .ok (.aload_n 0, 1) := by decide +kernel
theorem dX0_moveByCuts_95 : decode cX0_moveByCuts 95 = .ok (.getfield 15, 3) := by decide +kernel
theorem dX0_moveByCuts_98 : decode cX0_moveByCuts 98 = .ok (.iload 5, 2) := by decide +kernel
theorem dX0_moveByCuts_100 : decode cX0_moveByCuts 100 = .ok (.aload_n 0, 1) := by decide +kernel
theorem dX0_moveByCuts_101 : decode cX0_moveByCuts 101 = .ok (.getfield 15, 3) := by decide +kernel
theorem dX0_moveByCuts_104 : decode cX0_moveByCuts 104 = .ok (.iload 4, 2) := by decide +kernel
theorem dX0_moveByCuts_106 : decode cX0_moveByCuts 106 = .ok (.iaload, 1) := by decide +kernel
theorem dX0_moveByCuts_107 : decode cX0_moveByCuts 107 = .ok (.iconst 1, 1) := by decide +kernel
theorem dX0_moveByCuts_108 : decode cX0_moveByCuts 108 = .ok (.isub, 1) := by decide +kernel
theorem dX0_moveByCuts_109 : decode cX0_moveByCuts 109 = .ok (.iastore, 1) := by decide +kernel
theorem dX0_moveByCuts_110 : decode cX0_moveByCuts 110 = .ok (.iconst 1, 1) := by decide +kernel
theorem dX0_moveByCuts_111 : decode cX0_moveByCuts 111 = .ok (.istore_n 2, 1) := by decide +kernel
theorem dX0_moveByCuts_112 : decode cX0_moveByCuts 112 = .ok (.iinc 3 1, 3) := by decide +kernel
theorem dX0_moveByCuts_115 : decode cX0_moveByCuts 115 = .ok (.goto (-111), 3) := by decide +kernel
theorem dX0_moveByCuts_118 : decode cX0_moveByCuts 118 = .ok (.iload_n 2, 1) := by decide +kernel
theorem dX0_moveByCuts_119 : decode cX0_moveByCuts 119 = .ok (.ireturn, 1) := by decide +kernel
theorem dX0_haveAllAges_0 : decode cX0_haveAllAges 0 = .ok (.iconst 0, 1) := by decide +kernel
theorem dX0_haveAllAges_1 : decode cX0_haveAllAges 1 = .ok (.istore_n 1, 1) := by decide +kernel
theorem dX0_haveAllAges_2 : decode cX0_haveAllAges 2 = .ok (.iload_n 1, 1) := by decide +kernel
theorem dX0_haveAllAges_3 : decode cX0_haveAllAges 3 = .ok (.bipush 8, 2) := by decide +kernel
theorem dX0_haveAllAges_5 : decode cX0_haveAllAges 5 = .ok (.if_icmp .ge 26, 3) := by decide +kernel
theorem dX0_haveAllAges_8 : decode cX0_haveAllAges 8 = .ok (.aload_n 0, 1) := by decide +kernel
theorem dX0_haveAllAges_9 : decode cX0_haveAllAges 9 = .ok (.getfield 11, 3) := by decide +kernel
theorem dX0_haveAllAges_12 : decode cX0_haveAllAges 12 = .ok (.iload_n 1, 1) := by decide +kernel
theorem dX0_haveAllAges_13 : decode cX0_haveAllAges 13 = .ok (.iaload, 1) := by decide +kernel
theorem dX0_haveAllAges_14 : decode cX0_haveAllAges 14 = .ok (.aload_n 0, 1) := by decide +kernel
theorem dX0_haveAllAges_15 : decode cX0_haveAllAges 15 = .ok (.getfield 15, 3) := by decide +kernel
theorem dX0_haveAllAges_18 : decode cX0_haveAllAges 18 = .ok (.iload_n 1, 1) := by decide +kernel
theorem dX0_haveAllAges_19 : decode cX0_haveAllAges 19 = .ok (.iaload, 1) := by decide +kernel
theorem dX0_haveAllAges_20 : decode cX0_haveAllAges 20 = .ok (.if_icmp .le 5, 3) := by decide +kernel
theorem dX0_haveAllAges_23 : decode cX0_haveAllAges 23 = .ok (.iconst 0, 1) := by decide +kernel
theorem dX0_haveAllAges_24 : decode cX0_haveAllAges 24 = .ok (.ireturn, 1) := by decide +kernel
theorem dX0_haveAllAges_25 : decode cX0_haveAllAges 25 = .ok (.iinc 1 1, 3) := by decide +kernel
theorem dX0_haveAllAges_28 : decode cX0_haveAllAges 28 = .ok (.goto (-26), 3) := by decide +kernel
theorem dX0_haveAllAges_31 : decode cX0_haveAllAges 31 = .ok (.iconst 1, 1) := by decide +kernel
theorem dX0_haveAllAges_32 : decode cX0_haveAllAges 32 = .ok (.ireturn, 1) := by decide +kernel
theorem dX0_countCuts_0 : decode cX0_countCuts 0 = .ok (.aload_n 0, 1) := by decide +kernel
theorem dX0_countCuts_1 : decode cX0_countCuts 1 = .ok (.getfield 36, 3) := by decide +kernel
theorem dX0_countCuts_4 : decode cX0_countCuts 4 = .ok (.iconst 0, 1) := by decide +kernel
theorem dX0_countCuts_5 : decode cX0_countCuts 5 = .ok (.invokestatic 153, 3) := by decide +kernel
theorem dX0_countCuts_8 : decode cX0_countCuts 8 = .ok (.iconst 0, 1) := by decide +kernel
theorem dX0_countCuts_9 : decode cX0_countCuts 9 = .ok (.istore_n 2, 1) := by decide +kernel
theorem dX0_countCuts_10 : decode cX0_countCuts 10 = .ok (.iload_n 2, 1) := by decide +kernel
theorem dX0_countCuts_11 : decode cX0_countCuts 11 = .ok (.aload_n 0, 1) := by decide +kernel
theorem dX0_countCuts_12 : decode cX0_countCuts 12 = .ok (.getfield 142, 3) := by decide +kernel
theorem dX0_countCuts_15 : decode cX0_countCuts 15 = .ok (.if_icmp .ge 49, 3) := by decide +kernel
theorem dX0_countCuts_18 : decode cX0_countCuts 18 = .ok (.iload_n 1, 1) := by decide +kernel
theorem dX0_countCuts_19 : decode cX0_countCuts 19 = .ok (.iload_n 2, 1) := by decide +kernel
theorem dX0_countCuts_20 : decode cX0_countCuts 20 = .ok (.ishr, 1) := by decide +kernel
theorem dX0_countCuts_21 : decode cX0_countCuts 21 = .ok (.iconst 1, 1) := by decide +kernel
theorem dX0_countCuts_22 : decode cX0_countCuts 22 = .ok (.iand, 1) := by decide +kernel
theorem dX0_countCuts_23 : decode cX0_countCuts 23 = .ok (.ifCond .eq 35, 3) := by decide +kernel
theorem dX0_countCuts_26 : decode cX0_countCuts 26 = .ok (.aload_n 0, 1) := by decide +kernel
theorem dX0_countCuts_27 : decode cX0_countCuts 27 = .ok (.getfield 27, 3) := by decide +kernel
theorem dX0_countCuts_30 : decode cX0_countCuts 30 = .ok (.iload_n 2, 1) := by decide +kernel
theorem dX0_countCuts_31 : decode cX0_countCuts 31 = .ok (.iaload, 1) := by decide +kernel
theorem dX0_countCuts_32 : decode cX0_countCuts 32 = .ok (.iconst (-1), 1) := by decide +kernel
theorem dX0_countCuts_33 : decode cX0_countCuts 33 = .ok (.if_icmp .eq 25, 3) := by decide +kernel
theorem dX0_countCuts_36 : decode cX0_countCuts 36 = .ok (.aload_n 0, 1) := by decide +kernel
theorem dX0_countCuts_37 : decode cX0_countCuts 37 = .ok (.getfield 36, 3) := by decide +kernel
theorem dX0_countCuts_40 : decode cX0_countCuts 40 = .ok (.bipush 8, 2) := by decide +kernel
theorem dX0_countCuts_42 : decode cX0_countCuts 42 = .ok (.aload_n 0, 1) := by decide +kernel
theorem dX0_countCuts_43 : decode cX0_countCuts 43 = .ok (.getfield 24, 3) := by decide +kernel
theorem dX0_countCuts_46 : decode cX0_countCuts 46 = .ok (.iload_n 2, 1) := by decide +kernel
theorem dX0_countCuts_47 : decode cX0_countCuts 47 = .ok (.iaload, 1) := by decide +kernel
theorem dX0_countCuts_48 : decode cX0_countCuts 48 = .ok (.imul, 1) := by decide +kernel
theorem dX0_countCuts_49 : decode cX0_countCuts 49 = .ok (.aload_n 0, 1) := by decide +kernel
theorem dX0_countCuts_50 : decode cX0_countCuts 50 = .ok (.getfield 27, 3) := by decide +kernel
theorem dX0_countCuts_53 : decode cX0_countCuts 53 = .ok (.iload_n 2, 1) := by decide +kernel
theorem dX0_countCuts_54 : decode cX0_countCuts 54 = .ok (.iaload, 1) := by decide +kernel
theorem dX0_countCuts_55 : decode cX0_countCuts 55 = .ok (.iadd, 1) := by decide +kernel
theorem dX0_countCuts_56 : decode cX0_countCuts 56 = .ok (.iconst 1, 1) := by decide +kernel
theorem dX0_countCuts_57 : decode cX0_countCuts 57 = .ok (.iastore, 1) := by decide +kernel
theorem dX0_countCuts_58 : decode cX0_countCuts 58 = .ok (.iinc 2 1, 3) := by decide +kernel
theorem dX0_countCuts_61 : decode cX0_countCuts 61 = .ok (.goto (-51), 3) := by decide +kernel
theorem dX0_countCuts_64 : decode cX0_countCuts 64 = .ok (.iconst 0, 1) := by decide +kernel
theorem dX0_countCuts_65 : decode cX0_countCuts 65 = .ok (.istore_n 2, 1) := by decide +kernel
theorem dX0_countCuts_66 : decode cX0_countCuts 66 = .ok (.iload_n 2, 1) := by decide +kernel
theorem dX0_countCuts_67 : decode cX0_countCuts 67 = .ok (.bipush 8, 2) := by decide +kernel
theorem dX0_countCuts_69 : decode cX0_countCuts 69 = .ok (.if_icmp .ge 98, 3) := by decide +kernel
theorem dX0_countCuts_72 : decode cX0_countCuts 72 = .ok (.iconst 0, 1) := by decide +kernel
theorem dX0_countCuts_73 : decode cX0_countCuts 73 = .ok (.istore_n 3, 1) := by decide +kernel
theorem dX0_countCuts_74 : decode cX0_countCuts 74 = .ok (.iload_n 3, 1) := by decide +kernel
theorem dX0_countCuts_75 : decode cX0_countCuts 75 = .ok (.bipush 8, 2) := by decide +kernel
theorem dX0_countCuts_77 : decode cX0_countCuts 77 = .ok (.if_icmp .ge 84, 3) := by decide +kernel
theorem dX0_countCuts_80 : decode cX0_countCuts 80 = .ok (.iconst 0, 1) := by decide +kernel
theorem dX0_countCuts_81 : decode cX0_countCuts 81 = .ok (.istore 4, 2) := by decide +kernel
theorem dX0_countCuts_83 : decode cX0_countCuts 83 = .ok (.iload 4, 2) := by decide +kernel
theorem dX0_countCuts_85 : decode cX0_countCuts 85 = .ok (.bipush 8, 2) := by decide +kernel
theorem dX0_countCuts_87 : decode cX0_countCuts 87 = .ok (.if_icmp .ge 68, 3) := by decide +kernel
theorem dX0_countCuts_90 : decode cX0_countCuts 90 = .ok (.aload_n 0, 1) := by decide +kernel
theorem dX0_countCuts_91 : decode cX0_countCuts 91 = .ok (.iload_n 3, 1) := by decide +kernel
theorem dX0_countCuts_92 : decode cX0_countCuts 92 = .ok (.iload_n 2, 1) := by decide +kernel
theorem dX0_countCuts_93 : decode cX0_countCuts 93 = .ok (.invokevirtual 104, 3) := by decide +kernel
theorem dX0_countCuts_96 : decode cX0_countCuts 96 = .ok (.ifCond .le 53, 3) := by decide +kernel
theorem dX0_countCuts_99 : decode cX0_countCuts 99 = .ok (.aload_n 0, 1) := by decide +kernel
theorem dX0_countCuts_100 : decode cX0_countCuts 100 = .ok (.iload_n 2, 1) := by decide +kernel
theorem dX0_countCuts_101 : decode cX0_countCuts 101 = .ok (.iload 4, 2) := by decide +kernel
theorem dX0_countCuts_103 : decode cX0_countCuts 103 = .ok (.invokevirtual 104, 3) := by decide +kernel
theorem dX0_countCuts_106 : decode cX0_countCuts 106 = .ok (.ifCond .le 43, 3) := by decide +kernel
theorem dX0_countCuts_109 : decode cX0_countCuts 109 = .ok (.aload_n 0, 1) := by decide +kernel
theorem dX0_countCuts_110 : decode cX0_countCuts 110 = .ok (.iload_n 3, 1) := by decide +kernel
theorem dX0_countCuts_111 : decode cX0_countCuts 111 = .ok (.iload_n 2, 1) := by decide +kernel
theorem dX0_countCuts_112 : decode cX0_countCuts 112 = .ok (.invokevirtual 104, 3) := by decide +kernel
theorem dX0_countCuts_115 : decode cX0_countCuts 115 = .ok (.aload_n 0, 1) := by decide +kernel
theorem dX0_countCuts_116 : decode cX0_countCuts 116 = .ok (.iload_n 2, 1) := by decide +kernel
theorem dX0_countCuts_117 : decode cX0_countCuts 117 = .ok (.iload 4, 2) := by decide +kernel
theorem dX0_countCuts_119 : decode cX0_countCuts 119 = .ok (.invokevirtual 104, 3) := by decide +kernel
theorem dX0_countCuts_122 : decode cX0_countCuts 122 = .ok (.iadd, 1) := by decide +kernel
theorem dX0_countCuts_123 : decode cX0_countCuts 123 = .ok (.istore 5, 2) := by decide +kernel
theorem dX0_countCuts_125 : decode cX0_countCuts 125 = .ok (.aload_n 0, 1) := by decide +kernel
theorem dX0_countCuts_126 : decode cX0_countCuts 126 = .ok (.getfield 36, 3) := by decide +kernel
theorem dX0_countCuts_129 : decode cX0_countCuts 129 = .ok (.bipush 8, 2) := by decide +kernel
theorem dX0_countCuts_131 : decode cX0_countCuts 131 = .ok (.iload_n 3, 1) := by decide +kernel
theorem dX0_countCuts_132 : decode cX0_countCuts 132 = .ok (.imul, 1) := by decide +kernel
theorem dX0_countCuts_133 : decode cX0_countCuts 133 = .ok (.iload 4, 2) := by decide +kernel
theorem dX0_countCuts_135 : decode cX0_countCuts 135 = .ok (.iadd, 1) := by decide +kernel
theorem dX0_countCuts_136 : decode cX0_countCuts 136 = .ok (.aload_n 0, 1) := by decide +kernel
theorem dX0_countCuts_137 : decode cX0_countCuts 137 = .ok (.iload_n 3, 1) := by decide +kernel
theorem dX0_countCuts_138 : decode cX0_countCuts 138 = .ok (.iload 4, 2) := by decide +kernel
theorem dX0_countCuts_140 : decode cX0_countCuts 140 = .ok (.invokevirtual 104, 3) := by decide +kernel
theorem dX0_countCuts_143 : decode cX0_countCuts 143 = .ok (.iload 5, 2) := by decide +kernel
theorem dX0_countCuts_145 : decode cX0_countCuts 145 = .ok (.invokestatic 118, 3) := by decide +kernel
theorem dX0_countCuts_148 : decode cX0_countCuts 148 = .ok (.iastore, 1) := by decide +kernel
theorem dX0_countCuts_149 : decode cX0_countCuts 149 = .ok (.iinc 4 1, 3) := by decide +kernel
theorem dX0_countCuts_152 : decode cX0_countCuts 152 = .ok (.goto (-69), 3) := by decide +kernel
theorem dX0_countCuts_155 : decode cX0_countCuts 155 = .ok (.iinc 3 1, 3) := by decide +kernel
theorem dX0_countCuts_158 : decode cX0_countCuts 158 = .ok (.goto (-84), 3) := by decide +kernel
theorem dX0_countCuts_161 : decode cX0_countCuts 161 = .ok (.iinc 2 1, 3) := by decide +kernel
theorem dX0_countCuts_164 : decode cX0_countCuts 164 = .ok (.goto (-98), 3) := by decide +kernel
theorem dX0_countCuts_167 : decode cX0_countCuts 167 = .ok (.return_, 1) := by decide +kernel
theorem dX0_cuts_0 : decode cX0_cuts 0 = .ok (.bipush 8, 2) := by decide +kernel
theorem dX0_cuts_2 : decode cX0_cuts 2 = .ok (.iload_n 1, 1) := by decide +kernel
theorem dX0_cuts_3 : decode cX0_cuts 3 = .ok (.imul, 1) := by decide +kernel
theorem dX0_cuts_4 : decode cX0_cuts 4 = .ok (.iload_n 2, 1) := by decide +kernel
theorem dX0_cuts_5 : decode cX0_cuts 5 = .ok (.iadd, 1) := by decide +kernel
theorem dX0_cuts_6 : decode cX0_cuts 6 = .ok (.istore_n 3, 1) := by decide +kernel
theorem dX0_cuts_7 : decode cX0_cuts 7 = .ok (.iload_n 3, 1) := by decide +kernel
theorem dX0_cuts_8 : decode cX0_cuts 8 = .ok (.ifCond .lt 21, 3) := by decide +kernel
theorem dX0_cuts_11 : decode cX0_cuts 11 = .ok (.iload_n 3, 1) := by decide +kernel
theorem dX0_cuts_12 : decode cX0_cuts 12 = .ok (.aload_n 0, 1) := by decide +kernel
theorem dX0_cuts_13 : decode cX0_cuts 13 = .ok (.getfield 36, 3) := by decide +kernel
theorem dX0_cuts_16 : decode cX0_cuts 16 = .ok (.arraylength, 1) := by decide +kernel
theorem dX0_cuts_17 : decode cX0_cuts 17 = .ok (.if_icmp .ge 12, 3) := by decide +kernel
theorem dX0_cuts_20 : decode cX0_cuts 20 = .ok (.aload_n 0, 1) := by decide +kernel
theorem dX0_cuts_21 : decode cX0_cuts 21 = .ok (.getfield 36, 3) := by decide +kernel
theorem dX0_cuts_24 : decode cX0_cuts 24 = .ok (.iload_n 3, 1) := by decide +kernel
theorem dX0_cuts_25 : decode cX0_cuts 25 = .ok (.iaload, 1) := by decide +kernel
theorem dX0_cuts_26 : decode cX0_cuts 26 = .ok (.goto 4, 3) := by decide +kernel
theorem dX0_cuts_29 : decode cX0_cuts 29 = .ok (.iconst 0, 1) := by decide +kernel
theorem dX0_cuts_30 : decode cX0_cuts 30 = .ok (.ireturn, 1) := by decide +kernel
theorem dX0_spansIfKnown_0 : decode cX0_spansIfKnown 0 = .ok (.iconst 0, 1) := by decide +kernel
theorem dX0_spansIfKnown_1 : decode cX0_spansIfKnown 1 = .ok (.istore 4, 2) := by decide +kernel
theorem dX0_spansIfKnown_3 : decode cX0_spansIfKnown 3 = .ok (.iconst 0, 1) := by decide +kernel
theorem dX0_spansIfKnown_4 : decode cX0_spansIfKnown 4 = .ok (.istore 5, 2) := by decide +kernel
theorem dX0_spansIfKnown_6 : decode cX0_spansIfKnown 6 = .ok (.iload 5, 2) := by decide +kernel
theorem dX0_spansIfKnown_8 : decode cX0_spansIfKnown 8 = .ok (.iload_n 1, 1) := by decide +kernel
theorem dX0_spansIfKnown_9 : decode cX0_spansIfKnown 9 = .ok (.if_icmp .ge 93, 3) := by decide +kernel
theorem dX0_spansIfKnown_12 : decode cX0_spansIfKnown 12 = .ok (.aload_n 0, 1) := by decide +kernel
theorem dX0_spansIfKnown_13 : decode cX0_spansIfKnown 13 = .ok (.iload 5, 2) := by decide +kernel
theorem dX0_spansIfKnown_15 : decode cX0_spansIfKnown 15 = .ok (.invokevirtual 111, 3) := by decide +kernel
theorem dX0_spansIfKnown_18 : decode cX0_spansIfKnown 18 = .ok (.istore 6, 2) := by decide +kernel
theorem dX0_spansIfKnown_20 : decode cX0_spansIfKnown 20 = .ok (.aload_n 0, 1) := by decide +kernel
theorem dX0_spansIfKnown_21 : decode cX0_spansIfKnown 21 = .ok (.iload 5, 2) := by decide +kernel
theorem dX0_spansIfKnown_23 : decode cX0_spansIfKnown 23 = .ok (.invokevirtual 108, 3) := by decide +kernel
theorem dX0_spansIfKnown_26 : decode cX0_spansIfKnown 26 = .ok (.istore 7, 2) := by decide +kernel
theorem dX0_spansIfKnown_28 : decode cX0_spansIfKnown 28 = .ok (.aload_n 0, 1) := by decide +kernel
theorem dX0_spansIfKnown_29 : decode cX0_spansIfKnown 29 = .ok (.iload_n 2, 1) := by decide +kernel
theorem dX0_spansIfKnown_30 : decode cX0_spansIfKnown 30 = .ok (.iload 5, 2) := by decide +kernel
theorem dX0_spansIfKnown_32 : decode cX0_spansIfKnown 32 = .ok (.invokevirtual 104, 3) := by decide +kernel
theorem dX0_spansIfKnown_35 : decode cX0_spansIfKnown 35 = .ok (.ifCond .le 19, 3) := by decide +kernel
theorem dX0_spansIfKnown_38 : decode cX0_spansIfKnown 38 = .ok (.iload 6, 2) := by decide +kernel
theorem dX0_spansIfKnown_40 : decode cX0_spansIfKnown 40 = .ok (.iload_n 3, 1) := by decide +kernel
theorem dX0_spansIfKnown_41 : decode cX0_spansIfKnown 41 = .ok (.aload_n 0, 1) := by decide +kernel
theorem dX0_spansIfKnown_42 : decode cX0_spansIfKnown 42 = .ok (.iload_n 2, 1) := by decide +kernel
theorem dX0_spansIfKnown_43 : decode cX0_spansIfKnown 43 = .ok (.iload 5, 2) := by decide +kernel
theorem dX0_spansIfKnown_45 : decode cX0_spansIfKnown 45 = .ok (.invokevirtual 104, 3) := by decide +kernel
theorem dX0_spansIfKnown_48 : decode cX0_spansIfKnown 48 = .ok (.iadd, 1) := by decide +kernel
theorem dX0_spansIfKnown_49 : decode cX0_spansIfKnown 49 = .ok (.invokestatic 118, 3) := by decide +kernel
theorem dX0_spansIfKnown_52 : decode cX0_spansIfKnown 52 = .ok (.istore 6, 2) := by decide +kernel
theorem dX0_spansIfKnown_54 : decode cX0_spansIfKnown 54 = .ok (.aload_n 0, 1) := by decide +kernel
theorem dX0_spansIfKnown_55 : decode cX0_spansIfKnown 55 = .ok (.iload 5, 2) := by decide +kernel
theorem dX0_spansIfKnown_57 : decode cX0_spansIfKnown 57 = .ok (.iload_n 2, 1) := by decide +kernel
theorem dX0_spansIfKnown_58 : decode cX0_spansIfKnown 58 = .ok (.invokevirtual 104, 3) := by decide +kernel
theorem dX0_spansIfKnown_61 : decode cX0_spansIfKnown 61 = .ok (.ifCond .le 19, 3) := by decide +kernel
theorem dX0_spansIfKnown_64 : decode cX0_spansIfKnown 64 = .ok (.iload 7, 2) := by decide +kernel
theorem dX0_spansIfKnown_66 : decode cX0_spansIfKnown 66 = .ok (.iload_n 3, 1) := by decide +kernel
theorem dX0_spansIfKnown_67 : decode cX0_spansIfKnown 67 = .ok (.aload_n 0, 1) := by decide +kernel
theorem dX0_spansIfKnown_68 : decode cX0_spansIfKnown 68 = .ok (.iload 5, 2) := by decide +kernel
theorem dX0_spansIfKnown_70 : decode cX0_spansIfKnown 70 = .ok (.iload_n 2, 1) := by decide +kernel
theorem dX0_spansIfKnown_71 : decode cX0_spansIfKnown 71 = .ok (.invokevirtual 104, 3) := by decide +kernel
theorem dX0_spansIfKnown_74 : decode cX0_spansIfKnown 74 = .ok (.isub, 1) := by decide +kernel
theorem dX0_spansIfKnown_75 : decode cX0_spansIfKnown 75 = .ok (.invokestatic 136, 3) := by decide +kernel
theorem dX0_spansIfKnown_78 : decode cX0_spansIfKnown 78 = .ok (.istore 7, 2) := by decide +kernel
theorem dX0_spansIfKnown_80 : decode cX0_spansIfKnown 80 = .ok (.iload 5, 2) := by decide +kernel
theorem dX0_spansIfKnown_82 : decode cX0_spansIfKnown 82 = .ok (.iload_n 2, 1) := by decide +kernel
theorem dX0_spansIfKnown_83 : decode cX0_spansIfKnown 83 = .ok (.if_icmp .eq 13, 3) := by decide +kernel
theorem dX0_spansIfKnown_86 : decode cX0_spansIfKnown 86 = .ok (.iload 4, 2) := by decide +kernel
theorem dX0_spansIfKnown_88 : decode cX0_spansIfKnown 88 = .ok (.iload 7, 2) := by decide +kernel
theorem dX0_spansIfKnown_90 : decode cX0_spansIfKnown 90 = .ok (.iload 6, 2) := by decide +kernel
theorem dX0_spansIfKnown_92 : decode cX0_spansIfKnown 92 = .ok (.isub, 1) := by decide +kernel
theorem dX0_spansIfKnown_93 : decode cX0_spansIfKnown 93 = .ok (.iadd, 1) := by decide +kernel
theorem dX0_spansIfKnown_94 : decode cX0_spansIfKnown 94 = .ok (.istore 4, 2) := by decide +kernel
theorem dX0_spansIfKnown_96 : decode cX0_spansIfKnown 96 = .ok (.iinc 5 1, 3) := by decide +kernel
theorem dX0_spansIfKnown_99 : decode cX0_spansIfKnown 99 = .ok (.goto (-93), 3) := by decide +kernel
theorem dX0_spansIfKnown_102 : decode cX0_spansIfKnown 102 = .ok (.iload 4, 2) := by decide +kernel
theorem dX0_spansIfKnown_104 : decode cX0_spansIfKnown 104 = .ok (.ireturn, 1) := by decide +kernel
theorem dX1_init_0 : decode cX1_init 0 = .ok (.aload_n 0, 1) := by decide +kernel
theorem dX1_init_1 : decode cX1_init 1 = .ok (.invokespecial 1, 3) := by decide +kernel
theorem dX1_init_4 : decode cX1_init 4 = .ok (.aload_n 0, 1) := by decide +kernel
theorem dX1_init_5 : decode cX1_init 5 = .ok (.sipush 192, 3) := by decide +kernel
theorem dX1_init_8 : decode cX1_init 8 = .ok (.newarray .int, 2) := by decide +kernel
theorem dX1_init_10 : decode cX1_init 10 = .ok (.putfield 9, 3) := by decide +kernel
theorem dX1_init_13 : decode cX1_init 13 = .ok (.aload_n 0, 1) := by decide +kernel
theorem dX1_init_14 : decode cX1_init 14 = .ok (.new 15, 3) := by decide +kernel
theorem dX1_init_17 : decode cX1_init 17 = .ok (.dup, 1) := by decide +kernel
theorem dX1_init_18 : decode cX1_init 18 = .ok (.bipush 8, 2) := by decide +kernel
theorem dX1_init_20 : decode cX1_init 20 = .ok (.invokespecial 17, 3) := by decide +kernel
theorem dX1_init_23 : decode cX1_init 23 = .ok (.putfield 20, 3) := by decide +kernel
theorem dX1_init_26 : decode cX1_init 26 = .ok (.aload_n 0, 1) := by decide +kernel
theorem dX1_init_27 : decode cX1_init 27 = .ok (.new 15, 3) := by decide +kernel
theorem dX1_init_30 : decode cX1_init 30 = .ok (.dup, 1) := by decide +kernel
theorem dX1_init_31 : decode cX1_init 31 = .ok (.bipush 10, 2) := by decide +kernel
theorem dX1_init_33 : decode cX1_init 33 = .ok (.invokespecial 17, 3) := by decide +kernel
theorem dX1_init_36 : decode cX1_init 36 = .ok (.putfield 24, 3) := by decide +kernel
theorem dX1_init_39 : decode cX1_init 39 = .ok (.aload_n 0, 1) := by decide +kernel
theorem dX1_init_40 : decode cX1_init 40 = .ok (.new 15, 3) := by decide +kernel
theorem dX1_init_43 : decode cX1_init 43 = .ok (.dup, 1) := by decide +kernel
theorem dX1_init_44 : decode cX1_init 44 = .ok (.bipush 10, 2) := by decide +kernel
theorem dX1_init_46 : decode cX1_init 46 = .ok (.invokespecial 17, 3) := by decide +kernel
theorem dX1_init_49 : decode cX1_init 49 = .ok (.putfield 27, 3) := by decide +kernel
theorem dX1_init_52 : decode cX1_init 52 = .ok (.aload_n 0, 1) := by decide +kernel
theorem dX1_init_53 : decode cX1_init 53 = .ok (.bipush 6, 2) := by decide +kernel
theorem dX1_init_55 : decode cX1_init 55 = .ok (.newarray .int, 2) := by decide +kernel
theorem dX1_init_57 : decode cX1_init 57 = .ok (.dup, 1) := by decide +kernel
theorem dX1_init_58 : decode cX1_init 58 = .ok (.iconst 0, 1) := by decide +kernel
theorem dX1_init_59 : decode cX1_init 59 = .ok (.iconst 1, 1) := by decide +kernel
theorem dX1_init_60 : decode cX1_init 60 = .ok (.iastore, 1) := by decide +kernel
theorem dX1_init_61 : decode cX1_init 61 = .ok (.dup, 1) := by decide +kernel
theorem dX1_init_62 : decode cX1_init 62 = .ok (.iconst 1, 1) := by decide +kernel
theorem dX1_init_63 : decode cX1_init 63 = .ok (.iconst 3, 1) := by decide +kernel
theorem dX1_init_64 : decode cX1_init 64 = .ok (.iastore, 1) := by decide +kernel
theorem dX1_init_65 : decode cX1_init 65 = .ok (.dup, 1) := by decide +kernel
theorem dX1_init_66 : decode cX1_init 66 = .ok (.iconst 2, 1) := by decide +kernel
theorem dX1_init_67 : decode cX1_init 67 = .ok (.bipush 50, 2) := by decide +kernel
theorem dX1_init_69 : decode cX1_init 69 = .ok (.iastore, 1) := by decide +kernel
theorem dX1_init_70 : decode cX1_init 70 = .ok (.dup, 1) := by decide +kernel
theorem dX1_init_71 : decode cX1_init 71 = .ok (.iconst 3, 1) := by decide +kernel
theorem dX1_init_72 : decode cX1_init 72 = .ok (.iconst 2, 1) := by decide +kernel
theorem dX1_init_73 : decode cX1_init 73 = .ok (.iastore, 1) := by decide +kernel
theorem dX1_init_74 : decode cX1_init 74 = .ok (.dup, 1) := by decide +kernel
theorem dX1_init_75 : decode cX1_init 75 = .ok (.iconst 4, 1) := by decide +kernel
theorem dX1_init_76 : decode cX1_init 76 = .ok (.bipush 10, 2) := by decide +kernel
theorem dX1_init_78 : decode cX1_init 78 = .ok (.iastore, 1) := by decide +kernel
theorem dX1_init_79 : decode cX1_init 79 = .ok (.dup, 1) := by decide +kernel
theorem dX1_init_80 : decode cX1_init 80 = .ok (.iconst 5, 1) := by decide +kernel
theorem dX1_init_81 : decode cX1_init 81 = .ok (.bipush 30, 2) := by decide +kernel
theorem dX1_init_83 : decode cX1_init 83 = .ok (.iastore, 1) := by decide +kernel
theorem dX1_init_84 : decode cX1_init 84 = .ok (.putfield 30, 3) := by decide +kernel
theorem dX1_init_87 : decode cX1_init 87 = .ok (.aload_n 0, 1) := by decide +kernel
theorem dX1_init_88 : decode cX1_init 88 = .ok (.new 15, 3) := by decide +kernel
theorem dX1_init_91 : decode cX1_init 91 = .ok (.dup, 1) := by decide +kernel
theorem dX1_init_92 : decode cX1_init 92 = .ok (.bipush 16, 2) := by decide +kernel
theorem dX1_init_94 : decode cX1_init 94 = .ok (.invokespecial 17, 3) := by decide +kernel
theorem dX1_init_97 : decode cX1_init 97 = .ok (.putfield 35, 3) := by decide +kernel
theorem dX1_init_100 : decode cX1_init 100 = .ok (.aload_n 0, 1) := by decide +kernel
theorem dX1_init_101 : decode cX1_init 101 = .ok (.new 15, 3) := by decide +kernel
theorem dX1_init_104 : decode cX1_init 104 = .ok (.dup, 1) := by decide +kernel
theorem dX1_init_105 : decode cX1_init 105 = .ok (.bipush 10, 2) := by decide +kernel
theorem dX1_init_107 : decode cX1_init 107 = .ok (.invokespecial 17, 3) := by decide +kernel
theorem dX1_init_110 : decode cX1_init 110 = .ok (.putfield 40, 3) := by decide +kernel
theorem dX1_init_113 : decode cX1_init 113 = .ok (.aload_n 0, 1) := by decide +kernel
theorem dX1_init_114 : decode cX1_init 114 = .ok (.bipush 20, 2) := by decide +kernel
theorem dX1_init_116 : decode cX1_init 116 = .ok (.newarray .int, 2) := by decide +kernel
theorem dX1_init_118 : decode cX1_init 118 = .ok (.putfield 45, 3) := by decide +kernel
theorem dX1_init_121 : decode cX1_init 121 = .ok (.aload_n 0, 1) := by decide +kernel
theorem dX1_init_122 : decode cX1_init 122 = .ok (.bipush 21, 2) := by decide +kernel
theorem dX1_init_124 : decode cX1_init 124 = .ok (.newarray .int, 2) := by decide +kernel
theorem dX1_init_126 : decode cX1_init 126 = .ok (.putfield 50, 3) := by decide +kernel
theorem dX1_init_129 : decode cX1_init 129 = .ok (.return_, 1) := by decide +kernel
theorem dX1_mayPut_0 : decode cX1_mayPut 0 = .ok (.iload_n 1, 1) := by decide +kernel
theorem dX1_mayPut_1 : decode cX1_mayPut 1 = .ok (.ifCond .lt 30, 3) := by decide +kernel
theorem dX1_mayPut_4 : decode cX1_mayPut 4 = .ok (.iload_n 1, 1) := by decide +kernel
theorem dX1_mayPut_5 : decode cX1_mayPut 5 = .ok (.aload_n 0, 1) := by decide +kernel
theorem dX1_mayPut_6 : decode cX1_mayPut 6 = .ok (.getfield 30, 3) := by decide +kernel
theorem dX1_mayPut_9 : decode cX1_mayPut 9 = .ok (.arraylength, 1) := by decide +kernel
theorem dX1_mayPut_10 : decode cX1_mayPut 10 = .ok (.if_icmp .ge 21, 3) := by decide +kernel
theorem dX1_mayPut_13 : decode cX1_mayPut 13 = .ok (.iload_n 2, 1) := by decide +kernel
theorem dX1_mayPut_14 : decode cX1_mayPut 14 = .ok (.getstatic 53, 3) := by decide +kernel
theorem dX1_mayPut_17 : decode cX1_mayPut 17 = .ok (.iload_n 1, 1) := by decide +kernel
theorem dX1_mayPut_18 : decode cX1_mayPut 18 = .ok (.iaload, 1) := by decide +kernel
theorem dX1_mayPut_19 : decode cX1_mayPut 19 = .ok (.if_icmp .lt 12, 3) := by decide +kernel
theorem dX1_mayPut_22 : decode cX1_mayPut 22 = .ok (.iload_n 2, 1) := by decide +kernel
theorem dX1_mayPut_23 : decode cX1_mayPut 23 = .ok (.getstatic 56, 3) := by decide +kernel
theorem dX1_mayPut_26 : decode cX1_mayPut 26 = .ok (.iload_n 1, 1) := by decide +kernel
theorem dX1_mayPut_27 : decode cX1_mayPut 27 = .ok (.iaload, 1) := by decide +kernel
theorem dX1_mayPut_28 : decode cX1_mayPut 28 = .ok (.if_icmp .le 5, 3) := by decide +kernel
theorem dX1_mayPut_31 : decode cX1_mayPut 31 = .ok (.iconst 0, 1) := by decide +kernel
theorem dX1_mayPut_32 : decode cX1_mayPut 32 = .ok (.ireturn, 1) := by decide +kernel
theorem dX1_mayPut_33 : decode cX1_mayPut 33 = .ok (.iload_n 1, 1) := by decide +kernel
theorem dX1_mayPut_34 : decode cX1_mayPut 34 = .ok (.iconst 4, 1) := by decide +kernel
theorem dX1_mayPut_35 : decode cX1_mayPut 35 = .ok (.if_icmp .ne 13, 3) := by decide +kernel
theorem dX1_mayPut_38 : decode cX1_mayPut 38 = .ok (.iload_n 2, 1) := by decide +kernel
theorem dX1_mayPut_39 : decode cX1_mayPut 39 = .ok (.aload_n 0, 1) := by decide +kernel
theorem dX1_mayPut_40 : decode cX1_mayPut 40 = .ok (.getfield 30, 3) := by decide +kernel
theorem dX1_mayPut_43 : decode cX1_mayPut 43 = .ok (.iconst 5, 1) := by decide +kernel
theorem dX1_mayPut_44 : decode cX1_mayPut 44 = .ok (.iaload, 1) := by decide +kernel
theorem dX1_mayPut_45 : decode cX1_mayPut 45 = .ok (.if_icmp .gt 22, 3) := by decide +kernel
theorem dX1_mayPut_48 : decode cX1_mayPut 48 = .ok (.iload_n 1, 1) := by decide +kernel
theorem dX1_mayPut_49 : decode cX1_mayPut 49 = .ok (.iconst 5, 1) := by decide +kernel
theorem dX1_mayPut_50 : decode cX1_mayPut 50 = .ok (.if_icmp .ne 13, 3) := by decide +kernel
theorem dX1_mayPut_53 : decode cX1_mayPut 53 = .ok (.iload_n 2, 1) := by decide +kernel
theorem dX1_mayPut_54 : decode cX1_mayPut 54 = .ok (.aload_n 0, 1) := by decide +kernel
theorem dX1_mayPut_55 : decode cX1_mayPut 55 = .ok (.getfield 30, 3) := by decide +kernel
theorem dX1_mayPut_58 : decode cX1_mayPut 58 = .ok (.iconst 4, 1) := by decide +kernel
theorem dX1_mayPut_59 : decode cX1_mayPut 59 = .ok (.iaload, 1) := by decide +kernel
theorem dX1_mayPut_60 : decode cX1_mayPut 60 = .ok (.if_icmp .lt 7, 3) := by decide +kernel
theorem dX1_mayPut_63 : decode cX1_mayPut 63 = .ok (.iconst 1, 1) := by decide +kernel
theorem dX1_mayPut_64 : decode cX1_mayPut 64 = .ok (.goto 4, 3) := by decide +kernel
theorem dX1_mayPut_67 : decode cX1_mayPut 67 = .ok (.iconst 0, 1) := by decide +kernel
theorem dX1_mayPut_68 : decode cX1_mayPut 68 = .ok (.ireturn, 1) := by decide +kernel
theorem dX1_copyFrom_0 : decode cX1_copyFrom 0 = .ok (.aload_n 1, 1) := by decide +kernel
theorem dX1_copyFrom_1 : decode cX1_copyFrom 1 = .ok (.getfield 9, 3) := by decide +kernel
theorem dX1_copyFrom_4 : decode cX1_copyFrom 4 = .ok (.iconst 0, 1) := by decide +kernel
theorem dX1_copyFrom_5 : decode cX1_copyFrom 5 = .ok (.aload_n 0, 1) := by decide +kernel
theorem dX1_copyFrom_6 : decode cX1_copyFrom 6 = .ok (.getfield 9, 3) := by decide +kernel
theorem dX1_copyFrom_9 : decode cX1_copyFrom 9 = .ok (.iconst 0, 1) := by decide +kernel
theorem dX1_copyFrom_10 : decode cX1_copyFrom 10 = .ok (.aload_n 0, 1) := by decide +kernel
theorem dX1_copyFrom_11 : decode cX1_copyFrom 11 = .ok (.getfield 9, 3) := by decide +kernel
theorem dX1_copyFrom_14 : decode cX1_copyFrom 14 = .ok (.arraylength, 1) := by decide +kernel
theorem dX1_copyFrom_15 : decode cX1_copyFrom 15 = .ok (.invokestatic 59, 3) := by decide +kernel
theorem dX1_copyFrom_18 : decode cX1_copyFrom 18 = .ok (.aload_n 0, 1) := by decide +kernel
theorem dX1_copyFrom_19 : decode cX1_copyFrom 19 = .ok (.getfield 20, 3) := by decide +kernel
theorem dX1_copyFrom_22 : decode cX1_copyFrom 22 = .ok (.aload_n 1, 1) := by decide +kernel
theorem dX1_copyFrom_23 : decode cX1_copyFrom 23 = .ok (.getfield 20, 3) := by decide +kernel
theorem dX1_copyFrom_26 : decode cX1_copyFrom 26 = .ok (.invokevirtual 65, 3) := by decide +kernel
theorem dX1_copyFrom_29 : decode cX1_copyFrom 29 = .ok (.aload_n 0, 1) := by decide +kernel
theorem dX1_copyFrom_30 : decode cX1_copyFrom 30 = .ok (.getfield 24, 3) := by decide +kernel
theorem dX1_copyFrom_33 : decode cX1_copyFrom 33 = .ok (.aload_n 1, 1) := by decide +kernel
theorem dX1_copyFrom_34 : decode cX1_copyFrom 34 = .ok (.getfield 24, 3) := by decide +kernel
theorem dX1_copyFrom_37 : decode cX1_copyFrom 37 = .ok (.invokevirtual 65, 3) := by decide +kernel
theorem dX1_copyFrom_40 : decode cX1_copyFrom 40 = .ok (.aload_n 0, 1) := by decide +kernel
theorem dX1_copyFrom_41 : decode cX1_copyFrom 41 = .ok (.getfield 27, 3) := by decide +kernel
theorem dX1_copyFrom_44 : decode cX1_copyFrom 44 = .ok (.aload_n 1, 1) := by decide +kernel
theorem dX1_copyFrom_45 : decode cX1_copyFrom 45 = .ok (.getfield 27, 3) := by decide +kernel
theorem dX1_copyFrom_48 : decode cX1_copyFrom 48 = .ok (.invokevirtual 65, 3) := by decide +kernel
theorem dX1_copyFrom_51 : decode cX1_copyFrom 51 = .ok (.aload_n 1, 1) := by decide +kernel
theorem dX1_copyFrom_52 : decode cX1_copyFrom 52 = .ok (.getfield 30, 3) := by decide +kernel
theorem dX1_copyFrom_55 : decode cX1_copyFrom 55 = .ok (.iconst 0, 1) := by decide +kernel
theorem dX1_copyFrom_56 : decode cX1_copyFrom 56 = .ok (.aload_n 0, 1) := by decide +kernel
theorem dX1_copyFrom_57 : decode cX1_copyFrom 57 = .ok (.getfield 30, 3) := by decide +kernel
theorem dX1_copyFrom_60 : decode cX1_copyFrom 60 = .ok (.iconst 0, 1) := by decide +kernel
theorem dX1_copyFrom_61 : decode cX1_copyFrom 61 = .ok (.aload_n 0, 1) := by decide +kernel
theorem dX1_copyFrom_62 : decode cX1_copyFrom 62 = .ok (.getfield 30, 3) := by decide +kernel
theorem dX1_copyFrom_65 : decode cX1_copyFrom 65 = .ok (.arraylength, 1) := by decide +kernel
theorem dX1_copyFrom_66 : decode cX1_copyFrom 66 = .ok (.invokestatic 59, 3) := by decide +kernel
theorem dX1_copyFrom_69 : decode cX1_copyFrom 69 = .ok (.aload_n 0, 1) := by decide +kernel
theorem dX1_copyFrom_70 : decode cX1_copyFrom 70 = .ok (.getfield 35, 3) := by decide +kernel
theorem dX1_copyFrom_73 : decode cX1_copyFrom 73 = .ok (.aload_n 1, 1) := by decide +kernel
theorem dX1_copyFrom_74 : decode cX1_copyFrom 74 = .ok (.getfield 35, 3) := by decide +kernel
theorem dX1_copyFrom_77 : decode cX1_copyFrom 77 = .ok (.invokevirtual 65, 3) := by decide +kernel
theorem dX1_copyFrom_80 : decode cX1_copyFrom 80 = .ok (.aload_n 0, 1) := by decide +kernel
theorem dX1_copyFrom_81 : decode cX1_copyFrom 81 = .ok (.getfield 40, 3) := by decide +kernel
theorem dX1_copyFrom_84 : decode cX1_copyFrom 84 = .ok (.aload_n 1, 1) := by decide +kernel
theorem dX1_copyFrom_85 : decode cX1_copyFrom 85 = .ok (.getfield 40, 3) := by decide +kernel
theorem dX1_copyFrom_88 : decode cX1_copyFrom 88 = .ok (.invokevirtual 65, 3) := by decide +kernel
theorem dX1_copyFrom_91 : decode cX1_copyFrom 91 = .ok (.aload_n 1, 1) := by decide +kernel
theorem dX1_copyFrom_92 : decode cX1_copyFrom 92 = .ok (.getfield 45, 3) := by decide +kernel
theorem dX1_copyFrom_95 : decode cX1_copyFrom 95 = .ok (.iconst 0, 1) := by decide +kernel
theorem dX1_copyFrom_96 : decode cX1_copyFrom 96 = .ok (.aload_n 0, 1) := by decide +kernel
theorem dX1_copyFrom_97 : decode cX1_copyFrom 97 = .ok (.getfield 45, 3) := by decide +kernel
theorem dX1_copyFrom_100 : decode cX1_copyFrom 100 = .ok (.iconst 0, 1) := by decide +kernel
theorem dX1_copyFrom_101 : decode cX1_copyFrom 101 = .ok (.aload_n 0, 1) := by decide +kernel
theorem dX1_copyFrom_102 : decode cX1_copyFrom 102 = .ok (.getfield 45, 3) := by decide +kernel
theorem dX1_copyFrom_105 : decode cX1_copyFrom 105 = .ok (.arraylength, 1) := by decide +kernel
theorem dX1_copyFrom_106 : decode cX1_copyFrom 106 = .ok (.invokestatic 59, 3) := by decide +kernel
theorem dX1_copyFrom_109 : decode cX1_copyFrom 109 = .ok (.aload_n 1, 1) := by decide +kernel
theorem dX1_copyFrom_110 : decode cX1_copyFrom 110 = .ok (.getfield 50, 3) := by decide +kernel
theorem dX1_copyFrom_113 : decode cX1_copyFrom 113 = .ok (.iconst 0, 1) := by decide +kernel
theorem dX1_copyFrom_114 : decode cX1_copyFrom 114 = .ok (.aload_n 0, 1) := by decide +kernel
theorem dX1_copyFrom_115 : decode cX1_copyFrom 115 = .ok (.getfield 50, 3) := by decide +kernel
theorem dX1_copyFrom_118 : decode cX1_copyFrom 118 = .ok (.iconst 0, 1) := by decide +kernel
theorem dX1_copyFrom_119 : decode cX1_copyFrom 119 = .ok (.aload_n 0, 1) := by decide +kernel
theorem dX1_copyFrom_120 : decode cX1_copyFrom 120 = .ok (.getfield 50, 3) := by decide +kernel
theorem dX1_copyFrom_123 : decode cX1_copyFrom 123 = .ok (.arraylength, 1) := by decide +kernel
theorem dX1_copyFrom_124 : decode cX1_copyFrom 124 = .ok (.invokestatic 59, 3) := by decide +kernel
theorem dX1_copyFrom_127 : decode cX1_copyFrom 127 = .ok (.aload_n 0, 1) := by decide +kernel
theorem dX1_copyFrom_128 : decode cX1_copyFrom 128 = .ok (.aload_n 1, 1) := by decide +kernel
theorem dX1_copyFrom_129 : decode cX1_copyFrom 129 = .ok (.getfield 69, 3) := by decide +kernel
theorem dX1_copyFrom_132 : decode cX1_copyFrom 132 = .ok (.putfield 69, 3) := by decide +kernel
theorem dX1_copyFrom_135 : decode cX1_copyFrom 135 = .ok (.return_, 1) := by decide +kernel
theorem dX1_digestOn_0 : decode cX1_digestOn 0 = .ok (.lload_n 1, 1) := by decide +kernel
theorem dX1_digestOn_1 : decode cX1_digestOn 1 = .ok (.aload_n 0, 1) := by decide +kernel
theorem dX1_digestOn_2 : decode cX1_digestOn 2 = .ok (.getfield 9, 3) := by decide +kernel
theorem dX1_digestOn_5 : decode cX1_digestOn 5 = .ok (.invokestatic 73, 3) := by decide +kernel
theorem dX1_digestOn_8 : decode cX1_digestOn 8 = .ok (.lstore_n 3, 1) := by decide +kernel
theorem dX1_digestOn_9 : decode cX1_digestOn 9 = .ok (.aload_n 0, 1) := by decide +kernel
theorem dX1_digestOn_10 : decode cX1_digestOn 10 = .ok (.getfield 20, 3) := by decide +kernel
theorem dX1_digestOn_13 : decode cX1_digestOn 13 = .ok (.lload_n 3, 1) := by decide +kernel
theorem dX1_digestOn_14 : decode cX1_digestOn 14 = .ok (.iconst 2, 1) := by decide +kernel
theorem dX1_digestOn_15 : decode cX1_digestOn 15 = .ok (.invokevirtual 77, 3) := by decide +kernel
theorem dX1_digestOn_18 : decode cX1_digestOn 18 = .ok (.lstore_n 3, 1) := by decide +kernel
theorem dX1_digestOn_19 : decode cX1_digestOn 19 = .ok (.aload_n 0, 1) := by decide +kernel
theorem dX1_digestOn_20 : decode cX1_digestOn 20 = .ok (.getfield 24, 3) := by decide +kernel
theorem dX1_digestOn_23 : decode cX1_digestOn 23 = .ok (.lload_n 3, 1) := by decide +kernel
theorem dX1_digestOn_24 : decode cX1_digestOn 24 = .ok (.iconst 2, 1) := by decide +kernel
theorem dX1_digestOn_25 : decode cX1_digestOn 25 = .ok (.invokevirtual 77, 3) := by decide +kernel
theorem dX1_digestOn_28 : decode cX1_digestOn 28 = .ok (.lstore_n 3, 1) := by decide +kernel
theorem dX1_digestOn_29 : decode cX1_digestOn 29 = .ok (.aload_n 0, 1) := by decide +kernel
theorem dX1_digestOn_30 : decode cX1_digestOn 30 = .ok (.getfield 27, 3) := by decide +kernel
theorem dX1_digestOn_33 : decode cX1_digestOn 33 = .ok (.lload_n 3, 1) := by decide +kernel
theorem dX1_digestOn_34 : decode cX1_digestOn 34 = .ok (.iconst 2, 1) := by decide +kernel
theorem dX1_digestOn_35 : decode cX1_digestOn 35 = .ok (.invokevirtual 77, 3) := by decide +kernel
theorem dX1_digestOn_38 : decode cX1_digestOn 38 = .ok (.lstore_n 3, 1) := by decide +kernel
theorem dX1_digestOn_39 : decode cX1_digestOn 39 = .ok (.lload_n 3, 1) := by decide +kernel
theorem dX1_digestOn_40 : decode cX1_digestOn 40 = .ok (.aload_n 0, 1) := by decide +kernel
theorem dX1_digestOn_41 : decode cX1_digestOn 41 = .ok (.getfield 30, 3) := by decide +kernel
theorem dX1_digestOn_44 : decode cX1_digestOn 44 = .ok (.invokestatic 73, 3) := by decide +kernel
theorem dX1_digestOn_47 : decode cX1_digestOn 47 = .ok (.lstore_n 3, 1) := by decide +kernel
theorem dX1_digestOn_48 : decode cX1_digestOn 48 = .ok (.aload_n 0, 1) := by decide +kernel
theorem dX1_digestOn_49 : decode cX1_digestOn 49 = .ok (.getfield 35, 3) := by decide +kernel
theorem dX1_digestOn_52 : decode cX1_digestOn 52 = .ok (.lload_n 3, 1) := by decide +kernel
theorem dX1_digestOn_53 : decode cX1_digestOn 53 = .ok (.iconst 5, 1) := by decide +kernel
theorem dX1_digestOn_54 : decode cX1_digestOn 54 = .ok (.invokevirtual 77, 3) := by decide +kernel
theorem dX1_digestOn_57 : decode cX1_digestOn 57 = .ok (.lstore_n 3, 1) := by decide +kernel
theorem dX1_digestOn_58 : decode cX1_digestOn 58 = .ok (.aload_n 0, 1) := by decide +kernel
theorem dX1_digestOn_59 : decode cX1_digestOn 59 = .ok (.getfield 40, 3) := by decide +kernel
theorem dX1_digestOn_62 : decode cX1_digestOn 62 = .ok (.lload_n 3, 1) := by decide +kernel
theorem dX1_digestOn_63 : decode cX1_digestOn 63 = .ok (.iconst 4, 1) := by decide +kernel
theorem dX1_digestOn_64 : decode cX1_digestOn 64 = .ok (.invokevirtual 77, 3) := by decide +kernel
theorem dX1_digestOn_67 : decode cX1_digestOn 67 = .ok (.lstore_n 3, 1) := by decide +kernel
theorem dX1_digestOn_68 : decode cX1_digestOn 68 = .ok (.lload_n 3, 1) := by decide +kernel
theorem dX1_digestOn_69 : decode cX1_digestOn 69 = .ok (.aload_n 0, 1) := by decide +kernel
theorem dX1_digestOn_70 : decode cX1_digestOn 70 = .ok (.getfield 45, 3) := by decide +kernel
theorem dX1_digestOn_73 : decode cX1_digestOn 73 = .ok (.invokestatic 73, 3) := by decide +kernel
theorem dX1_digestOn_76 : decode cX1_digestOn 76 = .ok (.lstore_n 3, 1) := by decide +kernel
theorem dX1_digestOn_77 : decode cX1_digestOn 77 = .ok (.lload_n 3, 1) := by decide +kernel
theorem dX1_digestOn_78 : decode cX1_digestOn 78 = .ok (.aload_n 0, 1) := by decide +kernel
theorem dX1_digestOn_79 : decode cX1_digestOn 79 = .ok (.getfield 50, 3) := by decide +kernel
theorem dX1_digestOn_82 : decode cX1_digestOn 82 = .ok (.invokestatic 73, 3) := by decide +kernel
theorem dX1_digestOn_85 : decode cX1_digestOn 85 = .ok (.lreturn, 1) := by decide +kernel
theorem dX1_digestOf_0 : decode cX1_digestOf 0 = .ok (.lload_n 0, 1) := by decide +kernel
theorem dX1_digestOf_1 : decode cX1_digestOf 1 = .ok (.lstore_n 3, 1) := by decide +kernel
theorem dX1_digestOf_2 : decode cX1_digestOf 2 = .ok (.aload_n 2, 1) := by decide +kernel
theorem dX1_digestOf_3 : decode cX1_digestOf 3 = .ok (.astore 5, 2) := by decide +kernel
theorem dX1_digestOf_5 : decode cX1_digestOf 5 = .ok (.aload 5, 2) := by decide +kernel
theorem dX1_digestOf_7 : decode cX1_digestOf 7 = .ok (.arraylength, 1) := by decide +kernel
theorem dX1_digestOf_8 : decode cX1_digestOf 8 = .ok (.istore 6, 2) := by decide +kernel
theorem dX1_digestOf_10 : decode cX1_digestOf 10 = .ok (.iconst 0, 1) := by decide +kernel
theorem dX1_digestOf_11 : decode cX1_digestOf 11 = .ok (.istore 7, 2) := by decide +kernel
theorem dX1_digestOf_13 : decode cX1_digestOf 13 = .ok (.iload 7, 2) := by decide +kernel
theorem dX1_digestOf_15 : decode cX1_digestOf 15 = .ok (.iload 6, 2) := by decide +kernel
theorem dX1_digestOf_17 : decode cX1_digestOf 17 = .ok (.if_icmp .ge 26, 3) := by decide +kernel
theorem dX1_digestOf_20 : decode cX1_digestOf 20 = .ok (.aload 5, 2) := by decide +kernel
theorem dX1_digestOf_22 : decode cX1_digestOf 22 = .ok (.iload 7, 2) := by decide +kernel
theorem dX1_digestOf_24 : decode cX1_digestOf 24 = .ok (.iaload, 1) := by decide +kernel
theorem dX1_digestOf_25 : decode cX1_digestOf 25 = .ok (.istore 8, 2) := by decide +kernel
theorem dX1_digestOf_27 : decode cX1_digestOf 27 = .ok (.ldc2_w 81, 3) := by decide +kernel
theorem dX1_digestOf_30 : decode cX1_digestOf 30 = .ok (.lload_n 3, 1) := by decide +kernel
theorem dX1_digestOf_31 : decode cX1_digestOf 31 = .ok (.lmul, 1) := by decide +kernel
theorem dX1_digestOf_32 : decode cX1_digestOf 32 = .ok (.iload 8, 2) := by decide +kernel
theorem dX1_digestOf_34 : decode cX1_digestOf 34 = .ok (.i2l, 1) := by decide +kernel
theorem dX1_digestOf_35 : decode cX1_digestOf 35 = .ok (.ladd, 1) := by decide +kernel
theorem dX1_digestOf_36 : decode cX1_digestOf 36 = .ok (.lstore_n 3, 1) := by decide +kernel
theorem dX1_digestOf_37 : decode cX1_digestOf 37 = .ok (.iinc 7 1, 3) := by decide +kernel
theorem dX1_digestOf_40 : decode cX1_digestOf 40 = .ok (.goto (-27), 3) := by decide +kernel
theorem dX1_digestOf_43 : decode cX1_digestOf 43 = .ok (.lload_n 3, 1) := by decide +kernel
theorem dX1_digestOf_44 : decode cX1_digestOf 44 = .ok (.lreturn, 1) := by decide +kernel
theorem dX2_init_0 : decode cX2_init 0 = .ok (.aload_n 0, 1) := by decide +kernel
theorem dX2_init_1 : decode cX2_init 1 = .ok (.invokespecial 5, 3) := by decide +kernel
theorem dX2_init_4 : decode cX2_init 4 = .ok (.aload_n 0, 1) := by decide +kernel
theorem dX2_init_5 : decode cX2_init 5 = .ok (.sipush 26880, 3) := by decide +kernel
theorem dX2_init_8 : decode cX2_init 8 = .ok (.newarray .int, 2) := by decide +kernel
theorem dX2_init_10 : decode cX2_init 10 = .ok (.putfield 11, 3) := by decide +kernel
theorem dX2_init_13 : decode cX2_init 13 = .ok (.aload_n 0, 1) := by decide +kernel
theorem dX2_init_14 : decode cX2_init 14 = .ok (.bipush 40, 2) := by decide +kernel
theorem dX2_init_16 : decode cX2_init 16 = .ok (.newarray .int, 2) := by decide +kernel
theorem dX2_init_18 : decode cX2_init 18 = .ok (.putfield 15, 3) := by decide +kernel
theorem dX2_init_21 : decode cX2_init 21 = .ok (.aload_n 0, 1) := by decide +kernel
theorem dX2_init_22 : decode cX2_init 22 = .ok (.bipush 40, 2) := by decide +kernel
theorem dX2_init_24 : decode cX2_init 24 = .ok (.newarray .int, 2) := by decide +kernel
theorem dX2_init_26 : decode cX2_init 26 = .ok (.putfield 18, 3) := by decide +kernel
theorem dX2_init_29 : decode cX2_init 29 = .ok (.aload_n 0, 1) := by decide +kernel
theorem dX2_init_30 : decode cX2_init 30 = .ok (.sipush 840, 3) := by decide +kernel
theorem dX2_init_33 : decode cX2_init 33 = .ok (.newarray .int, 2) := by decide +kernel
theorem dX2_init_35 : decode cX2_init 35 = .ok (.putfield 21, 3) := by decide +kernel
theorem dX2_init_38 : decode cX2_init 38 = .ok (.aload_n 0, 1) := by decide +kernel
theorem dX2_init_39 : decode cX2_init 39 = .ok (.bipush 40, 2) := by decide +kernel
theorem dX2_init_41 : decode cX2_init 41 = .ok (.newarray .int, 2) := by decide +kernel
theorem dX2_init_43 : decode cX2_init 43 = .ok (.putfield 24, 3) := by decide +kernel
theorem dX2_init_46 : decode cX2_init 46 = .ok (.aload_n 0, 1) := by decide +kernel
theorem dX2_init_47 : decode cX2_init 47 = .ok (.new 27, 3) := by decide +kernel
theorem dX2_init_50 : decode cX2_init 50 = .ok (.dup, 1) := by decide +kernel
theorem dX2_init_51 : decode cX2_init 51 = .ok (.bipush 10, 2) := by decide +kernel
theorem dX2_init_53 : decode cX2_init 53 = .ok (.invokespecial 29, 3) := by decide +kernel
theorem dX2_init_56 : decode cX2_init 56 = .ok (.putfield 32, 3) := by decide +kernel
theorem dX2_init_59 : decode cX2_init 59 = .ok (.return_, 1) := by decide +kernel
theorem dX2_countAt_0 : decode cX2_countAt 0 = .ok (.iconst 0, 1) := by decide +kernel
theorem dX2_countAt_1 : decode cX2_countAt 1 = .ok (.istore_n 1, 1) := by decide +kernel
theorem dX2_countAt_2 : decode cX2_countAt 2 = .ok (.iconst 0, 1) := by decide +kernel
theorem dX2_countAt_3 : decode cX2_countAt 3 = .ok (.istore_n 2, 1) := by decide +kernel
theorem dX2_countAt_4 : decode cX2_countAt 4 = .ok (.iload_n 2, 1) := by decide +kernel
theorem dX2_countAt_5 : decode cX2_countAt 5 = .ok (.aload_n 0, 1) := by decide +kernel
theorem dX2_countAt_6 : decode cX2_countAt 6 = .ok (.getfield 36, 3) := by decide +kernel
theorem dX2_countAt_9 : decode cX2_countAt 9 = .ok (.invokevirtual 41, 3) := by decide +kernel
theorem dX2_countAt_12 : decode cX2_countAt 12 = .ok (.if_icmp .ge 24, 3) := by decide +kernel
theorem dX2_countAt_15 : decode cX2_countAt 15 = .ok (.aload_n 0, 1) := by decide +kernel
theorem dX2_countAt_16 : decode cX2_countAt 16 = .ok (.getfield 36, 3) := by decide +kernel
theorem dX2_countAt_19 : decode cX2_countAt 19 = .ok (.iload_n 2, 1) := by decide +kernel
theorem dX2_countAt_20 : decode cX2_countAt 20 = .ok (.iconst 0, 1) := by decide +kernel
theorem dX2_countAt_21 : decode cX2_countAt 21 = .ok (.invokevirtual 45, 3) := by decide +kernel
theorem dX2_countAt_24 : decode cX2_countAt 24 = .ok (.ifCond .ne 6, 3) := by decide +kernel
theorem dX2_countAt_27 : decode cX2_countAt 27 = .ok (.iinc 1 1, 3) := by decide +kernel
theorem dX2_countAt_30 : decode cX2_countAt 30 = .ok (.iinc 2 1, 3) := by decide +kernel
theorem dX2_countAt_33 : decode cX2_countAt 33 = .ok (.goto (-29), 3) := by decide +kernel
theorem dX2_countAt_36 : decode cX2_countAt 36 = .ok (.iload_n 1, 1) := by decide +kernel
theorem dX2_countAt_37 : decode cX2_countAt 37 = .ok (.ireturn, 1) := by decide +kernel
theorem dX2_travel_0 : decode cX2_travel 0 = .ok (.aload_n 0, 1) := by decide +kernel
theorem dX2_travel_1 : decode cX2_travel 1 = .ok (.getfield 49, 3) := by decide +kernel
theorem dX2_travel_4 : decode cX2_travel 4 = .ok (.ireturn, 1) := by decide +kernel
theorem dX2_frontIn_0 : decode cX2_frontIn 0 = .ok (.iload_n 1, 1) := by decide +kernel
theorem dX2_frontIn_1 : decode cX2_frontIn 1 = .ok (.ifCond .lt 18, 3) := by decide +kernel
theorem dX2_frontIn_4 : decode cX2_frontIn 4 = .ok (.iload_n 1, 1) := by decide +kernel
theorem dX2_frontIn_5 : decode cX2_frontIn 5 = .ok (.bipush 40, 2) := by decide +kernel
theorem dX2_frontIn_7 : decode cX2_frontIn 7 = .ok (.if_icmp .ge 12, 3) := by decide +kernel
theorem dX2_frontIn_10 : decode cX2_frontIn 10 = .ok (.aload_n 0, 1) := by decide +kernel
theorem dX2_frontIn_11 : decode cX2_frontIn 11 = .ok (.getfield 24, 3) := by decide +kernel
theorem dX2_frontIn_14 : decode cX2_frontIn 14 = .ok (.iload_n 1, 1) := by decide +kernel
theorem dX2_frontIn_15 : decode cX2_frontIn 15 = .ok (.iaload, 1) := by decide +kernel
theorem dX2_frontIn_16 : decode cX2_frontIn 16 = .ok (.goto 4, 3) := by decide +kernel
theorem dX2_frontIn_19 : decode cX2_frontIn 19 = .ok (.iconst (-1), 1) := by decide +kernel
theorem dX2_frontIn_20 : decode cX2_frontIn 20 = .ok (.ireturn, 1) := by decide +kernel
theorem dX2_draw_0 : decode cX2_draw 0 = .ok (.aload_n 0, 1) := by decide +kernel
theorem dX2_draw_1 : decode cX2_draw 1 = .ok (.aload_n 1, 1) := by decide +kernel
theorem dX2_draw_2 : decode cX2_draw 2 = .ok (.getfield 53, 3) := by decide +kernel
theorem dX2_draw_5 : decode cX2_draw 5 = .ok (.iconst 1, 1) := by decide +kernel
theorem dX2_draw_6 : decode cX2_draw 6 = .ok (.iaload, 1) := by decide +kernel
theorem dX2_draw_7 : decode cX2_draw 7 = .ok (.putfield 56, 3) := by decide +kernel
theorem dX2_draw_10 : decode cX2_draw 10 = .ok (.aload_n 0, 1) := by decide +kernel
theorem dX2_draw_11 : decode cX2_draw 11 = .ok (.getfield 56, 3) := by decide +kernel
theorem dX2_draw_14 : decode cX2_draw 14 = .ok (.aload_n 0, 1) := by decide +kernel
theorem dX2_draw_15 : decode cX2_draw 15 = .ok (.getfield 59, 3) := by decide +kernel
theorem dX2_draw_18 : decode cX2_draw 18 = .ok (.if_icmp .ne 18, 3) := by decide +kernel
theorem dX2_draw_21 : decode cX2_draw 21 = .ok (.aload_n 0, 1) := by decide +kernel
theorem dX2_draw_22 : decode cX2_draw 22 = .ok (.getfield 32, 3) := by decide +kernel
theorem dX2_draw_25 : decode cX2_draw 25 = .ok (.aload_n 1, 1) := by decide +kernel
theorem dX2_draw_26 : decode cX2_draw 26 = .ok (.getfield 36, 3) := by decide +kernel
theorem dX2_draw_29 : decode cX2_draw 29 = .ok (.invokevirtual 62, 3) := by decide +kernel
theorem dX2_draw_32 : decode cX2_draw 32 = .ok (.ifCond .eq 4, 3) := by decide +kernel
theorem dX2_draw_35 : decode cX2_draw 35 = .ok (.return_, 1) := by decide +kernel
theorem dX2_draw_36 : decode cX2_draw 36 = .ok (.aload_n 0, 1) := by decide +kernel
theorem dX2_draw_37 : decode cX2_draw 37 = .ok (.aload_n 1, 1) := by decide +kernel
theorem dX2_draw_38 : decode cX2_draw 38 = .ok (.getfield 36, 3) := by decide +kernel
theorem dX2_draw_41 : decode cX2_draw 41 = .ok (.invokevirtual 66, 3) := by decide +kernel
theorem dX2_draw_44 : decode cX2_draw 44 = .ok (.bipush 39, 2) := by decide +kernel
theorem dX2_draw_46 : decode cX2_draw 46 = .ok (.istore_n 2, 1) := by decide +kernel
theorem dX2_draw_47 : decode cX2_draw 47 = .ok (.iload_n 2, 1) := by decide +kernel
theorem dX2_draw_48 : decode cX2_draw 48 = .ok (.ifCond .lt 14, 3) := by decide +kernel
theorem dX2_draw_51 : decode cX2_draw 51 = .ok (.aload_n 0, 1) := by decide +kernel
theorem dX2_draw_52 : decode cX2_draw 52 = .ok (.iload_n 2, 1) := by decide +kernel
theorem dX2_draw_53 : decode cX2_draw 53 = .ok (.invokevirtual 70, 3) := by decide +kernel
theorem dX2_draw_56 : decode cX2_draw 56 = .ok (.iinc 2 (-1), 3) := by decide +kernel
theorem dX2_draw_59 : decode cX2_draw 59 = .ok (.goto (-12), 3) := by decide +kernel
theorem dX2_draw_62 : decode cX2_draw 62 = .ok (.aload_n 0, 1) := by decide +kernel
theorem dX2_draw_63 : decode cX2_draw 63 = .ok (.invokevirtual 73, 3) := by decide +kernel
theorem dX2_draw_66 : decode cX2_draw 66 = .ok (.aload_n 0, 1) := by decide +kernel
theorem dX2_draw_67 : decode cX2_draw 67 = .ok (.getfield 32, 3) := by decide +kernel
theorem dX2_draw_70 : decode cX2_draw 70 = .ok (.aload_n 1, 1) := by decide +kernel
theorem dX2_draw_71 : decode cX2_draw 71 = .ok (.getfield 36, 3) := by decide +kernel
theorem dX2_draw_74 : decode cX2_draw 74 = .ok (.invokevirtual 76, 3) := by decide +kernel
theorem dX2_draw_77 : decode cX2_draw 77 = .ok (.aload_n 0, 1) := by decide +kernel
theorem dX2_draw_78 : decode cX2_draw 78 = .ok (.aload_n 0, 1) := by decide +kernel
theorem dX2_draw_79 : decode cX2_draw 79 = .ok (.getfield 56, 3) := by decide +kernel
theorem dX2_draw_82 : decode cX2_draw 82 = .ok (.putfield 59, 3) := by decide +kernel
theorem dX2_draw_85 : decode cX2_draw 85 = .ok (.return_, 1) := by decide +kernel
theorem dX2_takeSigns_0 : decode cX2_takeSigns 0 = .ok (.aload_n 0, 1) := by decide +kernel
theorem dX2_takeSigns_1 : decode cX2_takeSigns 1 = .ok (.getfield 15, 3) := by decide +kernel
theorem dX2_takeSigns_4 : decode cX2_takeSigns 4 = .ok (.iconst 0, 1) := by decide +kernel
theorem dX2_takeSigns_5 : decode cX2_takeSigns 5 = .ok (.invokestatic 79, 3) := by decide +kernel
theorem dX2_takeSigns_8 : decode cX2_takeSigns 8 = .ok (.aload_n 0, 1) := by decide +kernel
theorem dX2_takeSigns_9 : decode cX2_takeSigns 9 = .ok (.getfield 18, 3) := by decide +kernel
theorem dX2_takeSigns_12 : decode cX2_takeSigns 12 = .ok (.bipush 20, 2) := by decide +kernel
theorem dX2_takeSigns_14 : decode cX2_takeSigns 14 = .ok (.invokestatic 79, 3) := by decide +kernel
theorem dX2_takeSigns_17 : decode cX2_takeSigns 17 = .ok (.aload_n 0, 1) := by decide +kernel
theorem dX2_takeSigns_18 : decode cX2_takeSigns 18 = .ok (.getfield 21, 3) := by decide +kernel
theorem dX2_takeSigns_21 : decode cX2_takeSigns 21 = .ok (.iconst 0, 1) := by decide +kernel
theorem dX2_takeSigns_22 : decode cX2_takeSigns 22 = .ok (.invokestatic 79, 3) := by decide +kernel
theorem dX2_takeSigns_25 : decode cX2_takeSigns 25 = .ok (.iconst 1, 1) := by decide +kernel
theorem dX2_takeSigns_26 : decode cX2_takeSigns 26 = .ok (.istore_n 2, 1) := by decide +kernel
theorem dX2_takeSigns_27 : decode cX2_takeSigns 27 = .ok (.iconst 0, 1) := by decide +kernel
theorem dX2_takeSigns_28 : decode cX2_takeSigns 28 = .ok (.istore_n 3, 1) := by decide +kernel
theorem dX2_takeSigns_29 : decode cX2_takeSigns 29 = .ok (.iload_n 3, 1) := by decide +kernel
theorem dX2_takeSigns_30 : decode cX2_takeSigns 30 = .ok (.aload_n 1, 1) := by decide +kernel
theorem dX2_takeSigns_31 : decode cX2_takeSigns 31 = .ok (.invokevirtual 41, 3) := by decide +kernel
theorem dX2_takeSigns_34 : decode cX2_takeSigns 34 = .ok (.if_icmp .ge 29, 3) := by decide +kernel
theorem dX2_takeSigns_37 : decode cX2_takeSigns 37 = .ok (.aload_n 0, 1) := by decide +kernel
theorem dX2_takeSigns_38 : decode cX2_takeSigns 38 = .ok (.aload_n 1, 1) := by decide +kernel
theorem dX2_takeSigns_39 : decode cX2_takeSigns 39 = .ok (.iload_n 3, 1) := by decide +kernel
theorem dX2_takeSigns_40 : decode cX2_takeSigns 40 = .ok (.iload_n 2, 1) := by decide +kernel
theorem dX2_takeSigns_41 : decode cX2_takeSigns 41 = .ok (.invokevirtual 85, 3) := by decide +kernel
theorem dX2_takeSigns_44 : decode cX2_takeSigns 44 = .ok (.aload_n 1, 1) := by decide +kernel
theorem dX2_takeSigns_45 : decode cX2_takeSigns 45 = .ok (.iload_n 3, 1) := by decide +kernel
theorem dX2_takeSigns_46 : decode cX2_takeSigns 46 = .ok (.iconst 0, 1) := by decide +kernel
theorem dX2_takeSigns_47 : decode cX2_takeSigns 47 = .ok (.invokevirtual 45, 3) := by decide +kernel
theorem dX2_takeSigns_50 : decode cX2_takeSigns 50 = .ok (.ifCond .ne 7, 3) := by decide +kernel
theorem dX2_takeSigns_53 : decode cX2_takeSigns 53 = .ok (.iload_n 2, 1) := by decide +kernel
theorem dX2_takeSigns_54 : decode cX2_takeSigns 54 = .ok (.iconst 1, 1) := by decide +kernel
theorem dX2_takeSigns_55 : decode cX2_takeSigns 55 = .ok (.ishl, 1) := by decide +kernel
theorem dX2_takeSigns_56 : decode cX2_takeSigns 56 = .ok (.istore_n 2, 1) := by decide +kernel
theorem dX2_takeSigns_57 : decode cX2_takeSigns 57 = .ok (.iinc 3 1, 3) := by decide +kernel
theorem dX2_takeSigns_60 : decode cX2_takeSigns 60 = .ok (.goto (-31), 3) := by decide +kernel
theorem dX2_takeSigns_63 : decode cX2_takeSigns 63 = .ok (.aload_n 0, 1) := by decide +kernel
theorem dX2_takeSigns_64 : decode cX2_takeSigns 64 = .ok (.iload_n 2, 1) := by decide +kernel
theorem dX2_takeSigns_65 : decode cX2_takeSigns 65 = .ok (.bipush 32, 2) := by decide +kernel
theorem dX2_takeSigns_67 : decode cX2_takeSigns 67 = .ok (.invokestatic 89, 3) := by decide +kernel
theorem dX2_takeSigns_70 : decode cX2_takeSigns 70 = .ok (.iconst 1, 1) := by decide +kernel
theorem dX2_takeSigns_71 : decode cX2_takeSigns 71 = .ok (.isub, 1) := by decide +kernel
theorem dX2_takeSigns_72 : decode cX2_takeSigns 72 = .ok (.putfield 94, 3) := by decide +kernel
theorem dX2_takeSigns_75 : decode cX2_takeSigns 75 = .ok (.return_, 1) := by decide +kernel
theorem dX2_takeSign_0 : decode cX2_takeSign 0 = .ok (.aload_n 1, 1) := by decide +kernel
theorem dX2_takeSign_1 : decode cX2_takeSign 1 = .ok (.iload_n 2, 1) := by decide +kernel
theorem dX2_takeSign_2 : decode cX2_takeSign 2 = .ok (.iconst 0, 1) := by decide +kernel
theorem dX2_takeSign_3 : decode cX2_takeSign 3 = .ok (.invokevirtual 45, 3) := by decide +kernel
theorem dX2_takeSign_6 : decode cX2_takeSign 6 = .ok (.istore 4, 2) := by decide +kernel
theorem dX2_takeSign_8 : decode cX2_takeSign 8 = .ok (.iconst 0, 1) := by decide +kernel
theorem dX2_takeSign_9 : decode cX2_takeSign 9 = .ok (.aload_n 1, 1) := by decide +kernel
theorem dX2_takeSign_10 : decode cX2_takeSign 10 = .ok (.iload_n 2, 1) := by decide +kernel
theorem dX2_takeSign_11 : decode cX2_takeSign 11 = .ok (.iconst 1, 1) := by decide +kernel
theorem dX2_takeSign_12 : decode cX2_takeSign 12 = .ok (.invokevirtual 45, 3) := by decide +kernel
theorem dX2_takeSign_15 : decode cX2_takeSign 15 = .ok (.bipush 20, 2) := by decide +kernel
theorem dX2_takeSign_17 : decode cX2_takeSign 17 = .ok (.invokestatic 89, 3) := by decide +kernel
theorem dX2_takeSign_20 : decode cX2_takeSign 20 = .ok (.invokestatic 97, 3) := by decide +kernel
theorem dX2_takeSign_23 : decode cX2_takeSign 23 = .ok (.istore 5, 2) := by decide +kernel
theorem dX2_takeSign_25 : decode cX2_takeSign 25 = .ok (.aload_n 1, 1) := by decide +kernel
theorem dX2_takeSign_26 : decode cX2_takeSign 26 = .ok (.iload_n 2, 1) := by decide +kernel
theorem dX2_takeSign_27 : decode cX2_takeSign 27 = .ok (.iconst 3, 1) := by decide +kernel
theorem dX2_takeSign_28 : decode cX2_takeSign 28 = .ok (.invokevirtual 45, 3) := by decide +kernel
theorem dX2_takeSign_31 : decode cX2_takeSign 31 = .ok (.bipush 39, 2) := by decide +kernel
theorem dX2_takeSign_33 : decode cX2_takeSign 33 = .ok (.invokestatic 89, 3) := by decide +kernel
theorem dX2_takeSign_36 : decode cX2_takeSign 36 = .ok (.istore 6, 2) := by decide +kernel
theorem dX2_takeSign_38 : decode cX2_takeSign 38 = .ok (.iconst 0, 1) := by decide +kernel
theorem dX2_takeSign_39 : decode cX2_takeSign 39 = .ok (.aload_n 1, 1) := by decide +kernel
theorem dX2_takeSign_40 : decode cX2_takeSign 40 = .ok (.iload_n 2, 1) := by decide +kernel
theorem dX2_takeSign_41 : decode cX2_takeSign 41 = .ok (.iconst 2, 1) := by decide +kernel
theorem dX2_takeSign_42 : decode cX2_takeSign 42 = .ok (.invokevirtual 45, 3) := by decide +kernel
theorem dX2_takeSign_45 : decode cX2_takeSign 45 = .ok (.invokestatic 97, 3) := by decide +kernel
theorem dX2_takeSign_48 : decode cX2_takeSign 48 = .ok (.istore 7, 2) := by decide +kernel
theorem dX2_takeSign_50 : decode cX2_takeSign 50 = .ok (.iload 7, 2) := by decide +kernel
theorem dX2_takeSign_52 : decode cX2_takeSign 52 = .ok (.iload 6, 2) := by decide +kernel
theorem dX2_takeSign_54 : decode cX2_takeSign 54 = .ok (.if_icmp .gt 81, 3) := by decide +kernel
theorem dX2_takeSign_57 : decode cX2_takeSign 57 = .ok (.iload 4, 2) := by decide +kernel
theorem dX2_takeSign_59 : decode cX2_takeSign 59 = .ok (.ifCond .ne 23, 3) := by decide +kernel
theorem dX2_takeSign_62 : decode cX2_takeSign 62 = .ok (.aload_n 0, 1) := by decide +kernel
theorem dX2_takeSign_63 : decode cX2_takeSign 63 = .ok (.getfield 21, 3) := by decide +kernel
theorem dX2_takeSign_66 : decode cX2_takeSign 66 = .ok (.bipush 21, 2) := by decide +kernel
theorem dX2_takeSign_68 : decode cX2_takeSign 68 = .ok (.iload 7, 2) := by decide +kernel
theorem dX2_takeSign_70 : decode cX2_takeSign 70 = .ok (.imul, 1) := by decide +kernel
theorem dX2_takeSign_71 : decode cX2_takeSign 71 = .ok (.iload 5, 2) := by decide +kernel
theorem dX2_takeSign_73 : decode cX2_takeSign 73 = .ok (.iadd, 1) := by decide +kernel
theorem dX2_takeSign_74 : decode cX2_takeSign 74 = .ok (.dup2, 1) := by decide +kernel
theorem dX2_takeSign_75 : decode cX2_takeSign 75 = .ok (.iaload, 1) := by decide +kernel
theorem dX2_takeSign_76 : decode cX2_takeSign 76 = .ok (.iload_n 3, 1) := by decide +kernel
theorem dX2_takeSign_77 : decode cX2_takeSign 77 = .ok (.ior, 1) := by decide +kernel
theorem dX2_takeSign_78 : decode cX2_takeSign 78 = .ok (.iastore, 1) := by decide +kernel
theorem dX2_takeSign_79 : decode cX2_takeSign 79 = .ok (.goto 50, 3) := by decide +kernel
theorem dX2_takeSign_82 : decode cX2_takeSign 82 = .ok (.iload 4, 2) := by decide +kernel
theorem dX2_takeSign_84 : decode cX2_takeSign 84 = .ok (.iconst 1, 1) := by decide +kernel
theorem dX2_takeSign_85 : decode cX2_takeSign 85 = .ok (.if_icmp .ne 25, 3) := by decide +kernel
theorem dX2_takeSign_88 : decode cX2_takeSign 88 = .ok (.aload_n 0, 1) := by decide +kernel
theorem dX2_takeSign_89 : decode cX2_takeSign 89 = .ok (.getfield 18, 3) := by decide +kernel
theorem dX2_takeSign_92 : decode cX2_takeSign 92 = .ok (.iload 7, 2) := by decide +kernel
theorem dX2_takeSign_94 : decode cX2_takeSign 94 = .ok (.aload_n 0, 1) := by decide +kernel
theorem dX2_takeSign_95 : decode cX2_takeSign 95 = .ok (.getfield 18, 3) := by decide +kernel
theorem dX2_takeSign_98 : decode cX2_takeSign 98 = .ok (.iload 7, 2) := by decide +kernel
theorem dX2_takeSign_100 : decode cX2_takeSign 100 = .ok (.iaload, 1) := by decide +kernel
theorem dX2_takeSign_101 : decode cX2_takeSign 101 = .ok (.iload 5, 2) := by decide +kernel
theorem dX2_takeSign_103 : decode cX2_takeSign 103 = .ok (.invokestatic 89, 3) := by decide +kernel
theorem dX2_takeSign_106 : decode cX2_takeSign 106 = .ok (.iastore, 1) := by decide +kernel
theorem dX2_takeSign_107 : decode cX2_takeSign 107 = .ok (.goto 22, 3) := by decide +kernel
theorem dX2_takeSign_110 : decode cX2_takeSign 110 = .ok (.aload_n 0, 1) := by decide +kernel
theorem dX2_takeSign_111 : decode cX2_takeSign 111 = .ok (.getfield 15, 3) := by decide +kernel
theorem dX2_takeSign_114 : decode cX2_takeSign 114 = .ok (.iload 7, 2) := by decide +kernel
theorem dX2_takeSign_116 : decode cX2_takeSign 116 = .ok (.aload_n 0, 1) := by decide +kernel
theorem dX2_takeSign_117 : decode cX2_takeSign 117 = .ok (.getfield 15, 3) := by decide +kernel
theorem dX2_takeSign_120 : decode cX2_takeSign 120 = .ok (.iload 7, 2) := by decide +kernel
theorem dX2_takeSign_122 : decode cX2_takeSign 122 = .ok (.iaload, 1) := by decide +kernel
theorem dX2_takeSign_123 : decode cX2_takeSign 123 = .ok (.iload 5, 2) := by decide +kernel
theorem dX2_takeSign_125 : decode cX2_takeSign 125 = .ok (.invokestatic 97, 3) := by decide +kernel
theorem dX2_takeSign_128 : decode cX2_takeSign 128 = .ok (.iastore, 1) := by decide +kernel
theorem dX2_takeSign_129 : decode cX2_takeSign 129 = .ok (.iinc 7 1, 3) := by decide +kernel
theorem dX2_takeSign_132 : decode cX2_takeSign 132 = .ok (.goto (-82), 3) := by decide +kernel
theorem dX2_takeSign_135 : decode cX2_takeSign 135 = .ok (.return_, 1) := by decide +kernel
theorem dX2_findWaysFrom_0 : decode cX2_findWaysFrom 0 = .ok (.iconst 0, 1) := by decide +kernel
theorem dX2_findWaysFrom_1 : decode cX2_findWaysFrom 1 = .ok (.istore_n 2, 1) := by decide +kernel
theorem dX2_findWaysFrom_2 : decode cX2_findWaysFrom 2 = .ok (.iload_n 2, 1) := by decide +kernel
theorem dX2_findWaysFrom_3 : decode cX2_findWaysFrom 3 = .ok (.aload_n 0, 1) := by decide +kernel
theorem dX2_findWaysFrom_4 : decode cX2_findWaysFrom 4 = .ok (.getfield 94, 3) := by decide +kernel
theorem dX2_findWaysFrom_7 : decode cX2_findWaysFrom 7 = .ok (.if_icmp .gt 41, 3) := by decide +kernel
theorem dX2_findWaysFrom_10 : decode cX2_findWaysFrom 10 = .ok (.iconst 0, 1) := by decide +kernel
theorem dX2_findWaysFrom_11 : decode cX2_findWaysFrom 11 = .ok (.istore_n 3, 1) := by decide +kernel
theorem dX2_findWaysFrom_12 : decode cX2_findWaysFrom 12 = .ok (.iload_n 3, 1) := by decide +kernel
theorem dX2_findWaysFrom_13 : decode cX2_findWaysFrom 13 = .ok (.bipush 21, 2) := by decide +kernel
theorem dX2_findWaysFrom_15 : decode cX2_findWaysFrom 15 = .ok (.if_icmp .ge 27, 3) := by decide +kernel
theorem dX2_findWaysFrom_18 : decode cX2_findWaysFrom 18 = .ok (.aload_n 0, 1) := by decide +kernel
theorem dX2_findWaysFrom_19 : decode cX2_findWaysFrom 19 = .ok (.getfield 11, 3) := by decide +kernel
theorem dX2_findWaysFrom_22 : decode cX2_findWaysFrom 22 = .ok (.iload_n 1, 1) := by decide +kernel
theorem dX2_findWaysFrom_23 : decode cX2_findWaysFrom 23 = .ok (.iload_n 2, 1) := by decide +kernel
theorem dX2_findWaysFrom_24 : decode cX2_findWaysFrom 24 = .ok (.iload_n 3, 1) := by decide +kernel
theorem dX2_findWaysFrom_25 : decode cX2_findWaysFrom 25 = .ok (.invokestatic 100, 3) := by decide +kernel
theorem dX2_findWaysFrom_28 : decode cX2_findWaysFrom 28 = .ok (.aload_n 0, 1) := by decide +kernel
theorem dX2_findWaysFrom_29 : decode cX2_findWaysFrom 29 = .ok (.iload_n 1, 1) := by decide +kernel
theorem dX2_findWaysFrom_30 : decode cX2_findWaysFrom 30 = .ok (.iload_n 2, 1) := by decide +kernel
theorem dX2_findWaysFrom_31 : decode cX2_findWaysFrom 31 = .ok (.iload_n 3, 1) := by decide +kernel
theorem dX2_findWaysFrom_32 : decode cX2_findWaysFrom 32 = .ok (.invokevirtual 104, 3) := by decide +kernel
theorem dX2_findWaysFrom_35 : decode cX2_findWaysFrom 35 = .ok (.iastore, 1) := by decide +kernel
theorem dX2_findWaysFrom_36 : decode cX2_findWaysFrom 36 = .ok (.iinc 3 1, 3) := by decide +kernel
theorem dX2_findWaysFrom_39 : decode cX2_findWaysFrom 39 = .ok (.goto (-27), 3) := by decide +kernel
theorem dX2_findWaysFrom_42 : decode cX2_findWaysFrom 42 = .ok (.iinc 2 1, 3) := by decide +kernel
theorem dX2_findWaysFrom_45 : decode cX2_findWaysFrom 45 = .ok (.goto (-43), 3) := by decide +kernel
theorem dX2_findWaysFrom_48 : decode cX2_findWaysFrom 48 = .ok (.return_, 1) := by decide +kernel
theorem dX2_leastWayFrom_0 : decode cX2_leastWayFrom 0 = .ok (.iload_n 3, 1) := by decide +kernel
theorem dX2_leastWayFrom_1 : decode cX2_leastWayFrom 1 = .ok (.aload_n 0, 1) := by decide +kernel
theorem dX2_leastWayFrom_2 : decode cX2_leastWayFrom 2 = .ok (.getfield 15, 3) := by decide +kernel
theorem dX2_leastWayFrom_5 : decode cX2_leastWayFrom 5 = .ok (.iload_n 1, 1) := by decide +kernel
theorem dX2_leastWayFrom_6 : decode cX2_leastWayFrom 6 = .ok (.iaload, 1) := by decide +kernel
theorem dX2_leastWayFrom_7 : decode cX2_leastWayFrom 7 = .ok (.if_icmp .lt 13, 3) := by decide +kernel
theorem dX2_leastWayFrom_10 : decode cX2_leastWayFrom 10 = .ok (.iload_n 3, 1) := by decide +kernel
theorem dX2_leastWayFrom_11 : decode cX2_leastWayFrom 11 = .ok (.aload_n 0, 1) := by decide +kernel
theorem dX2_leastWayFrom_12 : decode cX2_leastWayFrom 12 = .ok (.getfield 18, 3) := by decide +kernel
theorem dX2_leastWayFrom_15 : decode cX2_leastWayFrom 15 = .ok (.iload_n 1, 1) := by decide +kernel
theorem dX2_leastWayFrom_16 : decode cX2_leastWayFrom 16 = .ok (.iaload, 1) := by decide +kernel
theorem dX2_leastWayFrom_17 : decode cX2_leastWayFrom 17 = .ok (.if_icmp .le 6, 3) := by decide +kernel
theorem dX2_leastWayFrom_20 : decode cX2_leastWayFrom 20 = .ok (.ldc 107, 2) := by decide +kernel
theorem dX2_leastWayFrom_22 : decode cX2_leastWayFrom 22 = .ok (.ireturn, 1) := by decide +kernel
theorem dX2_leastWayFrom_23 : decode cX2_leastWayFrom 23 = .ok (.iload_n 2, 1) := by decide +kernel
theorem dX2_leastWayFrom_24 : decode cX2_leastWayFrom 24 = .ok (.aload_n 0, 1) := by decide +kernel
theorem dX2_leastWayFrom_25 : decode cX2_leastWayFrom 25 = .ok (.getfield 21, 3) := by decide +kernel
theorem dX2_leastWayFrom_28 : decode cX2_leastWayFrom 28 = .ok (.bipush 21, 2) := by decide +kernel
theorem dX2_leastWayFrom_30 : decode cX2_leastWayFrom 30 = .ok (.iload_n 1, 1) := by decide +kernel
theorem dX2_leastWayFrom_31 : decode cX2_leastWayFrom 31 = .ok (.imul, 1) := by decide +kernel
theorem dX2_leastWayFrom_32 : decode cX2_leastWayFrom 32 = .ok (.iload_n 3, 1) := by decide +kernel
theorem dX2_leastWayFrom_33 : decode cX2_leastWayFrom 33 = .ok (.iadd, 1) := by decide +kernel
theorem dX2_leastWayFrom_34 : decode cX2_leastWayFrom 34 = .ok (.iaload, 1) := by decide +kernel
theorem dX2_leastWayFrom_35 : decode cX2_leastWayFrom 35 = .ok (.ior, 1) := by decide +kernel
theorem dX2_leastWayFrom_36 : decode cX2_leastWayFrom 36 = .ok (.aload_n 0, 1) := by decide +kernel
theorem dX2_leastWayFrom_37 : decode cX2_leastWayFrom 37 = .ok (.getfield 94, 3) := by decide +kernel
theorem dX2_leastWayFrom_40 : decode cX2_leastWayFrom 40 = .ok (.iand, 1) := by decide +kernel
theorem dX2_leastWayFrom_41 : decode cX2_leastWayFrom 41 = .ok (.istore 4, 2) := by decide +kernel
theorem dX2_leastWayFrom_43 : decode cX2_leastWayFrom 43 = .ok (.iload_n 1, 1) := by decide +kernel
theorem dX2_leastWayFrom_44 : decode cX2_leastWayFrom 44 = .ok (.bipush 39, 2) := by decide +kernel
theorem dX2_leastWayFrom_46 : decode cX2_leastWayFrom 46 = .ok (.if_icmp .ne 19, 3) := by decide +kernel
theorem dX2_leastWayFrom_49 : decode cX2_leastWayFrom 49 = .ok (.iload 4, 2) := by decide +kernel
theorem dX2_leastWayFrom_51 : decode cX2_leastWayFrom 51 = .ok (.aload_n 0, 1) := by decide +kernel
theorem dX2_leastWayFrom_52 : decode cX2_leastWayFrom 52 = .ok (.getfield 94, 3) := by decide +kernel
theorem dX2_leastWayFrom_55 : decode cX2_leastWayFrom 55 = .ok (.if_icmp .ne 7, 3) := by decide +kernel
theorem dX2_leastWayFrom_58 : decode cX2_leastWayFrom 58 = .ok (.iconst 0, 1) := by decide +kernel
theorem dX2_leastWayFrom_59 : decode cX2_leastWayFrom 59 = .ok (.goto 5, 3) := by decide +kernel
theorem dX2_leastWayFrom_62 : decode cX2_leastWayFrom 62 = .ok (.ldc 107, 2) := by decide +kernel
theorem dX2_leastWayFrom_64 : decode cX2_leastWayFrom 64 = .ok (.ireturn, 1) := by decide +kernel
theorem dX2_leastWayFrom_65 : decode cX2_leastWayFrom 65 = .ok (.ldc 107, 2) := by decide +kernel
theorem dX2_leastWayFrom_67 : decode cX2_leastWayFrom 67 = .ok (.istore 5, 2) := by decide +kernel
theorem dX2_leastWayFrom_69 : decode cX2_leastWayFrom 69 = .ok (.bipush 20, 2) := by decide +kernel
theorem dX2_leastWayFrom_71 : decode cX2_leastWayFrom 71 = .ok (.iload_n 3, 1) := by decide +kernel
theorem dX2_leastWayFrom_72 : decode cX2_leastWayFrom 72 = .ok (.aload_n 0, 1) := by decide +kernel
theorem dX2_leastWayFrom_73 : decode cX2_leastWayFrom 73 = .ok (.getfield 56, 3) := by decide +kernel
theorem dX2_leastWayFrom_76 : decode cX2_leastWayFrom 76 = .ok (.iadd, 1) := by decide +kernel
theorem dX2_leastWayFrom_77 : decode cX2_leastWayFrom 77 = .ok (.invokestatic 89, 3) := by decide +kernel
theorem dX2_leastWayFrom_80 : decode cX2_leastWayFrom 80 = .ok (.istore 6, 2) := by decide +kernel
theorem dX2_leastWayFrom_82 : decode cX2_leastWayFrom 82 = .ok (.iconst 0, 1) := by decide +kernel
theorem dX2_leastWayFrom_83 : decode cX2_leastWayFrom 83 = .ok (.iload_n 3, 1) := by decide +kernel
theorem dX2_leastWayFrom_84 : decode cX2_leastWayFrom 84 = .ok (.aload_n 0, 1) := by decide +kernel
theorem dX2_leastWayFrom_85 : decode cX2_leastWayFrom 85 = .ok (.getfield 56, 3) := by decide +kernel
theorem dX2_leastWayFrom_88 : decode cX2_leastWayFrom 88 = .ok (.isub, 1) := by decide +kernel
theorem dX2_leastWayFrom_89 : decode cX2_leastWayFrom 89 = .ok (.invokestatic 97, 3) := by decide +kernel
theorem dX2_leastWayFrom_92 : decode cX2_leastWayFrom 92 = .ok (.istore 7, 2) := by decide +kernel
theorem dX2_leastWayFrom_94 : decode cX2_leastWayFrom 94 = .ok (.iload 7, 2) := by decide +kernel
theorem dX2_leastWayFrom_96 : decode cX2_leastWayFrom 96 = .ok (.iload 6, 2) := by decide +kernel
theorem dX2_leastWayFrom_98 : decode cX2_leastWayFrom 98 = .ok (.if_icmp .gt 39, 3) := by decide +kernel
theorem dX2_leastWayFrom_101 : decode cX2_leastWayFrom 101 = .ok (.iload 5, 2) := by decide +kernel
theorem dX2_leastWayFrom_103 : decode cX2_leastWayFrom 103 = .ok (.iload 7, 2) := by decide +kernel
theorem dX2_leastWayFrom_105 : decode cX2_leastWayFrom 105 = .ok (.iload_n 3, 1) := by decide +kernel
theorem dX2_leastWayFrom_106 : decode cX2_leastWayFrom 106 = .ok (.isub, 1) := by decide +kernel
theorem dX2_leastWayFrom_107 : decode cX2_leastWayFrom 107 = .ok (.invokestatic 108, 3) := by decide +kernel
theorem dX2_leastWayFrom_110 : decode cX2_leastWayFrom 110 = .ok (.aload_n 0, 1) := by decide +kernel
theorem dX2_leastWayFrom_111 : decode cX2_leastWayFrom 111 = .ok (.getfield 11, 3) := by decide +kernel
theorem dX2_leastWayFrom_114 : decode cX2_leastWayFrom 114 = .ok (.iload_n 1, 1) := by decide +kernel
theorem dX2_leastWayFrom_115 : decode cX2_leastWayFrom 115 = .ok (.iconst 1, 1) := by decide +kernel
theorem dX2_leastWayFrom_116 : decode cX2_leastWayFrom 116 = .ok (.iadd, 1) := by decide +kernel
theorem dX2_leastWayFrom_117 : decode cX2_leastWayFrom 117 = .ok (.iload 4, 2) := by decide +kernel
theorem dX2_leastWayFrom_119 : decode cX2_leastWayFrom 119 = .ok (.iload 7, 2) := by decide +kernel
theorem dX2_leastWayFrom_121 : decode cX2_leastWayFrom 121 = .ok (.invokestatic 100, 3) := by decide +kernel
theorem dX2_leastWayFrom_124 : decode cX2_leastWayFrom 124 = .ok (.iaload, 1) := by decide +kernel
theorem dX2_leastWayFrom_125 : decode cX2_leastWayFrom 125 = .ok (.iadd, 1) := by decide +kernel
theorem dX2_leastWayFrom_126 : decode cX2_leastWayFrom 126 = .ok (.invokestatic 89, 3) := by decide +kernel
theorem dX2_leastWayFrom_129 : decode cX2_leastWayFrom 129 = .ok (.istore 5, 2) := by decide +kernel
theorem dX2_leastWayFrom_131 : decode cX2_leastWayFrom 131 = .ok (.iinc 7 1, 3) := by decide +kernel
theorem dX2_leastWayFrom_134 : decode cX2_leastWayFrom 134 = .ok (.goto (-40), 3) := by decide +kernel
theorem dX2_leastWayFrom_137 : decode cX2_leastWayFrom 137 = .ok (.iload 5, 2) := by decide +kernel
theorem dX2_leastWayFrom_139 : decode cX2_leastWayFrom 139 = .ok (.ireturn, 1) := by decide +kernel
theorem dX2_followFirstRow_0 : decode cX2_followFirstRow 0 = .ok (.iconst 0, 1) := by decide +kernel
theorem dX2_followFirstRow_1 : decode cX2_followFirstRow 1 = .ok (.istore_n 1, 1) := by decide +kernel
theorem dX2_followFirstRow_2 : decode cX2_followFirstRow 2 = .ok (.aload_n 0, 1) := by decide +kernel
theorem dX2_followFirstRow_3 : decode cX2_followFirstRow 3 = .ok (.iconst 0, 1) := by decide +kernel
theorem dX2_followFirstRow_4 : decode cX2_followFirstRow 4 = .ok (.iload_n 1, 1) := by decide +kernel
theorem dX2_followFirstRow_5 : decode cX2_followFirstRow 5 = .ok (.iconst 0, 1) := by decide +kernel
theorem dX2_followFirstRow_6 : decode cX2_followFirstRow 6 = .ok (.bipush 20, 2) := by decide +kernel
theorem dX2_followFirstRow_8 : decode cX2_followFirstRow 8 = .ok (.iconst 0, 1) := by decide +kernel
theorem dX2_followFirstRow_9 : decode cX2_followFirstRow 9 = .ok (.invokevirtual 112, 3) := by decide +kernel
theorem dX2_followFirstRow_12 : decode cX2_followFirstRow 12 = .ok (.istore_n 2, 1) := by decide +kernel
theorem dX2_followFirstRow_13 : decode cX2_followFirstRow 13 = .ok (.aload_n 0, 1) := by decide +kernel
theorem dX2_followFirstRow_14 : decode cX2_followFirstRow 14 = .ok (.aload_n 0, 1) := by decide +kernel
theorem dX2_followFirstRow_15 : decode cX2_followFirstRow 15 = .ok (.getfield 11, 3) := by decide +kernel
theorem dX2_followFirstRow_18 : decode cX2_followFirstRow 18 = .ok (.iconst 0, 1) := by decide +kernel
theorem dX2_followFirstRow_19 : decode cX2_followFirstRow 19 = .ok (.iload_n 1, 1) := by decide +kernel
theorem dX2_followFirstRow_20 : decode cX2_followFirstRow 20 = .ok (.iload_n 2, 1) := by decide +kernel
theorem dX2_followFirstRow_21 : decode cX2_followFirstRow 21 = .ok (.invokestatic 100, 3) := by decide +kernel
theorem dX2_followFirstRow_24 : decode cX2_followFirstRow 24 = .ok (.iaload, 1) := by decide +kernel
theorem dX2_followFirstRow_25 : decode cX2_followFirstRow 25 = .ok (.putfield 49, 3) := by decide +kernel
theorem dX2_followFirstRow_28 : decode cX2_followFirstRow 28 = .ok (.aload_n 0, 1) := by decide +kernel
theorem dX2_followFirstRow_29 : decode cX2_followFirstRow 29 = .ok (.getfield 49, 3) := by decide +kernel
theorem dX2_followFirstRow_32 : decode cX2_followFirstRow 32 = .ok (.ldc 107, 2) := by decide +kernel
theorem dX2_followFirstRow_34 : decode cX2_followFirstRow 34 = .ok (.if_icmp .lt 9, 3) := by decide +kernel
theorem dX2_followFirstRow_37 : decode cX2_followFirstRow 37 = .ok (.aload_n 0, 1) := by decide +kernel
theorem dX2_followFirstRow_38 : decode cX2_followFirstRow 38 = .ok (.iconst (-1), 1) := by decide +kernel
theorem dX2_followFirstRow_39 : decode cX2_followFirstRow 39 = .ok (.putfield 49, 3) := by decide +kernel
theorem dX2_followFirstRow_42 : decode cX2_followFirstRow 42 = .ok (.return_, 1) := by decide +kernel
theorem dX2_followFirstRow_43 : decode cX2_followFirstRow 43 = .ok (.iconst 0, 1) := by decide +kernel
theorem dX2_followFirstRow_44 : decode cX2_followFirstRow 44 = .ok (.istore_n 3, 1) := by decide +kernel
theorem dX2_followFirstRow_45 : decode cX2_followFirstRow 45 = .ok (.iload_n 3, 1) := by decide +kernel
theorem dX2_followFirstRow_46 : decode cX2_followFirstRow 46 = .ok (.bipush 40, 2) := by decide +kernel
theorem dX2_followFirstRow_48 : decode cX2_followFirstRow 48 = .ok (.if_icmp .ge 68, 3) := by decide +kernel
theorem dX2_followFirstRow_51 : decode cX2_followFirstRow 51 = .ok (.iload_n 3, 1) := by decide +kernel
theorem dX2_followFirstRow_52 : decode cX2_followFirstRow 52 = .ok (.ifCond .le 32, 3) := by decide +kernel
theorem dX2_followFirstRow_55 : decode cX2_followFirstRow 55 = .ok (.aload_n 0, 1) := by decide +kernel
theorem dX2_followFirstRow_56 : decode cX2_followFirstRow 56 = .ok (.iload_n 3, 1) := by decide +kernel
theorem dX2_followFirstRow_57 : decode cX2_followFirstRow 57 = .ok (.iload_n 1, 1) := by decide +kernel
theorem dX2_followFirstRow_58 : decode cX2_followFirstRow 58 = .ok (.iconst 0, 1) := by decide +kernel
theorem dX2_followFirstRow_59 : decode cX2_followFirstRow 59 = .ok (.iload_n 2, 1) := by decide +kernel
theorem dX2_followFirstRow_60 : decode cX2_followFirstRow 60 = .ok (.aload_n 0, 1) := by decide +kernel
theorem dX2_followFirstRow_61 : decode cX2_followFirstRow 61 = .ok (.getfield 56, 3) := by decide +kernel
theorem dX2_followFirstRow_64 : decode cX2_followFirstRow 64 = .ok (.isub, 1) := by decide +kernel
theorem dX2_followFirstRow_65 : decode cX2_followFirstRow 65 = .ok (.invokestatic 97, 3) := by decide +kernel
theorem dX2_followFirstRow_68 : decode cX2_followFirstRow 68 = .ok (.bipush 20, 2) := by decide +kernel
theorem dX2_followFirstRow_70 : decode cX2_followFirstRow 70 = .ok (.iload_n 2, 1) := by decide +kernel
theorem dX2_followFirstRow_71 : decode cX2_followFirstRow 71 = .ok (.aload_n 0, 1) := by decide +kernel
theorem dX2_followFirstRow_72 : decode cX2_followFirstRow 72 = .ok (.getfield 56, 3) := by decide +kernel
theorem dX2_followFirstRow_75 : decode cX2_followFirstRow 75 = .ok (.iadd, 1) := by decide +kernel
theorem dX2_followFirstRow_76 : decode cX2_followFirstRow 76 = .ok (.invokestatic 89, 3) := by decide +kernel
theorem dX2_followFirstRow_79 : decode cX2_followFirstRow 79 = .ok (.iload_n 2, 1) := by decide +kernel
theorem dX2_followFirstRow_80 : decode cX2_followFirstRow 80 = .ok (.invokevirtual 112, 3) := by decide +kernel
theorem dX2_followFirstRow_83 : decode cX2_followFirstRow 83 = .ok (.istore_n 2, 1) := by decide +kernel
theorem dX2_followFirstRow_84 : decode cX2_followFirstRow 84 = .ok (.aload_n 0, 1) := by decide +kernel
theorem dX2_followFirstRow_85 : decode cX2_followFirstRow 85 = .ok (.getfield 24, 3) := by decide +kernel
theorem dX2_followFirstRow_88 : decode cX2_followFirstRow 88 = .ok (.iload_n 3, 1) := by decide +kernel
theorem dX2_followFirstRow_89 : decode cX2_followFirstRow 89 = .ok (.iload_n 2, 1) := by decide +kernel
theorem dX2_followFirstRow_90 : decode cX2_followFirstRow 90 = .ok (.iastore, 1) := by decide +kernel
theorem dX2_followFirstRow_91 : decode cX2_followFirstRow 91 = .ok (.iload_n 1, 1) := by decide +kernel
theorem dX2_followFirstRow_92 : decode cX2_followFirstRow 92 = .ok (.aload_n 0, 1) := by decide +kernel
theorem dX2_followFirstRow_93 : decode cX2_followFirstRow 93 = .ok (.getfield 21, 3) := by decide +kernel
theorem dX2_followFirstRow_96 : decode cX2_followFirstRow 96 = .ok (.bipush 21, 2) := by decide +kernel
theorem dX2_followFirstRow_98 : decode cX2_followFirstRow 98 = .ok (.iload_n 3, 1) := by decide +kernel
theorem dX2_followFirstRow_99 : decode cX2_followFirstRow 99 = .ok (.imul, 1) := by decide +kernel
theorem dX2_followFirstRow_100 : decode cX2_followFirstRow 100 = .ok (.iload_n 2, 1) := by decide +kernel
theorem dX2_followFirstRow_101 : decode cX2_followFirstRow 101 = .ok (.iadd, 1) := by decide +kernel
theorem dX2_followFirstRow_102 : decode cX2_followFirstRow 102 = .ok (.iaload, 1) := by decide +kernel
theorem dX2_followFirstRow_103 : decode cX2_followFirstRow 103 = .ok (.ior, 1) := by decide +kernel
theorem dX2_followFirstRow_104 : decode cX2_followFirstRow 104 = .ok (.aload_n 0, 1) := by decide +kernel
theorem dX2_followFirstRow_105 : decode cX2_followFirstRow 105 = .ok (.getfield 94, 3) := by decide +kernel
theorem dX2_followFirstRow_108 : decode cX2_followFirstRow 108 = .ok (.iand, 1) := by decide +kernel
theorem dX2_followFirstRow_109 : decode cX2_followFirstRow 109 = .ok (.istore_n 1, 1) := by decide +kernel
theorem dX2_followFirstRow_110 : decode cX2_followFirstRow 110 = .ok (.iinc 3 1, 3) := by decide +kernel
theorem dX2_followFirstRow_113 : decode cX2_followFirstRow 113 = .ok (.goto (-68), 3) := by decide +kernel
theorem dX2_followFirstRow_116 : decode cX2_followFirstRow 116 = .ok (.return_, 1) := by decide +kernel
theorem dX2_leastFront_0 : decode cX2_leastFront 0 = .ok (.iload_n 3, 1) := by decide +kernel
theorem dX2_leastFront_1 : decode cX2_leastFront 1 = .ok (.istore 6, 2) := by decide +kernel
theorem dX2_leastFront_3 : decode cX2_leastFront 3 = .ok (.ldc 107, 2) := by decide +kernel
theorem dX2_leastFront_5 : decode cX2_leastFront 5 = .ok (.istore 7, 2) := by decide +kernel
theorem dX2_leastFront_7 : decode cX2_leastFront 7 = .ok (.iload_n 3, 1) := by decide +kernel
theorem dX2_leastFront_8 : decode cX2_leastFront 8 = .ok (.istore 8, 2) := by decide +kernel
theorem dX2_leastFront_10 : decode cX2_leastFront 10 = .ok (.iload 8, 2) := by decide +kernel
theorem dX2_leastFront_12 : decode cX2_leastFront 12 = .ok (.iload 4, 2) := by decide +kernel
theorem dX2_leastFront_14 : decode cX2_leastFront 14 = .ok (.if_icmp .gt 59, 3) := by decide +kernel
theorem dX2_leastFront_17 : decode cX2_leastFront 17 = .ok (.iload_n 1, 1) := by decide +kernel
theorem dX2_leastFront_18 : decode cX2_leastFront 18 = .ok (.ifCond .ne 7, 3) := by decide +kernel
theorem dX2_leastFront_21 : decode cX2_leastFront 21 = .ok (.iconst 0, 1) := by decide +kernel
theorem dX2_leastFront_22 : decode cX2_leastFront 22 = .ok (.goto 11, 3) := by decide +kernel
theorem dX2_leastFront_25 : decode cX2_leastFront 25 = .ok (.iload 8, 2) := by decide +kernel
theorem dX2_leastFront_27 : decode cX2_leastFront 27 = .ok (.iload 5, 2) := by decide +kernel
theorem dX2_leastFront_29 : decode cX2_leastFront 29 = .ok (.isub, 1) := by decide +kernel
theorem dX2_leastFront_30 : decode cX2_leastFront 30 = .ok (.invokestatic 108, 3) := by decide +kernel
theorem dX2_leastFront_33 : decode cX2_leastFront 33 = .ok (.istore 9, 2) := by decide +kernel
theorem dX2_leastFront_35 : decode cX2_leastFront 35 = .ok (.iload 9, 2) := by decide +kernel
theorem dX2_leastFront_37 : decode cX2_leastFront 37 = .ok (.aload_n 0, 1) := by decide +kernel
theorem dX2_leastFront_38 : decode cX2_leastFront 38 = .ok (.getfield 11, 3) := by decide +kernel
theorem dX2_leastFront_41 : decode cX2_leastFront 41 = .ok (.iload_n 1, 1) := by decide +kernel
theorem dX2_leastFront_42 : decode cX2_leastFront 42 = .ok (.iload_n 2, 1) := by decide +kernel
theorem dX2_leastFront_43 : decode cX2_leastFront 43 = .ok (.iload 8, 2) := by decide +kernel
theorem dX2_leastFront_45 : decode cX2_leastFront 45 = .ok (.invokestatic 100, 3) := by decide +kernel
theorem dX2_leastFront_48 : decode cX2_leastFront 48 = .ok (.iaload, 1) := by decide +kernel
theorem dX2_leastFront_49 : decode cX2_leastFront 49 = .ok (.iadd, 1) := by decide +kernel
theorem dX2_leastFront_50 : decode cX2_leastFront 50 = .ok (.istore 10, 2) := by decide +kernel
theorem dX2_leastFront_52 : decode cX2_leastFront 52 = .ok (.iload 10, 2) := by decide +kernel
theorem dX2_leastFront_54 : decode cX2_leastFront 54 = .ok (.iload 7, 2) := by decide +kernel
theorem dX2_leastFront_56 : decode cX2_leastFront 56 = .ok (.if_icmp .ge 11, 3) := by decide +kernel
theorem dX2_leastFront_59 : decode cX2_leastFront 59 = .ok (.iload 8, 2) := by decide +kernel
theorem dX2_leastFront_61 : decode cX2_leastFront 61 = .ok (.istore 6, 2) := by decide +kernel
theorem dX2_leastFront_63 : decode cX2_leastFront 63 = .ok (.iload 10, 2) := by decide +kernel
theorem dX2_leastFront_65 : decode cX2_leastFront 65 = .ok (.istore 7, 2) := by decide +kernel
theorem dX2_leastFront_67 : decode cX2_leastFront 67 = .ok (.iinc 8 1, 3) := by decide +kernel
theorem dX2_leastFront_70 : decode cX2_leastFront 70 = .ok (.goto (-60), 3) := by decide +kernel
theorem dX2_leastFront_73 : decode cX2_leastFront 73 = .ok (.iload 6, 2) := by decide +kernel
theorem dX2_leastFront_75 : decode cX2_leastFront 75 = .ok (.ireturn, 1) := by decide +kernel
theorem dX2_wayAt_0 : decode cX2_wayAt 0 = .ok (.iload_n 0, 1) := by decide +kernel
theorem dX2_wayAt_1 : decode cX2_wayAt 1 = .ok (.bipush 32, 2) := by decide +kernel
theorem dX2_wayAt_3 : decode cX2_wayAt 3 = .ok (.imul, 1) := by decide +kernel
theorem dX2_wayAt_4 : decode cX2_wayAt 4 = .ok (.iload_n 1, 1) := by decide +kernel
theorem dX2_wayAt_5 : decode cX2_wayAt 5 = .ok (.iadd, 1) := by decide +kernel
theorem dX2_wayAt_6 : decode cX2_wayAt 6 = .ok (.bipush 21, 2) := by decide +kernel
theorem dX2_wayAt_8 : decode cX2_wayAt 8 = .ok (.imul, 1) := by decide +kernel
theorem dX2_wayAt_9 : decode cX2_wayAt 9 = .ok (.iload_n 2, 1) := by decide +kernel
theorem dX2_wayAt_10 : decode cX2_wayAt 10 = .ok (.iadd, 1) := by decide +kernel
theorem dX2_wayAt_11 : decode cX2_wayAt 11 = .ok (.ireturn, 1) := by decide +kernel
theorem dX3_init_0 : decode cX3_init 0 = .ok (.aload_n 0, 1) := by decide +kernel
theorem dX3_init_1 : decode cX3_init 1 = .ok (.invokespecial 1, 3) := by decide +kernel
theorem dX3_init_4 : decode cX3_init 4 = .ok (.aload_n 0, 1) := by decide +kernel
theorem dX3_init_5 : decode cX3_init 5 = .ok (.bipush 20, 2) := by decide +kernel
theorem dX3_init_7 : decode cX3_init 7 = .ok (.newarray .int, 2) := by decide +kernel
theorem dX3_init_9 : decode cX3_init 9 = .ok (.putfield 9, 3) := by decide +kernel
theorem dX3_init_12 : decode cX3_init 12 = .ok (.return_, 1) := by decide +kernel
theorem dX3_volume_0 : decode cX3_volume 0 = .ok (.iconst 0, 1) := by decide +kernel
theorem dX3_volume_1 : decode cX3_volume 1 = .ok (.istore_n 3, 1) := by decide +kernel
theorem dX3_volume_2 : decode cX3_volume 2 = .ok (.iconst 0, 1) := by decide +kernel
theorem dX3_volume_3 : decode cX3_volume 3 = .ok (.iload_n 2, 1) := by decide +kernel
theorem dX3_volume_4 : decode cX3_volume 4 = .ok (.invokestatic 13, 3) := by decide +kernel
theorem dX3_volume_7 : decode cX3_volume 7 = .ok (.istore 4, 2) := by decide +kernel
theorem dX3_volume_9 : decode cX3_volume 9 = .ok (.iload 4, 2) := by decide +kernel
theorem dX3_volume_11 : decode cX3_volume 11 = .ok (.iload_n 1, 1) := by decide +kernel
theorem dX3_volume_12 : decode cX3_volume 12 = .ok (.if_icmp .ge 23, 3) := by decide +kernel
theorem dX3_volume_15 : decode cX3_volume 15 = .ok (.iload 4, 2) := by decide +kernel
theorem dX3_volume_17 : decode cX3_volume 17 = .ok (.aload_n 0, 1) := by decide +kernel
theorem dX3_volume_18 : decode cX3_volume 18 = .ok (.arraylength, 1) := by decide +kernel
theorem dX3_volume_19 : decode cX3_volume 19 = .ok (.if_icmp .ge 16, 3) := by decide +kernel
theorem dX3_volume_22 : decode cX3_volume 22 = .ok (.iload_n 3, 1) := by decide +kernel
theorem dX3_volume_23 : decode cX3_volume 23 = .ok (.aload_n 0, 1) := by decide +kernel
theorem dX3_volume_24 : decode cX3_volume 24 = .ok (.iload 4, 2) := by decide +kernel
theorem dX3_volume_26 : decode cX3_volume 26 = .ok (.iaload, 1) := by decide +kernel
theorem dX3_volume_27 : decode cX3_volume 27 = .ok (.iadd, 1) := by decide +kernel
theorem dX3_volume_28 : decode cX3_volume 28 = .ok (.istore_n 3, 1) := by decide +kernel
theorem dX3_volume_29 : decode cX3_volume 29 = .ok (.iinc 4 1, 3) := by decide +kernel
theorem dX3_volume_32 : decode cX3_volume 32 = .ok (.goto (-23), 3) := by decide +kernel
theorem dX3_volume_35 : decode cX3_volume 35 = .ok (.iload_n 3, 1) := by decide +kernel
theorem dX3_volume_36 : decode cX3_volume 36 = .ok (.ireturn, 1) := by decide +kernel
theorem dX3_hours_0 : decode cX3_hours 0 = .ok (.aload_n 0, 1) := by decide +kernel
theorem dX3_hours_1 : decode cX3_hours 1 = .ok (.getfield 19, 3) := by decide +kernel
theorem dX3_hours_4 : decode cX3_hours 4 = .ok (.ireturn, 1) := by decide +kernel
theorem dX3_greatest_0 : decode cX3_greatest 0 = .ok (.aload_n 0, 1) := by decide +kernel
theorem dX3_greatest_1 : decode cX3_greatest 1 = .ok (.getfield 23, 3) := by decide +kernel
theorem dX3_greatest_4 : decode cX3_greatest 4 = .ok (.ireturn, 1) := by decide +kernel
theorem dX3_run_0 : decode cX3_run 0 = .ok (.aload_n 1, 1) := by decide +kernel
theorem dX3_run_1 : decode cX3_run 1 = .ok (.getfield 26, 3) := by decide +kernel
theorem dX3_run_4 : decode cX3_run 4 = .ok (.iload_n 2, 1) := by decide +kernel
theorem dX3_run_5 : decode cX3_run 5 = .ok (.iload_n 3, 1) := by decide +kernel
theorem dX3_run_6 : decode cX3_run 6 = .ok (.invokestatic 31, 3) := by decide +kernel
theorem dX3_run_9 : decode cX3_run 9 = .ok (.istore 4, 2) := by decide +kernel
theorem dX3_run_11 : decode cX3_run 11 = .ok (.aload_n 1, 1) := by decide +kernel
theorem dX3_run_12 : decode cX3_run 12 = .ok (.getfield 26, 3) := by decide +kernel
theorem dX3_run_15 : decode cX3_run 15 = .ok (.iconst 0, 1) := by decide +kernel
theorem dX3_run_16 : decode cX3_run 16 = .ok (.aload_n 0, 1) := by decide +kernel
theorem dX3_run_17 : decode cX3_run 17 = .ok (.getfield 9, 3) := by decide +kernel
theorem dX3_run_20 : decode cX3_run 20 = .ok (.iconst 0, 1) := by decide +kernel
theorem dX3_run_21 : decode cX3_run 21 = .ok (.bipush 20, 2) := by decide +kernel
theorem dX3_run_23 : decode cX3_run 23 = .ok (.invokestatic 35, 3) := by decide +kernel
theorem dX3_run_26 : decode cX3_run 26 = .ok (.aload_n 0, 1) := by decide +kernel
theorem dX3_run_27 : decode cX3_run 27 = .ok (.iconst 0, 1) := by decide +kernel
theorem dX3_run_28 : decode cX3_run 28 = .ok (.putfield 19, 3) := by decide +kernel
theorem dX3_run_31 : decode cX3_run 31 = .ok (.aload_n 0, 1) := by decide +kernel
theorem dX3_run_32 : decode cX3_run 32 = .ok (.iconst 0, 1) := by decide +kernel
theorem dX3_run_33 : decode cX3_run 33 = .ok (.putfield 23, 3) := by decide +kernel
theorem dX3_run_36 : decode cX3_run 36 = .ok (.iload_n 2, 1) := by decide +kernel
theorem dX3_run_37 : decode cX3_run 37 = .ok (.bipush 20, 2) := by decide +kernel
theorem dX3_run_39 : decode cX3_run 39 = .ok (.invokestatic 41, 3) := by decide +kernel
theorem dX3_run_42 : decode cX3_run 42 = .ok (.iconst 1, 1) := by decide +kernel
theorem dX3_run_43 : decode cX3_run 43 = .ok (.isub, 1) := by decide +kernel
theorem dX3_run_44 : decode cX3_run 44 = .ok (.istore 5, 2) := by decide +kernel
theorem dX3_run_46 : decode cX3_run 46 = .ok (.iload 4, 2) := by decide +kernel
theorem dX3_run_48 : decode cX3_run 48 = .ok (.ifCond .le 84, 3) := by decide +kernel
theorem dX3_run_51 : decode cX3_run 51 = .ok (.aload_n 0, 1) := by decide +kernel
theorem dX3_run_52 : decode cX3_run 52 = .ok (.getfield 19, 3) := by decide +kernel
theorem dX3_run_55 : decode cX3_run 55 = .ok (.sipush 1000, 3) := by decide +kernel
theorem dX3_run_58 : decode cX3_run 58 = .ok (.if_icmp .ge 74, 3) := by decide +kernel
theorem dX3_run_61 : decode cX3_run 61 = .ok (.aload_n 0, 1) := by decide +kernel
theorem dX3_run_62 : decode cX3_run 62 = .ok (.iload 5, 2) := by decide +kernel
theorem dX3_run_64 : decode cX3_run 64 = .ok (.iload_n 3, 1) := by decide +kernel
theorem dX3_run_65 : decode cX3_run 65 = .ok (.invokevirtual 44, 3) := by decide +kernel
theorem dX3_run_68 : decode cX3_run 68 = .ok (.istore 5, 2) := by decide +kernel
theorem dX3_run_70 : decode cX3_run 70 = .ok (.iload 4, 2) := by decide +kernel
theorem dX3_run_72 : decode cX3_run 72 = .ok (.aload_n 1, 1) := by decide +kernel
theorem dX3_run_73 : decode cX3_run 73 = .ok (.getfield 47, 3) := by decide +kernel
theorem dX3_run_76 : decode cX3_run 76 = .ok (.iconst 2, 1) := by decide +kernel
theorem dX3_run_77 : decode cX3_run 77 = .ok (.iaload, 1) := by decide +kernel
theorem dX3_run_78 : decode cX3_run 78 = .ok (.iload 5, 2) := by decide +kernel
theorem dX3_run_80 : decode cX3_run 80 = .ok (.iload_n 3, 1) := by decide +kernel
theorem dX3_run_81 : decode cX3_run 81 = .ok (.isub, 1) := by decide +kernel
theorem dX3_run_82 : decode cX3_run 82 = .ok (.iconst 1, 1) := by decide +kernel
theorem dX3_run_83 : decode cX3_run 83 = .ok (.iadd, 1) := by decide +kernel
theorem dX3_run_84 : decode cX3_run 84 = .ok (.imul, 1) := by decide +kernel
theorem dX3_run_85 : decode cX3_run 85 = .ok (.invokestatic 41, 3) := by decide +kernel
theorem dX3_run_88 : decode cX3_run 88 = .ok (.istore 6, 2) := by decide +kernel
theorem dX3_run_90 : decode cX3_run 90 = .ok (.aload_n 0, 1) := by decide +kernel
theorem dX3_run_91 : decode cX3_run 91 = .ok (.iload 5, 2) := by decide +kernel
theorem dX3_run_93 : decode cX3_run 93 = .ok (.iload_n 3, 1) := by decide +kernel
theorem dX3_run_94 : decode cX3_run 94 = .ok (.iload 6, 2) := by decide +kernel
theorem dX3_run_96 : decode cX3_run 96 = .ok (.invokevirtual 50, 3) := by decide +kernel
theorem dX3_run_99 : decode cX3_run 99 = .ok (.iload 4, 2) := by decide +kernel
theorem dX3_run_101 : decode cX3_run 101 = .ok (.iload 6, 2) := by decide +kernel
theorem dX3_run_103 : decode cX3_run 103 = .ok (.isub, 1) := by decide +kernel
theorem dX3_run_104 : decode cX3_run 104 = .ok (.istore 4, 2) := by decide +kernel
theorem dX3_run_106 : decode cX3_run 106 = .ok (.aload_n 0, 1) := by decide +kernel
theorem dX3_run_107 : decode cX3_run 107 = .ok (.aload_n 0, 1) := by decide +kernel
theorem dX3_run_108 : decode cX3_run 108 = .ok (.getfield 23, 3) := by decide +kernel
theorem dX3_run_111 : decode cX3_run 111 = .ok (.iload 6, 2) := by decide +kernel
theorem dX3_run_113 : decode cX3_run 113 = .ok (.invokestatic 13, 3) := by decide +kernel
theorem dX3_run_116 : decode cX3_run 116 = .ok (.putfield 23, 3) := by decide +kernel
theorem dX3_run_119 : decode cX3_run 119 = .ok (.aload_n 0, 1) := by decide +kernel
theorem dX3_run_120 : decode cX3_run 120 = .ok (.dup, 1) := by decide +kernel
theorem dX3_run_121 : decode cX3_run 121 = .ok (.getfield 19, 3) := by decide +kernel
theorem dX3_run_124 : decode cX3_run 124 = .ok (.iconst 1, 1) := by decide +kernel
theorem dX3_run_125 : decode cX3_run 125 = .ok (.iadd, 1) := by decide +kernel
theorem dX3_run_126 : decode cX3_run 126 = .ok (.putfield 19, 3) := by decide +kernel
theorem dX3_run_129 : decode cX3_run 129 = .ok (.goto (-83), 3) := by decide +kernel
theorem dX3_run_132 : decode cX3_run 132 = .ok (.return_, 1) := by decide +kernel
theorem dX3_highestWithSomething_0 : decode cX3_highestWithSomething 0 = .ok (.iload_n 1, 1) := by decide +kernel
theorem dX3_highestWithSomething_1 : decode cX3_highestWithSomething 1 = .ok (.istore_n 3, 1) := by decide +kernel
theorem dX3_highestWithSomething_2 : decode cX3_highestWithSomething 2 = .ok (.iload_n 3, 1) := by decide +kernel
theorem dX3_highestWithSomething_3 : decode cX3_highestWithSomething 3 = .ok (.iload_n 2, 1) := by decide +kernel
theorem dX3_highestWithSomething_4 : decode cX3_highestWithSomething 4 = .ok (.if_icmp .le 22, 3) := by decide +kernel
theorem dX3_highestWithSomething_7 : decode cX3_highestWithSomething 7 = .ok (.iload_n 3, 1) := by decide +kernel
theorem dX3_highestWithSomething_8 : decode cX3_highestWithSomething 8 = .ok (.ifCond .le 18, 3) := by decide +kernel
theorem dX3_highestWithSomething_11 : decode cX3_highestWithSomething 11 = .ok (.aload_n 0, 1) := by decide +kernel
theorem dX3_highestWithSomething_12 : decode cX3_highestWithSomething 12 = .ok (.getfield 9, 3) := by decide +kernel
theorem dX3_highestWithSomething_15 : decode cX3_highestWithSomething 15 = .ok (.iload_n 3, 1) := by decide +kernel
theorem dX3_highestWithSomething_16 : decode cX3_highestWithSomething 16 = .ok (.iaload, 1) := by decide +kernel
theorem dX3_highestWithSomething_17 : decode cX3_highestWithSomething 17 = .ok (.ifCond .ne 9, 3) := by decide +kernel
theorem dX3_highestWithSomething_20 : decode cX3_highestWithSomething 20 = .ok (.iinc 3 (-1), 3) := by decide +kernel
theorem dX3_highestWithSomething_23 : decode cX3_highestWithSomething 23 = .ok (.goto (-21), 3) := by decide +kernel
theorem dX3_highestWithSomething_26 : decode cX3_highestWithSomething 26 = .ok (.iload_n 3, 1) := by decide +kernel
theorem dX3_highestWithSomething_27 : decode cX3_highestWithSomething 27 = .ok (.ireturn, 1) := by decide +kernel
theorem dX3_drain_0 : decode cX3_drain 0 = .ok (.iload_n 3, 1) := by decide +kernel
theorem dX3_drain_1 : decode cX3_drain 1 = .ok (.istore 4, 2) := by decide +kernel
theorem dX3_drain_3 : decode cX3_drain 3 = .ok (.iload_n 1, 1) := by decide +kernel
theorem dX3_drain_4 : decode cX3_drain 4 = .ok (.istore 5, 2) := by decide +kernel
theorem dX3_drain_6 : decode cX3_drain 6 = .ok (.iload 5, 2) := by decide +kernel
theorem dX3_drain_8 : decode cX3_drain 8 = .ok (.iload_n 2, 1) := by decide +kernel
theorem dX3_drain_9 : decode cX3_drain 9 = .ok (.if_icmp .lt 47, 3) := by decide +kernel
theorem dX3_drain_12 : decode cX3_drain 12 = .ok (.iload 5, 2) := by decide +kernel
theorem dX3_drain_14 : decode cX3_drain 14 = .ok (.ifCond .lt 42, 3) := by decide +kernel
theorem dX3_drain_17 : decode cX3_drain 17 = .ok (.iload 4, 2) := by decide +kernel
theorem dX3_drain_19 : decode cX3_drain 19 = .ok (.aload_n 0, 1) := by decide +kernel
theorem dX3_drain_20 : decode cX3_drain 20 = .ok (.getfield 9, 3) := by decide +kernel
theorem dX3_drain_23 : decode cX3_drain 23 = .ok (.iload 5, 2) := by decide +kernel
theorem dX3_drain_25 : decode cX3_drain 25 = .ok (.iaload, 1) := by decide +kernel
theorem dX3_drain_26 : decode cX3_drain 26 = .ok (.invokestatic 41, 3) := by decide +kernel
theorem dX3_drain_29 : decode cX3_drain 29 = .ok (.istore 6, 2) := by decide +kernel
theorem dX3_drain_31 : decode cX3_drain 31 = .ok (.aload_n 0, 1) := by decide +kernel
theorem dX3_drain_32 : decode cX3_drain 32 = .ok (.getfield 9, 3) := by decide +kernel
theorem dX3_drain_35 : decode cX3_drain 35 = .ok (.iload 5, 2) := by decide +kernel
theorem dX3_drain_37 : decode cX3_drain 37 = .ok (.dup2, 1) := by decide +kernel
theorem dX3_drain_38 : decode cX3_drain 38 = .ok (.iaload, 1) := by decide +kernel
theorem dX3_drain_39 : decode cX3_drain 39 = .ok (.iload 6, 2) := by decide +kernel
theorem dX3_drain_41 : decode cX3_drain 41 = .ok (.isub, 1) := by decide +kernel
theorem dX3_drain_42 : decode cX3_drain 42 = .ok (.iastore, 1) := by decide +kernel
theorem dX3_drain_43 : decode cX3_drain 43 = .ok (.iload 4, 2) := by decide +kernel
theorem dX3_drain_45 : decode cX3_drain 45 = .ok (.iload 6, 2) := by decide +kernel
theorem dX3_drain_47 : decode cX3_drain 47 = .ok (.isub, 1) := by decide +kernel
theorem dX3_drain_48 : decode cX3_drain 48 = .ok (.istore 4, 2) := by decide +kernel
theorem dX3_drain_50 : decode cX3_drain 50 = .ok (.iinc 5 (-1), 3) := by decide +kernel
theorem dX3_drain_53 : decode cX3_drain 53 = .ok (.goto (-47), 3) := by decide +kernel
theorem dX3_drain_56 : decode cX3_drain 56 = .ok (.return_, 1) := by decide +kernel
theorem dX4_init_0 : decode cX4_init 0 = .ok (.aload_n 0, 1) := by decide +kernel
theorem dX4_init_1 : decode cX4_init 1 = .ok (.invokespecial 3, 3) := by decide +kernel
theorem dX4_init_4 : decode cX4_init 4 = .ok (.aload_n 0, 1) := by decide +kernel
theorem dX4_init_5 : decode cX4_init 5 = .ok (.iconst 0, 1) := by decide +kernel
theorem dX4_init_6 : decode cX4_init 6 = .ok (.iload_n 1, 1) := by decide +kernel
theorem dX4_init_7 : decode cX4_init 7 = .ok (.bipush 100, 2) := by decide +kernel
theorem dX4_init_9 : decode cX4_init 9 = .ok (.invokestatic 9, 3) := by decide +kernel
theorem dX4_init_12 : decode cX4_init 12 = .ok (.invokestatic 15, 3) := by decide +kernel
theorem dX4_init_15 : decode cX4_init 15 = .ok (.putfield 18, 3) := by decide +kernel
theorem dX4_init_18 : decode cX4_init 18 = .ok (.aload_n 0, 1) := by decide +kernel
theorem dX4_init_19 : decode cX4_init 19 = .ok (.iconst 5, 1) := by decide +kernel
theorem dX4_init_20 : decode cX4_init 20 = .ok (.aload_n 0, 1) := by decide +kernel
theorem dX4_init_21 : decode cX4_init 21 = .ok (.getfield 18, 3) := by decide +kernel
theorem dX4_init_24 : decode cX4_init 24 = .ok (.imul, 1) := by decide +kernel
theorem dX4_init_25 : decode cX4_init 25 = .ok (.newarray .int, 2) := by decide +kernel
theorem dX4_init_27 : decode cX4_init 27 = .ok (.putfield 24, 3) := by decide +kernel
theorem dX4_init_30 : decode cX4_init 30 = .ok (.return_, 1) := by decide +kernel
theorem dX4_size_0 : decode cX4_size 0 = .ok (.aload_n 0, 1) := by decide +kernel
theorem dX4_size_1 : decode cX4_size 1 = .ok (.getfield 28, 3) := by decide +kernel
theorem dX4_size_4 : decode cX4_size 4 = .ok (.ireturn, 1) := by decide +kernel
theorem dX4_has_0 : decode cX4_has 0 = .ok (.iload_n 1, 1) := by decide +kernel
theorem dX4_has_1 : decode cX4_has 1 = .ok (.ifCond .lt 15, 3) := by decide +kernel
theorem dX4_has_4 : decode cX4_has 4 = .ok (.iload_n 1, 1) := by decide +kernel
theorem dX4_has_5 : decode cX4_has 5 = .ok (.aload_n 0, 1) := by decide +kernel
theorem dX4_has_6 : decode cX4_has 6 = .ok (.getfield 28, 3) := by decide +kernel
theorem dX4_has_9 : decode cX4_has 9 = .ok (.if_icmp .ge 7, 3) := by decide +kernel
theorem dX4_has_12 : decode cX4_has 12 = .ok (.iconst 1, 1) := by decide +kernel
theorem dX4_has_13 : decode cX4_has 13 = .ok (.goto 4, 3) := by decide +kernel
theorem dX4_has_16 : decode cX4_has 16 = .ok (.iconst 0, 1) := by decide +kernel
theorem dX4_has_17 : decode cX4_has 17 = .ok (.ireturn, 1) := by decide +kernel
theorem dX4_cell_0 : decode cX4_cell 0 = .ok (.aload_n 0, 1) := by decide +kernel
theorem dX4_cell_1 : decode cX4_cell 1 = .ok (.iload_n 1, 1) := by decide +kernel
theorem dX4_cell_2 : decode cX4_cell 2 = .ok (.invokevirtual 31, 3) := by decide +kernel
theorem dX4_cell_5 : decode cX4_cell 5 = .ok (.ifCond .eq 12, 3) := by decide +kernel
theorem dX4_cell_8 : decode cX4_cell 8 = .ok (.iload_n 2, 1) := by decide +kernel
theorem dX4_cell_9 : decode cX4_cell 9 = .ok (.ifCond .lt 8, 3) := by decide +kernel
theorem dX4_cell_12 : decode cX4_cell 12 = .ok (.iload_n 2, 1) := by decide +kernel
theorem dX4_cell_13 : decode cX4_cell 13 = .ok (.iconst 5, 1) := by decide +kernel
theorem dX4_cell_14 : decode cX4_cell 14 = .ok (.if_icmp .lt 5, 3) := by decide +kernel
theorem dX4_cell_17 : decode cX4_cell 17 = .ok (.iconst 0, 1) := by decide +kernel
theorem dX4_cell_18 : decode cX4_cell 18 = .ok (.ireturn, 1) := by decide +kernel
theorem dX4_cell_19 : decode cX4_cell 19 = .ok (.aload_n 0, 1) := by decide +kernel
theorem dX4_cell_20 : decode cX4_cell 20 = .ok (.getfield 24, 3) := by decide +kernel
theorem dX4_cell_23 : decode cX4_cell 23 = .ok (.iconst 5, 1) := by decide +kernel
theorem dX4_cell_24 : decode cX4_cell 24 = .ok (.iload_n 1, 1) := by decide +kernel
theorem dX4_cell_25 : decode cX4_cell 25 = .ok (.imul, 1) := by decide +kernel
theorem dX4_cell_26 : decode cX4_cell 26 = .ok (.iload_n 2, 1) := by decide +kernel
theorem dX4_cell_27 : decode cX4_cell 27 = .ok (.iadd, 1) := by decide +kernel
theorem dX4_cell_28 : decode cX4_cell 28 = .ok (.iaload, 1) := by decide +kernel
theorem dX4_cell_29 : decode cX4_cell 29 = .ok (.ireturn, 1) := by decide +kernel
theorem dX4_add_0 : decode cX4_add 0 = .ok (.aload_n 0, 1) := by decide +kernel
theorem dX4_add_1 : decode cX4_add 1 = .ok (.getfield 28, 3) := by decide +kernel
theorem dX4_add_4 : decode cX4_add 4 = .ok (.aload_n 0, 1) := by decide +kernel
theorem dX4_add_5 : decode cX4_add 5 = .ok (.getfield 18, 3) := by decide +kernel
theorem dX4_add_8 : decode cX4_add 8 = .ok (.if_icmp .lt 6, 3) := by decide +kernel
theorem dX4_add_11 : decode cX4_add 11 = .ok (.bipush (-4), 2) := by decide +kernel
theorem dX4_add_13 : decode cX4_add 13 = .ok (.ireturn, 1) := by decide +kernel
theorem dX4_add_14 : decode cX4_add 14 = .ok (.iconst 5, 1) := by decide +kernel
theorem dX4_add_15 : decode cX4_add 15 = .ok (.aload_n 0, 1) := by decide +kernel
theorem dX4_add_16 : decode cX4_add 16 = .ok (.getfield 28, 3) := by decide +kernel
theorem dX4_add_19 : decode cX4_add 19 = .ok (.imul, 1) := by decide +kernel
theorem dX4_add_20 : decode cX4_add 20 = .ok (.istore 6, 2) := by decide +kernel
theorem dX4_add_22 : decode cX4_add 22 = .ok (.aload_n 0, 1) := by decide +kernel
theorem dX4_add_23 : decode cX4_add 23 = .ok (.getfield 24, 3) := by decide +kernel
theorem dX4_add_26 : decode cX4_add 26 = .ok (.iload 6, 2) := by decide +kernel
theorem dX4_add_28 : decode cX4_add 28 = .ok (.iload_n 1, 1) := by decide +kernel
theorem dX4_add_29 : decode cX4_add 29 = .ok (.iastore, 1) := by decide +kernel
theorem dX4_add_30 : decode cX4_add 30 = .ok (.aload_n 0, 1) := by decide +kernel
theorem dX4_add_31 : decode cX4_add 31 = .ok (.getfield 24, 3) := by decide +kernel
theorem dX4_add_34 : decode cX4_add 34 = .ok (.iload 6, 2) := by decide +kernel
theorem dX4_add_36 : decode cX4_add 36 = .ok (.iconst 1, 1) := by decide +kernel
theorem dX4_add_37 : decode cX4_add 37 = .ok (.iadd, 1) := by decide +kernel
theorem dX4_add_38 : decode cX4_add 38 = .ok (.iload_n 2, 1) := by decide +kernel
theorem dX4_add_39 : decode cX4_add 39 = .ok (.iastore, 1) := by decide +kernel
theorem dX4_add_40 : decode cX4_add 40 = .ok (.aload_n 0, 1) := by decide +kernel
theorem dX4_add_41 : decode cX4_add 41 = .ok (.getfield 24, 3) := by decide +kernel
theorem dX4_add_44 : decode cX4_add 44 = .ok (.iload 6, 2) := by decide +kernel
theorem dX4_add_46 : decode cX4_add 46 = .ok (.iconst 2, 1) := by decide +kernel
theorem dX4_add_47 : decode cX4_add 47 = .ok (.iadd, 1) := by decide +kernel
theorem dX4_add_48 : decode cX4_add 48 = .ok (.iload_n 3, 1) := by decide +kernel
theorem dX4_add_49 : decode cX4_add 49 = .ok (.iastore, 1) := by decide +kernel
theorem dX4_add_50 : decode cX4_add 50 = .ok (.aload_n 0, 1) := by decide +kernel
theorem dX4_add_51 : decode cX4_add 51 = .ok (.getfield 24, 3) := by decide +kernel
theorem dX4_add_54 : decode cX4_add 54 = .ok (.iload 6, 2) := by decide +kernel
theorem dX4_add_56 : decode cX4_add 56 = .ok (.iconst 3, 1) := by decide +kernel
theorem dX4_add_57 : decode cX4_add 57 = .ok (.iadd, 1) := by decide +kernel
theorem dX4_add_58 : decode cX4_add 58 = .ok (.iload 4, 2) := by decide +kernel
theorem dX4_add_60 : decode cX4_add 60 = .ok (.iastore, 1) := by decide +kernel
theorem dX4_add_61 : decode cX4_add 61 = .ok (.aload_n 0, 1) := by decide +kernel
theorem dX4_add_62 : decode cX4_add 62 = .ok (.getfield 24, 3) := by decide +kernel
theorem dX4_add_65 : decode cX4_add 65 = .ok (.iload 6, 2) := by decide +kernel
theorem dX4_add_67 : decode cX4_add 67 = .ok (.iconst 4, 1) := by decide +kernel
theorem dX4_add_68 : decode cX4_add 68 = .ok (.iadd, 1) := by decide +kernel
theorem dX4_add_69 : decode cX4_add 69 = .ok (.iload 5, 2) := by decide +kernel
theorem dX4_add_71 : decode cX4_add 71 = .ok (.iastore, 1) := by decide +kernel
theorem dX4_add_72 : decode cX4_add 72 = .ok (.aload_n 0, 1) := by decide +kernel
theorem dX4_add_73 : decode cX4_add 73 = .ok (.dup, 1) := by decide +kernel
theorem dX4_add_74 : decode cX4_add 74 = .ok (.getfield 28, 3) := by decide +kernel
theorem dX4_add_77 : decode cX4_add 77 = .ok (.dup_x1, 1) := by decide +kernel
theorem dX4_add_78 : decode cX4_add 78 = .ok (.iconst 1, 1) := by decide +kernel
theorem dX4_add_79 : decode cX4_add 79 = .ok (.iadd, 1) := by decide +kernel
theorem dX4_add_80 : decode cX4_add 80 = .ok (.putfield 28, 3) := by decide +kernel
theorem dX4_add_83 : decode cX4_add 83 = .ok (.ireturn, 1) := by decide +kernel
theorem dX4_copyFrom_0 : decode cX4_copyFrom 0 = .ok (.aload_n 0, 1) := by decide +kernel
theorem dX4_copyFrom_1 : decode cX4_copyFrom 1 = .ok (.aload_n 0, 1) := by decide +kernel
theorem dX4_copyFrom_2 : decode cX4_copyFrom 2 = .ok (.getfield 18, 3) := by decide +kernel
theorem dX4_copyFrom_5 : decode cX4_copyFrom 5 = .ok (.aload_n 1, 1) := by decide +kernel
theorem dX4_copyFrom_6 : decode cX4_copyFrom 6 = .ok (.getfield 28, 3) := by decide +kernel
theorem dX4_copyFrom_9 : decode cX4_copyFrom 9 = .ok (.invokestatic 9, 3) := by decide +kernel
theorem dX4_copyFrom_12 : decode cX4_copyFrom 12 = .ok (.putfield 28, 3) := by decide +kernel
theorem dX4_copyFrom_15 : decode cX4_copyFrom 15 = .ok (.aload_n 1, 1) := by decide +kernel
theorem dX4_copyFrom_16 : decode cX4_copyFrom 16 = .ok (.getfield 24, 3) := by decide +kernel
theorem dX4_copyFrom_19 : decode cX4_copyFrom 19 = .ok (.iconst 0, 1) := by decide +kernel
theorem dX4_copyFrom_20 : decode cX4_copyFrom 20 = .ok (.aload_n 0, 1) := by decide +kernel
theorem dX4_copyFrom_21 : decode cX4_copyFrom 21 = .ok (.getfield 24, 3) := by decide +kernel
theorem dX4_copyFrom_24 : decode cX4_copyFrom 24 = .ok (.iconst 0, 1) := by decide +kernel
theorem dX4_copyFrom_25 : decode cX4_copyFrom 25 = .ok (.iconst 5, 1) := by decide +kernel
theorem dX4_copyFrom_26 : decode cX4_copyFrom 26 = .ok (.aload_n 0, 1) := by decide +kernel
theorem dX4_copyFrom_27 : decode cX4_copyFrom 27 = .ok (.getfield 28, 3) := by decide +kernel
theorem dX4_copyFrom_30 : decode cX4_copyFrom 30 = .ok (.imul, 1) := by decide +kernel
theorem dX4_copyFrom_31 : decode cX4_copyFrom 31 = .ok (.invokestatic 35, 3) := by decide +kernel
theorem dX4_copyFrom_34 : decode cX4_copyFrom 34 = .ok (.return_, 1) := by decide +kernel
theorem dX4_isLike_0 : decode cX4_isLike 0 = .ok (.aload_n 0, 1) := by decide +kernel
theorem dX4_isLike_1 : decode cX4_isLike 1 = .ok (.getfield 28, 3) := by decide +kernel
theorem dX4_isLike_4 : decode cX4_isLike 4 = .ok (.aload_n 1, 1) := by decide +kernel
theorem dX4_isLike_5 : decode cX4_isLike 5 = .ok (.getfield 28, 3) := by decide +kernel
theorem dX4_isLike_8 : decode cX4_isLike 8 = .ok (.if_icmp .ne 7, 3) := by decide +kernel
theorem dX4_isLike_11 : decode cX4_isLike 11 = .ok (.iconst 1, 1) := by decide +kernel
theorem dX4_isLike_12 : decode cX4_isLike 12 = .ok (.goto 4, 3) := by decide +kernel
theorem dX4_isLike_15 : decode cX4_isLike 15 = .ok (.iconst 0, 1) := by decide +kernel
theorem dX4_isLike_16 : decode cX4_isLike 16 = .ok (.istore_n 2, 1) := by decide +kernel
theorem dX4_isLike_17 : decode cX4_isLike 17 = .ok (.iconst 0, 1) := by decide +kernel
theorem dX4_isLike_18 : decode cX4_isLike 18 = .ok (.istore_n 3, 1) := by decide +kernel
theorem dX4_isLike_19 : decode cX4_isLike 19 = .ok (.iload_n 3, 1) := by decide +kernel
theorem dX4_isLike_20 : decode cX4_isLike 20 = .ok (.aload_n 0, 1) := by decide +kernel
theorem dX4_isLike_21 : decode cX4_isLike 21 = .ok (.getfield 28, 3) := by decide +kernel
theorem dX4_isLike_24 : decode cX4_isLike 24 = .ok (.if_icmp .ge 55, 3) := by decide +kernel
theorem dX4_isLike_27 : decode cX4_isLike 27 = .ok (.iload_n 2, 1) := by decide +kernel
theorem dX4_isLike_28 : decode cX4_isLike 28 = .ok (.ifCond .eq 51, 3) := by decide +kernel
theorem dX4_isLike_31 : decode cX4_isLike 31 = .ok (.iconst 0, 1) := by decide +kernel
theorem dX4_isLike_32 : decode cX4_isLike 32 = .ok (.istore 4, 2) := by decide +kernel
theorem dX4_isLike_34 : decode cX4_isLike 34 = .ok (.iload 4, 2) := by decide +kernel
theorem dX4_isLike_36 : decode cX4_isLike 36 = .ok (.iconst 5, 1) := by decide +kernel
theorem dX4_isLike_37 : decode cX4_isLike 37 = .ok (.if_icmp .ge 36, 3) := by decide +kernel
theorem dX4_isLike_40 : decode cX4_isLike 40 = .ok (.iload_n 2, 1) := by decide +kernel
theorem dX4_isLike_41 : decode cX4_isLike 41 = .ok (.ifCond .eq 24, 3) := by decide +kernel
theorem dX4_isLike_44 : decode cX4_isLike 44 = .ok (.aload_n 0, 1) := by decide +kernel
theorem dX4_isLike_45 : decode cX4_isLike 45 = .ok (.iload_n 3, 1) := by decide +kernel
theorem dX4_isLike_46 : decode cX4_isLike 46 = .ok (.iload 4, 2) := by decide +kernel
theorem dX4_isLike_48 : decode cX4_isLike 48 = .ok (.invokevirtual 41, 3) := by decide +kernel
theorem dX4_isLike_51 : decode cX4_isLike 51 = .ok (.aload_n 1, 1) := by decide +kernel
theorem dX4_isLike_52 : decode cX4_isLike 52 = .ok (.iload_n 3, 1) := by decide +kernel
theorem dX4_isLike_53 : decode cX4_isLike 53 = .ok (.iload 4, 2) := by decide +kernel
theorem dX4_isLike_55 : decode cX4_isLike 55 = .ok (.invokevirtual 41, 3) := by decide +kernel
theorem dX4_isLike_58 : decode cX4_isLike 58 = .ok (.if_icmp .ne 7, 3) := by decide +kernel
theorem dX4_isLike_61 : decode cX4_isLike 61 = .ok (.iconst 1, 1) := by decide +kernel
theorem dX4_isLike_62 : decode cX4_isLike 62 = .ok (.goto 4, 3) := by decide +kernel
theorem dX4_isLike_65 : decode cX4_isLike 65 = .ok (.iconst 0, 1) := by decide +kernel
theorem dX4_isLike_66 : decode cX4_isLike 66 = .ok (.istore_n 2, 1) := by decide +kernel
theorem dX4_isLike_67 : decode cX4_isLike 67 = .ok (.iinc 4 1, 3) := by decide +kernel
theorem dX4_isLike_70 : decode cX4_isLike 70 = .ok (.goto (-36), 3) := by decide +kernel
theorem dX4_isLike_73 : decode cX4_isLike 73 = .ok (.iinc 3 1, 3) := by decide +kernel
theorem dX4_isLike_76 : decode cX4_isLike 76 = .ok (.goto (-57), 3) := by decide +kernel
theorem dX4_isLike_79 : decode cX4_isLike 79 = .ok (.iload_n 2, 1) := by decide +kernel
theorem dX4_isLike_80 : decode cX4_isLike 80 = .ok (.ireturn, 1) := by decide +kernel
theorem dX4_digestOn_0 : decode cX4_digestOn 0 = .ok (.lload_n 1, 1) := by decide +kernel
theorem dX4_digestOn_1 : decode cX4_digestOn 1 = .ok (.lstore 4, 2) := by decide +kernel
theorem dX4_digestOn_3 : decode cX4_digestOn 3 = .ok (.iconst 0, 1) := by decide +kernel
theorem dX4_digestOn_4 : decode cX4_digestOn 4 = .ok (.istore 6, 2) := by decide +kernel
theorem dX4_digestOn_6 : decode cX4_digestOn 6 = .ok (.iload 6, 2) := by decide +kernel
theorem dX4_digestOn_8 : decode cX4_digestOn 8 = .ok (.aload_n 0, 1) := by decide +kernel
theorem dX4_digestOn_9 : decode cX4_digestOn 9 = .ok (.getfield 28, 3) := by decide +kernel
theorem dX4_digestOn_12 : decode cX4_digestOn 12 = .ok (.if_icmp .ge 42, 3) := by decide +kernel
theorem dX4_digestOn_15 : decode cX4_digestOn 15 = .ok (.iconst 0, 1) := by decide +kernel
theorem dX4_digestOn_16 : decode cX4_digestOn 16 = .ok (.istore 7, 2) := by decide +kernel
theorem dX4_digestOn_18 : decode cX4_digestOn 18 = .ok (.iload 7, 2) := by decide +kernel
theorem dX4_digestOn_20 : decode cX4_digestOn 20 = .ok (.iload_n 3, 1) := by decide +kernel
theorem dX4_digestOn_21 : decode cX4_digestOn 21 = .ok (.if_icmp .ge 27, 3) := by decide +kernel
theorem dX4_digestOn_24 : decode cX4_digestOn 24 = .ok (.ldc2_w 44, 3) := by decide +kernel
theorem dX4_digestOn_27 : decode cX4_digestOn 27 = .ok (.lload 4, 2) := by decide +kernel
theorem dX4_digestOn_29 : decode cX4_digestOn 29 = .ok (.lmul, 1) := by decide +kernel
theorem dX4_digestOn_30 : decode cX4_digestOn 30 = .ok (.aload_n 0, 1) := by decide +kernel
theorem dX4_digestOn_31 : decode cX4_digestOn 31 = .ok (.iload 6, 2) := by decide +kernel
theorem dX4_digestOn_33 : decode cX4_digestOn 33 = .ok (.iload 7, 2) := by decide +kernel
theorem dX4_digestOn_35 : decode cX4_digestOn 35 = .ok (.invokevirtual 41, 3) := by decide +kernel
theorem dX4_digestOn_38 : decode cX4_digestOn 38 = .ok (.i2l, 1) := by decide +kernel
theorem dX4_digestOn_39 : decode cX4_digestOn 39 = .ok (.ladd, 1) := by decide +kernel
theorem dX4_digestOn_40 : decode cX4_digestOn 40 = .ok (.lstore 4, 2) := by decide +kernel
theorem dX4_digestOn_42 : decode cX4_digestOn 42 = .ok (.iinc 7 1, 3) := by decide +kernel
theorem dX4_digestOn_45 : decode cX4_digestOn 45 = .ok (.goto (-27), 3) := by decide +kernel
theorem dX4_digestOn_48 : decode cX4_digestOn 48 = .ok (.iinc 6 1, 3) := by decide +kernel
theorem dX4_digestOn_51 : decode cX4_digestOn 51 = .ok (.goto (-45), 3) := by decide +kernel
theorem dX4_digestOn_54 : decode cX4_digestOn 54 = .ok (.lload 4, 2) := by decide +kernel
theorem dX4_digestOn_56 : decode cX4_digestOn 56 = .ok (.lreturn, 1) := by decide +kernel
theorem dX5_stagesOf_0 : decode cX5_stagesOf 0 = .ok (.aload_n 0, 1) := by decide +kernel
theorem dX5_stagesOf_1 : decode cX5_stagesOf 1 = .ok (.getfield 9, 3) := by decide +kernel
theorem dX5_stagesOf_4 : decode cX5_stagesOf 4 = .ok (.iload_n 1, 1) := by decide +kernel
theorem dX5_stagesOf_5 : decode cX5_stagesOf 5 = .ok (.iconst 0, 1) := by decide +kernel
theorem dX5_stagesOf_6 : decode cX5_stagesOf 6 = .ok (.invokevirtual 17, 3) := by decide +kernel
theorem dX5_stagesOf_9 : decode cX5_stagesOf 9 = .ok (.istore_n 2, 1) := by decide +kernel
theorem dX5_stagesOf_10 : decode cX5_stagesOf 10 = .ok (.aload_n 0, 1) := by decide +kernel
theorem dX5_stagesOf_11 : decode cX5_stagesOf 11 = .ok (.getfield 9, 3) := by decide +kernel
theorem dX5_stagesOf_14 : decode cX5_stagesOf 14 = .ok (.iload_n 1, 1) := by decide +kernel
theorem dX5_stagesOf_15 : decode cX5_stagesOf 15 = .ok (.iconst 1, 1) := by decide +kernel
theorem dX5_stagesOf_16 : decode cX5_stagesOf 16 = .ok (.invokevirtual 17, 3) := by decide +kernel
theorem dX5_stagesOf_19 : decode cX5_stagesOf 19 = .ok (.istore_n 3, 1) := by decide +kernel
theorem dX5_stagesOf_20 : decode cX5_stagesOf 20 = .ok (.iconst 0, 1) := by decide +kernel
theorem dX5_stagesOf_21 : decode cX5_stagesOf 21 = .ok (.istore 4, 2) := by decide +kernel
theorem dX5_stagesOf_23 : decode cX5_stagesOf 23 = .ok (.iconst 0, 1) := by decide +kernel
theorem dX5_stagesOf_24 : decode cX5_stagesOf 24 = .ok (.istore 5, 2) := by decide +kernel
theorem dX5_stagesOf_26 : decode cX5_stagesOf 26 = .ok (.iload 5, 2) := by decide +kernel
theorem dX5_stagesOf_28 : decode cX5_stagesOf 28 = .ok (.iconst 3, 1) := by decide +kernel
theorem dX5_stagesOf_29 : decode cX5_stagesOf 29 = .ok (.if_icmp .ge 53, 3) := by decide +kernel
theorem dX5_stagesOf_32 : decode cX5_stagesOf 32 = .ok (.aload_n 0, 1) := by decide +kernel
theorem dX5_stagesOf_33 : decode cX5_stagesOf 33 = .ok (.getfield 25, 3) := by decide +kernel
theorem dX5_stagesOf_36 : decode cX5_stagesOf 36 = .ok (.iload 5, 2) := by decide +kernel
theorem dX5_stagesOf_38 : decode cX5_stagesOf 38 = .ok (.iload_n 2, 1) := by decide +kernel
theorem dX5_stagesOf_39 : decode cX5_stagesOf 39 = .ok (.invokestatic 29, 3) := by decide +kernel
theorem dX5_stagesOf_42 : decode cX5_stagesOf 42 = .ok (.istore 6, 2) := by decide +kernel
theorem dX5_stagesOf_44 : decode cX5_stagesOf 44 = .ok (.iload 6, 2) := by decide +kernel
theorem dX5_stagesOf_46 : decode cX5_stagesOf 46 = .ok (.iconst (-1), 1) := by decide +kernel
theorem dX5_stagesOf_47 : decode cX5_stagesOf 47 = .ok (.if_icmp .eq 29, 3) := by decide +kernel
theorem dX5_stagesOf_50 : decode cX5_stagesOf 50 = .ok (.iconst 2, 1) := by decide +kernel
theorem dX5_stagesOf_51 : decode cX5_stagesOf 51 = .ok (.iload 6, 2) := by decide +kernel
theorem dX5_stagesOf_53 : decode cX5_stagesOf 53 = .ok (.imul, 1) := by decide +kernel
theorem dX5_stagesOf_54 : decode cX5_stagesOf 54 = .ok (.iload_n 3, 1) := by decide +kernel
theorem dX5_stagesOf_55 : decode cX5_stagesOf 55 = .ok (.invokestatic 33, 3) := by decide +kernel
theorem dX5_stagesOf_58 : decode cX5_stagesOf 58 = .ok (.aload_n 0, 1) := by decide +kernel
theorem dX5_stagesOf_59 : decode cX5_stagesOf 59 = .ok (.getfield 36, 3) := by decide +kernel
theorem dX5_stagesOf_62 : decode cX5_stagesOf 62 = .ok (.iconst 0, 1) := by decide +kernel
theorem dX5_stagesOf_63 : decode cX5_stagesOf 63 = .ok (.iaload, 1) := by decide +kernel
theorem dX5_stagesOf_64 : decode cX5_stagesOf 64 = .ok (.if_icmp .gt 12, 3) := by decide +kernel
theorem dX5_stagesOf_67 : decode cX5_stagesOf 67 = .ok (.iload 4, 2) := by decide +kernel
theorem dX5_stagesOf_69 : decode cX5_stagesOf 69 = .ok (.iconst 1, 1) := by decide +kernel
theorem dX5_stagesOf_70 : decode cX5_stagesOf 70 = .ok (.iload 5, 2) := by decide +kernel
theorem dX5_stagesOf_72 : decode cX5_stagesOf 72 = .ok (.ishl, 1) := by decide +kernel
theorem dX5_stagesOf_73 : decode cX5_stagesOf 73 = .ok (.ior, 1) := by decide +kernel
theorem dX5_stagesOf_74 : decode cX5_stagesOf 74 = .ok (.istore 4, 2) := by decide +kernel
theorem dX5_stagesOf_76 : decode cX5_stagesOf 76 = .ok (.iinc 5 1, 3) := by decide +kernel
theorem dX5_stagesOf_79 : decode cX5_stagesOf 79 = .ok (.goto (-53), 3) := by decide +kernel
theorem dX5_stagesOf_82 : decode cX5_stagesOf 82 = .ok (.iload 4, 2) := by decide +kernel
theorem dX5_stagesOf_84 : decode cX5_stagesOf 84 = .ok (.ireturn, 1) := by decide +kernel
theorem dX5_rows_0 : decode cX5_rows 0 = .ok (.iconst 1, 1) := by decide +kernel
theorem dX5_rows_1 : decode cX5_rows 1 = .ok (.istore_n 1, 1) := by decide +kernel
theorem dX5_rows_2 : decode cX5_rows 2 = .ok (.iconst 0, 1) := by decide +kernel
theorem dX5_rows_3 : decode cX5_rows 3 = .ok (.istore_n 2, 1) := by decide +kernel
theorem dX5_rows_4 : decode cX5_rows 4 = .ok (.iload_n 2, 1) := by decide +kernel
theorem dX5_rows_5 : decode cX5_rows 5 = .ok (.aload_n 0, 1) := by decide +kernel
theorem dX5_rows_6 : decode cX5_rows 6 = .ok (.getfield 9, 3) := by decide +kernel
theorem dX5_rows_9 : decode cX5_rows 9 = .ok (.invokevirtual 39, 3) := by decide +kernel
theorem dX5_rows_12 : decode cX5_rows 12 = .ok (.if_icmp .ge 25, 3) := by decide +kernel
theorem dX5_rows_15 : decode cX5_rows 15 = .ok (.aload_n 0, 1) := by decide +kernel
theorem dX5_rows_16 : decode cX5_rows 16 = .ok (.iload_n 2, 1) := by decide +kernel
theorem dX5_rows_17 : decode cX5_rows 17 = .ok (.invokestatic 43, 3) := by decide +kernel
theorem dX5_rows_20 : decode cX5_rows 20 = .ok (.ifCond .eq 11, 3) := by decide +kernel
theorem dX5_rows_23 : decode cX5_rows 23 = .ok (.iload_n 1, 1) := by decide +kernel
theorem dX5_rows_24 : decode cX5_rows 24 = .ok (.aload_n 0, 1) := by decide +kernel
theorem dX5_rows_25 : decode cX5_rows 25 = .ok (.iload_n 2, 1) := by decide +kernel
theorem dX5_rows_26 : decode cX5_rows 26 = .ok (.invokestatic 47, 3) := by decide +kernel
theorem dX5_rows_29 : decode cX5_rows 29 = .ok (.imul, 1) := by decide +kernel
theorem dX5_rows_30 : decode cX5_rows 30 = .ok (.istore_n 1, 1) := by decide +kernel
theorem dX5_rows_31 : decode cX5_rows 31 = .ok (.iinc 2 1, 3) := by decide +kernel
theorem dX5_rows_34 : decode cX5_rows 34 = .ok (.goto (-30), 3) := by decide +kernel
theorem dX5_rows_37 : decode cX5_rows 37 = .ok (.iload_n 1, 1) := by decide +kernel
theorem dX5_rows_38 : decode cX5_rows 38 = .ok (.ireturn, 1) := by decide +kernel
theorem dX5_stageInFirstRow_0 : decode cX5_stageInFirstRow 0 = .ok (.aload_n 0, 1) := by decide +kernel
theorem dX5_stageInFirstRow_1 : decode cX5_stageInFirstRow 1 = .ok (.invokestatic 51, 3) := by decide +kernel
theorem dX5_stageInFirstRow_4 : decode cX5_stageInFirstRow 4 = .ok (.ifCond .ne 5, 3) := by decide +kernel
theorem dX5_stageInFirstRow_7 : decode cX5_stageInFirstRow 7 = .ok (.iconst (-1), 1) := by decide +kernel
theorem dX5_stageInFirstRow_8 : decode cX5_stageInFirstRow 8 = .ok (.ireturn, 1) := by decide +kernel
theorem dX5_stageInFirstRow_9 : decode cX5_stageInFirstRow 9 = .ok (.iconst 0, 1) := by decide +kernel
theorem dX5_stageInFirstRow_10 : decode cX5_stageInFirstRow 10 = .ok (.istore_n 2, 1) := by decide +kernel
theorem dX5_stageInFirstRow_11 : decode cX5_stageInFirstRow 11 = .ok (.iconst 0, 1) := by decide +kernel
theorem dX5_stageInFirstRow_12 : decode cX5_stageInFirstRow 12 = .ok (.istore_n 3, 1) := by decide +kernel
theorem dX5_stageInFirstRow_13 : decode cX5_stageInFirstRow 13 = .ok (.iload_n 3, 1) := by decide +kernel
theorem dX5_stageInFirstRow_14 : decode cX5_stageInFirstRow 14 = .ok (.iload_n 1, 1) := by decide +kernel
theorem dX5_stageInFirstRow_15 : decode cX5_stageInFirstRow 15 = .ok (.if_icmp .gt 39, 3) := by decide +kernel
theorem dX5_stageInFirstRow_18 : decode cX5_stageInFirstRow 18 = .ok (.aload_n 0, 1) := by decide +kernel
theorem dX5_stageInFirstRow_19 : decode cX5_stageInFirstRow 19 = .ok (.iload_n 3, 1) := by decide +kernel
theorem dX5_stageInFirstRow_20 : decode cX5_stageInFirstRow 20 = .ok (.iload_n 1, 1) := by decide +kernel
theorem dX5_stageInFirstRow_21 : decode cX5_stageInFirstRow 21 = .ok (.invokestatic 55, 3) := by decide +kernel
theorem dX5_stageInFirstRow_24 : decode cX5_stageInFirstRow 24 = .ok (.ifCond .eq 24, 3) := by decide +kernel
theorem dX5_stageInFirstRow_27 : decode cX5_stageInFirstRow 27 = .ok (.aload_n 0, 1) := by decide +kernel
theorem dX5_stageInFirstRow_28 : decode cX5_stageInFirstRow 28 = .ok (.iload_n 3, 1) := by decide +kernel
theorem dX5_stageInFirstRow_29 : decode cX5_stageInFirstRow 29 = .ok (.invokestatic 59, 3) := by decide +kernel
theorem dX5_stageInFirstRow_32 : decode cX5_stageInFirstRow 32 = .ok (.iload_n 2, 1) := by decide +kernel
theorem dX5_stageInFirstRow_33 : decode cX5_stageInFirstRow 33 = .ok (.ishr, 1) := by decide +kernel
theorem dX5_stageInFirstRow_34 : decode cX5_stageInFirstRow 34 = .ok (.iload_n 2, 1) := by decide +kernel
theorem dX5_stageInFirstRow_35 : decode cX5_stageInFirstRow 35 = .ok (.ishl, 1) := by decide +kernel
theorem dX5_stageInFirstRow_36 : decode cX5_stageInFirstRow 36 = .ok (.istore 4, 2) := by decide +kernel
theorem dX5_stageInFirstRow_38 : decode cX5_stageInFirstRow 38 = .ok (.iconst 2, 1) := by decide +kernel
theorem dX5_stageInFirstRow_39 : decode cX5_stageInFirstRow 39 = .ok (.iload 4, 2) := by decide +kernel
theorem dX5_stageInFirstRow_41 : decode cX5_stageInFirstRow 41 = .ok (.invokestatic 62, 3) := by decide +kernel
theorem dX5_stageInFirstRow_44 : decode cX5_stageInFirstRow 44 = .ok (.invokestatic 68, 3) := by decide +kernel
theorem dX5_stageInFirstRow_47 : decode cX5_stageInFirstRow 47 = .ok (.istore_n 2, 1) := by decide +kernel
theorem dX5_stageInFirstRow_48 : decode cX5_stageInFirstRow 48 = .ok (.iinc 3 1, 3) := by decide +kernel
theorem dX5_stageInFirstRow_51 : decode cX5_stageInFirstRow 51 = .ok (.goto (-38), 3) := by decide +kernel
theorem dX5_stageInFirstRow_54 : decode cX5_stageInFirstRow 54 = .ok (.iload_n 2, 1) := by decide +kernel
theorem dX5_stageInFirstRow_55 : decode cX5_stageInFirstRow 55 = .ok (.ireturn, 1) := by decide +kernel
theorem dX5_rowsAtPlaceOf_0 : decode cX5_rowsAtPlaceOf 0 = .ok (.iconst 1, 1) := by decide +kernel
theorem dX5_rowsAtPlaceOf_1 : decode cX5_rowsAtPlaceOf 1 = .ok (.istore_n 2, 1) := by decide +kernel
theorem dX5_rowsAtPlaceOf_2 : decode cX5_rowsAtPlaceOf 2 = .ok (.iconst 0, 1) := by decide +kernel
theorem dX5_rowsAtPlaceOf_3 : decode cX5_rowsAtPlaceOf 3 = .ok (.istore_n 3, 1) := by decide +kernel
theorem dX5_rowsAtPlaceOf_4 : decode cX5_rowsAtPlaceOf 4 = .ok (.iconst 0, 1) := by decide +kernel
theorem dX5_rowsAtPlaceOf_5 : decode cX5_rowsAtPlaceOf 5 = .ok (.istore 4, 2) := by decide +kernel
theorem dX5_rowsAtPlaceOf_7 : decode cX5_rowsAtPlaceOf 7 = .ok (.iload_n 1, 1) := by decide +kernel
theorem dX5_rowsAtPlaceOf_8 : decode cX5_rowsAtPlaceOf 8 = .ok (.istore 5, 2) := by decide +kernel
theorem dX5_rowsAtPlaceOf_10 : decode cX5_rowsAtPlaceOf 10 = .ok (.iload 5, 2) := by decide +kernel
theorem dX5_rowsAtPlaceOf_12 : decode cX5_rowsAtPlaceOf 12 = .ok (.aload_n 0, 1) := by decide +kernel
theorem dX5_rowsAtPlaceOf_13 : decode cX5_rowsAtPlaceOf 13 = .ok (.getfield 9, 3) := by decide +kernel
theorem dX5_rowsAtPlaceOf_16 : decode cX5_rowsAtPlaceOf 16 = .ok (.invokevirtual 39, 3) := by decide +kernel
theorem dX5_rowsAtPlaceOf_19 : decode cX5_rowsAtPlaceOf 19 = .ok (.if_icmp .ge 74, 3) := by decide +kernel
theorem dX5_rowsAtPlaceOf_22 : decode cX5_rowsAtPlaceOf 22 = .ok (.aload_n 0, 1) := by decide +kernel
theorem dX5_rowsAtPlaceOf_23 : decode cX5_rowsAtPlaceOf 23 = .ok (.iload_n 1, 1) := by decide +kernel
theorem dX5_rowsAtPlaceOf_24 : decode cX5_rowsAtPlaceOf 24 = .ok (.iload 5, 2) := by decide +kernel
theorem dX5_rowsAtPlaceOf_26 : decode cX5_rowsAtPlaceOf 26 = .ok (.invokestatic 55, 3) := by decide +kernel
theorem dX5_rowsAtPlaceOf_29 : decode cX5_rowsAtPlaceOf 29 = .ok (.ifCond .eq 58, 3) := by decide +kernel
theorem dX5_rowsAtPlaceOf_32 : decode cX5_rowsAtPlaceOf 32 = .ok (.aload_n 0, 1) := by decide +kernel
theorem dX5_rowsAtPlaceOf_33 : decode cX5_rowsAtPlaceOf 33 = .ok (.iload 5, 2) := by decide +kernel
theorem dX5_rowsAtPlaceOf_35 : decode cX5_rowsAtPlaceOf 35 = .ok (.invokestatic 59, 3) := by decide +kernel
theorem dX5_rowsAtPlaceOf_38 : decode cX5_rowsAtPlaceOf 38 = .ok (.istore 6, 2) := by decide +kernel
theorem dX5_rowsAtPlaceOf_40 : decode cX5_rowsAtPlaceOf 40 = .ok (.iload 6, 2) := by decide +kernel
theorem dX5_rowsAtPlaceOf_42 : decode cX5_rowsAtPlaceOf 42 = .ok (.iconst 4, 1) := by decide +kernel
theorem dX5_rowsAtPlaceOf_43 : decode cX5_rowsAtPlaceOf 43 = .ok (.iand, 1) := by decide +kernel
theorem dX5_rowsAtPlaceOf_44 : decode cX5_rowsAtPlaceOf 44 = .ok (.ifCond .ne 7, 3) := by decide +kernel
theorem dX5_rowsAtPlaceOf_47 : decode cX5_rowsAtPlaceOf 47 = .ok (.iconst 0, 1) := by decide +kernel
theorem dX5_rowsAtPlaceOf_48 : decode cX5_rowsAtPlaceOf 48 = .ok (.goto 9, 3) := by decide +kernel
theorem dX5_rowsAtPlaceOf_51 : decode cX5_rowsAtPlaceOf 51 = .ok (.iload_n 2, 1) := by decide +kernel
theorem dX5_rowsAtPlaceOf_52 : decode cX5_rowsAtPlaceOf 52 = .ok (.iload_n 3, 1) := by decide +kernel
theorem dX5_rowsAtPlaceOf_53 : decode cX5_rowsAtPlaceOf 53 = .ok (.iadd, 1) := by decide +kernel
theorem dX5_rowsAtPlaceOf_54 : decode cX5_rowsAtPlaceOf 54 = .ok (.iload 4, 2) := by decide +kernel
theorem dX5_rowsAtPlaceOf_56 : decode cX5_rowsAtPlaceOf 56 = .ok (.iadd, 1) := by decide +kernel
theorem dX5_rowsAtPlaceOf_57 : decode cX5_rowsAtPlaceOf 57 = .ok (.istore 4, 2) := by decide +kernel
theorem dX5_rowsAtPlaceOf_59 : decode cX5_rowsAtPlaceOf 59 = .ok (.iload 6, 2) := by decide +kernel
theorem dX5_rowsAtPlaceOf_61 : decode cX5_rowsAtPlaceOf 61 = .ok (.iconst 2, 1) := by decide +kernel
theorem dX5_rowsAtPlaceOf_62 : decode cX5_rowsAtPlaceOf 62 = .ok (.iand, 1) := by decide +kernel
theorem dX5_rowsAtPlaceOf_63 : decode cX5_rowsAtPlaceOf 63 = .ok (.ifCond .ne 7, 3) := by decide +kernel
theorem dX5_rowsAtPlaceOf_66 : decode cX5_rowsAtPlaceOf 66 = .ok (.iconst 0, 1) := by decide +kernel
theorem dX5_rowsAtPlaceOf_67 : decode cX5_rowsAtPlaceOf 67 = .ok (.goto 6, 3) := by decide +kernel
theorem dX5_rowsAtPlaceOf_70 : decode cX5_rowsAtPlaceOf 70 = .ok (.iload_n 2, 1) := by decide +kernel
theorem dX5_rowsAtPlaceOf_71 : decode cX5_rowsAtPlaceOf 71 = .ok (.iload_n 3, 1) := by decide +kernel
theorem dX5_rowsAtPlaceOf_72 : decode cX5_rowsAtPlaceOf 72 = .ok (.iadd, 1) := by decide +kernel
theorem dX5_rowsAtPlaceOf_73 : decode cX5_rowsAtPlaceOf 73 = .ok (.istore_n 3, 1) := by decide +kernel
theorem dX5_rowsAtPlaceOf_74 : decode cX5_rowsAtPlaceOf 74 = .ok (.iload 6, 2) := by decide +kernel
theorem dX5_rowsAtPlaceOf_76 : decode cX5_rowsAtPlaceOf 76 = .ok (.iconst 1, 1) := by decide +kernel
theorem dX5_rowsAtPlaceOf_77 : decode cX5_rowsAtPlaceOf 77 = .ok (.iand, 1) := by decide +kernel
theorem dX5_rowsAtPlaceOf_78 : decode cX5_rowsAtPlaceOf 78 = .ok (.ifCond .ne 7, 3) := by decide +kernel
theorem dX5_rowsAtPlaceOf_81 : decode cX5_rowsAtPlaceOf 81 = .ok (.iconst 0, 1) := by decide +kernel
theorem dX5_rowsAtPlaceOf_82 : decode cX5_rowsAtPlaceOf 82 = .ok (.goto 4, 3) := by decide +kernel
theorem dX5_rowsAtPlaceOf_85 : decode cX5_rowsAtPlaceOf 85 = .ok (.iload_n 2, 1) := by decide +kernel
theorem dX5_rowsAtPlaceOf_86 : decode cX5_rowsAtPlaceOf 86 = .ok (.istore_n 2, 1) := by decide +kernel
theorem dX5_rowsAtPlaceOf_87 : decode cX5_rowsAtPlaceOf 87 = .ok (.iinc 5 1, 3) := by decide +kernel
theorem dX5_rowsAtPlaceOf_90 : decode cX5_rowsAtPlaceOf 90 = .ok (.goto (-80), 3) := by decide +kernel
theorem dX5_rowsAtPlaceOf_93 : decode cX5_rowsAtPlaceOf 93 = .ok (.iload_n 2, 1) := by decide +kernel
theorem dX5_rowsAtPlaceOf_94 : decode cX5_rowsAtPlaceOf 94 = .ok (.iload_n 3, 1) := by decide +kernel
theorem dX5_rowsAtPlaceOf_95 : decode cX5_rowsAtPlaceOf 95 = .ok (.iadd, 1) := by decide +kernel
theorem dX5_rowsAtPlaceOf_96 : decode cX5_rowsAtPlaceOf 96 = .ok (.iload 4, 2) := by decide +kernel
theorem dX5_rowsAtPlaceOf_98 : decode cX5_rowsAtPlaceOf 98 = .ok (.iadd, 1) := by decide +kernel
theorem dX5_rowsAtPlaceOf_99 : decode cX5_rowsAtPlaceOf 99 = .ok (.ireturn, 1) := by decide +kernel
theorem dX5_isFirstAtItsPlace_0 : decode cX5_isFirstAtItsPlace 0 = .ok (.iconst 0, 1) := by decide +kernel
theorem dX5_isFirstAtItsPlace_1 : decode cX5_isFirstAtItsPlace 1 = .ok (.istore_n 2, 1) := by decide +kernel
theorem dX5_isFirstAtItsPlace_2 : decode cX5_isFirstAtItsPlace 2 = .ok (.iload_n 2, 1) := by decide +kernel
theorem dX5_isFirstAtItsPlace_3 : decode cX5_isFirstAtItsPlace 3 = .ok (.iload_n 1, 1) := by decide +kernel
theorem dX5_isFirstAtItsPlace_4 : decode cX5_isFirstAtItsPlace 4 = .ok (.if_icmp .ge 20, 3) := by decide +kernel
theorem dX5_isFirstAtItsPlace_7 : decode cX5_isFirstAtItsPlace 7 = .ok (.aload_n 0, 1) := by decide +kernel
theorem dX5_isFirstAtItsPlace_8 : decode cX5_isFirstAtItsPlace 8 = .ok (.iload_n 2, 1) := by decide +kernel
theorem dX5_isFirstAtItsPlace_9 : decode cX5_isFirstAtItsPlace 9 = .ok (.iload_n 1, 1) := by decide +kernel
theorem dX5_isFirstAtItsPlace_10 : decode cX5_isFirstAtItsPlace 10 = .ok (.invokestatic 55, 3) := by decide +kernel
theorem dX5_isFirstAtItsPlace_13 : decode cX5_isFirstAtItsPlace 13 = .ok (.ifCond .eq 5, 3) := by decide +kernel
theorem dX5_isFirstAtItsPlace_16 : decode cX5_isFirstAtItsPlace 16 = .ok (.iconst 0, 1) := by decide +kernel
theorem dX5_isFirstAtItsPlace_17 : decode cX5_isFirstAtItsPlace 17 = .ok (.ireturn, 1) := by decide +kernel
theorem dX5_isFirstAtItsPlace_18 : decode cX5_isFirstAtItsPlace 18 = .ok (.iinc 2 1, 3) := by decide +kernel
theorem dX5_isFirstAtItsPlace_21 : decode cX5_isFirstAtItsPlace 21 = .ok (.goto (-19), 3) := by decide +kernel
theorem dX5_isFirstAtItsPlace_24 : decode cX5_isFirstAtItsPlace 24 = .ok (.iconst 1, 1) := by decide +kernel
theorem dX5_isFirstAtItsPlace_25 : decode cX5_isFirstAtItsPlace 25 = .ok (.ireturn, 1) := by decide +kernel
theorem dX5_areAtOnePlace_0 : decode cX5_areAtOnePlace 0 = .ok (.aload_n 0, 1) := by decide +kernel
theorem dX5_areAtOnePlace_1 : decode cX5_areAtOnePlace 1 = .ok (.getfield 9, 3) := by decide +kernel
theorem dX5_areAtOnePlace_4 : decode cX5_areAtOnePlace 4 = .ok (.iload_n 1, 1) := by decide +kernel
theorem dX5_areAtOnePlace_5 : decode cX5_areAtOnePlace 5 = .ok (.iconst 0, 1) := by decide +kernel
theorem dX5_areAtOnePlace_6 : decode cX5_areAtOnePlace 6 = .ok (.invokevirtual 17, 3) := by decide +kernel
theorem dX5_areAtOnePlace_9 : decode cX5_areAtOnePlace 9 = .ok (.aload_n 0, 1) := by decide +kernel
theorem dX5_areAtOnePlace_10 : decode cX5_areAtOnePlace 10 = .ok (.getfield 9, 3) := by decide +kernel
theorem dX5_areAtOnePlace_13 : decode cX5_areAtOnePlace 13 = .ok (.iload_n 2, 1) := by decide +kernel
theorem dX5_areAtOnePlace_14 : decode cX5_areAtOnePlace 14 = .ok (.iconst 0, 1) := by decide +kernel
theorem dX5_areAtOnePlace_15 : decode cX5_areAtOnePlace 15 = .ok (.invokevirtual 17, 3) := by decide +kernel
theorem dX5_areAtOnePlace_18 : decode cX5_areAtOnePlace 18 = .ok (.if_icmp .ne 7, 3) := by decide +kernel
theorem dX5_areAtOnePlace_21 : decode cX5_areAtOnePlace 21 = .ok (.iconst 1, 1) := by decide +kernel
theorem dX5_areAtOnePlace_22 : decode cX5_areAtOnePlace 22 = .ok (.goto 4, 3) := by decide +kernel
theorem dX5_areAtOnePlace_25 : decode cX5_areAtOnePlace 25 = .ok (.iconst 0, 1) := by decide +kernel
theorem dX5_areAtOnePlace_26 : decode cX5_areAtOnePlace 26 = .ok (.ireturn, 1) := by decide +kernel
theorem dX5_turnBetween_0 : decode cX5_turnBetween 0 = .ok (.iload_n 0, 1) := by decide +kernel
theorem dX5_turnBetween_1 : decode cX5_turnBetween 1 = .ok (.iload_n 1, 1) := by decide +kernel
theorem dX5_turnBetween_2 : decode cX5_turnBetween 2 = .ok (.isub, 1) := by decide +kernel
theorem dX5_turnBetween_3 : decode cX5_turnBetween 3 = .ok (.bipush 16, 2) := by decide +kernel
theorem dX5_turnBetween_5 : decode cX5_turnBetween 5 = .ok (.invokestatic 73, 3) := by decide +kernel
theorem dX5_turnBetween_8 : decode cX5_turnBetween 8 = .ok (.istore_n 2, 1) := by decide +kernel
theorem dX5_turnBetween_9 : decode cX5_turnBetween 9 = .ok (.iload_n 2, 1) := by decide +kernel
theorem dX5_turnBetween_10 : decode cX5_turnBetween 10 = .ok (.bipush 16, 2) := by decide +kernel
theorem dX5_turnBetween_12 : decode cX5_turnBetween 12 = .ok (.iload_n 2, 1) := by decide +kernel
theorem dX5_turnBetween_13 : decode cX5_turnBetween 13 = .ok (.isub, 1) := by decide +kernel
theorem dX5_turnBetween_14 : decode cX5_turnBetween 14 = .ok (.invokestatic 68, 3) := by decide +kernel
theorem dX5_turnBetween_17 : decode cX5_turnBetween 17 = .ok (.ireturn, 1) := by decide +kernel
theorem dX6_init_0 : decode cX6_init 0 = .ok (.aload_n 0, 1) := by decide +kernel
theorem dX6_init_1 : decode cX6_init 1 = .ok (.invokespecial 3, 3) := by decide +kernel
theorem dX6_init_4 : decode cX6_init 4 = .ok (.aload_n 0, 1) := by decide +kernel
theorem dX6_init_5 : decode cX6_init 5 = .ok (.sipush 240, 3) := by decide +kernel
theorem dX6_init_8 : decode cX6_init 8 = .ok (.newarray .int, 2) := by decide +kernel
theorem dX6_init_10 : decode cX6_init 10 = .ok (.putfield 11, 3) := by decide +kernel
theorem dX6_init_13 : decode cX6_init 13 = .ok (.aload_n 0, 1) := by decide +kernel
theorem dX6_init_14 : decode cX6_init 14 = .ok (.iconst 4, 1) := by decide +kernel
theorem dX6_init_15 : decode cX6_init 15 = .ok (.newarray .int, 2) := by decide +kernel
theorem dX6_init_17 : decode cX6_init 17 = .ok (.putfield 15, 3) := by decide +kernel
theorem dX6_init_20 : decode cX6_init 20 = .ok (.return_, 1) := by decide +kernel
theorem dX6_size_0 : decode cX6_size 0 = .ok (.aload_n 0, 1) := by decide +kernel
theorem dX6_size_1 : decode cX6_size 1 = .ok (.getfield 18, 3) := by decide +kernel
theorem dX6_size_4 : decode cX6_size 4 = .ok (.ireturn, 1) := by decide +kernel
theorem dX6_empty_0 : decode cX6_empty 0 = .ok (.aload_n 0, 1) := by decide +kernel
theorem dX6_empty_1 : decode cX6_empty 1 = .ok (.iconst 0, 1) := by decide +kernel
theorem dX6_empty_2 : decode cX6_empty 2 = .ok (.putfield 18, 3) := by decide +kernel
theorem dX6_empty_5 : decode cX6_empty 5 = .ok (.return_, 1) := by decide +kernel
theorem dX6_append_0 : decode cX6_append 0 = .ok (.iload_n 3, 1) := by decide +kernel
theorem dX6_append_1 : decode cX6_append 1 = .ok (.sipush 240, 3) := by decide +kernel
theorem dX6_append_4 : decode cX6_append 4 = .ok (.aload_n 0, 1) := by decide +kernel
theorem dX6_append_5 : decode cX6_append 5 = .ok (.getfield 18, 3) := by decide +kernel
theorem dX6_append_8 : decode cX6_append 8 = .ok (.isub, 1) := by decide +kernel
theorem dX6_append_9 : decode cX6_append 9 = .ok (.if_icmp .le 6, 3) := by decide +kernel
theorem dX6_append_12 : decode cX6_append 12 = .ok (.bipush (-4), 2) := by decide +kernel
theorem dX6_append_14 : decode cX6_append 14 = .ok (.ireturn, 1) := by decide +kernel
theorem dX6_append_15 : decode cX6_append 15 = .ok (.bipush 8, 2) := by decide +kernel
theorem dX6_append_17 : decode cX6_append 17 = .ok (.iload_n 3, 1) := by decide +kernel
theorem dX6_append_18 : decode cX6_append 18 = .ok (.iconst 1, 1) := by decide +kernel
theorem dX6_append_19 : decode cX6_append 19 = .ok (.isub, 1) := by decide +kernel
theorem dX6_append_20 : decode cX6_append 20 = .ok (.imul, 1) := by decide +kernel
theorem dX6_append_21 : decode cX6_append 21 = .ok (.istore 4, 2) := by decide +kernel
theorem dX6_append_23 : decode cX6_append 23 = .ok (.iload 4, 2) := by decide +kernel
theorem dX6_append_25 : decode cX6_append 25 = .ok (.ifCond .lt 37, 3) := by decide +kernel
theorem dX6_append_28 : decode cX6_append 28 = .ok (.aload_n 0, 1) := by decide +kernel
theorem dX6_append_29 : decode cX6_append 29 = .ok (.getfield 11, 3) := by decide +kernel
theorem dX6_append_32 : decode cX6_append 32 = .ok (.aload_n 0, 1) := by decide +kernel
theorem dX6_append_33 : decode cX6_append 33 = .ok (.getfield 18, 3) := by decide +kernel
theorem dX6_append_36 : decode cX6_append 36 = .ok (.lload_n 1, 1) := by decide +kernel
theorem dX6_append_37 : decode cX6_append 37 = .ok (.iload 4, 2) := by decide +kernel
theorem dX6_append_39 : decode cX6_append 39 = .ok (.lshr, 1) := by decide +kernel
theorem dX6_append_40 : decode cX6_append 40 = .ok (.ldc2_w 22, 3) := by decide +kernel
theorem dX6_append_43 : decode cX6_append 43 = .ok (.land, 1) := by decide +kernel
theorem dX6_append_44 : decode cX6_append 44 = .ok (.l2i, 1) := by decide +kernel
theorem dX6_append_45 : decode cX6_append 45 = .ok (.iastore, 1) := by decide +kernel
theorem dX6_append_46 : decode cX6_append 46 = .ok (.aload_n 0, 1) := by decide +kernel
theorem dX6_append_47 : decode cX6_append 47 = .ok (.dup, 1) := by decide +kernel
theorem dX6_append_48 : decode cX6_append 48 = .ok (.getfield 18, 3) := by decide +kernel
theorem dX6_append_51 : decode cX6_append 51 = .ok (.iconst 1, 1) := by decide +kernel
theorem dX6_append_52 : decode cX6_append 52 = .ok (.iadd, 1) := by decide +kernel
theorem dX6_append_53 : decode cX6_append 53 = .ok (.putfield 18, 3) := by decide +kernel
theorem dX6_append_56 : decode cX6_append 56 = .ok (.iinc 4 (-8), 3) := by decide +kernel
theorem dX6_append_59 : decode cX6_append 59 = .ok (.goto (-36), 3) := by decide +kernel
theorem dX6_append_62 : decode cX6_append 62 = .ok (.aload_n 0, 1) := by decide +kernel
theorem dX6_append_63 : decode cX6_append 63 = .ok (.getfield 18, 3) := by decide +kernel
theorem dX6_append_66 : decode cX6_append 66 = .ok (.ireturn, 1) := by decide +kernel
theorem dX6_faultPlace_0 : decode cX6_faultPlace 0 = .ok (.aload_n 0, 1) := by decide +kernel
theorem dX6_faultPlace_1 : decode cX6_faultPlace 1 = .ok (.invokevirtual 24, 3) := by decide +kernel
theorem dX6_faultPlace_4 : decode cX6_faultPlace 4 = .ok (.iconst 1, 1) := by decide +kernel
theorem dX6_faultPlace_5 : decode cX6_faultPlace 5 = .ok (.istore_n 1, 1) := by decide +kernel
theorem dX6_faultPlace_6 : decode cX6_faultPlace 6 = .ok (.iconst 0, 1) := by decide +kernel
theorem dX6_faultPlace_7 : decode cX6_faultPlace 7 = .ok (.istore_n 2, 1) := by decide +kernel
theorem dX6_faultPlace_8 : decode cX6_faultPlace 8 = .ok (.iload_n 2, 1) := by decide +kernel
theorem dX6_faultPlace_9 : decode cX6_faultPlace 9 = .ok (.sipush 240, 3) := by decide +kernel
theorem dX6_faultPlace_12 : decode cX6_faultPlace 12 = .ok (.if_icmp .gt 19, 3) := by decide +kernel
theorem dX6_faultPlace_15 : decode cX6_faultPlace 15 = .ok (.iload_n 1, 1) := by decide +kernel
theorem dX6_faultPlace_16 : decode cX6_faultPlace 16 = .ok (.iconst 1, 1) := by decide +kernel
theorem dX6_faultPlace_17 : decode cX6_faultPlace 17 = .ok (.if_icmp .ne 14, 3) := by decide +kernel
theorem dX6_faultPlace_20 : decode cX6_faultPlace 20 = .ok (.aload_n 0, 1) := by decide +kernel
theorem dX6_faultPlace_21 : decode cX6_faultPlace 21 = .ok (.invokevirtual 27, 3) := by decide +kernel
theorem dX6_faultPlace_24 : decode cX6_faultPlace 24 = .ok (.istore_n 1, 1) := by decide +kernel
theorem dX6_faultPlace_25 : decode cX6_faultPlace 25 = .ok (.iinc 2 1, 3) := by decide +kernel
theorem dX6_faultPlace_28 : decode cX6_faultPlace 28 = .ok (.goto (-20), 3) := by decide +kernel
theorem dX6_faultPlace_31 : decode cX6_faultPlace 31 = .ok (.iload_n 1, 1) := by decide +kernel
theorem dX6_faultPlace_32 : decode cX6_faultPlace 32 = .ok (.iconst (-1), 1) := by decide +kernel
theorem dX6_faultPlace_33 : decode cX6_faultPlace 33 = .ok (.if_icmp .ne 10, 3) := by decide +kernel
theorem dX6_faultPlace_36 : decode cX6_faultPlace 36 = .ok (.aload_n 0, 1) := by decide +kernel
theorem dX6_faultPlace_37 : decode cX6_faultPlace 37 = .ok (.getfield 31, 3) := by decide +kernel
theorem dX6_faultPlace_40 : decode cX6_faultPlace 40 = .ok (.goto 4, 3) := by decide +kernel
theorem dX6_faultPlace_43 : decode cX6_faultPlace 43 = .ok (.iconst (-1), 1) := by decide +kernel
theorem dX6_faultPlace_44 : decode cX6_faultPlace 44 = .ok (.ireturn, 1) := by decide +kernel
theorem dX6_goToStart_0 : decode cX6_goToStart 0 = .ok (.aload_n 0, 1) := by decide +kernel
theorem dX6_goToStart_1 : decode cX6_goToStart 1 = .ok (.iconst 0, 1) := by decide +kernel
theorem dX6_goToStart_2 : decode cX6_goToStart 2 = .ok (.putfield 34, 3) := by decide +kernel
theorem dX6_goToStart_5 : decode cX6_goToStart 5 = .ok (.return_, 1) := by decide +kernel
theorem dX6_word_0 : decode cX6_word 0 = .ok (.aload_n 0, 1) := by decide +kernel
theorem dX6_word_1 : decode cX6_word 1 = .ok (.getfield 37, 3) := by decide +kernel
theorem dX6_word_4 : decode cX6_word 4 = .ok (.ireturn, 1) := by decide +kernel
theorem dX6_number_0 : decode cX6_number 0 = .ok (.iload_n 1, 1) := by decide +kernel
theorem dX6_number_1 : decode cX6_number 1 = .ok (.ifCond .lt 21, 3) := by decide +kernel
theorem dX6_number_4 : decode cX6_number 4 = .ok (.iload_n 1, 1) := by decide +kernel
theorem dX6_number_5 : decode cX6_number 5 = .ok (.aload_n 0, 1) := by decide +kernel
theorem dX6_number_6 : decode cX6_number 6 = .ok (.getfield 15, 3) := by decide +kernel
theorem dX6_number_9 : decode cX6_number 9 = .ok (.arraylength, 1) := by decide +kernel
theorem dX6_number_10 : decode cX6_number 10 = .ok (.if_icmp .ge 12, 3) := by decide +kernel
theorem dX6_number_13 : decode cX6_number 13 = .ok (.aload_n 0, 1) := by decide +kernel
theorem dX6_number_14 : decode cX6_number 14 = .ok (.getfield 15, 3) := by decide +kernel
theorem dX6_number_17 : decode cX6_number 17 = .ok (.iload_n 1, 1) := by decide +kernel
theorem dX6_number_18 : decode cX6_number 18 = .ok (.iaload, 1) := by decide +kernel
theorem dX6_number_19 : decode cX6_number 19 = .ok (.goto 4, 3) := by decide +kernel
theorem dX6_number_22 : decode cX6_number 22 = .ok (.iconst (-1), 1) := by decide +kernel
theorem dX6_number_23 : decode cX6_number 23 = .ok (.ireturn, 1) := by decide +kernel
theorem dX6_takeItem_0 : decode cX6_takeItem 0 = .ok (.aload_n 0, 1) := by decide +kernel
theorem dX6_takeItem_1 : decode cX6_takeItem 1 = .ok (.invokevirtual 40, 3) := by decide +kernel
theorem dX6_takeItem_4 : decode cX6_takeItem 4 = .ok (.istore_n 1, 1) := by decide +kernel
theorem dX6_takeItem_5 : decode cX6_takeItem 5 = .ok (.iload_n 1, 1) := by decide +kernel
theorem dX6_takeItem_6 : decode cX6_takeItem 6 = .ok (.ifCond .ne 5, 3) := by decide +kernel
theorem dX6_takeItem_9 : decode cX6_takeItem 9 = .ok (.iconst 0, 1) := by decide +kernel
theorem dX6_takeItem_10 : decode cX6_takeItem 10 = .ok (.ireturn, 1) := by decide +kernel
theorem dX6_takeItem_11 : decode cX6_takeItem 11 = .ok (.iload_n 1, 1) := by decide +kernel
theorem dX6_takeItem_12 : decode cX6_takeItem 12 = .ok (.iconst 1, 1) := by decide +kernel
theorem dX6_takeItem_13 : decode cX6_takeItem 13 = .ok (.if_icmp .ne 19, 3) := by decide +kernel
theorem dX6_takeItem_16 : decode cX6_takeItem 16 = .ok (.aload_n 0, 1) := by decide +kernel
theorem dX6_takeItem_17 : decode cX6_takeItem 17 = .ok (.getfield 43, 3) := by decide +kernel
theorem dX6_takeItem_20 : decode cX6_takeItem 20 = .ok (.ifCond .lt 12, 3) := by decide +kernel
theorem dX6_takeItem_23 : decode cX6_takeItem 23 = .ok (.aload_n 0, 1) := by decide +kernel
theorem dX6_takeItem_24 : decode cX6_takeItem 24 = .ok (.getfield 43, 3) := by decide +kernel
theorem dX6_takeItem_27 : decode cX6_takeItem 27 = .ok (.bipush 12, 2) := by decide +kernel
theorem dX6_takeItem_29 : decode cX6_takeItem 29 = .ok (.if_icmp .lt 5, 3) := by decide +kernel
theorem dX6_takeItem_32 : decode cX6_takeItem 32 = .ok (.iconst (-1), 1) := by decide +kernel
theorem dX6_takeItem_33 : decode cX6_takeItem 33 = .ok (.ireturn, 1) := by decide +kernel
theorem dX6_takeItem_34 : decode cX6_takeItem 34 = .ok (.aload_n 0, 1) := by decide +kernel
theorem dX6_takeItem_35 : decode cX6_takeItem 35 = .ok (.aload_n 0, 1) := by decide +kernel
theorem dX6_takeItem_36 : decode cX6_takeItem 36 = .ok (.getfield 43, 3) := by decide +kernel
theorem dX6_takeItem_39 : decode cX6_takeItem 39 = .ok (.putfield 37, 3) := by decide +kernel
theorem dX6_takeItem_42 : decode cX6_takeItem 42 = .ok (.getstatic 46, 3) := by decide +kernel
theorem dX6_takeItem_45 : decode cX6_takeItem 45 = .ok (.aload_n 0, 1) := by decide +kernel
theorem dX6_takeItem_46 : decode cX6_takeItem 46 = .ok (.getfield 37, 3) := by decide +kernel
theorem dX6_takeItem_49 : decode cX6_takeItem 49 = .ok (.iaload, 1) := by decide +kernel
theorem dX6_takeItem_50 : decode cX6_takeItem 50 = .ok (.aload_n 0, 1) := by decide +kernel
theorem dX6_takeItem_51 : decode cX6_takeItem 51 = .ok (.getfield 15, 3) := by decide +kernel
theorem dX6_takeItem_54 : decode cX6_takeItem 54 = .ok (.arraylength, 1) := by decide +kernel
theorem dX6_takeItem_55 : decode cX6_takeItem 55 = .ok (.invokestatic 49, 3) := by decide +kernel
theorem dX6_takeItem_58 : decode cX6_takeItem 58 = .ok (.istore_n 2, 1) := by decide +kernel
theorem dX6_takeItem_59 : decode cX6_takeItem 59 = .ok (.iconst 0, 1) := by decide +kernel
theorem dX6_takeItem_60 : decode cX6_takeItem 60 = .ok (.istore_n 3, 1) := by decide +kernel
theorem dX6_takeItem_61 : decode cX6_takeItem 61 = .ok (.iload_n 3, 1) := by decide +kernel
theorem dX6_takeItem_62 : decode cX6_takeItem 62 = .ok (.iload_n 2, 1) := by decide +kernel
theorem dX6_takeItem_63 : decode cX6_takeItem 63 = .ok (.if_icmp .ge 29, 3) := by decide +kernel
theorem dX6_takeItem_66 : decode cX6_takeItem 66 = .ok (.aload_n 0, 1) := by decide +kernel
theorem dX6_takeItem_67 : decode cX6_takeItem 67 = .ok (.invokevirtual 40, 3) := by decide +kernel
theorem dX6_takeItem_70 : decode cX6_takeItem 70 = .ok (.iconst 2, 1) := by decide +kernel
theorem dX6_takeItem_71 : decode cX6_takeItem 71 = .ok (.if_icmp .eq 5, 3) := by decide +kernel
theorem dX6_takeItem_74 : decode cX6_takeItem 74 = .ok (.iconst (-1), 1) := by decide +kernel
theorem dX6_takeItem_75 : decode cX6_takeItem 75 = .ok (.ireturn, 1) := by decide +kernel
theorem dX6_takeItem_76 : decode cX6_takeItem 76 = .ok (.aload_n 0, 1) := by decide +kernel
theorem dX6_takeItem_77 : decode cX6_takeItem 77 = .ok (.getfield 15, 3) := by decide +kernel
theorem dX6_takeItem_80 : decode cX6_takeItem 80 = .ok (.iload_n 3, 1) := by decide +kernel
theorem dX6_takeItem_81 : decode cX6_takeItem 81 = .ok (.aload_n 0, 1) := by decide +kernel
theorem dX6_takeItem_82 : decode cX6_takeItem 82 = .ok (.getfield 43, 3) := by decide +kernel
theorem dX6_takeItem_85 : decode cX6_takeItem 85 = .ok (.iastore, 1) := by decide +kernel
theorem dX6_takeItem_86 : decode cX6_takeItem 86 = .ok (.iinc 3 1, 3) := by decide +kernel
theorem dX6_takeItem_89 : decode cX6_takeItem 89 = .ok (.goto (-28), 3) := by decide +kernel
theorem dX6_takeItem_92 : decode cX6_takeItem 92 = .ok (.aload_n 0, 1) := by decide +kernel
theorem dX6_takeItem_93 : decode cX6_takeItem 93 = .ok (.invokevirtual 40, 3) := by decide +kernel
theorem dX6_takeItem_96 : decode cX6_takeItem 96 = .ok (.iconst 3, 1) := by decide +kernel
theorem dX6_takeItem_97 : decode cX6_takeItem 97 = .ok (.if_icmp .ne 7, 3) := by decide +kernel
theorem dX6_takeItem_100 : decode cX6_takeItem 100 = .ok (.iconst 1, 1) := by decide +kernel
theorem dX6_takeItem_101 : decode cX6_takeItem 101 = .ok (.goto 4, 3) := by decide +kernel
theorem dX6_takeItem_104 : decode cX6_takeItem 104 = .ok (.iconst (-1), 1) := by decide +kernel
theorem dX6_takeItem_105 : decode cX6_takeItem 105 = .ok (.ireturn, 1) := by decide +kernel
theorem dX6_takeToken_0 : decode cX6_takeToken 0 = .ok (.aload_n 0, 1) := by decide +kernel
theorem dX6_takeToken_1 : decode cX6_takeToken 1 = .ok (.getfield 34, 3) := by decide +kernel
theorem dX6_takeToken_4 : decode cX6_takeToken 4 = .ok (.aload_n 0, 1) := by decide +kernel
theorem dX6_takeToken_5 : decode cX6_takeToken 5 = .ok (.getfield 18, 3) := by decide +kernel
theorem dX6_takeToken_8 : decode cX6_takeToken 8 = .ok (.if_icmp .ge 30, 3) := by decide +kernel
theorem dX6_takeToken_11 : decode cX6_takeToken 11 = .ok (.aload_n 0, 1) := by decide +kernel
theorem dX6_takeToken_12 : decode cX6_takeToken 12 = .ok (.getfield 11, 3) := by decide +kernel
theorem dX6_takeToken_15 : decode cX6_takeToken 15 = .ok (.aload_n 0, 1) := by decide +kernel
theorem dX6_takeToken_16 : decode cX6_takeToken 16 = .ok (.getfield 34, 3) := by decide +kernel
theorem dX6_takeToken_19 : decode cX6_takeToken 19 = .ok (.iaload, 1) := by decide +kernel
theorem dX6_takeToken_20 : decode cX6_takeToken 20 = .ok (.bipush 32, 2) := by decide +kernel
theorem dX6_takeToken_22 : decode cX6_takeToken 22 = .ok (.if_icmp .ne 16, 3) := by decide +kernel
theorem dX6_takeToken_25 : decode cX6_takeToken 25 = .ok (.aload_n 0, 1) := by decide +kernel
theorem dX6_takeToken_26 : decode cX6_takeToken 26 = .ok (.dup, 1) := by decide +kernel
theorem dX6_takeToken_27 : decode cX6_takeToken 27 = .ok (.getfield 34, 3) := by decide +kernel
theorem dX6_takeToken_30 : decode cX6_takeToken 30 = .ok (.iconst 1, 1) := by decide +kernel
theorem dX6_takeToken_31 : decode cX6_takeToken 31 = .ok (.iadd, 1) := by decide +kernel
theorem dX6_takeToken_32 : decode cX6_takeToken 32 = .ok (.putfield 34, 3) := by decide +kernel
theorem dX6_takeToken_35 : decode cX6_takeToken 35 = .ok (.goto (-35), 3) := by decide +kernel
theorem dX6_takeToken_38 : decode cX6_takeToken 38 = .ok (.aload_n 0, 1) := by decide +kernel
theorem dX6_takeToken_39 : decode cX6_takeToken 39 = .ok (.aload_n 0, 1) := by decide +kernel
theorem dX6_takeToken_40 : decode cX6_takeToken 40 = .ok (.getfield 34, 3) := by decide +kernel
theorem dX6_takeToken_43 : decode cX6_takeToken 43 = .ok (.putfield 31, 3) := by decide +kernel
theorem dX6_takeToken_46 : decode cX6_takeToken 46 = .ok (.aload_n 0, 1) := by decide +kernel
theorem dX6_takeToken_47 : decode cX6_takeToken 47 = .ok (.getfield 34, 3) := by decide +kernel
theorem dX6_takeToken_50 : decode cX6_takeToken 50 = .ok (.aload_n 0, 1) := by decide +kernel
theorem dX6_takeToken_51 : decode cX6_takeToken 51 = .ok (.getfield 18, 3) := by decide +kernel
theorem dX6_takeToken_54 : decode cX6_takeToken 54 = .ok (.if_icmp .lt 5, 3) := by decide +kernel
theorem dX6_takeToken_57 : decode cX6_takeToken 57 = .ok (.iconst 0, 1) := by decide +kernel
theorem dX6_takeToken_58 : decode cX6_takeToken 58 = .ok (.ireturn, 1) := by decide +kernel
theorem dX6_takeToken_59 : decode cX6_takeToken 59 = .ok (.aload_n 0, 1) := by decide +kernel
theorem dX6_takeToken_60 : decode cX6_takeToken 60 = .ok (.getfield 11, 3) := by decide +kernel
theorem dX6_takeToken_63 : decode cX6_takeToken 63 = .ok (.aload_n 0, 1) := by decide +kernel
theorem dX6_takeToken_64 : decode cX6_takeToken 64 = .ok (.getfield 34, 3) := by decide +kernel
theorem dX6_takeToken_67 : decode cX6_takeToken 67 = .ok (.iaload, 1) := by decide +kernel
theorem dX6_takeToken_68 : decode cX6_takeToken 68 = .ok (.bipush 59, 2) := by decide +kernel
theorem dX6_takeToken_70 : decode cX6_takeToken 70 = .ok (.if_icmp .ne 15, 3) := by decide +kernel
theorem dX6_takeToken_73 : decode cX6_takeToken 73 = .ok (.aload_n 0, 1) := by decide +kernel
theorem dX6_takeToken_74 : decode cX6_takeToken 74 = .ok (.dup, 1) := by decide +kernel
theorem dX6_takeToken_75 : decode cX6_takeToken 75 = .ok (.getfield 34, 3) := by decide +kernel
theorem dX6_takeToken_78 : decode cX6_takeToken 78 = .ok (.iconst 1, 1) := by decide +kernel
theorem dX6_takeToken_79 : decode cX6_takeToken 79 = .ok (.iadd, 1) := by decide +kernel
theorem dX6_takeToken_80 : decode cX6_takeToken 80 = .ok (.putfield 34, 3) := by decide +kernel
theorem dX6_takeToken_83 : decode cX6_takeToken 83 = .ok (.iconst 3, 1) := by decide +kernel
theorem dX6_takeToken_84 : decode cX6_takeToken 84 = .ok (.ireturn, 1) := by decide +kernel
theorem dX6_takeToken_85 : decode cX6_takeToken 85 = .ok (.aload_n 0, 1) := by decide +kernel
theorem dX6_takeToken_86 : decode cX6_takeToken 86 = .ok (.getfield 11, 3) := by decide +kernel
theorem dX6_takeToken_89 : decode cX6_takeToken 89 = .ok (.aload_n 0, 1) := by decide +kernel
theorem dX6_takeToken_90 : decode cX6_takeToken 90 = .ok (.getfield 34, 3) := by decide +kernel
theorem dX6_takeToken_93 : decode cX6_takeToken 93 = .ok (.iaload, 1) := by decide +kernel
theorem dX6_takeToken_94 : decode cX6_takeToken 94 = .ok (.invokestatic 55, 3) := by decide +kernel
theorem dX6_takeToken_97 : decode cX6_takeToken 97 = .ok (.ifCond .eq 8, 3) := by decide +kernel
theorem dX6_takeToken_100 : decode cX6_takeToken 100 = .ok (.aload_n 0, 1) := by decide +kernel
theorem dX6_takeToken_101 : decode cX6_takeToken 101 = .ok (.invokevirtual 59, 3) := by decide +kernel
theorem dX6_takeToken_104 : decode cX6_takeToken 104 = .ok (.ireturn, 1) := by decide +kernel
theorem dX6_takeToken_105 : decode cX6_takeToken 105 = .ok (.aload_n 0, 1) := by decide +kernel
theorem dX6_takeToken_106 : decode cX6_takeToken 106 = .ok (.getfield 11, 3) := by decide +kernel
theorem dX6_takeToken_109 : decode cX6_takeToken 109 = .ok (.aload_n 0, 1) := by decide +kernel
theorem dX6_takeToken_110 : decode cX6_takeToken 110 = .ok (.getfield 34, 3) := by decide +kernel
theorem dX6_takeToken_113 : decode cX6_takeToken 113 = .ok (.iaload, 1) := by decide +kernel
theorem dX6_takeToken_114 : decode cX6_takeToken 114 = .ok (.invokestatic 62, 3) := by decide +kernel
theorem dX6_takeToken_117 : decode cX6_takeToken 117 = .ok (.ifCond .eq 10, 3) := by decide +kernel
theorem dX6_takeToken_120 : decode cX6_takeToken 120 = .ok (.aload_n 0, 1) := by decide +kernel
theorem dX6_takeToken_121 : decode cX6_takeToken 121 = .ok (.invokevirtual 65, 3) := by decide +kernel
theorem dX6_takeToken_124 : decode cX6_takeToken 124 = .ok (.goto 4, 3) := by decide +kernel
theorem dX6_takeToken_127 : decode cX6_takeToken 127 = .ok (.iconst 4, 1) := by decide +kernel
theorem dX6_takeToken_128 : decode cX6_takeToken 128 = .ok (.ireturn, 1) := by decide +kernel
theorem dX6_takeWord_0 : decode cX6_takeWord 0 = .ok (.aload_n 0, 1) := by decide +kernel
theorem dX6_takeWord_1 : decode cX6_takeWord 1 = .ok (.getfield 34, 3) := by decide +kernel
theorem dX6_takeWord_4 : decode cX6_takeWord 4 = .ok (.aload_n 0, 1) := by decide +kernel
theorem dX6_takeWord_5 : decode cX6_takeWord 5 = .ok (.getfield 18, 3) := by decide +kernel
theorem dX6_takeWord_8 : decode cX6_takeWord 8 = .ok (.if_icmp .ge 31, 3) := by decide +kernel
theorem dX6_takeWord_11 : decode cX6_takeWord 11 = .ok (.aload_n 0, 1) := by decide +kernel
theorem dX6_takeWord_12 : decode cX6_takeWord 12 = .ok (.getfield 11, 3) := by decide +kernel
theorem dX6_takeWord_15 : decode cX6_takeWord 15 = .ok (.aload_n 0, 1) := by decide +kernel
theorem dX6_takeWord_16 : decode cX6_takeWord 16 = .ok (.getfield 34, 3) := by decide +kernel
theorem dX6_takeWord_19 : decode cX6_takeWord 19 = .ok (.iaload, 1) := by decide +kernel
theorem dX6_takeWord_20 : decode cX6_takeWord 20 = .ok (.invokestatic 55, 3) := by decide +kernel
theorem dX6_takeWord_23 : decode cX6_takeWord 23 = .ok (.ifCond .eq 16, 3) := by decide +kernel
theorem dX6_takeWord_26 : decode cX6_takeWord 26 = .ok (.aload_n 0, 1) := by decide +kernel
theorem dX6_takeWord_27 : decode cX6_takeWord 27 = .ok (.dup, 1) := by decide +kernel
theorem dX6_takeWord_28 : decode cX6_takeWord 28 = .ok (.getfield 34, 3) := by decide +kernel
theorem dX6_takeWord_31 : decode cX6_takeWord 31 = .ok (.iconst 1, 1) := by decide +kernel
theorem dX6_takeWord_32 : decode cX6_takeWord 32 = .ok (.iadd, 1) := by decide +kernel
theorem dX6_takeWord_33 : decode cX6_takeWord 33 = .ok (.putfield 34, 3) := by decide +kernel
theorem dX6_takeWord_36 : decode cX6_takeWord 36 = .ok (.goto (-36), 3) := by decide +kernel
theorem dX6_takeWord_39 : decode cX6_takeWord 39 = .ok (.aload_n 0, 1) := by decide +kernel
theorem dX6_takeWord_40 : decode cX6_takeWord 40 = .ok (.iconst (-1), 1) := by decide +kernel
theorem dX6_takeWord_41 : decode cX6_takeWord 41 = .ok (.putfield 43, 3) := by decide +kernel
theorem dX6_takeWord_44 : decode cX6_takeWord 44 = .ok (.iconst 0, 1) := by decide +kernel
theorem dX6_takeWord_45 : decode cX6_takeWord 45 = .ok (.istore_n 1, 1) := by decide +kernel
theorem dX6_takeWord_46 : decode cX6_takeWord 46 = .ok (.iload_n 1, 1) := by decide +kernel
theorem dX6_takeWord_47 : decode cX6_takeWord 47 = .ok (.bipush 12, 2) := by decide +kernel
theorem dX6_takeWord_49 : decode cX6_takeWord 49 = .ok (.if_icmp .ge 22, 3) := by decide +kernel
theorem dX6_takeWord_52 : decode cX6_takeWord 52 = .ok (.aload_n 0, 1) := by decide +kernel
theorem dX6_takeWord_53 : decode cX6_takeWord 53 = .ok (.iload_n 1, 1) := by decide +kernel
theorem dX6_takeWord_54 : decode cX6_takeWord 54 = .ok (.invokevirtual 68, 3) := by decide +kernel
theorem dX6_takeWord_57 : decode cX6_takeWord 57 = .ok (.ifCond .eq 8, 3) := by decide +kernel
theorem dX6_takeWord_60 : decode cX6_takeWord 60 = .ok (.aload_n 0, 1) := by decide +kernel
theorem dX6_takeWord_61 : decode cX6_takeWord 61 = .ok (.iload_n 1, 1) := by decide +kernel
theorem dX6_takeWord_62 : decode cX6_takeWord 62 = .ok (.putfield 43, 3) := by decide +kernel
theorem dX6_takeWord_65 : decode cX6_takeWord 65 = .ok (.iinc 1 1, 3) := by decide +kernel
theorem dX6_takeWord_68 : decode cX6_takeWord 68 = .ok (.goto (-22), 3) := by decide +kernel
theorem dX6_takeWord_71 : decode cX6_takeWord 71 = .ok (.aload_n 0, 1) := by decide +kernel
theorem dX6_takeWord_72 : decode cX6_takeWord 72 = .ok (.getfield 43, 3) := by decide +kernel
theorem dX6_takeWord_75 : decode cX6_takeWord 75 = .ok (.iconst (-1), 1) := by decide +kernel
theorem dX6_takeWord_76 : decode cX6_takeWord 76 = .ok (.if_icmp .ne 7, 3) := by decide +kernel
theorem dX6_takeWord_79 : decode cX6_takeWord 79 = .ok (.iconst 4, 1) := by decide +kernel
theorem dX6_takeWord_80 : decode cX6_takeWord 80 = .ok (.goto 4, 3) := by decide +kernel
theorem dX6_takeWord_83 : decode cX6_takeWord 83 = .ok (.iconst 1, 1) := by decide +kernel
theorem dX6_takeWord_84 : decode cX6_takeWord 84 = .ok (.ireturn, 1) := by decide +kernel
theorem dX6_isTokenTheWord_0 : decode cX6_isTokenTheWord 0 = .ok (.aload_n 0, 1) := by decide +kernel
theorem dX6_isTokenTheWord_1 : decode cX6_isTokenTheWord 1 = .ok (.getfield 34, 3) := by decide +kernel
theorem dX6_isTokenTheWord_4 : decode cX6_isTokenTheWord 4 = .ok (.aload_n 0, 1) := by decide +kernel
theorem dX6_isTokenTheWord_5 : decode cX6_isTokenTheWord 5 = .ok (.getfield 31, 3) := by decide +kernel
theorem dX6_isTokenTheWord_8 : decode cX6_isTokenTheWord 8 = .ok (.isub, 1) := by decide +kernel
theorem dX6_isTokenTheWord_9 : decode cX6_isTokenTheWord 9 = .ok (.bipush 8, 2) := by decide +kernel
theorem dX6_isTokenTheWord_11 : decode cX6_isTokenTheWord 11 = .ok (.if_icmp .le 5, 3) := by decide +kernel
theorem dX6_isTokenTheWord_14 : decode cX6_isTokenTheWord 14 = .ok (.iconst 0, 1) := by decide +kernel
theorem dX6_isTokenTheWord_15 : decode cX6_isTokenTheWord 15 = .ok (.ireturn, 1) := by decide +kernel
theorem dX6_isTokenTheWord_16 : decode cX6_isTokenTheWord 16 = .ok (.iconst 0, 1) := by decide +kernel
theorem dX6_isTokenTheWord_17 : decode cX6_isTokenTheWord 17 = .ok (.istore_n 2, 1) := by decide +kernel
theorem dX6_isTokenTheWord_18 : decode cX6_isTokenTheWord 18 = .ok (.iload_n 2, 1) := by decide +kernel
theorem dX6_isTokenTheWord_19 : decode cX6_isTokenTheWord 19 = .ok (.bipush 8, 2) := by decide +kernel
theorem dX6_isTokenTheWord_21 : decode cX6_isTokenTheWord 21 = .ok (.if_icmp .ge 56, 3) := by decide +kernel
theorem dX6_isTokenTheWord_24 : decode cX6_isTokenTheWord 24 = .ok (.aload_n 0, 1) := by decide +kernel
theorem dX6_isTokenTheWord_25 : decode cX6_isTokenTheWord 25 = .ok (.getfield 31, 3) := by decide +kernel
theorem dX6_isTokenTheWord_28 : decode cX6_isTokenTheWord 28 = .ok (.iload_n 2, 1) := by decide +kernel
theorem dX6_isTokenTheWord_29 : decode cX6_isTokenTheWord 29 = .ok (.iadd, 1) := by decide +kernel
theorem dX6_isTokenTheWord_30 : decode cX6_isTokenTheWord 30 = .ok (.aload_n 0, 1) := by decide +kernel
theorem dX6_isTokenTheWord_31 : decode cX6_isTokenTheWord 31 = .ok (.getfield 34, 3) := by decide +kernel
theorem dX6_isTokenTheWord_34 : decode cX6_isTokenTheWord 34 = .ok (.if_icmp .ge 17, 3) := by decide +kernel
theorem dX6_isTokenTheWord_37 : decode cX6_isTokenTheWord 37 = .ok (.aload_n 0, 1) := by decide +kernel
theorem dX6_isTokenTheWord_38 : decode cX6_isTokenTheWord 38 = .ok (.getfield 11, 3) := by decide +kernel
theorem dX6_isTokenTheWord_41 : decode cX6_isTokenTheWord 41 = .ok (.aload_n 0, 1) := by decide +kernel
theorem dX6_isTokenTheWord_42 : decode cX6_isTokenTheWord 42 = .ok (.getfield 31, 3) := by decide +kernel
theorem dX6_isTokenTheWord_45 : decode cX6_isTokenTheWord 45 = .ok (.iload_n 2, 1) := by decide +kernel
theorem dX6_isTokenTheWord_46 : decode cX6_isTokenTheWord 46 = .ok (.iadd, 1) := by decide +kernel
theorem dX6_isTokenTheWord_47 : decode cX6_isTokenTheWord 47 = .ok (.iaload, 1) := by decide +kernel
theorem dX6_isTokenTheWord_48 : decode cX6_isTokenTheWord 48 = .ok (.goto 5, 3) := by decide +kernel
theorem dX6_isTokenTheWord_51 : decode cX6_isTokenTheWord 51 = .ok (.bipush 32, 2) := by decide +kernel
theorem dX6_isTokenTheWord_53 : decode cX6_isTokenTheWord 53 = .ok (.istore_n 3, 1) := by decide +kernel
theorem dX6_isTokenTheWord_54 : decode cX6_isTokenTheWord 54 = .ok (.ldc 71, 2) := by decide +kernel
theorem dX6_isTokenTheWord_56 : decode cX6_isTokenTheWord 56 = .ok (.bipush 8, 2) := by decide +kernel
theorem dX6_isTokenTheWord_58 : decode cX6_isTokenTheWord 58 = .ok (.iload_n 1, 1) := by decide +kernel
theorem dX6_isTokenTheWord_59 : decode cX6_isTokenTheWord 59 = .ok (.imul, 1) := by decide +kernel
theorem dX6_isTokenTheWord_60 : decode cX6_isTokenTheWord 60 = .ok (.iload_n 2, 1) := by decide +kernel
theorem dX6_isTokenTheWord_61 : decode cX6_isTokenTheWord 61 = .ok (.iadd, 1) := by decide +kernel
theorem dX6_isTokenTheWord_62 : decode cX6_isTokenTheWord 62 = .ok (.invokevirtual 73, 3) := by decide +kernel
theorem dX6_isTokenTheWord_65 : decode cX6_isTokenTheWord 65 = .ok (.iload_n 3, 1) := by decide +kernel
theorem dX6_isTokenTheWord_66 : decode cX6_isTokenTheWord 66 = .ok (.if_icmp .eq 5, 3) := by decide +kernel
theorem dX6_isTokenTheWord_69 : decode cX6_isTokenTheWord 69 = .ok (.iconst 0, 1) := by decide +kernel
theorem dX6_isTokenTheWord_70 : decode cX6_isTokenTheWord 70 = .ok (.ireturn, 1) := by decide +kernel
theorem dX6_isTokenTheWord_71 : decode cX6_isTokenTheWord 71 = .ok (.iinc 2 1, 3) := by decide +kernel
theorem dX6_isTokenTheWord_74 : decode cX6_isTokenTheWord 74 = .ok (.goto (-56), 3) := by decide +kernel
theorem dX6_isTokenTheWord_77 : decode cX6_isTokenTheWord 77 = .ok (.iconst 1, 1) := by decide +kernel
theorem dX6_isTokenTheWord_78 : decode cX6_isTokenTheWord 78 = .ok (.ireturn, 1) := by decide +kernel
theorem dX6_takeNumber_0 : decode cX6_takeNumber 0 = .ok (.aload_n 0, 1) := by decide +kernel
theorem dX6_takeNumber_1 : decode cX6_takeNumber 1 = .ok (.iconst 0, 1) := by decide +kernel
theorem dX6_takeNumber_2 : decode cX6_takeNumber 2 = .ok (.putfield 43, 3) := by decide +kernel
theorem dX6_takeNumber_5 : decode cX6_takeNumber 5 = .ok (.aload_n 0, 1) := by decide +kernel
theorem dX6_takeNumber_6 : decode cX6_takeNumber 6 = .ok (.getfield 34, 3) := by decide +kernel
theorem dX6_takeNumber_9 : decode cX6_takeNumber 9 = .ok (.aload_n 0, 1) := by decide +kernel
theorem dX6_takeNumber_10 : decode cX6_takeNumber 10 = .ok (.getfield 18, 3) := by decide +kernel
theorem dX6_takeNumber_13 : decode cX6_takeNumber 13 = .ok (.if_icmp .ge 55, 3) := by decide +kernel
theorem dX6_takeNumber_16 : decode cX6_takeNumber 16 = .ok (.aload_n 0, 1) := by decide +kernel
theorem dX6_takeNumber_17 : decode cX6_takeNumber 17 = .ok (.getfield 11, 3) := by decide +kernel
theorem dX6_takeNumber_20 : decode cX6_takeNumber 20 = .ok (.aload_n 0, 1) := by decide +kernel
theorem dX6_takeNumber_21 : decode cX6_takeNumber 21 = .ok (.getfield 34, 3) := by decide +kernel
theorem dX6_takeNumber_24 : decode cX6_takeNumber 24 = .ok (.iaload, 1) := by decide +kernel
theorem dX6_takeNumber_25 : decode cX6_takeNumber 25 = .ok (.invokestatic 62, 3) := by decide +kernel
theorem dX6_takeNumber_28 : decode cX6_takeNumber 28 = .ok (.ifCond .eq 40, 3) := by decide +kernel
theorem dX6_takeNumber_31 : decode cX6_takeNumber 31 = .ok (.aload_n 0, 1) := by decide +kernel
theorem dX6_takeNumber_32 : decode cX6_takeNumber 32 = .ok (.bipush 10, 2) := by decide +kernel
theorem dX6_takeNumber_34 : decode cX6_takeNumber 34 = .ok (.aload_n 0, 1) := by decide +kernel
theorem dX6_takeNumber_35 : decode cX6_takeNumber 35 = .ok (.getfield 43, 3) := by decide +kernel
theorem dX6_takeNumber_38 : decode cX6_takeNumber 38 = .ok (.imul, 1) := by decide +kernel
theorem dX6_takeNumber_39 : decode cX6_takeNumber 39 = .ok (.aload_n 0, 1) := by decide +kernel
theorem dX6_takeNumber_40 : decode cX6_takeNumber 40 = .ok (.getfield 11, 3) := by decide +kernel
theorem dX6_takeNumber_43 : decode cX6_takeNumber 43 = .ok (.aload_n 0, 1) := by decide +kernel
theorem dX6_takeNumber_44 : decode cX6_takeNumber 44 = .ok (.getfield 34, 3) := by decide +kernel
theorem dX6_takeNumber_47 : decode cX6_takeNumber 47 = .ok (.iaload, 1) := by decide +kernel
theorem dX6_takeNumber_48 : decode cX6_takeNumber 48 = .ok (.iadd, 1) := by decide +kernel
theorem dX6_takeNumber_49 : decode cX6_takeNumber 49 = .ok (.bipush 48, 2) := by decide +kernel
theorem dX6_takeNumber_51 : decode cX6_takeNumber 51 = .ok (.isub, 1) := by decide +kernel
theorem dX6_takeNumber_52 : decode cX6_takeNumber 52 = .ok (.putfield 43, 3) := by decide +kernel
theorem dX6_takeNumber_55 : decode cX6_takeNumber 55 = .ok (.aload_n 0, 1) := by decide +kernel
theorem dX6_takeNumber_56 : decode cX6_takeNumber 56 = .ok (.dup, 1) := by decide +kernel
theorem dX6_takeNumber_57 : decode cX6_takeNumber 57 = .ok (.getfield 34, 3) := by decide +kernel
theorem dX6_takeNumber_60 : decode cX6_takeNumber 60 = .ok (.iconst 1, 1) := by decide +kernel
theorem dX6_takeNumber_61 : decode cX6_takeNumber 61 = .ok (.iadd, 1) := by decide +kernel
theorem dX6_takeNumber_62 : decode cX6_takeNumber 62 = .ok (.putfield 34, 3) := by decide +kernel
theorem dX6_takeNumber_65 : decode cX6_takeNumber 65 = .ok (.goto (-60), 3) := by decide +kernel
theorem dX6_takeNumber_68 : decode cX6_takeNumber 68 = .ok (.aload_n 0, 1) := by decide +kernel
theorem dX6_takeNumber_69 : decode cX6_takeNumber 69 = .ok (.getfield 34, 3) := by decide +kernel
theorem dX6_takeNumber_72 : decode cX6_takeNumber 72 = .ok (.aload_n 0, 1) := by decide +kernel
theorem dX6_takeNumber_73 : decode cX6_takeNumber 73 = .ok (.getfield 31, 3) := by decide +kernel
theorem dX6_takeNumber_76 : decode cX6_takeNumber 76 = .ok (.isub, 1) := by decide +kernel
theorem dX6_takeNumber_77 : decode cX6_takeNumber 77 = .ok (.iconst 4, 1) := by decide +kernel
theorem dX6_takeNumber_78 : decode cX6_takeNumber 78 = .ok (.if_icmp .le 7, 3) := by decide +kernel
theorem dX6_takeNumber_81 : decode cX6_takeNumber 81 = .ok (.iconst 4, 1) := by decide +kernel
theorem dX6_takeNumber_82 : decode cX6_takeNumber 82 = .ok (.goto 4, 3) := by decide +kernel
theorem dX6_takeNumber_85 : decode cX6_takeNumber 85 = .ok (.iconst 2, 1) := by decide +kernel
theorem dX6_takeNumber_86 : decode cX6_takeNumber 86 = .ok (.ireturn, 1) := by decide +kernel
theorem dX6_isLetter_0 : decode cX6_isLetter 0 = .ok (.iload_n 0, 1) := by decide +kernel
theorem dX6_isLetter_1 : decode cX6_isLetter 1 = .ok (.bipush 97, 2) := by decide +kernel
theorem dX6_isLetter_3 : decode cX6_isLetter 3 = .ok (.if_icmp .lt 13, 3) := by decide +kernel
theorem dX6_isLetter_6 : decode cX6_isLetter 6 = .ok (.iload_n 0, 1) := by decide +kernel
theorem dX6_isLetter_7 : decode cX6_isLetter 7 = .ok (.bipush 122, 2) := by decide +kernel
theorem dX6_isLetter_9 : decode cX6_isLetter 9 = .ok (.if_icmp .gt 7, 3) := by decide +kernel
theorem dX6_isLetter_12 : decode cX6_isLetter 12 = .ok (.iconst 1, 1) := by decide +kernel
theorem dX6_isLetter_13 : decode cX6_isLetter 13 = .ok (.goto 4, 3) := by decide +kernel
theorem dX6_isLetter_16 : decode cX6_isLetter 16 = .ok (.iconst 0, 1) := by decide +kernel
theorem dX6_isLetter_17 : decode cX6_isLetter 17 = .ok (.ireturn, 1) := by decide +kernel
theorem dX6_isFigure_0 : decode cX6_isFigure 0 = .ok (.iload_n 0, 1) := by decide +kernel
theorem dX6_isFigure_1 : decode cX6_isFigure 1 = .ok (.bipush 48, 2) := by decide +kernel
theorem dX6_isFigure_3 : decode cX6_isFigure 3 = .ok (.if_icmp .lt 13, 3) := by decide +kernel
theorem dX6_isFigure_6 : decode cX6_isFigure 6 = .ok (.iload_n 0, 1) := by decide +kernel
theorem dX6_isFigure_7 : decode cX6_isFigure 7 = .ok (.bipush 57, 2) := by decide +kernel
theorem dX6_isFigure_9 : decode cX6_isFigure 9 = .ok (.if_icmp .gt 7, 3) := by decide +kernel
theorem dX6_isFigure_12 : decode cX6_isFigure 12 = .ok (.iconst 1, 1) := by decide +kernel
theorem dX6_isFigure_13 : decode cX6_isFigure 13 = .ok (.goto 4, 3) := by decide +kernel
theorem dX6_isFigure_16 : decode cX6_isFigure 16 = .ok (.iconst 0, 1) := by decide +kernel
theorem dX6_isFigure_17 : decode cX6_isFigure 17 = .ok (.ireturn, 1) := by decide +kernel
theorem dX7_init_0 : decode cX7_init 0 = .ok (.aload_n 0, 1) := by decide +kernel
theorem dX7_init_1 : decode cX7_init 1 = .ok (.invokespecial 3, 3) := by decide +kernel
theorem dX7_init_4 : decode cX7_init 4 = .ok (.aload_n 0, 1) := by decide +kernel
theorem dX7_init_5 : decode cX7_init 5 = .ok (.bipush 64, 2) := by decide +kernel
theorem dX7_init_7 : decode cX7_init 7 = .ok (.newarray .int, 2) := by decide +kernel
theorem dX7_init_9 : decode cX7_init 9 = .ok (.putfield 11, 3) := by decide +kernel
theorem dX7_init_12 : decode cX7_init 12 = .ok (.aload_n 0, 1) := by decide +kernel
theorem dX7_init_13 : decode cX7_init 13 = .ok (.bipush 64, 2) := by decide +kernel
theorem dX7_init_15 : decode cX7_init 15 = .ok (.newarray .int, 2) := by decide +kernel
theorem dX7_init_17 : decode cX7_init 17 = .ok (.putfield 15, 3) := by decide +kernel
theorem dX7_init_20 : decode cX7_init 20 = .ok (.aload_n 0, 1) := by decide +kernel
theorem dX7_init_21 : decode cX7_init 21 = .ok (.bipush 64, 2) := by decide +kernel
theorem dX7_init_23 : decode cX7_init 23 = .ok (.newarray .int, 2) := by decide +kernel
theorem dX7_init_25 : decode cX7_init 25 = .ok (.putfield 18, 3) := by decide +kernel
theorem dX7_init_28 : decode cX7_init 28 = .ok (.return_, 1) := by decide +kernel
theorem dX7_directionOfFlow_0 : decode cX7_directionOfFlow 0 = .ok (.aload_n 0, 1) := by decide +kernel
theorem dX7_directionOfFlow_1 : decode cX7_directionOfFlow 1 = .ok (.iload_n 1, 1) := by decide +kernel
theorem dX7_directionOfFlow_2 : decode cX7_directionOfFlow 2 = .ok (.iload_n 2, 1) := by decide +kernel
theorem dX7_directionOfFlow_3 : decode cX7_directionOfFlow 3 = .ok (.invokestatic 21, 3) := by decide +kernel
theorem dX7_directionOfFlow_6 : decode cX7_directionOfFlow 6 = .ok (.istore_n 3, 1) := by decide +kernel
theorem dX7_directionOfFlow_7 : decode cX7_directionOfFlow 7 = .ok (.iconst (-1), 1) := by decide +kernel
theorem dX7_directionOfFlow_8 : decode cX7_directionOfFlow 8 = .ok (.istore 4, 2) := by decide +kernel
theorem dX7_directionOfFlow_10 : decode cX7_directionOfFlow 10 = .ok (.iconst 0, 1) := by decide +kernel
theorem dX7_directionOfFlow_11 : decode cX7_directionOfFlow 11 = .ok (.istore 5, 2) := by decide +kernel
theorem dX7_directionOfFlow_13 : decode cX7_directionOfFlow 13 = .ok (.iload 5, 2) := by decide +kernel
theorem dX7_directionOfFlow_15 : decode cX7_directionOfFlow 15 = .ok (.bipush 8, 2) := by decide +kernel
theorem dX7_directionOfFlow_17 : decode cX7_directionOfFlow 17 = .ok (.if_icmp .ge 46, 3) := by decide +kernel
theorem dX7_directionOfFlow_20 : decode cX7_directionOfFlow 20 = .ok (.iload_n 2, 1) := by decide +kernel
theorem dX7_directionOfFlow_21 : decode cX7_directionOfFlow 21 = .ok (.iload 5, 2) := by decide +kernel
theorem dX7_directionOfFlow_23 : decode cX7_directionOfFlow 23 = .ok (.invokestatic 25, 3) := by decide +kernel
theorem dX7_directionOfFlow_26 : decode cX7_directionOfFlow 26 = .ok (.istore 6, 2) := by decide +kernel
theorem dX7_directionOfFlow_28 : decode cX7_directionOfFlow 28 = .ok (.iload 6, 2) := by decide +kernel
theorem dX7_directionOfFlow_30 : decode cX7_directionOfFlow 30 = .ok (.iconst (-1), 1) := by decide +kernel
theorem dX7_directionOfFlow_31 : decode cX7_directionOfFlow 31 = .ok (.if_icmp .eq 26, 3) := by decide +kernel
theorem dX7_directionOfFlow_34 : decode cX7_directionOfFlow 34 = .ok (.aload_n 0, 1) := by decide +kernel
theorem dX7_directionOfFlow_35 : decode cX7_directionOfFlow 35 = .ok (.iload_n 1, 1) := by decide +kernel
theorem dX7_directionOfFlow_36 : decode cX7_directionOfFlow 36 = .ok (.iload 6, 2) := by decide +kernel
theorem dX7_directionOfFlow_38 : decode cX7_directionOfFlow 38 = .ok (.invokestatic 21, 3) := by decide +kernel
theorem dX7_directionOfFlow_41 : decode cX7_directionOfFlow 41 = .ok (.iload_n 3, 1) := by decide +kernel
theorem dX7_directionOfFlow_42 : decode cX7_directionOfFlow 42 = .ok (.if_icmp .ge 15, 3) := by decide +kernel
theorem dX7_directionOfFlow_45 : decode cX7_directionOfFlow 45 = .ok (.aload_n 0, 1) := by decide +kernel
theorem dX7_directionOfFlow_46 : decode cX7_directionOfFlow 46 = .ok (.iload_n 1, 1) := by decide +kernel
theorem dX7_directionOfFlow_47 : decode cX7_directionOfFlow 47 = .ok (.iload 6, 2) := by decide +kernel
theorem dX7_directionOfFlow_49 : decode cX7_directionOfFlow 49 = .ok (.invokestatic 21, 3) := by decide +kernel
theorem dX7_directionOfFlow_52 : decode cX7_directionOfFlow 52 = .ok (.istore_n 3, 1) := by decide +kernel
theorem dX7_directionOfFlow_53 : decode cX7_directionOfFlow 53 = .ok (.iload 5, 2) := by decide +kernel
theorem dX7_directionOfFlow_55 : decode cX7_directionOfFlow 55 = .ok (.istore 4, 2) := by decide +kernel
theorem dX7_directionOfFlow_57 : decode cX7_directionOfFlow 57 = .ok (.iinc 5 1, 3) := by decide +kernel
theorem dX7_directionOfFlow_60 : decode cX7_directionOfFlow 60 = .ok (.goto (-47), 3) := by decide +kernel
theorem dX7_directionOfFlow_63 : decode cX7_directionOfFlow 63 = .ok (.iload 4, 2) := by decide +kernel
theorem dX7_directionOfFlow_65 : decode cX7_directionOfFlow 65 = .ok (.ireturn, 1) := by decide +kernel
theorem dX7_fewestSteps_0 : decode cX7_fewestSteps 0 = .ok (.aload_n 0, 1) := by decide +kernel
theorem dX7_fewestSteps_1 : decode cX7_fewestSteps 1 = .ok (.aload_n 1, 1) := by decide +kernel
theorem dX7_fewestSteps_2 : decode cX7_fewestSteps 2 = .ok (.getfield 29, 3) := by decide +kernel
theorem dX7_fewestSteps_5 : decode cX7_fewestSteps 5 = .ok (.aload_n 1, 1) := by decide +kernel
theorem dX7_fewestSteps_6 : decode cX7_fewestSteps 6 = .ok (.getfield 34, 3) := by decide +kernel
theorem dX7_fewestSteps_9 : decode cX7_fewestSteps 9 = .ok (.iload_n 2, 1) := by decide +kernel
theorem dX7_fewestSteps_10 : decode cX7_fewestSteps 10 = .ok (.iconst 0, 1) := by decide +kernel
theorem dX7_fewestSteps_11 : decode cX7_fewestSteps 11 = .ok (.invokevirtual 38, 3) := by decide +kernel
theorem dX7_fewestSteps_14 : decode cX7_fewestSteps 14 = .ok (.invokevirtual 43, 3) := by decide +kernel
theorem dX7_fewestSteps_17 : decode cX7_fewestSteps 17 = .ok (.aload_n 0, 1) := by decide +kernel
theorem dX7_fewestSteps_18 : decode cX7_fewestSteps 18 = .ok (.aload_n 1, 1) := by decide +kernel
theorem dX7_fewestSteps_19 : decode cX7_fewestSteps 19 = .ok (.getfield 47, 3) := by decide +kernel
theorem dX7_fewestSteps_22 : decode cX7_fewestSteps 22 = .ok (.iload_n 3, 1) := by decide +kernel
theorem dX7_fewestSteps_23 : decode cX7_fewestSteps 23 = .ok (.iconst 0, 1) := by decide +kernel
theorem dX7_fewestSteps_24 : decode cX7_fewestSteps 24 = .ok (.invokevirtual 38, 3) := by decide +kernel
theorem dX7_fewestSteps_27 : decode cX7_fewestSteps 27 = .ok (.invokevirtual 50, 3) := by decide +kernel
theorem dX7_fewestSteps_30 : decode cX7_fewestSteps 30 = .ok (.ireturn, 1) := by decide +kernel
theorem dX7_fittingCliffs_0 : decode cX7_fittingCliffs 0 = .ok (.aload_n 0, 1) := by decide +kernel
theorem dX7_fittingCliffs_1 : decode cX7_fittingCliffs 1 = .ok (.aload_n 1, 1) := by decide +kernel
theorem dX7_fittingCliffs_2 : decode cX7_fittingCliffs 2 = .ok (.getfield 29, 3) := by decide +kernel
theorem dX7_fittingCliffs_5 : decode cX7_fittingCliffs 5 = .ok (.aload_n 1, 1) := by decide +kernel
theorem dX7_fittingCliffs_6 : decode cX7_fittingCliffs 6 = .ok (.getfield 34, 3) := by decide +kernel
theorem dX7_fittingCliffs_9 : decode cX7_fittingCliffs 9 = .ok (.iload_n 2, 1) := by decide +kernel
theorem dX7_fittingCliffs_10 : decode cX7_fittingCliffs 10 = .ok (.iconst 0, 1) := by decide +kernel
theorem dX7_fittingCliffs_11 : decode cX7_fittingCliffs 11 = .ok (.invokevirtual 38, 3) := by decide +kernel
theorem dX7_fittingCliffs_14 : decode cX7_fittingCliffs 14 = .ok (.invokevirtual 43, 3) := by decide +kernel
theorem dX7_fittingCliffs_17 : decode cX7_fittingCliffs 17 = .ok (.iconst 0, 1) := by decide +kernel
theorem dX7_fittingCliffs_18 : decode cX7_fittingCliffs 18 = .ok (.istore_n 3, 1) := by decide +kernel
theorem dX7_fittingCliffs_19 : decode cX7_fittingCliffs 19 = .ok (.iconst 0, 1) := by decide +kernel
theorem dX7_fittingCliffs_20 : decode cX7_fittingCliffs 20 = .ok (.istore 4, 2) := by decide +kernel
theorem dX7_fittingCliffs_22 : decode cX7_fittingCliffs 22 = .ok (.iload 4, 2) := by decide +kernel
theorem dX7_fittingCliffs_24 : decode cX7_fittingCliffs 24 = .ok (.aload_n 1, 1) := by decide +kernel
theorem dX7_fittingCliffs_25 : decode cX7_fittingCliffs 25 = .ok (.getfield 47, 3) := by decide +kernel
theorem dX7_fittingCliffs_28 : decode cX7_fittingCliffs 28 = .ok (.invokevirtual 54, 3) := by decide +kernel
theorem dX7_fittingCliffs_31 : decode cX7_fittingCliffs 31 = .ok (.if_icmp .ge 28, 3) := by decide +kernel
theorem dX7_fittingCliffs_34 : decode cX7_fittingCliffs 34 = .ok (.aload_n 0, 1) := by decide +kernel
theorem dX7_fittingCliffs_35 : decode cX7_fittingCliffs 35 = .ok (.aload_n 1, 1) := by decide +kernel
theorem dX7_fittingCliffs_36 : decode cX7_fittingCliffs 36 = .ok (.iload_n 2, 1) := by decide +kernel
theorem dX7_fittingCliffs_37 : decode cX7_fittingCliffs 37 = .ok (.iload 4, 2) := by decide +kernel
theorem dX7_fittingCliffs_39 : decode cX7_fittingCliffs 39 = .ok (.invokevirtual 58, 3) := by decide +kernel
theorem dX7_fittingCliffs_42 : decode cX7_fittingCliffs 42 = .ok (.iconst (-1), 1) := by decide +kernel
theorem dX7_fittingCliffs_43 : decode cX7_fittingCliffs 43 = .ok (.if_icmp .eq 10, 3) := by decide +kernel
theorem dX7_fittingCliffs_46 : decode cX7_fittingCliffs 46 = .ok (.iload_n 3, 1) := by decide +kernel
theorem dX7_fittingCliffs_47 : decode cX7_fittingCliffs 47 = .ok (.iconst 1, 1) := by decide +kernel
theorem dX7_fittingCliffs_48 : decode cX7_fittingCliffs 48 = .ok (.iload 4, 2) := by decide +kernel
theorem dX7_fittingCliffs_50 : decode cX7_fittingCliffs 50 = .ok (.ishl, 1) := by decide +kernel
theorem dX7_fittingCliffs_51 : decode cX7_fittingCliffs 51 = .ok (.ior, 1) := by decide +kernel
theorem dX7_fittingCliffs_52 : decode cX7_fittingCliffs 52 = .ok (.istore_n 3, 1) := by decide +kernel
theorem dX7_fittingCliffs_53 : decode cX7_fittingCliffs 53 = .ok (.iinc 4 1, 3) := by decide +kernel
theorem dX7_fittingCliffs_56 : decode cX7_fittingCliffs 56 = .ok (.goto (-34), 3) := by decide +kernel
theorem dX7_fittingCliffs_59 : decode cX7_fittingCliffs 59 = .ok (.iload_n 3, 1) := by decide +kernel
theorem dX7_fittingCliffs_60 : decode cX7_fittingCliffs 60 = .ok (.ireturn, 1) := by decide +kernel
theorem dX7_nearestCliff_0 : decode cX7_nearestCliff 0 = .ok (.aload_n 0, 1) := by decide +kernel
theorem dX7_nearestCliff_1 : decode cX7_nearestCliff 1 = .ok (.aload_n 1, 1) := by decide +kernel
theorem dX7_nearestCliff_2 : decode cX7_nearestCliff 2 = .ok (.getfield 29, 3) := by decide +kernel
theorem dX7_nearestCliff_5 : decode cX7_nearestCliff 5 = .ok (.aload_n 1, 1) := by decide +kernel
theorem dX7_nearestCliff_6 : decode cX7_nearestCliff 6 = .ok (.getfield 34, 3) := by decide +kernel
theorem dX7_nearestCliff_9 : decode cX7_nearestCliff 9 = .ok (.iload_n 2, 1) := by decide +kernel
theorem dX7_nearestCliff_10 : decode cX7_nearestCliff 10 = .ok (.iconst 0, 1) := by decide +kernel
theorem dX7_nearestCliff_11 : decode cX7_nearestCliff 11 = .ok (.invokevirtual 38, 3) := by decide +kernel
theorem dX7_nearestCliff_14 : decode cX7_nearestCliff 14 = .ok (.invokevirtual 43, 3) := by decide +kernel
theorem dX7_nearestCliff_17 : decode cX7_nearestCliff 17 = .ok (.iconst (-1), 1) := by decide +kernel
theorem dX7_nearestCliff_18 : decode cX7_nearestCliff 18 = .ok (.istore_n 3, 1) := by decide +kernel
theorem dX7_nearestCliff_19 : decode cX7_nearestCliff 19 = .ok (.ldc 62, 2) := by decide +kernel
theorem dX7_nearestCliff_21 : decode cX7_nearestCliff 21 = .ok (.istore 4, 2) := by decide +kernel
theorem dX7_nearestCliff_23 : decode cX7_nearestCliff 23 = .ok (.iconst 0, 1) := by decide +kernel
theorem dX7_nearestCliff_24 : decode cX7_nearestCliff 24 = .ok (.istore 5, 2) := by decide +kernel
theorem dX7_nearestCliff_26 : decode cX7_nearestCliff 26 = .ok (.iload 5, 2) := by decide +kernel
theorem dX7_nearestCliff_28 : decode cX7_nearestCliff 28 = .ok (.aload_n 1, 1) := by decide +kernel
theorem dX7_nearestCliff_29 : decode cX7_nearestCliff 29 = .ok (.getfield 47, 3) := by decide +kernel
theorem dX7_nearestCliff_32 : decode cX7_nearestCliff 32 = .ok (.invokevirtual 54, 3) := by decide +kernel
theorem dX7_nearestCliff_35 : decode cX7_nearestCliff 35 = .ok (.if_icmp .ge 39, 3) := by decide +kernel
theorem dX7_nearestCliff_38 : decode cX7_nearestCliff 38 = .ok (.aload_n 0, 1) := by decide +kernel
theorem dX7_nearestCliff_39 : decode cX7_nearestCliff 39 = .ok (.aload_n 1, 1) := by decide +kernel
theorem dX7_nearestCliff_40 : decode cX7_nearestCliff 40 = .ok (.iload_n 2, 1) := by decide +kernel
theorem dX7_nearestCliff_41 : decode cX7_nearestCliff 41 = .ok (.iload 5, 2) := by decide +kernel
theorem dX7_nearestCliff_43 : decode cX7_nearestCliff 43 = .ok (.invokevirtual 58, 3) := by decide +kernel
theorem dX7_nearestCliff_46 : decode cX7_nearestCliff 46 = .ok (.istore 6, 2) := by decide +kernel
theorem dX7_nearestCliff_48 : decode cX7_nearestCliff 48 = .ok (.iload 6, 2) := by decide +kernel
theorem dX7_nearestCliff_50 : decode cX7_nearestCliff 50 = .ok (.iconst (-1), 1) := by decide +kernel
theorem dX7_nearestCliff_51 : decode cX7_nearestCliff 51 = .ok (.if_icmp .eq 17, 3) := by decide +kernel
theorem dX7_nearestCliff_54 : decode cX7_nearestCliff 54 = .ok (.iload 6, 2) := by decide +kernel
theorem dX7_nearestCliff_56 : decode cX7_nearestCliff 56 = .ok (.iload 4, 2) := by decide +kernel
theorem dX7_nearestCliff_58 : decode cX7_nearestCliff 58 = .ok (.if_icmp .ge 10, 3) := by decide +kernel
theorem dX7_nearestCliff_61 : decode cX7_nearestCliff 61 = .ok (.iload 6, 2) := by decide +kernel
theorem dX7_nearestCliff_63 : decode cX7_nearestCliff 63 = .ok (.istore 4, 2) := by decide +kernel
theorem dX7_nearestCliff_65 : decode cX7_nearestCliff 65 = .ok (.iload 5, 2) := by decide +kernel
theorem dX7_nearestCliff_67 : decode cX7_nearestCliff 67 = .ok (.istore_n 3, 1) := by decide +kernel
theorem dX7_nearestCliff_68 : decode cX7_nearestCliff 68 = .ok (.iinc 5 1, 3) := by decide +kernel
theorem dX7_nearestCliff_71 : decode cX7_nearestCliff 71 = .ok (.goto (-45), 3) := by decide +kernel
theorem dX7_nearestCliff_74 : decode cX7_nearestCliff 74 = .ok (.iload_n 3, 1) := by decide +kernel
theorem dX7_nearestCliff_75 : decode cX7_nearestCliff 75 = .ok (.ireturn, 1) := by decide +kernel
theorem dX7_placesAbove_0 : decode cX7_placesAbove 0 = .ok (.aload_n 0, 1) := by decide +kernel
theorem dX7_placesAbove_1 : decode cX7_placesAbove 1 = .ok (.aload_n 1, 1) := by decide +kernel
theorem dX7_placesAbove_2 : decode cX7_placesAbove 2 = .ok (.iload_n 2, 1) := by decide +kernel
theorem dX7_placesAbove_3 : decode cX7_placesAbove 3 = .ok (.invokevirtual 43, 3) := by decide +kernel
theorem dX7_placesAbove_6 : decode cX7_placesAbove 6 = .ok (.iconst 0, 1) := by decide +kernel
theorem dX7_placesAbove_7 : decode cX7_placesAbove 7 = .ok (.istore_n 3, 1) := by decide +kernel
theorem dX7_placesAbove_8 : decode cX7_placesAbove 8 = .ok (.iconst 0, 1) := by decide +kernel
theorem dX7_placesAbove_9 : decode cX7_placesAbove 9 = .ok (.istore 4, 2) := by decide +kernel
theorem dX7_placesAbove_11 : decode cX7_placesAbove 11 = .ok (.iload 4, 2) := by decide +kernel
theorem dX7_placesAbove_13 : decode cX7_placesAbove 13 = .ok (.bipush 64, 2) := by decide +kernel
theorem dX7_placesAbove_15 : decode cX7_placesAbove 15 = .ok (.if_icmp .ge 22, 3) := by decide +kernel
theorem dX7_placesAbove_18 : decode cX7_placesAbove 18 = .ok (.aload_n 0, 1) := by decide +kernel
theorem dX7_placesAbove_19 : decode cX7_placesAbove 19 = .ok (.iload 4, 2) := by decide +kernel
theorem dX7_placesAbove_21 : decode cX7_placesAbove 21 = .ok (.invokevirtual 50, 3) := by decide +kernel
theorem dX7_placesAbove_24 : decode cX7_placesAbove 24 = .ok (.iconst (-1), 1) := by decide +kernel
theorem dX7_placesAbove_25 : decode cX7_placesAbove 25 = .ok (.if_icmp .eq 6, 3) := by decide +kernel
theorem dX7_placesAbove_28 : decode cX7_placesAbove 28 = .ok (.iinc 3 1, 3) := by decide +kernel
theorem dX7_placesAbove_31 : decode cX7_placesAbove 31 = .ok (.iinc 4 1, 3) := by decide +kernel
theorem dX7_placesAbove_34 : decode cX7_placesAbove 34 = .ok (.goto (-23), 3) := by decide +kernel
theorem dX7_placesAbove_37 : decode cX7_placesAbove 37 = .ok (.iload_n 3, 1) := by decide +kernel
theorem dX7_placesAbove_38 : decode cX7_placesAbove 38 = .ok (.ireturn, 1) := by decide +kernel
theorem dX7_stepsOfSort_0 : decode cX7_stepsOfSort 0 = .ok (.aload_n 1, 1) := by decide +kernel
theorem dX7_stepsOfSort_1 : decode cX7_stepsOfSort 1 = .ok (.getfield 47, 3) := by decide +kernel
theorem dX7_stepsOfSort_4 : decode cX7_stepsOfSort 4 = .ok (.iload_n 3, 1) := by decide +kernel
theorem dX7_stepsOfSort_5 : decode cX7_stepsOfSort 5 = .ok (.iconst 1, 1) := by decide +kernel
theorem dX7_stepsOfSort_6 : decode cX7_stepsOfSort 6 = .ok (.invokevirtual 38, 3) := by decide +kernel
theorem dX7_stepsOfSort_9 : decode cX7_stepsOfSort 9 = .ok (.aload_n 1, 1) := by decide +kernel
theorem dX7_stepsOfSort_10 : decode cX7_stepsOfSort 10 = .ok (.getfield 34, 3) := by decide +kernel
theorem dX7_stepsOfSort_13 : decode cX7_stepsOfSort 13 = .ok (.iload_n 2, 1) := by decide +kernel
theorem dX7_stepsOfSort_14 : decode cX7_stepsOfSort 14 = .ok (.iconst 1, 1) := by decide +kernel
theorem dX7_stepsOfSort_15 : decode cX7_stepsOfSort 15 = .ok (.invokevirtual 38, 3) := by decide +kernel
theorem dX7_stepsOfSort_18 : decode cX7_stepsOfSort 18 = .ok (.if_icmp .eq 5, 3) := by decide +kernel
theorem dX7_stepsOfSort_21 : decode cX7_stepsOfSort 21 = .ok (.iconst (-1), 1) := by decide +kernel
theorem dX7_stepsOfSort_22 : decode cX7_stepsOfSort 22 = .ok (.ireturn, 1) := by decide +kernel
theorem dX7_stepsOfSort_23 : decode cX7_stepsOfSort 23 = .ok (.aload_n 0, 1) := by decide +kernel
theorem dX7_stepsOfSort_24 : decode cX7_stepsOfSort 24 = .ok (.aload_n 1, 1) := by decide +kernel
theorem dX7_stepsOfSort_25 : decode cX7_stepsOfSort 25 = .ok (.getfield 47, 3) := by decide +kernel
theorem dX7_stepsOfSort_28 : decode cX7_stepsOfSort 28 = .ok (.iload_n 3, 1) := by decide +kernel
theorem dX7_stepsOfSort_29 : decode cX7_stepsOfSort 29 = .ok (.iconst 0, 1) := by decide +kernel
theorem dX7_stepsOfSort_30 : decode cX7_stepsOfSort 30 = .ok (.invokevirtual 38, 3) := by decide +kernel
theorem dX7_stepsOfSort_33 : decode cX7_stepsOfSort 33 = .ok (.invokevirtual 50, 3) := by decide +kernel
theorem dX7_stepsOfSort_36 : decode cX7_stepsOfSort 36 = .ok (.ireturn, 1) := by decide +kernel
theorem dX7_stepsFrom_0 : decode cX7_stepsFrom 0 = .ok (.iload_n 1, 1) := by decide +kernel
theorem dX7_stepsFrom_1 : decode cX7_stepsFrom 1 = .ok (.ifCond .lt 20, 3) := by decide +kernel
theorem dX7_stepsFrom_4 : decode cX7_stepsFrom 4 = .ok (.iload_n 1, 1) := by decide +kernel
theorem dX7_stepsFrom_5 : decode cX7_stepsFrom 5 = .ok (.bipush 64, 2) := by decide +kernel
theorem dX7_stepsFrom_7 : decode cX7_stepsFrom 7 = .ok (.if_icmp .ge 14, 3) := by decide +kernel
theorem dX7_stepsFrom_10 : decode cX7_stepsFrom 10 = .ok (.aload_n 0, 1) := by decide +kernel
theorem dX7_stepsFrom_11 : decode cX7_stepsFrom 11 = .ok (.getfield 15, 3) := by decide +kernel
theorem dX7_stepsFrom_14 : decode cX7_stepsFrom 14 = .ok (.iload_n 1, 1) := by decide +kernel
theorem dX7_stepsFrom_15 : decode cX7_stepsFrom 15 = .ok (.iaload, 1) := by decide +kernel
theorem dX7_stepsFrom_16 : decode cX7_stepsFrom 16 = .ok (.ldc 62, 2) := by decide +kernel
theorem dX7_stepsFrom_18 : decode cX7_stepsFrom 18 = .ok (.if_icmp .lt 5, 3) := by decide +kernel
theorem dX7_stepsFrom_21 : decode cX7_stepsFrom 21 = .ok (.iconst (-1), 1) := by decide +kernel
theorem dX7_stepsFrom_22 : decode cX7_stepsFrom 22 = .ok (.ireturn, 1) := by decide +kernel
theorem dX7_stepsFrom_23 : decode cX7_stepsFrom 23 = .ok (.aload_n 0, 1) := by decide +kernel
theorem dX7_stepsFrom_24 : decode cX7_stepsFrom 24 = .ok (.getfield 15, 3) := by decide +kernel
theorem dX7_stepsFrom_27 : decode cX7_stepsFrom 27 = .ok (.iload_n 1, 1) := by decide +kernel
theorem dX7_stepsFrom_28 : decode cX7_stepsFrom 28 = .ok (.iaload, 1) := by decide +kernel
theorem dX7_stepsFrom_29 : decode cX7_stepsFrom 29 = .ok (.ireturn, 1) := by decide +kernel
theorem dX7_leadTo_0 : decode cX7_leadTo 0 = .ok (.iconst 0, 1) := by decide +kernel
theorem dX7_leadTo_1 : decode cX7_leadTo 1 = .ok (.istore_n 3, 1) := by decide +kernel
theorem dX7_leadTo_2 : decode cX7_leadTo 2 = .ok (.iload_n 3, 1) := by decide +kernel
theorem dX7_leadTo_3 : decode cX7_leadTo 3 = .ok (.bipush 64, 2) := by decide +kernel
theorem dX7_leadTo_5 : decode cX7_leadTo 5 = .ok (.if_icmp .ge 26, 3) := by decide +kernel
theorem dX7_leadTo_8 : decode cX7_leadTo 8 = .ok (.aload_n 0, 1) := by decide +kernel
theorem dX7_leadTo_9 : decode cX7_leadTo 9 = .ok (.getfield 15, 3) := by decide +kernel
theorem dX7_leadTo_12 : decode cX7_leadTo 12 = .ok (.iload_n 3, 1) := by decide +kernel
theorem dX7_leadTo_13 : decode cX7_leadTo 13 = .ok (.iload_n 3, 1) := by decide +kernel
theorem dX7_leadTo_14 : decode cX7_leadTo 14 = .ok (.iload_n 2, 1) := by decide +kernel
theorem dX7_leadTo_15 : decode cX7_leadTo 15 = .ok (.if_icmp .ne 7, 3) := by decide +kernel
theorem dX7_leadTo_18 : decode cX7_leadTo 18 = .ok (.iconst 0, 1) := by decide +kernel
theorem dX7_leadTo_19 : decode cX7_leadTo 19 = .ok (.goto 5, 3) := by decide +kernel
theorem dX7_leadTo_22 : decode cX7_leadTo 22 = .ok (.ldc 62, 2) := by decide +kernel
theorem dX7_leadTo_24 : decode cX7_leadTo 24 = .ok (.iastore, 1) := by decide +kernel
theorem dX7_leadTo_25 : decode cX7_leadTo 25 = .ok (.iinc 3 1, 3) := by decide +kernel
theorem dX7_leadTo_28 : decode cX7_leadTo 28 = .ok (.goto (-26), 3) := by decide +kernel
theorem dX7_leadTo_31 : decode cX7_leadTo 31 = .ok (.iconst 2, 1) := by decide +kernel
theorem dX7_leadTo_32 : decode cX7_leadTo 32 = .ok (.istore_n 3, 1) := by decide +kernel
theorem dX7_leadTo_33 : decode cX7_leadTo 33 = .ok (.iload_n 3, 1) := by decide +kernel
theorem dX7_leadTo_34 : decode cX7_leadTo 34 = .ok (.ifCond .lt 88, 3) := by decide +kernel
theorem dX7_leadTo_37 : decode cX7_leadTo 37 = .ok (.iconst 0, 1) := by decide +kernel
theorem dX7_leadTo_38 : decode cX7_leadTo 38 = .ok (.istore 4, 2) := by decide +kernel
theorem dX7_leadTo_40 : decode cX7_leadTo 40 = .ok (.iload 4, 2) := by decide +kernel
theorem dX7_leadTo_42 : decode cX7_leadTo 42 = .ok (.bipush 64, 2) := by decide +kernel
theorem dX7_leadTo_44 : decode cX7_leadTo 44 = .ok (.if_icmp .ge 28, 3) := by decide +kernel
theorem dX7_leadTo_47 : decode cX7_leadTo 47 = .ok (.aload_n 0, 1) := by decide +kernel
theorem dX7_leadTo_48 : decode cX7_leadTo 48 = .ok (.getfield 11, 3) := by decide +kernel
theorem dX7_leadTo_51 : decode cX7_leadTo 51 = .ok (.iload 4, 2) := by decide +kernel
theorem dX7_leadTo_53 : decode cX7_leadTo 53 = .ok (.iload 4, 2) := by decide +kernel
theorem dX7_leadTo_55 : decode cX7_leadTo 55 = .ok (.aload_n 1, 1) := by decide +kernel
theorem dX7_leadTo_56 : decode cX7_leadTo 56 = .ok (.iload_n 3, 1) := by decide +kernel
theorem dX7_leadTo_57 : decode cX7_leadTo 57 = .ok (.iload 4, 2) := by decide +kernel
theorem dX7_leadTo_59 : decode cX7_leadTo 59 = .ok (.invokestatic 63, 3) := by decide +kernel
theorem dX7_leadTo_62 : decode cX7_leadTo 62 = .ok (.invokestatic 25, 3) := by decide +kernel
theorem dX7_leadTo_65 : decode cX7_leadTo 65 = .ok (.iastore, 1) := by decide +kernel
theorem dX7_leadTo_66 : decode cX7_leadTo 66 = .ok (.iinc 4 1, 3) := by decide +kernel
theorem dX7_leadTo_69 : decode cX7_leadTo 69 = .ok (.goto (-29), 3) := by decide +kernel
theorem dX7_leadTo_72 : decode cX7_leadTo 72 = .ok (.iconst 0, 1) := by decide +kernel
theorem dX7_leadTo_73 : decode cX7_leadTo 73 = .ok (.istore 4, 2) := by decide +kernel
theorem dX7_leadTo_75 : decode cX7_leadTo 75 = .ok (.iload 4, 2) := by decide +kernel
theorem dX7_leadTo_77 : decode cX7_leadTo 77 = .ok (.bipush 64, 2) := by decide +kernel
theorem dX7_leadTo_79 : decode cX7_leadTo 79 = .ok (.if_icmp .ge 22, 3) := by decide +kernel
theorem dX7_leadTo_82 : decode cX7_leadTo 82 = .ok (.aload_n 0, 1) := by decide +kernel
theorem dX7_leadTo_83 : decode cX7_leadTo 83 = .ok (.getfield 18, 3) := by decide +kernel
theorem dX7_leadTo_86 : decode cX7_leadTo 86 = .ok (.iload 4, 2) := by decide +kernel
theorem dX7_leadTo_88 : decode cX7_leadTo 88 = .ok (.aload_n 0, 1) := by decide +kernel
theorem dX7_leadTo_89 : decode cX7_leadTo 89 = .ok (.iload 4, 2) := by decide +kernel
theorem dX7_leadTo_91 : decode cX7_leadTo 91 = .ok (.invokevirtual 66, 3) := by decide +kernel
theorem dX7_leadTo_94 : decode cX7_leadTo 94 = .ok (.iastore, 1) := by decide +kernel
theorem dX7_leadTo_95 : decode cX7_leadTo 95 = .ok (.iinc 4 1, 3) := by decide +kernel
theorem dX7_leadTo_98 : decode cX7_leadTo 98 = .ok (.goto (-23), 3) := by decide +kernel
theorem dX7_leadTo_101 : decode cX7_leadTo 101 = .ok (.aload_n 0, 1) := by decide +kernel
theorem dX7_leadTo_102 : decode cX7_leadTo 102 = .ok (.getfield 18, 3) := by decide +kernel
theorem dX7_leadTo_105 : decode cX7_leadTo 105 = .ok (.iconst 0, 1) := by decide +kernel
theorem dX7_leadTo_106 : decode cX7_leadTo 106 = .ok (.aload_n 0, 1) := by decide +kernel
theorem dX7_leadTo_107 : decode cX7_leadTo 107 = .ok (.getfield 15, 3) := by decide +kernel
theorem dX7_leadTo_110 : decode cX7_leadTo 110 = .ok (.iconst 0, 1) := by decide +kernel
theorem dX7_leadTo_111 : decode cX7_leadTo 111 = .ok (.bipush 64, 2) := by decide +kernel
theorem dX7_leadTo_113 : decode cX7_leadTo 113 = .ok (.invokestatic 69, 3) := by decide +kernel
theorem dX7_leadTo_116 : decode cX7_leadTo 116 = .ok (.iinc 3 (-1), 3) := by decide +kernel
theorem dX7_leadTo_119 : decode cX7_leadTo 119 = .ok (.goto (-86), 3) := by decide +kernel
theorem dX7_leadTo_122 : decode cX7_leadTo 122 = .ok (.return_, 1) := by decide +kernel
theorem dX7_fewestDownFrom_0 : decode cX7_fewestDownFrom 0 = .ok (.ldc 62, 2) := by decide +kernel
theorem dX7_fewestDownFrom_2 : decode cX7_fewestDownFrom 2 = .ok (.istore_n 2, 1) := by decide +kernel
theorem dX7_fewestDownFrom_3 : decode cX7_fewestDownFrom 3 = .ok (.iload_n 1, 1) := by decide +kernel
theorem dX7_fewestDownFrom_4 : decode cX7_fewestDownFrom 4 = .ok (.istore_n 3, 1) := by decide +kernel
theorem dX7_fewestDownFrom_5 : decode cX7_fewestDownFrom 5 = .ok (.iconst 0, 1) := by decide +kernel
theorem dX7_fewestDownFrom_6 : decode cX7_fewestDownFrom 6 = .ok (.istore 4, 2) := by decide +kernel
theorem dX7_fewestDownFrom_8 : decode cX7_fewestDownFrom 8 = .ok (.iload 4, 2) := by decide +kernel
theorem dX7_fewestDownFrom_10 : decode cX7_fewestDownFrom 10 = .ok (.bipush 64, 2) := by decide +kernel
theorem dX7_fewestDownFrom_12 : decode cX7_fewestDownFrom 12 = .ok (.if_icmp .ge 40, 3) := by decide +kernel
theorem dX7_fewestDownFrom_15 : decode cX7_fewestDownFrom 15 = .ok (.iload_n 3, 1) := by decide +kernel
theorem dX7_fewestDownFrom_16 : decode cX7_fewestDownFrom 16 = .ok (.ifCond .lt 36, 3) := by decide +kernel
theorem dX7_fewestDownFrom_19 : decode cX7_fewestDownFrom 19 = .ok (.iload_n 3, 1) := by decide +kernel
theorem dX7_fewestDownFrom_20 : decode cX7_fewestDownFrom 20 = .ok (.bipush 64, 2) := by decide +kernel
theorem dX7_fewestDownFrom_22 : decode cX7_fewestDownFrom 22 = .ok (.if_icmp .ge 30, 3) := by decide +kernel
theorem dX7_fewestDownFrom_25 : decode cX7_fewestDownFrom 25 = .ok (.iload_n 2, 1) := by decide +kernel
theorem dX7_fewestDownFrom_26 : decode cX7_fewestDownFrom 26 = .ok (.iload 4, 2) := by decide +kernel
theorem dX7_fewestDownFrom_28 : decode cX7_fewestDownFrom 28 = .ok (.aload_n 0, 1) := by decide +kernel
theorem dX7_fewestDownFrom_29 : decode cX7_fewestDownFrom 29 = .ok (.getfield 15, 3) := by decide +kernel
theorem dX7_fewestDownFrom_32 : decode cX7_fewestDownFrom 32 = .ok (.iload_n 3, 1) := by decide +kernel
theorem dX7_fewestDownFrom_33 : decode cX7_fewestDownFrom 33 = .ok (.iaload, 1) := by decide +kernel
theorem dX7_fewestDownFrom_34 : decode cX7_fewestDownFrom 34 = .ok (.iadd, 1) := by decide +kernel
theorem dX7_fewestDownFrom_35 : decode cX7_fewestDownFrom 35 = .ok (.invokestatic 75, 3) := by decide +kernel
theorem dX7_fewestDownFrom_38 : decode cX7_fewestDownFrom 38 = .ok (.istore_n 2, 1) := by decide +kernel
theorem dX7_fewestDownFrom_39 : decode cX7_fewestDownFrom 39 = .ok (.aload_n 0, 1) := by decide +kernel
theorem dX7_fewestDownFrom_40 : decode cX7_fewestDownFrom 40 = .ok (.getfield 11, 3) := by decide +kernel
theorem dX7_fewestDownFrom_43 : decode cX7_fewestDownFrom 43 = .ok (.iload_n 3, 1) := by decide +kernel
theorem dX7_fewestDownFrom_44 : decode cX7_fewestDownFrom 44 = .ok (.iaload, 1) := by decide +kernel
theorem dX7_fewestDownFrom_45 : decode cX7_fewestDownFrom 45 = .ok (.istore_n 3, 1) := by decide +kernel
theorem dX7_fewestDownFrom_46 : decode cX7_fewestDownFrom 46 = .ok (.iinc 4 1, 3) := by decide +kernel
theorem dX7_fewestDownFrom_49 : decode cX7_fewestDownFrom 49 = .ok (.goto (-41), 3) := by decide +kernel
theorem dX7_fewestDownFrom_52 : decode cX7_fewestDownFrom 52 = .ok (.iload_n 2, 1) := by decide +kernel
theorem dX7_fewestDownFrom_53 : decode cX7_fewestDownFrom 53 = .ok (.ireturn, 1) := by decide +kernel
theorem dX7_surfaceAt_0 : decode cX7_surfaceAt 0 = .ok (.bipush 64, 2) := by decide +kernel
theorem dX7_surfaceAt_2 : decode cX7_surfaceAt 2 = .ok (.iload_n 1, 1) := by decide +kernel
theorem dX7_surfaceAt_3 : decode cX7_surfaceAt 3 = .ok (.imul, 1) := by decide +kernel
theorem dX7_surfaceAt_4 : decode cX7_surfaceAt 4 = .ok (.iload_n 2, 1) := by decide +kernel
theorem dX7_surfaceAt_5 : decode cX7_surfaceAt 5 = .ok (.iadd, 1) := by decide +kernel
theorem dX7_surfaceAt_6 : decode cX7_surfaceAt 6 = .ok (.istore_n 3, 1) := by decide +kernel
theorem dX7_surfaceAt_7 : decode cX7_surfaceAt 7 = .ok (.iload_n 3, 1) := by decide +kernel
theorem dX7_surfaceAt_8 : decode cX7_surfaceAt 8 = .ok (.ifCond .lt 15, 3) := by decide +kernel
theorem dX7_surfaceAt_11 : decode cX7_surfaceAt 11 = .ok (.iload_n 3, 1) := by decide +kernel
theorem dX7_surfaceAt_12 : decode cX7_surfaceAt 12 = .ok (.aload_n 0, 1) := by decide +kernel
theorem dX7_surfaceAt_13 : decode cX7_surfaceAt 13 = .ok (.arraylength, 1) := by decide +kernel
theorem dX7_surfaceAt_14 : decode cX7_surfaceAt 14 = .ok (.if_icmp .ge 9, 3) := by decide +kernel
theorem dX7_surfaceAt_17 : decode cX7_surfaceAt 17 = .ok (.aload_n 0, 1) := by decide +kernel
theorem dX7_surfaceAt_18 : decode cX7_surfaceAt 18 = .ok (.iload_n 3, 1) := by decide +kernel
theorem dX7_surfaceAt_19 : decode cX7_surfaceAt 19 = .ok (.iaload, 1) := by decide +kernel
theorem dX7_surfaceAt_20 : decode cX7_surfaceAt 20 = .ok (.goto 4, 3) := by decide +kernel
theorem dX7_surfaceAt_23 : decode cX7_surfaceAt 23 = .ok (.iconst 0, 1) := by decide +kernel
theorem dX7_surfaceAt_24 : decode cX7_surfaceAt 24 = .ok (.ireturn, 1) := by decide +kernel
theorem dX7_placeBeside_0 : decode cX7_placeBeside 0 = .ok (.iload_n 1, 1) := by decide +kernel
theorem dX7_placeBeside_1 : decode cX7_placeBeside 1 = .ok (.ifCond .lt 9, 3) := by decide +kernel
theorem dX7_placeBeside_4 : decode cX7_placeBeside 4 = .ok (.iload_n 1, 1) := by decide +kernel
theorem dX7_placeBeside_5 : decode cX7_placeBeside 5 = .ok (.bipush 8, 2) := by decide +kernel
theorem dX7_placeBeside_7 : decode cX7_placeBeside 7 = .ok (.if_icmp .lt 5, 3) := by decide +kernel
theorem dX7_placeBeside_10 : decode cX7_placeBeside 10 = .ok (.iconst (-1), 1) := by decide +kernel
theorem dX7_placeBeside_11 : decode cX7_placeBeside 11 = .ok (.ireturn, 1) := by decide +kernel
theorem dX7_placeBeside_12 : decode cX7_placeBeside 12 = .ok (.iload_n 0, 1) := by decide +kernel
theorem dX7_placeBeside_13 : decode cX7_placeBeside 13 = .ok (.bipush 8, 2) := by decide +kernel
theorem dX7_placeBeside_15 : decode cX7_placeBeside 15 = .ok (.idiv, 1) := by decide +kernel
theorem dX7_placeBeside_16 : decode cX7_placeBeside 16 = .ok (.getstatic 80, 3) := by decide +kernel
theorem dX7_placeBeside_19 : decode cX7_placeBeside 19 = .ok (.iload_n 1, 1) := by decide +kernel
theorem dX7_placeBeside_20 : decode cX7_placeBeside 20 = .ok (.iaload, 1) := by decide +kernel
theorem dX7_placeBeside_21 : decode cX7_placeBeside 21 = .ok (.iadd, 1) := by decide +kernel
theorem dX7_placeBeside_22 : decode cX7_placeBeside 22 = .ok (.istore_n 2, 1) := by decide +kernel
theorem dX7_placeBeside_23 : decode cX7_placeBeside 23 = .ok (.iload_n 0, 1) := by decide +kernel
theorem dX7_placeBeside_24 : decode cX7_placeBeside 24 = .ok (.bipush 8, 2) := by decide +kernel
theorem dX7_placeBeside_26 : decode cX7_placeBeside 26 = .ok (.irem, 1) := by decide +kernel
theorem dX7_placeBeside_27 : decode cX7_placeBeside 27 = .ok (.getstatic 83, 3) := by decide +kernel
theorem dX7_placeBeside_30 : decode cX7_placeBeside 30 = .ok (.iload_n 1, 1) := by decide +kernel
theorem dX7_placeBeside_31 : decode cX7_placeBeside 31 = .ok (.iaload, 1) := by decide +kernel
theorem dX7_placeBeside_32 : decode cX7_placeBeside 32 = .ok (.iadd, 1) := by decide +kernel
theorem dX7_placeBeside_33 : decode cX7_placeBeside 33 = .ok (.istore_n 3, 1) := by decide +kernel
theorem dX7_placeBeside_34 : decode cX7_placeBeside 34 = .ok (.iload_n 2, 1) := by decide +kernel
theorem dX7_placeBeside_35 : decode cX7_placeBeside 35 = .ok (.ifCond .lt 19, 3) := by decide +kernel
theorem dX7_placeBeside_38 : decode cX7_placeBeside 38 = .ok (.iload_n 2, 1) := by decide +kernel
theorem dX7_placeBeside_39 : decode cX7_placeBeside 39 = .ok (.bipush 8, 2) := by decide +kernel
theorem dX7_placeBeside_41 : decode cX7_placeBeside 41 = .ok (.if_icmp .ge 13, 3) := by decide +kernel
theorem dX7_placeBeside_44 : decode cX7_placeBeside 44 = .ok (.iload_n 3, 1) := by decide +kernel
theorem dX7_placeBeside_45 : decode cX7_placeBeside 45 = .ok (.ifCond .lt 9, 3) := by decide +kernel
theorem dX7_placeBeside_48 : decode cX7_placeBeside 48 = .ok (.iload_n 3, 1) := by decide +kernel
theorem dX7_placeBeside_49 : decode cX7_placeBeside 49 = .ok (.bipush 8, 2) := by decide +kernel
theorem dX7_placeBeside_51 : decode cX7_placeBeside 51 = .ok (.if_icmp .lt 7, 3) := by decide +kernel
theorem dX7_placeBeside_54 : decode cX7_placeBeside 54 = .ok (.iconst 1, 1) := by decide +kernel
theorem dX7_placeBeside_55 : decode cX7_placeBeside 55 = .ok (.goto 4, 3) := by decide +kernel
theorem dX7_placeBeside_58 : decode cX7_placeBeside 58 = .ok (.iconst 0, 1) := by decide +kernel
theorem dX7_placeBeside_59 : decode cX7_placeBeside 59 = .ok (.istore 4, 2) := by decide +kernel
theorem dX7_placeBeside_61 : decode cX7_placeBeside 61 = .ok (.iload 4, 2) := by decide +kernel
theorem dX7_placeBeside_63 : decode cX7_placeBeside 63 = .ok (.ifCond .eq 7, 3) := by decide +kernel
theorem dX7_placeBeside_66 : decode cX7_placeBeside 66 = .ok (.iconst (-1), 1) := by decide +kernel
theorem dX7_placeBeside_67 : decode cX7_placeBeside 67 = .ok (.goto 9, 3) := by decide +kernel
theorem dX7_placeBeside_70 : decode cX7_placeBeside 70 = .ok (.bipush 8, 2) := by decide +kernel
theorem dX7_placeBeside_72 : decode cX7_placeBeside 72 = .ok (.iload_n 2, 1) := by decide +kernel
theorem dX7_placeBeside_73 : decode cX7_placeBeside 73 = .ok (.imul, 1) := by decide +kernel
theorem dX7_placeBeside_74 : decode cX7_placeBeside 74 = .ok (.iload_n 3, 1) := by decide +kernel
theorem dX7_placeBeside_75 : decode cX7_placeBeside 75 = .ok (.iadd, 1) := by decide +kernel
theorem dX7_placeBeside_76 : decode cX7_placeBeside 76 = .ok (.ireturn, 1) := by decide +kernel
theorem dX8_standsAt_0 : decode cX8_standsAt 0 = .ok (.iconst (-1), 1) := by decide +kernel
theorem dX8_standsAt_1 : decode cX8_standsAt 1 = .ok (.istore_n 3, 1) := by decide +kernel
theorem dX8_standsAt_2 : decode cX8_standsAt 2 = .ok (.iconst 0, 1) := by decide +kernel
theorem dX8_standsAt_3 : decode cX8_standsAt 3 = .ok (.istore 4, 2) := by decide +kernel
theorem dX8_standsAt_5 : decode cX8_standsAt 5 = .ok (.iconst 0, 1) := by decide +kernel
theorem dX8_standsAt_6 : decode cX8_standsAt 6 = .ok (.istore 5, 2) := by decide +kernel
theorem dX8_standsAt_8 : decode cX8_standsAt 8 = .ok (.iload 5, 2) := by decide +kernel
theorem dX8_standsAt_10 : decode cX8_standsAt 10 = .ok (.bipush 21, 2) := by decide +kernel
theorem dX8_standsAt_12 : decode cX8_standsAt 12 = .ok (.if_icmp .ge 44, 3) := by decide +kernel
theorem dX8_standsAt_15 : decode cX8_standsAt 15 = .ok (.iload 4, 2) := by decide +kernel
theorem dX8_standsAt_17 : decode cX8_standsAt 17 = .ok (.iload_n 2, 1) := by decide +kernel
theorem dX8_standsAt_18 : decode cX8_standsAt 18 = .ok (.aload_n 0, 1) := by decide +kernel
theorem dX8_standsAt_19 : decode cX8_standsAt 19 = .ok (.getfield 11, 3) := by decide +kernel
theorem dX8_standsAt_22 : decode cX8_standsAt 22 = .ok (.iconst 3, 1) := by decide +kernel
theorem dX8_standsAt_23 : decode cX8_standsAt 23 = .ok (.iaload, 1) := by decide +kernel
theorem dX8_standsAt_24 : decode cX8_standsAt 24 = .ok (.iconst 0, 1) := by decide +kernel
theorem dX8_standsAt_25 : decode cX8_standsAt 25 = .ok (.iload_n 1, 1) := by decide +kernel
theorem dX8_standsAt_26 : decode cX8_standsAt 26 = .ok (.aload_n 0, 1) := by decide +kernel
theorem dX8_standsAt_27 : decode cX8_standsAt 27 = .ok (.getfield 17, 3) := by decide +kernel
theorem dX8_standsAt_30 : decode cX8_standsAt 30 = .ok (.iload 5, 2) := by decide +kernel
theorem dX8_standsAt_32 : decode cX8_standsAt 32 = .ok (.iaload, 1) := by decide +kernel
theorem dX8_standsAt_33 : decode cX8_standsAt 33 = .ok (.isub, 1) := by decide +kernel
theorem dX8_standsAt_34 : decode cX8_standsAt 34 = .ok (.invokestatic 20, 3) := by decide +kernel
theorem dX8_standsAt_37 : decode cX8_standsAt 37 = .ok (.imul, 1) := by decide +kernel
theorem dX8_standsAt_38 : decode cX8_standsAt 38 = .ok (.isub, 1) := by decide +kernel
theorem dX8_standsAt_39 : decode cX8_standsAt 39 = .ok (.iadd, 1) := by decide +kernel
theorem dX8_standsAt_40 : decode cX8_standsAt 40 = .ok (.istore 4, 2) := by decide +kernel
theorem dX8_standsAt_42 : decode cX8_standsAt 42 = .ok (.iload 4, 2) := by decide +kernel
theorem dX8_standsAt_44 : decode cX8_standsAt 44 = .ok (.ifCond .lt 6, 3) := by decide +kernel
theorem dX8_standsAt_47 : decode cX8_standsAt 47 = .ok (.iload 5, 2) := by decide +kernel
theorem dX8_standsAt_49 : decode cX8_standsAt 49 = .ok (.istore_n 3, 1) := by decide +kernel
theorem dX8_standsAt_50 : decode cX8_standsAt 50 = .ok (.iinc 5 1, 3) := by decide +kernel
theorem dX8_standsAt_53 : decode cX8_standsAt 53 = .ok (.goto (-45), 3) := by decide +kernel
theorem dX8_standsAt_56 : decode cX8_standsAt 56 = .ok (.iload_n 3, 1) := by decide +kernel
theorem dX8_standsAt_57 : decode cX8_standsAt 57 = .ok (.ireturn, 1) := by decide +kernel
theorem dX8_leastFor_0 : decode cX8_leastFor 0 = .ok (.iconst 0, 1) := by decide +kernel
theorem dX8_leastFor_1 : decode cX8_leastFor 1 = .ok (.istore_n 3, 1) := by decide +kernel
theorem dX8_leastFor_2 : decode cX8_leastFor 2 = .ok (.iload_n 3, 1) := by decide +kernel
theorem dX8_leastFor_3 : decode cX8_leastFor 3 = .ok (.bipush 60, 2) := by decide +kernel
theorem dX8_leastFor_5 : decode cX8_leastFor 5 = .ok (.if_icmp .gt 21, 3) := by decide +kernel
theorem dX8_leastFor_8 : decode cX8_leastFor 8 = .ok (.aload_n 0, 1) := by decide +kernel
theorem dX8_leastFor_9 : decode cX8_leastFor 9 = .ok (.iload_n 3, 1) := by decide +kernel
theorem dX8_leastFor_10 : decode cX8_leastFor 10 = .ok (.iload_n 2, 1) := by decide +kernel
theorem dX8_leastFor_11 : decode cX8_leastFor 11 = .ok (.invokestatic 26, 3) := by decide +kernel
theorem dX8_leastFor_14 : decode cX8_leastFor 14 = .ok (.iload_n 1, 1) := by decide +kernel
theorem dX8_leastFor_15 : decode cX8_leastFor 15 = .ok (.if_icmp .ne 5, 3) := by decide +kernel
theorem dX8_leastFor_18 : decode cX8_leastFor 18 = .ok (.iload_n 3, 1) := by decide +kernel
theorem dX8_leastFor_19 : decode cX8_leastFor 19 = .ok (.ireturn, 1) := by decide +kernel
theorem dX8_leastFor_20 : decode cX8_leastFor 20 = .ok (.iinc 3 1, 3) := by decide +kernel
theorem dX8_leastFor_23 : decode cX8_leastFor 23 = .ok (.goto (-21), 3) := by decide +kernel
theorem dX8_leastFor_26 : decode cX8_leastFor 26 = .ok (.iconst (-1), 1) := by decide +kernel
theorem dX8_leastFor_27 : decode cX8_leastFor 27 = .ok (.ireturn, 1) := by decide +kernel
theorem dX8_greatestFor_0 : decode cX8_greatestFor 0 = .ok (.bipush 60, 2) := by decide +kernel
theorem dX8_greatestFor_2 : decode cX8_greatestFor 2 = .ok (.istore_n 3, 1) := by decide +kernel
theorem dX8_greatestFor_3 : decode cX8_greatestFor 3 = .ok (.iload_n 3, 1) := by decide +kernel
theorem dX8_greatestFor_4 : decode cX8_greatestFor 4 = .ok (.ifCond .lt 21, 3) := by decide +kernel
theorem dX8_greatestFor_7 : decode cX8_greatestFor 7 = .ok (.aload_n 0, 1) := by decide +kernel
theorem dX8_greatestFor_8 : decode cX8_greatestFor 8 = .ok (.iload_n 3, 1) := by decide +kernel
theorem dX8_greatestFor_9 : decode cX8_greatestFor 9 = .ok (.iload_n 2, 1) := by decide +kernel
theorem dX8_greatestFor_10 : decode cX8_greatestFor 10 = .ok (.invokestatic 26, 3) := by decide +kernel
theorem dX8_greatestFor_13 : decode cX8_greatestFor 13 = .ok (.iload_n 1, 1) := by decide +kernel
theorem dX8_greatestFor_14 : decode cX8_greatestFor 14 = .ok (.if_icmp .ne 5, 3) := by decide +kernel
theorem dX8_greatestFor_17 : decode cX8_greatestFor 17 = .ok (.iload_n 3, 1) := by decide +kernel
theorem dX8_greatestFor_18 : decode cX8_greatestFor 18 = .ok (.ireturn, 1) := by decide +kernel
theorem dX8_greatestFor_19 : decode cX8_greatestFor 19 = .ok (.iinc 3 (-1), 3) := by decide +kernel
theorem dX8_greatestFor_22 : decode cX8_greatestFor 22 = .ok (.goto (-19), 3) := by decide +kernel
theorem dX8_greatestFor_25 : decode cX8_greatestFor 25 = .ok (.iconst (-1), 1) := by decide +kernel
theorem dX8_greatestFor_26 : decode cX8_greatestFor 26 = .ok (.ireturn, 1) := by decide +kernel
theorem dX9_init_0 : decode cX9_init 0 = .ok (.aload_n 0, 1) := by decide +kernel
theorem dX9_init_1 : decode cX9_init 1 = .ok (.invokespecial 1, 3) := by decide +kernel
theorem dX9_init_4 : decode cX9_init 4 = .ok (.aload_n 0, 1) := by decide +kernel
theorem dX9_init_5 : decode cX9_init 5 = .ok (.new 7, 3) := by decide +kernel
theorem dX9_init_8 : decode cX9_init 8 = .ok (.dup, 1) := by decide +kernel
theorem dX9_init_9 : decode cX9_init 9 = .ok (.invokespecial 9, 3) := by decide +kernel
theorem dX9_init_12 : decode cX9_init 12 = .ok (.putfield 10, 3) := by decide +kernel
theorem dX9_init_15 : decode cX9_init 15 = .ok (.aload_n 0, 1) := by decide +kernel
theorem dX9_init_16 : decode cX9_init 16 = .ok (.new 7, 3) := by decide +kernel
theorem dX9_init_19 : decode cX9_init 19 = .ok (.dup, 1) := by decide +kernel
theorem dX9_init_20 : decode cX9_init 20 = .ok (.invokespecial 9, 3) := by decide +kernel
theorem dX9_init_23 : decode cX9_init 23 = .ok (.putfield 16, 3) := by decide +kernel
theorem dX9_init_26 : decode cX9_init 26 = .ok (.aload_n 0, 1) := by decide +kernel
theorem dX9_init_27 : decode cX9_init 27 = .ok (.new 7, 3) := by decide +kernel
theorem dX9_init_30 : decode cX9_init 30 = .ok (.dup, 1) := by decide +kernel
theorem dX9_init_31 : decode cX9_init 31 = .ok (.invokespecial 9, 3) := by decide +kernel
theorem dX9_init_34 : decode cX9_init 34 = .ok (.putfield 19, 3) := by decide +kernel
theorem dX9_init_37 : decode cX9_init 37 = .ok (.aload_n 0, 1) := by decide +kernel
theorem dX9_init_38 : decode cX9_init 38 = .ok (.new 7, 3) := by decide +kernel
theorem dX9_init_41 : decode cX9_init 41 = .ok (.dup, 1) := by decide +kernel
theorem dX9_init_42 : decode cX9_init 42 = .ok (.invokespecial 9, 3) := by decide +kernel
theorem dX9_init_45 : decode cX9_init 45 = .ok (.putfield 22, 3) := by decide +kernel
theorem dX9_init_48 : decode cX9_init 48 = .ok (.aload_n 0, 1) := by decide +kernel
theorem dX9_init_49 : decode cX9_init 49 = .ok (.new 25, 3) := by decide +kernel
theorem dX9_init_52 : decode cX9_init 52 = .ok (.dup, 1) := by decide +kernel
theorem dX9_init_53 : decode cX9_init 53 = .ok (.invokespecial 27, 3) := by decide +kernel
theorem dX9_init_56 : decode cX9_init 56 = .ok (.putfield 28, 3) := by decide +kernel
theorem dX9_init_59 : decode cX9_init 59 = .ok (.aload_n 0, 1) := by decide +kernel
theorem dX9_init_60 : decode cX9_init 60 = .ok (.new 32, 3) := by decide +kernel
theorem dX9_init_63 : decode cX9_init 63 = .ok (.dup, 1) := by decide +kernel
theorem dX9_init_64 : decode cX9_init 64 = .ok (.invokespecial 34, 3) := by decide +kernel
theorem dX9_init_67 : decode cX9_init 67 = .ok (.putfield 35, 3) := by decide +kernel
theorem dX9_init_70 : decode cX9_init 70 = .ok (.aload_n 0, 1) := by decide +kernel
theorem dX9_init_71 : decode cX9_init 71 = .ok (.new 39, 3) := by decide +kernel
theorem dX9_init_74 : decode cX9_init 74 = .ok (.dup, 1) := by decide +kernel
theorem dX9_init_75 : decode cX9_init 75 = .ok (.invokespecial 41, 3) := by decide +kernel
theorem dX9_init_78 : decode cX9_init 78 = .ok (.putfield 42, 3) := by decide +kernel
theorem dX9_init_81 : decode cX9_init 81 = .ok (.aload_n 0, 1) := by decide +kernel
theorem dX9_init_82 : decode cX9_init 82 = .ok (.new 46, 3) := by decide +kernel
theorem dX9_init_85 : decode cX9_init 85 = .ok (.dup, 1) := by decide +kernel
theorem dX9_init_86 : decode cX9_init 86 = .ok (.invokespecial 48, 3) := by decide +kernel
theorem dX9_init_89 : decode cX9_init 89 = .ok (.putfield 49, 3) := by decide +kernel
theorem dX9_init_92 : decode cX9_init 92 = .ok (.aload_n 0, 1) := by decide +kernel
theorem dX9_init_93 : decode cX9_init 93 = .ok (.new 53, 3) := by decide +kernel
theorem dX9_init_96 : decode cX9_init 96 = .ok (.dup, 1) := by decide +kernel
theorem dX9_init_97 : decode cX9_init 97 = .ok (.invokespecial 55, 3) := by decide +kernel
theorem dX9_init_100 : decode cX9_init 100 = .ok (.putfield 56, 3) := by decide +kernel
theorem dX9_init_103 : decode cX9_init 103 = .ok (.return_, 1) := by decide +kernel
theorem dX9_surface_0 : decode cX9_surface 0 = .ok (.iload_n 1, 1) := by decide +kernel
theorem dX9_surface_1 : decode cX9_surface 1 = .ok (.invokestatic 60, 3) := by decide +kernel
theorem dX9_surface_4 : decode cX9_surface 4 = .ok (.ifCond .eq 20, 3) := by decide +kernel
theorem dX9_surface_7 : decode cX9_surface 7 = .ok (.iload_n 2, 1) := by decide +kernel
theorem dX9_surface_8 : decode cX9_surface 8 = .ok (.invokestatic 64, 3) := by decide +kernel
theorem dX9_surface_11 : decode cX9_surface 11 = .ok (.ifCond .eq 13, 3) := by decide +kernel
theorem dX9_surface_14 : decode cX9_surface 14 = .ok (.iload_n 3, 1) := by decide +kernel
theorem dX9_surface_15 : decode cX9_surface 15 = .ok (.iconst 0, 1) := by decide +kernel
theorem dX9_surface_16 : decode cX9_surface 16 = .ok (.bipush 99, 2) := by decide +kernel
theorem dX9_surface_18 : decode cX9_surface 18 = .ok (.invokestatic 67, 3) := by decide +kernel
theorem dX9_surface_21 : decode cX9_surface 21 = .ok (.ifCond .ne 6, 3) := by decide +kernel
theorem dX9_surface_24 : decode cX9_surface 24 = .ok (.bipush (-2), 2) := by decide +kernel
theorem dX9_surface_26 : decode cX9_surface 26 = .ok (.ireturn, 1) := by decide +kernel
theorem dX9_surface_27 : decode cX9_surface 27 = .ok (.aload_n 0, 1) := by decide +kernel
theorem dX9_surface_28 : decode cX9_surface 28 = .ok (.getfield 10, 3) := by decide +kernel
theorem dX9_surface_31 : decode cX9_surface 31 = .ok (.getfield 71, 3) := by decide +kernel
theorem dX9_surface_34 : decode cX9_surface 34 = .ok (.bipush 64, 2) := by decide +kernel
theorem dX9_surface_36 : decode cX9_surface 36 = .ok (.iload_n 1, 1) := by decide +kernel
theorem dX9_surface_37 : decode cX9_surface 37 = .ok (.imul, 1) := by decide +kernel
theorem dX9_surface_38 : decode cX9_surface 38 = .ok (.iload_n 2, 1) := by decide +kernel
theorem dX9_surface_39 : decode cX9_surface 39 = .ok (.iadd, 1) := by decide +kernel
theorem dX9_surface_40 : decode cX9_surface 40 = .ok (.iload_n 3, 1) := by decide +kernel
theorem dX9_surface_41 : decode cX9_surface 41 = .ok (.invokestatic 75, 3) := by decide +kernel
theorem dX9_surface_44 : decode cX9_surface 44 = .ok (.ireturn, 1) := by decide +kernel
theorem dX9_slope_0 : decode cX9_slope 0 = .ok (.iload_n 1, 1) := by decide +kernel
theorem dX9_slope_1 : decode cX9_slope 1 = .ok (.invokestatic 60, 3) := by decide +kernel
theorem dX9_slope_4 : decode cX9_slope 4 = .ok (.ifCond .eq 35, 3) := by decide +kernel
theorem dX9_slope_7 : decode cX9_slope 7 = .ok (.iload_n 2, 1) := by decide +kernel
theorem dX9_slope_8 : decode cX9_slope 8 = .ok (.iconst 0, 1) := by decide +kernel
theorem dX9_slope_9 : decode cX9_slope 9 = .ok (.bipush 7, 2) := by decide +kernel
theorem dX9_slope_11 : decode cX9_slope 11 = .ok (.invokestatic 67, 3) := by decide +kernel
theorem dX9_slope_14 : decode cX9_slope 14 = .ok (.ifCond .eq 25, 3) := by decide +kernel
theorem dX9_slope_17 : decode cX9_slope 17 = .ok (.iload_n 3, 1) := by decide +kernel
theorem dX9_slope_18 : decode cX9_slope 18 = .ok (.iconst 0, 1) := by decide +kernel
theorem dX9_slope_19 : decode cX9_slope 19 = .ok (.bipush 99, 2) := by decide +kernel
theorem dX9_slope_21 : decode cX9_slope 21 = .ok (.invokestatic 67, 3) := by decide +kernel
theorem dX9_slope_24 : decode cX9_slope 24 = .ok (.ifCond .eq 15, 3) := by decide +kernel
theorem dX9_slope_27 : decode cX9_slope 27 = .ok (.iload 4, 2) := by decide +kernel
theorem dX9_slope_29 : decode cX9_slope 29 = .ok (.bipush (-50), 2) := by decide +kernel
theorem dX9_slope_31 : decode cX9_slope 31 = .ok (.bipush 50, 2) := by decide +kernel
theorem dX9_slope_33 : decode cX9_slope 33 = .ok (.invokestatic 67, 3) := by decide +kernel
theorem dX9_slope_36 : decode cX9_slope 36 = .ok (.ifCond .ne 6, 3) := by decide +kernel
theorem dX9_slope_39 : decode cX9_slope 39 = .ok (.bipush (-2), 2) := by decide +kernel
theorem dX9_slope_41 : decode cX9_slope 41 = .ok (.ireturn, 1) := by decide +kernel
theorem dX9_slope_42 : decode cX9_slope 42 = .ok (.bipush 64, 2) := by decide +kernel
theorem dX9_slope_44 : decode cX9_slope 44 = .ok (.iload_n 1, 1) := by decide +kernel
theorem dX9_slope_45 : decode cX9_slope 45 = .ok (.imul, 1) := by decide +kernel
theorem dX9_slope_46 : decode cX9_slope 46 = .ok (.bipush 8, 2) := by decide +kernel
theorem dX9_slope_48 : decode cX9_slope 48 = .ok (.iload_n 2, 1) := by decide +kernel
theorem dX9_slope_49 : decode cX9_slope 49 = .ok (.imul, 1) := by decide +kernel
theorem dX9_slope_50 : decode cX9_slope 50 = .ok (.iadd, 1) := by decide +kernel
theorem dX9_slope_51 : decode cX9_slope 51 = .ok (.istore 5, 2) := by decide +kernel
theorem dX9_slope_53 : decode cX9_slope 53 = .ok (.iconst 0, 1) := by decide +kernel
theorem dX9_slope_54 : decode cX9_slope 54 = .ok (.istore 6, 2) := by decide +kernel
theorem dX9_slope_56 : decode cX9_slope 56 = .ok (.iload 6, 2) := by decide +kernel
theorem dX9_slope_58 : decode cX9_slope 58 = .ok (.bipush 8, 2) := by decide +kernel
theorem dX9_slope_60 : decode cX9_slope 60 = .ok (.if_icmp .ge 38, 3) := by decide +kernel
theorem dX9_slope_63 : decode cX9_slope 63 = .ok (.aload_n 0, 1) := by decide +kernel
theorem dX9_slope_64 : decode cX9_slope 64 = .ok (.getfield 10, 3) := by decide +kernel
theorem dX9_slope_67 : decode cX9_slope 67 = .ok (.getfield 71, 3) := by decide +kernel
theorem dX9_slope_70 : decode cX9_slope 70 = .ok (.iload 5, 2) := by decide +kernel
theorem dX9_slope_72 : decode cX9_slope 72 = .ok (.iload 6, 2) := by decide +kernel
theorem dX9_slope_74 : decode cX9_slope 74 = .ok (.iadd, 1) := by decide +kernel
theorem dX9_slope_75 : decode cX9_slope 75 = .ok (.iconst 0, 1) := by decide +kernel
theorem dX9_slope_76 : decode cX9_slope 76 = .ok (.bipush 99, 2) := by decide +kernel
theorem dX9_slope_78 : decode cX9_slope 78 = .ok (.iload_n 3, 1) := by decide +kernel
theorem dX9_slope_79 : decode cX9_slope 79 = .ok (.iload 4, 2) := by decide +kernel
theorem dX9_slope_81 : decode cX9_slope 81 = .ok (.iload 6, 2) := by decide +kernel
theorem dX9_slope_83 : decode cX9_slope 83 = .ok (.imul, 1) := by decide +kernel
theorem dX9_slope_84 : decode cX9_slope 84 = .ok (.isub, 1) := by decide +kernel
theorem dX9_slope_85 : decode cX9_slope 85 = .ok (.invokestatic 79, 3) := by decide +kernel
theorem dX9_slope_88 : decode cX9_slope 88 = .ok (.invokestatic 85, 3) := by decide +kernel
theorem dX9_slope_91 : decode cX9_slope 91 = .ok (.iastore, 1) := by decide +kernel
theorem dX9_slope_92 : decode cX9_slope 92 = .ok (.iinc 6 1, 3) := by decide +kernel
theorem dX9_slope_95 : decode cX9_slope 95 = .ok (.goto (-39), 3) := by decide +kernel
theorem dX9_slope_98 : decode cX9_slope 98 = .ok (.iconst 1, 1) := by decide +kernel
theorem dX9_slope_99 : decode cX9_slope 99 = .ok (.ireturn, 1) := by decide +kernel
theorem dX9_flow_0 : decode cX9_flow 0 = .ok (.iload_n 1, 1) := by decide +kernel
theorem dX9_flow_1 : decode cX9_flow 1 = .ok (.invokestatic 60, 3) := by decide +kernel
theorem dX9_flow_4 : decode cX9_flow 4 = .ok (.ifCond .eq 10, 3) := by decide +kernel
theorem dX9_flow_7 : decode cX9_flow 7 = .ok (.iload_n 2, 1) := by decide +kernel
theorem dX9_flow_8 : decode cX9_flow 8 = .ok (.invokestatic 64, 3) := by decide +kernel
theorem dX9_flow_11 : decode cX9_flow 11 = .ok (.ifCond .ne 6, 3) := by decide +kernel
theorem dX9_flow_14 : decode cX9_flow 14 = .ok (.bipush (-2), 2) := by decide +kernel
theorem dX9_flow_16 : decode cX9_flow 16 = .ok (.ireturn, 1) := by decide +kernel
theorem dX9_flow_17 : decode cX9_flow 17 = .ok (.aload_n 0, 1) := by decide +kernel
theorem dX9_flow_18 : decode cX9_flow 18 = .ok (.getfield 10, 3) := by decide +kernel
theorem dX9_flow_21 : decode cX9_flow 21 = .ok (.getfield 71, 3) := by decide +kernel
theorem dX9_flow_24 : decode cX9_flow 24 = .ok (.iload_n 1, 1) := by decide +kernel
theorem dX9_flow_25 : decode cX9_flow 25 = .ok (.iload_n 2, 1) := by decide +kernel
theorem dX9_flow_26 : decode cX9_flow 26 = .ok (.invokestatic 88, 3) := by decide +kernel
theorem dX9_flow_29 : decode cX9_flow 29 = .ok (.ireturn, 1) := by decide +kernel
theorem dX9_cliff_0 : decode cX9_cliff 0 = .ok (.iload_n 1, 1) := by decide +kernel
theorem dX9_cliff_1 : decode cX9_cliff 1 = .ok (.iload_n 2, 1) := by decide +kernel
theorem dX9_cliff_2 : decode cX9_cliff 2 = .ok (.invokestatic 91, 3) := by decide +kernel
theorem dX9_cliff_5 : decode cX9_cliff 5 = .ok (.ifCond .eq 21, 3) := by decide +kernel
theorem dX9_cliff_8 : decode cX9_cliff 8 = .ok (.aload_n 0, 1) := by decide +kernel
theorem dX9_cliff_9 : decode cX9_cliff 9 = .ok (.getfield 10, 3) := by decide +kernel
theorem dX9_cliff_12 : decode cX9_cliff 12 = .ok (.getfield 95, 3) := by decide +kernel
theorem dX9_cliff_15 : decode cX9_cliff 15 = .ok (.iload_n 1, 1) := by decide +kernel
theorem dX9_cliff_16 : decode cX9_cliff 16 = .ok (.iload_n 2, 1) := by decide +kernel
theorem dX9_cliff_17 : decode cX9_cliff 17 = .ok (.iconst 0, 1) := by decide +kernel
theorem dX9_cliff_18 : decode cX9_cliff 18 = .ok (.iconst 0, 1) := by decide +kernel
theorem dX9_cliff_19 : decode cX9_cliff 19 = .ok (.iconst 0, 1) := by decide +kernel
theorem dX9_cliff_20 : decode cX9_cliff 20 = .ok (.invokevirtual 99, 3) := by decide +kernel
theorem dX9_cliff_23 : decode cX9_cliff 23 = .ok (.goto 5, 3) := by decide +kernel
theorem dX9_cliff_26 : decode cX9_cliff 26 = .ok (.bipush (-2), 2) := by decide +kernel
theorem dX9_cliff_28 : decode cX9_cliff 28 = .ok (.ireturn, 1) := by decide +kernel
theorem dX9_boulder_0 : decode cX9_boulder 0 = .ok (.iload_n 1, 1) := by decide +kernel
theorem dX9_boulder_1 : decode cX9_boulder 1 = .ok (.iload_n 2, 1) := by decide +kernel
theorem dX9_boulder_2 : decode cX9_boulder 2 = .ok (.invokestatic 91, 3) := by decide +kernel
theorem dX9_boulder_5 : decode cX9_boulder 5 = .ok (.ifCond .eq 21, 3) := by decide +kernel
theorem dX9_boulder_8 : decode cX9_boulder 8 = .ok (.aload_n 0, 1) := by decide +kernel
theorem dX9_boulder_9 : decode cX9_boulder 9 = .ok (.getfield 10, 3) := by decide +kernel
theorem dX9_boulder_12 : decode cX9_boulder 12 = .ok (.getfield 105, 3) := by decide +kernel
theorem dX9_boulder_15 : decode cX9_boulder 15 = .ok (.iload_n 1, 1) := by decide +kernel
theorem dX9_boulder_16 : decode cX9_boulder 16 = .ok (.iload_n 2, 1) := by decide +kernel
theorem dX9_boulder_17 : decode cX9_boulder 17 = .ok (.iconst 0, 1) := by decide +kernel
theorem dX9_boulder_18 : decode cX9_boulder 18 = .ok (.iconst 0, 1) := by decide +kernel
theorem dX9_boulder_19 : decode cX9_boulder 19 = .ok (.iconst 0, 1) := by decide +kernel
theorem dX9_boulder_20 : decode cX9_boulder 20 = .ok (.invokevirtual 99, 3) := by decide +kernel
theorem dX9_boulder_23 : decode cX9_boulder 23 = .ok (.goto 5, 3) := by decide +kernel
theorem dX9_boulder_26 : decode cX9_boulder 26 = .ok (.bipush (-2), 2) := by decide +kernel
theorem dX9_boulder_28 : decode cX9_boulder 28 = .ok (.ireturn, 1) := by decide +kernel
theorem dX9_fits_0 : decode cX9_fits 0 = .ok (.aload_n 0, 1) := by decide +kernel
theorem dX9_fits_1 : decode cX9_fits 1 = .ok (.getfield 10, 3) := by decide +kernel
theorem dX9_fits_4 : decode cX9_fits 4 = .ok (.getfield 105, 3) := by decide +kernel
theorem dX9_fits_7 : decode cX9_fits 7 = .ok (.iload_n 1, 1) := by decide +kernel
theorem dX9_fits_8 : decode cX9_fits 8 = .ok (.invokevirtual 108, 3) := by decide +kernel
theorem dX9_fits_11 : decode cX9_fits 11 = .ok (.ifCond .eq 18, 3) := by decide +kernel
theorem dX9_fits_14 : decode cX9_fits 14 = .ok (.aload_n 0, 1) := by decide +kernel
theorem dX9_fits_15 : decode cX9_fits 15 = .ok (.getfield 28, 3) := by decide +kernel
theorem dX9_fits_18 : decode cX9_fits 18 = .ok (.aload_n 0, 1) := by decide +kernel
theorem dX9_fits_19 : decode cX9_fits 19 = .ok (.getfield 10, 3) := by decide +kernel
theorem dX9_fits_22 : decode cX9_fits 22 = .ok (.iload_n 1, 1) := by decide +kernel
theorem dX9_fits_23 : decode cX9_fits 23 = .ok (.invokevirtual 111, 3) := by decide +kernel
theorem dX9_fits_26 : decode cX9_fits 26 = .ok (.goto 5, 3) := by decide +kernel
theorem dX9_fits_29 : decode cX9_fits 29 = .ok (.bipush (-2), 2) := by decide +kernel
theorem dX9_fits_31 : decode cX9_fits 31 = .ok (.ireturn, 1) := by decide +kernel
theorem dX9_steps_0 : decode cX9_steps 0 = .ok (.aload_n 0, 1) := by decide +kernel
theorem dX9_steps_1 : decode cX9_steps 1 = .ok (.getfield 10, 3) := by decide +kernel
theorem dX9_steps_4 : decode cX9_steps 4 = .ok (.getfield 105, 3) := by decide +kernel
theorem dX9_steps_7 : decode cX9_steps 7 = .ok (.iload_n 1, 1) := by decide +kernel
theorem dX9_steps_8 : decode cX9_steps 8 = .ok (.invokevirtual 108, 3) := by decide +kernel
theorem dX9_steps_11 : decode cX9_steps 11 = .ok (.ifCond .eq 17, 3) := by decide +kernel
theorem dX9_steps_14 : decode cX9_steps 14 = .ok (.aload_n 0, 1) := by decide +kernel
theorem dX9_steps_15 : decode cX9_steps 15 = .ok (.getfield 10, 3) := by decide +kernel
theorem dX9_steps_18 : decode cX9_steps 18 = .ok (.getfield 95, 3) := by decide +kernel
theorem dX9_steps_21 : decode cX9_steps 21 = .ok (.iload_n 2, 1) := by decide +kernel
theorem dX9_steps_22 : decode cX9_steps 22 = .ok (.invokevirtual 108, 3) := by decide +kernel
theorem dX9_steps_25 : decode cX9_steps 25 = .ok (.ifCond .ne 6, 3) := by decide +kernel
theorem dX9_steps_28 : decode cX9_steps 28 = .ok (.bipush (-2), 2) := by decide +kernel
theorem dX9_steps_30 : decode cX9_steps 30 = .ok (.ireturn, 1) := by decide +kernel
theorem dX9_steps_31 : decode cX9_steps 31 = .ok (.aload_n 0, 1) := by decide +kernel
theorem dX9_steps_32 : decode cX9_steps 32 = .ok (.getfield 28, 3) := by decide +kernel
theorem dX9_steps_35 : decode cX9_steps 35 = .ok (.aload_n 0, 1) := by decide +kernel
theorem dX9_steps_36 : decode cX9_steps 36 = .ok (.getfield 10, 3) := by decide +kernel
theorem dX9_steps_39 : decode cX9_steps 39 = .ok (.iload_n 1, 1) := by decide +kernel
theorem dX9_steps_40 : decode cX9_steps 40 = .ok (.iload_n 2, 1) := by decide +kernel
theorem dX9_steps_41 : decode cX9_steps 41 = .ok (.invokevirtual 115, 3) := by decide +kernel
theorem dX9_steps_44 : decode cX9_steps 44 = .ok (.ireturn, 1) := by decide +kernel
theorem dX9_home_0 : decode cX9_home 0 = .ok (.aload_n 0, 1) := by decide +kernel
theorem dX9_home_1 : decode cX9_home 1 = .ok (.getfield 10, 3) := by decide +kernel
theorem dX9_home_4 : decode cX9_home 4 = .ok (.getfield 105, 3) := by decide +kernel
theorem dX9_home_7 : decode cX9_home 7 = .ok (.iload_n 1, 1) := by decide +kernel
theorem dX9_home_8 : decode cX9_home 8 = .ok (.invokevirtual 108, 3) := by decide +kernel
theorem dX9_home_11 : decode cX9_home 11 = .ok (.ifCond .eq 18, 3) := by decide +kernel
theorem dX9_home_14 : decode cX9_home 14 = .ok (.aload_n 0, 1) := by decide +kernel
theorem dX9_home_15 : decode cX9_home 15 = .ok (.getfield 28, 3) := by decide +kernel
theorem dX9_home_18 : decode cX9_home 18 = .ok (.aload_n 0, 1) := by decide +kernel
theorem dX9_home_19 : decode cX9_home 19 = .ok (.getfield 10, 3) := by decide +kernel
theorem dX9_home_22 : decode cX9_home 22 = .ok (.iload_n 1, 1) := by decide +kernel
theorem dX9_home_23 : decode cX9_home 23 = .ok (.invokevirtual 119, 3) := by decide +kernel
theorem dX9_home_26 : decode cX9_home 26 = .ok (.goto 5, 3) := by decide +kernel
theorem dX9_home_29 : decode cX9_home 29 = .ok (.bipush (-2), 2) := by decide +kernel
theorem dX9_home_31 : decode cX9_home 31 = .ok (.ireturn, 1) := by decide +kernel
theorem dX9_upstream_0 : decode cX9_upstream 0 = .ok (.iload_n 1, 1) := by decide +kernel
theorem dX9_upstream_1 : decode cX9_upstream 1 = .ok (.invokestatic 64, 3) := by decide +kernel
theorem dX9_upstream_4 : decode cX9_upstream 4 = .ok (.ifCond .eq 21, 3) := by decide +kernel
theorem dX9_upstream_7 : decode cX9_upstream 7 = .ok (.aload_n 0, 1) := by decide +kernel
theorem dX9_upstream_8 : decode cX9_upstream 8 = .ok (.getfield 28, 3) := by decide +kernel
theorem dX9_upstream_11 : decode cX9_upstream 11 = .ok (.aload_n 0, 1) := by decide +kernel
theorem dX9_upstream_12 : decode cX9_upstream 12 = .ok (.getfield 10, 3) := by decide +kernel
theorem dX9_upstream_15 : decode cX9_upstream 15 = .ok (.getfield 71, 3) := by decide +kernel
theorem dX9_upstream_18 : decode cX9_upstream 18 = .ok (.iload_n 1, 1) := by decide +kernel
theorem dX9_upstream_19 : decode cX9_upstream 19 = .ok (.invokevirtual 122, 3) := by decide +kernel
theorem dX9_upstream_22 : decode cX9_upstream 22 = .ok (.goto 5, 3) := by decide +kernel
theorem dX9_upstream_25 : decode cX9_upstream 25 = .ok (.bipush (-2), 2) := by decide +kernel
theorem dX9_upstream_27 : decode cX9_upstream 27 = .ok (.ireturn, 1) := by decide +kernel
theorem dX9_scratch_0 : decode cX9_scratch 0 = .ok (.iload_n 1, 1) := by decide +kernel
theorem dX9_scratch_1 : decode cX9_scratch 1 = .ok (.invokestatic 64, 3) := by decide +kernel
theorem dX9_scratch_4 : decode cX9_scratch 4 = .ok (.ifCond .eq 13, 3) := by decide +kernel
theorem dX9_scratch_7 : decode cX9_scratch 7 = .ok (.iload_n 2, 1) := by decide +kernel
theorem dX9_scratch_8 : decode cX9_scratch 8 = .ok (.iconst 0, 1) := by decide +kernel
theorem dX9_scratch_9 : decode cX9_scratch 9 = .ok (.bipush 15, 2) := by decide +kernel
theorem dX9_scratch_11 : decode cX9_scratch 11 = .ok (.invokestatic 67, 3) := by decide +kernel
theorem dX9_scratch_14 : decode cX9_scratch 14 = .ok (.ifCond .ne 6, 3) := by decide +kernel
theorem dX9_scratch_17 : decode cX9_scratch 17 = .ok (.bipush (-2), 2) := by decide +kernel
theorem dX9_scratch_19 : decode cX9_scratch 19 = .ok (.ireturn, 1) := by decide +kernel
theorem dX9_scratch_20 : decode cX9_scratch 20 = .ok (.aload_n 0, 1) := by decide +kernel
theorem dX9_scratch_21 : decode cX9_scratch 21 = .ok (.getfield 10, 3) := by decide +kernel
theorem dX9_scratch_24 : decode cX9_scratch 24 = .ok (.getfield 128, 3) := by decide +kernel
theorem dX9_scratch_27 : decode cX9_scratch 27 = .ok (.iload_n 1, 1) := by decide +kernel
theorem dX9_scratch_28 : decode cX9_scratch 28 = .ok (.iload_n 2, 1) := by decide +kernel
theorem dX9_scratch_29 : decode cX9_scratch 29 = .ok (.iconst 0, 1) := by decide +kernel
theorem dX9_scratch_30 : decode cX9_scratch 30 = .ok (.iconst 0, 1) := by decide +kernel
theorem dX9_scratch_31 : decode cX9_scratch 31 = .ok (.iconst 0, 1) := by decide +kernel
theorem dX9_scratch_32 : decode cX9_scratch 32 = .ok (.invokevirtual 99, 3) := by decide +kernel
theorem dX9_scratch_35 : decode cX9_scratch 35 = .ok (.ireturn, 1) := by decide +kernel
theorem dX9_put_0 : decode cX9_put 0 = .ok (.aload_n 0, 1) := by decide +kernel
theorem dX9_put_1 : decode cX9_put 1 = .ok (.getfield 10, 3) := by decide +kernel
theorem dX9_put_4 : decode cX9_put 4 = .ok (.iload_n 1, 1) := by decide +kernel
theorem dX9_put_5 : decode cX9_put 5 = .ok (.iload_n 2, 1) := by decide +kernel
theorem dX9_put_6 : decode cX9_put 6 = .ok (.invokevirtual 131, 3) := by decide +kernel
theorem dX9_put_9 : decode cX9_put 9 = .ok (.ifCond .eq 18, 3) := by decide +kernel
theorem dX9_put_12 : decode cX9_put 12 = .ok (.aload_n 0, 1) := by decide +kernel
theorem dX9_put_13 : decode cX9_put 13 = .ok (.getfield 10, 3) := by decide +kernel
theorem dX9_put_16 : decode cX9_put 16 = .ok (.getfield 134, 3) := by decide +kernel
theorem dX9_put_19 : decode cX9_put 19 = .ok (.iload_n 1, 1) := by decide +kernel
theorem dX9_put_20 : decode cX9_put 20 = .ok (.iload_n 2, 1) := by decide +kernel
theorem dX9_put_21 : decode cX9_put 21 = .ok (.invokestatic 75, 3) := by decide +kernel
theorem dX9_put_24 : decode cX9_put 24 = .ok (.goto 5, 3) := by decide +kernel
theorem dX9_put_27 : decode cX9_put 27 = .ok (.bipush (-2), 2) := by decide +kernel
theorem dX9_put_29 : decode cX9_put 29 = .ok (.ireturn, 1) := by decide +kernel
theorem dX9_may_0 : decode cX9_may 0 = .ok (.aload_n 0, 1) := by decide +kernel
theorem dX9_may_1 : decode cX9_may 1 = .ok (.getfield 10, 3) := by decide +kernel
theorem dX9_may_4 : decode cX9_may 4 = .ok (.getfield 128, 3) := by decide +kernel
theorem dX9_may_7 : decode cX9_may 7 = .ok (.iload_n 1, 1) := by decide +kernel
theorem dX9_may_8 : decode cX9_may 8 = .ok (.invokevirtual 108, 3) := by decide +kernel
theorem dX9_may_11 : decode cX9_may 11 = .ok (.ifCond .eq 14, 3) := by decide +kernel
theorem dX9_may_14 : decode cX9_may 14 = .ok (.aload_n 0, 1) := by decide +kernel
theorem dX9_may_15 : decode cX9_may 15 = .ok (.getfield 10, 3) := by decide +kernel
theorem dX9_may_18 : decode cX9_may 18 = .ok (.iload_n 1, 1) := by decide +kernel
theorem dX9_may_19 : decode cX9_may 19 = .ok (.invokestatic 137, 3) := by decide +kernel
theorem dX9_may_22 : decode cX9_may 22 = .ok (.goto 5, 3) := by decide +kernel
theorem dX9_may_25 : decode cX9_may 25 = .ok (.bipush (-2), 2) := by decide +kernel
theorem dX9_may_27 : decode cX9_may 27 = .ok (.ireturn, 1) := by decide +kernel
theorem dX9_laid_0 : decode cX9_laid 0 = .ok (.iload_n 1, 1) := by decide +kernel
theorem dX9_laid_1 : decode cX9_laid 1 = .ok (.iconst (-1), 1) := by decide +kernel
theorem dX9_laid_2 : decode cX9_laid 2 = .ok (.if_icmp .ne 11, 3) := by decide +kernel
theorem dX9_laid_5 : decode cX9_laid 5 = .ok (.aload_n 0, 1) := by decide +kernel
theorem dX9_laid_6 : decode cX9_laid 6 = .ok (.getfield 10, 3) := by decide +kernel
theorem dX9_laid_9 : decode cX9_laid 9 = .ok (.invokestatic 140, 3) := by decide +kernel
theorem dX9_laid_12 : decode cX9_laid 12 = .ok (.ireturn, 1) := by decide +kernel
theorem dX9_laid_13 : decode cX9_laid 13 = .ok (.aload_n 0, 1) := by decide +kernel
theorem dX9_laid_14 : decode cX9_laid 14 = .ok (.getfield 10, 3) := by decide +kernel
theorem dX9_laid_17 : decode cX9_laid 17 = .ok (.getfield 128, 3) := by decide +kernel
theorem dX9_laid_20 : decode cX9_laid 20 = .ok (.iload_n 1, 1) := by decide +kernel
theorem dX9_laid_21 : decode cX9_laid 21 = .ok (.invokevirtual 108, 3) := by decide +kernel
theorem dX9_laid_24 : decode cX9_laid 24 = .ok (.ifCond .eq 14, 3) := by decide +kernel
theorem dX9_laid_27 : decode cX9_laid 27 = .ok (.aload_n 0, 1) := by decide +kernel
theorem dX9_laid_28 : decode cX9_laid 28 = .ok (.getfield 10, 3) := by decide +kernel
theorem dX9_laid_31 : decode cX9_laid 31 = .ok (.iload_n 1, 1) := by decide +kernel
theorem dX9_laid_32 : decode cX9_laid 32 = .ok (.invokestatic 144, 3) := by decide +kernel
theorem dX9_laid_35 : decode cX9_laid 35 = .ok (.goto 5, 3) := by decide +kernel
theorem dX9_laid_38 : decode cX9_laid 38 = .ok (.bipush (-10), 2) := by decide +kernel
theorem dX9_laid_40 : decode cX9_laid 40 = .ok (.ireturn, 1) := by decide +kernel
theorem dX9_ridge_0 : decode cX9_ridge 0 = .ok (.aload_n 0, 1) := by decide +kernel
theorem dX9_ridge_1 : decode cX9_ridge 1 = .ok (.getfield 10, 3) := by decide +kernel
theorem dX9_ridge_4 : decode cX9_ridge 4 = .ok (.getfield 147, 3) := by decide +kernel
theorem dX9_ridge_7 : decode cX9_ridge 7 = .ok (.bipush 8, 2) := by decide +kernel
theorem dX9_ridge_9 : decode cX9_ridge 9 = .ok (.if_icmp .lt 6, 3) := by decide +kernel
theorem dX9_ridge_12 : decode cX9_ridge 12 = .ok (.bipush (-4), 2) := by decide +kernel
theorem dX9_ridge_14 : decode cX9_ridge 14 = .ok (.ireturn, 1) := by decide +kernel
theorem dX9_ridge_15 : decode cX9_ridge 15 = .ok (.aload_n 0, 1) := by decide +kernel
theorem dX9_ridge_16 : decode cX9_ridge 16 = .ok (.getfield 10, 3) := by decide +kernel
theorem dX9_ridge_19 : decode cX9_ridge 19 = .ok (.dup, 1) := by decide +kernel
theorem dX9_ridge_20 : decode cX9_ridge 20 = .ok (.getfield 147, 3) := by decide +kernel
theorem dX9_ridge_23 : decode cX9_ridge 23 = .ok (.dup_x1, 1) := by decide +kernel
theorem dX9_ridge_24 : decode cX9_ridge 24 = .ok (.iconst 1, 1) := by decide +kernel
theorem dX9_ridge_25 : decode cX9_ridge 25 = .ok (.iadd, 1) := by decide +kernel
theorem dX9_ridge_26 : decode cX9_ridge 26 = .ok (.putfield 147, 3) := by decide +kernel
theorem dX9_ridge_29 : decode cX9_ridge 29 = .ok (.ireturn, 1) := by decide +kernel
theorem dX9_fact_0 : decode cX9_fact 0 = .ok (.iload_n 1, 1) := by decide +kernel
theorem dX9_fact_1 : decode cX9_fact 1 = .ok (.iconst 0, 1) := by decide +kernel
theorem dX9_fact_2 : decode cX9_fact 2 = .ok (.iconst 1, 1) := by decide +kernel
theorem dX9_fact_3 : decode cX9_fact 3 = .ok (.invokestatic 67, 3) := by decide +kernel
theorem dX9_fact_6 : decode cX9_fact 6 = .ok (.ifCond .eq 24, 3) := by decide +kernel
theorem dX9_fact_9 : decode cX9_fact 9 = .ok (.aload_n 0, 1) := by decide +kernel
theorem dX9_fact_10 : decode cX9_fact 10 = .ok (.iload_n 3, 1) := by decide +kernel
theorem dX9_fact_11 : decode cX9_fact 11 = .ok (.invokevirtual 151, 3) := by decide +kernel
theorem dX9_fact_14 : decode cX9_fact 14 = .ok (.ifCond .eq 16, 3) := by decide +kernel
theorem dX9_fact_17 : decode cX9_fact 17 = .ok (.aload_n 0, 1) := by decide +kernel
theorem dX9_fact_18 : decode cX9_fact 18 = .ok (.iload_n 2, 1) := by decide +kernel
theorem dX9_fact_19 : decode cX9_fact 19 = .ok (.iload_n 3, 1) := by decide +kernel
theorem dX9_fact_20 : decode cX9_fact 20 = .ok (.iload 4, 2) := by decide +kernel
theorem dX9_fact_22 : decode cX9_fact 22 = .ok (.iload 5, 2) := by decide +kernel
theorem dX9_fact_24 : decode cX9_fact 24 = .ok (.invokevirtual 154, 3) := by decide +kernel
theorem dX9_fact_27 : decode cX9_fact 27 = .ok (.ifCond .ne 6, 3) := by decide +kernel
theorem dX9_fact_30 : decode cX9_fact 30 = .ok (.bipush (-2), 2) := by decide +kernel
theorem dX9_fact_32 : decode cX9_fact 32 = .ok (.ireturn, 1) := by decide +kernel
theorem dX9_fact_33 : decode cX9_fact 33 = .ok (.aload_n 0, 1) := by decide +kernel
theorem dX9_fact_34 : decode cX9_fact 34 = .ok (.getfield 10, 3) := by decide +kernel
theorem dX9_fact_37 : decode cX9_fact 37 = .ok (.getfield 158, 3) := by decide +kernel
theorem dX9_fact_40 : decode cX9_fact 40 = .ok (.iload_n 1, 1) := by decide +kernel
theorem dX9_fact_41 : decode cX9_fact 41 = .ok (.iload_n 2, 1) := by decide +kernel
theorem dX9_fact_42 : decode cX9_fact 42 = .ok (.iload_n 3, 1) := by decide +kernel
theorem dX9_fact_43 : decode cX9_fact 43 = .ok (.iload 4, 2) := by decide +kernel
theorem dX9_fact_45 : decode cX9_fact 45 = .ok (.iload_n 2, 1) := by decide +kernel
theorem dX9_fact_46 : decode cX9_fact 46 = .ok (.iconst 1, 1) := by decide +kernel
theorem dX9_fact_47 : decode cX9_fact 47 = .ok (.if_icmp .ne 8, 3) := by decide +kernel
theorem dX9_fact_50 : decode cX9_fact 50 = .ok (.iload 5, 2) := by decide +kernel
theorem dX9_fact_52 : decode cX9_fact 52 = .ok (.goto 4, 3) := by decide +kernel
theorem dX9_fact_55 : decode cX9_fact 55 = .ok (.iconst 0, 1) := by decide +kernel
theorem dX9_fact_56 : decode cX9_fact 56 = .ok (.invokevirtual 99, 3) := by decide +kernel
theorem dX9_fact_59 : decode cX9_fact 59 = .ok (.ireturn, 1) := by decide +kernel
theorem dX9_age_0 : decode cX9_age 0 = .ok (.aload_n 0, 1) := by decide +kernel
theorem dX9_age_1 : decode cX9_age 1 = .ok (.iload_n 1, 1) := by decide +kernel
theorem dX9_age_2 : decode cX9_age 2 = .ok (.invokevirtual 151, 3) := by decide +kernel
theorem dX9_age_5 : decode cX9_age 5 = .ok (.ifCond .eq 27, 3) := by decide +kernel
theorem dX9_age_8 : decode cX9_age 8 = .ok (.iload_n 2, 1) := by decide +kernel
theorem dX9_age_9 : decode cX9_age 9 = .ok (.iconst 0, 1) := by decide +kernel
theorem dX9_age_10 : decode cX9_age 10 = .ok (.aload_n 0, 1) := by decide +kernel
theorem dX9_age_11 : decode cX9_age 11 = .ok (.getfield 10, 3) := by decide +kernel
theorem dX9_age_14 : decode cX9_age 14 = .ok (.invokestatic 161, 3) := by decide +kernel
theorem dX9_age_17 : decode cX9_age 17 = .ok (.invokestatic 67, 3) := by decide +kernel
theorem dX9_age_20 : decode cX9_age 20 = .ok (.ifCond .eq 12, 3) := by decide +kernel
theorem dX9_age_23 : decode cX9_age 23 = .ok (.iload_n 3, 1) := by decide +kernel
theorem dX9_age_24 : decode cX9_age 24 = .ok (.iconst 0, 1) := by decide +kernel
theorem dX9_age_25 : decode cX9_age 25 = .ok (.iconst 1, 1) := by decide +kernel
theorem dX9_age_26 : decode cX9_age 26 = .ok (.invokestatic 67, 3) := by decide +kernel
theorem dX9_age_29 : decode cX9_age 29 = .ok (.ifCond .ne 6, 3) := by decide +kernel
theorem dX9_age_32 : decode cX9_age 32 = .ok (.bipush (-10), 2) := by decide +kernel
theorem dX9_age_34 : decode cX9_age 34 = .ok (.ireturn, 1) := by decide +kernel
theorem dX9_age_35 : decode cX9_age 35 = .ok (.aload_n 0, 1) := by decide +kernel
theorem dX9_age_36 : decode cX9_age 36 = .ok (.getfield 35, 3) := by decide +kernel
theorem dX9_age_39 : decode cX9_age 39 = .ok (.aload_n 0, 1) := by decide +kernel
theorem dX9_age_40 : decode cX9_age 40 = .ok (.getfield 10, 3) := by decide +kernel
theorem dX9_age_43 : decode cX9_age 43 = .ok (.iload_n 2, 1) := by decide +kernel
theorem dX9_age_44 : decode cX9_age 44 = .ok (.invokevirtual 164, 3) := by decide +kernel
theorem dX9_age_47 : decode cX9_age 47 = .ok (.ifCond .ne 6, 3) := by decide +kernel
theorem dX9_age_50 : decode cX9_age 50 = .ok (.bipush (-5), 2) := by decide +kernel
theorem dX9_age_52 : decode cX9_age 52 = .ok (.ireturn, 1) := by decide +kernel
theorem dX9_age_53 : decode cX9_age 53 = .ok (.iload_n 3, 1) := by decide +kernel
theorem dX9_age_54 : decode cX9_age 54 = .ok (.ifCond .ne 14, 3) := by decide +kernel
theorem dX9_age_57 : decode cX9_age 57 = .ok (.aload_n 0, 1) := by decide +kernel
theorem dX9_age_58 : decode cX9_age 58 = .ok (.getfield 35, 3) := by decide +kernel
theorem dX9_age_61 : decode cX9_age 61 = .ok (.iload_n 1, 1) := by decide +kernel
theorem dX9_age_62 : decode cX9_age 62 = .ok (.invokevirtual 168, 3) := by decide +kernel
theorem dX9_age_65 : decode cX9_age 65 = .ok (.goto 11, 3) := by decide +kernel
theorem dX9_age_68 : decode cX9_age 68 = .ok (.aload_n 0, 1) := by decide +kernel
theorem dX9_age_69 : decode cX9_age 69 = .ok (.getfield 35, 3) := by decide +kernel
theorem dX9_age_72 : decode cX9_age 72 = .ok (.iload_n 1, 1) := by decide +kernel
theorem dX9_age_73 : decode cX9_age 73 = .ok (.invokevirtual 172, 3) := by decide +kernel
theorem dX9_age_76 : decode cX9_age 76 = .ok (.ireturn, 1) := by decide +kernel
theorem dX9_fewest_0 : decode cX9_fewest 0 = .ok (.aload_n 0, 1) := by decide +kernel
theorem dX9_fewest_1 : decode cX9_fewest 1 = .ok (.getfield 35, 3) := by decide +kernel
theorem dX9_fewest_4 : decode cX9_fewest 4 = .ok (.aload_n 0, 1) := by decide +kernel
theorem dX9_fewest_5 : decode cX9_fewest 5 = .ok (.getfield 10, 3) := by decide +kernel
theorem dX9_fewest_8 : decode cX9_fewest 8 = .ok (.invokevirtual 175, 3) := by decide +kernel
theorem dX9_fewest_11 : decode cX9_fewest 11 = .ok (.ireturn, 1) := by decide +kernel
theorem dX9_sure_0 : decode cX9_sure 0 = .ok (.aload_n 0, 1) := by decide +kernel
theorem dX9_sure_1 : decode cX9_sure 1 = .ok (.iload_n 1, 1) := by decide +kernel
theorem dX9_sure_2 : decode cX9_sure 2 = .ok (.invokevirtual 151, 3) := by decide +kernel
theorem dX9_sure_5 : decode cX9_sure 5 = .ok (.ifCond .eq 16, 3) := by decide +kernel
theorem dX9_sure_8 : decode cX9_sure 8 = .ok (.aload_n 0, 1) := by decide +kernel
theorem dX9_sure_9 : decode cX9_sure 9 = .ok (.iload_n 2, 1) := by decide +kernel
theorem dX9_sure_10 : decode cX9_sure 10 = .ok (.invokevirtual 151, 3) := by decide +kernel
theorem dX9_sure_13 : decode cX9_sure 13 = .ok (.ifCond .eq 8, 3) := by decide +kernel
theorem dX9_sure_16 : decode cX9_sure 16 = .ok (.iload_n 1, 1) := by decide +kernel
theorem dX9_sure_17 : decode cX9_sure 17 = .ok (.iload_n 2, 1) := by decide +kernel
theorem dX9_sure_18 : decode cX9_sure 18 = .ok (.if_icmp .ne 6, 3) := by decide +kernel
theorem dX9_sure_21 : decode cX9_sure 21 = .ok (.bipush (-2), 2) := by decide +kernel
theorem dX9_sure_23 : decode cX9_sure 23 = .ok (.ireturn, 1) := by decide +kernel
theorem dX9_sure_24 : decode cX9_sure 24 = .ok (.aload_n 0, 1) := by decide +kernel
theorem dX9_sure_25 : decode cX9_sure 25 = .ok (.getfield 35, 3) := by decide +kernel
theorem dX9_sure_28 : decode cX9_sure 28 = .ok (.aload_n 0, 1) := by decide +kernel
theorem dX9_sure_29 : decode cX9_sure 29 = .ok (.getfield 10, 3) := by decide +kernel
theorem dX9_sure_32 : decode cX9_sure 32 = .ok (.invokevirtual 178, 3) := by decide +kernel
theorem dX9_sure_35 : decode cX9_sure 35 = .ok (.ifCond .ne 6, 3) := by decide +kernel
theorem dX9_sure_38 : decode cX9_sure 38 = .ok (.bipush (-5), 2) := by decide +kernel
theorem dX9_sure_40 : decode cX9_sure 40 = .ok (.ireturn, 1) := by decide +kernel
theorem dX9_sure_41 : decode cX9_sure 41 = .ok (.aload_n 0, 1) := by decide +kernel
theorem dX9_sure_42 : decode cX9_sure 42 = .ok (.getfield 35, 3) := by decide +kernel
theorem dX9_sure_45 : decode cX9_sure 45 = .ok (.iload_n 1, 1) := by decide +kernel
theorem dX9_sure_46 : decode cX9_sure 46 = .ok (.iload_n 2, 1) := by decide +kernel
theorem dX9_sure_47 : decode cX9_sure 47 = .ok (.invokevirtual 182, 3) := by decide +kernel
theorem dX9_sure_50 : decode cX9_sure 50 = .ok (.ifCond .eq 7, 3) := by decide +kernel
theorem dX9_sure_53 : decode cX9_sure 53 = .ok (.iconst 1, 1) := by decide +kernel
theorem dX9_sure_54 : decode cX9_sure 54 = .ok (.goto 4, 3) := by decide +kernel
theorem dX9_sure_57 : decode cX9_sure 57 = .ok (.iconst 0, 1) := by decide +kernel
theorem dX9_sure_58 : decode cX9_sure 58 = .ok (.ireturn, 1) := by decide +kernel
theorem dX9_core_0 : decode cX9_core 0 = .ok (.aload_n 0, 1) := by decide +kernel
theorem dX9_core_1 : decode cX9_core 1 = .ok (.getfield 35, 3) := by decide +kernel
theorem dX9_core_4 : decode cX9_core 4 = .ok (.aload_n 0, 1) := by decide +kernel
theorem dX9_core_5 : decode cX9_core 5 = .ok (.getfield 10, 3) := by decide +kernel
theorem dX9_core_8 : decode cX9_core 8 = .ok (.invokevirtual 178, 3) := by decide +kernel
theorem dX9_core_11 : decode cX9_core 11 = .ok (.ifCond .eq 20, 3) := by decide +kernel
theorem dX9_core_14 : decode cX9_core 14 = .ok (.aload_n 0, 1) := by decide +kernel
theorem dX9_core_15 : decode cX9_core 15 = .ok (.getfield 35, 3) := by decide +kernel
theorem dX9_core_18 : decode cX9_core 18 = .ok (.aload_n 0, 1) := by decide +kernel
theorem dX9_core_19 : decode cX9_core 19 = .ok (.getfield 10, 3) := by decide +kernel
theorem dX9_core_22 : decode cX9_core 22 = .ok (.getfield 147, 3) := by decide +kernel
theorem dX9_core_25 : decode cX9_core 25 = .ok (.invokevirtual 185, 3) := by decide +kernel
theorem dX9_core_28 : decode cX9_core 28 = .ok (.goto 5, 3) := by decide +kernel
theorem dX9_core_31 : decode cX9_core 31 = .ok (.bipush (-5), 2) := by decide +kernel
theorem dX9_core_33 : decode cX9_core 33 = .ok (.ireturn, 1) := by decide +kernel
theorem dX9_parted_0 : decode cX9_parted 0 = .ok (.aload_n 0, 1) := by decide +kernel
theorem dX9_parted_1 : decode cX9_parted 1 = .ok (.getfield 35, 3) := by decide +kernel
theorem dX9_parted_4 : decode cX9_parted 4 = .ok (.aload_n 0, 1) := by decide +kernel
theorem dX9_parted_5 : decode cX9_parted 5 = .ok (.getfield 10, 3) := by decide +kernel
theorem dX9_parted_8 : decode cX9_parted 8 = .ok (.invokevirtual 188, 3) := by decide +kernel
theorem dX9_parted_11 : decode cX9_parted 11 = .ok (.ireturn, 1) := by decide +kernel
theorem dX9_sign_0 : decode cX9_sign 0 = .ok (.iload_n 1, 1) := by decide +kernel
theorem dX9_sign_1 : decode cX9_sign 1 = .ok (.iconst 0, 1) := by decide +kernel
theorem dX9_sign_2 : decode cX9_sign 2 = .ok (.iconst 2, 1) := by decide +kernel
theorem dX9_sign_3 : decode cX9_sign 3 = .ok (.invokestatic 67, 3) := by decide +kernel
theorem dX9_sign_6 : decode cX9_sign 6 = .ok (.ifCond .eq 34, 3) := by decide +kernel
theorem dX9_sign_9 : decode cX9_sign 9 = .ok (.iload_n 2, 1) := by decide +kernel
theorem dX9_sign_10 : decode cX9_sign 10 = .ok (.iconst 0, 1) := by decide +kernel
theorem dX9_sign_11 : decode cX9_sign 11 = .ok (.bipush 20, 2) := by decide +kernel
theorem dX9_sign_13 : decode cX9_sign 13 = .ok (.invokestatic 67, 3) := by decide +kernel
theorem dX9_sign_16 : decode cX9_sign 16 = .ok (.ifCond .eq 24, 3) := by decide +kernel
theorem dX9_sign_19 : decode cX9_sign 19 = .ok (.iload_n 3, 1) := by decide +kernel
theorem dX9_sign_20 : decode cX9_sign 20 = .ok (.iconst 0, 1) := by decide +kernel
theorem dX9_sign_21 : decode cX9_sign 21 = .ok (.bipush 39, 2) := by decide +kernel
theorem dX9_sign_23 : decode cX9_sign 23 = .ok (.invokestatic 67, 3) := by decide +kernel
theorem dX9_sign_26 : decode cX9_sign 26 = .ok (.ifCond .eq 14, 3) := by decide +kernel
theorem dX9_sign_29 : decode cX9_sign 29 = .ok (.iload 4, 2) := by decide +kernel
theorem dX9_sign_31 : decode cX9_sign 31 = .ok (.iload_n 3, 1) := by decide +kernel
theorem dX9_sign_32 : decode cX9_sign 32 = .ok (.bipush 39, 2) := by decide +kernel
theorem dX9_sign_34 : decode cX9_sign 34 = .ok (.invokestatic 67, 3) := by decide +kernel
theorem dX9_sign_37 : decode cX9_sign 37 = .ok (.ifCond .ne 6, 3) := by decide +kernel
theorem dX9_sign_40 : decode cX9_sign 40 = .ok (.bipush (-2), 2) := by decide +kernel
theorem dX9_sign_42 : decode cX9_sign 42 = .ok (.ireturn, 1) := by decide +kernel
theorem dX9_sign_43 : decode cX9_sign 43 = .ok (.iload_n 1, 1) := by decide +kernel
theorem dX9_sign_44 : decode cX9_sign 44 = .ok (.ifCond .ne 17, 3) := by decide +kernel
theorem dX9_sign_47 : decode cX9_sign 47 = .ok (.aload_n 0, 1) := by decide +kernel
theorem dX9_sign_48 : decode cX9_sign 48 = .ok (.getfield 10, 3) := by decide +kernel
theorem dX9_sign_51 : decode cX9_sign 51 = .ok (.invokestatic 191, 3) := by decide +kernel
theorem dX9_sign_54 : decode cX9_sign 54 = .ok (.iconst 5, 1) := by decide +kernel
theorem dX9_sign_55 : decode cX9_sign 55 = .ok (.if_icmp .lt 6, 3) := by decide +kernel
theorem dX9_sign_58 : decode cX9_sign 58 = .ok (.bipush (-4), 2) := by decide +kernel
theorem dX9_sign_60 : decode cX9_sign 60 = .ok (.ireturn, 1) := by decide +kernel
theorem dX9_sign_61 : decode cX9_sign 61 = .ok (.aload_n 0, 1) := by decide +kernel
theorem dX9_sign_62 : decode cX9_sign 62 = .ok (.getfield 10, 3) := by decide +kernel
theorem dX9_sign_65 : decode cX9_sign 65 = .ok (.getfield 194, 3) := by decide +kernel
theorem dX9_sign_68 : decode cX9_sign 68 = .ok (.iload_n 1, 1) := by decide +kernel
theorem dX9_sign_69 : decode cX9_sign 69 = .ok (.iload_n 2, 1) := by decide +kernel
theorem dX9_sign_70 : decode cX9_sign 70 = .ok (.iload_n 3, 1) := by decide +kernel
theorem dX9_sign_71 : decode cX9_sign 71 = .ok (.iload 4, 2) := by decide +kernel
theorem dX9_sign_73 : decode cX9_sign 73 = .ok (.iconst 0, 1) := by decide +kernel
theorem dX9_sign_74 : decode cX9_sign 74 = .ok (.invokevirtual 99, 3) := by decide +kernel
theorem dX9_sign_77 : decode cX9_sign 77 = .ok (.ireturn, 1) := by decide +kernel
theorem dX9_stand_0 : decode cX9_stand 0 = .ok (.iload_n 1, 1) := by decide +kernel
theorem dX9_stand_1 : decode cX9_stand 1 = .ok (.iconst (-1), 1) := by decide +kernel
theorem dX9_stand_2 : decode cX9_stand 2 = .ok (.if_icmp .eq 16, 3) := by decide +kernel
theorem dX9_stand_5 : decode cX9_stand 5 = .ok (.iload_n 1, 1) := by decide +kernel
theorem dX9_stand_6 : decode cX9_stand 6 = .ok (.iconst 0, 1) := by decide +kernel
theorem dX9_stand_7 : decode cX9_stand 7 = .ok (.bipush 39, 2) := by decide +kernel
theorem dX9_stand_9 : decode cX9_stand 9 = .ok (.invokestatic 67, 3) := by decide +kernel
theorem dX9_stand_12 : decode cX9_stand 12 = .ok (.ifCond .ne 6, 3) := by decide +kernel
theorem dX9_stand_15 : decode cX9_stand 15 = .ok (.bipush (-10), 2) := by decide +kernel
theorem dX9_stand_17 : decode cX9_stand 17 = .ok (.ireturn, 1) := by decide +kernel
theorem dX9_stand_18 : decode cX9_stand 18 = .ok (.aload_n 0, 1) := by decide +kernel
theorem dX9_stand_19 : decode cX9_stand 19 = .ok (.getfield 42, 3) := by decide +kernel
theorem dX9_stand_22 : decode cX9_stand 22 = .ok (.aload_n 0, 1) := by decide +kernel
theorem dX9_stand_23 : decode cX9_stand 23 = .ok (.getfield 10, 3) := by decide +kernel
theorem dX9_stand_26 : decode cX9_stand 26 = .ok (.invokevirtual 197, 3) := by decide +kernel
theorem dX9_stand_29 : decode cX9_stand 29 = .ok (.aload_n 0, 1) := by decide +kernel
theorem dX9_stand_30 : decode cX9_stand 30 = .ok (.getfield 42, 3) := by decide +kernel
theorem dX9_stand_33 : decode cX9_stand 33 = .ok (.invokevirtual 201, 3) := by decide +kernel
theorem dX9_stand_36 : decode cX9_stand 36 = .ok (.iconst (-1), 1) := by decide +kernel
theorem dX9_stand_37 : decode cX9_stand 37 = .ok (.if_icmp .ne 6, 3) := by decide +kernel
theorem dX9_stand_40 : decode cX9_stand 40 = .ok (.bipush (-5), 2) := by decide +kernel
theorem dX9_stand_42 : decode cX9_stand 42 = .ok (.ireturn, 1) := by decide +kernel
theorem dX9_stand_43 : decode cX9_stand 43 = .ok (.iload_n 1, 1) := by decide +kernel
theorem dX9_stand_44 : decode cX9_stand 44 = .ok (.iconst (-1), 1) := by decide +kernel
theorem dX9_stand_45 : decode cX9_stand 45 = .ok (.if_icmp .ne 13, 3) := by decide +kernel
theorem dX9_stand_48 : decode cX9_stand 48 = .ok (.aload_n 0, 1) := by decide +kernel
theorem dX9_stand_49 : decode cX9_stand 49 = .ok (.getfield 42, 3) := by decide +kernel
theorem dX9_stand_52 : decode cX9_stand 52 = .ok (.invokevirtual 201, 3) := by decide +kernel
theorem dX9_stand_55 : decode cX9_stand 55 = .ok (.goto 11, 3) := by decide +kernel
theorem dX9_stand_58 : decode cX9_stand 58 = .ok (.aload_n 0, 1) := by decide +kernel
theorem dX9_stand_59 : decode cX9_stand 59 = .ok (.getfield 42, 3) := by decide +kernel
theorem dX9_stand_62 : decode cX9_stand 62 = .ok (.iload_n 1, 1) := by decide +kernel
theorem dX9_stand_63 : decode cX9_stand 63 = .ok (.invokevirtual 205, 3) := by decide +kernel
theorem dX9_stand_66 : decode cX9_stand 66 = .ok (.ireturn, 1) := by decide +kernel
theorem dX9_area_0 : decode cX9_area 0 = .ok (.iload_n 1, 1) := by decide +kernel
theorem dX9_area_1 : decode cX9_area 1 = .ok (.invokestatic 208, 3) := by decide +kernel
theorem dX9_area_4 : decode cX9_area 4 = .ok (.ifCond .eq 29, 3) := by decide +kernel
theorem dX9_area_7 : decode cX9_area 7 = .ok (.iload_n 2, 1) := by decide +kernel
theorem dX9_area_8 : decode cX9_area 8 = .ok (.iconst 0, 1) := by decide +kernel
theorem dX9_area_9 : decode cX9_area 9 = .ok (.sipush 999, 3) := by decide +kernel
theorem dX9_area_12 : decode cX9_area 12 = .ok (.invokestatic 67, 3) := by decide +kernel
theorem dX9_area_15 : decode cX9_area 15 = .ok (.ifCond .eq 18, 3) := by decide +kernel
theorem dX9_area_18 : decode cX9_area 18 = .ok (.aload_n 0, 1) := by decide +kernel
theorem dX9_area_19 : decode cX9_area 19 = .ok (.getfield 10, 3) := by decide +kernel
theorem dX9_area_22 : decode cX9_area 22 = .ok (.getfield 211, 3) := by decide +kernel
theorem dX9_area_25 : decode cX9_area 25 = .ok (.iload_n 1, 1) := by decide +kernel
theorem dX9_area_26 : decode cX9_area 26 = .ok (.iload_n 2, 1) := by decide +kernel
theorem dX9_area_27 : decode cX9_area 27 = .ok (.invokestatic 75, 3) := by decide +kernel
theorem dX9_area_30 : decode cX9_area 30 = .ok (.goto 5, 3) := by decide +kernel
theorem dX9_area_33 : decode cX9_area 33 = .ok (.bipush (-2), 2) := by decide +kernel
theorem dX9_area_35 : decode cX9_area 35 = .ok (.ireturn, 1) := by decide +kernel
theorem dX9_lake_0 : decode cX9_lake 0 = .ok (.iload_n 1, 1) := by decide +kernel
theorem dX9_lake_1 : decode cX9_lake 1 = .ok (.iload_n 2, 1) := by decide +kernel
theorem dX9_lake_2 : decode cX9_lake 2 = .ok (.invokestatic 214, 3) := by decide +kernel
theorem dX9_lake_5 : decode cX9_lake 5 = .ok (.ifCond .eq 12, 3) := by decide +kernel
theorem dX9_lake_8 : decode cX9_lake 8 = .ok (.iload_n 3, 1) := by decide +kernel
theorem dX9_lake_9 : decode cX9_lake 9 = .ok (.iconst 0, 1) := by decide +kernel
theorem dX9_lake_10 : decode cX9_lake 10 = .ok (.iconst 2, 1) := by decide +kernel
theorem dX9_lake_11 : decode cX9_lake 11 = .ok (.invokestatic 67, 3) := by decide +kernel
theorem dX9_lake_14 : decode cX9_lake 14 = .ok (.ifCond .ne 6, 3) := by decide +kernel
theorem dX9_lake_17 : decode cX9_lake 17 = .ok (.bipush (-2), 2) := by decide +kernel
theorem dX9_lake_19 : decode cX9_lake 19 = .ok (.ireturn, 1) := by decide +kernel
theorem dX9_lake_20 : decode cX9_lake 20 = .ok (.iload_n 3, 1) := by decide +kernel
theorem dX9_lake_21 : decode cX9_lake 21 = .ok (.ifCond .ne 16, 3) := by decide +kernel
theorem dX9_lake_24 : decode cX9_lake 24 = .ok (.aload_n 0, 1) := by decide +kernel
theorem dX9_lake_25 : decode cX9_lake 25 = .ok (.getfield 10, 3) := by decide +kernel
theorem dX9_lake_28 : decode cX9_lake 28 = .ok (.getfield 211, 3) := by decide +kernel
theorem dX9_lake_31 : decode cX9_lake 31 = .ok (.iload_n 1, 1) := by decide +kernel
theorem dX9_lake_32 : decode cX9_lake 32 = .ok (.iload_n 2, 1) := by decide +kernel
theorem dX9_lake_33 : decode cX9_lake 33 = .ok (.invokestatic 217, 3) := by decide +kernel
theorem dX9_lake_36 : decode cX9_lake 36 = .ok (.ireturn, 1) := by decide +kernel
theorem dX9_lake_37 : decode cX9_lake 37 = .ok (.aload_n 0, 1) := by decide +kernel
theorem dX9_lake_38 : decode cX9_lake 38 = .ok (.getfield 49, 3) := by decide +kernel
theorem dX9_lake_41 : decode cX9_lake 41 = .ok (.aload_n 0, 1) := by decide +kernel
theorem dX9_lake_42 : decode cX9_lake 42 = .ok (.getfield 10, 3) := by decide +kernel
theorem dX9_lake_45 : decode cX9_lake 45 = .ok (.iload_n 1, 1) := by decide +kernel
theorem dX9_lake_46 : decode cX9_lake 46 = .ok (.iload_n 2, 1) := by decide +kernel
theorem dX9_lake_47 : decode cX9_lake 47 = .ok (.invokevirtual 220, 3) := by decide +kernel
theorem dX9_lake_50 : decode cX9_lake 50 = .ok (.iload_n 3, 1) := by decide +kernel
theorem dX9_lake_51 : decode cX9_lake 51 = .ok (.iconst 1, 1) := by decide +kernel
theorem dX9_lake_52 : decode cX9_lake 52 = .ok (.if_icmp .ne 13, 3) := by decide +kernel
theorem dX9_lake_55 : decode cX9_lake 55 = .ok (.aload_n 0, 1) := by decide +kernel
theorem dX9_lake_56 : decode cX9_lake 56 = .ok (.getfield 49, 3) := by decide +kernel
theorem dX9_lake_59 : decode cX9_lake 59 = .ok (.invokevirtual 224, 3) := by decide +kernel
theorem dX9_lake_62 : decode cX9_lake 62 = .ok (.goto 10, 3) := by decide +kernel
theorem dX9_lake_65 : decode cX9_lake 65 = .ok (.aload_n 0, 1) := by decide +kernel
theorem dX9_lake_66 : decode cX9_lake 66 = .ok (.getfield 49, 3) := by decide +kernel
theorem dX9_lake_69 : decode cX9_lake 69 = .ok (.invokevirtual 227, 3) := by decide +kernel
theorem dX9_lake_72 : decode cX9_lake 72 = .ok (.ireturn, 1) := by decide +kernel
theorem dX9_shore_0 : decode cX9_shore 0 = .ok (.iload_n 1, 1) := by decide +kernel
theorem dX9_shore_1 : decode cX9_shore 1 = .ok (.iload_n 2, 1) := by decide +kernel
theorem dX9_shore_2 : decode cX9_shore 2 = .ok (.invokestatic 214, 3) := by decide +kernel
theorem dX9_shore_5 : decode cX9_shore 5 = .ok (.ifCond .eq 23, 3) := by decide +kernel
theorem dX9_shore_8 : decode cX9_shore 8 = .ok (.iload_n 3, 1) := by decide +kernel
theorem dX9_shore_9 : decode cX9_shore 9 = .ok (.iconst 0, 1) := by decide +kernel
theorem dX9_shore_10 : decode cX9_shore 10 = .ok (.bipush 20, 2) := by decide +kernel
theorem dX9_shore_12 : decode cX9_shore 12 = .ok (.invokestatic 67, 3) := by decide +kernel
theorem dX9_shore_15 : decode cX9_shore 15 = .ok (.ifCond .eq 13, 3) := by decide +kernel
theorem dX9_shore_18 : decode cX9_shore 18 = .ok (.iload 4, 2) := by decide +kernel
theorem dX9_shore_20 : decode cX9_shore 20 = .ok (.iconst 0, 1) := by decide +kernel
theorem dX9_shore_21 : decode cX9_shore 21 = .ok (.iconst 1, 1) := by decide +kernel
theorem dX9_shore_22 : decode cX9_shore 22 = .ok (.invokestatic 67, 3) := by decide +kernel
theorem dX9_shore_25 : decode cX9_shore 25 = .ok (.ifCond .ne 6, 3) := by decide +kernel
theorem dX9_shore_28 : decode cX9_shore 28 = .ok (.bipush (-2), 2) := by decide +kernel
theorem dX9_shore_30 : decode cX9_shore 30 = .ok (.ireturn, 1) := by decide +kernel
theorem dX9_shore_31 : decode cX9_shore 31 = .ok (.iload 4, 2) := by decide +kernel
theorem dX9_shore_33 : decode cX9_shore 33 = .ok (.ifCond .ne 15, 3) := by decide +kernel
theorem dX9_shore_36 : decode cX9_shore 36 = .ok (.iload_n 1, 1) := by decide +kernel
theorem dX9_shore_37 : decode cX9_shore 37 = .ok (.iload_n 3, 1) := by decide +kernel
theorem dX9_shore_38 : decode cX9_shore 38 = .ok (.isub, 1) := by decide +kernel
theorem dX9_shore_39 : decode cX9_shore 39 = .ok (.iload_n 2, 1) := by decide +kernel
theorem dX9_shore_40 : decode cX9_shore 40 = .ok (.iconst 1, 1) := by decide +kernel
theorem dX9_shore_41 : decode cX9_shore 41 = .ok (.iadd, 1) := by decide +kernel
theorem dX9_shore_42 : decode cX9_shore 42 = .ok (.invokestatic 85, 3) := by decide +kernel
theorem dX9_shore_45 : decode cX9_shore 45 = .ok (.goto 11, 3) := by decide +kernel
theorem dX9_shore_48 : decode cX9_shore 48 = .ok (.iload_n 1, 1) := by decide +kernel
theorem dX9_shore_49 : decode cX9_shore 49 = .ok (.iload_n 3, 1) := by decide +kernel
theorem dX9_shore_50 : decode cX9_shore 50 = .ok (.iadd, 1) := by decide +kernel
theorem dX9_shore_51 : decode cX9_shore 51 = .ok (.bipush 20, 2) := by decide +kernel
theorem dX9_shore_53 : decode cX9_shore 53 = .ok (.invokestatic 79, 3) := by decide +kernel
theorem dX9_shore_56 : decode cX9_shore 56 = .ok (.istore 5, 2) := by decide +kernel
theorem dX9_shore_58 : decode cX9_shore 58 = .ok (.aload_n 0, 1) := by decide +kernel
theorem dX9_shore_59 : decode cX9_shore 59 = .ok (.getfield 10, 3) := by decide +kernel
theorem dX9_shore_62 : decode cX9_shore 62 = .ok (.getfield 211, 3) := by decide +kernel
theorem dX9_shore_65 : decode cX9_shore 65 = .ok (.iload 5, 2) := by decide +kernel
theorem dX9_shore_67 : decode cX9_shore 67 = .ok (.iload_n 2, 1) := by decide +kernel
theorem dX9_shore_68 : decode cX9_shore 68 = .ok (.invokestatic 217, 3) := by decide +kernel
theorem dX9_shore_71 : decode cX9_shore 71 = .ok (.ireturn, 1) := by decide +kernel
theorem dX9_zone_0 : decode cX9_zone 0 = .ok (.iload_n 1, 1) := by decide +kernel
theorem dX9_zone_1 : decode cX9_zone 1 = .ok (.invokestatic 230, 3) := by decide +kernel
theorem dX9_zone_4 : decode cX9_zone 4 = .ok (.ifCond .eq 25, 3) := by decide +kernel
theorem dX9_zone_7 : decode cX9_zone 7 = .ok (.iload_n 2, 1) := by decide +kernel
theorem dX9_zone_8 : decode cX9_zone 8 = .ok (.invokestatic 233, 3) := by decide +kernel
theorem dX9_zone_11 : decode cX9_zone 11 = .ok (.ifCond .eq 18, 3) := by decide +kernel
theorem dX9_zone_14 : decode cX9_zone 14 = .ok (.aload_n 0, 1) := by decide +kernel
theorem dX9_zone_15 : decode cX9_zone 15 = .ok (.getfield 10, 3) := by decide +kernel
theorem dX9_zone_18 : decode cX9_zone 18 = .ok (.getfield 236, 3) := by decide +kernel
theorem dX9_zone_21 : decode cX9_zone 21 = .ok (.iload_n 1, 1) := by decide +kernel
theorem dX9_zone_22 : decode cX9_zone 22 = .ok (.iload_n 2, 1) := by decide +kernel
theorem dX9_zone_23 : decode cX9_zone 23 = .ok (.invokestatic 75, 3) := by decide +kernel
theorem dX9_zone_26 : decode cX9_zone 26 = .ok (.goto 5, 3) := by decide +kernel
theorem dX9_zone_29 : decode cX9_zone 29 = .ok (.bipush (-2), 2) := by decide +kernel
theorem dX9_zone_31 : decode cX9_zone 31 = .ok (.ireturn, 1) := by decide +kernel
theorem dX9_ice_0 : decode cX9_ice 0 = .ok (.iload_n 1, 1) := by decide +kernel
theorem dX9_ice_1 : decode cX9_ice 1 = .ok (.invokestatic 233, 3) := by decide +kernel
theorem dX9_ice_4 : decode cX9_ice 4 = .ok (.ifCond .eq 22, 3) := by decide +kernel
theorem dX9_ice_7 : decode cX9_ice 7 = .ok (.iload_n 2, 1) := by decide +kernel
theorem dX9_ice_8 : decode cX9_ice 8 = .ok (.invokestatic 233, 3) := by decide +kernel
theorem dX9_ice_11 : decode cX9_ice 11 = .ok (.ifCond .eq 15, 3) := by decide +kernel
theorem dX9_ice_14 : decode cX9_ice 14 = .ok (.aload_n 0, 1) := by decide +kernel
theorem dX9_ice_15 : decode cX9_ice 15 = .ok (.getfield 10, 3) := by decide +kernel
theorem dX9_ice_18 : decode cX9_ice 18 = .ok (.iload_n 1, 1) := by decide +kernel
theorem dX9_ice_19 : decode cX9_ice 19 = .ok (.iload_n 2, 1) := by decide +kernel
theorem dX9_ice_20 : decode cX9_ice 20 = .ok (.invokestatic 239, 3) := by decide +kernel
theorem dX9_ice_23 : decode cX9_ice 23 = .ok (.goto 5, 3) := by decide +kernel
theorem dX9_ice_26 : decode cX9_ice 26 = .ok (.bipush (-10), 2) := by decide +kernel
theorem dX9_ice_28 : decode cX9_ice 28 = .ok (.ireturn, 1) := by decide +kernel
theorem dX9_warm_0 : decode cX9_warm 0 = .ok (.iload_n 1, 1) := by decide +kernel
theorem dX9_warm_1 : decode cX9_warm 1 = .ok (.invokestatic 230, 3) := by decide +kernel
theorem dX9_warm_4 : decode cX9_warm 4 = .ok (.ifCond .eq 19, 3) := by decide +kernel
theorem dX9_warm_7 : decode cX9_warm 7 = .ok (.iload_n 2, 1) := by decide +kernel
theorem dX9_warm_8 : decode cX9_warm 8 = .ok (.invokestatic 233, 3) := by decide +kernel
theorem dX9_warm_11 : decode cX9_warm 11 = .ok (.ifCond .eq 12, 3) := by decide +kernel
theorem dX9_warm_14 : decode cX9_warm 14 = .ok (.iload_n 3, 1) := by decide +kernel
theorem dX9_warm_15 : decode cX9_warm 15 = .ok (.iconst 0, 1) := by decide +kernel
theorem dX9_warm_16 : decode cX9_warm 16 = .ok (.iconst 1, 1) := by decide +kernel
theorem dX9_warm_17 : decode cX9_warm 17 = .ok (.invokestatic 67, 3) := by decide +kernel
theorem dX9_warm_20 : decode cX9_warm 20 = .ok (.ifCond .ne 6, 3) := by decide +kernel
theorem dX9_warm_23 : decode cX9_warm 23 = .ok (.bipush (-2), 2) := by decide +kernel
theorem dX9_warm_25 : decode cX9_warm 25 = .ok (.ireturn, 1) := by decide +kernel
theorem dX9_warm_26 : decode cX9_warm 26 = .ok (.iload_n 3, 1) := by decide +kernel
theorem dX9_warm_27 : decode cX9_warm 27 = .ok (.ifCond .ne 15, 3) := by decide +kernel
theorem dX9_warm_30 : decode cX9_warm 30 = .ok (.aload_n 0, 1) := by decide +kernel
theorem dX9_warm_31 : decode cX9_warm 31 = .ok (.getfield 10, 3) := by decide +kernel
theorem dX9_warm_34 : decode cX9_warm 34 = .ok (.iload_n 1, 1) := by decide +kernel
theorem dX9_warm_35 : decode cX9_warm 35 = .ok (.iload_n 2, 1) := by decide +kernel
theorem dX9_warm_36 : decode cX9_warm 36 = .ok (.invokestatic 244, 3) := by decide +kernel
theorem dX9_warm_39 : decode cX9_warm 39 = .ok (.goto 12, 3) := by decide +kernel
theorem dX9_warm_42 : decode cX9_warm 42 = .ok (.aload_n 0, 1) := by decide +kernel
theorem dX9_warm_43 : decode cX9_warm 43 = .ok (.getfield 10, 3) := by decide +kernel
theorem dX9_warm_46 : decode cX9_warm 46 = .ok (.iload_n 1, 1) := by decide +kernel
theorem dX9_warm_47 : decode cX9_warm 47 = .ok (.iload_n 2, 1) := by decide +kernel
theorem dX9_warm_48 : decode cX9_warm 48 = .ok (.invokestatic 247, 3) := by decide +kernel
theorem dX9_warm_51 : decode cX9_warm 51 = .ok (.ireturn, 1) := by decide +kernel
theorem dX9_type_0 : decode cX9_type 0 = .ok (.iload_n 3, 1) := by decide +kernel
theorem dX9_type_1 : decode cX9_type 1 = .ok (.iconst 1, 1) := by decide +kernel
theorem dX9_type_2 : decode cX9_type 2 = .ok (.bipush 8, 2) := by decide +kernel
theorem dX9_type_4 : decode cX9_type 4 = .ok (.invokestatic 67, 3) := by decide +kernel
theorem dX9_type_7 : decode cX9_type 7 = .ok (.ifCond .eq 15, 3) := by decide +kernel
theorem dX9_type_10 : decode cX9_type 10 = .ok (.aload_n 0, 1) := by decide +kernel
theorem dX9_type_11 : decode cX9_type 11 = .ok (.getfield 56, 3) := by decide +kernel
theorem dX9_type_14 : decode cX9_type 14 = .ok (.lload_n 1, 1) := by decide +kernel
theorem dX9_type_15 : decode cX9_type 15 = .ok (.iload_n 3, 1) := by decide +kernel
theorem dX9_type_16 : decode cX9_type 16 = .ok (.invokevirtual 250, 3) := by decide +kernel
theorem dX9_type_19 : decode cX9_type 19 = .ok (.goto 5, 3) := by decide +kernel
theorem dX9_type_22 : decode cX9_type 22 = .ok (.bipush (-2), 2) := by decide +kernel
theorem dX9_type_24 : decode cX9_type 24 = .ok (.ireturn, 1) := by decide +kernel
theorem dX9_clear_0 : decode cX9_clear 0 = .ok (.aload_n 0, 1) := by decide +kernel
theorem dX9_clear_1 : decode cX9_clear 1 = .ok (.getfield 56, 3) := by decide +kernel
theorem dX9_clear_4 : decode cX9_clear 4 = .ok (.invokevirtual 254, 3) := by decide +kernel
theorem dX9_clear_7 : decode cX9_clear 7 = .ok (.istore_n 1, 1) := by decide +kernel
theorem dX9_clear_8 : decode cX9_clear 8 = .ok (.aload_n 0, 1) := by decide +kernel
theorem dX9_clear_9 : decode cX9_clear 9 = .ok (.getfield 56, 3) := by decide +kernel
theorem dX9_clear_12 : decode cX9_clear 12 = .ok (.invokevirtual 257, 3) := by decide +kernel
theorem dX9_clear_15 : decode cX9_clear 15 = .ok (.iload_n 1, 1) := by decide +kernel
theorem dX9_clear_16 : decode cX9_clear 16 = .ok (.ireturn, 1) := by decide +kernel
theorem dX9_fault_0 : decode cX9_fault 0 = .ok (.aload_n 0, 1) := by decide +kernel
theorem dX9_fault_1 : decode cX9_fault 1 = .ok (.getfield 56, 3) := by decide +kernel
theorem dX9_fault_4 : decode cX9_fault 4 = .ok (.invokevirtual 260, 3) := by decide +kernel
theorem dX9_fault_7 : decode cX9_fault 7 = .ok (.ireturn, 1) := by decide +kernel
theorem dX9_read_0 : decode cX9_read 0 = .ok (.aload_n 0, 1) := by decide +kernel
theorem dX9_read_1 : decode cX9_read 1 = .ok (.getfield 56, 3) := by decide +kernel
theorem dX9_read_4 : decode cX9_read 4 = .ok (.invokevirtual 260, 3) := by decide +kernel
theorem dX9_read_7 : decode cX9_read 7 = .ok (.istore_n 1, 1) := by decide +kernel
theorem dX9_read_8 : decode cX9_read 8 = .ok (.iload_n 1, 1) := by decide +kernel
theorem dX9_read_9 : decode cX9_read 9 = .ok (.iconst (-1), 1) := by decide +kernel
theorem dX9_read_10 : decode cX9_read 10 = .ok (.if_icmp .eq 8, 3) := by decide +kernel
theorem dX9_read_13 : decode cX9_read 13 = .ok (.bipush (-10), 2) := by decide +kernel
theorem dX9_read_15 : decode cX9_read 15 = .ok (.iload_n 1, 1) := by decide +kernel
theorem dX9_read_16 : decode cX9_read 16 = .ok (.isub, 1) := by decide +kernel
theorem dX9_read_17 : decode cX9_read 17 = .ok (.ireturn, 1) := by decide +kernel
theorem dX9_read_18 : decode cX9_read 18 = .ok (.aload_n 0, 1) := by decide +kernel
theorem dX9_read_19 : decode cX9_read 19 = .ok (.getfield 16, 3) := by decide +kernel
theorem dX9_read_22 : decode cX9_read 22 = .ok (.aload_n 0, 1) := by decide +kernel
theorem dX9_read_23 : decode cX9_read 23 = .ok (.getfield 10, 3) := by decide +kernel
theorem dX9_read_26 : decode cX9_read 26 = .ok (.invokevirtual 263, 3) := by decide +kernel
theorem dX9_read_29 : decode cX9_read 29 = .ok (.aload_n 0, 1) := by decide +kernel
theorem dX9_read_30 : decode cX9_read 30 = .ok (.getfield 56, 3) := by decide +kernel
theorem dX9_read_33 : decode cX9_read 33 = .ok (.invokevirtual 266, 3) := by decide +kernel
theorem dX9_read_36 : decode cX9_read 36 = .ok (.iconst 0, 1) := by decide +kernel
theorem dX9_read_37 : decode cX9_read 37 = .ok (.istore_n 2, 1) := by decide +kernel
theorem dX9_read_38 : decode cX9_read 38 = .ok (.iload_n 2, 1) := by decide +kernel
theorem dX9_read_39 : decode cX9_read 39 = .ok (.sipush 240, 3) := by decide +kernel
theorem dX9_read_42 : decode cX9_read 42 = .ok (.if_icmp .ge 44, 3) := by decide +kernel
theorem dX9_read_45 : decode cX9_read 45 = .ok (.aload_n 0, 1) := by decide +kernel
theorem dX9_read_46 : decode cX9_read 46 = .ok (.getfield 56, 3) := by decide +kernel
theorem dX9_read_49 : decode cX9_read 49 = .ok (.invokevirtual 269, 3) := by decide +kernel
theorem dX9_read_52 : decode cX9_read 52 = .ok (.iconst 1, 1) := by decide +kernel
theorem dX9_read_53 : decode cX9_read 53 = .ok (.if_icmp .ne 33, 3) := by decide +kernel
theorem dX9_read_56 : decode cX9_read 56 = .ok (.aload_n 0, 1) := by decide +kernel
theorem dX9_read_57 : decode cX9_read 57 = .ok (.invokevirtual 272, 3) := by decide +kernel
theorem dX9_read_60 : decode cX9_read 60 = .ok (.ifCond .ge 20, 3) := by decide +kernel
theorem dX9_read_63 : decode cX9_read 63 = .ok (.aload_n 0, 1) := by decide +kernel
theorem dX9_read_64 : decode cX9_read 64 = .ok (.getfield 10, 3) := by decide +kernel
theorem dX9_read_67 : decode cX9_read 67 = .ok (.aload_n 0, 1) := by decide +kernel
theorem dX9_read_68 : decode cX9_read 68 = .ok (.getfield 16, 3) := by decide +kernel
theorem dX9_read_71 : decode cX9_read 71 = .ok (.invokevirtual 263, 3) := by decide +kernel
theorem dX9_read_74 : decode cX9_read 74 = .ok (.sipush (-1000), 3) := by decide +kernel
theorem dX9_read_77 : decode cX9_read 77 = .ok (.iload_n 2, 1) := by decide +kernel
theorem dX9_read_78 : decode cX9_read 78 = .ok (.isub, 1) := by decide +kernel
theorem dX9_read_79 : decode cX9_read 79 = .ok (.ireturn, 1) := by decide +kernel
theorem dX9_read_80 : decode cX9_read 80 = .ok (.iinc 2 1, 3) := by decide +kernel
theorem dX9_read_83 : decode cX9_read 83 = .ok (.goto (-45), 3) := by decide +kernel
theorem dX9_read_86 : decode cX9_read 86 = .ok (.aload_n 0, 1) := by decide +kernel
theorem dX9_read_87 : decode cX9_read 87 = .ok (.getfield 56, 3) := by decide +kernel
theorem dX9_read_90 : decode cX9_read 90 = .ok (.invokevirtual 257, 3) := by decide +kernel
theorem dX9_read_93 : decode cX9_read 93 = .ok (.iload_n 2, 1) := by decide +kernel
theorem dX9_read_94 : decode cX9_read 94 = .ok (.ireturn, 1) := by decide +kernel
theorem dX9_image_0 : decode cX9_image 0 = .ok (.iload_n 1, 1) := by decide +kernel
theorem dX9_image_1 : decode cX9_image 1 = .ok (.iconst 0, 1) := by decide +kernel
theorem dX9_image_2 : decode cX9_image 2 = .ok (.iconst 1, 1) := by decide +kernel
theorem dX9_image_3 : decode cX9_image 3 = .ok (.invokestatic 67, 3) := by decide +kernel
theorem dX9_image_6 : decode cX9_image 6 = .ok (.ifCond .ne 6, 3) := by decide +kernel
theorem dX9_image_9 : decode cX9_image 9 = .ok (.bipush (-2), 2) := by decide +kernel
theorem dX9_image_11 : decode cX9_image 11 = .ok (.ireturn, 1) := by decide +kernel
theorem dX9_image_12 : decode cX9_image 12 = .ok (.aload_n 0, 1) := by decide +kernel
theorem dX9_image_13 : decode cX9_image 13 = .ok (.iload_n 1, 1) := by decide +kernel
theorem dX9_image_14 : decode cX9_image 14 = .ok (.invokevirtual 275, 3) := by decide +kernel
theorem dX9_image_17 : decode cX9_image 17 = .ok (.aload_n 0, 1) := by decide +kernel
theorem dX9_image_18 : decode cX9_image 18 = .ok (.getfield 10, 3) := by decide +kernel
theorem dX9_image_21 : decode cX9_image 21 = .ok (.invokevirtual 263, 3) := by decide +kernel
theorem dX9_image_24 : decode cX9_image 24 = .ok (.aload_n 0, 1) := by decide +kernel
theorem dX9_image_25 : decode cX9_image 25 = .ok (.aload_n 0, 1) := by decide +kernel
theorem dX9_image_26 : decode cX9_image 26 = .ok (.getfield 279, 3) := by decide +kernel
theorem dX9_image_29 : decode cX9_image 29 = .ok (.ifCond .ne 7, 3) := by decide +kernel
theorem dX9_image_32 : decode cX9_image 32 = .ok (.iload_n 1, 1) := by decide +kernel
theorem dX9_image_33 : decode cX9_image 33 = .ok (.ifCond .ne 7, 3) := by decide +kernel
theorem dX9_image_36 : decode cX9_image 36 = .ok (.iconst 1, 1) := by decide +kernel
theorem dX9_image_37 : decode cX9_image 37 = .ok (.goto 4, 3) := by decide +kernel
theorem dX9_image_40 : decode cX9_image 40 = .ok (.iconst 0, 1) := by decide +kernel
theorem dX9_image_41 : decode cX9_image 41 = .ok (.putfield 279, 3) := by decide +kernel
theorem dX9_image_44 : decode cX9_image 44 = .ok (.aload_n 0, 1) := by decide +kernel
theorem dX9_image_45 : decode cX9_image 45 = .ok (.aload_n 0, 1) := by decide +kernel
theorem dX9_image_46 : decode cX9_image 46 = .ok (.getfield 283, 3) := by decide +kernel
theorem dX9_image_49 : decode cX9_image 49 = .ok (.ifCond .ne 8, 3) := by decide +kernel
theorem dX9_image_52 : decode cX9_image 52 = .ok (.iload_n 1, 1) := by decide +kernel
theorem dX9_image_53 : decode cX9_image 53 = .ok (.iconst 1, 1) := by decide +kernel
theorem dX9_image_54 : decode cX9_image 54 = .ok (.if_icmp .ne 7, 3) := by decide +kernel
theorem dX9_image_57 : decode cX9_image 57 = .ok (.iconst 1, 1) := by decide +kernel
theorem dX9_image_58 : decode cX9_image 58 = .ok (.goto 4, 3) := by decide +kernel
theorem dX9_image_61 : decode cX9_image 61 = .ok (.iconst 0, 1) := by decide +kernel
theorem dX9_image_62 : decode cX9_image 62 = .ok (.putfield 283, 3) := by decide +kernel
theorem dX9_image_65 : decode cX9_image 65 = .ok (.iconst 1, 1) := by decide +kernel
theorem dX9_image_66 : decode cX9_image 66 = .ok (.ireturn, 1) := by decide +kernel
theorem dX9_from_0 : decode cX9_from 0 = .ok (.iload_n 1, 1) := by decide +kernel
theorem dX9_from_1 : decode cX9_from 1 = .ok (.iconst 0, 1) := by decide +kernel
theorem dX9_from_2 : decode cX9_from 2 = .ok (.iconst 1, 1) := by decide +kernel
theorem dX9_from_3 : decode cX9_from 3 = .ok (.invokestatic 67, 3) := by decide +kernel
theorem dX9_from_6 : decode cX9_from 6 = .ok (.ifCond .ne 6, 3) := by decide +kernel
theorem dX9_from_9 : decode cX9_from 9 = .ok (.bipush (-2), 2) := by decide +kernel
theorem dX9_from_11 : decode cX9_from 11 = .ok (.ireturn, 1) := by decide +kernel
theorem dX9_from_12 : decode cX9_from 12 = .ok (.iload_n 1, 1) := by decide +kernel
theorem dX9_from_13 : decode cX9_from 13 = .ok (.ifCond .ne 13, 3) := by decide +kernel
theorem dX9_from_16 : decode cX9_from 16 = .ok (.aload_n 0, 1) := by decide +kernel
theorem dX9_from_17 : decode cX9_from 17 = .ok (.getfield 279, 3) := by decide +kernel
theorem dX9_from_20 : decode cX9_from 20 = .ok (.ifCond .ne 16, 3) := by decide +kernel
theorem dX9_from_23 : decode cX9_from 23 = .ok (.goto 10, 3) := by decide +kernel
theorem dX9_from_26 : decode cX9_from 26 = .ok (.aload_n 0, 1) := by decide +kernel
theorem dX9_from_27 : decode cX9_from 27 = .ok (.getfield 283, 3) := by decide +kernel
theorem dX9_from_30 : decode cX9_from 30 = .ok (.ifCond .ne 6, 3) := by decide +kernel
theorem dX9_from_33 : decode cX9_from 33 = .ok (.bipush (-3), 2) := by decide +kernel
theorem dX9_from_35 : decode cX9_from 35 = .ok (.ireturn, 1) := by decide +kernel
theorem dX9_from_36 : decode cX9_from 36 = .ok (.aload_n 0, 1) := by decide +kernel
theorem dX9_from_37 : decode cX9_from 37 = .ok (.getfield 10, 3) := by decide +kernel
theorem dX9_from_40 : decode cX9_from 40 = .ok (.aload_n 0, 1) := by decide +kernel
theorem dX9_from_41 : decode cX9_from 41 = .ok (.iload_n 1, 1) := by decide +kernel
theorem dX9_from_42 : decode cX9_from 42 = .ok (.invokevirtual 275, 3) := by decide +kernel
theorem dX9_from_45 : decode cX9_from 45 = .ok (.invokevirtual 263, 3) := by decide +kernel
theorem dX9_from_48 : decode cX9_from 48 = .ok (.iconst 1, 1) := by decide +kernel
theorem dX9_from_49 : decode cX9_from 49 = .ok (.ireturn, 1) := by decide +kernel
theorem dX9_count_0 : decode cX9_count 0 = .ok (.iload_n 1, 1) := by decide +kernel
theorem dX9_count_1 : decode cX9_count 1 = .ok (.tableswitch 114 0 6 #[43, 54, 65, 76, 84, 95, 106], 43) := by decide +kernel
theorem dX9_count_44 : decode cX9_count 44 = .ok (.aload_n 0, 1) := by decide +kernel
theorem dX9_count_45 : decode cX9_count 45 = .ok (.getfield 10, 3) := by decide +kernel
theorem dX9_count_48 : decode cX9_count 48 = .ok (.getfield 95, 3) := by decide +kernel
theorem dX9_count_51 : decode cX9_count 51 = .ok (.invokevirtual 286, 3) := by decide +kernel
theorem dX9_count_54 : decode cX9_count 54 = .ok (.ireturn, 1) := by decide +kernel
theorem dX9_count_55 : decode cX9_count 55 = .ok (.aload_n 0, 1) := by decide +kernel
theorem dX9_count_56 : decode cX9_count 56 = .ok (.getfield 10, 3) := by decide +kernel
theorem dX9_count_59 : decode cX9_count 59 = .ok (.getfield 105, 3) := by decide +kernel
theorem dX9_count_62 : decode cX9_count 62 = .ok (.invokevirtual 286, 3) := by decide +kernel
theorem dX9_count_65 : decode cX9_count 65 = .ok (.ireturn, 1) := by decide +kernel
theorem dX9_count_66 : decode cX9_count 66 = .ok (.aload_n 0, 1) := by decide +kernel
theorem dX9_count_67 : decode cX9_count 67 = .ok (.getfield 10, 3) := by decide +kernel
theorem dX9_count_70 : decode cX9_count 70 = .ok (.getfield 128, 3) := by decide +kernel
theorem dX9_count_73 : decode cX9_count 73 = .ok (.invokevirtual 286, 3) := by decide +kernel
theorem dX9_count_76 : decode cX9_count 76 = .ok (.ireturn, 1) := by decide +kernel
theorem dX9_count_77 : decode cX9_count 77 = .ok (.aload_n 0, 1) := by decide +kernel
theorem dX9_count_78 : decode cX9_count 78 = .ok (.getfield 10, 3) := by decide +kernel
theorem dX9_count_81 : decode cX9_count 81 = .ok (.getfield 147, 3) := by decide +kernel
theorem dX9_count_84 : decode cX9_count 84 = .ok (.ireturn, 1) := by decide +kernel
theorem dX9_count_85 : decode cX9_count 85 = .ok (.aload_n 0, 1) := by decide +kernel
theorem dX9_count_86 : decode cX9_count 86 = .ok (.getfield 10, 3) := by decide +kernel
theorem dX9_count_89 : decode cX9_count 89 = .ok (.getfield 158, 3) := by decide +kernel
theorem dX9_count_92 : decode cX9_count 92 = .ok (.invokevirtual 286, 3) := by decide +kernel
theorem dX9_count_95 : decode cX9_count 95 = .ok (.ireturn, 1) := by decide +kernel
theorem dX9_count_96 : decode cX9_count 96 = .ok (.aload_n 0, 1) := by decide +kernel
theorem dX9_count_97 : decode cX9_count 97 = .ok (.getfield 10, 3) := by decide +kernel
theorem dX9_count_100 : decode cX9_count 100 = .ok (.getfield 194, 3) := by decide +kernel
theorem dX9_count_103 : decode cX9_count 103 = .ok (.invokevirtual 286, 3) := by decide +kernel
theorem dX9_count_106 : decode cX9_count 106 = .ok (.ireturn, 1) := by decide +kernel
theorem dX9_count_107 : decode cX9_count 107 = .ok (.aload_n 0, 1) := by decide +kernel
theorem dX9_count_108 : decode cX9_count 108 = .ok (.getfield 56, 3) := by decide +kernel
theorem dX9_count_111 : decode cX9_count 111 = .ok (.invokevirtual 254, 3) := by decide +kernel
theorem dX9_count_114 : decode cX9_count 114 = .ok (.ireturn, 1) := by decide +kernel
theorem dX9_count_115 : decode cX9_count 115 = .ok (.bipush (-2), 2) := by decide +kernel
theorem dX9_count_117 : decode cX9_count 117 = .ok (.ireturn, 1) := by decide +kernel
theorem dX9_digest_0 : decode cX9_digest 0 = .ok (.ldc2_w 287, 3) := by decide +kernel
theorem dX9_digest_3 : decode cX9_digest 3 = .ok (.lstore_n 1, 1) := by decide +kernel
theorem dX9_digest_4 : decode cX9_digest 4 = .ok (.iconst 0, 1) := by decide +kernel
theorem dX9_digest_5 : decode cX9_digest 5 = .ok (.istore_n 3, 1) := by decide +kernel
theorem dX9_digest_6 : decode cX9_digest 6 = .ok (.iload_n 3, 1) := by decide +kernel
theorem dX9_digest_7 : decode cX9_digest 7 = .ok (.bipush 6, 2) := by decide +kernel
theorem dX9_digest_9 : decode cX9_digest 9 = .ok (.if_icmp .gt 22, 3) := by decide +kernel
theorem dX9_digest_12 : decode cX9_digest 12 = .ok (.ldc2_w 289, 3) := by decide +kernel
theorem dX9_digest_15 : decode cX9_digest 15 = .ok (.lload_n 1, 1) := by decide +kernel
theorem dX9_digest_16 : decode cX9_digest 16 = .ok (.lmul, 1) := by decide +kernel
theorem dX9_digest_17 : decode cX9_digest 17 = .ok (.aload_n 0, 1) := by decide +kernel
theorem dX9_digest_18 : decode cX9_digest 18 = .ok (.iload_n 3, 1) := by decide +kernel
theorem dX9_digest_19 : decode cX9_digest 19 = .ok (.invokevirtual 291, 3) := by decide +kernel
theorem dX9_digest_22 : decode cX9_digest 22 = .ok (.i2l, 1) := by decide +kernel
theorem dX9_digest_23 : decode cX9_digest 23 = .ok (.ladd, 1) := by decide +kernel
theorem dX9_digest_24 : decode cX9_digest 24 = .ok (.lstore_n 1, 1) := by decide +kernel
theorem dX9_digest_25 : decode cX9_digest 25 = .ok (.iinc 3 1, 3) := by decide +kernel
theorem dX9_digest_28 : decode cX9_digest 28 = .ok (.goto (-22), 3) := by decide +kernel
theorem dX9_digest_31 : decode cX9_digest 31 = .ok (.aload_n 0, 1) := by decide +kernel
theorem dX9_digest_32 : decode cX9_digest 32 = .ok (.getfield 10, 3) := by decide +kernel
theorem dX9_digest_35 : decode cX9_digest 35 = .ok (.lload_n 1, 1) := by decide +kernel
theorem dX9_digest_36 : decode cX9_digest 36 = .ok (.invokevirtual 294, 3) := by decide +kernel
theorem dX9_digest_39 : decode cX9_digest 39 = .ok (.lreturn, 1) := by decide +kernel
theorem dX9_noteItem_0 : decode cX9_noteItem 0 = .ok (.aload_n 0, 1) := by decide +kernel
theorem dX9_noteItem_1 : decode cX9_noteItem 1 = .ok (.getfield 56, 3) := by decide +kernel
theorem dX9_noteItem_4 : decode cX9_noteItem 4 = .ok (.invokevirtual 298, 3) := by decide +kernel
theorem dX9_noteItem_7 : decode cX9_noteItem 7 = .ok (.istore_n 1, 1) := by decide +kernel
theorem dX9_noteItem_8 : decode cX9_noteItem 8 = .ok (.aload_n 0, 1) := by decide +kernel
theorem dX9_noteItem_9 : decode cX9_noteItem 9 = .ok (.getfield 56, 3) := by decide +kernel
theorem dX9_noteItem_12 : decode cX9_noteItem 12 = .ok (.iconst 0, 1) := by decide +kernel
theorem dX9_noteItem_13 : decode cX9_noteItem 13 = .ok (.invokevirtual 301, 3) := by decide +kernel
theorem dX9_noteItem_16 : decode cX9_noteItem 16 = .ok (.istore_n 2, 1) := by decide +kernel
theorem dX9_noteItem_17 : decode cX9_noteItem 17 = .ok (.aload_n 0, 1) := by decide +kernel
theorem dX9_noteItem_18 : decode cX9_noteItem 18 = .ok (.getfield 56, 3) := by decide +kernel
theorem dX9_noteItem_21 : decode cX9_noteItem 21 = .ok (.iconst 1, 1) := by decide +kernel
theorem dX9_noteItem_22 : decode cX9_noteItem 22 = .ok (.invokevirtual 301, 3) := by decide +kernel
theorem dX9_noteItem_25 : decode cX9_noteItem 25 = .ok (.istore_n 3, 1) := by decide +kernel
theorem dX9_noteItem_26 : decode cX9_noteItem 26 = .ok (.aload_n 0, 1) := by decide +kernel
theorem dX9_noteItem_27 : decode cX9_noteItem 27 = .ok (.getfield 56, 3) := by decide +kernel
theorem dX9_noteItem_30 : decode cX9_noteItem 30 = .ok (.iconst 2, 1) := by decide +kernel
theorem dX9_noteItem_31 : decode cX9_noteItem 31 = .ok (.invokevirtual 301, 3) := by decide +kernel
theorem dX9_noteItem_34 : decode cX9_noteItem 34 = .ok (.istore 4, 2) := by decide +kernel
theorem dX9_noteItem_36 : decode cX9_noteItem 36 = .ok (.iload_n 1, 1) := by decide +kernel
theorem dX9_noteItem_37 : decode cX9_noteItem 37 = .ok (.bipush 9, 2) := by decide +kernel
theorem dX9_noteItem_39 : decode cX9_noteItem 39 = .ok (.if_icmp .lt 16, 3) := by decide +kernel
theorem dX9_noteItem_42 : decode cX9_noteItem 42 = .ok (.aload_n 0, 1) := by decide +kernel
theorem dX9_noteItem_43 : decode cX9_noteItem 43 = .ok (.iload_n 1, 1) := by decide +kernel
theorem dX9_noteItem_44 : decode cX9_noteItem 44 = .ok (.bipush 9, 2) := by decide +kernel
theorem dX9_noteItem_46 : decode cX9_noteItem 46 = .ok (.isub, 1) := by decide +kernel
theorem dX9_noteItem_47 : decode cX9_noteItem 47 = .ok (.iload_n 2, 1) := by decide +kernel
theorem dX9_noteItem_48 : decode cX9_noteItem 48 = .ok (.iload_n 3, 1) := by decide +kernel
theorem dX9_noteItem_49 : decode cX9_noteItem 49 = .ok (.iload 4, 2) := by decide +kernel
theorem dX9_noteItem_51 : decode cX9_noteItem 51 = .ok (.invokevirtual 304, 3) := by decide +kernel
theorem dX9_noteItem_54 : decode cX9_noteItem 54 = .ok (.ireturn, 1) := by decide +kernel
theorem dX9_noteItem_55 : decode cX9_noteItem 55 = .ok (.iload_n 1, 1) := by decide +kernel
theorem dX9_noteItem_56 : decode cX9_noteItem 56 = .ok (.iconst 4, 1) := by decide +kernel
theorem dX9_noteItem_57 : decode cX9_noteItem 57 = .ok (.if_icmp .lt 23, 3) := by decide +kernel
theorem dX9_noteItem_60 : decode cX9_noteItem 60 = .ok (.aload_n 0, 1) := by decide +kernel
theorem dX9_noteItem_61 : decode cX9_noteItem 61 = .ok (.iload_n 2, 1) := by decide +kernel
theorem dX9_noteItem_62 : decode cX9_noteItem 62 = .ok (.iload_n 1, 1) := by decide +kernel
theorem dX9_noteItem_63 : decode cX9_noteItem 63 = .ok (.iconst 4, 1) := by decide +kernel
theorem dX9_noteItem_64 : decode cX9_noteItem 64 = .ok (.isub, 1) := by decide +kernel
theorem dX9_noteItem_65 : decode cX9_noteItem 65 = .ok (.iload_n 3, 1) := by decide +kernel
theorem dX9_noteItem_66 : decode cX9_noteItem 66 = .ok (.iload 4, 2) := by decide +kernel
theorem dX9_noteItem_68 : decode cX9_noteItem 68 = .ok (.aload_n 0, 1) := by decide +kernel
theorem dX9_noteItem_69 : decode cX9_noteItem 69 = .ok (.getfield 56, 3) := by decide +kernel
theorem dX9_noteItem_72 : decode cX9_noteItem 72 = .ok (.iconst 3, 1) := by decide +kernel
theorem dX9_noteItem_73 : decode cX9_noteItem 73 = .ok (.invokevirtual 301, 3) := by decide +kernel
theorem dX9_noteItem_76 : decode cX9_noteItem 76 = .ok (.invokevirtual 308, 3) := by decide +kernel
theorem dX9_noteItem_79 : decode cX9_noteItem 79 = .ok (.ireturn, 1) := by decide +kernel
theorem dX9_noteItem_80 : decode cX9_noteItem 80 = .ok (.iload_n 1, 1) := by decide +kernel
theorem dX9_noteItem_81 : decode cX9_noteItem 81 = .ok (.tableswitch 57 0 3 #[31, 38, 45, 52], 31) := by decide +kernel
theorem dX9_noteItem_112 : decode cX9_noteItem 112 = .ok (.aload_n 0, 1) := by decide +kernel
theorem dX9_noteItem_113 : decode cX9_noteItem 113 = .ok (.iload_n 2, 1) := by decide +kernel
theorem dX9_noteItem_114 : decode cX9_noteItem 114 = .ok (.iload_n 3, 1) := by decide +kernel
theorem dX9_noteItem_115 : decode cX9_noteItem 115 = .ok (.invokevirtual 311, 3) := by decide +kernel
theorem dX9_noteItem_118 : decode cX9_noteItem 118 = .ok (.ireturn, 1) := by decide +kernel
theorem dX9_noteItem_119 : decode cX9_noteItem 119 = .ok (.aload_n 0, 1) := by decide +kernel
theorem dX9_noteItem_120 : decode cX9_noteItem 120 = .ok (.iload_n 2, 1) := by decide +kernel
theorem dX9_noteItem_121 : decode cX9_noteItem 121 = .ok (.iload_n 3, 1) := by decide +kernel
theorem dX9_noteItem_122 : decode cX9_noteItem 122 = .ok (.invokevirtual 314, 3) := by decide +kernel
theorem dX9_noteItem_125 : decode cX9_noteItem 125 = .ok (.ireturn, 1) := by decide +kernel
theorem dX9_noteItem_126 : decode cX9_noteItem 126 = .ok (.aload_n 0, 1) := by decide +kernel
theorem dX9_noteItem_127 : decode cX9_noteItem 127 = .ok (.iload_n 2, 1) := by decide +kernel
theorem dX9_noteItem_128 : decode cX9_noteItem 128 = .ok (.iload_n 3, 1) := by decide +kernel
theorem dX9_noteItem_129 : decode cX9_noteItem 129 = .ok (.invokevirtual 317, 3) := by decide +kernel
theorem dX9_noteItem_132 : decode cX9_noteItem 132 = .ok (.ireturn, 1) := by decide +kernel
theorem dX9_noteItem_133 : decode cX9_noteItem 133 = .ok (.aload_n 0, 1) := by decide +kernel
theorem dX9_noteItem_134 : decode cX9_noteItem 134 = .ok (.invokevirtual 320, 3) := by decide +kernel
theorem dX9_noteItem_137 : decode cX9_noteItem 137 = .ok (.ireturn, 1) := by decide +kernel
theorem dX9_noteItem_138 : decode cX9_noteItem 138 = .ok (.bipush (-2), 2) := by decide +kernel
theorem dX9_noteItem_140 : decode cX9_noteItem 140 = .ok (.ireturn, 1) := by decide +kernel
theorem dX9_imageOf_0 : decode cX9_imageOf 0 = .ok (.iload_n 1, 1) := by decide +kernel
theorem dX9_imageOf_1 : decode cX9_imageOf 1 = .ok (.ifCond .ne 10, 3) := by decide +kernel
theorem dX9_imageOf_4 : decode cX9_imageOf 4 = .ok (.aload_n 0, 1) := by decide +kernel
theorem dX9_imageOf_5 : decode cX9_imageOf 5 = .ok (.getfield 19, 3) := by decide +kernel
theorem dX9_imageOf_8 : decode cX9_imageOf 8 = .ok (.goto 7, 3) := by decide +kernel
theorem dX9_imageOf_11 : decode cX9_imageOf 11 = .ok (.aload_n 0, 1) := by decide +kernel
theorem dX9_imageOf_12 : decode cX9_imageOf 12 = .ok (.getfield 22, 3) := by decide +kernel
theorem dX9_imageOf_15 : decode cX9_imageOf 15 = .ok (.areturn, 1) := by decide +kernel
theorem dX9_isRidge_0 : decode cX9_isRidge 0 = .ok (.iload_n 1, 1) := by decide +kernel
theorem dX9_isRidge_1 : decode cX9_isRidge 1 = .ok (.iconst 0, 1) := by decide +kernel
theorem dX9_isRidge_2 : decode cX9_isRidge 2 = .ok (.aload_n 0, 1) := by decide +kernel
theorem dX9_isRidge_3 : decode cX9_isRidge 3 = .ok (.getfield 10, 3) := by decide +kernel
theorem dX9_isRidge_6 : decode cX9_isRidge 6 = .ok (.getfield 147, 3) := by decide +kernel
theorem dX9_isRidge_9 : decode cX9_isRidge 9 = .ok (.iconst 1, 1) := by decide +kernel
theorem dX9_isRidge_10 : decode cX9_isRidge 10 = .ok (.isub, 1) := by decide +kernel
theorem dX9_isRidge_11 : decode cX9_isRidge 11 = .ok (.invokestatic 67, 3) := by decide +kernel
theorem dX9_isRidge_14 : decode cX9_isRidge 14 = .ok (.ireturn, 1) := by decide +kernel
theorem dX9_mayTell_0 : decode cX9_mayTell 0 = .ok (.iload_n 1, 1) := by decide +kernel
theorem dX9_mayTell_1 : decode cX9_mayTell 1 = .ok (.tableswitch 110 0 4 #[35, 54, 83, 92, 101], 35) := by decide +kernel
theorem dX9_mayTell_36 : decode cX9_mayTell 36 = .ok (.aload_n 0, 1) := by decide +kernel
theorem dX9_mayTell_37 : decode cX9_mayTell 37 = .ok (.iload_n 3, 1) := by decide +kernel
theorem dX9_mayTell_38 : decode cX9_mayTell 38 = .ok (.invokevirtual 151, 3) := by decide +kernel
theorem dX9_mayTell_41 : decode cX9_mayTell 41 = .ok (.ifCond .eq 12, 3) := by decide +kernel
theorem dX9_mayTell_44 : decode cX9_mayTell 44 = .ok (.iload_n 2, 1) := by decide +kernel
theorem dX9_mayTell_45 : decode cX9_mayTell 45 = .ok (.iload_n 3, 1) := by decide +kernel
theorem dX9_mayTell_46 : decode cX9_mayTell 46 = .ok (.if_icmp .eq 7, 3) := by decide +kernel
theorem dX9_mayTell_49 : decode cX9_mayTell 49 = .ok (.iconst 1, 1) := by decide +kernel
theorem dX9_mayTell_50 : decode cX9_mayTell 50 = .ok (.goto 4, 3) := by decide +kernel
theorem dX9_mayTell_53 : decode cX9_mayTell 53 = .ok (.iconst 0, 1) := by decide +kernel
theorem dX9_mayTell_54 : decode cX9_mayTell 54 = .ok (.ireturn, 1) := by decide +kernel
theorem dX9_mayTell_55 : decode cX9_mayTell 55 = .ok (.iload_n 3, 1) := by decide +kernel
theorem dX9_mayTell_56 : decode cX9_mayTell 56 = .ok (.iconst 0, 1) := by decide +kernel
theorem dX9_mayTell_57 : decode cX9_mayTell 57 = .ok (.sipush 999, 3) := by decide +kernel
theorem dX9_mayTell_60 : decode cX9_mayTell 60 = .ok (.invokestatic 67, 3) := by decide +kernel
theorem dX9_mayTell_63 : decode cX9_mayTell 63 = .ok (.ifCond .eq 19, 3) := by decide +kernel
theorem dX9_mayTell_66 : decode cX9_mayTell 66 = .ok (.iload 4, 2) := by decide +kernel
theorem dX9_mayTell_68 : decode cX9_mayTell 68 = .ok (.iload_n 3, 1) := by decide +kernel
theorem dX9_mayTell_69 : decode cX9_mayTell 69 = .ok (.sipush 999, 3) := by decide +kernel
theorem dX9_mayTell_72 : decode cX9_mayTell 72 = .ok (.invokestatic 67, 3) := by decide +kernel
theorem dX9_mayTell_75 : decode cX9_mayTell 75 = .ok (.ifCond .eq 7, 3) := by decide +kernel
theorem dX9_mayTell_78 : decode cX9_mayTell 78 = .ok (.iconst 1, 1) := by decide +kernel
theorem dX9_mayTell_79 : decode cX9_mayTell 79 = .ok (.goto 4, 3) := by decide +kernel
theorem dX9_mayTell_82 : decode cX9_mayTell 82 = .ok (.iconst 0, 1) := by decide +kernel
theorem dX9_mayTell_83 : decode cX9_mayTell 83 = .ok (.ireturn, 1) := by decide +kernel
theorem dX9_mayTell_84 : decode cX9_mayTell 84 = .ok (.iload_n 3, 1) := by decide +kernel
theorem dX9_mayTell_85 : decode cX9_mayTell 85 = .ok (.iconst 1, 1) := by decide +kernel
theorem dX9_mayTell_86 : decode cX9_mayTell 86 = .ok (.sipush 300, 3) := by decide +kernel
theorem dX9_mayTell_89 : decode cX9_mayTell 89 = .ok (.invokestatic 67, 3) := by decide +kernel
theorem dX9_mayTell_92 : decode cX9_mayTell 92 = .ok (.ireturn, 1) := by decide +kernel
theorem dX9_mayTell_93 : decode cX9_mayTell 93 = .ok (.iload_n 3, 1) := by decide +kernel
theorem dX9_mayTell_94 : decode cX9_mayTell 94 = .ok (.iconst 0, 1) := by decide +kernel
theorem dX9_mayTell_95 : decode cX9_mayTell 95 = .ok (.sipush 999, 3) := by decide +kernel
theorem dX9_mayTell_98 : decode cX9_mayTell 98 = .ok (.invokestatic 67, 3) := by decide +kernel
theorem dX9_mayTell_101 : decode cX9_mayTell 101 = .ok (.ireturn, 1) := by decide +kernel
theorem dX9_mayTell_102 : decode cX9_mayTell 102 = .ok (.iload_n 3, 1) := by decide +kernel
theorem dX9_mayTell_103 : decode cX9_mayTell 103 = .ok (.iconst 0, 1) := by decide +kernel
theorem dX9_mayTell_104 : decode cX9_mayTell 104 = .ok (.sipush 999, 3) := by decide +kernel
theorem dX9_mayTell_107 : decode cX9_mayTell 107 = .ok (.invokestatic 67, 3) := by decide +kernel
theorem dX9_mayTell_110 : decode cX9_mayTell 110 = .ok (.ireturn, 1) := by decide +kernel
theorem dX9_mayTell_111 : decode cX9_mayTell 111 = .ok (.iconst 0, 1) := by decide +kernel
theorem dX9_mayTell_112 : decode cX9_mayTell 112 = .ok (.ireturn, 1) := by decide +kernel
theorem dX9_isStage_0 : decode cX9_isStage 0 = .ok (.iload_n 0, 1) := by decide +kernel
theorem dX9_isStage_1 : decode cX9_isStage 1 = .ok (.iconst 0, 1) := by decide +kernel
theorem dX9_isStage_2 : decode cX9_isStage 2 = .ok (.iconst 2, 1) := by decide +kernel
theorem dX9_isStage_3 : decode cX9_isStage 3 = .ok (.invokestatic 67, 3) := by decide +kernel
theorem dX9_isStage_6 : decode cX9_isStage 6 = .ok (.ireturn, 1) := by decide +kernel
theorem dX9_isPlace_0 : decode cX9_isPlace 0 = .ok (.iload_n 0, 1) := by decide +kernel
theorem dX9_isPlace_1 : decode cX9_isPlace 1 = .ok (.iconst 0, 1) := by decide +kernel
theorem dX9_isPlace_2 : decode cX9_isPlace 2 = .ok (.bipush 63, 2) := by decide +kernel
theorem dX9_isPlace_4 : decode cX9_isPlace 4 = .ok (.invokestatic 67, 3) := by decide +kernel
theorem dX9_isPlace_7 : decode cX9_isPlace 7 = .ok (.ireturn, 1) := by decide +kernel
theorem dX9_isPlaceAndSort_0 : decode cX9_isPlaceAndSort 0 = .ok (.iload_n 0, 1) := by decide +kernel
theorem dX9_isPlaceAndSort_1 : decode cX9_isPlaceAndSort 1 = .ok (.invokestatic 64, 3) := by decide +kernel
theorem dX9_isPlaceAndSort_4 : decode cX9_isPlaceAndSort 4 = .ok (.ifCond .eq 16, 3) := by decide +kernel
theorem dX9_isPlaceAndSort_7 : decode cX9_isPlaceAndSort 7 = .ok (.iload_n 1, 1) := by decide +kernel
theorem dX9_isPlaceAndSort_8 : decode cX9_isPlaceAndSort 8 = .ok (.iconst 0, 1) := by decide +kernel
theorem dX9_isPlaceAndSort_9 : decode cX9_isPlaceAndSort 9 = .ok (.iconst 5, 1) := by decide +kernel
theorem dX9_isPlaceAndSort_10 : decode cX9_isPlaceAndSort 10 = .ok (.invokestatic 67, 3) := by decide +kernel
theorem dX9_isPlaceAndSort_13 : decode cX9_isPlaceAndSort 13 = .ok (.ifCond .eq 7, 3) := by decide +kernel
theorem dX9_isPlaceAndSort_16 : decode cX9_isPlaceAndSort 16 = .ok (.iconst 1, 1) := by decide +kernel
theorem dX9_isPlaceAndSort_17 : decode cX9_isPlaceAndSort 17 = .ok (.goto 4, 3) := by decide +kernel
theorem dX9_isPlaceAndSort_20 : decode cX9_isPlaceAndSort 20 = .ok (.iconst 0, 1) := by decide +kernel
theorem dX9_isPlaceAndSort_21 : decode cX9_isPlaceAndSort 21 = .ok (.ireturn, 1) := by decide +kernel
theorem dX9_isLevel_0 : decode cX9_isLevel 0 = .ok (.iload_n 0, 1) := by decide +kernel
theorem dX9_isLevel_1 : decode cX9_isLevel 1 = .ok (.iconst 0, 1) := by decide +kernel
theorem dX9_isLevel_2 : decode cX9_isLevel 2 = .ok (.bipush 19, 2) := by decide +kernel
theorem dX9_isLevel_4 : decode cX9_isLevel 4 = .ok (.invokestatic 67, 3) := by decide +kernel
theorem dX9_isLevel_7 : decode cX9_isLevel 7 = .ok (.ireturn, 1) := by decide +kernel
theorem dX9_isHeightAndSill_0 : decode cX9_isHeightAndSill 0 = .ok (.iload_n 0, 1) := by decide +kernel
theorem dX9_isHeightAndSill_1 : decode cX9_isHeightAndSill 1 = .ok (.iconst 0, 1) := by decide +kernel
theorem dX9_isHeightAndSill_2 : decode cX9_isHeightAndSill 2 = .ok (.bipush 20, 2) := by decide +kernel
theorem dX9_isHeightAndSill_4 : decode cX9_isHeightAndSill 4 = .ok (.invokestatic 67, 3) := by decide +kernel
theorem dX9_isHeightAndSill_7 : decode cX9_isHeightAndSill 7 = .ok (.ifCond .eq 18, 3) := by decide +kernel
theorem dX9_isHeightAndSill_10 : decode cX9_isHeightAndSill 10 = .ok (.iload_n 1, 1) := by decide +kernel
theorem dX9_isHeightAndSill_11 : decode cX9_isHeightAndSill 11 = .ok (.iconst 0, 1) := by decide +kernel
theorem dX9_isHeightAndSill_12 : decode cX9_isHeightAndSill 12 = .ok (.iload_n 0, 1) := by decide +kernel
theorem dX9_isHeightAndSill_13 : decode cX9_isHeightAndSill 13 = .ok (.iconst 1, 1) := by decide +kernel
theorem dX9_isHeightAndSill_14 : decode cX9_isHeightAndSill 14 = .ok (.isub, 1) := by decide +kernel
theorem dX9_isHeightAndSill_15 : decode cX9_isHeightAndSill 15 = .ok (.invokestatic 67, 3) := by decide +kernel
theorem dX9_isHeightAndSill_18 : decode cX9_isHeightAndSill 18 = .ok (.ifCond .eq 7, 3) := by decide +kernel
theorem dX9_isHeightAndSill_21 : decode cX9_isHeightAndSill 21 = .ok (.iconst 1, 1) := by decide +kernel
theorem dX9_isHeightAndSill_22 : decode cX9_isHeightAndSill 22 = .ok (.goto 4, 3) := by decide +kernel
theorem dX9_isHeightAndSill_25 : decode cX9_isHeightAndSill 25 = .ok (.iconst 0, 1) := by decide +kernel
theorem dX9_isHeightAndSill_26 : decode cX9_isHeightAndSill 26 = .ok (.ireturn, 1) := by decide +kernel
theorem dX9_isZone_0 : decode cX9_isZone 0 = .ok (.iload_n 0, 1) := by decide +kernel
theorem dX9_isZone_1 : decode cX9_isZone 1 = .ok (.iconst 0, 1) := by decide +kernel
theorem dX9_isZone_2 : decode cX9_isZone 2 = .ok (.bipush 20, 2) := by decide +kernel
theorem dX9_isZone_4 : decode cX9_isZone 4 = .ok (.invokestatic 67, 3) := by decide +kernel
theorem dX9_isZone_7 : decode cX9_isZone 7 = .ok (.ireturn, 1) := by decide +kernel
theorem dX9_isWarmth_0 : decode cX9_isWarmth 0 = .ok (.iload_n 0, 1) := by decide +kernel
theorem dX9_isWarmth_1 : decode cX9_isWarmth 1 = .ok (.iconst 0, 1) := by decide +kernel
theorem dX9_isWarmth_2 : decode cX9_isWarmth 2 = .ok (.bipush 60, 2) := by decide +kernel
theorem dX9_isWarmth_4 : decode cX9_isWarmth 4 = .ok (.invokestatic 67, 3) := by decide +kernel
theorem dX9_isWarmth_7 : decode cX9_isWarmth 7 = .ok (.ireturn, 1) := by decide +kernel
theorem dX9_within_0 : decode cX9_within 0 = .ok (.iload_n 0, 1) := by decide +kernel
theorem dX9_within_1 : decode cX9_within 1 = .ok (.iload_n 1, 1) := by decide +kernel
theorem dX9_within_2 : decode cX9_within 2 = .ok (.if_icmp .lt 12, 3) := by decide +kernel
theorem dX9_within_5 : decode cX9_within 5 = .ok (.iload_n 0, 1) := by decide +kernel
theorem dX9_within_6 : decode cX9_within 6 = .ok (.iload_n 2, 1) := by decide +kernel
theorem dX9_within_7 : decode cX9_within 7 = .ok (.if_icmp .gt 7, 3) := by decide +kernel
theorem dX9_within_10 : decode cX9_within 10 = .ok (.iconst 1, 1) := by decide +kernel
theorem dX9_within_11 : decode cX9_within 11 = .ok (.goto 4, 3) := by decide +kernel
theorem dX9_within_14 : decode cX9_within 14 = .ok (.iconst 0, 1) := by decide +kernel
theorem dX9_within_15 : decode cX9_within 15 = .ok (.ireturn, 1) := by decide +kernel
theorem dX9_exchange_0 : decode cX9_exchange 0 = .ok (.iload_n 1, 1) := by decide +kernel
theorem dX9_exchange_1 : decode cX9_exchange 1 = .ok (.ifCond .lt 9, 3) := by decide +kernel
theorem dX9_exchange_4 : decode cX9_exchange 4 = .ok (.iload_n 1, 1) := by decide +kernel
theorem dX9_exchange_5 : decode cX9_exchange 5 = .ok (.aload_n 0, 1) := by decide +kernel
theorem dX9_exchange_6 : decode cX9_exchange 6 = .ok (.arraylength, 1) := by decide +kernel
theorem dX9_exchange_7 : decode cX9_exchange 7 = .ok (.if_icmp .lt 6, 3) := by decide +kernel
theorem dX9_exchange_10 : decode cX9_exchange 10 = .ok (.bipush (-2), 2) := by decide +kernel
theorem dX9_exchange_12 : decode cX9_exchange 12 = .ok (.ireturn, 1) := by decide +kernel
theorem dX9_exchange_13 : decode cX9_exchange 13 = .ok (.aload_n 0, 1) := by decide +kernel
theorem dX9_exchange_14 : decode cX9_exchange 14 = .ok (.iload_n 1, 1) := by decide +kernel
theorem dX9_exchange_15 : decode cX9_exchange 15 = .ok (.iaload, 1) := by decide +kernel
theorem dX9_exchange_16 : decode cX9_exchange 16 = .ok (.istore_n 3, 1) := by decide +kernel
theorem dX9_exchange_17 : decode cX9_exchange 17 = .ok (.aload_n 0, 1) := by decide +kernel
theorem dX9_exchange_18 : decode cX9_exchange 18 = .ok (.iload_n 1, 1) := by decide +kernel
theorem dX9_exchange_19 : decode cX9_exchange 19 = .ok (.iload_n 2, 1) := by decide +kernel
theorem dX9_exchange_20 : decode cX9_exchange 20 = .ok (.iastore, 1) := by decide +kernel
theorem dX9_exchange_21 : decode cX9_exchange 21 = .ok (.iload_n 3, 1) := by decide +kernel
theorem dX9_exchange_22 : decode cX9_exchange 22 = .ok (.ireturn, 1) := by decide +kernel
theorem dJ6_numberOfTrailingZeros_0f7a4_0 : decode cJ6_numberOfTrailingZeros_0f7a4 0 = .ok (.iload_n 0, 1) := by decide +kernel
theorem dJ6_numberOfTrailingZeros_0f7a4_1 : decode cJ6_numberOfTrailingZeros_0f7a4 1 = .ok (.iconst (-1), 1) := by decide +kernel
theorem dJ6_numberOfTrailingZeros_0f7a4_2 : decode cJ6_numberOfTrailingZeros_0f7a4 2 = .ok (.ixor, 1) := by decide +kernel
theorem dJ6_numberOfTrailingZeros_0f7a4_3 : decode cJ6_numberOfTrailingZeros_0f7a4 3 = .ok (.iload_n 0, 1) := by decide +kernel
theorem dJ6_numberOfTrailingZeros_0f7a4_4 : decode cJ6_numberOfTrailingZeros_0f7a4 4 = .ok (.iconst 1, 1) := by decide +kernel
theorem dJ6_numberOfTrailingZeros_0f7a4_5 : decode cJ6_numberOfTrailingZeros_0f7a4 5 = .ok (.isub, 1) := by decide +kernel
theorem dJ6_numberOfTrailingZeros_0f7a4_6 : decode cJ6_numberOfTrailingZeros_0f7a4 6 = .ok (.iand, 1) := by decide +kernel
theorem dJ6_numberOfTrailingZeros_0f7a4_7 : decode cJ6_numberOfTrailingZeros_0f7a4 7 = .ok (.istore_n 0, 1) := by decide +kernel
theorem dJ6_numberOfTrailingZeros_0f7a4_8 : decode cJ6_numberOfTrailingZeros_0f7a4 8 = .ok (.iload_n 0, 1) := by decide +kernel
theorem dJ6_numberOfTrailingZeros_0f7a4_9 : decode cJ6_numberOfTrailingZeros_0f7a4 9 = .ok (.ifCond .gt 8, 3) := by decide +kernel
theorem dJ6_numberOfTrailingZeros_0f7a4_12 : decode cJ6_numberOfTrailingZeros_0f7a4 12 = .ok (.iload_n 0, 1) := by decide +kernel
theorem dJ6_numberOfTrailingZeros_0f7a4_13 : decode cJ6_numberOfTrailingZeros_0f7a4 13 = .ok (.bipush 32, 2) := by decide +kernel
theorem dJ6_numberOfTrailingZeros_0f7a4_15 : decode cJ6_numberOfTrailingZeros_0f7a4 15 = .ok (.iand, 1) := by decide +kernel
theorem dJ6_numberOfTrailingZeros_0f7a4_16 : decode cJ6_numberOfTrailingZeros_0f7a4 16 = .ok (.ireturn, 1) := by decide +kernel
theorem dJ6_numberOfTrailingZeros_0f7a4_17 : decode cJ6_numberOfTrailingZeros_0f7a4 17 = .ok (.iconst 1, 1) := by decide +kernel
theorem dJ6_numberOfTrailingZeros_0f7a4_18 : decode cJ6_numberOfTrailingZeros_0f7a4 18 = .ok (.istore_n 1, 1) := by decide +kernel
theorem dJ6_numberOfTrailingZeros_0f7a4_19 : decode cJ6_numberOfTrailingZeros_0f7a4 19 = .ok (.iload_n 0, 1) := by decide +kernel
theorem dJ6_numberOfTrailingZeros_0f7a4_20 : decode cJ6_numberOfTrailingZeros_0f7a4 20 = .ok (.ldc_w 264, 3) := by decide +kernel
theorem dJ6_numberOfTrailingZeros_0f7a4_23 : decode cJ6_numberOfTrailingZeros_0f7a4 23 = .ok (.if_icmp .le 11, 3) := by decide +kernel
theorem dJ6_numberOfTrailingZeros_0f7a4_26 : decode cJ6_numberOfTrailingZeros_0f7a4 26 = .ok (.iinc 1 16, 3) := by decide +kernel
theorem dJ6_numberOfTrailingZeros_0f7a4_29 : decode cJ6_numberOfTrailingZeros_0f7a4 29 = .ok (.iload_n 0, 1) := by decide +kernel
theorem dJ6_numberOfTrailingZeros_0f7a4_30 : decode cJ6_numberOfTrailingZeros_0f7a4 30 = .ok (.bipush 16, 2) := by decide +kernel
theorem dJ6_numberOfTrailingZeros_0f7a4_32 : decode cJ6_numberOfTrailingZeros_0f7a4 32 = .ok (.iushr, 1) := by decide +kernel
theorem dJ6_numberOfTrailingZeros_0f7a4_33 : decode cJ6_numberOfTrailingZeros_0f7a4 33 = .ok (.istore_n 0, 1) := by decide +kernel
theorem dJ6_numberOfTrailingZeros_0f7a4_34 : decode cJ6_numberOfTrailingZeros_0f7a4 34 = .ok (.iload_n 0, 1) := by decide +kernel
theorem dJ6_numberOfTrailingZeros_0f7a4_35 : decode cJ6_numberOfTrailingZeros_0f7a4 35 = .ok (.sipush 256, 3) := by decide +kernel
theorem dJ6_numberOfTrailingZeros_0f7a4_38 : decode cJ6_numberOfTrailingZeros_0f7a4 38 = .ok (.if_icmp .le 11, 3) := by decide +kernel
theorem dJ6_numberOfTrailingZeros_0f7a4_41 : decode cJ6_numberOfTrailingZeros_0f7a4 41 = .ok (.iinc 1 8, 3) := by decide +kernel
theorem dJ6_numberOfTrailingZeros_0f7a4_44 : decode cJ6_numberOfTrailingZeros_0f7a4 44 = .ok (.iload_n 0, 1) := by decide +kernel
theorem dJ6_numberOfTrailingZeros_0f7a4_45 : decode cJ6_numberOfTrailingZeros_0f7a4 45 = .ok (.bipush 8, 2) := by decide +kernel
theorem dJ6_numberOfTrailingZeros_0f7a4_47 : decode cJ6_numberOfTrailingZeros_0f7a4 47 = .ok (.iushr, 1) := by decide +kernel
theorem dJ6_numberOfTrailingZeros_0f7a4_48 : decode cJ6_numberOfTrailingZeros_0f7a4 48 = .ok (.istore_n 0, 1) := by decide +kernel
theorem dJ6_numberOfTrailingZeros_0f7a4_49 : decode cJ6_numberOfTrailingZeros_0f7a4 49 = .ok (.iload_n 0, 1) := by decide +kernel
theorem dJ6_numberOfTrailingZeros_0f7a4_50 : decode cJ6_numberOfTrailingZeros_0f7a4 50 = .ok (.bipush 16, 2) := by decide +kernel
theorem dJ6_numberOfTrailingZeros_0f7a4_52 : decode cJ6_numberOfTrailingZeros_0f7a4 52 = .ok (.if_icmp .le 10, 3) := by decide +kernel
theorem dJ6_numberOfTrailingZeros_0f7a4_55 : decode cJ6_numberOfTrailingZeros_0f7a4 55 = .ok (.iinc 1 4, 3) := by decide +kernel
theorem dJ6_numberOfTrailingZeros_0f7a4_58 : decode cJ6_numberOfTrailingZeros_0f7a4 58 = .ok (.iload_n 0, 1) := by decide +kernel
theorem dJ6_numberOfTrailingZeros_0f7a4_59 : decode cJ6_numberOfTrailingZeros_0f7a4 59 = .ok (.iconst 4, 1) := by decide +kernel
theorem dJ6_numberOfTrailingZeros_0f7a4_60 : decode cJ6_numberOfTrailingZeros_0f7a4 60 = .ok (.iushr, 1) := by decide +kernel
theorem dJ6_numberOfTrailingZeros_0f7a4_61 : decode cJ6_numberOfTrailingZeros_0f7a4 61 = .ok (.istore_n 0, 1) := by decide +kernel
theorem dJ6_numberOfTrailingZeros_0f7a4_62 : decode cJ6_numberOfTrailingZeros_0f7a4 62 = .ok (.iload_n 0, 1) := by decide +kernel
theorem dJ6_numberOfTrailingZeros_0f7a4_63 : decode cJ6_numberOfTrailingZeros_0f7a4 63 = .ok (.iconst 4, 1) := by decide +kernel
theorem dJ6_numberOfTrailingZeros_0f7a4_64 : decode cJ6_numberOfTrailingZeros_0f7a4 64 = .ok (.if_icmp .le 10, 3) := by decide +kernel
theorem dJ6_numberOfTrailingZeros_0f7a4_67 : decode cJ6_numberOfTrailingZeros_0f7a4 67 = .ok (.iinc 1 2, 3) := by decide +kernel
theorem dJ6_numberOfTrailingZeros_0f7a4_70 : decode cJ6_numberOfTrailingZeros_0f7a4 70 = .ok (.iload_n 0, 1) := by decide +kernel
theorem dJ6_numberOfTrailingZeros_0f7a4_71 : decode cJ6_numberOfTrailingZeros_0f7a4 71 = .ok (.iconst 2, 1) := by decide +kernel
theorem dJ6_numberOfTrailingZeros_0f7a4_72 : decode cJ6_numberOfTrailingZeros_0f7a4 72 = .ok (.iushr, 1) := by decide +kernel
theorem dJ6_numberOfTrailingZeros_0f7a4_73 : decode cJ6_numberOfTrailingZeros_0f7a4 73 = .ok (.istore_n 0, 1) := by decide +kernel
theorem dJ6_numberOfTrailingZeros_0f7a4_74 : decode cJ6_numberOfTrailingZeros_0f7a4 74 = .ok (.iload_n 1, 1) := by decide +kernel
theorem dJ6_numberOfTrailingZeros_0f7a4_75 : decode cJ6_numberOfTrailingZeros_0f7a4 75 = .ok (.iload_n 0, 1) := by decide +kernel
theorem dJ6_numberOfTrailingZeros_0f7a4_76 : decode cJ6_numberOfTrailingZeros_0f7a4 76 = .ok (.iconst 1, 1) := by decide +kernel
theorem dJ6_numberOfTrailingZeros_0f7a4_77 : decode cJ6_numberOfTrailingZeros_0f7a4 77 = .ok (.iushr, 1) := by decide +kernel
theorem dJ6_numberOfTrailingZeros_0f7a4_78 : decode cJ6_numberOfTrailingZeros_0f7a4 78 = .ok (.iadd, 1) := by decide +kernel
theorem dJ6_numberOfTrailingZeros_0f7a4_79 : decode cJ6_numberOfTrailingZeros_0f7a4 79 = .ok (.ireturn, 1) := by decide +kernel
theorem dJ9_floorMod_7cf53_0 : decode cJ9_floorMod_7cf53 0 = .ok (.iload_n 0, 1) := by decide +kernel
theorem dJ9_floorMod_7cf53_1 : decode cJ9_floorMod_7cf53 1 = .ok (.iload_n 1, 1) := by decide +kernel
theorem dJ9_floorMod_7cf53_2 : decode cJ9_floorMod_7cf53 2 = .ok (.irem, 1) := by decide +kernel
theorem dJ9_floorMod_7cf53_3 : decode cJ9_floorMod_7cf53 3 = .ok (.istore_n 2, 1) := by decide +kernel
theorem dJ9_floorMod_7cf53_4 : decode cJ9_floorMod_7cf53 4 = .ok (.iload_n 0, 1) := by decide +kernel
theorem dJ9_floorMod_7cf53_5 : decode cJ9_floorMod_7cf53 5 = .ok (.iload_n 1, 1) := by decide +kernel
theorem dJ9_floorMod_7cf53_6 : decode cJ9_floorMod_7cf53 6 = .ok (.ixor, 1) := by decide +kernel
theorem dJ9_floorMod_7cf53_7 : decode cJ9_floorMod_7cf53 7 = .ok (.ifCond .ge 11, 3) := by decide +kernel
theorem dJ9_floorMod_7cf53_10 : decode cJ9_floorMod_7cf53 10 = .ok (.iload_n 2, 1) := by decide +kernel
theorem dJ9_floorMod_7cf53_11 : decode cJ9_floorMod_7cf53 11 = .ok (.ifCond .eq 7, 3) := by decide +kernel
theorem dJ9_floorMod_7cf53_14 : decode cJ9_floorMod_7cf53 14 = .ok (.iload_n 2, 1) := by decide +kernel
theorem dJ9_floorMod_7cf53_15 : decode cJ9_floorMod_7cf53 15 = .ok (.iload_n 1, 1) := by decide +kernel
theorem dJ9_floorMod_7cf53_16 : decode cJ9_floorMod_7cf53 16 = .ok (.iadd, 1) := by decide +kernel
theorem dJ9_floorMod_7cf53_17 : decode cJ9_floorMod_7cf53 17 = .ok (.ireturn, 1) := by decide +kernel
theorem dJ9_floorMod_7cf53_18 : decode cJ9_floorMod_7cf53 18 = .ok (.iload_n 2, 1) := by decide +kernel
theorem dJ9_floorMod_7cf53_19 : decode cJ9_floorMod_7cf53 19 = .ok (.ireturn, 1) := by decide +kernel
theorem dJ9_abs_0f7a4_0 : decode cJ9_abs_0f7a4 0 = .ok (.iload_n 0, 1) := by decide +kernel
theorem dJ9_abs_0f7a4_1 : decode cJ9_abs_0f7a4 1 = .ok (.ifCond .ge 8, 3) := by decide +kernel
theorem dJ9_abs_0f7a4_4 : decode cJ9_abs_0f7a4 4 = .ok (.iload_n 0, 1) := by decide +kernel
theorem dJ9_abs_0f7a4_5 : decode cJ9_abs_0f7a4 5 = .ok (.ineg, 1) := by decide +kernel
theorem dJ9_abs_0f7a4_6 : decode cJ9_abs_0f7a4 6 = .ok (.goto 4, 3) := by decide +kernel
theorem dJ9_abs_0f7a4_9 : decode cJ9_abs_0f7a4 9 = .ok (.iload_n 0, 1) := by decide +kernel
theorem dJ9_abs_0f7a4_10 : decode cJ9_abs_0f7a4 10 = .ok (.ireturn, 1) := by decide +kernel
theorem dJ9_max_7cf53_0 : decode cJ9_max_7cf53 0 = .ok (.iload_n 0, 1) := by decide +kernel
theorem dJ9_max_7cf53_1 : decode cJ9_max_7cf53 1 = .ok (.iload_n 1, 1) := by decide +kernel
theorem dJ9_max_7cf53_2 : decode cJ9_max_7cf53 2 = .ok (.if_icmp .lt 7, 3) := by decide +kernel
theorem dJ9_max_7cf53_5 : decode cJ9_max_7cf53 5 = .ok (.iload_n 0, 1) := by decide +kernel
theorem dJ9_max_7cf53_6 : decode cJ9_max_7cf53 6 = .ok (.goto 4, 3) := by decide +kernel
theorem dJ9_max_7cf53_9 : decode cJ9_max_7cf53 9 = .ok (.iload_n 1, 1) := by decide +kernel
theorem dJ9_max_7cf53_10 : decode cJ9_max_7cf53 10 = .ok (.ireturn, 1) := by decide +kernel
theorem dJ9_min_7cf53_0 : decode cJ9_min_7cf53 0 = .ok (.iload_n 0, 1) := by decide +kernel
theorem dJ9_min_7cf53_1 : decode cJ9_min_7cf53 1 = .ok (.iload_n 1, 1) := by decide +kernel
theorem dJ9_min_7cf53_2 : decode cJ9_min_7cf53 2 = .ok (.if_icmp .gt 7, 3) := by decide +kernel
theorem dJ9_min_7cf53_5 : decode cJ9_min_7cf53 5 = .ok (.iload_n 0, 1) := by decide +kernel
theorem dJ9_min_7cf53_6 : decode cJ9_min_7cf53 6 = .ok (.goto 4, 3) := by decide +kernel
theorem dJ9_min_7cf53_9 : decode cJ9_min_7cf53 9 = .ok (.iload_n 1, 1) := by decide +kernel
theorem dJ9_min_7cf53_10 : decode cJ9_min_7cf53 10 = .ok (.ireturn, 1) := by decide +kernel
theorem dJ0_charAt_5068e_0 : decode cJ0_charAt_5068e 0 = .ok (.aload_n 0, 1) := by decide +kernel
theorem dJ0_charAt_5068e_1 : decode cJ0_charAt_5068e 1 = .ok (.invokevirtual 492, 3) := by decide +kernel
theorem dJ0_charAt_5068e_4 : decode cJ0_charAt_5068e 4 = .ok (.ifCond .eq 12, 3) := by decide +kernel
theorem dJ0_charAt_5068e_7 : decode cJ0_charAt_5068e 7 = .ok (.aload_n 0, 1) := by decide +kernel
theorem dJ0_charAt_5068e_8 : decode cJ0_charAt_5068e 8 = .ok (.getfield 9, 3) := by decide +kernel
theorem dJ0_charAt_5068e_11 : decode cJ0_charAt_5068e 11 = .ok (.iload_n 1, 1) := by decide +kernel
theorem dJ0_charAt_5068e_12 : decode cJ0_charAt_5068e 12 = .ok (.invokestatic 495, 3) := by decide +kernel
theorem dJ0_charAt_5068e_15 : decode cJ0_charAt_5068e 15 = .ok (.ireturn, 1) := by decide +kernel
theorem dJ0_charAt_5068e_16 : decode cJ0_charAt_5068e 16 = .ok (.aload_n 0, 1) := by decide +kernel
theorem dJ0_charAt_5068e_17 : decode cJ0_charAt_5068e 17 = .ok (.getfield 9, 3) := by decide +kernel
theorem dJ0_charAt_5068e_20 : decode cJ0_charAt_5068e 20 = .ok (.iload_n 1, 1) := by decide +kernel
theorem dJ0_charAt_5068e_21 : decode cJ0_charAt_5068e 21 = .ok (.invokestatic 498, 3) := by decide +kernel
theorem dJ0_charAt_5068e_24 : decode cJ0_charAt_5068e 24 = .ok (.ireturn, 1) := by decide +kernel
theorem dJ0_isLatin1_aae02_0 : decode cJ0_isLatin1_aae02 0 = .ok (.getstatic 38, 3) := by decide +kernel
theorem dJ0_isLatin1_aae02_3 : decode cJ0_isLatin1_aae02 3 = .ok (.ifCond .eq 14, 3) := by decide +kernel
theorem dJ0_isLatin1_aae02_6 : decode cJ0_isLatin1_aae02 6 = .ok (.aload_n 0, 1) := by decide +kernel
theorem dJ0_isLatin1_aae02_7 : decode cJ0_isLatin1_aae02 7 = .ok (.getfield 15, 3) := by decide +kernel
theorem dJ0_isLatin1_aae02_10 : decode cJ0_isLatin1_aae02 10 = .ok (.ifCond .ne 7, 3) := by decide +kernel
theorem dJ0_isLatin1_aae02_13 : decode cJ0_isLatin1_aae02 13 = .ok (.iconst 1, 1) := by decide +kernel
theorem dJ0_isLatin1_aae02_14 : decode cJ0_isLatin1_aae02 14 = .ok (.goto 4, 3) := by decide +kernel
theorem dJ0_isLatin1_aae02_17 : decode cJ0_isLatin1_aae02 17 = .ok (.iconst 0, 1) := by decide +kernel
theorem dJ0_isLatin1_aae02_18 : decode cJ0_isLatin1_aae02 18 = .ok (.ireturn, 1) := by decide +kernel
theorem dJ0_checkIndex_df160_0 : decode cJ0_checkIndex_df160 0 = .ok (.iload_n 0, 1) := by decide +kernel
theorem dJ0_checkIndex_df160_1 : decode cJ0_checkIndex_df160 1 = .ok (.iload_n 1, 1) := by decide +kernel
theorem dJ0_checkIndex_df160_2 : decode cJ0_checkIndex_df160 2 = .ok (.getstatic 1053, 3) := by decide +kernel
theorem dJ0_checkIndex_df160_5 : decode cJ0_checkIndex_df160 5 = .ok (.invokestatic 1059, 3) := by decide +kernel
theorem dJ0_checkIndex_df160_8 : decode cJ0_checkIndex_df160 8 = .ok (.pop, 1) := by decide +kernel
theorem dJ0_checkIndex_df160_9 : decode cJ0_checkIndex_df160 9 = .ok (.return_, 1) := by decide +kernel
theorem dJ1_charAt_3b067_0 : decode cJ1_charAt_3b067 0 = .ok (.iload_n 1, 1) := by decide +kernel
theorem dJ1_charAt_3b067_1 : decode cJ1_charAt_3b067 1 = .ok (.aload_n 0, 1) := by decide +kernel
theorem dJ1_charAt_3b067_2 : decode cJ1_charAt_3b067 2 = .ok (.arraylength, 1) := by decide +kernel
theorem dJ1_charAt_3b067_3 : decode cJ1_charAt_3b067 3 = .ok (.invokestatic 9, 3) := by decide +kernel
theorem dJ1_charAt_3b067_6 : decode cJ1_charAt_3b067 6 = .ok (.aload_n 0, 1) := by decide +kernel
theorem dJ1_charAt_3b067_7 : decode cJ1_charAt_3b067 7 = .ok (.iload_n 1, 1) := by decide +kernel
theorem dJ1_charAt_3b067_8 : decode cJ1_charAt_3b067 8 = .ok (.baload, 1) := by decide +kernel
theorem dJ1_charAt_3b067_9 : decode cJ1_charAt_3b067 9 = .ok (.sipush 255, 3) := by decide +kernel
theorem dJ1_charAt_3b067_12 : decode cJ1_charAt_3b067 12 = .ok (.iand, 1) := by decide +kernel
theorem dJ1_charAt_3b067_13 : decode cJ1_charAt_3b067 13 = .ok (.i2c, 1) := by decide +kernel
theorem dJ1_charAt_3b067_14 : decode cJ1_charAt_3b067 14 = .ok (.ireturn, 1) := by decide +kernel
theorem dJ2_getChar_3b067_0 : decode cJ2_getChar_3b067 0 = .ok (.getstatic 44, 3) := by decide +kernel
theorem dJ2_getChar_3b067_3 : decode cJ2_getChar_3b067 3 = .ok (.ifCond .ne 25, 3) := by decide +kernel
theorem dJ2_getChar_3b067_6 : decode cJ2_getChar_3b067 6 = .ok (.iload_n 1, 1) := by decide +kernel
theorem dJ2_getChar_3b067_7 : decode cJ2_getChar_3b067 7 = .ok (.ifCond .lt 11, 3) := by decide +kernel
theorem dJ2_getChar_3b067_10 : decode cJ2_getChar_3b067 10 = .ok (.iload_n 1, 1) := by decide +kernel
theorem dJ2_getChar_3b067_11 : decode cJ2_getChar_3b067 11 = .ok (.aload_n 0, 1) := by decide +kernel
theorem dJ2_getChar_3b067_12 : decode cJ2_getChar_3b067 12 = .ok (.invokestatic 48, 3) := by decide +kernel
theorem dJ2_getChar_3b067_15 : decode cJ2_getChar_3b067 15 = .ok (.if_icmp .lt 13, 3) := by decide +kernel
theorem dJ2_getChar_3b067_18 : decode cJ2_getChar_3b067 18 = .ok (.new 52, 3) := by decide +kernel
theorem dJ2_getChar_3b067_21 : decode cJ2_getChar_3b067 21 = .ok (.dup, 1) := by decide +kernel
theorem dJ2_getChar_3b067_22 : decode cJ2_getChar_3b067 22 = .ok (.ldc 54, 2) := by decide +kernel
theorem dJ2_getChar_3b067_24 : decode cJ2_getChar_3b067 24 = .ok (.invokespecial 56, 3) := by decide +kernel
theorem dJ2_getChar_3b067_27 : decode cJ2_getChar_3b067 27 = .ok (.athrow, 1) := by decide +kernel
theorem dJ2_getChar_3b067_28 : decode cJ2_getChar_3b067 28 = .ok (.iload_n 1, 1) := by decide +kernel
theorem dJ2_getChar_3b067_29 : decode cJ2_getChar_3b067 29 = .ok (.iconst 1, 1) := by decide +kernel
theorem dJ2_getChar_3b067_30 : decode cJ2_getChar_3b067 30 = .ok (.ishl, 1) := by decide +kernel
theorem dJ2_getChar_3b067_31 : decode cJ2_getChar_3b067 31 = .ok (.istore_n 1, 1) := by decide +kernel
theorem dJ2_getChar_3b067_32 : decode cJ2_getChar_3b067 32 = .ok (.aload_n 0, 1) := by decide +kernel
theorem dJ2_getChar_3b067_33 : decode cJ2_getChar_3b067 33 = .ok (.iload_n 1, 1) := by decide +kernel
theorem dJ2_getChar_3b067_34 : decode cJ2_getChar_3b067 34 = .ok (.iinc 1 1, 3) := by decide +kernel
theorem dJ2_getChar_3b067_37 : decode cJ2_getChar_3b067 37 = .ok (.baload, 1) := by decide +kernel
theorem dJ2_getChar_3b067_38 : decode cJ2_getChar_3b067 38 = .ok (.sipush 255, 3) := by decide +kernel
theorem dJ2_getChar_3b067_41 : decode cJ2_getChar_3b067 41 = .ok (.iand, 1) := by decide +kernel
theorem dJ2_getChar_3b067_42 : decode cJ2_getChar_3b067 42 = .ok (.getstatic 59, 3) := by decide +kernel
theorem dJ2_getChar_3b067_45 : decode cJ2_getChar_3b067 45 = .ok (.ishl, 1) := by decide +kernel
theorem dJ2_getChar_3b067_46 : decode cJ2_getChar_3b067 46 = .ok (.aload_n 0, 1) := by decide +kernel
theorem dJ2_getChar_3b067_47 : decode cJ2_getChar_3b067 47 = .ok (.iload_n 1, 1) := by decide +kernel
theorem dJ2_getChar_3b067_48 : decode cJ2_getChar_3b067 48 = .ok (.baload, 1) := by decide +kernel
theorem dJ2_getChar_3b067_49 : decode cJ2_getChar_3b067 49 = .ok (.sipush 255, 3) := by decide +kernel
theorem dJ2_getChar_3b067_52 : decode cJ2_getChar_3b067 52 = .ok (.iand, 1) := by decide +kernel
theorem dJ2_getChar_3b067_53 : decode cJ2_getChar_3b067 53 = .ok (.getstatic 63, 3) := by decide +kernel
theorem dJ2_getChar_3b067_56 : decode cJ2_getChar_3b067 56 = .ok (.ishl, 1) := by decide +kernel
theorem dJ2_getChar_3b067_57 : decode cJ2_getChar_3b067 57 = .ok (.ior, 1) := by decide +kernel
theorem dJ2_getChar_3b067_58 : decode cJ2_getChar_3b067 58 = .ok (.i2c, 1) := by decide +kernel
theorem dJ2_getChar_3b067_59 : decode cJ2_getChar_3b067 59 = .ok (.ireturn, 1) := by decide +kernel
theorem dJ2_length_9d52b_0 : decode cJ2_length_9d52b 0 = .ok (.aload_n 0, 1) := by decide +kernel
theorem dJ2_length_9d52b_1 : decode cJ2_length_9d52b 1 = .ok (.arraylength, 1) := by decide +kernel
theorem dJ2_length_9d52b_2 : decode cJ2_length_9d52b 2 = .ok (.iconst 1, 1) := by decide +kernel
theorem dJ2_length_9d52b_3 : decode cJ2_length_9d52b 3 = .ok (.ishr, 1) := by decide +kernel
theorem dJ2_length_9d52b_4 : decode cJ2_length_9d52b 4 = .ok (.ireturn, 1) := by decide +kernel
theorem dJ2_charAt_3b067_0 : decode cJ2_charAt_3b067 0 = .ok (.iload_n 1, 1) := by decide +kernel
theorem dJ2_charAt_3b067_1 : decode cJ2_charAt_3b067 1 = .ok (.aload_n 0, 1) := by decide +kernel
theorem dJ2_charAt_3b067_2 : decode cJ2_charAt_3b067 2 = .ok (.invokestatic 67, 3) := by decide +kernel
theorem dJ2_charAt_3b067_5 : decode cJ2_charAt_3b067 5 = .ok (.aload_n 0, 1) := by decide +kernel
theorem dJ2_charAt_3b067_6 : decode cJ2_charAt_3b067 6 = .ok (.iload_n 1, 1) := by decide +kernel
theorem dJ2_charAt_3b067_7 : decode cJ2_charAt_3b067 7 = .ok (.invokestatic 71, 3) := by decide +kernel
theorem dJ2_charAt_3b067_10 : decode cJ2_charAt_3b067 10 = .ok (.ireturn, 1) := by decide +kernel
theorem dJ2_checkIndex_2214a_0 : decode cJ2_checkIndex_2214a 0 = .ok (.iload_n 0, 1) := by decide +kernel
theorem dJ2_checkIndex_2214a_1 : decode cJ2_checkIndex_2214a 1 = .ok (.aload_n 1, 1) := by decide +kernel
theorem dJ2_checkIndex_2214a_2 : decode cJ2_checkIndex_2214a 2 = .ok (.invokestatic 48, 3) := by decide +kernel
theorem dJ2_checkIndex_2214a_5 : decode cJ2_checkIndex_2214a 5 = .ok (.invokestatic 414, 3) := by decide +kernel
theorem dJ2_checkIndex_2214a_8 : decode cJ2_checkIndex_2214a 8 = .ok (.return_, 1) := by decide +kernel
theorem dJ7_fill_53178_0 : decode cJ7_fill_53178 0 = .ok (.iconst 0, 1) := by decide +kernel
theorem dJ7_fill_53178_1 : decode cJ7_fill_53178 1 = .ok (.istore_n 2, 1) := by decide +kernel
theorem dJ7_fill_53178_2 : decode cJ7_fill_53178 2 = .ok (.aload_n 0, 1) := by decide +kernel
theorem dJ7_fill_53178_3 : decode cJ7_fill_53178 3 = .ok (.arraylength, 1) := by decide +kernel
theorem dJ7_fill_53178_4 : decode cJ7_fill_53178 4 = .ok (.istore_n 3, 1) := by decide +kernel
theorem dJ7_fill_53178_5 : decode cJ7_fill_53178 5 = .ok (.iload_n 2, 1) := by decide +kernel
theorem dJ7_fill_53178_6 : decode cJ7_fill_53178 6 = .ok (.iload_n 3, 1) := by decide +kernel
theorem dJ7_fill_53178_7 : decode cJ7_fill_53178 7 = .ok (.if_icmp .ge 13, 3) := by decide +kernel
theorem dJ7_fill_53178_10 : decode cJ7_fill_53178 10 = .ok (.aload_n 0, 1) := by decide +kernel
theorem dJ7_fill_53178_11 : decode cJ7_fill_53178 11 = .ok (.iload_n 2, 1) := by decide +kernel
theorem dJ7_fill_53178_12 : decode cJ7_fill_53178 12 = .ok (.iload_n 1, 1) := by decide +kernel
theorem dJ7_fill_53178_13 : decode cJ7_fill_53178 13 = .ok (.iastore, 1) := by decide +kernel
theorem dJ7_fill_53178_14 : decode cJ7_fill_53178 14 = .ok (.iinc 2 1, 3) := by decide +kernel
theorem dJ7_fill_53178_17 : decode cJ7_fill_53178 17 = .ok (.goto (-12), 3) := by decide +kernel
theorem dJ7_fill_53178_20 : decode cJ7_fill_53178 20 = .ok (.return_, 1) := by decide +kernel
theorem dJ3_checkIndex_8e157_0 : decode cJ3_checkIndex_8e157 0 = .ok (.iload_n 0, 1) := by decide +kernel
theorem dJ3_checkIndex_8e157_1 : decode cJ3_checkIndex_8e157 1 = .ok (.ifCond .lt 8, 3) := by decide +kernel
theorem dJ3_checkIndex_8e157_4 : decode cJ3_checkIndex_8e157 4 = .ok (.iload_n 0, 1) := by decide +kernel
theorem dJ3_checkIndex_8e157_5 : decode cJ3_checkIndex_8e157 5 = .ok (.iload_n 1, 1) := by decide +kernel
theorem dJ3_checkIndex_8e157_6 : decode cJ3_checkIndex_8e157 6 = .ok (.if_icmp .lt 10, 3) := by decide +kernel
theorem dJ3_checkIndex_8e157_9 : decode cJ3_checkIndex_8e157 9 = .ok (.aload_n 2, 1) := by decide +kernel
theorem dJ3_checkIndex_8e157_10 : decode cJ3_checkIndex_8e157 10 = .ok (.iload_n 0, 1) := by decide +kernel
theorem dJ3_checkIndex_8e157_11 : decode cJ3_checkIndex_8e157 11 = .ok (.iload_n 1, 1) := by decide +kernel
theorem dJ3_checkIndex_8e157_12 : decode cJ3_checkIndex_8e157 12 = .ok (.invokestatic 95, 3) := by decide +kernel
theorem dJ3_checkIndex_8e157_15 : decode cJ3_checkIndex_8e157 15 = .ok (.athrow, 1) := by decide +kernel
theorem dJ3_checkIndex_8e157_16 : decode cJ3_checkIndex_8e157 16 = .ok (.iload_n 0, 1) := by decide +kernel
theorem dJ3_checkIndex_8e157_17 : decode cJ3_checkIndex_8e157 17 = .ok (.ireturn, 1) := by decide +kernel
