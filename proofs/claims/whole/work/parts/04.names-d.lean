theorem dX6_goToStart_2 : decode cX6_goToStart 2 = .ok (.putfield 34, 3) := by decide +kernel
theorem dX6_goToStart_5 : decode cX6_goToStart 5 = .ok (.return_, 1) := by decide +kernel
theorem dX6_word_0 : decode cX6_word 0 = .ok (.aload_n 0, 1) := by decide +kernel
theorem dX6_word_1 : decode cX6_word 1 = .ok (.getfield 37, 3) := by decide +kernel
theorem dX6_word_4 : decode cX6_word 4 = .ok (.ireturn, 1) := by decide +kernel
theorem dX6_number_0 : decode cX6_number 0 = .ok (.iload_n 1, 1) := by decide +kernel
theorem dX6_number_1 : decode cX6_number 1 = .ok (.ifCond .lt 21, 3) := by decide +kernel
theorem dX6_number_4 : decode cX6_number 4 = .ok (.iload_n 1, 1) := by decide +kernel
theorem dX6_number_5 : decode cX6_number 5 = .ok (.aload_n 0, 1) := by decide +kernel
theorem dX6_number_6 : decode cX6_number 6 = .ok (.getfield 15, 3) := by decide +kernel
theorem dX6_number_9 : decode cX6_number 9 = .ok (.arraylength, 1) := by decide +kernel
theorem dX6_number_10 : decode cX6_number 10 = .ok (.if_icmp .ge 12, 3) := by decide +kernel
theorem dX6_number_13 : decode cX6_number 13 = .ok (.aload_n 0, 1) := by decide +kernel
theorem dX6_number_14 : decode cX6_number 14 = .ok (.getfield 15, 3) := by decide +kernel
theorem dX6_number_17 : decode cX6_number 17 = .ok (.iload_n 1, 1) := by decide +kernel
theorem dX6_number_18 : decode cX6_number 18 = .ok (.iaload, 1) := by decide +kernel
theorem dX6_number_19 : decode cX6_number 19 = .ok (.goto 4, 3) := by decide +kernel
theorem dX6_number_22 : decode cX6_number 22 = .ok (.iconst (-1), 1) := by decide +kernel
theorem dX6_number_23 : decode cX6_number 23 = .ok (.ireturn, 1) := by decide +kernel
set_option maxRecDepth 20000 in
theorem ggX6_takeItem_X6_takeToken : GoodIn wsX6_takeItem wsX6_takeToken := goodIn_r _ [13, 14, 15, 16, 17, 18, 19, 12, 20, 21, 22, 23, 24, 1, 25, 26, 27, 28, 29, 30, 31, 32, 33, 34, 35, 36, 37, 38, 39, 40, 41, 42, 43, 44, 45, 46, 47, 48, 49, 50, 51, 52, 53, 54, 55, 56, 57, 58, 59, 60, 61, 62, 63, 64, 65, 66, 67, 68, 69, 70, 71, 72, 73, 74, 75, 76, 77, 78, 79, 80, 81, 82, 83] (by decide +kernel) (by decide +kernel)
set_option maxRecDepth 20000 in
theorem gX6_takeItem_X6_takeToken : GoodIn wsX6_takeItem (wsV RX6 40 RX6 yX6_takeToken wsX6_takeToken) := goodIn_app (goodIn_of _ (by decide +kernel)) ggX6_takeItem_X6_takeToken
theorem dX6_takeItem_0 : decode cX6_takeItem 0 = .ok (.aload_n 0, 1) := by decide +kernel
theorem dX6_takeItem_1 : decode cX6_takeItem 1 = .ok (.invokevirtual 40, 3) := by decide +kernel
theorem dX6_takeItem_4 : decode cX6_takeItem 4 = .ok (.istore_n 1, 1) := by decide +kernel
theorem dX6_takeItem_5 : decode cX6_takeItem 5 = .ok (.iload_n 1, 1) := by decide +kernel
theorem dX6_takeItem_6 : decode cX6_takeItem 6 = .ok (.ifCond .ne 5, 3) := by decide +kernel
theorem dX6_takeItem_9 : decode cX6_takeItem 9 = .ok (.iconst 0, 1) := by decide +kernel
theorem dX6_takeItem_10 : decode cX6_takeItem 10 = .ok (.ireturn, 1) := by decide +kernel
theorem dX6_takeItem_11 : decode cX6_takeItem 11 = .ok (.iload_n 1, 1) := by decide +kernel
theorem dX6_takeItem_12 : decode cX6_takeItem 12 = .ok (.iconst 1, 1) := by decide +kernel
theorem dX6_takeItem_13 : decode cX6_takeItem 13 = .ok (.if_icmp .ne 19, 3) := by decide +kernel
theorem dX6_takeItem_16 : decode cX6_takeItem 16 = .ok (.aload_n 0, 1) := by decide +kernel
theorem dX6_takeItem_17 : decode cX6_takeItem 17 = .ok (.getfield 43, 3) := by decide +kernel
theorem dX6_takeItem_20 : decode cX6_takeItem 20 = .ok (.ifCond .lt 12, 3) := by decide +kernel
theorem dX6_takeItem_23 : decode cX6_takeItem 23 = .ok (.aload_n 0, 1) := by decide +kernel
theorem dX6_takeItem_24 : decode cX6_takeItem 24 = .ok (.getfield 43, 3) := by decide +kernel
theorem dX6_takeItem_27 : decode cX6_takeItem 27 = .ok (.bipush 12, 2) := by decide +kernel
theorem dX6_takeItem_29 : decode cX6_takeItem 29 = .ok (.if_icmp .lt 5, 3) := by decide +kernel
theorem dX6_takeItem_32 : decode cX6_takeItem 32 = .ok (.iconst (-1), 1) := by decide +kernel
theorem dX6_takeItem_33 : decode cX6_takeItem 33 = .ok (.ireturn, 1) := by decide +kernel
theorem dX6_takeItem_34 : decode cX6_takeItem 34 = .ok (.aload_n 0, 1) := by decide +kernel
theorem dX6_takeItem_35 : decode cX6_takeItem 35 = .ok (.aload_n 0, 1) := by decide +kernel
theorem dX6_takeItem_36 : decode cX6_takeItem 36 = .ok (.getfield 43, 3) := by decide +kernel
theorem dX6_takeItem_39 : decode cX6_takeItem 39 = .ok (.putfield 37, 3) := by decide +kernel
theorem dX6_takeItem_42 : decode cX6_takeItem 42 = .ok (.getstatic 46, 3) := by decide +kernel
theorem dX6_takeItem_45 : decode cX6_takeItem 45 = .ok (.aload_n 0, 1) := by decide +kernel
theorem dX6_takeItem_46 : decode cX6_takeItem 46 = .ok (.getfield 37, 3) := by decide +kernel
theorem dX6_takeItem_49 : decode cX6_takeItem 49 = .ok (.iaload, 1) := by decide +kernel
theorem dX6_takeItem_50 : decode cX6_takeItem 50 = .ok (.aload_n 0, 1) := by decide +kernel
theorem dX6_takeItem_51 : decode cX6_takeItem 51 = .ok (.getfield 15, 3) := by decide +kernel
theorem dX6_takeItem_54 : decode cX6_takeItem 54 = .ok (.arraylength, 1) := by decide +kernel
theorem dX6_takeItem_55 : decode cX6_takeItem 55 = .ok (.invokestatic 49, 3) := by decide +kernel
theorem dX6_takeItem_58 : decode cX6_takeItem 58 = .ok (.istore_n 2, 1) := by decide +kernel
theorem dX6_takeItem_59 : decode cX6_takeItem 59 = .ok (.iconst 0, 1) := by decide +kernel
theorem dX6_takeItem_60 : decode cX6_takeItem 60 = .ok (.istore_n 3, 1) := by decide +kernel
theorem dX6_takeItem_61 : decode cX6_takeItem 61 = .ok (.iload_n 3, 1) := by decide +kernel
theorem dX6_takeItem_62 : decode cX6_takeItem 62 = .ok (.iload_n 2, 1) := by decide +kernel
theorem dX6_takeItem_63 : decode cX6_takeItem 63 = .ok (.if_icmp .ge 29, 3) := by decide +kernel
theorem dX6_takeItem_66 : decode cX6_takeItem 66 = .ok (.aload_n 0, 1) := by decide +kernel
theorem dX6_takeItem_67 : decode cX6_takeItem 67 = .ok (.invokevirtual 40, 3) := by decide +kernel
theorem dX6_takeItem_70 : decode cX6_takeItem 70 = .ok (.iconst 2, 1) := by decide +kernel
theorem dX6_takeItem_71 : decode cX6_takeItem 71 = .ok (.if_icmp .eq 5, 3) := by decide +kernel
theorem dX6_takeItem_74 : decode cX6_takeItem 74 = .ok (.iconst (-1), 1) := by decide +kernel
theorem dX6_takeItem_75 : decode cX6_takeItem 75 = .ok (.ireturn, 1) := by decide +kernel
theorem dX6_takeItem_76 : decode cX6_takeItem 76 = .ok (.aload_n 0, 1) := by decide +kernel
theorem dX6_takeItem_77 : decode cX6_takeItem 77 = .ok (.getfield 15, 3) := by decide +kernel
theorem dX6_takeItem_80 : decode cX6_takeItem 80 = .ok (.iload_n 3, 1) := by decide +kernel
theorem dX6_takeItem_81 : decode cX6_takeItem 81 = .ok (.aload_n 0, 1) := by decide +kernel
theorem dX6_takeItem_82 : decode cX6_takeItem 82 = .ok (.getfield 43, 3) := by decide +kernel
theorem dX6_takeItem_85 : decode cX6_takeItem 85 = .ok (.iastore, 1) := by decide +kernel
theorem dX6_takeItem_86 : decode cX6_takeItem 86 = .ok (.iinc 3 1, 3) := by decide +kernel
theorem dX6_takeItem_89 : decode cX6_takeItem 89 = .ok (.goto (-28), 3) := by decide +kernel
theorem dX6_takeItem_92 : decode cX6_takeItem 92 = .ok (.aload_n 0, 1) := by decide +kernel
theorem dX6_takeItem_93 : decode cX6_takeItem 93 = .ok (.invokevirtual 40, 3) := by decide +kernel
theorem dX6_takeItem_96 : decode cX6_takeItem 96 = .ok (.iconst 3, 1) := by decide +kernel
theorem dX6_takeItem_97 : decode cX6_takeItem 97 = .ok (.if_icmp .ne 7, 3) := by decide +kernel
theorem dX6_takeItem_100 : decode cX6_takeItem 100 = .ok (.iconst 1, 1) := by decide +kernel
theorem dX6_takeItem_101 : decode cX6_takeItem 101 = .ok (.goto 4, 3) := by decide +kernel
theorem dX6_takeItem_104 : decode cX6_takeItem 104 = .ok (.iconst (-1), 1) := by decide +kernel
theorem dX6_takeItem_105 : decode cX6_takeItem 105 = .ok (.ireturn, 1) := by decide +kernel
set_option maxRecDepth 20000 in
theorem ggX6_takeToken_X6_isLetter : GoodIn wsX6_takeToken wsX6_isLetter := goodIn_r _ [8] (by decide +kernel) (by decide +kernel)
set_option maxRecDepth 20000 in
theorem gX6_takeToken_X6_isLetter : GoodIn wsX6_takeToken (va_wsS RX6 55 yX6_isLetter wsX6_isLetter) := goodIn_app (goodIn_of _ (by decide +kernel)) ggX6_takeToken_X6_isLetter
set_option maxRecDepth 20000 in
theorem ggX6_takeToken_X6_takeWord : GoodIn wsX6_takeToken wsX6_takeWord := goodIn_r _ [12, 1, 2, 3, 13, 5, 6, 7, 8, 14, 15, 16, 17, 4, 18, 19, 20, 21, 22, 23, 24, 25, 26, 27, 28, 29, 30, 31, 32, 33, 34, 35, 36, 37, 38, 39, 40, 41, 42, 43, 44, 45, 46, 47, 48, 49, 50, 51, 52, 53, 54, 55, 56, 57, 58, 66, 67, 68, 69, 70, 71, 72] (by decide +kernel) (by decide +kernel)
set_option maxRecDepth 20000 in
theorem gX6_takeToken_X6_takeWord : GoodIn wsX6_takeToken (wsV RX6 59 RX6 yX6_takeWord wsX6_takeWord) := goodIn_app (goodIn_of _ (by decide +kernel)) ggX6_takeToken_X6_takeWord
set_option maxRecDepth 20000 in
theorem ggX6_takeToken_X6_isFigure : GoodIn wsX6_takeToken wsX6_isFigure := goodIn_r _ [61] (by decide +kernel) (by decide +kernel)
set_option maxRecDepth 20000 in
theorem gX6_takeToken_X6_isFigure : GoodIn wsX6_takeToken (va_wsS RX6 62 yX6_isFigure wsX6_isFigure) := goodIn_app (goodIn_of _ (by decide +kernel)) ggX6_takeToken_X6_isFigure
set_option maxRecDepth 20000 in
theorem ggX6_takeToken_X6_takeNumber : GoodIn wsX6_takeToken wsX6_takeNumber := goodIn_r _ [65, 13, 1, 2, 3, 4, 59, 60, 7, 61, 66, 67, 68, 69, 70, 71, 72] (by decide +kernel) (by decide +kernel)
set_option maxRecDepth 20000 in
theorem gX6_takeToken_X6_takeNumber : GoodIn wsX6_takeToken (wsV RX6 65 RX6 yX6_takeNumber wsX6_takeNumber) := goodIn_app (goodIn_of _ (by decide +kernel)) ggX6_takeToken_X6_takeNumber
theorem dX6_takeToken_0 : decode cX6_takeToken 0 = .ok (.aload_n 0, 1) := by decide +kernel
theorem dX6_takeToken_1 : decode cX6_takeToken 1 = .ok (.getfield 34, 3) := by decide +kernel
theorem dX6_takeToken_4 : decode cX6_takeToken 4 = .ok (.aload_n 0, 1) := by decide +kernel
theorem dX6_takeToken_5 : decode cX6_takeToken 5 = .ok (.getfield 18, 3) := by decide +kernel
theorem dX6_takeToken_8 : decode cX6_takeToken 8 = .ok (.if_icmp .ge 30, 3) := by decide +kernel
theorem dX6_takeToken_11 : decode cX6_takeToken 11 = .ok (.aload_n 0, 1) := by decide +kernel
theorem dX6_takeToken_12 : decode cX6_takeToken 12 = .ok (.getfield 11, 3) := by decide +kernel
theorem dX6_takeToken_15 : decode cX6_takeToken 15 = .ok (.aload_n 0, 1) := by decide +kernel
theorem dX6_takeToken_16 : decode cX6_takeToken 16 = .ok (.getfield 34, 3) := by decide +kernel
theorem dX6_takeToken_19 : decode cX6_takeToken 19 = .ok (.iaload, 1) := by decide +kernel
theorem dX6_takeToken_20 : decode cX6_takeToken 20 = .ok (.bipush 32, 2) := by decide +kernel
theorem dX6_takeToken_22 : decode cX6_takeToken 22 = .ok (.if_icmp .ne 16, 3) := by decide +kernel
theorem dX6_takeToken_25 : decode cX6_takeToken 25 = .ok (.aload_n 0, 1) := by decide +kernel
theorem dX6_takeToken_26 : decode cX6_takeToken 26 = .ok (.dup, 1) := by decide +kernel
theorem dX6_takeToken_27 : decode cX6_takeToken 27 = .ok (.getfield 34, 3) := by decide +kernel
theorem dX6_takeToken_30 : decode cX6_takeToken 30 = .ok (.iconst 1, 1) := by decide +kernel
theorem dX6_takeToken_31 : decode cX6_takeToken 31 = .ok (.iadd, 1) := by decide +kernel
theorem dX6_takeToken_32 : decode cX6_takeToken 32 = .ok (.putfield 34, 3) := by decide +kernel
theorem dX6_takeToken_35 : decode cX6_takeToken 35 = .ok (.goto (-35), 3) := by decide +kernel
theorem dX6_takeToken_38 : decode cX6_takeToken 38 = .ok (.aload_n 0, 1) := by decide +kernel
theorem dX6_takeToken_39 : decode cX6_takeToken 39 = .ok (.aload_n 0, 1) := by decide +kernel
theorem dX6_takeToken_40 : decode cX6_takeToken 40 = .ok (.getfield 34, 3) := by decide +kernel
theorem dX6_takeToken_43 : decode cX6_takeToken 43 = .ok (.putfield 31, 3) := by decide +kernel
theorem dX6_takeToken_46 : decode cX6_takeToken 46 = .ok (.aload_n 0, 1) := by decide +kernel
theorem dX6_takeToken_47 : decode cX6_takeToken 47 = .ok (.getfield 34, 3) := by decide +kernel
theorem dX6_takeToken_50 : decode cX6_takeToken 50 = .ok (.aload_n 0, 1) := by decide +kernel
theorem dX6_takeToken_51 : decode cX6_takeToken 51 = .ok (.getfield 18, 3) := by decide +kernel
theorem dX6_takeToken_54 : decode cX6_takeToken 54 = .ok (.if_icmp .lt 5, 3) := by decide +kernel
theorem dX6_takeToken_57 : decode cX6_takeToken 57 = .ok (.iconst 0, 1) := by decide +kernel
theorem dX6_takeToken_58 : decode cX6_takeToken 58 = .ok (.ireturn, 1) := by decide +kernel
theorem dX6_takeToken_59 : decode cX6_takeToken 59 = .ok (.aload_n 0, 1) := by decide +kernel
theorem dX6_takeToken_60 : decode cX6_takeToken 60 = .ok (.getfield 11, 3) := by decide +kernel
theorem dX6_takeToken_63 : decode cX6_takeToken 63 = .ok (.aload_n 0, 1) := by decide +kernel
theorem dX6_takeToken_64 : decode cX6_takeToken 64 = .ok (.getfield 34, 3) := by decide +kernel
theorem dX6_takeToken_67 : decode cX6_takeToken 67 = .ok (.iaload, 1) := by decide +kernel
theorem dX6_takeToken_68 : decode cX6_takeToken 68 = .ok (.bipush 59, 2) := by decide +kernel
theorem dX6_takeToken_70 : decode cX6_takeToken 70 = .ok (.if_icmp .ne 15, 3) := by decide +kernel
theorem dX6_takeToken_73 : decode cX6_takeToken 73 = .ok (.aload_n 0, 1) := by decide +kernel
theorem dX6_takeToken_74 : decode cX6_takeToken 74 = .ok (.dup, 1) := by decide +kernel
theorem dX6_takeToken_75 : decode cX6_takeToken 75 = .ok (.getfield 34, 3) := by decide +kernel
theorem dX6_takeToken_78 : decode cX6_takeToken 78 = .ok (.iconst 1, 1) := by decide +kernel
theorem dX6_takeToken_79 : decode cX6_takeToken 79 = .ok (.iadd, 1) := by decide +kernel
theorem dX6_takeToken_80 : decode cX6_takeToken 80 = .ok (.putfield 34, 3) := by decide +kernel
theorem dX6_takeToken_83 : decode cX6_takeToken 83 = .ok (.iconst 3, 1) := by decide +kernel
theorem dX6_takeToken_84 : decode cX6_takeToken 84 = .ok (.ireturn, 1) := by decide +kernel
theorem dX6_takeToken_85 : decode cX6_takeToken 85 = .ok (.aload_n 0, 1) := by decide +kernel
theorem dX6_takeToken_86 : decode cX6_takeToken 86 = .ok (.getfield 11, 3) := by decide +kernel
theorem dX6_takeToken_89 : decode cX6_takeToken 89 = .ok (.aload_n 0, 1) := by decide +kernel
theorem dX6_takeToken_90 : decode cX6_takeToken 90 = .ok (.getfield 34, 3) := by decide +kernel
theorem dX6_takeToken_93 : decode cX6_takeToken 93 = .ok (.iaload, 1) := by decide +kernel
theorem dX6_takeToken_94 : decode cX6_takeToken 94 = .ok (.invokestatic 55, 3) := by decide +kernel
theorem dX6_takeToken_97 : decode cX6_takeToken 97 = .ok (.ifCond .eq 8, 3) := by decide +kernel
theorem dX6_takeToken_100 : decode cX6_takeToken 100 = .ok (.aload_n 0, 1) := by decide +kernel
theorem dX6_takeToken_101 : decode cX6_takeToken 101 = .ok (.invokevirtual 59, 3) := by decide +kernel
theorem dX6_takeToken_104 : decode cX6_takeToken 104 = .ok (.ireturn, 1) := by decide +kernel
theorem dX6_takeToken_105 : decode cX6_takeToken 105 = .ok (.aload_n 0, 1) := by decide +kernel
theorem dX6_takeToken_106 : decode cX6_takeToken 106 = .ok (.getfield 11, 3) := by decide +kernel
theorem dX6_takeToken_109 : decode cX6_takeToken 109 = .ok (.aload_n 0, 1) := by decide +kernel
theorem dX6_takeToken_110 : decode cX6_takeToken 110 = .ok (.getfield 34, 3) := by decide +kernel
theorem dX6_takeToken_113 : decode cX6_takeToken 113 = .ok (.iaload, 1) := by decide +kernel
theorem dX6_takeToken_114 : decode cX6_takeToken 114 = .ok (.invokestatic 62, 3) := by decide +kernel
theorem dX6_takeToken_117 : decode cX6_takeToken 117 = .ok (.ifCond .eq 10, 3) := by decide +kernel
theorem dX6_takeToken_120 : decode cX6_takeToken 120 = .ok (.aload_n 0, 1) := by decide +kernel
theorem dX6_takeToken_121 : decode cX6_takeToken 121 = .ok (.invokevirtual 65, 3) := by decide +kernel
theorem dX6_takeToken_124 : decode cX6_takeToken 124 = .ok (.goto 4, 3) := by decide +kernel
theorem dX6_takeToken_127 : decode cX6_takeToken 127 = .ok (.iconst 4, 1) := by decide +kernel
theorem dX6_takeToken_128 : decode cX6_takeToken 128 = .ok (.ireturn, 1) := by decide +kernel
set_option maxRecDepth 20000 in
theorem ggX6_takeWord_X6_isLetter : GoodIn wsX6_takeWord wsX6_isLetter := goodIn_r _ [8] (by decide +kernel) (by decide +kernel)
set_option maxRecDepth 20000 in
theorem gX6_takeWord_X6_isLetter : GoodIn wsX6_takeWord (va_wsS RX6 55 yX6_isLetter wsX6_isLetter) := goodIn_app (goodIn_of _ (by decide +kernel)) ggX6_takeWord_X6_isLetter
set_option maxRecDepth 20000 in
theorem ggX6_takeWord_X6_isTokenTheWord : GoodIn wsX6_takeWord wsX6_isTokenTheWord := goodIn_r _ [12, 1, 13, 3, 14, 15, 16, 17, 18, 19, 20, 21, 22, 23, 24, 25, 26, 27, 28, 29, 30, 31, 32, 33, 34, 35, 36, 37, 38, 39, 40, 41, 42, 43, 44, 45, 46, 47, 48, 49, 50, 51, 52, 53, 54, 55, 56, 57, 58, 59, 60, 61] (by decide +kernel) (by decide +kernel)
set_option maxRecDepth 20000 in
theorem gX6_takeWord_X6_isTokenTheWord : GoodIn wsX6_takeWord (wsV RX6 68 RX6 yX6_isTokenTheWord wsX6_isTokenTheWord) := goodIn_app (goodIn_of _ (by decide +kernel)) ggX6_takeWord_X6_isTokenTheWord
theorem dX6_takeWord_0 : decode cX6_takeWord 0 = .ok (.aload_n 0, 1) := by decide +kernel
theorem dX6_takeWord_1 : decode cX6_takeWord 1 = .ok (.getfield 34, 3) := by decide +kernel
theorem dX6_takeWord_4 : decode cX6_takeWord 4 = .ok (.aload_n 0, 1) := by decide +kernel
theorem dX6_takeWord_5 : decode cX6_takeWord 5 = .ok (.getfield 18, 3) := by decide +kernel
theorem dX6_takeWord_8 : decode cX6_takeWord 8 = .ok (.if_icmp .ge 31, 3) := by decide +kernel
theorem dX6_takeWord_11 : decode cX6_takeWord 11 = .ok (.aload_n 0, 1) := by decide +kernel
theorem dX6_takeWord_12 : decode cX6_takeWord 12 = .ok (.getfield 11, 3) := by decide +kernel
theorem dX6_takeWord_15 : decode cX6_takeWord 15 = .ok (.aload_n 0, 1) := by decide +kernel
theorem dX6_takeWord_16 : decode cX6_takeWord 16 = .ok (.getfield 34, 3) := by decide +kernel
theorem dX6_takeWord_19 : decode cX6_takeWord 19 = .ok (.iaload, 1) := by decide +kernel
theorem dX6_takeWord_20 : decode cX6_takeWord 20 = .ok (.invokestatic 55, 3) := by decide +kernel
theorem dX6_takeWord_23 : decode cX6_takeWord 23 = .ok (.ifCond .eq 16, 3) := by decide +kernel
theorem dX6_takeWord_26 : decode cX6_takeWord 26 = .ok (.aload_n 0, 1) := by decide +kernel
theorem dX6_takeWord_27 : decode cX6_takeWord 27 = .ok (.dup, 1) := by decide +kernel
theorem dX6_takeWord_28 : decode cX6_takeWord 28 = .ok (.getfield 34, 3) := by decide +kernel
theorem dX6_takeWord_31 : decode cX6_takeWord 31 = .ok (.iconst 1, 1) := by decide +kernel
theorem dX6_takeWord_32 : decode cX6_takeWord 32 = .ok (.iadd, 1) := by decide +kernel
theorem dX6_takeWord_33 : decode cX6_takeWord 33 = .ok (.putfield 34, 3) := by decide +kernel
theorem dX6_takeWord_36 : decode cX6_takeWord 36 = .ok (.goto (-36), 3) := by decide +kernel
theorem dX6_takeWord_39 : decode cX6_takeWord 39 = .ok (.aload_n 0, 1) := by decide +kernel
theorem dX6_takeWord_40 : decode cX6_takeWord 40 = .ok (.iconst (-1), 1) := by decide +kernel
theorem dX6_takeWord_41 : decode cX6_takeWord 41 = .ok (.putfield 43, 3) := by decide +kernel
theorem dX6_takeWord_44 : decode cX6_takeWord 44 = .ok (.iconst 0, 1) := by decide +kernel
theorem dX6_takeWord_45 : decode cX6_takeWord 45 = .ok (.istore_n 1, 1) := by decide +kernel
theorem dX6_takeWord_46 : decode cX6_takeWord 46 = .ok (.iload_n 1, 1) := by decide +kernel
theorem dX6_takeWord_47 : decode cX6_takeWord 47 = .ok (.bipush 12, 2) := by decide +kernel
theorem dX6_takeWord_49 : decode cX6_takeWord 49 = .ok (.if_icmp .ge 22, 3) := by decide +kernel
theorem dX6_takeWord_52 : decode cX6_takeWord 52 = .ok (.aload_n 0, 1) := by decide +kernel
theorem dX6_takeWord_53 : decode cX6_takeWord 53 = .ok (.iload_n 1, 1) := by decide +kernel
theorem dX6_takeWord_54 : decode cX6_takeWord 54 = .ok (.invokevirtual 68, 3) := by decide +kernel
theorem dX6_takeWord_57 : decode cX6_takeWord 57 = .ok (.ifCond .eq 8, 3) := by decide +kernel
theorem dX6_takeWord_60 : decode cX6_takeWord 60 = .ok (.aload_n 0, 1) := by decide +kernel
theorem dX6_takeWord_61 : decode cX6_takeWord 61 = .ok (.iload_n 1, 1) := by decide +kernel
theorem dX6_takeWord_62 : decode cX6_takeWord 62 = .ok (.putfield 43, 3) := by decide +kernel
theorem dX6_takeWord_65 : decode cX6_takeWord 65 = .ok (.iinc 1 1, 3) := by decide +kernel
theorem dX6_takeWord_68 : decode cX6_takeWord 68 = .ok (.goto (-22), 3) := by decide +kernel
theorem dX6_takeWord_71 : decode cX6_takeWord 71 = .ok (.aload_n 0, 1) := by decide +kernel
theorem dX6_takeWord_72 : decode cX6_takeWord 72 = .ok (.getfield 43, 3) := by decide +kernel
theorem dX6_takeWord_75 : decode cX6_takeWord 75 = .ok (.iconst (-1), 1) := by decide +kernel
theorem dX6_takeWord_76 : decode cX6_takeWord 76 = .ok (.if_icmp .ne 7, 3) := by decide +kernel
theorem dX6_takeWord_79 : decode cX6_takeWord 79 = .ok (.iconst 4, 1) := by decide +kernel
theorem dX6_takeWord_80 : decode cX6_takeWord 80 = .ok (.goto 4, 3) := by decide +kernel
theorem dX6_takeWord_83 : decode cX6_takeWord 83 = .ok (.iconst 1, 1) := by decide +kernel
theorem dX6_takeWord_84 : decode cX6_takeWord 84 = .ok (.ireturn, 1) := by decide +kernel
set_option maxRecDepth 20000 in
theorem ggX6_isTokenTheWord_J0_charAt_5068e : GoodIn wsX6_isTokenTheWord wsJ0_charAt_5068e := goodIn_r _ [8, 9, 10, 11, 12, 7, 13, 14, 15, 16, 17, 18, 19, 20, 21, 22, 23, 24, 25, 26, 27, 28, 29, 30, 31, 32, 33, 34, 35, 36, 37, 38, 39, 40, 41, 42, 43, 44] (by decide +kernel) (by decide +kernel)
set_option maxRecDepth 20000 in
theorem gX6_isTokenTheWord_J0_charAt_5068e : GoodIn wsX6_isTokenTheWord (wsV RX6 73 RJ0 yJ0_charAt_5068e wsJ0_charAt_5068e) := goodIn_app (goodIn_of _ (by decide +kernel)) ggX6_isTokenTheWord_J0_charAt_5068e
theorem dX6_isTokenTheWord_0 : decode cX6_isTokenTheWord 0 = .ok (.aload_n 0, 1) := by decide +kernel
theorem dX6_isTokenTheWord_1 : decode cX6_isTokenTheWord 1 = .ok (.getfield 34, 3) := by decide +kernel
theorem dX6_isTokenTheWord_4 : decode cX6_isTokenTheWord 4 = .ok (.aload_n 0, 1) := by decide +kernel
theorem dX6_isTokenTheWord_5 : decode cX6_isTokenTheWord 5 = .ok (.getfield 31, 3) := by decide +kernel
theorem dX6_isTokenTheWord_8 : decode cX6_isTokenTheWord 8 = .ok (.isub, 1) := by decide +kernel
theorem dX6_isTokenTheWord_9 : decode cX6_isTokenTheWord 9 = .ok (.bipush 8, 2) := by decide +kernel
theorem dX6_isTokenTheWord_11 : decode cX6_isTokenTheWord 11 = .ok (.if_icmp .le 5, 3) := by decide +kernel
theorem dX6_isTokenTheWord_14 : decode cX6_isTokenTheWord 14 = .ok (.iconst 0, 1) := by decide +kernel
theorem dX6_isTokenTheWord_15 : decode cX6_isTokenTheWord 15 = .ok (.ireturn, 1) := by decide +kernel
theorem dX6_isTokenTheWord_16 : decode cX6_isTokenTheWord 16 = .ok (.iconst 0, 1) := by decide +kernel
theorem dX6_isTokenTheWord_17 : decode cX6_isTokenTheWord 17 = .ok (.istore_n 2, 1) := by decide +kernel
theorem dX6_isTokenTheWord_18 : decode cX6_isTokenTheWord 18 = .ok (.iload_n 2, 1) := by decide +kernel
theorem dX6_isTokenTheWord_19 : decode cX6_isTokenTheWord 19 = .ok (.bipush 8, 2) := by decide +kernel
theorem dX6_isTokenTheWord_21 : decode cX6_isTokenTheWord 21 = .ok (.if_icmp .ge 56, 3) := by decide +kernel
theorem dX6_isTokenTheWord_24 : decode cX6_isTokenTheWord 24 = .ok (.aload_n 0, 1) := by decide +kernel
theorem dX6_isTokenTheWord_25 : decode cX6_isTokenTheWord 25 = .ok (.getfield 31, 3) := by decide +kernel
theorem dX6_isTokenTheWord_28 : decode cX6_isTokenTheWord 28 = .ok (.iload_n 2, 1) := by decide +kernel
theorem dX6_isTokenTheWord_29 : decode cX6_isTokenTheWord 29 = .ok (.iadd, 1) := by decide +kernel
theorem dX6_isTokenTheWord_30 : decode cX6_isTokenTheWord 30 = .ok (.aload_n 0, 1) := by decide +kernel
theorem dX6_isTokenTheWord_31 : decode cX6_isTokenTheWord 31 = .ok (.getfield 34, 3) := by decide +kernel
theorem dX6_isTokenTheWord_34 : decode cX6_isTokenTheWord 34 = .ok (.if_icmp .ge 17, 3) := by decide +kernel
theorem dX6_isTokenTheWord_37 : decode cX6_isTokenTheWord 37 = .ok (.aload_n 0, 1) := by decide +kernel
theorem dX6_isTokenTheWord_38 : decode cX6_isTokenTheWord 38 = .ok (.getfield 11, 3) := by decide +kernel
theorem dX6_isTokenTheWord_41 : decode cX6_isTokenTheWord 41 = .ok (.aload_n 0, 1) := by decide +kernel
theorem dX6_isTokenTheWord_42 : decode cX6_isTokenTheWord 42 = .ok (.getfield 31, 3) := by decide +kernel
theorem dX6_isTokenTheWord_45 : decode cX6_isTokenTheWord 45 = .ok (.iload_n 2, 1) := by decide +kernel
theorem dX6_isTokenTheWord_46 : decode cX6_isTokenTheWord 46 = .ok (.iadd, 1) := by decide +kernel
theorem dX6_isTokenTheWord_47 : decode cX6_isTokenTheWord 47 = .ok (.iaload, 1) := by decide +kernel
theorem dX6_isTokenTheWord_48 : decode cX6_isTokenTheWord 48 = .ok (.goto 5, 3) := by decide +kernel
theorem dX6_isTokenTheWord_51 : decode cX6_isTokenTheWord 51 = .ok (.bipush 32, 2) := by decide +kernel
theorem dX6_isTokenTheWord_53 : decode cX6_isTokenTheWord 53 = .ok (.istore_n 3, 1) := by decide +kernel
theorem dX6_isTokenTheWord_54 : decode cX6_isTokenTheWord 54 = .ok (.ldc 71, 2) := by decide +kernel
theorem dX6_isTokenTheWord_56 : decode cX6_isTokenTheWord 56 = .ok (.bipush 8, 2) := by decide +kernel
theorem dX6_isTokenTheWord_58 : decode cX6_isTokenTheWord 58 = .ok (.iload_n 1, 1) := by decide +kernel
theorem dX6_isTokenTheWord_59 : decode cX6_isTokenTheWord 59 = .ok (.imul, 1) := by decide +kernel
theorem dX6_isTokenTheWord_60 : decode cX6_isTokenTheWord 60 = .ok (.iload_n 2, 1) := by decide +kernel
theorem dX6_isTokenTheWord_61 : decode cX6_isTokenTheWord 61 = .ok (.iadd, 1) := by decide +kernel
theorem dX6_isTokenTheWord_62 : decode cX6_isTokenTheWord 62 = .ok (.invokevirtual 73, 3) := by decide +kernel
theorem dX6_isTokenTheWord_65 : decode cX6_isTokenTheWord 65 = .ok (.iload_n 3, 1) := by decide +kernel
theorem dX6_isTokenTheWord_66 : decode cX6_isTokenTheWord 66 = .ok (.if_icmp .eq 5, 3) := by decide +kernel
theorem dX6_isTokenTheWord_69 : decode cX6_isTokenTheWord 69 = .ok (.iconst 0, 1) := by decide +kernel
theorem dX6_isTokenTheWord_70 : decode cX6_isTokenTheWord 70 = .ok (.ireturn, 1) := by decide +kernel
theorem dX6_isTokenTheWord_71 : decode cX6_isTokenTheWord 71 = .ok (.iinc 2 1, 3) := by decide +kernel
theorem dX6_isTokenTheWord_74 : decode cX6_isTokenTheWord 74 = .ok (.goto (-56), 3) := by decide +kernel
theorem dX6_isTokenTheWord_77 : decode cX6_isTokenTheWord 77 = .ok (.iconst 1, 1) := by decide +kernel
theorem dX6_isTokenTheWord_78 : decode cX6_isTokenTheWord 78 = .ok (.ireturn, 1) := by decide +kernel
set_option maxRecDepth 20000 in
theorem ggX6_takeNumber_X6_isFigure : GoodIn wsX6_takeNumber wsX6_isFigure := goodIn_r _ [9] (by decide +kernel) (by decide +kernel)
set_option maxRecDepth 20000 in
theorem gX6_takeNumber_X6_isFigure : GoodIn wsX6_takeNumber (va_wsS RX6 62 yX6_isFigure wsX6_isFigure) := goodIn_app (goodIn_of _ (by decide +kernel)) ggX6_takeNumber_X6_isFigure
theorem dX6_takeNumber_0 : decode cX6_takeNumber 0 = .ok (.aload_n 0, 1) := by decide +kernel
theorem dX6_takeNumber_1 : decode cX6_takeNumber 1 = .ok (.iconst 0, 1) := by decide +kernel
theorem dX6_takeNumber_2 : decode cX6_takeNumber 2 = .ok (.putfield 43, 3) := by decide +kernel
theorem dX6_takeNumber_5 : decode cX6_takeNumber 5 = .ok (.aload_n 0, 1) := by decide +kernel
theorem dX6_takeNumber_6 : decode cX6_takeNumber 6 = .ok (.getfield 34, 3) := by decide +kernel
theorem dX6_takeNumber_9 : decode cX6_takeNumber 9 = .ok (.aload_n 0, 1) := by decide +kernel
theorem dX6_takeNumber_10 : decode cX6_takeNumber 10 = .ok (.getfield 18, 3) := by decide +kernel
theorem dX6_takeNumber_13 : decode cX6_takeNumber 13 = .ok (.if_icmp .ge 55, 3) := by decide +kernel
theorem dX6_takeNumber_16 : decode cX6_takeNumber 16 = .ok (.aload_n 0, 1) := by decide +kernel
theorem dX6_takeNumber_17 : decode cX6_takeNumber 17 = .ok (.getfield 11, 3) := by decide +kernel
theorem dX6_takeNumber_20 : decode cX6_takeNumber 20 = .ok (.aload_n 0, 1) := by decide +kernel
theorem dX6_takeNumber_21 : decode cX6_takeNumber 21 = .ok (.getfield 34, 3) := by decide +kernel
theorem dX6_takeNumber_24 : decode cX6_takeNumber 24 = .ok (.iaload, 1) := by decide +kernel
theorem dX6_takeNumber_25 : decode cX6_takeNumber 25 = .ok (.invokestatic 62, 3) := by decide +kernel
theorem dX6_takeNumber_28 : decode cX6_takeNumber 28 = .ok (.ifCond .eq 40, 3) := by decide +kernel
theorem dX6_takeNumber_31 : decode cX6_takeNumber 31 = .ok (.aload_n 0, 1) := by decide +kernel
theorem dX6_takeNumber_32 : decode cX6_takeNumber 32 = .ok (.bipush 10, 2) := by decide +kernel
theorem dX6_takeNumber_34 : decode cX6_takeNumber 34 = .ok (.aload_n 0, 1) := by decide +kernel
theorem dX6_takeNumber_35 : decode cX6_takeNumber 35 = .ok (.getfield 43, 3) := by decide +kernel
theorem dX6_takeNumber_38 : decode cX6_takeNumber 38 = .ok (.imul, 1) := by decide +kernel
theorem dX6_takeNumber_39 : decode cX6_takeNumber 39 = .ok (.aload_n 0, 1) := by decide +kernel
theorem dX6_takeNumber_40 : decode cX6_takeNumber 40 = .ok (.getfield 11, 3) := by decide +kernel
theorem dX6_takeNumber_43 : decode cX6_takeNumber 43 = .ok (.aload_n 0, 1) := by decide +kernel
theorem dX6_takeNumber_44 : decode cX6_takeNumber 44 = .ok (.getfield 34, 3) := by decide +kernel
theorem dX6_takeNumber_47 : decode cX6_takeNumber 47 = .ok (.iaload, 1) := by decide +kernel
theorem dX6_takeNumber_48 : decode cX6_takeNumber 48 = .ok (.iadd, 1) := by decide +kernel
theorem dX6_takeNumber_49 : decode cX6_takeNumber 49 = .ok (.bipush 48, 2) := by decide +kernel
theorem dX6_takeNumber_51 : decode cX6_takeNumber 51 = .ok (.isub, 1) := by decide +kernel
theorem dX6_takeNumber_52 : decode cX6_takeNumber 52 = .ok (.putfield 43, 3) := by decide +kernel
theorem dX6_takeNumber_55 : decode cX6_takeNumber 55 = .ok (.aload_n 0, 1) := by decide +kernel
theorem dX6_takeNumber_56 : decode cX6_takeNumber 56 = .ok (.dup, 1) := by decide +kernel
theorem dX6_takeNumber_57 : decode cX6_takeNumber 57 = .ok (.getfield 34, 3) := by decide +kernel
theorem dX6_takeNumber_60 : decode cX6_takeNumber 60 = .ok (.iconst 1, 1) := by decide +kernel
theorem dX6_takeNumber_61 : decode cX6_takeNumber 61 = .ok (.iadd, 1) := by decide +kernel
theorem dX6_takeNumber_62 : decode cX6_takeNumber 62 = .ok (.putfield 34, 3) := by decide +kernel
theorem dX6_takeNumber_65 : decode cX6_takeNumber 65 = .ok (.goto (-60), 3) := by decide +kernel
theorem dX6_takeNumber_68 : decode cX6_takeNumber 68 = .ok (.aload_n 0, 1) := by decide +kernel
theorem dX6_takeNumber_69 : decode cX6_takeNumber 69 = .ok (.getfield 34, 3) := by decide +kernel
theorem dX6_takeNumber_72 : decode cX6_takeNumber 72 = .ok (.aload_n 0, 1) := by decide +kernel
theorem dX6_takeNumber_73 : decode cX6_takeNumber 73 = .ok (.getfield 31, 3) := by decide +kernel
theorem dX6_takeNumber_76 : decode cX6_takeNumber 76 = .ok (.isub, 1) := by decide +kernel
theorem dX6_takeNumber_77 : decode cX6_takeNumber 77 = .ok (.iconst 4, 1) := by decide +kernel
theorem dX6_takeNumber_78 : decode cX6_takeNumber 78 = .ok (.if_icmp .le 7, 3) := by decide +kernel
theorem dX6_takeNumber_81 : decode cX6_takeNumber 81 = .ok (.iconst 4, 1) := by decide +kernel
theorem dX6_takeNumber_82 : decode cX6_takeNumber 82 = .ok (.goto 4, 3) := by decide +kernel
theorem dX6_takeNumber_85 : decode cX6_takeNumber 85 = .ok (.iconst 2, 1) := by decide +kernel
theorem dX6_takeNumber_86 : decode cX6_takeNumber 86 = .ok (.ireturn, 1) := by decide +kernel
theorem dX6_isLetter_0 : decode cX6_isLetter 0 = .ok (.iload_n 0, 1) := by decide +kernel
theorem dX6_isLetter_1 : decode cX6_isLetter 1 = .ok (.bipush 97, 2) := by decide +kernel
theorem dX6_isLetter_3 : decode cX6_isLetter 3 = .ok (.if_icmp .lt 13, 3) := by decide +kernel
theorem dX6_isLetter_6 : decode cX6_isLetter 6 = .ok (.iload_n 0, 1) := by decide +kernel
theorem dX6_isLetter_7 : decode cX6_isLetter 7 = .ok (.bipush 122, 2) := by decide +kernel
theorem dX6_isLetter_9 : decode cX6_isLetter 9 = .ok (.if_icmp .gt 7, 3) := by decide +kernel
theorem dX6_isLetter_12 : decode cX6_isLetter 12 = .ok (.iconst 1, 1) := by decide +kernel
theorem dX6_isLetter_13 : decode cX6_isLetter 13 = .ok (.goto 4, 3) := by decide +kernel
theorem dX6_isLetter_16 : decode cX6_isLetter 16 = .ok (.iconst 0, 1) := by decide +kernel
theorem dX6_isLetter_17 : decode cX6_isLetter 17 = .ok (.ireturn, 1) := by decide +kernel
theorem dX6_isFigure_0 : decode cX6_isFigure 0 = .ok (.iload_n 0, 1) := by decide +kernel
theorem dX6_isFigure_1 : decode cX6_isFigure 1 = .ok (.bipush 48, 2) := by decide +kernel
theorem dX6_isFigure_3 : decode cX6_isFigure 3 = .ok (.if_icmp .lt 13, 3) := by decide +kernel
theorem dX6_isFigure_6 : decode cX6_isFigure 6 = .ok (.iload_n 0, 1) := by decide +kernel
theorem dX6_isFigure_7 : decode cX6_isFigure 7 = .ok (.bipush 57, 2) := by decide +kernel
theorem dX6_isFigure_9 : decode cX6_isFigure 9 = .ok (.if_icmp .gt 7, 3) := by decide +kernel
theorem dX6_isFigure_12 : decode cX6_isFigure 12 = .ok (.iconst 1, 1) := by decide +kernel
theorem dX6_isFigure_13 : decode cX6_isFigure 13 = .ok (.goto 4, 3) := by decide +kernel
theorem dX6_isFigure_16 : decode cX6_isFigure 16 = .ok (.iconst 0, 1) := by decide +kernel
theorem dX6_isFigure_17 : decode cX6_isFigure 17 = .ok (.ireturn, 1) := by decide +kernel
theorem dX7_init_0 : decode cX7_init 0 = .ok (.aload_n 0, 1) := by decide +kernel
theorem dX7_init_1 : decode cX7_init 1 = .ok (.invokespecial 3, 3) := by decide +kernel
theorem dX7_init_4 : decode cX7_init 4 = .ok (.aload_n 0, 1) := by decide +kernel
theorem dX7_init_5 : decode cX7_init 5 = .ok (.bipush 64, 2) := by decide +kernel
theorem dX7_init_7 : decode cX7_init 7 = .ok (.newarray .int, 2) := by decide +kernel
theorem dX7_init_9 : decode cX7_init 9 = .ok (.putfield 11, 3) := by decide +kernel
theorem dX7_init_12 : decode cX7_init 12 = .ok (.aload_n 0, 1) := by decide +kernel
theorem dX7_init_13 : decode cX7_init 13 = .ok (.bipush 64, 2) := by decide +kernel
theorem dX7_init_15 : decode cX7_init 15 = .ok (.newarray .int, 2) := by decide +kernel
theorem dX7_init_17 : decode cX7_init 17 = .ok (.putfield 15, 3) := by decide +kernel
theorem dX7_init_20 : decode cX7_init 20 = .ok (.aload_n 0, 1) := by decide +kernel
theorem dX7_init_21 : decode cX7_init 21 = .ok (.bipush 64, 2) := by decide +kernel
theorem dX7_init_23 : decode cX7_init 23 = .ok (.newarray .int, 2) := by decide +kernel
theorem dX7_init_25 : decode cX7_init 25 = .ok (.putfield 18, 3) := by decide +kernel
theorem dX7_init_28 : decode cX7_init 28 = .ok (.return_, 1) := by decide +kernel
set_option maxRecDepth 20000 in
theorem ggX7_directionOfFlow_X7_surfaceAt : GoodIn wsX7_directionOfFlow wsX7_surfaceAt := goodIn_r _ [4] (by decide +kernel) (by decide +kernel)
set_option maxRecDepth 20000 in
theorem gX7_directionOfFlow_X7_surfaceAt : GoodIn wsX7_directionOfFlow (va_wsS RX7 21 yX7_surfaceAt wsX7_surfaceAt) := goodIn_app (goodIn_of _ (by decide +kernel)) ggX7_directionOfFlow_X7_surfaceAt
set_option maxRecDepth 20000 in
theorem ggX7_directionOfFlow_X7_placeBeside : GoodIn wsX7_directionOfFlow wsX7_placeBeside := goodIn_r _ [7, 8, 9] (by decide +kernel) (by decide +kernel)
set_option maxRecDepth 20000 in
theorem gX7_directionOfFlow_X7_placeBeside : GoodIn wsX7_directionOfFlow (va_wsS RX7 25 yX7_placeBeside wsX7_placeBeside) := goodIn_app (goodIn_of _ (by decide +kernel)) ggX7_directionOfFlow_X7_placeBeside
theorem dX7_directionOfFlow_0 : decode cX7_directionOfFlow 0 = .ok (.aload_n 0, 1) := by decide +kernel
theorem dX7_directionOfFlow_1 : decode cX7_directionOfFlow 1 = .ok (.iload_n 1, 1) := by decide +kernel
theorem dX7_directionOfFlow_2 : decode cX7_directionOfFlow 2 = .ok (.iload_n 2, 1) := by decide +kernel
theorem dX7_directionOfFlow_3 : decode cX7_directionOfFlow 3 = .ok (.invokestatic 21, 3) := by decide +kernel
theorem dX7_directionOfFlow_6 : decode cX7_directionOfFlow 6 = .ok (.istore_n 3, 1) := by decide +kernel
theorem dX7_directionOfFlow_7 : decode cX7_directionOfFlow 7 = .ok (.iconst (-1), 1) := by decide +kernel
theorem dX7_directionOfFlow_8 : decode cX7_directionOfFlow 8 = .ok (.istore 4, 2) := by decide +kernel
theorem dX7_directionOfFlow_10 : decode cX7_directionOfFlow 10 = .ok (.iconst 0, 1) := by decide +kernel
theorem dX7_directionOfFlow_11 : decode cX7_directionOfFlow 11 = .ok (.istore 5, 2) := by decide +kernel
theorem dX7_directionOfFlow_13 : decode cX7_directionOfFlow 13 = .ok (.iload 5, 2) := by decide +kernel
theorem dX7_directionOfFlow_15 : decode cX7_directionOfFlow 15 = .ok (.bipush 8, 2) := by decide +kernel
theorem dX7_directionOfFlow_17 : decode cX7_directionOfFlow 17 = .ok (.if_icmp .ge 46, 3) := by decide +kernel
theorem dX7_directionOfFlow_20 : decode cX7_directionOfFlow 20 = .ok (.iload_n 2, 1) := by decide +kernel
theorem dX7_directionOfFlow_21 : decode cX7_directionOfFlow 21 = .ok (.iload 5, 2) := by decide +kernel
theorem dX7_directionOfFlow_23 : decode cX7_directionOfFlow 23 = .ok (.invokestatic 25, 3) := by decide +kernel
theorem dX7_directionOfFlow_26 : decode cX7_directionOfFlow 26 = .ok (.istore 6, 2) := by decide +kernel
theorem dX7_directionOfFlow_28 : decode cX7_directionOfFlow 28 = .ok (.iload 6, 2) := by decide +kernel
theorem dX7_directionOfFlow_30 : decode cX7_directionOfFlow 30 = .ok (.iconst (-1), 1) := by decide +kernel
theorem dX7_directionOfFlow_31 : decode cX7_directionOfFlow 31 = .ok (.if_icmp .eq 26, 3) := by decide +kernel
theorem dX7_directionOfFlow_34 : decode cX7_directionOfFlow 34 = .ok (.aload_n 0, 1) := by decide +kernel
theorem dX7_directionOfFlow_35 : decode cX7_directionOfFlow 35 = .ok (.iload_n 1, 1) := by decide +kernel
theorem dX7_directionOfFlow_36 : decode cX7_directionOfFlow 36 = .ok (.iload 6, 2) := by decide +kernel
theorem dX7_directionOfFlow_38 : decode cX7_directionOfFlow 38 = .ok (.invokestatic 21, 3) := by decide +kernel
theorem dX7_directionOfFlow_41 : decode cX7_directionOfFlow 41 = .ok (.iload_n 3, 1) := by decide +kernel
theorem dX7_directionOfFlow_42 : decode cX7_directionOfFlow 42 = .ok (.if_icmp .ge 15, 3) := by decide +kernel
theorem dX7_directionOfFlow_45 : decode cX7_directionOfFlow 45 = .ok (.aload_n 0, 1) := by decide +kernel
theorem dX7_directionOfFlow_46 : decode cX7_directionOfFlow 46 = .ok (.iload_n 1, 1) := by decide +kernel
theorem dX7_directionOfFlow_47 : decode cX7_directionOfFlow 47 = .ok (.iload 6, 2) := by decide +kernel
theorem dX7_directionOfFlow_49 : decode cX7_directionOfFlow 49 = .ok (.invokestatic 21, 3) := by decide +kernel
theorem dX7_directionOfFlow_52 : decode cX7_directionOfFlow 52 = .ok (.istore_n 3, 1) := by decide +kernel
theorem dX7_directionOfFlow_53 : decode cX7_directionOfFlow 53 = .ok (.iload 5, 2) := by decide +kernel
theorem dX7_directionOfFlow_55 : decode cX7_directionOfFlow 55 = .ok (.istore 4, 2) := by decide +kernel
theorem dX7_directionOfFlow_57 : decode cX7_directionOfFlow 57 = .ok (.iinc 5 1, 3) := by decide +kernel
theorem dX7_directionOfFlow_60 : decode cX7_directionOfFlow 60 = .ok (.goto (-47), 3) := by decide +kernel
theorem dX7_directionOfFlow_63 : decode cX7_directionOfFlow 63 = .ok (.iload 4, 2) := by decide +kernel
theorem dX7_directionOfFlow_65 : decode cX7_directionOfFlow 65 = .ok (.ireturn, 1) := by decide +kernel
set_option maxRecDepth 20000 in
theorem ggX7_fewestSteps_X4_cell : GoodIn wsX7_fewestSteps wsX4_cell := goodIn_r _ [8, 9, 10, 11, 12, 7, 13, 14, 61, 62, 63] (by decide +kernel) (by decide +kernel)
set_option maxRecDepth 20000 in
theorem gX7_fewestSteps_X4_cell : GoodIn wsX7_fewestSteps (wsV RX7 38 RX4 yX4_cell wsX4_cell) := goodIn_app (goodIn_of _ (by decide +kernel)) ggX7_fewestSteps_X4_cell
set_option maxRecDepth 20000 in
theorem ggX7_fewestSteps_X7_leadTo : GoodIn wsX7_fewestSteps wsX7_leadTo := goodIn_r _ [19, 20, 21, 22, 23, 24, 25, 26, 27, 28, 29, 18, 30, 31, 32, 33, 34, 35, 36, 37, 38, 39, 40, 41, 42, 43, 44, 45, 46, 64, 65, 66] (by decide +kernel) (by decide +kernel)
set_option maxRecDepth 20000 in
theorem gX7_fewestSteps_X7_leadTo : GoodIn wsX7_fewestSteps (wsV RX7 43 RX7 yX7_leadTo wsX7_leadTo) := goodIn_app (goodIn_of _ (by decide +kernel)) ggX7_fewestSteps_X7_leadTo
set_option maxRecDepth 20000 in
theorem ggX7_fewestSteps_X7_stepsFrom : GoodIn wsX7_fewestSteps wsX7_stepsFrom := goodIn_r _ [50, 20, 21, 64, 65, 66] (by decide +kernel) (by decide +kernel)
set_option maxRecDepth 20000 in
theorem gX7_fewestSteps_X7_stepsFrom : GoodIn wsX7_fewestSteps (wsV RX7 50 RX7 yX7_stepsFrom wsX7_stepsFrom) := goodIn_app (goodIn_of _ (by decide +kernel)) ggX7_fewestSteps_X7_stepsFrom
theorem dX7_fewestSteps_0 : decode cX7_fewestSteps 0 = .ok (.aload_n 0, 1) := by decide +kernel
theorem dX7_fewestSteps_1 : decode cX7_fewestSteps 1 = .ok (.aload_n 1, 1) := by decide +kernel
theorem dX7_fewestSteps_2 : decode cX7_fewestSteps 2 = .ok (.getfield 29, 3) := by decide +kernel
theorem dX7_fewestSteps_5 : decode cX7_fewestSteps 5 = .ok (.aload_n 1, 1) := by decide +kernel
theorem dX7_fewestSteps_6 : decode cX7_fewestSteps 6 = .ok (.getfield 34, 3) := by decide +kernel
theorem dX7_fewestSteps_9 : decode cX7_fewestSteps 9 = .ok (.iload_n 2, 1) := by decide +kernel
theorem dX7_fewestSteps_10 : decode cX7_fewestSteps 10 = .ok (.iconst 0, 1) := by decide +kernel
theorem dX7_fewestSteps_11 : decode cX7_fewestSteps 11 = .ok (.invokevirtual 38, 3) := by decide +kernel
theorem dX7_fewestSteps_14 : decode cX7_fewestSteps 14 = .ok (.invokevirtual 43, 3) := by decide +kernel
theorem dX7_fewestSteps_17 : decode cX7_fewestSteps 17 = .ok (.aload_n 0, 1) := by decide +kernel
theorem dX7_fewestSteps_18 : decode cX7_fewestSteps 18 = .ok (.aload_n 1, 1) := by decide +kernel
theorem dX7_fewestSteps_19 : decode cX7_fewestSteps 19 = .ok (.getfield 47, 3) := by decide +kernel
theorem dX7_fewestSteps_22 : decode cX7_fewestSteps 22 = .ok (.iload_n 3, 1) := by decide +kernel
theorem dX7_fewestSteps_23 : decode cX7_fewestSteps 23 = .ok (.iconst 0, 1) := by decide +kernel
theorem dX7_fewestSteps_24 : decode cX7_fewestSteps 24 = .ok (.invokevirtual 38, 3) := by decide +kernel
theorem dX7_fewestSteps_27 : decode cX7_fewestSteps 27 = .ok (.invokevirtual 50, 3) := by decide +kernel
theorem dX7_fewestSteps_30 : decode cX7_fewestSteps 30 = .ok (.ireturn, 1) := by decide +kernel
set_option maxRecDepth 20000 in
theorem ggX7_fittingCliffs_X4_cell : GoodIn wsX7_fittingCliffs wsX4_cell := goodIn_r _ [8, 9, 10, 11, 12, 7, 13, 14, 69, 70, 71] (by decide +kernel) (by decide +kernel)
set_option maxRecDepth 20000 in
theorem gX7_fittingCliffs_X4_cell : GoodIn wsX7_fittingCliffs (wsV RX7 38 RX4 yX4_cell wsX4_cell) := goodIn_app (goodIn_of _ (by decide +kernel)) ggX7_fittingCliffs_X4_cell
set_option maxRecDepth 20000 in
theorem ggX7_fittingCliffs_X7_leadTo : GoodIn wsX7_fittingCliffs wsX7_leadTo := goodIn_r _ [19, 20, 21, 22, 23, 24, 25, 26, 27, 28, 29, 18, 30, 31, 32, 33, 34, 35, 36, 37, 38, 39, 40, 41, 42, 43, 44, 45, 46, 72, 73, 74] (by decide +kernel) (by decide +kernel)
set_option maxRecDepth 20000 in
theorem gX7_fittingCliffs_X7_leadTo : GoodIn wsX7_fittingCliffs (wsV RX7 43 RX7 yX7_leadTo wsX7_leadTo) := goodIn_app (goodIn_of _ (by decide +kernel)) ggX7_fittingCliffs_X7_leadTo
set_option maxRecDepth 20000 in
theorem ggX7_fittingCliffs_X4_size : GoodIn wsX7_fittingCliffs wsX4_size := goodIn_r _ [50, 14, 69, 70, 71] (by decide +kernel) (by decide +kernel)
set_option maxRecDepth 20000 in
theorem gX7_fittingCliffs_X4_size : GoodIn wsX7_fittingCliffs (wsV RX7 54 RX4 yX4_size wsX4_size) := goodIn_app (goodIn_of _ (by decide +kernel)) ggX7_fittingCliffs_X4_size
set_option maxRecDepth 20000 in
theorem ggX7_fittingCliffs_X7_stepsOfSort : GoodIn wsX7_fittingCliffs wsX7_stepsOfSort := goodIn_r _ [54, 3, 2, 4, 5, 6, 7, 8, 9, 10, 11, 12, 13, 14, 55, 56, 57, 18, 58, 20, 21, 59, 60, 61, 62, 63, 64, 65, 66, 67, 68, 69, 70, 71, 72, 73, 74] (by decide +kernel) (by decide +kernel)
set_option maxRecDepth 20000 in
theorem gX7_fittingCliffs_X7_stepsOfSort : GoodIn wsX7_fittingCliffs (wsV RX7 58 RX7 yX7_stepsOfSort wsX7_stepsOfSort) := goodIn_app (goodIn_of _ (by decide +kernel)) ggX7_fittingCliffs_X7_stepsOfSort
theorem dX7_fittingCliffs_0 : decode cX7_fittingCliffs 0 = .ok (.aload_n 0, 1) := by decide +kernel
theorem dX7_fittingCliffs_1 : decode cX7_fittingCliffs 1 = .ok (.aload_n 1, 1) := by decide +kernel
theorem dX7_fittingCliffs_2 : decode cX7_fittingCliffs 2 = .ok (.getfield 29, 3) := by decide +kernel
theorem dX7_fittingCliffs_5 : decode cX7_fittingCliffs 5 = .ok (.aload_n 1, 1) := by decide +kernel
theorem dX7_fittingCliffs_6 : decode cX7_fittingCliffs 6 = .ok (.getfield 34, 3) := by decide +kernel
theorem dX7_fittingCliffs_9 : decode cX7_fittingCliffs 9 = .ok (.iload_n 2, 1) := by decide +kernel
theorem dX7_fittingCliffs_10 : decode cX7_fittingCliffs 10 = .ok (.iconst 0, 1) := by decide +kernel
theorem dX7_fittingCliffs_11 : decode cX7_fittingCliffs 11 = .ok (.invokevirtual 38, 3) := by decide +kernel
theorem dX7_fittingCliffs_14 : decode cX7_fittingCliffs 14 = .ok (.invokevirtual 43, 3) := by decide +kernel
theorem dX7_fittingCliffs_17 : decode cX7_fittingCliffs 17 = .ok (.iconst 0, 1) := by decide +kernel
theorem dX7_fittingCliffs_18 : decode cX7_fittingCliffs 18 = .ok (.istore_n 3, 1) := by decide +kernel
theorem dX7_fittingCliffs_19 : decode cX7_fittingCliffs 19 = .ok (.iconst 0, 1) := by decide +kernel
theorem dX7_fittingCliffs_20 : decode cX7_fittingCliffs 20 = .ok (.istore 4, 2) := by decide +kernel
theorem dX7_fittingCliffs_22 : decode cX7_fittingCliffs 22 = .ok (.iload 4, 2) := by decide +kernel
theorem dX7_fittingCliffs_24 : decode cX7_fittingCliffs 24 = .ok (.aload_n 1, 1) := by decide +kernel
theorem dX7_fittingCliffs_25 : decode cX7_fittingCliffs 25 = .ok (.getfield 47, 3) := by decide +kernel
theorem dX7_fittingCliffs_28 : decode cX7_fittingCliffs 28 = .ok (.invokevirtual 54, 3) := by decide +kernel
theorem dX7_fittingCliffs_31 : decode cX7_fittingCliffs 31 = .ok (.if_icmp .ge 28, 3) := by decide +kernel
theorem dX7_fittingCliffs_34 : decode cX7_fittingCliffs 34 = .ok (.aload_n 0, 1) := by decide +kernel
theorem dX7_fittingCliffs_35 : decode cX7_fittingCliffs 35 = .ok (.aload_n 1, 1) := by decide +kernel
theorem dX7_fittingCliffs_36 : decode cX7_fittingCliffs 36 = .ok (.iload_n 2, 1) := by decide +kernel
theorem dX7_fittingCliffs_37 : decode cX7_fittingCliffs 37 = .ok (.iload 4, 2) := by decide +kernel
theorem dX7_fittingCliffs_39 : decode cX7_fittingCliffs 39 = .ok (.invokevirtual 58, 3) := by decide +kernel
theorem dX7_fittingCliffs_42 : decode cX7_fittingCliffs 42 = .ok (.iconst (-1), 1) := by decide +kernel
theorem dX7_fittingCliffs_43 : decode cX7_fittingCliffs 43 = .ok (.if_icmp .eq 10, 3) := by decide +kernel
theorem dX7_fittingCliffs_46 : decode cX7_fittingCliffs 46 = .ok (.iload_n 3, 1) := by decide +kernel
theorem dX7_fittingCliffs_47 : decode cX7_fittingCliffs 47 = .ok (.iconst 1, 1) := by decide +kernel
theorem dX7_fittingCliffs_48 : decode cX7_fittingCliffs 48 = .ok (.iload 4, 2) := by decide +kernel
theorem dX7_fittingCliffs_50 : decode cX7_fittingCliffs 50 = .ok (.ishl, 1) := by decide +kernel
theorem dX7_fittingCliffs_51 : decode cX7_fittingCliffs 51 = .ok (.ior, 1) := by decide +kernel
theorem dX7_fittingCliffs_52 : decode cX7_fittingCliffs 52 = .ok (.istore_n 3, 1) := by decide +kernel
theorem dX7_fittingCliffs_53 : decode cX7_fittingCliffs 53 = .ok (.iinc 4 1, 3) := by decide +kernel
theorem dX7_fittingCliffs_56 : decode cX7_fittingCliffs 56 = .ok (.goto (-34), 3) := by decide +kernel
theorem dX7_fittingCliffs_59 : decode cX7_fittingCliffs 59 = .ok (.iload_n 3, 1) := by decide +kernel
theorem dX7_fittingCliffs_60 : decode cX7_fittingCliffs 60 = .ok (.ireturn, 1) := by decide +kernel
set_option maxRecDepth 20000 in
theorem ggX7_nearestCliff_X4_cell : GoodIn wsX7_nearestCliff wsX4_cell := goodIn_r _ [9, 10, 11, 12, 13, 8, 14, 15, 69, 70, 71] (by decide +kernel) (by decide +kernel)
set_option maxRecDepth 20000 in
theorem gX7_nearestCliff_X4_cell : GoodIn wsX7_nearestCliff (wsV RX7 38 RX4 yX4_cell wsX4_cell) := goodIn_app (goodIn_of _ (by decide +kernel)) ggX7_nearestCliff_X4_cell
set_option maxRecDepth 20000 in
theorem ggX7_nearestCliff_X7_leadTo : GoodIn wsX7_nearestCliff wsX7_leadTo := goodIn_r _ [20, 21, 3, 22, 23, 24, 25, 26, 27, 28, 29, 19, 30, 31, 32, 33, 34, 35, 36, 37, 38, 39, 40, 41, 42, 43, 44, 45, 46, 72, 73, 74] (by decide +kernel) (by decide +kernel)
set_option maxRecDepth 20000 in
theorem gX7_nearestCliff_X7_leadTo : GoodIn wsX7_nearestCliff (wsV RX7 43 RX7 yX7_leadTo wsX7_leadTo) := goodIn_app (goodIn_of _ (by decide +kernel)) ggX7_nearestCliff_X7_leadTo
set_option maxRecDepth 20000 in
theorem ggX7_nearestCliff_X4_size : GoodIn wsX7_nearestCliff wsX4_size := goodIn_r _ [50, 15, 69, 70, 71] (by decide +kernel) (by decide +kernel)
set_option maxRecDepth 20000 in
theorem gX7_nearestCliff_X4_size : GoodIn wsX7_nearestCliff (wsV RX7 54 RX4 yX4_size wsX4_size) := goodIn_app (goodIn_of _ (by decide +kernel)) ggX7_nearestCliff_X4_size
set_option maxRecDepth 20000 in
theorem ggX7_nearestCliff_X7_stepsOfSort : GoodIn wsX7_nearestCliff wsX7_stepsOfSort := goodIn_r _ [54, 4, 2, 5, 6, 7, 8, 9, 10, 11, 12, 13, 14, 15, 55, 56, 57, 19, 58, 21, 3, 59, 60, 61, 62, 63, 64, 65, 66, 67, 68, 69, 70, 71, 72, 73, 74] (by decide +kernel) (by decide +kernel)
set_option maxRecDepth 20000 in
theorem gX7_nearestCliff_X7_stepsOfSort : GoodIn wsX7_nearestCliff (wsV RX7 58 RX7 yX7_stepsOfSort wsX7_stepsOfSort) := goodIn_app (goodIn_of _ (by decide +kernel)) ggX7_nearestCliff_X7_stepsOfSort
theorem dX7_nearestCliff_0 : decode cX7_nearestCliff 0 = .ok (.aload_n 0, 1) := by decide +kernel
theorem dX7_nearestCliff_1 : decode cX7_nearestCliff 1 = .ok (.aload_n 1, 1) := by decide +kernel
theorem dX7_nearestCliff_2 : decode cX7_nearestCliff 2 = .ok (.getfield 29, 3) := by decide +kernel
theorem dX7_nearestCliff_5 : decode cX7_nearestCliff 5 = .ok (.aload_n 1, 1) := by decide +kernel
theorem dX7_nearestCliff_6 : decode cX7_nearestCliff 6 = .ok (.getfield 34, 3) := by decide +kernel
theorem dX7_nearestCliff_9 : decode cX7_nearestCliff 9 = .ok (.iload_n 2, 1) := by decide +kernel
theorem dX7_nearestCliff_10 : decode cX7_nearestCliff 10 = .ok (.iconst 0, 1) := by decide +kernel
theorem dX7_nearestCliff_11 : decode cX7_nearestCliff 11 = .ok (.invokevirtual 38, 3) := by decide +kernel
theorem dX7_nearestCliff_14 : decode cX7_nearestCliff 14 = .ok (.invokevirtual 43, 3) := by decide +kernel
theorem dX7_nearestCliff_17 : decode cX7_nearestCliff 17 = .ok (.iconst (-1), 1) := by decide +kernel
theorem dX7_nearestCliff_18 : decode cX7_nearestCliff 18 = .ok (.istore_n 3, 1) := by decide +kernel
theorem dX7_nearestCliff_19 : decode cX7_nearestCliff 19 = .ok (.ldc 62, 2) := by decide +kernel
theorem dX7_nearestCliff_21 : decode cX7_nearestCliff 21 = .ok (.istore 4, 2) := by decide +kernel
theorem dX7_nearestCliff_23 : decode cX7_nearestCliff 23 = .ok (.iconst 0, 1) := by decide +kernel
theorem dX7_nearestCliff_24 : decode cX7_nearestCliff 24 = .ok (.istore 5, 2) := by decide +kernel
theorem dX7_nearestCliff_26 : decode cX7_nearestCliff 26 = .ok (.iload 5, 2) := by decide +kernel
theorem dX7_nearestCliff_28 : decode cX7_nearestCliff 28 = .ok (.aload_n 1, 1) := by decide +kernel
theorem dX7_nearestCliff_29 : decode cX7_nearestCliff 29 = .ok (.getfield 47, 3) := by decide +kernel
theorem dX7_nearestCliff_32 : decode cX7_nearestCliff 32 = .ok (.invokevirtual 54, 3) := by decide +kernel
theorem dX7_nearestCliff_35 : decode cX7_nearestCliff 35 = .ok (.if_icmp .ge 39, 3) := by decide +kernel
theorem dX7_nearestCliff_38 : decode cX7_nearestCliff 38 = .ok (.aload_n 0, 1) := by decide +kernel
theorem dX7_nearestCliff_39 : decode cX7_nearestCliff 39 = .ok (.aload_n 1, 1) := by decide +kernel
theorem dX7_nearestCliff_40 : decode cX7_nearestCliff 40 = .ok (.iload_n 2, 1) := by decide +kernel
theorem dX7_nearestCliff_41 : decode cX7_nearestCliff 41 = .ok (.iload 5, 2) := by decide +kernel
theorem dX7_nearestCliff_43 : decode cX7_nearestCliff 43 = .ok (.invokevirtual 58, 3) := by decide +kernel
theorem dX7_nearestCliff_46 : decode cX7_nearestCliff 46 = .ok (.istore 6, 2) := by decide +kernel
theorem dX7_nearestCliff_48 : decode cX7_nearestCliff 48 = .ok (.iload 6, 2) := by decide +kernel
theorem dX7_nearestCliff_50 : decode cX7_nearestCliff 50 = .ok (.iconst (-1), 1) := by decide +kernel
theorem dX7_nearestCliff_51 : decode cX7_nearestCliff 51 = .ok (.if_icmp .eq 17, 3) := by decide +kernel
theorem dX7_nearestCliff_54 : decode cX7_nearestCliff 54 = .ok (.iload 6, 2) := by decide +kernel
theorem dX7_nearestCliff_56 : decode cX7_nearestCliff 56 = .ok (.iload 4, 2) := by decide +kernel
theorem dX7_nearestCliff_58 : decode cX7_nearestCliff 58 = .ok (.if_icmp .ge 10, 3) := by decide +kernel
theorem dX7_nearestCliff_61 : decode cX7_nearestCliff 61 = .ok (.iload 6, 2) := by decide +kernel
theorem dX7_nearestCliff_63 : decode cX7_nearestCliff 63 = .ok (.istore 4, 2) := by decide +kernel
theorem dX7_nearestCliff_65 : decode cX7_nearestCliff 65 = .ok (.iload 5, 2) := by decide +kernel
theorem dX7_nearestCliff_67 : decode cX7_nearestCliff 67 = .ok (.istore_n 3, 1) := by decide +kernel
theorem dX7_nearestCliff_68 : decode cX7_nearestCliff 68 = .ok (.iinc 5 1, 3) := by decide +kernel
theorem dX7_nearestCliff_71 : decode cX7_nearestCliff 71 = .ok (.goto (-45), 3) := by decide +kernel
theorem dX7_nearestCliff_74 : decode cX7_nearestCliff 74 = .ok (.iload_n 3, 1) := by decide +kernel
theorem dX7_nearestCliff_75 : decode cX7_nearestCliff 75 = .ok (.ireturn, 1) := by decide +kernel
set_option maxRecDepth 20000 in
theorem ggX7_placesAbove_X7_leadTo : GoodIn wsX7_placesAbove wsX7_leadTo := goodIn_r _ [5, 6, 7, 8, 9, 10, 11, 12, 13, 14, 15, 4, 16, 17, 18, 19, 20, 21, 22, 23, 24, 25, 26, 27, 28, 29, 30, 31, 32, 37, 38, 39] (by decide +kernel) (by decide +kernel)
set_option maxRecDepth 20000 in
theorem gX7_placesAbove_X7_leadTo : GoodIn wsX7_placesAbove (wsV RX7 43 RX7 yX7_leadTo wsX7_leadTo) := goodIn_app (goodIn_of _ (by decide +kernel)) ggX7_placesAbove_X7_leadTo
set_option maxRecDepth 20000 in
theorem ggX7_placesAbove_X7_stepsFrom : GoodIn wsX7_placesAbove wsX7_stepsFrom := goodIn_r _ [36, 6, 7, 37, 38, 39] (by decide +kernel) (by decide +kernel)
set_option maxRecDepth 20000 in
theorem gX7_placesAbove_X7_stepsFrom : GoodIn wsX7_placesAbove (wsV RX7 50 RX7 yX7_stepsFrom wsX7_stepsFrom) := goodIn_app (goodIn_of _ (by decide +kernel)) ggX7_placesAbove_X7_stepsFrom
theorem dX7_placesAbove_0 : decode cX7_placesAbove 0 = .ok (.aload_n 0, 1) := by decide +kernel
theorem dX7_placesAbove_1 : decode cX7_placesAbove 1 = .ok (.aload_n 1, 1) := by decide +kernel
theorem dX7_placesAbove_2 : decode cX7_placesAbove 2 = .ok (.iload_n 2, 1) := by decide +kernel
theorem dX7_placesAbove_3 : decode cX7_placesAbove 3 = .ok (.invokevirtual 43, 3) := by decide +kernel
theorem dX7_placesAbove_6 : decode cX7_placesAbove 6 = .ok (.iconst 0, 1) := by decide +kernel
theorem dX7_placesAbove_7 : decode cX7_placesAbove 7 = .ok (.istore_n 3, 1) := by decide +kernel
theorem dX7_placesAbove_8 : decode cX7_placesAbove 8 = .ok (.iconst 0, 1) := by decide +kernel
theorem dX7_placesAbove_9 : decode cX7_placesAbove 9 = .ok (.istore 4, 2) := by decide +kernel
theorem dX7_placesAbove_11 : decode cX7_placesAbove 11 = .ok (.iload 4, 2) := by decide +kernel
theorem dX7_placesAbove_13 : decode cX7_placesAbove 13 = .ok (.bipush 64, 2) := by decide +kernel
theorem dX7_placesAbove_15 : decode cX7_placesAbove 15 = .ok (.if_icmp .ge 22, 3) := by decide +kernel
theorem dX7_placesAbove_18 : decode cX7_placesAbove 18 = .ok (.aload_n 0, 1) := by decide +kernel
theorem dX7_placesAbove_19 : decode cX7_placesAbove 19 = .ok (.iload 4, 2) := by decide +kernel
theorem dX7_placesAbove_21 : decode cX7_placesAbove 21 = .ok (.invokevirtual 50, 3) := by decide +kernel
theorem dX7_placesAbove_24 : decode cX7_placesAbove 24 = .ok (.iconst (-1), 1) := by decide +kernel
theorem dX7_placesAbove_25 : decode cX7_placesAbove 25 = .ok (.if_icmp .eq 6, 3) := by decide +kernel
theorem dX7_placesAbove_28 : decode cX7_placesAbove 28 = .ok (.iinc 3 1, 3) := by decide +kernel
theorem dX7_placesAbove_31 : decode cX7_placesAbove 31 = .ok (.iinc 4 1, 3) := by decide +kernel
theorem dX7_placesAbove_34 : decode cX7_placesAbove 34 = .ok (.goto (-23), 3) := by decide +kernel
theorem dX7_placesAbove_37 : decode cX7_placesAbove 37 = .ok (.iload_n 3, 1) := by decide +kernel
theorem dX7_placesAbove_38 : decode cX7_placesAbove 38 = .ok (.ireturn, 1) := by decide +kernel
set_option maxRecDepth 20000 in
theorem ggX7_stepsOfSort_X4_cell : GoodIn wsX7_stepsOfSort wsX4_cell := goodIn_r _ [7, 8, 9, 10, 11, 6, 12, 13, 31, 32, 33] (by decide +kernel) (by decide +kernel)
set_option maxRecDepth 20000 in
theorem gX7_stepsOfSort_X4_cell : GoodIn wsX7_stepsOfSort (wsV RX7 38 RX4 yX4_cell wsX4_cell) := goodIn_app (goodIn_of _ (by decide +kernel)) ggX7_stepsOfSort_X4_cell
set_option maxRecDepth 20000 in
theorem ggX7_stepsOfSort_X7_stepsFrom : GoodIn wsX7_stepsOfSort wsX7_stepsFrom := goodIn_r _ [18, 19, 20, 34, 35, 36] (by decide +kernel) (by decide +kernel)
set_option maxRecDepth 20000 in
theorem gX7_stepsOfSort_X7_stepsFrom : GoodIn wsX7_stepsOfSort (wsV RX7 50 RX7 yX7_stepsFrom wsX7_stepsFrom) := goodIn_app (goodIn_of _ (by decide +kernel)) ggX7_stepsOfSort_X7_stepsFrom
theorem dX7_stepsOfSort_0 : decode cX7_stepsOfSort 0 = .ok (.aload_n 1, 1) := by decide +kernel
theorem dX7_stepsOfSort_1 : decode cX7_stepsOfSort 1 = .ok (.getfield 47, 3) := by decide +kernel
theorem dX7_stepsOfSort_4 : decode cX7_stepsOfSort 4 = .ok (.iload_n 3, 1) := by decide +kernel
theorem dX7_stepsOfSort_5 : decode cX7_stepsOfSort 5 = .ok (.iconst 1, 1) := by decide +kernel
theorem dX7_stepsOfSort_6 : decode cX7_stepsOfSort 6 = .ok (.invokevirtual 38, 3) := by decide +kernel
theorem dX7_stepsOfSort_9 : decode cX7_stepsOfSort 9 = .ok (.aload_n 1, 1) := by decide +kernel
theorem dX7_stepsOfSort_10 : decode cX7_stepsOfSort 10 = .ok (.getfield 34, 3) := by decide +kernel
theorem dX7_stepsOfSort_13 : decode cX7_stepsOfSort 13 = .ok (.iload_n 2, 1) := by decide +kernel
theorem dX7_stepsOfSort_14 : decode cX7_stepsOfSort 14 = .ok (.iconst 1, 1) := by decide +kernel
theorem dX7_stepsOfSort_15 : decode cX7_stepsOfSort 15 = .ok (.invokevirtual 38, 3) := by decide +kernel
theorem dX7_stepsOfSort_18 : decode cX7_stepsOfSort 18 = .ok (.if_icmp .eq 5, 3) := by decide +kernel
theorem dX7_stepsOfSort_21 : decode cX7_stepsOfSort 21 = .ok (.iconst (-1), 1) := by decide +kernel
theorem dX7_stepsOfSort_22 : decode cX7_stepsOfSort 22 = .ok (.ireturn, 1) := by decide +kernel
theorem dX7_stepsOfSort_23 : decode cX7_stepsOfSort 23 = .ok (.aload_n 0, 1) := by decide +kernel
theorem dX7_stepsOfSort_24 : decode cX7_stepsOfSort 24 = .ok (.aload_n 1, 1) := by decide +kernel
theorem dX7_stepsOfSort_25 : decode cX7_stepsOfSort 25 = .ok (.getfield 47, 3) := by decide +kernel
theorem dX7_stepsOfSort_28 : decode cX7_stepsOfSort 28 = .ok (.iload_n 3, 1) := by decide +kernel
theorem dX7_stepsOfSort_29 : decode cX7_stepsOfSort 29 = .ok (.iconst 0, 1) := by decide +kernel
theorem dX7_stepsOfSort_30 : decode cX7_stepsOfSort 30 = .ok (.invokevirtual 38, 3) := by decide +kernel
theorem dX7_stepsOfSort_33 : decode cX7_stepsOfSort 33 = .ok (.invokevirtual 50, 3) := by decide +kernel
theorem dX7_stepsOfSort_36 : decode cX7_stepsOfSort 36 = .ok (.ireturn, 1) := by decide +kernel
theorem dX7_stepsFrom_0 : decode cX7_stepsFrom 0 = .ok (.iload_n 1, 1) := by decide +kernel
theorem dX7_stepsFrom_1 : decode cX7_stepsFrom 1 = .ok (.ifCond .lt 20, 3) := by decide +kernel
theorem dX7_stepsFrom_4 : decode cX7_stepsFrom 4 = .ok (.iload_n 1, 1) := by decide +kernel
theorem dX7_stepsFrom_5 : decode cX7_stepsFrom 5 = .ok (.bipush 64, 2) := by decide +kernel
theorem dX7_stepsFrom_7 : decode cX7_stepsFrom 7 = .ok (.if_icmp .ge 14, 3) := by decide +kernel
theorem dX7_stepsFrom_10 : decode cX7_stepsFrom 10 = .ok (.aload_n 0, 1) := by decide +kernel
theorem dX7_stepsFrom_11 : decode cX7_stepsFrom 11 = .ok (.getfield 15, 3) := by decide +kernel
theorem dX7_stepsFrom_14 : decode cX7_stepsFrom 14 = .ok (.iload_n 1, 1) := by decide +kernel
theorem dX7_stepsFrom_15 : decode cX7_stepsFrom 15 = .ok (.iaload, 1) := by decide +kernel
theorem dX7_stepsFrom_16 : decode cX7_stepsFrom 16 = .ok (.ldc 62, 2) := by decide +kernel
theorem dX7_stepsFrom_18 : decode cX7_stepsFrom 18 = .ok (.if_icmp .lt 5, 3) := by decide +kernel
theorem dX7_stepsFrom_21 : decode cX7_stepsFrom 21 = .ok (.iconst (-1), 1) := by decide +kernel
theorem dX7_stepsFrom_22 : decode cX7_stepsFrom 22 = .ok (.ireturn, 1) := by decide +kernel
theorem dX7_stepsFrom_23 : decode cX7_stepsFrom 23 = .ok (.aload_n 0, 1) := by decide +kernel
theorem dX7_stepsFrom_24 : decode cX7_stepsFrom 24 = .ok (.getfield 15, 3) := by decide +kernel
theorem dX7_stepsFrom_27 : decode cX7_stepsFrom 27 = .ok (.iload_n 1, 1) := by decide +kernel
theorem dX7_stepsFrom_28 : decode cX7_stepsFrom 28 = .ok (.iaload, 1) := by decide +kernel
theorem dX7_stepsFrom_29 : decode cX7_stepsFrom 29 = .ok (.ireturn, 1) := by decide +kernel
set_option maxRecDepth 20000 in
theorem ggX7_leadTo_X7_directionOfFlow : GoodIn wsX7_leadTo wsX7_directionOfFlow := goodIn_r _ [12, 13, 14, 11, 15, 16, 17, 18, 19, 20] (by decide +kernel) (by decide +kernel)
set_option maxRecDepth 20000 in
theorem gX7_leadTo_X7_directionOfFlow : GoodIn wsX7_leadTo (va_wsS RX7 63 yX7_directionOfFlow wsX7_directionOfFlow) := goodIn_app (goodIn_of _ (by decide +kernel)) ggX7_leadTo_X7_directionOfFlow
set_option maxRecDepth 20000 in
theorem ggX7_leadTo_X7_placeBeside : GoodIn wsX7_leadTo wsX7_placeBeside := goodIn_r _ [18, 19, 20] (by decide +kernel) (by decide +kernel)
set_option maxRecDepth 20000 in
theorem gX7_leadTo_X7_placeBeside : GoodIn wsX7_leadTo (va_wsS RX7 25 yX7_placeBeside wsX7_placeBeside) := goodIn_app (goodIn_of _ (by decide +kernel)) ggX7_leadTo_X7_placeBeside
set_option maxRecDepth 20000 in
theorem ggX7_leadTo_X7_fewestDownFrom : GoodIn wsX7_leadTo wsX7_fewestDownFrom := goodIn_r _ [24, 2, 1, 25, 26, 27, 28, 3, 29, 30, 31] (by decide +kernel) (by decide +kernel)
set_option maxRecDepth 20000 in
theorem gX7_leadTo_X7_fewestDownFrom : GoodIn wsX7_leadTo (wsV RX7 66 RX7 yX7_fewestDownFrom wsX7_fewestDownFrom) := goodIn_app (goodIn_of _ (by decide +kernel)) ggX7_leadTo_X7_fewestDownFrom
theorem dX7_leadTo_0 : decode cX7_leadTo 0 = .ok (.iconst 0, 1) := by decide +kernel
theorem dX7_leadTo_1 : decode cX7_leadTo 1 = .ok (.istore_n 3, 1) := by decide +kernel
theorem dX7_leadTo_2 : decode cX7_leadTo 2 = .ok (.iload_n 3, 1) := by decide +kernel
theorem dX7_leadTo_3 : decode cX7_leadTo 3 = .ok (.bipush 64, 2) := by decide +kernel
theorem dX7_leadTo_5 : decode cX7_leadTo 5 = .ok (.if_icmp .ge 26, 3) := by decide +kernel
theorem dX7_leadTo_8 : decode cX7_leadTo 8 = .ok (.aload_n 0, 1) := by decide +kernel
theorem dX7_leadTo_9 : decode cX7_leadTo 9 = .ok (.getfield 15, 3) := by decide +kernel
theorem dX7_leadTo_12 : decode cX7_leadTo 12 = .ok (.iload_n 3, 1) := by decide +kernel
theorem dX7_leadTo_13 : decode cX7_leadTo 13 = .ok (.iload_n 3, 1) := by decide +kernel
theorem dX7_leadTo_14 : decode cX7_leadTo 14 = .ok (.iload_n 2, 1) := by decide +kernel
theorem dX7_leadTo_15 : decode cX7_leadTo 15 = .ok (.if_icmp .ne 7, 3) := by decide +kernel
theorem dX7_leadTo_18 : decode cX7_leadTo 18 = .ok (.iconst 0, 1) := by decide +kernel
theorem dX7_leadTo_19 : decode cX7_leadTo 19 = .ok (.goto 5, 3) := by decide +kernel
theorem dX7_leadTo_22 : decode cX7_leadTo 22 = .ok (.ldc 62, 2) := by decide +kernel
theorem dX7_leadTo_24 : decode cX7_leadTo 24 = .ok (.iastore, 1) := by decide +kernel
theorem dX7_leadTo_25 : decode cX7_leadTo 25 = .ok (.iinc 3 1, 3) := by decide +kernel
theorem dX7_leadTo_28 : decode cX7_leadTo 28 = .ok (.goto (-26), 3) := by decide +kernel
theorem dX7_leadTo_31 : decode cX7_leadTo 31 = .ok (.iconst 2, 1) := by decide +kernel
theorem dX7_leadTo_32 : decode cX7_leadTo 32 = .ok (.istore_n 3, 1) := by decide +kernel
theorem dX7_leadTo_33 : decode cX7_leadTo 33 = .ok (.iload_n 3, 1) := by decide +kernel
theorem dX7_leadTo_34 : decode cX7_leadTo 34 = .ok (.ifCond .lt 88, 3) := by decide +kernel
theorem dX7_leadTo_37 : decode cX7_leadTo 37 = .ok (.iconst 0, 1) := by decide +kernel
theorem dX7_leadTo_38 : decode cX7_leadTo 38 = .ok (.istore 4, 2) := by decide +kernel
theorem dX7_leadTo_40 : decode cX7_leadTo 40 = .ok (.iload 4, 2) := by decide +kernel
theorem dX7_leadTo_42 : decode cX7_leadTo 42 = .ok (.bipush 64, 2) := by decide +kernel
theorem dX7_leadTo_44 : decode cX7_leadTo 44 = .ok (.if_icmp .ge 28, 3) := by decide +kernel
theorem dX7_leadTo_47 : decode cX7_leadTo 47 = .ok (.aload_n 0, 1) := by decide +kernel
theorem dX7_leadTo_48 : decode cX7_leadTo 48 = .ok (.getfield 11, 3) := by decide +kernel
theorem dX7_leadTo_51 : decode cX7_leadTo 51 = .ok (.iload 4, 2) := by decide +kernel
theorem dX7_leadTo_53 : decode cX7_leadTo 53 = .ok (.iload 4, 2) := by decide +kernel
theorem dX7_leadTo_55 : decode cX7_leadTo 55 = .ok (.aload_n 1, 1) := by decide +kernel
theorem dX7_leadTo_56 : decode cX7_leadTo 56 = .ok (.iload_n 3, 1) := by decide +kernel
theorem dX7_leadTo_57 : decode cX7_leadTo 57 = .ok (.iload 4, 2) := by decide +kernel
theorem dX7_leadTo_59 : decode cX7_leadTo 59 = .ok (.invokestatic 63, 3) := by decide +kernel
theorem dX7_leadTo_62 : decode cX7_leadTo 62 = .ok (.invokestatic 25, 3) := by decide +kernel
theorem dX7_leadTo_65 : decode cX7_leadTo 65 = .ok (.iastore, 1) := by decide +kernel
theorem dX7_leadTo_66 : decode cX7_leadTo 66 = .ok (.iinc 4 1, 3) := by decide +kernel
theorem dX7_leadTo_69 : decode cX7_leadTo 69 = .ok (.goto (-29), 3) := by decide +kernel
theorem dX7_leadTo_72 : decode cX7_leadTo 72 = .ok (.iconst 0, 1) := by decide +kernel
theorem dX7_leadTo_73 : decode cX7_leadTo 73 = .ok (.istore 4, 2) := by decide +kernel
theorem dX7_leadTo_75 : decode cX7_leadTo 75 = .ok (.iload 4, 2) := by decide +kernel
theorem dX7_leadTo_77 : decode cX7_leadTo 77 = .ok (.bipush 64, 2) := by decide +kernel
theorem dX7_leadTo_79 : decode cX7_leadTo 79 = .ok (.if_icmp .ge 22, 3) := by decide +kernel
theorem dX7_leadTo_82 : decode cX7_leadTo 82 = .ok (.aload_n 0, 1) := by decide +kernel
theorem dX7_leadTo_83 : decode cX7_leadTo 83 = .ok (.getfield 18, 3) := by decide +kernel
theorem dX7_leadTo_86 : decode cX7_leadTo 86 = .ok (.iload 4, 2) := by decide +kernel
theorem dX7_leadTo_88 : decode cX7_leadTo 88 = .ok (.aload_n 0, 1) := by decide +kernel
theorem dX7_leadTo_89 : decode cX7_leadTo 89 = .ok (.iload 4, 2) := by decide +kernel
theorem dX7_leadTo_91 : decode cX7_leadTo 91 = .ok (.invokevirtual 66, 3) := by decide +kernel
theorem dX7_leadTo_94 : decode cX7_leadTo 94 = .ok (.iastore, 1) := by decide +kernel
theorem dX7_leadTo_95 : decode cX7_leadTo 95 = .ok (.iinc 4 1, 3) := by decide +kernel
theorem dX7_leadTo_98 : decode cX7_leadTo 98 = .ok (.goto (-23), 3) := by decide +kernel
theorem dX7_leadTo_101 : decode cX7_leadTo 101 = .ok (.aload_n 0, 1) := by decide +kernel
theorem dX7_leadTo_102 : decode cX7_leadTo 102 = .ok (.getfield 18, 3) := by decide +kernel
theorem dX7_leadTo_105 : decode cX7_leadTo 105 = .ok (.iconst 0, 1) := by decide +kernel
theorem dX7_leadTo_106 : decode cX7_leadTo 106 = .ok (.aload_n 0, 1) := by decide +kernel
theorem dX7_leadTo_107 : decode cX7_leadTo 107 = .ok (.getfield 15, 3) := by decide +kernel
theorem dX7_leadTo_110 : decode cX7_leadTo 110 = .ok (.iconst 0, 1) := by decide +kernel
theorem dX7_leadTo_111 : decode cX7_leadTo 111 = .ok (.bipush 64, 2) := by decide +kernel
theorem dX7_leadTo_113 : decode cX7_leadTo 113 = .ok (.invokestatic 69, 3) := by decide +kernel
theorem dX7_leadTo_116 : decode cX7_leadTo 116 = .ok (.iinc 3 (-1), 3) := by decide +kernel
theorem dX7_leadTo_119 : decode cX7_leadTo 119 = .ok (.goto (-86), 3) := by decide +kernel
theorem dX7_leadTo_122 : decode cX7_leadTo 122 = .ok (.return_, 1) := by decide +kernel
theorem dX7_fewestDownFrom_0 : decode cX7_fewestDownFrom 0 = .ok (.ldc 62, 2) := by decide +kernel
theorem dX7_fewestDownFrom_2 : decode cX7_fewestDownFrom 2 = .ok (.istore_n 2, 1) := by decide +kernel
theorem dX7_fewestDownFrom_3 : decode cX7_fewestDownFrom 3 = .ok (.iload_n 1, 1) := by decide +kernel
theorem dX7_fewestDownFrom_4 : decode cX7_fewestDownFrom 4 = .ok (.istore_n 3, 1) := by decide +kernel
theorem dX7_fewestDownFrom_5 : decode cX7_fewestDownFrom 5 = .ok (.iconst 0, 1) := by decide +kernel
theorem dX7_fewestDownFrom_6 : decode cX7_fewestDownFrom 6 = .ok (.istore 4, 2) := by decide +kernel
theorem dX7_fewestDownFrom_8 : decode cX7_fewestDownFrom 8 = .ok (.iload 4, 2) := by decide +kernel
theorem dX7_fewestDownFrom_10 : decode cX7_fewestDownFrom 10 = .ok (.bipush 64, 2) := by decide +kernel
theorem dX7_fewestDownFrom_12 : decode cX7_fewestDownFrom 12 = .ok (.if_icmp .ge 40, 3) := by decide +kernel
theorem dX7_fewestDownFrom_15 : decode cX7_fewestDownFrom 15 = .ok (.iload_n 3, 1) := by decide +kernel
theorem dX7_fewestDownFrom_16 : decode cX7_fewestDownFrom 16 = .ok (.ifCond .lt 36, 3) := by decide +kernel
theorem dX7_fewestDownFrom_19 : decode cX7_fewestDownFrom 19 = .ok (.iload_n 3, 1) := by decide +kernel
theorem dX7_fewestDownFrom_20 : decode cX7_fewestDownFrom 20 = .ok (.bipush 64, 2) := by decide +kernel
theorem dX7_fewestDownFrom_22 : decode cX7_fewestDownFrom 22 = .ok (.if_icmp .ge 30, 3) := by decide +kernel
theorem dX7_fewestDownFrom_25 : decode cX7_fewestDownFrom 25 = .ok (.iload_n 2, 1) := by decide +kernel
theorem dX7_fewestDownFrom_26 : decode cX7_fewestDownFrom 26 = .ok (.iload 4, 2) := by decide +kernel
theorem dX7_fewestDownFrom_28 : decode cX7_fewestDownFrom 28 = .ok (.aload_n 0, 1) := by decide +kernel
theorem dX7_fewestDownFrom_29 : decode cX7_fewestDownFrom 29 = .ok (.getfield 15, 3) := by decide +kernel
theorem dX7_fewestDownFrom_32 : decode cX7_fewestDownFrom 32 = .ok (.iload_n 3, 1) := by decide +kernel
theorem dX7_fewestDownFrom_33 : decode cX7_fewestDownFrom 33 = .ok (.iaload, 1) := by decide +kernel
theorem dX7_fewestDownFrom_34 : decode cX7_fewestDownFrom 34 = .ok (.iadd, 1) := by decide +kernel
theorem dX7_fewestDownFrom_35 : decode cX7_fewestDownFrom 35 = .ok (.invokestatic 75, 3) := by decide +kernel
theorem dX7_fewestDownFrom_38 : decode cX7_fewestDownFrom 38 = .ok (.istore_n 2, 1) := by decide +kernel
theorem dX7_fewestDownFrom_39 : decode cX7_fewestDownFrom 39 = .ok (.aload_n 0, 1) := by decide +kernel
theorem dX7_fewestDownFrom_40 : decode cX7_fewestDownFrom 40 = .ok (.getfield 11, 3) := by decide +kernel
theorem dX7_fewestDownFrom_43 : decode cX7_fewestDownFrom 43 = .ok (.iload_n 3, 1) := by decide +kernel
theorem dX7_fewestDownFrom_44 : decode cX7_fewestDownFrom 44 = .ok (.iaload, 1) := by decide +kernel
theorem dX7_fewestDownFrom_45 : decode cX7_fewestDownFrom 45 = .ok (.istore_n 3, 1) := by decide +kernel
theorem dX7_fewestDownFrom_46 : decode cX7_fewestDownFrom 46 = .ok (.iinc 4 1, 3) := by decide +kernel
theorem dX7_fewestDownFrom_49 : decode cX7_fewestDownFrom 49 = .ok (.goto (-41), 3) := by decide +kernel
theorem dX7_fewestDownFrom_52 : decode cX7_fewestDownFrom 52 = .ok (.iload_n 2, 1) := by decide +kernel
theorem dX7_fewestDownFrom_53 : decode cX7_fewestDownFrom 53 = .ok (.ireturn, 1) := by decide +kernel
theorem dX7_surfaceAt_0 : decode cX7_surfaceAt 0 = .ok (.bipush 64, 2) := by decide +kernel
theorem dX7_surfaceAt_2 : decode cX7_surfaceAt 2 = .ok (.iload_n 1, 1) := by decide +kernel
theorem dX7_surfaceAt_3 : decode cX7_surfaceAt 3 = .ok (.imul, 1) := by decide +kernel
theorem dX7_surfaceAt_4 : decode cX7_surfaceAt 4 = .ok (.iload_n 2, 1) := by decide +kernel
theorem dX7_surfaceAt_5 : decode cX7_surfaceAt 5 = .ok (.iadd, 1) := by decide +kernel
theorem dX7_surfaceAt_6 : decode cX7_surfaceAt 6 = .ok (.istore_n 3, 1) := by decide +kernel
theorem dX7_surfaceAt_7 : decode cX7_surfaceAt 7 = .ok (.iload_n 3, 1) := by decide +kernel
theorem dX7_surfaceAt_8 : decode cX7_surfaceAt 8 = .ok (.ifCond .lt 15, 3) := by decide +kernel
theorem dX7_surfaceAt_11 : decode cX7_surfaceAt 11 = .ok (.iload_n 3, 1) := by decide +kernel
theorem dX7_surfaceAt_12 : decode cX7_surfaceAt 12 = .ok (.aload_n 0, 1) := by decide +kernel
theorem dX7_surfaceAt_13 : decode cX7_surfaceAt 13 = .ok (.arraylength, 1) := by decide +kernel
theorem dX7_surfaceAt_14 : decode cX7_surfaceAt 14 = .ok (.if_icmp .ge 9, 3) := by decide +kernel
theorem dX7_surfaceAt_17 : decode cX7_surfaceAt 17 = .ok (.aload_n 0, 1) := by decide +kernel
theorem dX7_surfaceAt_18 : decode cX7_surfaceAt 18 = .ok (.iload_n 3, 1) := by decide +kernel
theorem dX7_surfaceAt_19 : decode cX7_surfaceAt 19 = .ok (.iaload, 1) := by decide +kernel
theorem dX7_surfaceAt_20 : decode cX7_surfaceAt 20 = .ok (.goto 4, 3) := by decide +kernel
theorem dX7_surfaceAt_23 : decode cX7_surfaceAt 23 = .ok (.iconst 0, 1) := by decide +kernel
theorem dX7_surfaceAt_24 : decode cX7_surfaceAt 24 = .ok (.ireturn, 1) := by decide +kernel
theorem dX7_placeBeside_0 : decode cX7_placeBeside 0 = .ok (.iload_n 1, 1) := by decide +kernel
theorem dX7_placeBeside_1 : decode cX7_placeBeside 1 = .ok (.ifCond .lt 9, 3) := by decide +kernel
theorem dX7_placeBeside_4 : decode cX7_placeBeside 4 = .ok (.iload_n 1, 1) := by decide +kernel
theorem dX7_placeBeside_5 : decode cX7_placeBeside 5 = .ok (.bipush 8, 2) := by decide +kernel
theorem dX7_placeBeside_7 : decode cX7_placeBeside 7 = .ok (.if_icmp .lt 5, 3) := by decide +kernel
theorem dX7_placeBeside_10 : decode cX7_placeBeside 10 = .ok (.iconst (-1), 1) := by decide +kernel
theorem dX7_placeBeside_11 : decode cX7_placeBeside 11 = .ok (.ireturn, 1) := by decide +kernel
theorem dX7_placeBeside_12 : decode cX7_placeBeside 12 = .ok (.iload_n 0, 1) := by decide +kernel
theorem dX7_placeBeside_13 : decode cX7_placeBeside 13 = .ok (.bipush 8, 2) := by decide +kernel
theorem dX7_placeBeside_15 : decode cX7_placeBeside 15 = .ok (.idiv, 1) := by decide +kernel
theorem dX7_placeBeside_16 : decode cX7_placeBeside 16 = .ok (.getstatic 80, 3) := by decide +kernel
theorem dX7_placeBeside_19 : decode cX7_placeBeside 19 = .ok (.iload_n 1, 1) := by decide +kernel
theorem dX7_placeBeside_20 : decode cX7_placeBeside 20 = .ok (.iaload, 1) := by decide +kernel
theorem dX7_placeBeside_21 : decode cX7_placeBeside 21 = .ok (.iadd, 1) := by decide +kernel
theorem dX7_placeBeside_22 : decode cX7_placeBeside 22 = .ok (.istore_n 2, 1) := by decide +kernel
theorem dX7_placeBeside_23 : decode cX7_placeBeside 23 = .ok (.iload_n 0, 1) := by decide +kernel
theorem dX7_placeBeside_24 : decode cX7_placeBeside 24 = .ok (.bipush 8, 2) := by decide +kernel
theorem dX7_placeBeside_26 : decode cX7_placeBeside 26 = .ok (.irem, 1) := by decide +kernel
theorem dX7_placeBeside_27 : decode cX7_placeBeside 27 = .ok (.getstatic 83, 3) := by decide +kernel
theorem dX7_placeBeside_30 : decode cX7_placeBeside 30 = .ok (.iload_n 1, 1) := by decide +kernel
theorem dX7_placeBeside_31 : decode cX7_placeBeside 31 = .ok (.iaload, 1) := by decide +kernel
theorem dX7_placeBeside_32 : decode cX7_placeBeside 32 = .ok (.iadd, 1) := by decide +kernel
theorem dX7_placeBeside_33 : decode cX7_placeBeside 33 = .ok (.istore_n 3, 1) := by decide +kernel
theorem dX7_placeBeside_34 : decode cX7_placeBeside 34 = .ok (.iload_n 2, 1) := by decide +kernel
theorem dX7_placeBeside_35 : decode cX7_placeBeside 35 = .ok (.ifCond .lt 19, 3) := by decide +kernel
theorem dX7_placeBeside_38 : decode cX7_placeBeside 38 = .ok (.iload_n 2, 1) := by decide +kernel
theorem dX7_placeBeside_39 : decode cX7_placeBeside 39 = .ok (.bipush 8, 2) := by decide +kernel
theorem dX7_placeBeside_41 : decode cX7_placeBeside 41 = .ok (.if_icmp .ge 13, 3) := by decide +kernel
theorem dX7_placeBeside_44 : decode cX7_placeBeside 44 = .ok (.iload_n 3, 1) := by decide +kernel
theorem dX7_placeBeside_45 : decode cX7_placeBeside 45 = .ok (.ifCond .lt 9, 3) := by decide +kernel
theorem dX7_placeBeside_48 : decode cX7_placeBeside 48 = .ok (.iload_n 3, 1) := by decide +kernel
theorem dX7_placeBeside_49 : decode cX7_placeBeside 49 = .ok (.bipush 8, 2) := by decide +kernel
theorem dX7_placeBeside_51 : decode cX7_placeBeside 51 = .ok (.if_icmp .lt 7, 3) := by decide +kernel
theorem dX7_placeBeside_54 : decode cX7_placeBeside 54 = .ok (.iconst 1, 1) := by decide +kernel
theorem dX7_placeBeside_55 : decode cX7_placeBeside 55 = .ok (.goto 4, 3) := by decide +kernel
theorem dX7_placeBeside_58 : decode cX7_placeBeside 58 = .ok (.iconst 0, 1) := by decide +kernel
theorem dX7_placeBeside_59 : decode cX7_placeBeside 59 = .ok (.istore 4, 2) := by decide +kernel
theorem dX7_placeBeside_61 : decode cX7_placeBeside 61 = .ok (.iload 4, 2) := by decide +kernel
theorem dX7_placeBeside_63 : decode cX7_placeBeside 63 = .ok (.ifCond .eq 7, 3) := by decide +kernel
theorem dX7_placeBeside_66 : decode cX7_placeBeside 66 = .ok (.iconst (-1), 1) := by decide +kernel
theorem dX7_placeBeside_67 : decode cX7_placeBeside 67 = .ok (.goto 9, 3) := by decide +kernel
theorem dX7_placeBeside_70 : decode cX7_placeBeside 70 = .ok (.bipush 8, 2) := by decide +kernel
theorem dX7_placeBeside_72 : decode cX7_placeBeside 72 = .ok (.iload_n 2, 1) := by decide +kernel
theorem dX7_placeBeside_73 : decode cX7_placeBeside 73 = .ok (.imul, 1) := by decide +kernel
theorem dX7_placeBeside_74 : decode cX7_placeBeside 74 = .ok (.iload_n 3, 1) := by decide +kernel
theorem dX7_placeBeside_75 : decode cX7_placeBeside 75 = .ok (.iadd, 1) := by decide +kernel
theorem dX7_placeBeside_76 : decode cX7_placeBeside 76 = .ok (.ireturn, 1) := by decide +kernel
theorem dX8_standsAt_0 : decode cX8_standsAt 0 = .ok (.iconst (-1), 1) := by decide +kernel
theorem dX8_standsAt_1 : decode cX8_standsAt 1 = .ok (.istore_n 3, 1) := by decide +kernel
theorem dX8_standsAt_2 : decode cX8_standsAt 2 = .ok (.iconst 0, 1) := by decide +kernel
theorem dX8_standsAt_3 : decode cX8_standsAt 3 = .ok (.istore 4, 2) := by decide +kernel
theorem dX8_standsAt_5 : decode cX8_standsAt 5 = .ok (.iconst 0, 1) := by decide +kernel
theorem dX8_standsAt_6 : decode cX8_standsAt 6 = .ok (.istore 5, 2) := by decide +kernel
theorem dX8_standsAt_8 : decode cX8_standsAt 8 = .ok (.iload 5, 2) := by decide +kernel
theorem dX8_standsAt_10 : decode cX8_standsAt 10 = .ok (.bipush 21, 2) := by decide +kernel
theorem dX8_standsAt_12 : decode cX8_standsAt 12 = .ok (.if_icmp .ge 44, 3) := by decide +kernel
theorem dX8_standsAt_15 : decode cX8_standsAt 15 = .ok (.iload 4, 2) := by decide +kernel
theorem dX8_standsAt_17 : decode cX8_standsAt 17 = .ok (.iload_n 2, 1) := by decide +kernel
theorem dX8_standsAt_18 : decode cX8_standsAt 18 = .ok (.aload_n 0, 1) := by decide +kernel
theorem dX8_standsAt_19 : decode cX8_standsAt 19 = .ok (.getfield 11, 3) := by decide +kernel
theorem dX8_standsAt_22 : decode cX8_standsAt 22 = .ok (.iconst 3, 1) := by decide +kernel
theorem dX8_standsAt_23 : decode cX8_standsAt 23 = .ok (.iaload, 1) := by decide +kernel
theorem dX8_standsAt_24 : decode cX8_standsAt 24 = .ok (.iconst 0, 1) := by decide +kernel
theorem dX8_standsAt_25 : decode cX8_standsAt 25 = .ok (.iload_n 1, 1) := by decide +kernel
theorem dX8_standsAt_26 : decode cX8_standsAt 26 = .ok (.aload_n 0, 1) := by decide +kernel
theorem dX8_standsAt_27 : decode cX8_standsAt 27 = .ok (.getfield 17, 3) := by decide +kernel
theorem dX8_standsAt_30 : decode cX8_standsAt 30 = .ok (.iload 5, 2) := by decide +kernel
theorem dX8_standsAt_32 : decode cX8_standsAt 32 = .ok (.iaload, 1) := by decide +kernel
theorem dX8_standsAt_33 : decode cX8_standsAt 33 = .ok (.isub, 1) := by decide +kernel
theorem dX8_standsAt_34 : decode cX8_standsAt 34 = .ok (.invokestatic 20, 3) := by decide +kernel
theorem dX8_standsAt_37 : decode cX8_standsAt 37 = .ok (.imul, 1) := by decide +kernel
theorem dX8_standsAt_38 : decode cX8_standsAt 38 = .ok (.isub, 1) := by decide +kernel
theorem dX8_standsAt_39 : decode cX8_standsAt 39 = .ok (.iadd, 1) := by decide +kernel
theorem dX8_standsAt_40 : decode cX8_standsAt 40 = .ok (.istore 4, 2) := by decide +kernel
theorem dX8_standsAt_42 : decode cX8_standsAt 42 = .ok (.iload 4, 2) := by decide +kernel
theorem dX8_standsAt_44 : decode cX8_standsAt 44 = .ok (.ifCond .lt 6, 3) := by decide +kernel
theorem dX8_standsAt_47 : decode cX8_standsAt 47 = .ok (.iload 5, 2) := by decide +kernel
theorem dX8_standsAt_49 : decode cX8_standsAt 49 = .ok (.istore_n 3, 1) := by decide +kernel
theorem dX8_standsAt_50 : decode cX8_standsAt 50 = .ok (.iinc 5 1, 3) := by decide +kernel
theorem dX8_standsAt_53 : decode cX8_standsAt 53 = .ok (.goto (-45), 3) := by decide +kernel
theorem dX8_standsAt_56 : decode cX8_standsAt 56 = .ok (.iload_n 3, 1) := by decide +kernel
theorem dX8_standsAt_57 : decode cX8_standsAt 57 = .ok (.ireturn, 1) := by decide +kernel
set_option maxRecDepth 20000 in
theorem ggX8_leastFor_X8_standsAt : GoodIn wsX8_leastFor wsX8_standsAt := goodIn_r _ [4, 5, 6, 7, 8, 9, 10, 11, 12, 13, 14, 15, 16, 17, 18, 19, 20] (by decide +kernel) (by decide +kernel)
set_option maxRecDepth 20000 in
theorem gX8_leastFor_X8_standsAt : GoodIn wsX8_leastFor (va_wsS RX8 26 yX8_standsAt wsX8_standsAt) := goodIn_app (goodIn_of _ (by decide +kernel)) ggX8_leastFor_X8_standsAt
theorem dX8_leastFor_0 : decode cX8_leastFor 0 = .ok (.iconst 0, 1) := by decide +kernel
theorem dX8_leastFor_1 : decode cX8_leastFor 1 = .ok (.istore_n 3, 1) := by decide +kernel
theorem dX8_leastFor_2 : decode cX8_leastFor 2 = .ok (.iload_n 3, 1) := by decide +kernel
theorem dX8_leastFor_3 : decode cX8_leastFor 3 = .ok (.bipush 60, 2) := by decide +kernel
theorem dX8_leastFor_5 : decode cX8_leastFor 5 = .ok (.if_icmp .gt 21, 3) := by decide +kernel
theorem dX8_leastFor_8 : decode cX8_leastFor 8 = .ok (.aload_n 0, 1) := by decide +kernel
theorem dX8_leastFor_9 : decode cX8_leastFor 9 = .ok (.iload_n 3, 1) := by decide +kernel
theorem dX8_leastFor_10 : decode cX8_leastFor 10 = .ok (.iload_n 2, 1) := by decide +kernel
theorem dX8_leastFor_11 : decode cX8_leastFor 11 = .ok (.invokestatic 26, 3) := by decide +kernel
theorem dX8_leastFor_14 : decode cX8_leastFor 14 = .ok (.iload_n 1, 1) := by decide +kernel
theorem dX8_leastFor_15 : decode cX8_leastFor 15 = .ok (.if_icmp .ne 5, 3) := by decide +kernel
theorem dX8_leastFor_18 : decode cX8_leastFor 18 = .ok (.iload_n 3, 1) := by decide +kernel
theorem dX8_leastFor_19 : decode cX8_leastFor 19 = .ok (.ireturn, 1) := by decide +kernel
theorem dX8_leastFor_20 : decode cX8_leastFor 20 = .ok (.iinc 3 1, 3) := by decide +kernel
theorem dX8_leastFor_23 : decode cX8_leastFor 23 = .ok (.goto (-21), 3) := by decide +kernel
theorem dX8_leastFor_26 : decode cX8_leastFor 26 = .ok (.iconst (-1), 1) := by decide +kernel
theorem dX8_leastFor_27 : decode cX8_leastFor 27 = .ok (.ireturn, 1) := by decide +kernel
set_option maxRecDepth 20000 in
theorem ggX8_greatestFor_X8_standsAt : GoodIn wsX8_greatestFor wsX8_standsAt := goodIn_r _ [4, 5, 6, 7, 8, 9, 10, 11, 12, 13, 14, 15, 16, 17, 18, 19, 20] (by decide +kernel) (by decide +kernel)
set_option maxRecDepth 20000 in
theorem gX8_greatestFor_X8_standsAt : GoodIn wsX8_greatestFor (va_wsS RX8 26 yX8_standsAt wsX8_standsAt) := goodIn_app (goodIn_of _ (by decide +kernel)) ggX8_greatestFor_X8_standsAt
theorem dX8_greatestFor_0 : decode cX8_greatestFor 0 = .ok (.bipush 60, 2) := by decide +kernel
theorem dX8_greatestFor_2 : decode cX8_greatestFor 2 = .ok (.istore_n 3, 1) := by decide +kernel
theorem dX8_greatestFor_3 : decode cX8_greatestFor 3 = .ok (.iload_n 3, 1) := by decide +kernel
theorem dX8_greatestFor_4 : decode cX8_greatestFor 4 = .ok (.ifCond .lt 21, 3) := by decide +kernel
theorem dX8_greatestFor_7 : decode cX8_greatestFor 7 = .ok (.aload_n 0, 1) := by decide +kernel
theorem dX8_greatestFor_8 : decode cX8_greatestFor 8 = .ok (.iload_n 3, 1) := by decide +kernel
theorem dX8_greatestFor_9 : decode cX8_greatestFor 9 = .ok (.iload_n 2, 1) := by decide +kernel
theorem dX8_greatestFor_10 : decode cX8_greatestFor 10 = .ok (.invokestatic 26, 3) := by decide +kernel
theorem dX8_greatestFor_13 : decode cX8_greatestFor 13 = .ok (.iload_n 1, 1) := by decide +kernel
theorem dX8_greatestFor_14 : decode cX8_greatestFor 14 = .ok (.if_icmp .ne 5, 3) := by decide +kernel
theorem dX8_greatestFor_17 : decode cX8_greatestFor 17 = .ok (.iload_n 3, 1) := by decide +kernel
theorem dX8_greatestFor_18 : decode cX8_greatestFor 18 = .ok (.ireturn, 1) := by decide +kernel
theorem dX8_greatestFor_19 : decode cX8_greatestFor 19 = .ok (.iinc 3 (-1), 3) := by decide +kernel
theorem dX8_greatestFor_22 : decode cX8_greatestFor 22 = .ok (.goto (-19), 3) := by decide +kernel
theorem dX8_greatestFor_25 : decode cX8_greatestFor 25 = .ok (.iconst (-1), 1) := by decide +kernel
theorem dX8_greatestFor_26 : decode cX8_greatestFor 26 = .ok (.ireturn, 1) := by decide +kernel
set_option maxRecDepth 20000 in
theorem ggX9_init_X1_init : GoodIn wsX9_init wsX1_init := goodIn_r _ [33, 34, 2, 3, 35, 36, 37, 38, 39, 40, 41, 42, 43, 44, 45, 46, 47, 48, 49, 50, 51, 52, 53, 54, 55, 56, 57, 58, 59, 60, 107, 108, 109, 110, 111, 112, 113, 114, 115, 116, 165, 166, 167] (by decide +kernel) (by decide +kernel)
set_option maxRecDepth 20000 in
theorem gX9_init_X1_init : GoodIn wsX9_init (wsX1_init) := ggX9_init_X1_init
set_option maxRecDepth 20000 in
theorem ggX9_init_X7_init : GoodIn wsX9_init wsX7_init := goodIn_r _ [63, 64, 2, 3, 35, 65, 66, 67, 128, 129, 130] (by decide +kernel) (by decide +kernel)
set_option maxRecDepth 20000 in
theorem gX9_init_X7_init : GoodIn wsX9_init (wsX7_init) := ggX9_init_X7_init
set_option maxRecDepth 20000 in
theorem ggX9_init_X0_init : GoodIn wsX9_init wsX0_init := goodIn_r _ [70, 71, 2, 3, 35, 72, 73, 74, 75, 76, 77, 78, 79, 80, 81, 38, 39, 82, 83, 49, 50, 51, 52, 53, 54, 55, 56, 57, 58, 59, 60, 131, 132, 133, 134, 135, 136, 137, 138, 139, 140, 141, 142, 143, 144, 165, 166, 167] (by decide +kernel) (by decide +kernel)
set_option maxRecDepth 20000 in
theorem gX9_init_X0_init : GoodIn wsX9_init (wsX0_init) := ggX9_init_X0_init
set_option maxRecDepth 20000 in
theorem ggX9_init_X2_init : GoodIn wsX9_init wsX2_init := goodIn_r _ [86, 87, 2, 3, 35, 88, 89, 90, 91, 92, 93, 38, 39, 94, 95, 49, 50, 51, 52, 53, 54, 55, 56, 57, 58, 59, 60, 145, 146, 147, 148, 149, 150, 151, 152, 153, 154, 165, 166, 167] (by decide +kernel) (by decide +kernel)
set_option maxRecDepth 20000 in
theorem gX9_init_X2_init : GoodIn wsX9_init (wsX2_init) := ggX9_init_X2_init
set_option maxRecDepth 20000 in
theorem ggX9_init_X3_init : GoodIn wsX9_init wsX3_init := goodIn_r _ [98, 99, 2, 3, 35, 100, 155, 156, 157] (by decide +kernel) (by decide +kernel)
set_option maxRecDepth 20000 in
theorem gX9_init_X3_init : GoodIn wsX9_init (wsX3_init) := ggX9_init_X3_init
set_option maxRecDepth 20000 in
theorem ggX9_init_X6_init : GoodIn wsX9_init wsX6_init := goodIn_r _ [103, 104, 2, 3, 35, 105, 106, 158, 159, 160, 161, 162, 163, 164] (by decide +kernel) (by decide +kernel)
set_option maxRecDepth 20000 in
theorem gX9_init_X6_init : GoodIn wsX9_init (wsX6_init) := ggX9_init_X6_init
theorem dX9_init_0 : decode cX9_init 0 = .ok (.aload_n 0, 1) := by decide +kernel
theorem dX9_init_1 : decode cX9_init 1 = .ok (.invokespecial 1, 3) := by decide +kernel
theorem dX9_init_4 : decode cX9_init 4 = .ok (.aload_n 0, 1) := by decide +kernel
theorem dX9_init_5 : decode cX9_init 5 = .ok (.new 7, 3) := by decide +kernel
theorem dX9_init_8 : decode cX9_init 8 = .ok (.dup, 1) := by decide +kernel
theorem dX9_init_9 : decode cX9_init 9 = .ok (.invokespecial 9, 3) := by decide +kernel
theorem dX9_init_12 : decode cX9_init 12 = .ok (.putfield 10, 3) := by decide +kernel
theorem dX9_init_15 : decode cX9_init 15 = .ok (.aload_n 0, 1) := by decide +kernel
theorem dX9_init_16 : decode cX9_init 16 = .ok (.new 7, 3) := by decide +kernel
theorem dX9_init_19 : decode cX9_init 19 = .ok (.dup, 1) := by decide +kernel
theorem dX9_init_20 : decode cX9_init 20 = .ok (.invokespecial 9, 3) := by decide +kernel
theorem dX9_init_23 : decode cX9_init 23 = .ok (.putfield 16, 3) := by decide +kernel
theorem dX9_init_26 : decode cX9_init 26 = .ok (.aload_n 0, 1) := by decide +kernel
theorem dX9_init_27 : decode cX9_init 27 = .ok (.new 7, 3) := by decide +kernel
theorem dX9_init_30 : decode cX9_init 30 = .ok (.dup, 1) := by decide +kernel
theorem dX9_init_31 : decode cX9_init 31 = .ok (.invokespecial 9, 3) := by decide +kernel
theorem dX9_init_34 : decode cX9_init 34 = .ok (.putfield 19, 3) := by decide +kernel
theorem dX9_init_37 : decode cX9_init 37 = .ok (.aload_n 0, 1) := by decide +kernel
theorem dX9_init_38 : decode cX9_init 38 = .ok (.new 7, 3) := by decide +kernel
theorem dX9_init_41 : decode cX9_init 41 = .ok (.dup, 1) := by decide +kernel
theorem dX9_init_42 : decode cX9_init 42 = .ok (.invokespecial 9, 3) := by decide +kernel
theorem dX9_init_45 : decode cX9_init 45 = .ok (.putfield 22, 3) := by decide +kernel
theorem dX9_init_48 : decode cX9_init 48 = .ok (.aload_n 0, 1) := by decide +kernel
theorem dX9_init_49 : decode cX9_init 49 = .ok (.new 25, 3) := by decide +kernel
theorem dX9_init_52 : decode cX9_init 52 = .ok (.dup, 1) := by decide +kernel
theorem dX9_init_53 : decode cX9_init 53 = .ok (.invokespecial 27, 3) := by decide +kernel
theorem dX9_init_56 : decode cX9_init 56 = .ok (.putfield 28, 3) := by decide +kernel
theorem dX9_init_59 : decode cX9_init 59 = .ok (.aload_n 0, 1) := by decide +kernel
theorem dX9_init_60 : decode cX9_init 60 = .ok (.new 32, 3) := by decide +kernel
theorem dX9_init_63 : decode cX9_init 63 = .ok (.dup, 1) := by decide +kernel
theorem dX9_init_64 : decode cX9_init 64 = .ok (.invokespecial 34, 3) := by decide +kernel
theorem dX9_init_67 : decode cX9_init 67 = .ok (.putfield 35, 3) := by decide +kernel
theorem dX9_init_70 : decode cX9_init 70 = .ok (.aload_n 0, 1) := by decide +kernel
theorem dX9_init_71 : decode cX9_init 71 = .ok (.new 39, 3) := by decide +kernel
theorem dX9_init_74 : decode cX9_init 74 = .ok (.dup, 1) := by decide +kernel
theorem dX9_init_75 : decode cX9_init 75 = .ok (.invokespecial 41, 3) := by decide +kernel
theorem dX9_init_78 : decode cX9_init 78 = .ok (.putfield 42, 3) := by decide +kernel
theorem dX9_init_81 : decode cX9_init 81 = .ok (.aload_n 0, 1) := by decide +kernel
theorem dX9_init_82 : decode cX9_init 82 = .ok (.new 46, 3) := by decide +kernel
theorem dX9_init_85 : decode cX9_init 85 = .ok (.dup, 1) := by decide +kernel
theorem dX9_init_86 : decode cX9_init 86 = .ok (.invokespecial 48, 3) := by decide +kernel
theorem dX9_init_89 : decode cX9_init 89 = .ok (.putfield 49, 3) := by decide +kernel
theorem dX9_init_92 : decode cX9_init 92 = .ok (.aload_n 0, 1) := by decide +kernel
theorem dX9_init_93 : decode cX9_init 93 = .ok (.new 53, 3) := by decide +kernel
theorem dX9_init_96 : decode cX9_init 96 = .ok (.dup, 1) := by decide +kernel
theorem dX9_init_97 : decode cX9_init 97 = .ok (.invokespecial 55, 3) := by decide +kernel
theorem dX9_init_100 : decode cX9_init 100 = .ok (.putfield 56, 3) := by decide +kernel
theorem dX9_init_103 : decode cX9_init 103 = .ok (.return_, 1) := by decide +kernel
set_option maxRecDepth 20000 in
theorem ggX9_surface_X9_isStage : GoodIn wsX9_surface wsX9_isStage := goodIn_r _ [6, 7, 8, 5, 9] (by decide +kernel) (by decide +kernel)
set_option maxRecDepth 20000 in
theorem gX9_surface_X9_isStage : GoodIn wsX9_surface (va_wsS RX9 60 yX9_isStage wsX9_isStage) := goodIn_app (goodIn_of _ (by decide +kernel)) ggX9_surface_X9_isStage
set_option maxRecDepth 20000 in
theorem ggX9_surface_X9_isPlace : GoodIn wsX9_surface wsX9_isPlace := goodIn_r _ [12, 7, 8, 5, 9] (by decide +kernel) (by decide +kernel)
set_option maxRecDepth 20000 in
theorem gX9_surface_X9_isPlace : GoodIn wsX9_surface (va_wsS RX9 64 yX9_isPlace wsX9_isPlace) := goodIn_app (goodIn_of _ (by decide +kernel)) ggX9_surface_X9_isPlace
set_option maxRecDepth 20000 in
theorem ggX9_surface_X9_within : GoodIn wsX9_surface wsX9_within := goodIn_r _ [9] (by decide +kernel) (by decide +kernel)
set_option maxRecDepth 20000 in
theorem gX9_surface_X9_within : GoodIn wsX9_surface (va_wsS RX9 67 yX9_within wsX9_within) := goodIn_app (goodIn_of _ (by decide +kernel)) ggX9_surface_X9_within
set_option maxRecDepth 20000 in
theorem ggX9_surface_X9_exchange : GoodIn wsX9_surface wsX9_exchange := goodIn_r _ [15] (by decide +kernel) (by decide +kernel)
set_option maxRecDepth 20000 in
theorem gX9_surface_X9_exchange : GoodIn wsX9_surface (va_wsS RX9 75 yX9_exchange wsX9_exchange) := goodIn_app (goodIn_of _ (by decide +kernel)) ggX9_surface_X9_exchange
theorem dX9_surface_0 : decode cX9_surface 0 = .ok (.iload_n 1, 1) := by decide +kernel
theorem dX9_surface_1 : decode cX9_surface 1 = .ok (.invokestatic 60, 3) := by decide +kernel
theorem dX9_surface_4 : decode cX9_surface 4 = .ok (.ifCond .eq 20, 3) := by decide +kernel
theorem dX9_surface_7 : decode cX9_surface 7 = .ok (.iload_n 2, 1) := by decide +kernel
theorem dX9_surface_8 : decode cX9_surface 8 = .ok (.invokestatic 64, 3) := by decide +kernel
theorem dX9_surface_11 : decode cX9_surface 11 = .ok (.ifCond .eq 13, 3) := by decide +kernel
theorem dX9_surface_14 : decode cX9_surface 14 = .ok (.iload_n 3, 1) := by decide +kernel
theorem dX9_surface_15 : decode cX9_surface 15 = .ok (.iconst 0, 1) := by decide +kernel
theorem dX9_surface_16 : decode cX9_surface 16 = .ok (.bipush 99, 2) := by decide +kernel
theorem dX9_surface_18 : decode cX9_surface 18 = .ok (.invokestatic 67, 3) := by decide +kernel
theorem dX9_surface_21 : decode cX9_surface 21 = .ok (.ifCond .ne 6, 3) := by decide +kernel
theorem dX9_surface_24 : decode cX9_surface 24 = .ok (.bipush (-2), 2) := by decide +kernel
theorem dX9_surface_26 : decode cX9_surface 26 = .ok (.ireturn, 1) := by decide +kernel
theorem dX9_surface_27 : decode cX9_surface 27 = .ok (.aload_n 0, 1) := by decide +kernel
theorem dX9_surface_28 : decode cX9_surface 28 = .ok (.getfield 10, 3) := by decide +kernel
theorem dX9_surface_31 : decode cX9_surface 31 = .ok (.getfield 71, 3) := by decide +kernel
theorem dX9_surface_34 : decode cX9_surface 34 = .ok (.bipush 64, 2) := by decide +kernel
theorem dX9_surface_36 : decode cX9_surface 36 = .ok (.iload_n 1, 1) := by decide +kernel
theorem dX9_surface_37 : decode cX9_surface 37 = .ok (.imul, 1) := by decide +kernel
theorem dX9_surface_38 : decode cX9_surface 38 = .ok (.iload_n 2, 1) := by decide +kernel
theorem dX9_surface_39 : decode cX9_surface 39 = .ok (.iadd, 1) := by decide +kernel
theorem dX9_surface_40 : decode cX9_surface 40 = .ok (.iload_n 3, 1) := by decide +kernel
theorem dX9_surface_41 : decode cX9_surface 41 = .ok (.invokestatic 75, 3) := by decide +kernel
theorem dX9_surface_44 : decode cX9_surface 44 = .ok (.ireturn, 1) := by decide +kernel
set_option maxRecDepth 20000 in
theorem ggX9_slope_X9_isStage : GoodIn wsX9_slope wsX9_isStage := goodIn_r _ [13, 14, 15, 12, 16] (by decide +kernel) (by decide +kernel)
set_option maxRecDepth 20000 in
theorem gX9_slope_X9_isStage : GoodIn wsX9_slope (va_wsS RX9 60 yX9_isStage wsX9_isStage) := goodIn_app (goodIn_of _ (by decide +kernel)) ggX9_slope_X9_isStage
set_option maxRecDepth 20000 in
theorem ggX9_slope_X9_within : GoodIn wsX9_slope wsX9_within := goodIn_r _ [16] (by decide +kernel) (by decide +kernel)
set_option maxRecDepth 20000 in
theorem gX9_slope_X9_within : GoodIn wsX9_slope (va_wsS RX9 67 yX9_within wsX9_within) := goodIn_app (goodIn_of _ (by decide +kernel)) ggX9_slope_X9_within
theorem dX9_slope_0 : decode cX9_slope 0 = .ok (.iload_n 1, 1) := by decide +kernel
theorem dX9_slope_1 : decode cX9_slope 1 = .ok (.invokestatic 60, 3) := by decide +kernel
theorem dX9_slope_4 : decode cX9_slope 4 = .ok (.ifCond .eq 35, 3) := by decide +kernel
theorem dX9_slope_7 : decode cX9_slope 7 = .ok (.iload_n 2, 1) := by decide +kernel
theorem dX9_slope_8 : decode cX9_slope 8 = .ok (.iconst 0, 1) := by decide +kernel
theorem dX9_slope_9 : decode cX9_slope 9 = .ok (.bipush 7, 2) := by decide +kernel
theorem dX9_slope_11 : decode cX9_slope 11 = .ok (.invokestatic 67, 3) := by decide +kernel
theorem dX9_slope_14 : decode cX9_slope 14 = .ok (.ifCond .eq 25, 3) := by decide +kernel
theorem dX9_slope_17 : decode cX9_slope 17 = .ok (.iload_n 3, 1) := by decide +kernel
theorem dX9_slope_18 : decode cX9_slope 18 = .ok (.iconst 0, 1) := by decide +kernel
theorem dX9_slope_19 : decode cX9_slope 19 = .ok (.bipush 99, 2) := by decide +kernel
theorem dX9_slope_21 : decode cX9_slope 21 = .ok (.invokestatic 67, 3) := by decide +kernel
theorem dX9_slope_24 : decode cX9_slope 24 = .ok (.ifCond .eq 15, 3) := by decide +kernel
theorem dX9_slope_27 : decode cX9_slope 27 = .ok (.iload 4, 2) := by decide +kernel
theorem dX9_slope_29 : decode cX9_slope 29 = .ok (.bipush (-50), 2) := by decide +kernel
theorem dX9_slope_31 : decode cX9_slope 31 = .ok (.bipush 50, 2) := by decide +kernel
theorem dX9_slope_33 : decode cX9_slope 33 = .ok (.invokestatic 67, 3) := by decide +kernel
theorem dX9_slope_36 : decode cX9_slope 36 = .ok (.ifCond .ne 6, 3) := by decide +kernel
theorem dX9_slope_39 : decode cX9_slope 39 = .ok (.bipush (-2), 2) := by decide +kernel
theorem dX9_slope_41 : decode cX9_slope 41 = .ok (.ireturn, 1) := by decide +kernel
theorem dX9_slope_42 : decode cX9_slope 42 = .ok (.bipush 64, 2) := by decide +kernel
theorem dX9_slope_44 : decode cX9_slope 44 = .ok (.iload_n 1, 1) := by decide +kernel
theorem dX9_slope_45 : decode cX9_slope 45 = .ok (.imul, 1) := by decide +kernel
theorem dX9_slope_46 : decode cX9_slope 46 = .ok (.bipush 8, 2) := by decide +kernel
theorem dX9_slope_48 : decode cX9_slope 48 = .ok (.iload_n 2, 1) := by decide +kernel
theorem dX9_slope_49 : decode cX9_slope 49 = .ok (.imul, 1) := by decide +kernel
theorem dX9_slope_50 : decode cX9_slope 50 = .ok (.iadd, 1) := by decide +kernel
theorem dX9_slope_51 : decode cX9_slope 51 = .ok (.istore 5, 2) := by decide +kernel
theorem dX9_slope_53 : decode cX9_slope 53 = .ok (.iconst 0, 1) := by decide +kernel
theorem dX9_slope_54 : decode cX9_slope 54 = .ok (.istore 6, 2) := by decide +kernel
theorem dX9_slope_56 : decode cX9_slope 56 = .ok (.iload 6, 2) := by decide +kernel
theorem dX9_slope_58 : decode cX9_slope 58 = .ok (.bipush 8, 2) := by decide +kernel
theorem dX9_slope_60 : decode cX9_slope 60 = .ok (.if_icmp .ge 38, 3) := by decide +kernel
theorem dX9_slope_63 : decode cX9_slope 63 = .ok (.aload_n 0, 1) := by decide +kernel
theorem dX9_slope_64 : decode cX9_slope 64 = .ok (.getfield 10, 3) := by decide +kernel
theorem dX9_slope_67 : decode cX9_slope 67 = .ok (.getfield 71, 3) := by decide +kernel
theorem dX9_slope_70 : decode cX9_slope 70 = .ok (.iload 5, 2) := by decide +kernel
theorem dX9_slope_72 : decode cX9_slope 72 = .ok (.iload 6, 2) := by decide +kernel
theorem dX9_slope_74 : decode cX9_slope 74 = .ok (.iadd, 1) := by decide +kernel
theorem dX9_slope_75 : decode cX9_slope 75 = .ok (.iconst 0, 1) := by decide +kernel
theorem dX9_slope_76 : decode cX9_slope 76 = .ok (.bipush 99, 2) := by decide +kernel
theorem dX9_slope_78 : decode cX9_slope 78 = .ok (.iload_n 3, 1) := by decide +kernel
theorem dX9_slope_79 : decode cX9_slope 79 = .ok (.iload 4, 2) := by decide +kernel
theorem dX9_slope_81 : decode cX9_slope 81 = .ok (.iload 6, 2) := by decide +kernel
theorem dX9_slope_83 : decode cX9_slope 83 = .ok (.imul, 1) := by decide +kernel
theorem dX9_slope_84 : decode cX9_slope 84 = .ok (.isub, 1) := by decide +kernel
theorem dX9_slope_85 : decode cX9_slope 85 = .ok (.invokestatic 79, 3) := by decide +kernel
theorem dX9_slope_88 : decode cX9_slope 88 = .ok (.invokestatic 85, 3) := by decide +kernel
theorem dX9_slope_91 : decode cX9_slope 91 = .ok (.iastore, 1) := by decide +kernel
theorem dX9_slope_92 : decode cX9_slope 92 = .ok (.iinc 6 1, 3) := by decide +kernel
theorem dX9_slope_95 : decode cX9_slope 95 = .ok (.goto (-39), 3) := by decide +kernel
theorem dX9_slope_98 : decode cX9_slope 98 = .ok (.iconst 1, 1) := by decide +kernel
theorem dX9_slope_99 : decode cX9_slope 99 = .ok (.ireturn, 1) := by decide +kernel
set_option maxRecDepth 20000 in
theorem ggX9_flow_X9_isStage : GoodIn wsX9_flow wsX9_isStage := goodIn_r _ [6, 7, 8, 5, 9] (by decide +kernel) (by decide +kernel)
set_option maxRecDepth 20000 in
theorem gX9_flow_X9_isStage : GoodIn wsX9_flow (va_wsS RX9 60 yX9_isStage wsX9_isStage) := goodIn_app (goodIn_of _ (by decide +kernel)) ggX9_flow_X9_isStage
set_option maxRecDepth 20000 in
theorem ggX9_flow_X9_isPlace : GoodIn wsX9_flow wsX9_isPlace := goodIn_r _ [12, 7, 8, 5, 9] (by decide +kernel) (by decide +kernel)
set_option maxRecDepth 20000 in
theorem gX9_flow_X9_isPlace : GoodIn wsX9_flow (va_wsS RX9 64 yX9_isPlace wsX9_isPlace) := goodIn_app (goodIn_of _ (by decide +kernel)) ggX9_flow_X9_isPlace
set_option maxRecDepth 20000 in
theorem ggX9_flow_X7_directionOfFlow : GoodIn wsX9_flow wsX7_directionOfFlow := goodIn_r _ [16, 17, 18, 15, 19, 20, 21, 22, 23, 24] (by decide +kernel) (by decide +kernel)
set_option maxRecDepth 20000 in
theorem gX9_flow_X7_directionOfFlow : GoodIn wsX9_flow (va_wsS RX9 88 yX7_directionOfFlow wsX7_directionOfFlow) := goodIn_app (goodIn_of _ (by decide +kernel)) ggX9_flow_X7_directionOfFlow
theorem dX9_flow_0 : decode cX9_flow 0 = .ok (.iload_n 1, 1) := by decide +kernel
theorem dX9_flow_1 : decode cX9_flow 1 = .ok (.invokestatic 60, 3) := by decide +kernel
theorem dX9_flow_4 : decode cX9_flow 4 = .ok (.ifCond .eq 10, 3) := by decide +kernel
theorem dX9_flow_7 : decode cX9_flow 7 = .ok (.iload_n 2, 1) := by decide +kernel
theorem dX9_flow_8 : decode cX9_flow 8 = .ok (.invokestatic 64, 3) := by decide +kernel
theorem dX9_flow_11 : decode cX9_flow 11 = .ok (.ifCond .ne 6, 3) := by decide +kernel
theorem dX9_flow_14 : decode cX9_flow 14 = .ok (.bipush (-2), 2) := by decide +kernel
theorem dX9_flow_16 : decode cX9_flow 16 = .ok (.ireturn, 1) := by decide +kernel
theorem dX9_flow_17 : decode cX9_flow 17 = .ok (.aload_n 0, 1) := by decide +kernel
theorem dX9_flow_18 : decode cX9_flow 18 = .ok (.getfield 10, 3) := by decide +kernel
theorem dX9_flow_21 : decode cX9_flow 21 = .ok (.getfield 71, 3) := by decide +kernel
theorem dX9_flow_24 : decode cX9_flow 24 = .ok (.iload_n 1, 1) := by decide +kernel
theorem dX9_flow_25 : decode cX9_flow 25 = .ok (.iload_n 2, 1) := by decide +kernel
theorem dX9_flow_26 : decode cX9_flow 26 = .ok (.invokestatic 88, 3) := by decide +kernel
theorem dX9_flow_29 : decode cX9_flow 29 = .ok (.ireturn, 1) := by decide +kernel
set_option maxRecDepth 20000 in
theorem ggX9_cliff_X9_isPlaceAndSort : GoodIn wsX9_cliff wsX9_isPlaceAndSort := goodIn_r _ [6, 7, 8, 5, 9, 10, 11, 12] (by decide +kernel) (by decide +kernel)
set_option maxRecDepth 20000 in
theorem gX9_cliff_X9_isPlaceAndSort : GoodIn wsX9_cliff (va_wsS RX9 91 yX9_isPlaceAndSort wsX9_isPlaceAndSort) := goodIn_app (goodIn_of _ (by decide +kernel)) ggX9_cliff_X9_isPlaceAndSort
set_option maxRecDepth 20000 in
theorem ggX9_cliff_X4_add : GoodIn wsX9_cliff wsX4_add := goodIn_r _ [17, 18, 19, 20, 42, 43, 44] (by decide +kernel) (by decide +kernel)
set_option maxRecDepth 20000 in
theorem gX9_cliff_X4_add : GoodIn wsX9_cliff (wsV RX9 99 RX4 yX4_add wsX4_add) := goodIn_app (goodIn_of _ (by decide +kernel)) ggX9_cliff_X4_add
theorem dX9_cliff_0 : decode cX9_cliff 0 = .ok (.iload_n 1, 1) := by decide +kernel
theorem dX9_cliff_1 : decode cX9_cliff 1 = .ok (.iload_n 2, 1) := by decide +kernel
theorem dX9_cliff_2 : decode cX9_cliff 2 = .ok (.invokestatic 91, 3) := by decide +kernel
theorem dX9_cliff_5 : decode cX9_cliff 5 = .ok (.ifCond .eq 21, 3) := by decide +kernel
theorem dX9_cliff_8 : decode cX9_cliff 8 = .ok (.aload_n 0, 1) := by decide +kernel
theorem dX9_cliff_9 : decode cX9_cliff 9 = .ok (.getfield 10, 3) := by decide +kernel
theorem dX9_cliff_12 : decode cX9_cliff 12 = .ok (.getfield 95, 3) := by decide +kernel
theorem dX9_cliff_15 : decode cX9_cliff 15 = .ok (.iload_n 1, 1) := by decide +kernel
theorem dX9_cliff_16 : decode cX9_cliff 16 = .ok (.iload_n 2, 1) := by decide +kernel
theorem dX9_cliff_17 : decode cX9_cliff 17 = .ok (.iconst 0, 1) := by decide +kernel
theorem dX9_cliff_18 : decode cX9_cliff 18 = .ok (.iconst 0, 1) := by decide +kernel
theorem dX9_cliff_19 : decode cX9_cliff 19 = .ok (.iconst 0, 1) := by decide +kernel
theorem dX9_cliff_20 : decode cX9_cliff 20 = .ok (.invokevirtual 99, 3) := by decide +kernel
theorem dX9_cliff_23 : decode cX9_cliff 23 = .ok (.goto 5, 3) := by decide +kernel
theorem dX9_cliff_26 : decode cX9_cliff 26 = .ok (.bipush (-2), 2) := by decide +kernel
theorem dX9_cliff_28 : decode cX9_cliff 28 = .ok (.ireturn, 1) := by decide +kernel
set_option maxRecDepth 20000 in
theorem ggX9_boulder_X9_isPlaceAndSort : GoodIn wsX9_boulder wsX9_isPlaceAndSort := goodIn_r _ [6, 7, 8, 5, 9, 10, 11, 12] (by decide +kernel) (by decide +kernel)
set_option maxRecDepth 20000 in
theorem gX9_boulder_X9_isPlaceAndSort : GoodIn wsX9_boulder (va_wsS RX9 91 yX9_isPlaceAndSort wsX9_isPlaceAndSort) := goodIn_app (goodIn_of _ (by decide +kernel)) ggX9_boulder_X9_isPlaceAndSort
set_option maxRecDepth 20000 in
theorem ggX9_boulder_X4_add : GoodIn wsX9_boulder wsX4_add := goodIn_r _ [17, 18, 19, 20, 42, 43, 44] (by decide +kernel) (by decide +kernel)
set_option maxRecDepth 20000 in
theorem gX9_boulder_X4_add : GoodIn wsX9_boulder (wsV RX9 99 RX4 yX4_add wsX4_add) := goodIn_app (goodIn_of _ (by decide +kernel)) ggX9_boulder_X4_add
theorem dX9_boulder_0 : decode cX9_boulder 0 = .ok (.iload_n 1, 1) := by decide +kernel
theorem dX9_boulder_1 : decode cX9_boulder 1 = .ok (.iload_n 2, 1) := by decide +kernel
theorem dX9_boulder_2 : decode cX9_boulder 2 = .ok (.invokestatic 91, 3) := by decide +kernel
theorem dX9_boulder_5 : decode cX9_boulder 5 = .ok (.ifCond .eq 21, 3) := by decide +kernel
theorem dX9_boulder_8 : decode cX9_boulder 8 = .ok (.aload_n 0, 1) := by decide +kernel
theorem dX9_boulder_9 : decode cX9_boulder 9 = .ok (.getfield 10, 3) := by decide +kernel
theorem dX9_boulder_12 : decode cX9_boulder 12 = .ok (.getfield 105, 3) := by decide +kernel
theorem dX9_boulder_15 : decode cX9_boulder 15 = .ok (.iload_n 1, 1) := by decide +kernel
theorem dX9_boulder_16 : decode cX9_boulder 16 = .ok (.iload_n 2, 1) := by decide +kernel
theorem dX9_boulder_17 : decode cX9_boulder 17 = .ok (.iconst 0, 1) := by decide +kernel
theorem dX9_boulder_18 : decode cX9_boulder 18 = .ok (.iconst 0, 1) := by decide +kernel
theorem dX9_boulder_19 : decode cX9_boulder 19 = .ok (.iconst 0, 1) := by decide +kernel
theorem dX9_boulder_20 : decode cX9_boulder 20 = .ok (.invokevirtual 99, 3) := by decide +kernel
theorem dX9_boulder_23 : decode cX9_boulder 23 = .ok (.goto 5, 3) := by decide +kernel
theorem dX9_boulder_26 : decode cX9_boulder 26 = .ok (.bipush (-2), 2) := by decide +kernel
theorem dX9_boulder_28 : decode cX9_boulder 28 = .ok (.ireturn, 1) := by decide +kernel
set_option maxRecDepth 20000 in
theorem ggX9_fits_X4_has : GoodIn wsX9_fits wsX4_has := goodIn_r _ [8, 9, 88, 89, 90] (by decide +kernel) (by decide +kernel)
set_option maxRecDepth 20000 in
theorem gX9_fits_X4_has : GoodIn wsX9_fits (wsV RX9 108 RX4 yX4_has wsX4_has) := goodIn_app (goodIn_of _ (by decide +kernel)) ggX9_fits_X4_has
set_option maxRecDepth 20000 in
theorem ggX9_fits_X7_fittingCliffs : GoodIn wsX9_fits wsX7_fittingCliffs := goodIn_r _ [14, 15, 16, 17, 18, 19, 20, 7, 21, 22, 23, 5, 6, 8, 9, 24, 25, 26, 13, 27, 28, 29, 30, 31, 32, 33, 34, 35, 36, 37, 38, 39, 40, 41, 42, 43, 44, 45, 46, 47, 48, 49, 50, 51, 52, 53, 54, 55, 56, 57, 58, 59, 60, 61, 62, 63, 64, 65, 66, 78, 79, 80, 81, 82, 83, 84, 85, 86, 87, 88, 89, 90, 91, 92, 93] (by decide +kernel) (by decide +kernel)
set_option maxRecDepth 20000 in
theorem gX9_fits_X7_fittingCliffs : GoodIn wsX9_fits (wsV RX9 111 RX7 yX7_fittingCliffs wsX7_fittingCliffs) := goodIn_app (goodIn_of _ (by decide +kernel)) ggX9_fits_X7_fittingCliffs
theorem dX9_fits_0 : decode cX9_fits 0 = .ok (.aload_n 0, 1) := by decide +kernel
theorem dX9_fits_1 : decode cX9_fits 1 = .ok (.getfield 10, 3) := by decide +kernel
theorem dX9_fits_4 : decode cX9_fits 4 = .ok (.getfield 105, 3) := by decide +kernel
theorem dX9_fits_7 : decode cX9_fits 7 = .ok (.iload_n 1, 1) := by decide +kernel
theorem dX9_fits_8 : decode cX9_fits 8 = .ok (.invokevirtual 108, 3) := by decide +kernel
theorem dX9_fits_11 : decode cX9_fits 11 = .ok (.ifCond .eq 18, 3) := by decide +kernel
theorem dX9_fits_14 : decode cX9_fits 14 = .ok (.aload_n 0, 1) := by decide +kernel
theorem dX9_fits_15 : decode cX9_fits 15 = .ok (.getfield 28, 3) := by decide +kernel
theorem dX9_fits_18 : decode cX9_fits 18 = .ok (.aload_n 0, 1) := by decide +kernel
theorem dX9_fits_19 : decode cX9_fits 19 = .ok (.getfield 10, 3) := by decide +kernel
theorem dX9_fits_22 : decode cX9_fits 22 = .ok (.iload_n 1, 1) := by decide +kernel
theorem dX9_fits_23 : decode cX9_fits 23 = .ok (.invokevirtual 111, 3) := by decide +kernel
theorem dX9_fits_26 : decode cX9_fits 26 = .ok (.goto 5, 3) := by decide +kernel
theorem dX9_fits_29 : decode cX9_fits 29 = .ok (.bipush (-2), 2) := by decide +kernel
theorem dX9_fits_31 : decode cX9_fits 31 = .ok (.ireturn, 1) := by decide +kernel
set_option maxRecDepth 20000 in
theorem ggX9_steps_X4_has : GoodIn wsX9_steps wsX4_has := goodIn_r _ [9, 10, 81, 82, 83] (by decide +kernel) (by decide +kernel)
set_option maxRecDepth 20000 in
theorem gX9_steps_X4_has : GoodIn wsX9_steps (wsV RX9 108 RX4 yX4_has wsX4_has) := goodIn_app (goodIn_of _ (by decide +kernel)) ggX9_steps_X4_has
set_option maxRecDepth 20000 in
theorem ggX9_steps_X7_fewestSteps : GoodIn wsX9_steps wsX7_fewestSteps := goodIn_r _ [15, 16, 17, 18, 19, 20, 21, 8, 22, 23, 24, 6, 7, 9, 10, 25, 26, 27, 14, 28, 29, 30, 31, 32, 33, 34, 35, 36, 37, 38, 39, 40, 41, 42, 43, 44, 45, 46, 47, 48, 49, 50, 51, 52, 53, 54, 55, 56, 57, 58, 59, 71, 72, 73, 74, 75, 76, 77, 78, 79, 80, 81, 82, 83, 84, 85, 86] (by decide +kernel) (by decide +kernel)
set_option maxRecDepth 20000 in
theorem gX9_steps_X7_fewestSteps : GoodIn wsX9_steps (wsV RX9 115 RX7 yX7_fewestSteps wsX7_fewestSteps) := goodIn_app (goodIn_of _ (by decide +kernel)) ggX9_steps_X7_fewestSteps
theorem dX9_steps_0 : decode cX9_steps 0 = .ok (.aload_n 0, 1) := by decide +kernel
theorem dX9_steps_1 : decode cX9_steps 1 = .ok (.getfield 10, 3) := by decide +kernel
theorem dX9_steps_4 : decode cX9_steps 4 = .ok (.getfield 105, 3) := by decide +kernel
theorem dX9_steps_7 : decode cX9_steps 7 = .ok (.iload_n 1, 1) := by decide +kernel
theorem dX9_steps_8 : decode cX9_steps 8 = .ok (.invokevirtual 108, 3) := by decide +kernel
theorem dX9_steps_11 : decode cX9_steps 11 = .ok (.ifCond .eq 17, 3) := by decide +kernel
theorem dX9_steps_14 : decode cX9_steps 14 = .ok (.aload_n 0, 1) := by decide +kernel
theorem dX9_steps_15 : decode cX9_steps 15 = .ok (.getfield 10, 3) := by decide +kernel
theorem dX9_steps_18 : decode cX9_steps 18 = .ok (.getfield 95, 3) := by decide +kernel
theorem dX9_steps_21 : decode cX9_steps 21 = .ok (.iload_n 2, 1) := by decide +kernel
theorem dX9_steps_22 : decode cX9_steps 22 = .ok (.invokevirtual 108, 3) := by decide +kernel
theorem dX9_steps_25 : decode cX9_steps 25 = .ok (.ifCond .ne 6, 3) := by decide +kernel
theorem dX9_steps_28 : decode cX9_steps 28 = .ok (.bipush (-2), 2) := by decide +kernel
theorem dX9_steps_30 : decode cX9_steps 30 = .ok (.ireturn, 1) := by decide +kernel
theorem dX9_steps_31 : decode cX9_steps 31 = .ok (.aload_n 0, 1) := by decide +kernel
theorem dX9_steps_32 : decode cX9_steps 32 = .ok (.getfield 28, 3) := by decide +kernel
theorem dX9_steps_35 : decode cX9_steps 35 = .ok (.aload_n 0, 1) := by decide +kernel
theorem dX9_steps_36 : decode cX9_steps 36 = .ok (.getfield 10, 3) := by decide +kernel
theorem dX9_steps_39 : decode cX9_steps 39 = .ok (.iload_n 1, 1) := by decide +kernel
theorem dX9_steps_40 : decode cX9_steps 40 = .ok (.iload_n 2, 1) := by decide +kernel
theorem dX9_steps_41 : decode cX9_steps 41 = .ok (.invokevirtual 115, 3) := by decide +kernel
theorem dX9_steps_44 : decode cX9_steps 44 = .ok (.ireturn, 1) := by decide +kernel
set_option maxRecDepth 20000 in
theorem ggX9_home_X4_has : GoodIn wsX9_home wsX4_has := goodIn_r _ [8, 9, 88, 89, 90] (by decide +kernel) (by decide +kernel)
set_option maxRecDepth 20000 in
theorem gX9_home_X4_has : GoodIn wsX9_home (wsV RX9 108 RX4 yX4_has wsX4_has) := goodIn_app (goodIn_of _ (by decide +kernel)) ggX9_home_X4_has
set_option maxRecDepth 20000 in
theorem ggX9_home_X7_nearestCliff : GoodIn wsX9_home wsX7_nearestCliff := goodIn_r _ [14, 15, 16, 17, 18, 19, 20, 21, 7, 22, 23, 24, 5, 6, 8, 9, 25, 26, 27, 13, 28, 29, 30, 31, 32, 33, 34, 35, 36, 37, 38, 39, 40, 41, 42, 43, 44, 45, 46, 47, 48, 49, 50, 51, 52, 53, 54, 55, 56, 57, 58, 59, 60, 61, 62, 63, 64, 65, 66, 78, 79, 80, 81, 82, 83, 84, 85, 86, 87, 88, 89, 90, 91, 92, 93] (by decide +kernel) (by decide +kernel)
set_option maxRecDepth 20000 in
theorem gX9_home_X7_nearestCliff : GoodIn wsX9_home (wsV RX9 119 RX7 yX7_nearestCliff wsX7_nearestCliff) := goodIn_app (goodIn_of _ (by decide +kernel)) ggX9_home_X7_nearestCliff
theorem dX9_home_0 : decode cX9_home 0 = .ok (.aload_n 0, 1) := by decide +kernel
theorem dX9_home_1 : decode cX9_home 1 = .ok (.getfield 10, 3) := by decide +kernel
theorem dX9_home_4 : decode cX9_home 4 = .ok (.getfield 105, 3) := by decide +kernel
theorem dX9_home_7 : decode cX9_home 7 = .ok (.iload_n 1, 1) := by decide +kernel
theorem dX9_home_8 : decode cX9_home 8 = .ok (.invokevirtual 108, 3) := by decide +kernel
theorem dX9_home_11 : decode cX9_home 11 = .ok (.ifCond .eq 18, 3) := by decide +kernel
theorem dX9_home_14 : decode cX9_home 14 = .ok (.aload_n 0, 1) := by decide +kernel
theorem dX9_home_15 : decode cX9_home 15 = .ok (.getfield 28, 3) := by decide +kernel
theorem dX9_home_18 : decode cX9_home 18 = .ok (.aload_n 0, 1) := by decide +kernel
theorem dX9_home_19 : decode cX9_home 19 = .ok (.getfield 10, 3) := by decide +kernel
theorem dX9_home_22 : decode cX9_home 22 = .ok (.iload_n 1, 1) := by decide +kernel
theorem dX9_home_23 : decode cX9_home 23 = .ok (.invokevirtual 119, 3) := by decide +kernel
theorem dX9_home_26 : decode cX9_home 26 = .ok (.goto 5, 3) := by decide +kernel
theorem dX9_home_29 : decode cX9_home 29 = .ok (.bipush (-2), 2) := by decide +kernel
theorem dX9_home_31 : decode cX9_home 31 = .ok (.ireturn, 1) := by decide +kernel
set_option maxRecDepth 20000 in
theorem ggX9_upstream_X9_isPlace : GoodIn wsX9_upstream wsX9_isPlace := goodIn_r _ [7, 8, 9, 6, 10] (by decide +kernel) (by decide +kernel)
set_option maxRecDepth 20000 in
theorem gX9_upstream_X9_isPlace : GoodIn wsX9_upstream (va_wsS RX9 64 yX9_isPlace wsX9_isPlace) := goodIn_app (goodIn_of _ (by decide +kernel)) ggX9_upstream_X9_isPlace
set_option maxRecDepth 20000 in
theorem ggX9_upstream_X7_placesAbove : GoodIn wsX9_upstream wsX7_placesAbove := goodIn_r _ [15, 16, 17, 18, 14, 19, 20, 21, 22, 23, 24, 25, 26, 27, 28, 29, 30, 31, 32, 33, 34, 35, 36, 37, 38, 39, 40, 41, 42, 43, 44, 45, 46, 47, 48, 49, 50, 72, 73, 74] (by decide +kernel) (by decide +kernel)
set_option maxRecDepth 20000 in
theorem gX9_upstream_X7_placesAbove : GoodIn wsX9_upstream (wsV RX9 122 RX7 yX7_placesAbove wsX7_placesAbove) := goodIn_app (goodIn_of _ (by decide +kernel)) ggX9_upstream_X7_placesAbove
theorem dX9_upstream_0 : decode cX9_upstream 0 = .ok (.iload_n 1, 1) := by decide +kernel
theorem dX9_upstream_1 : decode cX9_upstream 1 = .ok (.invokestatic 64, 3) := by decide +kernel
theorem dX9_upstream_4 : decode cX9_upstream 4 = .ok (.ifCond .eq 21, 3) := by decide +kernel
theorem dX9_upstream_7 : decode cX9_upstream 7 = .ok (.aload_n 0, 1) := by decide +kernel
theorem dX9_upstream_8 : decode cX9_upstream 8 = .ok (.getfield 28, 3) := by decide +kernel
theorem dX9_upstream_11 : decode cX9_upstream 11 = .ok (.aload_n 0, 1) := by decide +kernel
theorem dX9_upstream_12 : decode cX9_upstream 12 = .ok (.getfield 10, 3) := by decide +kernel
theorem dX9_upstream_15 : decode cX9_upstream 15 = .ok (.getfield 71, 3) := by decide +kernel
theorem dX9_upstream_18 : decode cX9_upstream 18 = .ok (.iload_n 1, 1) := by decide +kernel
theorem dX9_upstream_19 : decode cX9_upstream 19 = .ok (.invokevirtual 122, 3) := by decide +kernel
theorem dX9_upstream_22 : decode cX9_upstream 22 = .ok (.goto 5, 3) := by decide +kernel
theorem dX9_upstream_25 : decode cX9_upstream 25 = .ok (.bipush (-2), 2) := by decide +kernel
theorem dX9_upstream_27 : decode cX9_upstream 27 = .ok (.ireturn, 1) := by decide +kernel
set_option maxRecDepth 20000 in
theorem ggX9_scratch_X9_isPlace : GoodIn wsX9_scratch wsX9_isPlace := goodIn_r _ [6, 7, 8, 5, 9] (by decide +kernel) (by decide +kernel)
set_option maxRecDepth 20000 in
theorem gX9_scratch_X9_isPlace : GoodIn wsX9_scratch (va_wsS RX9 64 yX9_isPlace wsX9_isPlace) := goodIn_app (goodIn_of _ (by decide +kernel)) ggX9_scratch_X9_isPlace
set_option maxRecDepth 20000 in
theorem ggX9_scratch_X9_within : GoodIn wsX9_scratch wsX9_within := goodIn_r _ [9] (by decide +kernel) (by decide +kernel)
set_option maxRecDepth 20000 in
theorem gX9_scratch_X9_within : GoodIn wsX9_scratch (va_wsS RX9 67 yX9_within wsX9_within) := goodIn_app (goodIn_of _ (by decide +kernel)) ggX9_scratch_X9_within
set_option maxRecDepth 20000 in
theorem ggX9_scratch_X4_add : GoodIn wsX9_scratch wsX4_add := goodIn_r _ [14, 15, 16, 17, 39, 40, 41] (by decide +kernel) (by decide +kernel)
set_option maxRecDepth 20000 in
theorem gX9_scratch_X4_add : GoodIn wsX9_scratch (wsV RX9 99 RX4 yX4_add wsX4_add) := goodIn_app (goodIn_of _ (by decide +kernel)) ggX9_scratch_X4_add
theorem dX9_scratch_0 : decode cX9_scratch 0 = .ok (.iload_n 1, 1) := by decide +kernel
theorem dX9_scratch_1 : decode cX9_scratch 1 = .ok (.invokestatic 64, 3) := by decide +kernel
theorem dX9_scratch_4 : decode cX9_scratch 4 = .ok (.ifCond .eq 13, 3) := by decide +kernel
theorem dX9_scratch_7 : decode cX9_scratch 7 = .ok (.iload_n 2, 1) := by decide +kernel
theorem dX9_scratch_8 : decode cX9_scratch 8 = .ok (.iconst 0, 1) := by decide +kernel
theorem dX9_scratch_9 : decode cX9_scratch 9 = .ok (.bipush 15, 2) := by decide +kernel
theorem dX9_scratch_11 : decode cX9_scratch 11 = .ok (.invokestatic 67, 3) := by decide +kernel
theorem dX9_scratch_14 : decode cX9_scratch 14 = .ok (.ifCond .ne 6, 3) := by decide +kernel
theorem dX9_scratch_17 : decode cX9_scratch 17 = .ok (.bipush (-2), 2) := by decide +kernel
theorem dX9_scratch_19 : decode cX9_scratch 19 = .ok (.ireturn, 1) := by decide +kernel
theorem dX9_scratch_20 : decode cX9_scratch 20 = .ok (.aload_n 0, 1) := by decide +kernel
theorem dX9_scratch_21 : decode cX9_scratch 21 = .ok (.getfield 10, 3) := by decide +kernel
theorem dX9_scratch_24 : decode cX9_scratch 24 = .ok (.getfield 128, 3) := by decide +kernel
theorem dX9_scratch_27 : decode cX9_scratch 27 = .ok (.iload_n 1, 1) := by decide +kernel
theorem dX9_scratch_28 : decode cX9_scratch 28 = .ok (.iload_n 2, 1) := by decide +kernel
theorem dX9_scratch_29 : decode cX9_scratch 29 = .ok (.iconst 0, 1) := by decide +kernel
theorem dX9_scratch_30 : decode cX9_scratch 30 = .ok (.iconst 0, 1) := by decide +kernel
theorem dX9_scratch_31 : decode cX9_scratch 31 = .ok (.iconst 0, 1) := by decide +kernel
theorem dX9_scratch_32 : decode cX9_scratch 32 = .ok (.invokevirtual 99, 3) := by decide +kernel
theorem dX9_scratch_35 : decode cX9_scratch 35 = .ok (.ireturn, 1) := by decide +kernel
set_option maxRecDepth 20000 in
theorem ggX9_put_X1_mayPut : GoodIn wsX9_put wsX1_mayPut := goodIn_r _ [7, 8, 9, 10, 26, 27, 28, 29, 30, 31, 32, 33, 34, 35] (by decide +kernel) (by decide +kernel)
set_option maxRecDepth 20000 in
theorem gX9_put_X1_mayPut : GoodIn wsX9_put (wsV RX9 131 RX1 yX1_mayPut wsX1_mayPut) := goodIn_app (goodIn_of _ (by decide +kernel)) ggX9_put_X1_mayPut
set_option maxRecDepth 20000 in
theorem ggX9_put_X9_exchange : GoodIn wsX9_put wsX9_exchange := goodIn_r _ [14] (by decide +kernel) (by decide +kernel)
set_option maxRecDepth 20000 in
theorem gX9_put_X9_exchange : GoodIn wsX9_put (va_wsS RX9 75 yX9_exchange wsX9_exchange) := goodIn_app (goodIn_of _ (by decide +kernel)) ggX9_put_X9_exchange
theorem dX9_put_0 : decode cX9_put 0 = .ok (.aload_n 0, 1) := by decide +kernel
theorem dX9_put_1 : decode cX9_put 1 = .ok (.getfield 10, 3) := by decide +kernel
theorem dX9_put_4 : decode cX9_put 4 = .ok (.iload_n 1, 1) := by decide +kernel
theorem dX9_put_5 : decode cX9_put 5 = .ok (.iload_n 2, 1) := by decide +kernel
theorem dX9_put_6 : decode cX9_put 6 = .ok (.invokevirtual 131, 3) := by decide +kernel
theorem dX9_put_9 : decode cX9_put 9 = .ok (.ifCond .eq 18, 3) := by decide +kernel
theorem dX9_put_12 : decode cX9_put 12 = .ok (.aload_n 0, 1) := by decide +kernel
theorem dX9_put_13 : decode cX9_put 13 = .ok (.getfield 10, 3) := by decide +kernel
theorem dX9_put_16 : decode cX9_put 16 = .ok (.getfield 134, 3) := by decide +kernel
theorem dX9_put_19 : decode cX9_put 19 = .ok (.iload_n 1, 1) := by decide +kernel
theorem dX9_put_20 : decode cX9_put 20 = .ok (.iload_n 2, 1) := by decide +kernel
theorem dX9_put_21 : decode cX9_put 21 = .ok (.invokestatic 75, 3) := by decide +kernel
theorem dX9_put_24 : decode cX9_put 24 = .ok (.goto 5, 3) := by decide +kernel
theorem dX9_put_27 : decode cX9_put 27 = .ok (.bipush (-2), 2) := by decide +kernel
theorem dX9_put_29 : decode cX9_put 29 = .ok (.ireturn, 1) := by decide +kernel
set_option maxRecDepth 20000 in
theorem ggX9_may_X4_has : GoodIn wsX9_may wsX4_has := goodIn_r _ [7, 8, 66, 67, 68] (by decide +kernel) (by decide +kernel)
set_option maxRecDepth 20000 in
theorem gX9_may_X4_has : GoodIn wsX9_may (wsV RX9 108 RX4 yX4_has wsX4_has) := goodIn_app (goodIn_of _ (by decide +kernel)) ggX9_may_X4_has
set_option maxRecDepth 20000 in
theorem ggX9_may_X5_stagesOf : GoodIn wsX9_may wsX5_stagesOf := goodIn_r _ [12, 13, 14, 15, 16, 17, 18, 6, 19, 20, 21, 4, 5, 7, 8, 22, 23, 24, 25, 26, 27, 28, 29, 30, 31, 32, 33, 34, 35, 11, 36, 37, 38, 39, 40, 41, 42, 43, 44, 56, 57, 58, 59, 60, 61, 62, 63, 64, 65, 66, 67, 68] (by decide +kernel) (by decide +kernel)
set_option maxRecDepth 20000 in
theorem gX9_may_X5_stagesOf : GoodIn wsX9_may (va_wsS RX9 137 yX5_stagesOf wsX5_stagesOf) := goodIn_app (goodIn_of _ (by decide +kernel)) ggX9_may_X5_stagesOf
theorem dX9_may_0 : decode cX9_may 0 = .ok (.aload_n 0, 1) := by decide +kernel
theorem dX9_may_1 : decode cX9_may 1 = .ok (.getfield 10, 3) := by decide +kernel
theorem dX9_may_4 : decode cX9_may 4 = .ok (.getfield 128, 3) := by decide +kernel
theorem dX9_may_7 : decode cX9_may 7 = .ok (.iload_n 1, 1) := by decide +kernel
theorem dX9_may_8 : decode cX9_may 8 = .ok (.invokevirtual 108, 3) := by decide +kernel
theorem dX9_may_11 : decode cX9_may 11 = .ok (.ifCond .eq 14, 3) := by decide +kernel
theorem dX9_may_14 : decode cX9_may 14 = .ok (.aload_n 0, 1) := by decide +kernel
theorem dX9_may_15 : decode cX9_may 15 = .ok (.getfield 10, 3) := by decide +kernel
theorem dX9_may_18 : decode cX9_may 18 = .ok (.iload_n 1, 1) := by decide +kernel
theorem dX9_may_19 : decode cX9_may 19 = .ok (.invokestatic 137, 3) := by decide +kernel
theorem dX9_may_22 : decode cX9_may 22 = .ok (.goto 5, 3) := by decide +kernel
theorem dX9_may_25 : decode cX9_may 25 = .ok (.bipush (-2), 2) := by decide +kernel
theorem dX9_may_27 : decode cX9_may 27 = .ok (.ireturn, 1) := by decide +kernel
set_option maxRecDepth 20000 in
theorem ggX9_laid_X5_rows : GoodIn wsX9_laid wsX5_rows := goodIn_r _ [6, 7, 8, 9, 10, 11, 12, 13, 14, 15, 5, 16, 17, 18, 19, 20, 21, 22, 23, 24, 25, 26, 27, 28, 29, 30, 31, 32, 33, 34, 35, 36, 37, 38, 39, 40, 41, 42, 43, 44, 45, 46, 47, 48, 49, 50, 51, 52, 53, 54, 55, 56, 57, 58, 59, 81, 82, 83, 84, 85, 86, 87, 88, 89, 90, 91, 92, 93] (by decide +kernel) (by decide +kernel)
set_option maxRecDepth 20000 in
theorem gX9_laid_X5_rows : GoodIn wsX9_laid (va_wsS RX9 140 yX5_rows wsX5_rows) := goodIn_app (goodIn_of _ (by decide +kernel)) ggX9_laid_X5_rows
set_option maxRecDepth 20000 in
theorem ggX9_laid_X4_has : GoodIn wsX9_laid wsX4_has := goodIn_r _ [28, 13, 91, 92, 93] (by decide +kernel) (by decide +kernel)
set_option maxRecDepth 20000 in
theorem gX9_laid_X4_has : GoodIn wsX9_laid (wsV RX9 108 RX4 yX4_has wsX4_has) := goodIn_app (goodIn_of _ (by decide +kernel)) ggX9_laid_X4_has
set_option maxRecDepth 20000 in
theorem ggX9_laid_X5_stageInFirstRow : GoodIn wsX9_laid wsX5_stageInFirstRow := goodIn_r _ [63, 52, 53, 54, 55, 64, 4, 5, 6, 7, 8, 9, 10, 11, 12, 13, 14, 15, 16, 17, 18, 19, 20, 21, 22, 23, 24, 25, 26, 27, 28, 29, 30, 31, 32, 33, 34, 35, 36, 37, 38, 39, 40, 41, 42, 43, 44, 45, 46, 47, 48, 49, 50, 51, 56, 57, 58, 59, 65, 66, 67, 68, 69, 81, 82, 83, 84, 85, 86, 87, 88, 89, 90, 91, 92, 93] (by decide +kernel) (by decide +kernel)
set_option maxRecDepth 20000 in
theorem gX9_laid_X5_stageInFirstRow : GoodIn wsX9_laid (va_wsS RX9 144 yX5_stageInFirstRow wsX5_stageInFirstRow) := goodIn_app (goodIn_of _ (by decide +kernel)) ggX9_laid_X5_stageInFirstRow
theorem dX9_laid_0 : decode cX9_laid 0 = .ok (.iload_n 1, 1) := by decide +kernel
theorem dX9_laid_1 : decode cX9_laid 1 = .ok (.iconst (-1), 1) := by decide +kernel
theorem dX9_laid_2 : decode cX9_laid 2 = .ok (.if_icmp .ne 11, 3) := by decide +kernel
theorem dX9_laid_5 : decode cX9_laid 5 = .ok (.aload_n 0, 1) := by decide +kernel
theorem dX9_laid_6 : decode cX9_laid 6 = .ok (.getfield 10, 3) := by decide +kernel
theorem dX9_laid_9 : decode cX9_laid 9 = .ok (.invokestatic 140, 3) := by decide +kernel
theorem dX9_laid_12 : decode cX9_laid 12 = .ok (.ireturn, 1) := by decide +kernel
theorem dX9_laid_13 : decode cX9_laid 13 = .ok (.aload_n 0, 1) := by decide +kernel
theorem dX9_laid_14 : decode cX9_laid 14 = .ok (.getfield 10, 3) := by decide +kernel
theorem dX9_laid_17 : decode cX9_laid 17 = .ok (.getfield 128, 3) := by decide +kernel
theorem dX9_laid_20 : decode cX9_laid 20 = .ok (.iload_n 1, 1) := by decide +kernel
theorem dX9_laid_21 : decode cX9_laid 21 = .ok (.invokevirtual 108, 3) := by decide +kernel
theorem dX9_laid_24 : decode cX9_laid 24 = .ok (.ifCond .eq 14, 3) := by decide +kernel
theorem dX9_laid_27 : decode cX9_laid 27 = .ok (.aload_n 0, 1) := by decide +kernel
theorem dX9_laid_28 : decode cX9_laid 28 = .ok (.getfield 10, 3) := by decide +kernel
theorem dX9_laid_31 : decode cX9_laid 31 = .ok (.iload_n 1, 1) := by decide +kernel
theorem dX9_laid_32 : decode cX9_laid 32 = .ok (.invokestatic 144, 3) := by decide +kernel
theorem dX9_laid_35 : decode cX9_laid 35 = .ok (.goto 5, 3) := by decide +kernel
theorem dX9_laid_38 : decode cX9_laid 38 = .ok (.bipush (-10), 2) := by decide +kernel
theorem dX9_laid_40 : decode cX9_laid 40 = .ok (.ireturn, 1) := by decide +kernel
theorem dX9_ridge_0 : decode cX9_ridge 0 = .ok (.aload_n 0, 1) := by decide +kernel
theorem dX9_ridge_1 : decode cX9_ridge 1 = .ok (.getfield 10, 3) := by decide +kernel
theorem dX9_ridge_4 : decode cX9_ridge 4 = .ok (.getfield 147, 3) := by decide +kernel
theorem dX9_ridge_7 : decode cX9_ridge 7 = .ok (.bipush 8, 2) := by decide +kernel
theorem dX9_ridge_9 : decode cX9_ridge 9 = .ok (.if_icmp .lt 6, 3) := by decide +kernel
theorem dX9_ridge_12 : decode cX9_ridge 12 = .ok (.bipush (-4), 2) := by decide +kernel
theorem dX9_ridge_14 : decode cX9_ridge 14 = .ok (.ireturn, 1) := by decide +kernel
theorem dX9_ridge_15 : decode cX9_ridge 15 = .ok (.aload_n 0, 1) := by decide +kernel
theorem dX9_ridge_16 : decode cX9_ridge 16 = .ok (.getfield 10, 3) := by decide +kernel
theorem dX9_ridge_19 : decode cX9_ridge 19 = .ok (.dup, 1) := by decide +kernel
theorem dX9_ridge_20 : decode cX9_ridge 20 = .ok (.getfield 147, 3) := by decide +kernel
theorem dX9_ridge_23 : decode cX9_ridge 23 = .ok (.dup_x1, 1) := by decide +kernel
theorem dX9_ridge_24 : decode cX9_ridge 24 = .ok (.iconst 1, 1) := by decide +kernel
theorem dX9_ridge_25 : decode cX9_ridge 25 = .ok (.iadd, 1) := by decide +kernel
theorem dX9_ridge_26 : decode cX9_ridge 26 = .ok (.putfield 147, 3) := by decide +kernel
theorem dX9_ridge_29 : decode cX9_ridge 29 = .ok (.ireturn, 1) := by decide +kernel
set_option maxRecDepth 20000 in
theorem ggX9_fact_X9_within : GoodIn wsX9_fact wsX9_within := goodIn_r _ [6] (by decide +kernel) (by decide +kernel)
set_option maxRecDepth 20000 in
theorem gX9_fact_X9_within : GoodIn wsX9_fact (va_wsS RX9 67 yX9_within wsX9_within) := goodIn_app (goodIn_of _ (by decide +kernel)) ggX9_fact_X9_within
set_option maxRecDepth 20000 in
theorem ggX9_fact_X9_isRidge : GoodIn wsX9_fact wsX9_isRidge := goodIn_r _ [10, 1, 11, 3, 4, 5, 6, 24, 25, 26, 27, 28, 29, 30, 31, 32, 33, 34, 35, 36, 37, 38, 39, 40, 41, 42, 43, 44] (by decide +kernel) (by decide +kernel)
set_option maxRecDepth 20000 in
theorem gX9_fact_X9_isRidge : GoodIn wsX9_fact (wsV RX9 151 RX9 yX9_isRidge wsX9_isRidge) := goodIn_app (goodIn_of _ (by decide +kernel)) ggX9_fact_X9_isRidge
set_option maxRecDepth 20000 in
theorem ggX9_fact_X9_mayTell : GoodIn wsX9_fact wsX9_mayTell := goodIn_r _ [15, 7, 8, 9, 5, 10, 1, 11, 3, 4, 6, 24, 25, 26, 27, 28, 29, 30, 31, 32, 33, 34, 35, 36, 37, 38, 39, 40, 41, 42, 43, 44] (by decide +kernel) (by decide +kernel)
set_option maxRecDepth 20000 in
theorem gX9_fact_X9_mayTell : GoodIn wsX9_fact (wsV RX9 154 RX9 yX9_mayTell wsX9_mayTell) := goodIn_app (goodIn_of _ (by decide +kernel)) ggX9_fact_X9_mayTell
set_option maxRecDepth 20000 in
theorem ggX9_fact_X4_add : GoodIn wsX9_fact wsX4_add := goodIn_r _ [20, 21, 22, 23, 45, 46, 47] (by decide +kernel) (by decide +kernel)
set_option maxRecDepth 20000 in
theorem gX9_fact_X4_add : GoodIn wsX9_fact (wsV RX9 99 RX4 yX4_add wsX4_add) := goodIn_app (goodIn_of _ (by decide +kernel)) ggX9_fact_X4_add
theorem dX9_fact_0 : decode cX9_fact 0 = .ok (.iload_n 1, 1) := by decide +kernel
theorem dX9_fact_1 : decode cX9_fact 1 = .ok (.iconst 0, 1) := by decide +kernel
theorem dX9_fact_2 : decode cX9_fact 2 = .ok (.iconst 1, 1) := by decide +kernel
theorem dX9_fact_3 : decode cX9_fact 3 = .ok (.invokestatic 67, 3) := by decide +kernel
theorem dX9_fact_6 : decode cX9_fact 6 = .ok (.ifCond .eq 24, 3) := by decide +kernel
theorem dX9_fact_9 : decode cX9_fact 9 = .ok (.aload_n 0, 1) := by decide +kernel
theorem dX9_fact_10 : decode cX9_fact 10 = .ok (.iload_n 3, 1) := by decide +kernel
theorem dX9_fact_11 : decode cX9_fact 11 = .ok (.invokevirtual 151, 3) := by decide +kernel
theorem dX9_fact_14 : decode cX9_fact 14 = .ok (.ifCond .eq 16, 3) := by decide +kernel
theorem dX9_fact_17 : decode cX9_fact 17 = .ok (.aload_n 0, 1) := by decide +kernel
theorem dX9_fact_18 : decode cX9_fact 18 = .ok (.iload_n 2, 1) := by decide +kernel
theorem dX9_fact_19 : decode cX9_fact 19 = .ok (.iload_n 3, 1) := by decide +kernel
theorem dX9_fact_20 : decode cX9_fact 20 = .ok (.iload 4, 2) := by decide +kernel
theorem dX9_fact_22 : decode cX9_fact 22 = .ok (.iload 5, 2) := by decide +kernel
theorem dX9_fact_24 : decode cX9_fact 24 = .ok (.invokevirtual 154, 3) := by decide +kernel
theorem dX9_fact_27 : decode cX9_fact 27 = .ok (.ifCond .ne 6, 3) := by decide +kernel
theorem dX9_fact_30 : decode cX9_fact 30 = .ok (.bipush (-2), 2) := by decide +kernel
theorem dX9_fact_32 : decode cX9_fact 32 = .ok (.ireturn, 1) := by decide +kernel
theorem dX9_fact_33 : decode cX9_fact 33 = .ok (.aload_n 0, 1) := by decide +kernel
theorem dX9_fact_34 : decode cX9_fact 34 = .ok (.getfield 10, 3) := by decide +kernel
theorem dX9_fact_37 : decode cX9_fact 37 = .ok (.getfield 158, 3) := by decide +kernel
theorem dX9_fact_40 : decode cX9_fact 40 = .ok (.iload_n 1, 1) := by decide +kernel
theorem dX9_fact_41 : decode cX9_fact 41 = .ok (.iload_n 2, 1) := by decide +kernel
theorem dX9_fact_42 : decode cX9_fact 42 = .ok (.iload_n 3, 1) := by decide +kernel
theorem dX9_fact_43 : decode cX9_fact 43 = .ok (.iload 4, 2) := by decide +kernel
theorem dX9_fact_45 : decode cX9_fact 45 = .ok (.iload_n 2, 1) := by decide +kernel
theorem dX9_fact_46 : decode cX9_fact 46 = .ok (.iconst 1, 1) := by decide +kernel
theorem dX9_fact_47 : decode cX9_fact 47 = .ok (.if_icmp .ne 8, 3) := by decide +kernel
theorem dX9_fact_50 : decode cX9_fact 50 = .ok (.iload 5, 2) := by decide +kernel
theorem dX9_fact_52 : decode cX9_fact 52 = .ok (.goto 4, 3) := by decide +kernel
theorem dX9_fact_55 : decode cX9_fact 55 = .ok (.iconst 0, 1) := by decide +kernel
theorem dX9_fact_56 : decode cX9_fact 56 = .ok (.invokevirtual 99, 3) := by decide +kernel
theorem dX9_fact_59 : decode cX9_fact 59 = .ok (.ireturn, 1) := by decide +kernel
set_option maxRecDepth 20000 in
theorem ggX9_age_X9_isRidge : GoodIn wsX9_age wsX9_isRidge := goodIn_r _ [7, 1, 8, 9, 10, 6, 11, 79, 80, 81, 82, 83, 84, 85, 86, 87, 88, 89, 90, 91, 92, 93, 94, 95, 96, 97, 98, 99] (by decide +kernel) (by decide +kernel)
set_option maxRecDepth 20000 in
theorem gX9_age_X9_isRidge : GoodIn wsX9_age (wsV RX9 151 RX9 yX9_isRidge wsX9_isRidge) := goodIn_app (goodIn_of _ (by decide +kernel)) ggX9_age_X9_isRidge
set_option maxRecDepth 20000 in
theorem ggX9_age_X0_bitsOfAll : GoodIn wsX9_age wsX0_bitsOfAll := goodIn_r _ [15, 16, 17, 18, 19, 20, 21, 22, 90, 91, 92, 93, 94, 95, 96, 97, 98, 99, 100, 101, 102] (by decide +kernel) (by decide +kernel)
set_option maxRecDepth 20000 in
theorem gX9_age_X0_bitsOfAll : GoodIn wsX9_age (va_wsS RX9 161 yX0_bitsOfAll wsX0_bitsOfAll) := goodIn_app (goodIn_of _ (by decide +kernel)) ggX9_age_X0_bitsOfAll
set_option maxRecDepth 20000 in
theorem ggX9_age_X9_within : GoodIn wsX9_age wsX9_within := goodIn_r _ [11] (by decide +kernel) (by decide +kernel)
set_option maxRecDepth 20000 in
theorem gX9_age_X9_within : GoodIn wsX9_age (va_wsS RX9 67 yX9_within wsX9_within) := goodIn_app (goodIn_of _ (by decide +kernel)) ggX9_age_X9_within
set_option maxRecDepth 20000 in
theorem ggX9_age_X0_joinBy : GoodIn wsX9_age wsX0_joinBy := goodIn_r _ [26, 27, 28, 29, 14, 30, 16, 31, 32, 33, 34, 35, 36, 37, 38, 39, 40, 17, 18, 19, 20, 21, 22, 41, 42, 43, 44, 45, 46, 47, 48, 49, 50, 51, 52, 53, 54, 55, 56, 57, 58, 59, 60, 61, 62, 63, 64, 65, 66, 67, 68, 69, 70, 90, 91, 92, 93, 94, 95, 96, 97, 98, 99, 103, 104, 105, 106, 107, 108, 109, 110, 111, 112, 113, 114, 115, 116, 100, 101, 102] (by decide +kernel) (by decide +kernel)
set_option maxRecDepth 20000 in
theorem gX9_age_X0_joinBy : GoodIn wsX9_age (wsV RX9 164 RX0 yX0_joinBy wsX0_joinBy) := goodIn_app (goodIn_of _ (by decide +kernel)) ggX9_age_X0_joinBy
set_option maxRecDepth 20000 in
theorem ggX9_age_X0_leastOf : GoodIn wsX9_age wsX0_leastOf := goodIn_r _ [74, 54, 103, 104, 105, 106, 107, 108, 109, 110, 111, 112, 113, 114, 115, 116] (by decide +kernel) (by decide +kernel)
set_option maxRecDepth 20000 in
theorem gX9_age_X0_leastOf : GoodIn wsX9_age (wsV RX9 168 RX0 yX0_leastOf wsX0_leastOf) := goodIn_app (goodIn_of _ (by decide +kernel)) ggX9_age_X0_leastOf
set_option maxRecDepth 20000 in
theorem ggX9_age_X0_greatestOf : GoodIn wsX9_age wsX0_greatestOf := goodIn_r _ [78, 55, 103, 104, 105, 106, 107, 108, 109, 110, 111, 112, 113, 114, 115, 116] (by decide +kernel) (by decide +kernel)
set_option maxRecDepth 20000 in
theorem gX9_age_X0_greatestOf : GoodIn wsX9_age (wsV RX9 172 RX0 yX0_greatestOf wsX0_greatestOf) := goodIn_app (goodIn_of _ (by decide +kernel)) ggX9_age_X0_greatestOf
theorem dX9_age_0 : decode cX9_age 0 = .ok (.aload_n 0, 1) := by decide +kernel
theorem dX9_age_1 : decode cX9_age 1 = .ok (.iload_n 1, 1) := by decide +kernel
theorem dX9_age_2 : decode cX9_age 2 = .ok (.invokevirtual 151, 3) := by decide +kernel
theorem dX9_age_5 : decode cX9_age 5 = .ok (.ifCond .eq 27, 3) := by decide +kernel
theorem dX9_age_8 : decode cX9_age 8 = .ok (.iload_n 2, 1) := by decide +kernel
theorem dX9_age_9 : decode cX9_age 9 = .ok (.iconst 0, 1) := by decide +kernel
theorem dX9_age_10 : decode cX9_age 10 = .ok (.aload_n 0, 1) := by decide +kernel
theorem dX9_age_11 : decode cX9_age 11 = .ok (.getfield 10, 3) := by decide +kernel
theorem dX9_age_14 : decode cX9_age 14 = .ok (.invokestatic 161, 3) := by decide +kernel
theorem dX9_age_17 : decode cX9_age 17 = .ok (.invokestatic 67, 3) := by decide +kernel
theorem dX9_age_20 : decode cX9_age 20 = .ok (.ifCond .eq 12, 3) := by decide +kernel
theorem dX9_age_23 : decode cX9_age 23 = .ok (.iload_n 3, 1) := by decide +kernel
theorem dX9_age_24 : decode cX9_age 24 = .ok (.iconst 0, 1) := by decide +kernel
theorem dX9_age_25 : decode cX9_age 25 = .ok (.iconst 1, 1) := by decide +kernel
theorem dX9_age_26 : decode cX9_age 26 = .ok (.invokestatic 67, 3) := by decide +kernel
theorem dX9_age_29 : decode cX9_age 29 = .ok (.ifCond .ne 6, 3) := by decide +kernel
theorem dX9_age_32 : decode cX9_age 32 = .ok (.bipush (-10), 2) := by decide +kernel
theorem dX9_age_34 : decode cX9_age 34 = .ok (.ireturn, 1) := by decide +kernel
theorem dX9_age_35 : decode cX9_age 35 = .ok (.aload_n 0, 1) := by decide +kernel
theorem dX9_age_36 : decode cX9_age 36 = .ok (.getfield 35, 3) := by decide +kernel
theorem dX9_age_39 : decode cX9_age 39 = .ok (.aload_n 0, 1) := by decide +kernel
theorem dX9_age_40 : decode cX9_age 40 = .ok (.getfield 10, 3) := by decide +kernel
theorem dX9_age_43 : decode cX9_age 43 = .ok (.iload_n 2, 1) := by decide +kernel
theorem dX9_age_44 : decode cX9_age 44 = .ok (.invokevirtual 164, 3) := by decide +kernel
theorem dX9_age_47 : decode cX9_age 47 = .ok (.ifCond .ne 6, 3) := by decide +kernel
theorem dX9_age_50 : decode cX9_age 50 = .ok (.bipush (-5), 2) := by decide +kernel
theorem dX9_age_52 : decode cX9_age 52 = .ok (.ireturn, 1) := by decide +kernel
theorem dX9_age_53 : decode cX9_age 53 = .ok (.iload_n 3, 1) := by decide +kernel
theorem dX9_age_54 : decode cX9_age 54 = .ok (.ifCond .ne 14, 3) := by decide +kernel
theorem dX9_age_57 : decode cX9_age 57 = .ok (.aload_n 0, 1) := by decide +kernel
theorem dX9_age_58 : decode cX9_age 58 = .ok (.getfield 35, 3) := by decide +kernel
theorem dX9_age_61 : decode cX9_age 61 = .ok (.iload_n 1, 1) := by decide +kernel
theorem dX9_age_62 : decode cX9_age 62 = .ok (.invokevirtual 168, 3) := by decide +kernel
theorem dX9_age_65 : decode cX9_age 65 = .ok (.goto 11, 3) := by decide +kernel
theorem dX9_age_68 : decode cX9_age 68 = .ok (.aload_n 0, 1) := by decide +kernel
theorem dX9_age_69 : decode cX9_age 69 = .ok (.getfield 35, 3) := by decide +kernel
theorem dX9_age_72 : decode cX9_age 72 = .ok (.iload_n 1, 1) := by decide +kernel
theorem dX9_age_73 : decode cX9_age 73 = .ok (.invokevirtual 172, 3) := by decide +kernel
theorem dX9_age_76 : decode cX9_age 76 = .ok (.ireturn, 1) := by decide +kernel
set_option maxRecDepth 20000 in
theorem ggX9_fewest_X0_leftOut : GoodIn wsX9_fewest wsX0_leftOut := goodIn_r _ [7, 8, 9, 10, 11, 12, 13, 14, 15, 16, 17, 18, 19, 20, 21, 22, 23, 24, 25, 26, 27, 28, 29, 30, 31, 6, 32, 33, 34, 35, 36, 37, 38, 39, 40, 41, 42, 43, 44, 45, 46, 47, 48, 49, 50, 51, 52, 53, 54, 55, 56, 57, 58, 59, 60, 61, 62, 63, 64, 65, 66, 67, 68, 69, 70, 71, 72, 73, 74, 75, 76, 77, 78, 79, 80, 81, 82, 83, 84, 85, 86, 87, 88, 89, 90, 91, 92, 104, 105, 106, 107, 108, 109, 110, 111, 112, 113, 114, 115, 116, 117, 118, 119, 120, 121, 122, 123, 124, 125, 126, 127, 128, 129, 130] (by decide +kernel) (by decide +kernel)
set_option maxRecDepth 20000 in
theorem gX9_fewest_X0_leftOut : GoodIn wsX9_fewest (wsV RX9 175 RX0 yX0_leftOut wsX0_leftOut) := goodIn_app (goodIn_of _ (by decide +kernel)) ggX9_fewest_X0_leftOut
theorem dX9_fewest_0 : decode cX9_fewest 0 = .ok (.aload_n 0, 1) := by decide +kernel
theorem dX9_fewest_1 : decode cX9_fewest 1 = .ok (.getfield 35, 3) := by decide +kernel
theorem dX9_fewest_4 : decode cX9_fewest 4 = .ok (.aload_n 0, 1) := by decide +kernel
theorem dX9_fewest_5 : decode cX9_fewest 5 = .ok (.getfield 10, 3) := by decide +kernel
theorem dX9_fewest_8 : decode cX9_fewest 8 = .ok (.invokevirtual 175, 3) := by decide +kernel
theorem dX9_fewest_11 : decode cX9_fewest 11 = .ok (.ireturn, 1) := by decide +kernel
set_option maxRecDepth 20000 in
theorem ggX9_sure_X9_isRidge : GoodIn wsX9_sure wsX9_isRidge := goodIn_r _ [7, 2, 8, 9, 10, 6, 11, 131, 132, 133, 134, 135, 136, 137, 138, 139, 140, 141, 142, 143, 144, 145, 146, 147, 148, 149, 150, 151] (by decide +kernel) (by decide +kernel)
set_option maxRecDepth 20000 in
theorem gX9_sure_X9_isRidge : GoodIn wsX9_sure (wsV RX9 151 RX9 yX9_isRidge wsX9_isRidge) := goodIn_app (goodIn_of _ (by decide +kernel)) ggX9_sure_X9_isRidge
set_option maxRecDepth 20000 in
theorem ggX9_sure_X0_joinBest : GoodIn wsX9_sure wsX0_joinBest := goodIn_r _ [16, 17, 18, 19, 15, 20, 21, 22, 23, 24, 25, 26, 27, 28, 29, 30, 31, 32, 33, 34, 35, 36, 37, 38, 39, 40, 41, 42, 43, 44, 45, 46, 47, 48, 49, 50, 51, 52, 53, 54, 55, 56, 57, 58, 59, 60, 61, 62, 63, 64, 65, 66, 67, 68, 69, 70, 71, 72, 73, 74, 75, 76, 77, 78, 79, 80, 81, 82, 83, 84, 85, 86, 87, 88, 89, 90, 91, 92, 93, 94, 95, 96, 97, 98, 99, 100, 101, 102, 103, 104, 105, 106, 107, 108, 109, 110, 111, 112, 113, 114, 115, 116, 117, 118, 142, 143, 144, 145, 146, 147, 148, 149, 150, 151, 152, 153, 154, 155, 156, 157, 158, 159, 160, 161, 162, 163, 164, 165, 166, 167, 168] (by decide +kernel) (by decide +kernel)
set_option maxRecDepth 20000 in
theorem gX9_sure_X0_joinBest : GoodIn wsX9_sure (wsV RX9 178 RX0 yX0_joinBest wsX0_joinBest) := goodIn_app (goodIn_of _ (by decide +kernel)) ggX9_sure_X0_joinBest
set_option maxRecDepth 20000 in
theorem ggX9_sure_X0_isYounger : GoodIn wsX9_sure wsX0_isYounger := goodIn_r _ [122, 115, 116, 117, 15, 118, 114, 123, 124, 125, 126, 72, 127, 128, 129, 130, 71, 152, 153, 154, 155, 156, 157, 158, 159, 160, 161, 162, 163, 164, 165] (by decide +kernel) (by decide +kernel)
set_option maxRecDepth 20000 in
theorem gX9_sure_X0_isYounger : GoodIn wsX9_sure (wsV RX9 182 RX0 yX0_isYounger wsX0_isYounger) := goodIn_app (goodIn_of _ (by decide +kernel)) ggX9_sure_X0_isYounger
theorem dX9_sure_0 : decode cX9_sure 0 = .ok (.aload_n 0, 1) := by decide +kernel
theorem dX9_sure_1 : decode cX9_sure 1 = .ok (.iload_n 1, 1) := by decide +kernel
theorem dX9_sure_2 : decode cX9_sure 2 = .ok (.invokevirtual 151, 3) := by decide +kernel
theorem dX9_sure_5 : decode cX9_sure 5 = .ok (.ifCond .eq 16, 3) := by decide +kernel
theorem dX9_sure_8 : decode cX9_sure 8 = .ok (.aload_n 0, 1) := by decide +kernel
theorem dX9_sure_9 : decode cX9_sure 9 = .ok (.iload_n 2, 1) := by decide +kernel
theorem dX9_sure_10 : decode cX9_sure 10 = .ok (.invokevirtual 151, 3) := by decide +kernel
theorem dX9_sure_13 : decode cX9_sure 13 = .ok (.ifCond .eq 8, 3) := by decide +kernel
theorem dX9_sure_16 : decode cX9_sure 16 = .ok (.iload_n 1, 1) := by decide +kernel
theorem dX9_sure_17 : decode cX9_sure 17 = .ok (.iload_n 2, 1) := by decide +kernel
theorem dX9_sure_18 : decode cX9_sure 18 = .ok (.if_icmp .ne 6, 3) := by decide +kernel
theorem dX9_sure_21 : decode cX9_sure 21 = .ok (.bipush (-2), 2) := by decide +kernel
theorem dX9_sure_23 : decode cX9_sure 23 = .ok (.ireturn, 1) := by decide +kernel
theorem dX9_sure_24 : decode cX9_sure 24 = .ok (.aload_n 0, 1) := by decide +kernel
theorem dX9_sure_25 : decode cX9_sure 25 = .ok (.getfield 35, 3) := by decide +kernel
theorem dX9_sure_28 : decode cX9_sure 28 = .ok (.aload_n 0, 1) := by decide +kernel
theorem dX9_sure_29 : decode cX9_sure 29 = .ok (.getfield 10, 3) := by decide +kernel
theorem dX9_sure_32 : decode cX9_sure 32 = .ok (.invokevirtual 178, 3) := by decide +kernel
theorem dX9_sure_35 : decode cX9_sure 35 = .ok (.ifCond .ne 6, 3) := by decide +kernel
theorem dX9_sure_38 : decode cX9_sure 38 = .ok (.bipush (-5), 2) := by decide +kernel
theorem dX9_sure_40 : decode cX9_sure 40 = .ok (.ireturn, 1) := by decide +kernel
theorem dX9_sure_41 : decode cX9_sure 41 = .ok (.aload_n 0, 1) := by decide +kernel
theorem dX9_sure_42 : decode cX9_sure 42 = .ok (.getfield 35, 3) := by decide +kernel
theorem dX9_sure_45 : decode cX9_sure 45 = .ok (.iload_n 1, 1) := by decide +kernel
theorem dX9_sure_46 : decode cX9_sure 46 = .ok (.iload_n 2, 1) := by decide +kernel
theorem dX9_sure_47 : decode cX9_sure 47 = .ok (.invokevirtual 182, 3) := by decide +kernel
theorem dX9_sure_50 : decode cX9_sure 50 = .ok (.ifCond .eq 7, 3) := by decide +kernel
theorem dX9_sure_53 : decode cX9_sure 53 = .ok (.iconst 1, 1) := by decide +kernel
theorem dX9_sure_54 : decode cX9_sure 54 = .ok (.goto 4, 3) := by decide +kernel
theorem dX9_sure_57 : decode cX9_sure 57 = .ok (.iconst 0, 1) := by decide +kernel
theorem dX9_sure_58 : decode cX9_sure 58 = .ok (.ireturn, 1) := by decide +kernel
set_option maxRecDepth 20000 in
theorem ggX9_core_X0_joinBest : GoodIn wsX9_core wsX0_joinBest := goodIn_r _ [8, 9, 10, 11, 7, 12, 13, 14, 15, 16, 17, 18, 19, 20, 21, 22, 23, 24, 25, 26, 27, 28, 29, 30, 31, 32, 33, 34, 35, 36, 37, 38, 39, 40, 41, 42, 43, 44, 45, 46, 47, 48, 49, 50, 51, 52, 53, 54, 55, 56, 57, 58, 59, 60, 61, 62, 63, 64, 65, 66, 67, 68, 69, 70, 71, 72, 73, 74, 75, 76, 77, 78, 79, 80, 81, 82, 83, 84, 85, 86, 87, 88, 89, 90, 91, 92, 93, 94, 95, 96, 97, 98, 99, 100, 101, 102, 103, 104, 105, 106, 107, 108, 109, 110, 138, 139, 140, 141, 142, 143, 144, 145, 146, 147, 148, 149, 150, 151, 152, 153, 154, 155, 156, 157, 158, 159, 160, 161, 162, 163, 164] (by decide +kernel) (by decide +kernel)
set_option maxRecDepth 20000 in
theorem gX9_core_X0_joinBest : GoodIn wsX9_core (wsV RX9 178 RX0 yX0_joinBest wsX0_joinBest) := goodIn_app (goodIn_of _ (by decide +kernel)) ggX9_core_X0_joinBest
set_option maxRecDepth 20000 in
theorem ggX9_core_X0_ridgeToCore : GoodIn wsX9_core wsX0_ridgeToCore := goodIn_r _ [114, 65, 66, 40, 67, 115, 116, 117, 7, 118, 63, 119, 120, 121, 122, 64, 123, 124, 125, 126, 38, 39, 41, 107, 108, 109, 110, 106, 148, 149, 150, 151, 152, 153, 154, 155, 156, 157, 158, 159, 160, 161] (by decide +kernel) (by decide +kernel)
set_option maxRecDepth 20000 in
theorem gX9_core_X0_ridgeToCore : GoodIn wsX9_core (wsV RX9 185 RX0 yX0_ridgeToCore wsX0_ridgeToCore) := goodIn_app (goodIn_of _ (by decide +kernel)) ggX9_core_X0_ridgeToCore
theorem dX9_core_0 : decode cX9_core 0 = .ok (.aload_n 0, 1) := by decide +kernel
theorem dX9_core_1 : decode cX9_core 1 = .ok (.getfield 35, 3) := by decide +kernel
theorem dX9_core_4 : decode cX9_core 4 = .ok (.aload_n 0, 1) := by decide +kernel
theorem dX9_core_5 : decode cX9_core 5 = .ok (.getfield 10, 3) := by decide +kernel
theorem dX9_core_8 : decode cX9_core 8 = .ok (.invokevirtual 178, 3) := by decide +kernel
theorem dX9_core_11 : decode cX9_core 11 = .ok (.ifCond .eq 20, 3) := by decide +kernel
theorem dX9_core_14 : decode cX9_core 14 = .ok (.aload_n 0, 1) := by decide +kernel
theorem dX9_core_15 : decode cX9_core 15 = .ok (.getfield 35, 3) := by decide +kernel
theorem dX9_core_18 : decode cX9_core 18 = .ok (.aload_n 0, 1) := by decide +kernel
theorem dX9_core_19 : decode cX9_core 19 = .ok (.getfield 10, 3) := by decide +kernel
theorem dX9_core_22 : decode cX9_core 22 = .ok (.getfield 147, 3) := by decide +kernel
theorem dX9_core_25 : decode cX9_core 25 = .ok (.invokevirtual 185, 3) := by decide +kernel
theorem dX9_core_28 : decode cX9_core 28 = .ok (.goto 5, 3) := by decide +kernel
theorem dX9_core_31 : decode cX9_core 31 = .ok (.bipush (-5), 2) := by decide +kernel
theorem dX9_core_33 : decode cX9_core 33 = .ok (.ireturn, 1) := by decide +kernel
set_option maxRecDepth 20000 in
theorem ggX9_parted_X0_firstParted : GoodIn wsX9_parted wsX0_firstParted := goodIn_r _ [7, 8, 9, 10, 11, 12, 13, 14, 15, 16, 17, 18, 19, 20, 21, 22, 6, 23, 24, 25, 26, 27, 28, 29, 30, 31, 32, 33, 34, 35, 36, 37, 38, 39, 40, 41, 42, 43, 44, 45, 46, 47, 48, 49, 50, 51, 52, 53, 54, 55, 56, 57, 58, 59, 60, 61, 62, 63, 64, 65, 66, 67, 68, 69, 70, 71, 72, 84, 85, 86, 87, 88, 89, 90, 91, 92, 93, 94, 95, 96, 97, 98, 99, 100, 101, 102, 103, 104, 105, 106, 107, 108, 109, 110] (by decide +kernel) (by decide +kernel)
set_option maxRecDepth 20000 in
theorem gX9_parted_X0_firstParted : GoodIn wsX9_parted (wsV RX9 188 RX0 yX0_firstParted wsX0_firstParted) := goodIn_app (goodIn_of _ (by decide +kernel)) ggX9_parted_X0_firstParted
theorem dX9_parted_0 : decode cX9_parted 0 = .ok (.aload_n 0, 1) := by decide +kernel
theorem dX9_parted_1 : decode cX9_parted 1 = .ok (.getfield 35, 3) := by decide +kernel
theorem dX9_parted_4 : decode cX9_parted 4 = .ok (.aload_n 0, 1) := by decide +kernel
theorem dX9_parted_5 : decode cX9_parted 5 = .ok (.getfield 10, 3) := by decide +kernel
theorem dX9_parted_8 : decode cX9_parted 8 = .ok (.invokevirtual 188, 3) := by decide +kernel
theorem dX9_parted_11 : decode cX9_parted 11 = .ok (.ireturn, 1) := by decide +kernel
set_option maxRecDepth 20000 in
theorem ggX9_sign_X9_within : GoodIn wsX9_sign wsX9_within := goodIn_r _ [6] (by decide +kernel) (by decide +kernel)
set_option maxRecDepth 20000 in
theorem gX9_sign_X9_within : GoodIn wsX9_sign (va_wsS RX9 67 yX9_within wsX9_within) := goodIn_app (goodIn_of _ (by decide +kernel)) ggX9_sign_X9_within
set_option maxRecDepth 20000 in
theorem ggX9_sign_X2_countAt : GoodIn wsX9_sign wsX2_countAt := goodIn_r _ [10, 11, 12, 13, 14, 15, 16, 17, 18, 19, 20, 21, 22, 23, 24, 25, 26, 43, 44, 45, 46, 47, 48, 49, 50, 51, 52, 53, 54, 55] (by decide +kernel) (by decide +kernel)
set_option maxRecDepth 20000 in
theorem gX9_sign_X2_countAt : GoodIn wsX9_sign (va_wsS RX9 191 yX2_countAt wsX2_countAt) := goodIn_app (goodIn_of _ (by decide +kernel)) ggX9_sign_X2_countAt
set_option maxRecDepth 20000 in
theorem ggX9_sign_X4_add : GoodIn wsX9_sign wsX4_add := goodIn_r _ [30, 17, 31, 22, 53, 54, 55] (by decide +kernel) (by decide +kernel)
set_option maxRecDepth 20000 in
theorem gX9_sign_X4_add : GoodIn wsX9_sign (wsV RX9 99 RX4 yX4_add wsX4_add) := goodIn_app (goodIn_of _ (by decide +kernel)) ggX9_sign_X4_add
theorem dX9_sign_0 : decode cX9_sign 0 = .ok (.iload_n 1, 1) := by decide +kernel
theorem dX9_sign_1 : decode cX9_sign 1 = .ok (.iconst 0, 1) := by decide +kernel
theorem dX9_sign_2 : decode cX9_sign 2 = .ok (.iconst 2, 1) := by decide +kernel
theorem dX9_sign_3 : decode cX9_sign 3 = .ok (.invokestatic 67, 3) := by decide +kernel
theorem dX9_sign_6 : decode cX9_sign 6 = .ok (.ifCond .eq 34, 3) := by decide +kernel
theorem dX9_sign_9 : decode cX9_sign 9 = .ok (.iload_n 2, 1) := by decide +kernel
theorem dX9_sign_10 : decode cX9_sign 10 = .ok (.iconst 0, 1) := by decide +kernel
theorem dX9_sign_11 : decode cX9_sign 11 = .ok (.bipush 20, 2) := by decide +kernel
theorem dX9_sign_13 : decode cX9_sign 13 = .ok (.invokestatic 67, 3) := by decide +kernel
theorem dX9_sign_16 : decode cX9_sign 16 = .ok (.ifCond .eq 24, 3) := by decide +kernel
theorem dX9_sign_19 : decode cX9_sign 19 = .ok (.iload_n 3, 1) := by decide +kernel
theorem dX9_sign_20 : decode cX9_sign 20 = .ok (.iconst 0, 1) := by decide +kernel
theorem dX9_sign_21 : decode cX9_sign 21 = .ok (.bipush 39, 2) := by decide +kernel
theorem dX9_sign_23 : decode cX9_sign 23 = .ok (.invokestatic 67, 3) := by decide +kernel
theorem dX9_sign_26 : decode cX9_sign 26 = .ok (.ifCond .eq 14, 3) := by decide +kernel
theorem dX9_sign_29 : decode cX9_sign 29 = .ok (.iload 4, 2) := by decide +kernel
theorem dX9_sign_31 : decode cX9_sign 31 = .ok (.iload_n 3, 1) := by decide +kernel
theorem dX9_sign_32 : decode cX9_sign 32 = .ok (.bipush 39, 2) := by decide +kernel
theorem dX9_sign_34 : decode cX9_sign 34 = .ok (.invokestatic 67, 3) := by decide +kernel
theorem dX9_sign_37 : decode cX9_sign 37 = .ok (.ifCond .ne 6, 3) := by decide +kernel
theorem dX9_sign_40 : decode cX9_sign 40 = .ok (.bipush (-2), 2) := by decide +kernel
theorem dX9_sign_42 : decode cX9_sign 42 = .ok (.ireturn, 1) := by decide +kernel
theorem dX9_sign_43 : decode cX9_sign 43 = .ok (.iload_n 1, 1) := by decide +kernel
theorem dX9_sign_44 : decode cX9_sign 44 = .ok (.ifCond .ne 17, 3) := by decide +kernel
theorem dX9_sign_47 : decode cX9_sign 47 = .ok (.aload_n 0, 1) := by decide +kernel
theorem dX9_sign_48 : decode cX9_sign 48 = .ok (.getfield 10, 3) := by decide +kernel
theorem dX9_sign_51 : decode cX9_sign 51 = .ok (.invokestatic 191, 3) := by decide +kernel
theorem dX9_sign_54 : decode cX9_sign 54 = .ok (.iconst 5, 1) := by decide +kernel
theorem dX9_sign_55 : decode cX9_sign 55 = .ok (.if_icmp .lt 6, 3) := by decide +kernel
theorem dX9_sign_58 : decode cX9_sign 58 = .ok (.bipush (-4), 2) := by decide +kernel
theorem dX9_sign_60 : decode cX9_sign 60 = .ok (.ireturn, 1) := by decide +kernel
theorem dX9_sign_61 : decode cX9_sign 61 = .ok (.aload_n 0, 1) := by decide +kernel
theorem dX9_sign_62 : decode cX9_sign 62 = .ok (.getfield 10, 3) := by decide +kernel
theorem dX9_sign_65 : decode cX9_sign 65 = .ok (.getfield 194, 3) := by decide +kernel
theorem dX9_sign_68 : decode cX9_sign 68 = .ok (.iload_n 1, 1) := by decide +kernel
theorem dX9_sign_69 : decode cX9_sign 69 = .ok (.iload_n 2, 1) := by decide +kernel
theorem dX9_sign_70 : decode cX9_sign 70 = .ok (.iload_n 3, 1) := by decide +kernel
theorem dX9_sign_71 : decode cX9_sign 71 = .ok (.iload 4, 2) := by decide +kernel
theorem dX9_sign_73 : decode cX9_sign 73 = .ok (.iconst 0, 1) := by decide +kernel
theorem dX9_sign_74 : decode cX9_sign 74 = .ok (.invokevirtual 99, 3) := by decide +kernel
theorem dX9_sign_77 : decode cX9_sign 77 = .ok (.ireturn, 1) := by decide +kernel
set_option maxRecDepth 20000 in
theorem ggX9_stand_X9_within : GoodIn wsX9_stand wsX9_within := goodIn_r _ [6] (by decide +kernel) (by decide +kernel)
set_option maxRecDepth 20000 in
theorem gX9_stand_X9_within : GoodIn wsX9_stand (va_wsS RX9 67 yX9_within wsX9_within) := goodIn_app (goodIn_of _ (by decide +kernel)) ggX9_stand_X9_within
set_option maxRecDepth 20000 in
theorem ggX9_stand_X2_draw : GoodIn wsX9_stand wsX2_draw := goodIn_r _ [11, 12, 13, 14, 15, 16, 17, 18, 19, 20, 21, 22, 23, 24, 25, 26, 27, 28, 29, 30, 31, 32, 33, 34, 10, 35, 36, 37, 38, 39, 40, 41, 42, 43, 44, 45, 46, 47, 48, 49, 50, 51, 52, 53, 54, 55, 56, 57, 58, 59, 60, 61, 62, 63, 64, 65, 66, 67, 68, 69, 70, 71, 72, 73, 74, 75, 76, 77, 78, 79, 80, 81, 82, 83, 84, 85, 86, 87, 88, 89, 90, 91, 92, 93, 94, 95, 115, 116, 117, 118, 119, 120, 121, 122, 123, 124, 125, 126, 127, 128, 129, 130, 131, 132, 133, 134, 135, 136, 137] (by decide +kernel) (by decide +kernel)
set_option maxRecDepth 20000 in
theorem gX9_stand_X2_draw : GoodIn wsX9_stand (wsV RX9 197 RX2 yX2_draw wsX2_draw) := goodIn_app (goodIn_of _ (by decide +kernel)) ggX9_stand_X2_draw
set_option maxRecDepth 20000 in
theorem ggX9_stand_X2_travel : GoodIn wsX9_stand wsX2_travel := goodIn_r _ [99, 80, 125, 126, 127, 128, 129, 130, 131, 132, 133, 134] (by decide +kernel) (by decide +kernel)
set_option maxRecDepth 20000 in
theorem gX9_stand_X2_travel : GoodIn wsX9_stand (wsV RX9 201 RX2 yX2_travel wsX2_travel) := goodIn_app (goodIn_of _ (by decide +kernel)) ggX9_stand_X2_travel
set_option maxRecDepth 20000 in
theorem ggX9_stand_X2_frontIn : GoodIn wsX9_stand wsX2_frontIn := goodIn_r _ [103, 81, 125, 126, 127, 128, 129, 130, 131, 132, 133, 134] (by decide +kernel) (by decide +kernel)
set_option maxRecDepth 20000 in
theorem gX9_stand_X2_frontIn : GoodIn wsX9_stand (wsV RX9 205 RX2 yX2_frontIn wsX2_frontIn) := goodIn_app (goodIn_of _ (by decide +kernel)) ggX9_stand_X2_frontIn
theorem dX9_stand_0 : decode cX9_stand 0 = .ok (.iload_n 1, 1) := by decide +kernel
theorem dX9_stand_1 : decode cX9_stand 1 = .ok (.iconst (-1), 1) := by decide +kernel
theorem dX9_stand_2 : decode cX9_stand 2 = .ok (.if_icmp .eq 16, 3) := by decide +kernel
theorem dX9_stand_5 : decode cX9_stand 5 = .ok (.iload_n 1, 1) := by decide +kernel
theorem dX9_stand_6 : decode cX9_stand 6 = .ok (.iconst 0, 1) := by decide +kernel
theorem dX9_stand_7 : decode cX9_stand 7 = .ok (.bipush 39, 2) := by decide +kernel
theorem dX9_stand_9 : decode cX9_stand 9 = .ok (.invokestatic 67, 3) := by decide +kernel
theorem dX9_stand_12 : decode cX9_stand 12 = .ok (.ifCond .ne 6, 3) := by decide +kernel
theorem dX9_stand_15 : decode cX9_stand 15 = .ok (.bipush (-10), 2) := by decide +kernel
theorem dX9_stand_17 : decode cX9_stand 17 = .ok (.ireturn, 1) := by decide +kernel
theorem dX9_stand_18 : decode cX9_stand 18 = .ok (.aload_n 0, 1) := by decide +kernel
theorem dX9_stand_19 : decode cX9_stand 19 = .ok (.getfield 42, 3) := by decide +kernel
theorem dX9_stand_22 : decode cX9_stand 22 = .ok (.aload_n 0, 1) := by decide +kernel
theorem dX9_stand_23 : decode cX9_stand 23 = .ok (.getfield 10, 3) := by decide +kernel
theorem dX9_stand_26 : decode cX9_stand 26 = .ok (.invokevirtual 197, 3) := by decide +kernel
theorem dX9_stand_29 : decode cX9_stand 29 = .ok (.aload_n 0, 1) := by decide +kernel
theorem dX9_stand_30 : decode cX9_stand 30 = .ok (.getfield 42, 3) := by decide +kernel
theorem dX9_stand_33 : decode cX9_stand 33 = .ok (.invokevirtual 201, 3) := by decide +kernel
theorem dX9_stand_36 : decode cX9_stand 36 = .ok (.iconst (-1), 1) := by decide +kernel
theorem dX9_stand_37 : decode cX9_stand 37 = .ok (.if_icmp .ne 6, 3) := by decide +kernel
theorem dX9_stand_40 : decode cX9_stand 40 = .ok (.bipush (-5), 2) := by decide +kernel
theorem dX9_stand_42 : decode cX9_stand 42 = .ok (.ireturn, 1) := by decide +kernel
theorem dX9_stand_43 : decode cX9_stand 43 = .ok (.iload_n 1, 1) := by decide +kernel
theorem dX9_stand_44 : decode cX9_stand 44 = .ok (.iconst (-1), 1) := by decide +kernel
theorem dX9_stand_45 : decode cX9_stand 45 = .ok (.if_icmp .ne 13, 3) := by decide +kernel
theorem dX9_stand_48 : decode cX9_stand 48 = .ok (.aload_n 0, 1) := by decide +kernel
theorem dX9_stand_49 : decode cX9_stand 49 = .ok (.getfield 42, 3) := by decide +kernel
theorem dX9_stand_52 : decode cX9_stand 52 = .ok (.invokevirtual 201, 3) := by decide +kernel
theorem dX9_stand_55 : decode cX9_stand 55 = .ok (.goto 11, 3) := by decide +kernel
theorem dX9_stand_58 : decode cX9_stand 58 = .ok (.aload_n 0, 1) := by decide +kernel
theorem dX9_stand_59 : decode cX9_stand 59 = .ok (.getfield 42, 3) := by decide +kernel
theorem dX9_stand_62 : decode cX9_stand 62 = .ok (.iload_n 1, 1) := by decide +kernel
theorem dX9_stand_63 : decode cX9_stand 63 = .ok (.invokevirtual 205, 3) := by decide +kernel
theorem dX9_stand_66 : decode cX9_stand 66 = .ok (.ireturn, 1) := by decide +kernel
set_option maxRecDepth 20000 in
theorem ggX9_area_X9_isLevel : GoodIn wsX9_area wsX9_isLevel := goodIn_r _ [6, 7, 8, 5, 9] (by decide +kernel) (by decide +kernel)
set_option maxRecDepth 20000 in
theorem gX9_area_X9_isLevel : GoodIn wsX9_area (va_wsS RX9 208 yX9_isLevel wsX9_isLevel) := goodIn_app (goodIn_of _ (by decide +kernel)) ggX9_area_X9_isLevel
set_option maxRecDepth 20000 in
theorem ggX9_area_X9_within : GoodIn wsX9_area wsX9_within := goodIn_r _ [9] (by decide +kernel) (by decide +kernel)
set_option maxRecDepth 20000 in
theorem gX9_area_X9_within : GoodIn wsX9_area (va_wsS RX9 67 yX9_within wsX9_within) := goodIn_app (goodIn_of _ (by decide +kernel)) ggX9_area_X9_within
set_option maxRecDepth 20000 in
theorem ggX9_area_X9_exchange : GoodIn wsX9_area wsX9_exchange := goodIn_r _ [12] (by decide +kernel) (by decide +kernel)
set_option maxRecDepth 20000 in
theorem gX9_area_X9_exchange : GoodIn wsX9_area (va_wsS RX9 75 yX9_exchange wsX9_exchange) := goodIn_app (goodIn_of _ (by decide +kernel)) ggX9_area_X9_exchange
theorem dX9_area_0 : decode cX9_area 0 = .ok (.iload_n 1, 1) := by decide +kernel
theorem dX9_area_1 : decode cX9_area 1 = .ok (.invokestatic 208, 3) := by decide +kernel
theorem dX9_area_4 : decode cX9_area 4 = .ok (.ifCond .eq 29, 3) := by decide +kernel
theorem dX9_area_7 : decode cX9_area 7 = .ok (.iload_n 2, 1) := by decide +kernel
theorem dX9_area_8 : decode cX9_area 8 = .ok (.iconst 0, 1) := by decide +kernel
theorem dX9_area_9 : decode cX9_area 9 = .ok (.sipush 999, 3) := by decide +kernel
theorem dX9_area_12 : decode cX9_area 12 = .ok (.invokestatic 67, 3) := by decide +kernel
theorem dX9_area_15 : decode cX9_area 15 = .ok (.ifCond .eq 18, 3) := by decide +kernel
theorem dX9_area_18 : decode cX9_area 18 = .ok (.aload_n 0, 1) := by decide +kernel
theorem dX9_area_19 : decode cX9_area 19 = .ok (.getfield 10, 3) := by decide +kernel
theorem dX9_area_22 : decode cX9_area 22 = .ok (.getfield 211, 3) := by decide +kernel
theorem dX9_area_25 : decode cX9_area 25 = .ok (.iload_n 1, 1) := by decide +kernel
theorem dX9_area_26 : decode cX9_area 26 = .ok (.iload_n 2, 1) := by decide +kernel
theorem dX9_area_27 : decode cX9_area 27 = .ok (.invokestatic 75, 3) := by decide +kernel
theorem dX9_area_30 : decode cX9_area 30 = .ok (.goto 5, 3) := by decide +kernel
theorem dX9_area_33 : decode cX9_area 33 = .ok (.bipush (-2), 2) := by decide +kernel
theorem dX9_area_35 : decode cX9_area 35 = .ok (.ireturn, 1) := by decide +kernel
set_option maxRecDepth 20000 in
theorem ggX9_lake_X9_isHeightAndSill : GoodIn wsX9_lake wsX9_isHeightAndSill := goodIn_r _ [7, 8, 9, 6, 10] (by decide +kernel) (by decide +kernel)
set_option maxRecDepth 20000 in
theorem gX9_lake_X9_isHeightAndSill : GoodIn wsX9_lake (va_wsS RX9 214 yX9_isHeightAndSill wsX9_isHeightAndSill) := goodIn_app (goodIn_of _ (by decide +kernel)) ggX9_lake_X9_isHeightAndSill
set_option maxRecDepth 20000 in
theorem ggX9_lake_X9_within : GoodIn wsX9_lake wsX9_within := goodIn_r _ [10] (by decide +kernel) (by decide +kernel)
set_option maxRecDepth 20000 in
theorem gX9_lake_X9_within : GoodIn wsX9_lake (va_wsS RX9 67 yX9_within wsX9_within) := goodIn_app (goodIn_of _ (by decide +kernel)) ggX9_lake_X9_within
set_option maxRecDepth 20000 in
theorem ggX9_lake_X3_volume : GoodIn wsX9_lake wsX3_volume := goodIn_r _ [14, 15, 16, 17, 18] (by decide +kernel) (by decide +kernel)
set_option maxRecDepth 20000 in
theorem gX9_lake_X3_volume : GoodIn wsX9_lake (va_wsS RX9 217 yX3_volume wsX3_volume) := goodIn_app (goodIn_of _ (by decide +kernel)) ggX9_lake_X3_volume
set_option maxRecDepth 20000 in
theorem ggX9_lake_X3_run : GoodIn wsX9_lake wsX3_run := goodIn_r _ [22, 23, 24, 25, 26, 27, 28, 29, 30, 31, 32, 17, 33, 34, 15, 16, 18, 35, 12, 13, 14, 36, 37, 38, 39, 40, 41, 42, 43, 63, 64, 65, 66, 67, 68, 69, 70, 71, 72, 73, 74, 75] (by decide +kernel) (by decide +kernel)
set_option maxRecDepth 20000 in
theorem gX9_lake_X3_run : GoodIn wsX9_lake (wsV RX9 220 RX3 yX3_run wsX3_run) := goodIn_app (goodIn_of _ (by decide +kernel)) ggX9_lake_X3_run
set_option maxRecDepth 20000 in
theorem ggX9_lake_X3_hours : GoodIn wsX9_lake wsX3_hours := goodIn_r _ [47, 29, 73, 74, 75] (by decide +kernel) (by decide +kernel)
set_option maxRecDepth 20000 in
theorem gX9_lake_X3_hours : GoodIn wsX9_lake (wsV RX9 224 RX3 yX3_hours wsX3_hours) := goodIn_app (goodIn_of _ (by decide +kernel)) ggX9_lake_X3_hours
set_option maxRecDepth 20000 in
theorem ggX9_lake_X3_greatest : GoodIn wsX9_lake wsX3_greatest := goodIn_r _ [51, 30, 73, 74, 75] (by decide +kernel) (by decide +kernel)
set_option maxRecDepth 20000 in
theorem gX9_lake_X3_greatest : GoodIn wsX9_lake (wsV RX9 227 RX3 yX3_greatest wsX3_greatest) := goodIn_app (goodIn_of _ (by decide +kernel)) ggX9_lake_X3_greatest
theorem dX9_lake_0 : decode cX9_lake 0 = .ok (.iload_n 1, 1) := by decide +kernel
theorem dX9_lake_1 : decode cX9_lake 1 = .ok (.iload_n 2, 1) := by decide +kernel
theorem dX9_lake_2 : decode cX9_lake 2 = .ok (.invokestatic 214, 3) := by decide +kernel
theorem dX9_lake_5 : decode cX9_lake 5 = .ok (.ifCond .eq 12, 3) := by decide +kernel
theorem dX9_lake_8 : decode cX9_lake 8 = .ok (.iload_n 3, 1) := by decide +kernel
theorem dX9_lake_9 : decode cX9_lake 9 = .ok (.iconst 0, 1) := by decide +kernel
theorem dX9_lake_10 : decode cX9_lake 10 = .ok (.iconst 2, 1) := by decide +kernel
theorem dX9_lake_11 : decode cX9_lake 11 = .ok (.invokestatic 67, 3) := by decide +kernel
theorem dX9_lake_14 : decode cX9_lake 14 = .ok (.ifCond .ne 6, 3) := by decide +kernel
theorem dX9_lake_17 : decode cX9_lake 17 = .ok (.bipush (-2), 2) := by decide +kernel
theorem dX9_lake_19 : decode cX9_lake 19 = .ok (.ireturn, 1) := by decide +kernel
theorem dX9_lake_20 : decode cX9_lake 20 = .ok (.iload_n 3, 1) := by decide +kernel
theorem dX9_lake_21 : decode cX9_lake 21 = .ok (.ifCond .ne 16, 3) := by decide +kernel
theorem dX9_lake_24 : decode cX9_lake 24 = .ok (.aload_n 0, 1) := by decide +kernel
theorem dX9_lake_25 : decode cX9_lake 25 = .ok (.getfield 10, 3) := by decide +kernel
theorem dX9_lake_28 : decode cX9_lake 28 = .ok (.getfield 211, 3) := by decide +kernel
theorem dX9_lake_31 : decode cX9_lake 31 = .ok (.iload_n 1, 1) := by decide +kernel
theorem dX9_lake_32 : decode cX9_lake 32 = .ok (.iload_n 2, 1) := by decide +kernel
theorem dX9_lake_33 : decode cX9_lake 33 = .ok (.invokestatic 217, 3) := by decide +kernel
theorem dX9_lake_36 : decode cX9_lake 36 = .ok (.ireturn, 1) := by decide +kernel
theorem dX9_lake_37 : decode cX9_lake 37 = .ok (.aload_n 0, 1) := by decide +kernel
theorem dX9_lake_38 : decode cX9_lake 38 = .ok (.getfield 49, 3) := by decide +kernel
theorem dX9_lake_41 : decode cX9_lake 41 = .ok (.aload_n 0, 1) := by decide +kernel
theorem dX9_lake_42 : decode cX9_lake 42 = .ok (.getfield 10, 3) := by decide +kernel
theorem dX9_lake_45 : decode cX9_lake 45 = .ok (.iload_n 1, 1) := by decide +kernel
theorem dX9_lake_46 : decode cX9_lake 46 = .ok (.iload_n 2, 1) := by decide +kernel
theorem dX9_lake_47 : decode cX9_lake 47 = .ok (.invokevirtual 220, 3) := by decide +kernel
theorem dX9_lake_50 : decode cX9_lake 50 = .ok (.iload_n 3, 1) := by decide +kernel
theorem dX9_lake_51 : decode cX9_lake 51 = .ok (.iconst 1, 1) := by decide +kernel
theorem dX9_lake_52 : decode cX9_lake 52 = .ok (.if_icmp .ne 13, 3) := by decide +kernel
theorem dX9_lake_55 : decode cX9_lake 55 = .ok (.aload_n 0, 1) := by decide +kernel
theorem dX9_lake_56 : decode cX9_lake 56 = .ok (.getfield 49, 3) := by decide +kernel
theorem dX9_lake_59 : decode cX9_lake 59 = .ok (.invokevirtual 224, 3) := by decide +kernel
theorem dX9_lake_62 : decode cX9_lake 62 = .ok (.goto 10, 3) := by decide +kernel
theorem dX9_lake_65 : decode cX9_lake 65 = .ok (.aload_n 0, 1) := by decide +kernel
theorem dX9_lake_66 : decode cX9_lake 66 = .ok (.getfield 49, 3) := by decide +kernel
theorem dX9_lake_69 : decode cX9_lake 69 = .ok (.invokevirtual 227, 3) := by decide +kernel
theorem dX9_lake_72 : decode cX9_lake 72 = .ok (.ireturn, 1) := by decide +kernel
set_option maxRecDepth 20000 in
theorem ggX9_shore_X9_isHeightAndSill : GoodIn wsX9_shore wsX9_isHeightAndSill := goodIn_r _ [13, 14, 15, 12, 16] (by decide +kernel) (by decide +kernel)
set_option maxRecDepth 20000 in
theorem gX9_shore_X9_isHeightAndSill : GoodIn wsX9_shore (va_wsS RX9 214 yX9_isHeightAndSill wsX9_isHeightAndSill) := goodIn_app (goodIn_of _ (by decide +kernel)) ggX9_shore_X9_isHeightAndSill
set_option maxRecDepth 20000 in
theorem ggX9_shore_X9_within : GoodIn wsX9_shore wsX9_within := goodIn_r _ [16] (by decide +kernel) (by decide +kernel)
set_option maxRecDepth 20000 in
theorem gX9_shore_X9_within : GoodIn wsX9_shore (va_wsS RX9 67 yX9_within wsX9_within) := goodIn_app (goodIn_of _ (by decide +kernel)) ggX9_shore_X9_within
set_option maxRecDepth 20000 in
theorem ggX9_shore_X3_volume : GoodIn wsX9_shore wsX3_volume := goodIn_r _ [20, 21, 2, 3, 4] (by decide +kernel) (by decide +kernel)
set_option maxRecDepth 20000 in
theorem gX9_shore_X3_volume : GoodIn wsX9_shore (va_wsS RX9 217 yX3_volume wsX3_volume) := goodIn_app (goodIn_of _ (by decide +kernel)) ggX9_shore_X3_volume
theorem dX9_shore_0 : decode cX9_shore 0 = .ok (.iload_n 1, 1) := by decide +kernel
theorem dX9_shore_1 : decode cX9_shore 1 = .ok (.iload_n 2, 1) := by decide +kernel
theorem dX9_shore_2 : decode cX9_shore 2 = .ok (.invokestatic 214, 3) := by decide +kernel
theorem dX9_shore_5 : decode cX9_shore 5 = .ok (.ifCond .eq 23, 3) := by decide +kernel
theorem dX9_shore_8 : decode cX9_shore 8 = .ok (.iload_n 3, 1) := by decide +kernel
theorem dX9_shore_9 : decode cX9_shore 9 = .ok (.iconst 0, 1) := by decide +kernel
theorem dX9_shore_10 : decode cX9_shore 10 = .ok (.bipush 20, 2) := by decide +kernel
theorem dX9_shore_12 : decode cX9_shore 12 = .ok (.invokestatic 67, 3) := by decide +kernel
theorem dX9_shore_15 : decode cX9_shore 15 = .ok (.ifCond .eq 13, 3) := by decide +kernel
theorem dX9_shore_18 : decode cX9_shore 18 = .ok (.iload 4, 2) := by decide +kernel
theorem dX9_shore_20 : decode cX9_shore 20 = .ok (.iconst 0, 1) := by decide +kernel
theorem dX9_shore_21 : decode cX9_shore 21 = .ok (.iconst 1, 1) := by decide +kernel
theorem dX9_shore_22 : decode cX9_shore 22 = .ok (.invokestatic 67, 3) := by decide +kernel
theorem dX9_shore_25 : decode cX9_shore 25 = .ok (.ifCond .ne 6, 3) := by decide +kernel
theorem dX9_shore_28 : decode cX9_shore 28 = .ok (.bipush (-2), 2) := by decide +kernel
theorem dX9_shore_30 : decode cX9_shore 30 = .ok (.ireturn, 1) := by decide +kernel
theorem dX9_shore_31 : decode cX9_shore 31 = .ok (.iload 4, 2) := by decide +kernel
theorem dX9_shore_33 : decode cX9_shore 33 = .ok (.ifCond .ne 15, 3) := by decide +kernel
theorem dX9_shore_36 : decode cX9_shore 36 = .ok (.iload_n 1, 1) := by decide +kernel
theorem dX9_shore_37 : decode cX9_shore 37 = .ok (.iload_n 3, 1) := by decide +kernel
theorem dX9_shore_38 : decode cX9_shore 38 = .ok (.isub, 1) := by decide +kernel
theorem dX9_shore_39 : decode cX9_shore 39 = .ok (.iload_n 2, 1) := by decide +kernel
theorem dX9_shore_40 : decode cX9_shore 40 = .ok (.iconst 1, 1) := by decide +kernel
theorem dX9_shore_41 : decode cX9_shore 41 = .ok (.iadd, 1) := by decide +kernel
theorem dX9_shore_42 : decode cX9_shore 42 = .ok (.invokestatic 85, 3) := by decide +kernel
theorem dX9_shore_45 : decode cX9_shore 45 = .ok (.goto 11, 3) := by decide +kernel
theorem dX9_shore_48 : decode cX9_shore 48 = .ok (.iload_n 1, 1) := by decide +kernel
theorem dX9_shore_49 : decode cX9_shore 49 = .ok (.iload_n 3, 1) := by decide +kernel
theorem dX9_shore_50 : decode cX9_shore 50 = .ok (.iadd, 1) := by decide +kernel
theorem dX9_shore_51 : decode cX9_shore 51 = .ok (.bipush 20, 2) := by decide +kernel
theorem dX9_shore_53 : decode cX9_shore 53 = .ok (.invokestatic 79, 3) := by decide +kernel
theorem dX9_shore_56 : decode cX9_shore 56 = .ok (.istore 5, 2) := by decide +kernel
theorem dX9_shore_58 : decode cX9_shore 58 = .ok (.aload_n 0, 1) := by decide +kernel
theorem dX9_shore_59 : decode cX9_shore 59 = .ok (.getfield 10, 3) := by decide +kernel
theorem dX9_shore_62 : decode cX9_shore 62 = .ok (.getfield 211, 3) := by decide +kernel
theorem dX9_shore_65 : decode cX9_shore 65 = .ok (.iload 5, 2) := by decide +kernel
theorem dX9_shore_67 : decode cX9_shore 67 = .ok (.iload_n 2, 1) := by decide +kernel
theorem dX9_shore_68 : decode cX9_shore 68 = .ok (.invokestatic 217, 3) := by decide +kernel
theorem dX9_shore_71 : decode cX9_shore 71 = .ok (.ireturn, 1) := by decide +kernel
set_option maxRecDepth 20000 in
theorem ggX9_zone_X9_isZone : GoodIn wsX9_zone wsX9_isZone := goodIn_r _ [6, 7, 8, 5, 9] (by decide +kernel) (by decide +kernel)
set_option maxRecDepth 20000 in
theorem gX9_zone_X9_isZone : GoodIn wsX9_zone (va_wsS RX9 230 yX9_isZone wsX9_isZone) := goodIn_app (goodIn_of _ (by decide +kernel)) ggX9_zone_X9_isZone
set_option maxRecDepth 20000 in
theorem ggX9_zone_X9_isWarmth : GoodIn wsX9_zone wsX9_isWarmth := goodIn_r _ [12, 7, 8, 5, 9] (by decide +kernel) (by decide +kernel)
set_option maxRecDepth 20000 in
theorem gX9_zone_X9_isWarmth : GoodIn wsX9_zone (va_wsS RX9 233 yX9_isWarmth wsX9_isWarmth) := goodIn_app (goodIn_of _ (by decide +kernel)) ggX9_zone_X9_isWarmth
set_option maxRecDepth 20000 in
theorem ggX9_zone_X9_exchange : GoodIn wsX9_zone wsX9_exchange := goodIn_r _ [15] (by decide +kernel) (by decide +kernel)
set_option maxRecDepth 20000 in
theorem gX9_zone_X9_exchange : GoodIn wsX9_zone (va_wsS RX9 75 yX9_exchange wsX9_exchange) := goodIn_app (goodIn_of _ (by decide +kernel)) ggX9_zone_X9_exchange
theorem dX9_zone_0 : decode cX9_zone 0 = .ok (.iload_n 1, 1) := by decide +kernel
theorem dX9_zone_1 : decode cX9_zone 1 = .ok (.invokestatic 230, 3) := by decide +kernel
theorem dX9_zone_4 : decode cX9_zone 4 = .ok (.ifCond .eq 25, 3) := by decide +kernel
theorem dX9_zone_7 : decode cX9_zone 7 = .ok (.iload_n 2, 1) := by decide +kernel
theorem dX9_zone_8 : decode cX9_zone 8 = .ok (.invokestatic 233, 3) := by decide +kernel
theorem dX9_zone_11 : decode cX9_zone 11 = .ok (.ifCond .eq 18, 3) := by decide +kernel
theorem dX9_zone_14 : decode cX9_zone 14 = .ok (.aload_n 0, 1) := by decide +kernel
theorem dX9_zone_15 : decode cX9_zone 15 = .ok (.getfield 10, 3) := by decide +kernel
theorem dX9_zone_18 : decode cX9_zone 18 = .ok (.getfield 236, 3) := by decide +kernel
theorem dX9_zone_21 : decode cX9_zone 21 = .ok (.iload_n 1, 1) := by decide +kernel
theorem dX9_zone_22 : decode cX9_zone 22 = .ok (.iload_n 2, 1) := by decide +kernel
theorem dX9_zone_23 : decode cX9_zone 23 = .ok (.invokestatic 75, 3) := by decide +kernel
theorem dX9_zone_26 : decode cX9_zone 26 = .ok (.goto 5, 3) := by decide +kernel
theorem dX9_zone_29 : decode cX9_zone 29 = .ok (.bipush (-2), 2) := by decide +kernel
theorem dX9_zone_31 : decode cX9_zone 31 = .ok (.ireturn, 1) := by decide +kernel
set_option maxRecDepth 20000 in
theorem ggX9_ice_X9_isWarmth : GoodIn wsX9_ice wsX9_isWarmth := goodIn_r _ [5, 6, 7, 4, 8] (by decide +kernel) (by decide +kernel)
set_option maxRecDepth 20000 in
theorem gX9_ice_X9_isWarmth : GoodIn wsX9_ice (va_wsS RX9 233 yX9_isWarmth wsX9_isWarmth) := goodIn_app (goodIn_of _ (by decide +kernel)) ggX9_ice_X9_isWarmth
set_option maxRecDepth 20000 in
theorem ggX9_ice_X8_standsAt : GoodIn wsX9_ice wsX8_standsAt := goodIn_r _ [12, 13, 14, 15, 16, 17, 18, 30, 31, 32, 33, 34, 35, 36, 37, 38, 39] (by decide +kernel) (by decide +kernel)
set_option maxRecDepth 20000 in
theorem gX9_ice_X8_standsAt : GoodIn wsX9_ice (va_wsS RX9 239 yX8_standsAt wsX8_standsAt) := goodIn_app (goodIn_of _ (by decide +kernel)) ggX9_ice_X8_standsAt
theorem dX9_ice_0 : decode cX9_ice 0 = .ok (.iload_n 1, 1) := by decide +kernel
theorem dX9_ice_1 : decode cX9_ice 1 = .ok (.invokestatic 233, 3) := by decide +kernel
theorem dX9_ice_4 : decode cX9_ice 4 = .ok (.ifCond .eq 22, 3) := by decide +kernel
theorem dX9_ice_7 : decode cX9_ice 7 = .ok (.iload_n 2, 1) := by decide +kernel
theorem dX9_ice_8 : decode cX9_ice 8 = .ok (.invokestatic 233, 3) := by decide +kernel
theorem dX9_ice_11 : decode cX9_ice 11 = .ok (.ifCond .eq 15, 3) := by decide +kernel
theorem dX9_ice_14 : decode cX9_ice 14 = .ok (.aload_n 0, 1) := by decide +kernel
theorem dX9_ice_15 : decode cX9_ice 15 = .ok (.getfield 10, 3) := by decide +kernel
theorem dX9_ice_18 : decode cX9_ice 18 = .ok (.iload_n 1, 1) := by decide +kernel
theorem dX9_ice_19 : decode cX9_ice 19 = .ok (.iload_n 2, 1) := by decide +kernel
theorem dX9_ice_20 : decode cX9_ice 20 = .ok (.invokestatic 239, 3) := by decide +kernel
theorem dX9_ice_23 : decode cX9_ice 23 = .ok (.goto 5, 3) := by decide +kernel
theorem dX9_ice_26 : decode cX9_ice 26 = .ok (.bipush (-10), 2) := by decide +kernel
theorem dX9_ice_28 : decode cX9_ice 28 = .ok (.ireturn, 1) := by decide +kernel
set_option maxRecDepth 20000 in
theorem ggX9_warm_X9_isZone : GoodIn wsX9_warm wsX9_isZone := goodIn_r _ [5, 6, 7, 4, 8] (by decide +kernel) (by decide +kernel)
set_option maxRecDepth 20000 in
theorem gX9_warm_X9_isZone : GoodIn wsX9_warm (va_wsS RX9 230 yX9_isZone wsX9_isZone) := goodIn_app (goodIn_of _ (by decide +kernel)) ggX9_warm_X9_isZone
set_option maxRecDepth 20000 in
theorem ggX9_warm_X9_isWarmth : GoodIn wsX9_warm wsX9_isWarmth := goodIn_r _ [11, 6, 7, 4, 8] (by decide +kernel) (by decide +kernel)
set_option maxRecDepth 20000 in
theorem gX9_warm_X9_isWarmth : GoodIn wsX9_warm (va_wsS RX9 233 yX9_isWarmth wsX9_isWarmth) := goodIn_app (goodIn_of _ (by decide +kernel)) ggX9_warm_X9_isWarmth
set_option maxRecDepth 20000 in
theorem ggX9_warm_X9_within : GoodIn wsX9_warm wsX9_within := goodIn_r _ [8] (by decide +kernel) (by decide +kernel)
set_option maxRecDepth 20000 in
theorem gX9_warm_X9_within : GoodIn wsX9_warm (va_wsS RX9 67 yX9_within wsX9_within) := goodIn_app (goodIn_of _ (by decide +kernel)) ggX9_warm_X9_within
set_option maxRecDepth 20000 in
theorem ggX9_warm_X8_leastFor : GoodIn wsX9_warm wsX8_leastFor := goodIn_r _ [15, 16, 17, 14, 18, 19, 20, 21, 22, 23, 24, 39, 40, 41, 42, 43, 44, 45, 46, 47, 48] (by decide +kernel) (by decide +kernel)
set_option maxRecDepth 20000 in
theorem gX9_warm_X8_leastFor : GoodIn wsX9_warm (va_wsS RX9 244 yX8_leastFor wsX8_leastFor) := goodIn_app (goodIn_of _ (by decide +kernel)) ggX9_warm_X8_leastFor
set_option maxRecDepth 20000 in
theorem ggX9_warm_X8_greatestFor : GoodIn wsX9_warm wsX8_greatestFor := goodIn_r _ [27, 16, 17, 14, 18, 19, 20, 21, 22, 23, 24, 39, 40, 41, 42, 43, 44, 45, 46, 47, 48] (by decide +kernel) (by decide +kernel)
set_option maxRecDepth 20000 in
theorem gX9_warm_X8_greatestFor : GoodIn wsX9_warm (va_wsS RX9 247 yX8_greatestFor wsX8_greatestFor) := goodIn_app (goodIn_of _ (by decide +kernel)) ggX9_warm_X8_greatestFor
theorem dX9_warm_0 : decode cX9_warm 0 = .ok (.iload_n 1, 1) := by decide +kernel
theorem dX9_warm_1 : decode cX9_warm 1 = .ok (.invokestatic 230, 3) := by decide +kernel
theorem dX9_warm_4 : decode cX9_warm 4 = .ok (.ifCond .eq 19, 3) := by decide +kernel
theorem dX9_warm_7 : decode cX9_warm 7 = .ok (.iload_n 2, 1) := by decide +kernel
theorem dX9_warm_8 : decode cX9_warm 8 = .ok (.invokestatic 233, 3) := by decide +kernel
theorem dX9_warm_11 : decode cX9_warm 11 = .ok (.ifCond .eq 12, 3) := by decide +kernel
theorem dX9_warm_14 : decode cX9_warm 14 = .ok (.iload_n 3, 1) := by decide +kernel
theorem dX9_warm_15 : decode cX9_warm 15 = .ok (.iconst 0, 1) := by decide +kernel
theorem dX9_warm_16 : decode cX9_warm 16 = .ok (.iconst 1, 1) := by decide +kernel
theorem dX9_warm_17 : decode cX9_warm 17 = .ok (.invokestatic 67, 3) := by decide +kernel
theorem dX9_warm_20 : decode cX9_warm 20 = .ok (.ifCond .ne 6, 3) := by decide +kernel
theorem dX9_warm_23 : decode cX9_warm 23 = .ok (.bipush (-2), 2) := by decide +kernel
theorem dX9_warm_25 : decode cX9_warm 25 = .ok (.ireturn, 1) := by decide +kernel
theorem dX9_warm_26 : decode cX9_warm 26 = .ok (.iload_n 3, 1) := by decide +kernel
theorem dX9_warm_27 : decode cX9_warm 27 = .ok (.ifCond .ne 15, 3) := by decide +kernel
theorem dX9_warm_30 : decode cX9_warm 30 = .ok (.aload_n 0, 1) := by decide +kernel
theorem dX9_warm_31 : decode cX9_warm 31 = .ok (.getfield 10, 3) := by decide +kernel
theorem dX9_warm_34 : decode cX9_warm 34 = .ok (.iload_n 1, 1) := by decide +kernel
theorem dX9_warm_35 : decode cX9_warm 35 = .ok (.iload_n 2, 1) := by decide +kernel
theorem dX9_warm_36 : decode cX9_warm 36 = .ok (.invokestatic 244, 3) := by decide +kernel
theorem dX9_warm_39 : decode cX9_warm 39 = .ok (.goto 12, 3) := by decide +kernel
theorem dX9_warm_42 : decode cX9_warm 42 = .ok (.aload_n 0, 1) := by decide +kernel
theorem dX9_warm_43 : decode cX9_warm 43 = .ok (.getfield 10, 3) := by decide +kernel
theorem dX9_warm_46 : decode cX9_warm 46 = .ok (.iload_n 1, 1) := by decide +kernel
theorem dX9_warm_47 : decode cX9_warm 47 = .ok (.iload_n 2, 1) := by decide +kernel
theorem dX9_warm_48 : decode cX9_warm 48 = .ok (.invokestatic 247, 3) := by decide +kernel
theorem dX9_warm_51 : decode cX9_warm 51 = .ok (.ireturn, 1) := by decide +kernel
set_option maxRecDepth 20000 in
theorem ggX9_type_X9_within : GoodIn wsX9_type wsX9_within := goodIn_r _ [5] (by decide +kernel) (by decide +kernel)
set_option maxRecDepth 20000 in
theorem gX9_type_X9_within : GoodIn wsX9_type (va_wsS RX9 67 yX9_within wsX9_within) := goodIn_app (goodIn_of _ (by decide +kernel)) ggX9_type_X9_within
set_option maxRecDepth 20000 in
theorem ggX9_type_X6_append : GoodIn wsX9_type wsX6_append := goodIn_r _ [10, 11, 12, 13, 25, 26, 27, 28, 29, 30, 31] (by decide +kernel) (by decide +kernel)
set_option maxRecDepth 20000 in
theorem gX9_type_X6_append : GoodIn wsX9_type (wsV RX9 250 RX6 yX6_append wsX6_append) := goodIn_app (goodIn_of _ (by decide +kernel)) ggX9_type_X6_append
theorem dX9_type_0 : decode cX9_type 0 = .ok (.iload_n 3, 1) := by decide +kernel
theorem dX9_type_1 : decode cX9_type 1 = .ok (.iconst 1, 1) := by decide +kernel
theorem dX9_type_2 : decode cX9_type 2 = .ok (.bipush 8, 2) := by decide +kernel
theorem dX9_type_4 : decode cX9_type 4 = .ok (.invokestatic 67, 3) := by decide +kernel
theorem dX9_type_7 : decode cX9_type 7 = .ok (.ifCond .eq 15, 3) := by decide +kernel
theorem dX9_type_10 : decode cX9_type 10 = .ok (.aload_n 0, 1) := by decide +kernel
theorem dX9_type_11 : decode cX9_type 11 = .ok (.getfield 56, 3) := by decide +kernel
theorem dX9_type_14 : decode cX9_type 14 = .ok (.lload_n 1, 1) := by decide +kernel
theorem dX9_type_15 : decode cX9_type 15 = .ok (.iload_n 3, 1) := by decide +kernel
theorem dX9_type_16 : decode cX9_type 16 = .ok (.invokevirtual 250, 3) := by decide +kernel
theorem dX9_type_19 : decode cX9_type 19 = .ok (.goto 5, 3) := by decide +kernel
theorem dX9_type_22 : decode cX9_type 22 = .ok (.bipush (-2), 2) := by decide +kernel
theorem dX9_type_24 : decode cX9_type 24 = .ok (.ireturn, 1) := by decide +kernel
set_option maxRecDepth 20000 in
theorem ggX9_clear_X6_size : GoodIn wsX9_clear wsX6_size := goodIn_r _ [6, 7, 23, 24, 25, 26, 27, 28, 29] (by decide +kernel) (by decide +kernel)
set_option maxRecDepth 20000 in
theorem gX9_clear_X6_size : GoodIn wsX9_clear (wsV RX9 254 RX6 yX6_size wsX6_size) := goodIn_app (goodIn_of _ (by decide +kernel)) ggX9_clear_X6_size
set_option maxRecDepth 20000 in
theorem ggX9_clear_X6_empty : GoodIn wsX9_clear wsX6_empty := goodIn_r _ [11, 7, 23, 24, 25, 26, 27, 28, 29] (by decide +kernel) (by decide +kernel)
set_option maxRecDepth 20000 in
theorem gX9_clear_X6_empty : GoodIn wsX9_clear (wsV RX9 257 RX6 yX6_empty wsX6_empty) := goodIn_app (goodIn_of _ (by decide +kernel)) ggX9_clear_X6_empty
theorem dX9_clear_0 : decode cX9_clear 0 = .ok (.aload_n 0, 1) := by decide +kernel
theorem dX9_clear_1 : decode cX9_clear 1 = .ok (.getfield 56, 3) := by decide +kernel
theorem dX9_clear_4 : decode cX9_clear 4 = .ok (.invokevirtual 254, 3) := by decide +kernel
theorem dX9_clear_7 : decode cX9_clear 7 = .ok (.istore_n 1, 1) := by decide +kernel
theorem dX9_clear_8 : decode cX9_clear 8 = .ok (.aload_n 0, 1) := by decide +kernel
theorem dX9_clear_9 : decode cX9_clear 9 = .ok (.getfield 56, 3) := by decide +kernel
theorem dX9_clear_12 : decode cX9_clear 12 = .ok (.invokevirtual 257, 3) := by decide +kernel
theorem dX9_clear_15 : decode cX9_clear 15 = .ok (.iload_n 1, 1) := by decide +kernel
theorem dX9_clear_16 : decode cX9_clear 16 = .ok (.ireturn, 1) := by decide +kernel
set_option maxRecDepth 20000 in
theorem ggX9_fault_X6_faultPlace : GoodIn wsX9_fault wsX6_faultPlace := goodIn_r _ [6, 7, 8, 9, 10, 5, 11, 12, 13, 14, 15, 16, 17, 18, 19, 20, 21, 22, 23, 24, 25, 26, 27, 28, 29, 30, 31, 32, 33, 34, 35, 36, 37, 38, 39, 40, 41, 42, 43, 44, 45, 46, 47, 48, 49, 50, 51, 52, 53, 54, 55, 56, 57, 58, 59, 60, 61, 62, 63, 64, 65, 66, 67, 68, 69, 70, 71, 72, 73, 74, 75, 76, 77, 78, 79, 80, 81, 82, 83, 84, 85, 86, 87, 88, 89, 101, 102, 103, 104, 105, 106, 107] (by decide +kernel) (by decide +kernel)
set_option maxRecDepth 20000 in
theorem gX9_fault_X6_faultPlace : GoodIn wsX9_fault (wsV RX9 260 RX6 yX6_faultPlace wsX6_faultPlace) := goodIn_app (goodIn_of _ (by decide +kernel)) ggX9_fault_X6_faultPlace
theorem dX9_fault_0 : decode cX9_fault 0 = .ok (.aload_n 0, 1) := by decide +kernel
theorem dX9_fault_1 : decode cX9_fault 1 = .ok (.getfield 56, 3) := by decide +kernel
theorem dX9_fault_4 : decode cX9_fault 4 = .ok (.invokevirtual 260, 3) := by decide +kernel
theorem dX9_fault_7 : decode cX9_fault 7 = .ok (.ireturn, 1) := by decide +kernel
set_option maxRecDepth 20000 in
theorem ggX9_read_X6_faultPlace : GoodIn wsX9_read wsX6_faultPlace := goodIn_r _ [8, 9, 10, 11, 12, 7, 13, 14, 15, 16, 17, 18, 19, 20, 21, 22, 23, 24, 25, 26, 27, 28, 29, 30, 31, 32, 33, 34, 35, 36, 37, 38, 39, 40, 41, 42, 43, 44, 45, 46, 47, 48, 49, 50, 51, 52, 53, 54, 55, 56, 57, 58, 59, 60, 61, 62, 63, 64, 65, 66, 67, 68, 69, 70, 71, 72, 73, 74, 75, 76, 77, 78, 79, 80, 81, 82, 83, 84, 85, 86, 87, 88, 89, 90, 91, 219, 220, 221, 222, 223, 224, 225] (by decide +kernel) (by decide +kernel)
set_option maxRecDepth 20000 in
theorem gX9_read_X6_faultPlace : GoodIn wsX9_read (wsV RX9 260 RX6 yX6_faultPlace wsX6_faultPlace) := goodIn_app (goodIn_of _ (by decide +kernel)) ggX9_read_X6_faultPlace
set_option maxRecDepth 20000 in
theorem ggX9_read_X1_copyFrom : GoodIn wsX9_read wsX1_copyFrom := goodIn_r _ [96, 97, 98, 99, 100, 101, 102, 103, 104, 105, 106, 107, 108, 109, 110, 111, 112, 113, 114, 115, 116, 117, 118, 24, 25, 26, 119, 120, 226, 227, 228, 229, 230, 231, 232, 233, 234, 235, 236, 237, 238] (by decide +kernel) (by decide +kernel)
set_option maxRecDepth 20000 in
theorem gX9_read_X1_copyFrom : GoodIn wsX9_read (wsV RX9 263 RX1 yX1_copyFrom wsX1_copyFrom) := goodIn_app (goodIn_of _ (by decide +kernel)) ggX9_read_X1_copyFrom
set_option maxRecDepth 20000 in
theorem ggX9_read_X6_goToStart : GoodIn wsX9_read wsX6_goToStart := goodIn_r _ [13, 14, 219, 220, 221, 222, 223, 224, 225] (by decide +kernel) (by decide +kernel)
set_option maxRecDepth 20000 in
theorem gX9_read_X6_goToStart : GoodIn wsX9_read (wsV RX9 266 RX6 yX6_goToStart wsX6_goToStart) := goodIn_app (goodIn_of _ (by decide +kernel)) ggX9_read_X6_goToStart
set_option maxRecDepth 20000 in
theorem ggX9_read_X6_takeItem : GoodIn wsX9_read wsX6_takeItem := goodIn_r _ [18, 19, 20, 21, 22, 23, 24, 25, 26, 27, 28, 29, 7, 30, 14, 31, 32, 9, 33, 34, 35, 36, 37, 38, 39, 40, 41, 42, 43, 44, 45, 46, 47, 48, 49, 50, 51, 52, 53, 54, 55, 56, 57, 58, 59, 60, 61, 62, 63, 64, 65, 66, 67, 68, 69, 70, 71, 72, 73, 74, 75, 76, 77, 78, 79, 80, 81, 82, 83, 84, 85, 86, 87, 88, 89, 90, 91, 219, 220, 221, 222, 223, 224, 225] (by decide +kernel) (by decide +kernel)
set_option maxRecDepth 20000 in
theorem gX9_read_X6_takeItem : GoodIn wsX9_read (wsV RX9 269 RX6 yX6_takeItem wsX6_takeItem) := goodIn_app (goodIn_of _ (by decide +kernel)) ggX9_read_X6_takeItem
set_option maxRecDepth 20000 in
theorem ggX9_read_X9_noteItem : GoodIn wsX9_read wsX9_noteItem := goodIn_r _ [127, 1, 128, 129, 130, 7, 131, 20, 132, 133, 134, 135, 22, 136, 137, 138, 126, 139, 3, 140, 141, 142, 143, 144, 145, 146, 147, 148, 149, 150, 151, 114, 152, 117, 153, 154, 155, 156, 119, 157, 158, 159, 160, 161, 162, 163, 164, 116, 165, 166, 167, 168, 169, 170, 171, 172, 173, 174, 175, 176, 177, 178, 179, 180, 181, 182, 183, 184, 185, 186, 187, 188, 189, 190, 191, 192, 193, 194, 195, 196, 197, 198, 199, 200, 201, 202, 203, 208, 209, 210, 211, 212, 213, 214, 215, 216, 217, 218, 219, 220, 221, 222, 223, 224, 225, 226, 227, 228, 229, 230, 231, 232, 233, 234, 235, 236, 237, 238] (by decide +kernel) (by decide +kernel)
set_option maxRecDepth 20000 in
theorem gX9_read_X9_noteItem : GoodIn wsX9_read (wsV RX9 272 RX9 yX9_noteItem wsX9_noteItem) := goodIn_app (goodIn_of _ (by decide +kernel)) ggX9_read_X9_noteItem
set_option maxRecDepth 20000 in
theorem ggX9_read_X6_empty : GoodIn wsX9_read wsX6_empty := goodIn_r _ [207, 31, 219, 220, 221, 222, 223, 224, 225] (by decide +kernel) (by decide +kernel)
set_option maxRecDepth 20000 in
theorem gX9_read_X6_empty : GoodIn wsX9_read (wsV RX9 257 RX6 yX6_empty wsX6_empty) := goodIn_app (goodIn_of _ (by decide +kernel)) ggX9_read_X6_empty
theorem dX9_read_0 : decode cX9_read 0 = .ok (.aload_n 0, 1) := by decide +kernel
theorem dX9_read_1 : decode cX9_read 1 = .ok (.getfield 56, 3) := by decide +kernel
theorem dX9_read_4 : decode cX9_read 4 = .ok (.invokevirtual 260, 3) := by decide +kernel
theorem dX9_read_7 : decode cX9_read 7 = .ok (.istore_n 1, 1) := by decide +kernel
theorem dX9_read_8 : decode cX9_read 8 = .ok (.iload_n 1, 1) := by decide +kernel
theorem dX9_read_9 : decode cX9_read 9 = .ok (.iconst (-1), 1) := by decide +kernel
theorem dX9_read_10 : decode cX9_read 10 = .ok (.if_icmp .eq 8, 3) := by decide +kernel
theorem dX9_read_13 : decode cX9_read 13 = .ok (.bipush (-10), 2) := by decide +kernel
theorem dX9_read_15 : decode cX9_read 15 = .ok (.iload_n 1, 1) := by decide +kernel
theorem dX9_read_16 : decode cX9_read 16 = .ok (.isub, 1) := by decide +kernel
theorem dX9_read_17 : decode cX9_read 17 = .ok (.ireturn, 1) := by decide +kernel
theorem dX9_read_18 : decode cX9_read 18 = .ok (.aload_n 0, 1) := by decide +kernel
theorem dX9_read_19 : decode cX9_read 19 = .ok (.getfield 16, 3) := by decide +kernel
theorem dX9_read_22 : decode cX9_read 22 = .ok (.aload_n 0, 1) := by decide +kernel
theorem dX9_read_23 : decode cX9_read 23 = .ok (.getfield 10, 3) := by decide +kernel
theorem dX9_read_26 : decode cX9_read 26 = .ok (.invokevirtual 263, 3) := by decide +kernel
theorem dX9_read_29 : decode cX9_read 29 = .ok (.aload_n 0, 1) := by decide +kernel
theorem dX9_read_30 : decode cX9_read 30 = .ok (.getfield 56, 3) := by decide +kernel
theorem dX9_read_33 : decode cX9_read 33 = .ok (.invokevirtual 266, 3) := by decide +kernel
theorem dX9_read_36 : decode cX9_read 36 = .ok (.iconst 0, 1) := by decide +kernel
theorem dX9_read_37 : decode cX9_read 37 = .ok (.istore_n 2, 1) := by decide +kernel
theorem dX9_read_38 : decode cX9_read 38 = .ok (.iload_n 2, 1) := by decide +kernel
theorem dX9_read_39 : decode cX9_read 39 = .ok (.sipush 240, 3) := by decide +kernel
theorem dX9_read_42 : decode cX9_read 42 = .ok (.if_icmp .ge 44, 3) := by decide +kernel
theorem dX9_read_45 : decode cX9_read 45 = .ok (.aload_n 0, 1) := by decide +kernel
theorem dX9_read_46 : decode cX9_read 46 = .ok (.getfield 56, 3) := by decide +kernel
theorem dX9_read_49 : decode cX9_read 49 = .ok (.invokevirtual 269, 3) := by decide +kernel
theorem dX9_read_52 : decode cX9_read 52 = .ok (.iconst 1, 1) := by decide +kernel
theorem dX9_read_53 : decode cX9_read 53 = .ok (.if_icmp .ne 33, 3) := by decide +kernel
theorem dX9_read_56 : decode cX9_read 56 = .ok (.aload_n 0, 1) := by decide +kernel
theorem dX9_read_57 : decode cX9_read 57 = .ok (.invokevirtual 272, 3) := by decide +kernel
theorem dX9_read_60 : decode cX9_read 60 = .ok (.ifCond .ge 20, 3) := by decide +kernel
theorem dX9_read_63 : decode cX9_read 63 = .ok (.aload_n 0, 1) := by decide +kernel
theorem dX9_read_64 : decode cX9_read 64 = .ok (.getfield 10, 3) := by decide +kernel
theorem dX9_read_67 : decode cX9_read 67 = .ok (.aload_n 0, 1) := by decide +kernel
theorem dX9_read_68 : decode cX9_read 68 = .ok (.getfield 16, 3) := by decide +kernel
theorem dX9_read_71 : decode cX9_read 71 = .ok (.invokevirtual 263, 3) := by decide +kernel
theorem dX9_read_74 : decode cX9_read 74 = .ok (.sipush (-1000), 3) := by decide +kernel
theorem dX9_read_77 : decode cX9_read 77 = .ok (.iload_n 2, 1) := by decide +kernel
theorem dX9_read_78 : decode cX9_read 78 = .ok (.isub, 1) := by decide +kernel
theorem dX9_read_79 : decode cX9_read 79 = .ok (.ireturn, 1) := by decide +kernel
theorem dX9_read_80 : decode cX9_read 80 = .ok (.iinc 2 1, 3) := by decide +kernel
theorem dX9_read_83 : decode cX9_read 83 = .ok (.goto (-45), 3) := by decide +kernel
theorem dX9_read_86 : decode cX9_read 86 = .ok (.aload_n 0, 1) := by decide +kernel
theorem dX9_read_87 : decode cX9_read 87 = .ok (.getfield 56, 3) := by decide +kernel
theorem dX9_read_90 : decode cX9_read 90 = .ok (.invokevirtual 257, 3) := by decide +kernel
theorem dX9_read_93 : decode cX9_read 93 = .ok (.iload_n 2, 1) := by decide +kernel
theorem dX9_read_94 : decode cX9_read 94 = .ok (.ireturn, 1) := by decide +kernel
set_option maxRecDepth 20000 in
theorem ggX9_image_X9_within : GoodIn wsX9_image wsX9_within := goodIn_r _ [7] (by decide +kernel) (by decide +kernel)
set_option maxRecDepth 20000 in
theorem gX9_image_X9_within : GoodIn wsX9_image (va_wsS RX9 67 yX9_within wsX9_within) := goodIn_app (goodIn_of _ (by decide +kernel)) ggX9_image_X9_within
set_option maxRecDepth 20000 in
theorem ggX9_image_X9_imageOf : GoodIn wsX9_image wsX9_imageOf := goodIn_r _ [11, 12, 13, 46, 47, 48, 49, 50, 51, 52, 53, 54, 55, 56] (by decide +kernel) (by decide +kernel)
set_option maxRecDepth 20000 in
theorem gX9_image_X9_imageOf : GoodIn wsX9_image (wsV RX9 275 RX9 yX9_imageOf wsX9_imageOf) := goodIn_app (goodIn_of _ (by decide +kernel)) ggX9_image_X9_imageOf
set_option maxRecDepth 20000 in
theorem ggX9_image_X1_copyFrom : GoodIn wsX9_image wsX1_copyFrom := goodIn_r _ [18, 19, 20, 21, 22, 23, 24, 25, 26, 27, 28, 29, 30, 31, 32, 33, 34, 35, 36, 37, 38, 39, 40, 41, 42, 43, 44, 45, 57, 58, 59, 60, 61, 62, 63, 64, 65, 66, 67, 68, 69] (by decide +kernel) (by decide +kernel)
set_option maxRecDepth 20000 in
theorem gX9_image_X1_copyFrom : GoodIn wsX9_image (wsV RX9 263 RX1 yX1_copyFrom wsX1_copyFrom) := goodIn_app (goodIn_of _ (by decide +kernel)) ggX9_image_X1_copyFrom
theorem dX9_image_0 : decode cX9_image 0 = .ok (.iload_n 1, 1) := by decide +kernel
theorem dX9_image_1 : decode cX9_image 1 = .ok (.iconst 0, 1) := by decide +kernel
theorem dX9_image_2 : decode cX9_image 2 = .ok (.iconst 1, 1) := by decide +kernel
theorem dX9_image_3 : decode cX9_image 3 = .ok (.invokestatic 67, 3) := by decide +kernel
theorem dX9_image_6 : decode cX9_image 6 = .ok (.ifCond .ne 6, 3) := by decide +kernel
theorem dX9_image_9 : decode cX9_image 9 = .ok (.bipush (-2), 2) := by decide +kernel
theorem dX9_image_11 : decode cX9_image 11 = .ok (.ireturn, 1) := by decide +kernel
theorem dX9_image_12 : decode cX9_image 12 = .ok (.aload_n 0, 1) := by decide +kernel
theorem dX9_image_13 : decode cX9_image 13 = .ok (.iload_n 1, 1) := by decide +kernel
theorem dX9_image_14 : decode cX9_image 14 = .ok (.invokevirtual 275, 3) := by decide +kernel
theorem dX9_image_17 : decode cX9_image 17 = .ok (.aload_n 0, 1) := by decide +kernel
theorem dX9_image_18 : decode cX9_image 18 = .ok (.getfield 10, 3) := by decide +kernel
theorem dX9_image_21 : decode cX9_image 21 = .ok (.invokevirtual 263, 3) := by decide +kernel
theorem dX9_image_24 : decode cX9_image 24 = .ok (.aload_n 0, 1) := by decide +kernel
theorem dX9_image_25 : decode cX9_image 25 = .ok (.aload_n 0, 1) := by decide +kernel
theorem dX9_image_26 : decode cX9_image 26 = .ok (.getfield 279, 3) := by decide +kernel
theorem dX9_image_29 : decode cX9_image 29 = .ok (.ifCond .ne 7, 3) := by decide +kernel
theorem dX9_image_32 : decode cX9_image 32 = .ok (.iload_n 1, 1) := by decide +kernel
theorem dX9_image_33 : decode cX9_image 33 = .ok (.ifCond .ne 7, 3) := by decide +kernel
theorem dX9_image_36 : decode cX9_image 36 = .ok (.iconst 1, 1) := by decide +kernel
theorem dX9_image_37 : decode cX9_image 37 = .ok (.goto 4, 3) := by decide +kernel
theorem dX9_image_40 : decode cX9_image 40 = .ok (.iconst 0, 1) := by decide +kernel
theorem dX9_image_41 : decode cX9_image 41 = .ok (.putfield 279, 3) := by decide +kernel
theorem dX9_image_44 : decode cX9_image 44 = .ok (.aload_n 0, 1) := by decide +kernel
theorem dX9_image_45 : decode cX9_image 45 = .ok (.aload_n 0, 1) := by decide +kernel
theorem dX9_image_46 : decode cX9_image 46 = .ok (.getfield 283, 3) := by decide +kernel
theorem dX9_image_49 : decode cX9_image 49 = .ok (.ifCond .ne 8, 3) := by decide +kernel
theorem dX9_image_52 : decode cX9_image 52 = .ok (.iload_n 1, 1) := by decide +kernel
theorem dX9_image_53 : decode cX9_image 53 = .ok (.iconst 1, 1) := by decide +kernel
theorem dX9_image_54 : decode cX9_image 54 = .ok (.if_icmp .ne 7, 3) := by decide +kernel
theorem dX9_image_57 : decode cX9_image 57 = .ok (.iconst 1, 1) := by decide +kernel
theorem dX9_image_58 : decode cX9_image 58 = .ok (.goto 4, 3) := by decide +kernel
theorem dX9_image_61 : decode cX9_image 61 = .ok (.iconst 0, 1) := by decide +kernel
theorem dX9_image_62 : decode cX9_image 62 = .ok (.putfield 283, 3) := by decide +kernel
theorem dX9_image_65 : decode cX9_image 65 = .ok (.iconst 1, 1) := by decide +kernel
theorem dX9_image_66 : decode cX9_image 66 = .ok (.ireturn, 1) := by decide +kernel
set_option maxRecDepth 20000 in
theorem ggX9_from_X9_within : GoodIn wsX9_from wsX9_within := goodIn_r _ [7] (by decide +kernel) (by decide +kernel)
set_option maxRecDepth 20000 in
theorem gX9_from_X9_within : GoodIn wsX9_from (va_wsS RX9 67 yX9_within wsX9_within) := goodIn_app (goodIn_of _ (by decide +kernel)) ggX9_from_X9_within
set_option maxRecDepth 20000 in
theorem ggX9_from_X9_imageOf : GoodIn wsX9_from wsX9_imageOf := goodIn_r _ [11, 12, 13, 46, 47, 48, 49, 50, 51, 52, 53, 54, 55, 56] (by decide +kernel) (by decide +kernel)
set_option maxRecDepth 20000 in
theorem gX9_from_X9_imageOf : GoodIn wsX9_from (wsV RX9 275 RX9 yX9_imageOf wsX9_imageOf) := goodIn_app (goodIn_of _ (by decide +kernel)) ggX9_from_X9_imageOf
set_option maxRecDepth 20000 in
theorem ggX9_from_X1_copyFrom : GoodIn wsX9_from wsX1_copyFrom := goodIn_r _ [18, 19, 20, 21, 22, 23, 24, 25, 26, 27, 28, 29, 30, 31, 32, 33, 34, 35, 36, 37, 38, 39, 40, 41, 42, 43, 44, 45, 57, 58, 59, 60, 61, 62, 63, 64, 65, 66, 67, 68, 69] (by decide +kernel) (by decide +kernel)
set_option maxRecDepth 20000 in
theorem gX9_from_X1_copyFrom : GoodIn wsX9_from (wsV RX9 263 RX1 yX1_copyFrom wsX1_copyFrom) := goodIn_app (goodIn_of _ (by decide +kernel)) ggX9_from_X1_copyFrom
theorem dX9_from_0 : decode cX9_from 0 = .ok (.iload_n 1, 1) := by decide +kernel
theorem dX9_from_1 : decode cX9_from 1 = .ok (.iconst 0, 1) := by decide +kernel
theorem dX9_from_2 : decode cX9_from 2 = .ok (.iconst 1, 1) := by decide +kernel
theorem dX9_from_3 : decode cX9_from 3 = .ok (.invokestatic 67, 3) := by decide +kernel
theorem dX9_from_6 : decode cX9_from 6 = .ok (.ifCond .ne 6, 3) := by decide +kernel
theorem dX9_from_9 : decode cX9_from 9 = .ok (.bipush (-2), 2) := by decide +kernel
theorem dX9_from_11 : decode cX9_from 11 = .ok (.ireturn, 1) := by decide +kernel
theorem dX9_from_12 : decode cX9_from 12 = .ok (.iload_n 1, 1) := by decide +kernel
theorem dX9_from_13 : decode cX9_from 13 = .ok (.ifCond .ne 13, 3) := by decide +kernel
theorem dX9_from_16 : decode cX9_from 16 = .ok (.aload_n 0, 1) := by decide +kernel
theorem dX9_from_17 : decode cX9_from 17 = .ok (.getfield 279, 3) := by decide +kernel
theorem dX9_from_20 : decode cX9_from 20 = .ok (.ifCond .ne 16, 3) := by decide +kernel
theorem dX9_from_23 : decode cX9_from 23 = .ok (.goto 10, 3) := by decide +kernel
theorem dX9_from_26 : decode cX9_from 26 = .ok (.aload_n 0, 1) := by decide +kernel
theorem dX9_from_27 : decode cX9_from 27 = .ok (.getfield 283, 3) := by decide +kernel
theorem dX9_from_30 : decode cX9_from 30 = .ok (.ifCond .ne 6, 3) := by decide +kernel
theorem dX9_from_33 : decode cX9_from 33 = .ok (.bipush (-3), 2) := by decide +kernel
theorem dX9_from_35 : decode cX9_from 35 = .ok (.ireturn, 1) := by decide +kernel
theorem dX9_from_36 : decode cX9_from 36 = .ok (.aload_n 0, 1) := by decide +kernel
theorem dX9_from_37 : decode cX9_from 37 = .ok (.getfield 10, 3) := by decide +kernel
theorem dX9_from_40 : decode cX9_from 40 = .ok (.aload_n 0, 1) := by decide +kernel
theorem dX9_from_41 : decode cX9_from 41 = .ok (.iload_n 1, 1) := by decide +kernel
theorem dX9_from_42 : decode cX9_from 42 = .ok (.invokevirtual 275, 3) := by decide +kernel
theorem dX9_from_45 : decode cX9_from 45 = .ok (.invokevirtual 263, 3) := by decide +kernel
theorem dX9_from_48 : decode cX9_from 48 = .ok (.iconst 1, 1) := by decide +kernel
theorem dX9_from_49 : decode cX9_from 49 = .ok (.ireturn, 1) := by decide +kernel
set_option maxRecDepth 20000 in
theorem ggX9_count_X4_size : GoodIn wsX9_count wsX4_size := goodIn_r _ [13, 14, 42, 43, 44] (by decide +kernel) (by decide +kernel)
set_option maxRecDepth 20000 in
theorem gX9_count_X4_size : GoodIn wsX9_count (wsV RX9 286 RX4 yX4_size wsX4_size) := goodIn_app (goodIn_of _ (by decide +kernel)) ggX9_count_X4_size
set_option maxRecDepth 20000 in
theorem ggX9_count_X6_size : GoodIn wsX9_count wsX6_size := goodIn_r _ [19, 20, 45, 46, 47, 48, 49, 50, 51] (by decide +kernel) (by decide +kernel)
set_option maxRecDepth 20000 in
theorem gX9_count_X6_size : GoodIn wsX9_count (wsV RX9 254 RX6 yX6_size wsX6_size) := goodIn_app (goodIn_of _ (by decide +kernel)) ggX9_count_X6_size
theorem dX9_count_0 : decode cX9_count 0 = .ok (.iload_n 1, 1) := by decide +kernel
theorem dX9_count_1 : decode cX9_count 1 = .ok (.tableswitch 114 0 6 #[43, 54, 65, 76, 84, 95, 106], 43) := by decide +kernel
theorem dX9_count_44 : decode cX9_count 44 = .ok (.aload_n 0, 1) := by decide +kernel
theorem dX9_count_45 : decode cX9_count 45 = .ok (.getfield 10, 3) := by decide +kernel
theorem dX9_count_48 : decode cX9_count 48 = .ok (.getfield 95, 3) := by decide +kernel
theorem dX9_count_51 : decode cX9_count 51 = .ok (.invokevirtual 286, 3) := by decide +kernel
theorem dX9_count_54 : decode cX9_count 54 = .ok (.ireturn, 1) := by decide +kernel
theorem dX9_count_55 : decode cX9_count 55 = .ok (.aload_n 0, 1) := by decide +kernel
theorem dX9_count_56 : decode cX9_count 56 = .ok (.getfield 10, 3) := by decide +kernel
theorem dX9_count_59 : decode cX9_count 59 = .ok (.getfield 105, 3) := by decide +kernel
theorem dX9_count_62 : decode cX9_count 62 = .ok (.invokevirtual 286, 3) := by decide +kernel
theorem dX9_count_65 : decode cX9_count 65 = .ok (.ireturn, 1) := by decide +kernel
theorem dX9_count_66 : decode cX9_count 66 = .ok (.aload_n 0, 1) := by decide +kernel
theorem dX9_count_67 : decode cX9_count 67 = .ok (.getfield 10, 3) := by decide +kernel
theorem dX9_count_70 : decode cX9_count 70 = .ok (.getfield 128, 3) := by decide +kernel
theorem dX9_count_73 : decode cX9_count 73 = .ok (.invokevirtual 286, 3) := by decide +kernel
theorem dX9_count_76 : decode cX9_count 76 = .ok (.ireturn, 1) := by decide +kernel
theorem dX9_count_77 : decode cX9_count 77 = .ok (.aload_n 0, 1) := by decide +kernel
theorem dX9_count_78 : decode cX9_count 78 = .ok (.getfield 10, 3) := by decide +kernel
theorem dX9_count_81 : decode cX9_count 81 = .ok (.getfield 147, 3) := by decide +kernel
theorem dX9_count_84 : decode cX9_count 84 = .ok (.ireturn, 1) := by decide +kernel
theorem dX9_count_85 : decode cX9_count 85 = .ok (.aload_n 0, 1) := by decide +kernel
theorem dX9_count_86 : decode cX9_count 86 = .ok (.getfield 10, 3) := by decide +kernel
theorem dX9_count_89 : decode cX9_count 89 = .ok (.getfield 158, 3) := by decide +kernel
theorem dX9_count_92 : decode cX9_count 92 = .ok (.invokevirtual 286, 3) := by decide +kernel
theorem dX9_count_95 : decode cX9_count 95 = .ok (.ireturn, 1) := by decide +kernel
theorem dX9_count_96 : decode cX9_count 96 = .ok (.aload_n 0, 1) := by decide +kernel
theorem dX9_count_97 : decode cX9_count 97 = .ok (.getfield 10, 3) := by decide +kernel
theorem dX9_count_100 : decode cX9_count 100 = .ok (.getfield 194, 3) := by decide +kernel
theorem dX9_count_103 : decode cX9_count 103 = .ok (.invokevirtual 286, 3) := by decide +kernel
theorem dX9_count_106 : decode cX9_count 106 = .ok (.ireturn, 1) := by decide +kernel
theorem dX9_count_107 : decode cX9_count 107 = .ok (.aload_n 0, 1) := by decide +kernel
theorem dX9_count_108 : decode cX9_count 108 = .ok (.getfield 56, 3) := by decide +kernel
theorem dX9_count_111 : decode cX9_count 111 = .ok (.invokevirtual 254, 3) := by decide +kernel
theorem dX9_count_114 : decode cX9_count 114 = .ok (.ireturn, 1) := by decide +kernel
theorem dX9_count_115 : decode cX9_count 115 = .ok (.bipush (-2), 2) := by decide +kernel
theorem dX9_count_117 : decode cX9_count 117 = .ok (.ireturn, 1) := by decide +kernel
set_option maxRecDepth 20000 in
theorem ggX9_digest_X9_count : GoodIn wsX9_digest wsX9_count := goodIn_r _ [8, 3, 9, 10, 11, 12, 13, 14, 15, 16, 17, 18, 19, 20, 21, 22, 23, 24, 25, 26, 27, 60, 61, 62, 63, 64, 65, 66, 67, 68, 69, 70, 71, 72, 73, 74, 75, 76, 77, 78, 79, 80, 81, 82, 83, 84, 85, 86, 87, 88, 89, 90] (by decide +kernel) (by decide +kernel)
set_option maxRecDepth 20000 in
theorem gX9_digest_X9_count : GoodIn wsX9_digest (wsV RX9 291 RX9 yX9_count wsX9_count) := goodIn_app (goodIn_of _ (by decide +kernel)) ggX9_digest_X9_count
set_option maxRecDepth 20000 in
theorem ggX9_digest_X1_digestOn : GoodIn wsX9_digest wsX1_digestOn := goodIn_r _ [32, 33, 34, 35, 36, 37, 38, 39, 40, 41, 42, 43, 31, 44, 45, 46, 47, 48, 19, 49, 21, 50, 51, 52, 53, 54, 55, 56, 57, 58, 59, 71, 72, 73, 74, 75, 76, 77, 78, 79, 80, 81, 82, 83] (by decide +kernel) (by decide +kernel)
set_option maxRecDepth 20000 in
theorem gX9_digest_X1_digestOn : GoodIn wsX9_digest (wsV RX9 294 RX1 yX1_digestOn wsX1_digestOn) := goodIn_app (goodIn_of _ (by decide +kernel)) ggX9_digest_X1_digestOn
theorem dX9_digest_0 : decode cX9_digest 0 = .ok (.ldc2_w 287, 3) := by decide +kernel
theorem dX9_digest_3 : decode cX9_digest 3 = .ok (.lstore_n 1, 1) := by decide +kernel
theorem dX9_digest_4 : decode cX9_digest 4 = .ok (.iconst 0, 1) := by decide +kernel
theorem dX9_digest_5 : decode cX9_digest 5 = .ok (.istore_n 3, 1) := by decide +kernel
theorem dX9_digest_6 : decode cX9_digest 6 = .ok (.iload_n 3, 1) := by decide +kernel
theorem dX9_digest_7 : decode cX9_digest 7 = .ok (.bipush 6, 2) := by decide +kernel
theorem dX9_digest_9 : decode cX9_digest 9 = .ok (.if_icmp .gt 22, 3) := by decide +kernel
theorem dX9_digest_12 : decode cX9_digest 12 = .ok (.ldc2_w 289, 3) := by decide +kernel
theorem dX9_digest_15 : decode cX9_digest 15 = .ok (.lload_n 1, 1) := by decide +kernel
theorem dX9_digest_16 : decode cX9_digest 16 = .ok (.lmul, 1) := by decide +kernel
theorem dX9_digest_17 : decode cX9_digest 17 = .ok (.aload_n 0, 1) := by decide +kernel
theorem dX9_digest_18 : decode cX9_digest 18 = .ok (.iload_n 3, 1) := by decide +kernel
theorem dX9_digest_19 : decode cX9_digest 19 = .ok (.invokevirtual 291, 3) := by decide +kernel
theorem dX9_digest_22 : decode cX9_digest 22 = .ok (.i2l, 1) := by decide +kernel
theorem dX9_digest_23 : decode cX9_digest 23 = .ok (.ladd, 1) := by decide +kernel
theorem dX9_digest_24 : decode cX9_digest 24 = .ok (.lstore_n 1, 1) := by decide +kernel
theorem dX9_digest_25 : decode cX9_digest 25 = .ok (.iinc 3 1, 3) := by decide +kernel
theorem dX9_digest_28 : decode cX9_digest 28 = .ok (.goto (-22), 3) := by decide +kernel
theorem dX9_digest_31 : decode cX9_digest 31 = .ok (.aload_n 0, 1) := by decide +kernel
theorem dX9_digest_32 : decode cX9_digest 32 = .ok (.getfield 10, 3) := by decide +kernel
theorem dX9_digest_35 : decode cX9_digest 35 = .ok (.lload_n 1, 1) := by decide +kernel
theorem dX9_digest_36 : decode cX9_digest 36 = .ok (.invokevirtual 294, 3) := by decide +kernel
theorem dX9_digest_39 : decode cX9_digest 39 = .ok (.lreturn, 1) := by decide +kernel
set_option maxRecDepth 20000 in
theorem ggX9_noteItem_X6_word : GoodIn wsX9_noteItem wsX6_word := goodIn_r _ [6, 7, 98, 99, 100, 101, 102, 103, 104] (by decide +kernel) (by decide +kernel)
set_option maxRecDepth 20000 in
theorem gX9_noteItem_X6_word : GoodIn wsX9_noteItem (wsV RX9 298 RX6 yX6_word wsX6_word) := goodIn_app (goodIn_of _ (by decide +kernel)) ggX9_noteItem_X6_word
set_option maxRecDepth 20000 in
theorem ggX9_noteItem_X6_number : GoodIn wsX9_noteItem wsX6_number := goodIn_r _ [11, 12, 98, 99, 100, 101, 102, 103, 104] (by decide +kernel) (by decide +kernel)
set_option maxRecDepth 20000 in
theorem gX9_noteItem_X6_number : GoodIn wsX9_noteItem (wsV RX9 301 RX6 yX6_number wsX6_number) := goodIn_app (goodIn_of _ (by decide +kernel)) ggX9_noteItem_X6_number
set_option maxRecDepth 20000 in
theorem ggX9_noteItem_X9_sign : GoodIn wsX9_noteItem wsX9_sign := goodIn_r _ [17, 18, 19, 20, 21, 16, 22, 23, 24, 25, 26, 27, 28, 29, 30, 31, 32, 33, 34, 35, 36, 37, 38, 39, 40, 41, 42, 43, 44, 45, 46, 47, 87, 88, 89, 90, 91, 92, 93, 94, 95, 96, 97, 105, 106, 107, 108, 109, 110, 111, 112, 113, 114, 115, 116, 117] (by decide +kernel) (by decide +kernel)
set_option maxRecDepth 20000 in
theorem gX9_noteItem_X9_sign : GoodIn wsX9_noteItem (wsV RX9 304 RX9 yX9_sign wsX9_sign) := goodIn_app (goodIn_of _ (by decide +kernel)) ggX9_noteItem_X9_sign
set_option maxRecDepth 20000 in
theorem ggX9_noteItem_X9_fact : GoodIn wsX9_noteItem wsX9_fact := goodIn_r _ [51, 18, 52, 20, 21, 16, 22, 53, 54, 55, 56, 57, 58, 59, 60, 61, 43, 44, 45, 31, 46, 33, 47, 38, 87, 88, 89, 90, 91, 92, 93, 94, 95, 96, 97, 105, 106, 107, 108, 109, 110, 111, 112, 113, 114, 115, 116, 117] (by decide +kernel) (by decide +kernel)
set_option maxRecDepth 20000 in
theorem gX9_noteItem_X9_fact : GoodIn wsX9_noteItem (wsV RX9 308 RX9 yX9_fact wsX9_fact) := goodIn_app (goodIn_of _ (by decide +kernel)) ggX9_noteItem_X9_fact
set_option maxRecDepth 20000 in
theorem ggX9_noteItem_X9_cliff : GoodIn wsX9_noteItem wsX9_cliff := goodIn_r _ [65, 18, 66, 67, 68, 16, 69, 70, 71, 72, 20, 21, 22, 43, 44, 45, 31, 46, 33, 47, 38, 87, 88, 89, 90, 91, 92, 93, 94, 95, 96, 97, 105, 106, 107, 108, 109, 110, 111, 112, 113, 114, 115, 116, 117] (by decide +kernel) (by decide +kernel)
set_option maxRecDepth 20000 in
theorem gX9_noteItem_X9_cliff : GoodIn wsX9_noteItem (wsV RX9 311 RX9 yX9_cliff wsX9_cliff) := goodIn_app (goodIn_of _ (by decide +kernel)) ggX9_noteItem_X9_cliff
set_option maxRecDepth 20000 in
theorem ggX9_noteItem_X9_boulder : GoodIn wsX9_noteItem wsX9_boulder := goodIn_r _ [76, 18, 77, 67, 68, 16, 69, 70, 71, 72, 20, 21, 22, 43, 44, 45, 31, 46, 33, 47, 38, 87, 88, 89, 90, 91, 92, 93, 94, 95, 96, 97, 105, 106, 107, 108, 109, 110, 111, 112, 113, 114, 115, 116, 117] (by decide +kernel) (by decide +kernel)
set_option maxRecDepth 20000 in
theorem gX9_noteItem_X9_boulder : GoodIn wsX9_noteItem (wsV RX9 314 RX9 yX9_boulder wsX9_boulder) := goodIn_app (goodIn_of _ (by decide +kernel)) ggX9_noteItem_X9_boulder
set_option maxRecDepth 20000 in
theorem ggX9_noteItem_X9_scratch : GoodIn wsX9_noteItem wsX9_scratch := goodIn_r _ [81, 18, 82, 70, 71, 16, 72, 20, 21, 22, 43, 44, 45, 31, 46, 33, 47, 38, 87, 88, 89, 90, 91, 92, 93, 94, 95, 96, 97, 105, 106, 107, 108, 109, 110, 111, 112, 113, 114, 115, 116, 117] (by decide +kernel) (by decide +kernel)
set_option maxRecDepth 20000 in
theorem gX9_noteItem_X9_scratch : GoodIn wsX9_noteItem (wsV RX9 317 RX9 yX9_scratch wsX9_scratch) := goodIn_app (goodIn_of _ (by decide +kernel)) ggX9_noteItem_X9_scratch
set_option maxRecDepth 20000 in
theorem ggX9_noteItem_X9_ridge : GoodIn wsX9_noteItem wsX9_ridge := goodIn_r _ [86, 18, 57, 87, 88, 89, 90, 91, 92, 93, 94, 95, 96, 97, 105, 106, 107, 108, 109, 110, 111, 112, 113, 114] (by decide +kernel) (by decide +kernel)
set_option maxRecDepth 20000 in
theorem gX9_noteItem_X9_ridge : GoodIn wsX9_noteItem (wsV RX9 320 RX9 yX9_ridge wsX9_ridge) := goodIn_app (goodIn_of _ (by decide +kernel)) ggX9_noteItem_X9_ridge
theorem dX9_noteItem_0 : decode cX9_noteItem 0 = .ok (.aload_n 0, 1) := by decide +kernel
theorem dX9_noteItem_1 : decode cX9_noteItem 1 = .ok (.getfield 56, 3) := by decide +kernel
theorem dX9_noteItem_4 : decode cX9_noteItem 4 = .ok (.invokevirtual 298, 3) := by decide +kernel
theorem dX9_noteItem_7 : decode cX9_noteItem 7 = .ok (.istore_n 1, 1) := by decide +kernel
theorem dX9_noteItem_8 : decode cX9_noteItem 8 = .ok (.aload_n 0, 1) := by decide +kernel
theorem dX9_noteItem_9 : decode cX9_noteItem 9 = .ok (.getfield 56, 3) := by decide +kernel
theorem dX9_noteItem_12 : decode cX9_noteItem 12 = .ok (.iconst 0, 1) := by decide +kernel
theorem dX9_noteItem_13 : decode cX9_noteItem 13 = .ok (.invokevirtual 301, 3) := by decide +kernel
theorem dX9_noteItem_16 : decode cX9_noteItem 16 = .ok (.istore_n 2, 1) := by decide +kernel
theorem dX9_noteItem_17 : decode cX9_noteItem 17 = .ok (.aload_n 0, 1) := by decide +kernel
theorem dX9_noteItem_18 : decode cX9_noteItem 18 = .ok (.getfield 56, 3) := by decide +kernel
theorem dX9_noteItem_21 : decode cX9_noteItem 21 = .ok (.iconst 1, 1) := by decide +kernel
theorem dX9_noteItem_22 : decode cX9_noteItem 22 = .ok (.invokevirtual 301, 3) := by decide +kernel
theorem dX9_noteItem_25 : decode cX9_noteItem 25 = .ok (.istore_n 3, 1) := by decide +kernel
theorem dX9_noteItem_26 : decode cX9_noteItem 26 = .ok (.aload_n 0, 1) := by decide +kernel
theorem dX9_noteItem_27 : decode cX9_noteItem 27 = .ok (.getfield 56, 3) := by decide +kernel
theorem dX9_noteItem_30 : decode cX9_noteItem 30 = .ok (.iconst 2, 1) := by decide +kernel
theorem dX9_noteItem_31 : decode cX9_noteItem 31 = .ok (.invokevirtual 301, 3) := by decide +kernel
theorem dX9_noteItem_34 : decode cX9_noteItem 34 = .ok (.istore 4, 2) := by decide +kernel
theorem dX9_noteItem_36 : decode cX9_noteItem 36 = .ok (.iload_n 1, 1) := by decide +kernel
theorem dX9_noteItem_37 : decode cX9_noteItem 37 = .ok (.bipush 9, 2) := by decide +kernel
theorem dX9_noteItem_39 : decode cX9_noteItem 39 = .ok (.if_icmp .lt 16, 3) := by decide +kernel
theorem dX9_noteItem_42 : decode cX9_noteItem 42 = .ok (.aload_n 0, 1) := by decide +kernel
theorem dX9_noteItem_43 : decode cX9_noteItem 43 = .ok (.iload_n 1, 1) := by decide +kernel
theorem dX9_noteItem_44 : decode cX9_noteItem 44 = .ok (.bipush 9, 2) := by decide +kernel
theorem dX9_noteItem_46 : decode cX9_noteItem 46 = .ok (.isub, 1) := by decide +kernel
theorem dX9_noteItem_47 : decode cX9_noteItem 47 = .ok (.iload_n 2, 1) := by decide +kernel
theorem dX9_noteItem_48 : decode cX9_noteItem 48 = .ok (.iload_n 3, 1) := by decide +kernel
theorem dX9_noteItem_49 : decode cX9_noteItem 49 = .ok (.iload 4, 2) := by decide +kernel
theorem dX9_noteItem_51 : decode cX9_noteItem 51 = .ok (.invokevirtual 304, 3) := by decide +kernel
theorem dX9_noteItem_54 : decode cX9_noteItem 54 = .ok (.ireturn, 1) := by decide +kernel
theorem dX9_noteItem_55 : decode cX9_noteItem 55 = .ok (.iload_n 1, 1) := by decide +kernel
theorem dX9_noteItem_56 : decode cX9_noteItem 56 = .ok (.iconst 4, 1) := by decide +kernel
theorem dX9_noteItem_57 : decode cX9_noteItem 57 = .ok (.if_icmp .lt 23, 3) := by decide +kernel
theorem dX9_noteItem_60 : decode cX9_noteItem 60 = .ok (.aload_n 0, 1) := by decide +kernel
theorem dX9_noteItem_61 : decode cX9_noteItem 61 = .ok (.iload_n 2, 1) := by decide +kernel
theorem dX9_noteItem_62 : decode cX9_noteItem 62 = .ok (.iload_n 1, 1) := by decide +kernel
theorem dX9_noteItem_63 : decode cX9_noteItem 63 = .ok (.iconst 4, 1) := by decide +kernel
theorem dX9_noteItem_64 : decode cX9_noteItem 64 = .ok (.isub, 1) := by decide +kernel
theorem dX9_noteItem_65 : decode cX9_noteItem 65 = .ok (.iload_n 3, 1) := by decide +kernel
theorem dX9_noteItem_66 : decode cX9_noteItem 66 = .ok (.iload 4, 2) := by decide +kernel
theorem dX9_noteItem_68 : decode cX9_noteItem 68 = .ok (.aload_n 0, 1) := by decide +kernel
theorem dX9_noteItem_69 : decode cX9_noteItem 69 = .ok (.getfield 56, 3) := by decide +kernel
theorem dX9_noteItem_72 : decode cX9_noteItem 72 = .ok (.iconst 3, 1) := by decide +kernel
theorem dX9_noteItem_73 : decode cX9_noteItem 73 = .ok (.invokevirtual 301, 3) := by decide +kernel
theorem dX9_noteItem_76 : decode cX9_noteItem 76 = .ok (.invokevirtual 308, 3) := by decide +kernel
theorem dX9_noteItem_79 : decode cX9_noteItem 79 = .ok (.ireturn, 1) := by decide +kernel
theorem dX9_noteItem_80 : decode cX9_noteItem 80 = .ok (.iload_n 1, 1) := by decide +kernel
theorem dX9_noteItem_81 : decode cX9_noteItem 81 = .ok (.tableswitch 57 0 3 #[31, 38, 45, 52], 31) := by decide +kernel
theorem dX9_noteItem_112 : decode cX9_noteItem 112 = .ok (.aload_n 0, 1) := by decide +kernel
theorem dX9_noteItem_113 : decode cX9_noteItem 113 = .ok (.iload_n 2, 1) := by decide +kernel
theorem dX9_noteItem_114 : decode cX9_noteItem 114 = .ok (.iload_n 3, 1) := by decide +kernel
theorem dX9_noteItem_115 : decode cX9_noteItem 115 = .ok (.invokevirtual 311, 3) := by decide +kernel
theorem dX9_noteItem_118 : decode cX9_noteItem 118 = .ok (.ireturn, 1) := by decide +kernel
theorem dX9_noteItem_119 : decode cX9_noteItem 119 = .ok (.aload_n 0, 1) := by decide +kernel
theorem dX9_noteItem_120 : decode cX9_noteItem 120 = .ok (.iload_n 2, 1) := by decide +kernel
theorem dX9_noteItem_121 : decode cX9_noteItem 121 = .ok (.iload_n 3, 1) := by decide +kernel
theorem dX9_noteItem_122 : decode cX9_noteItem 122 = .ok (.invokevirtual 314, 3) := by decide +kernel
theorem dX9_noteItem_125 : decode cX9_noteItem 125 = .ok (.ireturn, 1) := by decide +kernel
theorem dX9_noteItem_126 : decode cX9_noteItem 126 = .ok (.aload_n 0, 1) := by decide +kernel
theorem dX9_noteItem_127 : decode cX9_noteItem 127 = .ok (.iload_n 2, 1) := by decide +kernel
theorem dX9_noteItem_128 : decode cX9_noteItem 128 = .ok (.iload_n 3, 1) := by decide +kernel
theorem dX9_noteItem_129 : decode cX9_noteItem 129 = .ok (.invokevirtual 317, 3) := by decide +kernel
theorem dX9_noteItem_132 : decode cX9_noteItem 132 = .ok (.ireturn, 1) := by decide +kernel
theorem dX9_noteItem_133 : decode cX9_noteItem 133 = .ok (.aload_n 0, 1) := by decide +kernel
theorem dX9_noteItem_134 : decode cX9_noteItem 134 = .ok (.invokevirtual 320, 3) := by decide +kernel
theorem dX9_noteItem_137 : decode cX9_noteItem 137 = .ok (.ireturn, 1) := by decide +kernel
theorem dX9_noteItem_138 : decode cX9_noteItem 138 = .ok (.bipush (-2), 2) := by decide +kernel
theorem dX9_noteItem_140 : decode cX9_noteItem 140 = .ok (.ireturn, 1) := by decide +kernel
theorem dX9_imageOf_0 : decode cX9_imageOf 0 = .ok (.iload_n 1, 1) := by decide +kernel
theorem dX9_imageOf_1 : decode cX9_imageOf 1 = .ok (.ifCond .ne 10, 3) := by decide +kernel
theorem dX9_imageOf_4 : decode cX9_imageOf 4 = .ok (.aload_n 0, 1) := by decide +kernel
theorem dX9_imageOf_5 : decode cX9_imageOf 5 = .ok (.getfield 19, 3) := by decide +kernel
theorem dX9_imageOf_8 : decode cX9_imageOf 8 = .ok (.goto 7, 3) := by decide +kernel
theorem dX9_imageOf_11 : decode cX9_imageOf 11 = .ok (.aload_n 0, 1) := by decide +kernel
theorem dX9_imageOf_12 : decode cX9_imageOf 12 = .ok (.getfield 22, 3) := by decide +kernel
theorem dX9_imageOf_15 : decode cX9_imageOf 15 = .ok (.areturn, 1) := by decide +kernel
set_option maxRecDepth 20000 in
theorem ggX9_isRidge_X9_within : GoodIn wsX9_isRidge wsX9_within := goodIn_r _ [6] (by decide +kernel) (by decide +kernel)
set_option maxRecDepth 20000 in
theorem gX9_isRidge_X9_within : GoodIn wsX9_isRidge (va_wsS RX9 67 yX9_within wsX9_within) := goodIn_app (goodIn_of _ (by decide +kernel)) ggX9_isRidge_X9_within
theorem dX9_isRidge_0 : decode cX9_isRidge 0 = .ok (.iload_n 1, 1) := by decide +kernel
theorem dX9_isRidge_1 : decode cX9_isRidge 1 = .ok (.iconst 0, 1) := by decide +kernel
theorem dX9_isRidge_2 : decode cX9_isRidge 2 = .ok (.aload_n 0, 1) := by decide +kernel
theorem dX9_isRidge_3 : decode cX9_isRidge 3 = .ok (.getfield 10, 3) := by decide +kernel
theorem dX9_isRidge_6 : decode cX9_isRidge 6 = .ok (.getfield 147, 3) := by decide +kernel
theorem dX9_isRidge_9 : decode cX9_isRidge 9 = .ok (.iconst 1, 1) := by decide +kernel
theorem dX9_isRidge_10 : decode cX9_isRidge 10 = .ok (.isub, 1) := by decide +kernel
theorem dX9_isRidge_11 : decode cX9_isRidge 11 = .ok (.invokestatic 67, 3) := by decide +kernel
theorem dX9_isRidge_14 : decode cX9_isRidge 14 = .ok (.ireturn, 1) := by decide +kernel
set_option maxRecDepth 20000 in
theorem ggX9_mayTell_X9_isRidge : GoodIn wsX9_mayTell wsX9_isRidge := goodIn_r _ [5, 6, 7, 8, 9, 4, 10, 11, 12, 13, 14, 15, 16, 17, 18, 19, 20, 21, 22, 23, 24, 25, 26, 27, 28, 29, 30, 31] (by decide +kernel) (by decide +kernel)
set_option maxRecDepth 20000 in
theorem gX9_mayTell_X9_isRidge : GoodIn wsX9_mayTell (wsV RX9 151 RX9 yX9_isRidge wsX9_isRidge) := goodIn_app (goodIn_of _ (by decide +kernel)) ggX9_mayTell_X9_isRidge
set_option maxRecDepth 20000 in
theorem ggX9_mayTell_X9_within : GoodIn wsX9_mayTell wsX9_within := goodIn_r _ [10] (by decide +kernel) (by decide +kernel)
set_option maxRecDepth 20000 in
theorem gX9_mayTell_X9_within : GoodIn wsX9_mayTell (va_wsS RX9 67 yX9_within wsX9_within) := goodIn_app (goodIn_of _ (by decide +kernel)) ggX9_mayTell_X9_within
theorem dX9_mayTell_0 : decode cX9_mayTell 0 = .ok (.iload_n 1, 1) := by decide +kernel
theorem dX9_mayTell_1 : decode cX9_mayTell 1 = .ok (.tableswitch 110 0 4 #[35, 54, 83, 92, 101], 35) := by decide +kernel
theorem dX9_mayTell_36 : decode cX9_mayTell 36 = .ok (.aload_n 0, 1) := by decide +kernel
theorem dX9_mayTell_37 : decode cX9_mayTell 37 = .ok (.iload_n 3, 1) := by decide +kernel
theorem dX9_mayTell_38 : decode cX9_mayTell 38 = .ok (.invokevirtual 151, 3) := by decide +kernel
theorem dX9_mayTell_41 : decode cX9_mayTell 41 = .ok (.ifCond .eq 12, 3) := by decide +kernel
theorem dX9_mayTell_44 : decode cX9_mayTell 44 = .ok (.iload_n 2, 1) := by decide +kernel
theorem dX9_mayTell_45 : decode cX9_mayTell 45 = .ok (.iload_n 3, 1) := by decide +kernel
theorem dX9_mayTell_46 : decode cX9_mayTell 46 = .ok (.if_icmp .eq 7, 3) := by decide +kernel
theorem dX9_mayTell_49 : decode cX9_mayTell 49 = .ok (.iconst 1, 1) := by decide +kernel
theorem dX9_mayTell_50 : decode cX9_mayTell 50 = .ok (.goto 4, 3) := by decide +kernel
theorem dX9_mayTell_53 : decode cX9_mayTell 53 = .ok (.iconst 0, 1) := by decide +kernel
theorem dX9_mayTell_54 : decode cX9_mayTell 54 = .ok (.ireturn, 1) := by decide +kernel
theorem dX9_mayTell_55 : decode cX9_mayTell 55 = .ok (.iload_n 3, 1) := by decide +kernel
theorem dX9_mayTell_56 : decode cX9_mayTell 56 = .ok (.iconst 0, 1) := by decide +kernel
theorem dX9_mayTell_57 : decode cX9_mayTell 57 = .ok (.sipush 999, 3) := by decide +kernel
theorem dX9_mayTell_60 : decode cX9_mayTell 60 = .ok (.invokestatic 67, 3) := by decide +kernel
theorem dX9_mayTell_63 : decode cX9_mayTell 63 = .ok (.ifCond .eq 19, 3) := by decide +kernel
theorem dX9_mayTell_66 : decode cX9_mayTell 66 = .ok (.iload 4, 2) := by decide +kernel
theorem dX9_mayTell_68 : decode cX9_mayTell 68 = .ok (.iload_n 3, 1) := by decide +kernel
theorem dX9_mayTell_69 : decode cX9_mayTell 69 = .ok (.sipush 999, 3) := by decide +kernel
theorem dX9_mayTell_72 : decode cX9_mayTell 72 = .ok (.invokestatic 67, 3) := by decide +kernel
theorem dX9_mayTell_75 : decode cX9_mayTell 75 = .ok (.ifCond .eq 7, 3) := by decide +kernel
theorem dX9_mayTell_78 : decode cX9_mayTell 78 = .ok (.iconst 1, 1) := by decide +kernel
theorem dX9_mayTell_79 : decode cX9_mayTell 79 = .ok (.goto 4, 3) := by decide +kernel
theorem dX9_mayTell_82 : decode cX9_mayTell 82 = .ok (.iconst 0, 1) := by decide +kernel
theorem dX9_mayTell_83 : decode cX9_mayTell 83 = .ok (.ireturn, 1) := by decide +kernel
theorem dX9_mayTell_84 : decode cX9_mayTell 84 = .ok (.iload_n 3, 1) := by decide +kernel
theorem dX9_mayTell_85 : decode cX9_mayTell 85 = .ok (.iconst 1, 1) := by decide +kernel
theorem dX9_mayTell_86 : decode cX9_mayTell 86 = .ok (.sipush 300, 3) := by decide +kernel
theorem dX9_mayTell_89 : decode cX9_mayTell 89 = .ok (.invokestatic 67, 3) := by decide +kernel
theorem dX9_mayTell_92 : decode cX9_mayTell 92 = .ok (.ireturn, 1) := by decide +kernel
theorem dX9_mayTell_93 : decode cX9_mayTell 93 = .ok (.iload_n 3, 1) := by decide +kernel
theorem dX9_mayTell_94 : decode cX9_mayTell 94 = .ok (.iconst 0, 1) := by decide +kernel
theorem dX9_mayTell_95 : decode cX9_mayTell 95 = .ok (.sipush 999, 3) := by decide +kernel
theorem dX9_mayTell_98 : decode cX9_mayTell 98 = .ok (.invokestatic 67, 3) := by decide +kernel
theorem dX9_mayTell_101 : decode cX9_mayTell 101 = .ok (.ireturn, 1) := by decide +kernel
theorem dX9_mayTell_102 : decode cX9_mayTell 102 = .ok (.iload_n 3, 1) := by decide +kernel
theorem dX9_mayTell_103 : decode cX9_mayTell 103 = .ok (.iconst 0, 1) := by decide +kernel
theorem dX9_mayTell_104 : decode cX9_mayTell 104 = .ok (.sipush 999, 3) := by decide +kernel
theorem dX9_mayTell_107 : decode cX9_mayTell 107 = .ok (.invokestatic 67, 3) := by decide +kernel
theorem dX9_mayTell_110 : decode cX9_mayTell 110 = .ok (.ireturn, 1) := by decide +kernel
theorem dX9_mayTell_111 : decode cX9_mayTell 111 = .ok (.iconst 0, 1) := by decide +kernel
theorem dX9_mayTell_112 : decode cX9_mayTell 112 = .ok (.ireturn, 1) := by decide +kernel
set_option maxRecDepth 20000 in
theorem ggX9_isStage_X9_within : GoodIn wsX9_isStage wsX9_within := goodIn_r _ [4] (by decide +kernel) (by decide +kernel)
set_option maxRecDepth 20000 in
theorem gX9_isStage_X9_within : GoodIn wsX9_isStage (va_wsS RX9 67 yX9_within wsX9_within) := goodIn_app (goodIn_of _ (by decide +kernel)) ggX9_isStage_X9_within
theorem dX9_isStage_0 : decode cX9_isStage 0 = .ok (.iload_n 0, 1) := by decide +kernel
theorem dX9_isStage_1 : decode cX9_isStage 1 = .ok (.iconst 0, 1) := by decide +kernel
theorem dX9_isStage_2 : decode cX9_isStage 2 = .ok (.iconst 2, 1) := by decide +kernel
theorem dX9_isStage_3 : decode cX9_isStage 3 = .ok (.invokestatic 67, 3) := by decide +kernel
theorem dX9_isStage_6 : decode cX9_isStage 6 = .ok (.ireturn, 1) := by decide +kernel
set_option maxRecDepth 20000 in
theorem ggX9_isPlace_X9_within : GoodIn wsX9_isPlace wsX9_within := goodIn_r _ [4] (by decide +kernel) (by decide +kernel)
set_option maxRecDepth 20000 in
theorem gX9_isPlace_X9_within : GoodIn wsX9_isPlace (va_wsS RX9 67 yX9_within wsX9_within) := goodIn_app (goodIn_of _ (by decide +kernel)) ggX9_isPlace_X9_within
theorem dX9_isPlace_0 : decode cX9_isPlace 0 = .ok (.iload_n 0, 1) := by decide +kernel
theorem dX9_isPlace_1 : decode cX9_isPlace 1 = .ok (.iconst 0, 1) := by decide +kernel
theorem dX9_isPlace_2 : decode cX9_isPlace 2 = .ok (.bipush 63, 2) := by decide +kernel
theorem dX9_isPlace_4 : decode cX9_isPlace 4 = .ok (.invokestatic 67, 3) := by decide +kernel
theorem dX9_isPlace_7 : decode cX9_isPlace 7 = .ok (.ireturn, 1) := by decide +kernel
set_option maxRecDepth 20000 in
theorem ggX9_isPlaceAndSort_X9_isPlace : GoodIn wsX9_isPlaceAndSort wsX9_isPlace := goodIn_r _ [4, 5, 6, 3, 7] (by decide +kernel) (by decide +kernel)
set_option maxRecDepth 20000 in
theorem gX9_isPlaceAndSort_X9_isPlace : GoodIn wsX9_isPlaceAndSort (va_wsS RX9 64 yX9_isPlace wsX9_isPlace) := goodIn_app (goodIn_of _ (by decide +kernel)) ggX9_isPlaceAndSort_X9_isPlace
set_option maxRecDepth 20000 in
theorem ggX9_isPlaceAndSort_X9_within : GoodIn wsX9_isPlaceAndSort wsX9_within := goodIn_r _ [7] (by decide +kernel) (by decide +kernel)
set_option maxRecDepth 20000 in
theorem gX9_isPlaceAndSort_X9_within : GoodIn wsX9_isPlaceAndSort (va_wsS RX9 67 yX9_within wsX9_within) := goodIn_app (goodIn_of _ (by decide +kernel)) ggX9_isPlaceAndSort_X9_within
theorem dX9_isPlaceAndSort_0 : decode cX9_isPlaceAndSort 0 = .ok (.iload_n 0, 1) := by decide +kernel
theorem dX9_isPlaceAndSort_1 : decode cX9_isPlaceAndSort 1 = .ok (.invokestatic 64, 3) := by decide +kernel
theorem dX9_isPlaceAndSort_4 : decode cX9_isPlaceAndSort 4 = .ok (.ifCond .eq 16, 3) := by decide +kernel
theorem dX9_isPlaceAndSort_7 : decode cX9_isPlaceAndSort 7 = .ok (.iload_n 1, 1) := by decide +kernel
theorem dX9_isPlaceAndSort_8 : decode cX9_isPlaceAndSort 8 = .ok (.iconst 0, 1) := by decide +kernel
theorem dX9_isPlaceAndSort_9 : decode cX9_isPlaceAndSort 9 = .ok (.iconst 5, 1) := by decide +kernel
theorem dX9_isPlaceAndSort_10 : decode cX9_isPlaceAndSort 10 = .ok (.invokestatic 67, 3) := by decide +kernel
theorem dX9_isPlaceAndSort_13 : decode cX9_isPlaceAndSort 13 = .ok (.ifCond .eq 7, 3) := by decide +kernel
theorem dX9_isPlaceAndSort_16 : decode cX9_isPlaceAndSort 16 = .ok (.iconst 1, 1) := by decide +kernel
theorem dX9_isPlaceAndSort_17 : decode cX9_isPlaceAndSort 17 = .ok (.goto 4, 3) := by decide +kernel
theorem dX9_isPlaceAndSort_20 : decode cX9_isPlaceAndSort 20 = .ok (.iconst 0, 1) := by decide +kernel
theorem dX9_isPlaceAndSort_21 : decode cX9_isPlaceAndSort 21 = .ok (.ireturn, 1) := by decide +kernel
set_option maxRecDepth 20000 in
theorem ggX9_isLevel_X9_within : GoodIn wsX9_isLevel wsX9_within := goodIn_r _ [4] (by decide +kernel) (by decide +kernel)
set_option maxRecDepth 20000 in
theorem gX9_isLevel_X9_within : GoodIn wsX9_isLevel (va_wsS RX9 67 yX9_within wsX9_within) := goodIn_app (goodIn_of _ (by decide +kernel)) ggX9_isLevel_X9_within
theorem dX9_isLevel_0 : decode cX9_isLevel 0 = .ok (.iload_n 0, 1) := by decide +kernel
theorem dX9_isLevel_1 : decode cX9_isLevel 1 = .ok (.iconst 0, 1) := by decide +kernel
theorem dX9_isLevel_2 : decode cX9_isLevel 2 = .ok (.bipush 19, 2) := by decide +kernel
theorem dX9_isLevel_4 : decode cX9_isLevel 4 = .ok (.invokestatic 67, 3) := by decide +kernel
theorem dX9_isLevel_7 : decode cX9_isLevel 7 = .ok (.ireturn, 1) := by decide +kernel
set_option maxRecDepth 20000 in
theorem ggX9_isHeightAndSill_X9_within : GoodIn wsX9_isHeightAndSill wsX9_within := goodIn_r _ [4] (by decide +kernel) (by decide +kernel)
set_option maxRecDepth 20000 in
theorem gX9_isHeightAndSill_X9_within : GoodIn wsX9_isHeightAndSill (va_wsS RX9 67 yX9_within wsX9_within) := goodIn_app (goodIn_of _ (by decide +kernel)) ggX9_isHeightAndSill_X9_within
theorem dX9_isHeightAndSill_0 : decode cX9_isHeightAndSill 0 = .ok (.iload_n 0, 1) := by decide +kernel
theorem dX9_isHeightAndSill_1 : decode cX9_isHeightAndSill 1 = .ok (.iconst 0, 1) := by decide +kernel
theorem dX9_isHeightAndSill_2 : decode cX9_isHeightAndSill 2 = .ok (.bipush 20, 2) := by decide +kernel
theorem dX9_isHeightAndSill_4 : decode cX9_isHeightAndSill 4 = .ok (.invokestatic 67, 3) := by decide +kernel
theorem dX9_isHeightAndSill_7 : decode cX9_isHeightAndSill 7 = .ok (.ifCond .eq 18, 3) := by decide +kernel
theorem dX9_isHeightAndSill_10 : decode cX9_isHeightAndSill 10 = .ok (.iload_n 1, 1) := by decide +kernel
theorem dX9_isHeightAndSill_11 : decode cX9_isHeightAndSill 11 = .ok (.iconst 0, 1) := by decide +kernel
theorem dX9_isHeightAndSill_12 : decode cX9_isHeightAndSill 12 = .ok (.iload_n 0, 1) := by decide +kernel
theorem dX9_isHeightAndSill_13 : decode cX9_isHeightAndSill 13 = .ok (.iconst 1, 1) := by decide +kernel
theorem dX9_isHeightAndSill_14 : decode cX9_isHeightAndSill 14 = .ok (.isub, 1) := by decide +kernel
theorem dX9_isHeightAndSill_15 : decode cX9_isHeightAndSill 15 = .ok (.invokestatic 67, 3) := by decide +kernel
theorem dX9_isHeightAndSill_18 : decode cX9_isHeightAndSill 18 = .ok (.ifCond .eq 7, 3) := by decide +kernel
theorem dX9_isHeightAndSill_21 : decode cX9_isHeightAndSill 21 = .ok (.iconst 1, 1) := by decide +kernel
theorem dX9_isHeightAndSill_22 : decode cX9_isHeightAndSill 22 = .ok (.goto 4, 3) := by decide +kernel
theorem dX9_isHeightAndSill_25 : decode cX9_isHeightAndSill 25 = .ok (.iconst 0, 1) := by decide +kernel
theorem dX9_isHeightAndSill_26 : decode cX9_isHeightAndSill 26 = .ok (.ireturn, 1) := by decide +kernel
set_option maxRecDepth 20000 in
theorem ggX9_isZone_X9_within : GoodIn wsX9_isZone wsX9_within := goodIn_r _ [4] (by decide +kernel) (by decide +kernel)
set_option maxRecDepth 20000 in
theorem gX9_isZone_X9_within : GoodIn wsX9_isZone (va_wsS RX9 67 yX9_within wsX9_within) := goodIn_app (goodIn_of _ (by decide +kernel)) ggX9_isZone_X9_within
theorem dX9_isZone_0 : decode cX9_isZone 0 = .ok (.iload_n 0, 1) := by decide +kernel
theorem dX9_isZone_1 : decode cX9_isZone 1 = .ok (.iconst 0, 1) := by decide +kernel
theorem dX9_isZone_2 : decode cX9_isZone 2 = .ok (.bipush 20, 2) := by decide +kernel
theorem dX9_isZone_4 : decode cX9_isZone 4 = .ok (.invokestatic 67, 3) := by decide +kernel
theorem dX9_isZone_7 : decode cX9_isZone 7 = .ok (.ireturn, 1) := by decide +kernel
set_option maxRecDepth 20000 in
theorem ggX9_isWarmth_X9_within : GoodIn wsX9_isWarmth wsX9_within := goodIn_r _ [4] (by decide +kernel) (by decide +kernel)
set_option maxRecDepth 20000 in
theorem gX9_isWarmth_X9_within : GoodIn wsX9_isWarmth (va_wsS RX9 67 yX9_within wsX9_within) := goodIn_app (goodIn_of _ (by decide +kernel)) ggX9_isWarmth_X9_within
theorem dX9_isWarmth_0 : decode cX9_isWarmth 0 = .ok (.iload_n 0, 1) := by decide +kernel
theorem dX9_isWarmth_1 : decode cX9_isWarmth 1 = .ok (.iconst 0, 1) := by decide +kernel
theorem dX9_isWarmth_2 : decode cX9_isWarmth 2 = .ok (.bipush 60, 2) := by decide +kernel
theorem dX9_isWarmth_4 : decode cX9_isWarmth 4 = .ok (.invokestatic 67, 3) := by decide +kernel
theorem dX9_isWarmth_7 : decode cX9_isWarmth 7 = .ok (.ireturn, 1) := by decide +kernel
theorem dX9_within_0 : decode cX9_within 0 = .ok (.iload_n 0, 1) := by decide +kernel
theorem dX9_within_1 : decode cX9_within 1 = .ok (.iload_n 1, 1) := by decide +kernel
theorem dX9_within_2 : decode cX9_within 2 = .ok (.if_icmp .lt 12, 3) := by decide +kernel
theorem dX9_within_5 : decode cX9_within 5 = .ok (.iload_n 0, 1) := by decide +kernel
theorem dX9_within_6 : decode cX9_within 6 = .ok (.iload_n 2, 1) := by decide +kernel
theorem dX9_within_7 : decode cX9_within 7 = .ok (.if_icmp .gt 7, 3) := by decide +kernel
theorem dX9_within_10 : decode cX9_within 10 = .ok (.iconst 1, 1) := by decide +kernel
theorem dX9_within_11 : decode cX9_within 11 = .ok (.goto 4, 3) := by decide +kernel
theorem dX9_within_14 : decode cX9_within 14 = .ok (.iconst 0, 1) := by decide +kernel
theorem dX9_within_15 : decode cX9_within 15 = .ok (.ireturn, 1) := by decide +kernel
theorem dX9_exchange_0 : decode cX9_exchange 0 = .ok (.iload_n 1, 1) := by decide +kernel
theorem dX9_exchange_1 : decode cX9_exchange 1 = .ok (.ifCond .lt 9, 3) := by decide +kernel
theorem dX9_exchange_4 : decode cX9_exchange 4 = .ok (.iload_n 1, 1) := by decide +kernel
theorem dX9_exchange_5 : decode cX9_exchange 5 = .ok (.aload_n 0, 1) := by decide +kernel
theorem dX9_exchange_6 : decode cX9_exchange 6 = .ok (.arraylength, 1) := by decide +kernel
theorem dX9_exchange_7 : decode cX9_exchange 7 = .ok (.if_icmp .lt 6, 3) := by decide +kernel
theorem dX9_exchange_10 : decode cX9_exchange 10 = .ok (.bipush (-2), 2) := by decide +kernel
theorem dX9_exchange_12 : decode cX9_exchange 12 = .ok (.ireturn, 1) := by decide +kernel
theorem dX9_exchange_13 : decode cX9_exchange 13 = .ok (.aload_n 0, 1) := by decide +kernel
theorem dX9_exchange_14 : decode cX9_exchange 14 = .ok (.iload_n 1, 1) := by decide +kernel
theorem dX9_exchange_15 : decode cX9_exchange 15 = .ok (.iaload, 1) := by decide +kernel
theorem dX9_exchange_16 : decode cX9_exchange 16 = .ok (.istore_n 3, 1) := by decide +kernel
theorem dX9_exchange_17 : decode cX9_exchange 17 = .ok (.aload_n 0, 1) := by decide +kernel
theorem dX9_exchange_18 : decode cX9_exchange 18 = .ok (.iload_n 1, 1) := by decide +kernel
theorem dX9_exchange_19 : decode cX9_exchange 19 = .ok (.iload_n 2, 1) := by decide +kernel
theorem dX9_exchange_20 : decode cX9_exchange 20 = .ok (.iastore, 1) := by decide +kernel
theorem dX9_exchange_21 : decode cX9_exchange 21 = .ok (.iload_n 3, 1) := by decide +kernel
theorem dX9_exchange_22 : decode cX9_exchange 22 = .ok (.ireturn, 1) := by decide +kernel
theorem dJ6_numberOfTrailingZeros_0f7a4_0 : decode cJ6_numberOfTrailingZeros_0f7a4 0 = .ok (.iload_n 0, 1) := by decide +kernel
theorem dJ6_numberOfTrailingZeros_0f7a4_1 : decode cJ6_numberOfTrailingZeros_0f7a4 1 = .ok (.iconst (-1), 1) := by decide +kernel
theorem dJ6_numberOfTrailingZeros_0f7a4_2 : decode cJ6_numberOfTrailingZeros_0f7a4 2 = .ok (.ixor, 1) := by decide +kernel
theorem dJ6_numberOfTrailingZeros_0f7a4_3 : decode cJ6_numberOfTrailingZeros_0f7a4 3 = .ok (.iload_n 0, 1) := by decide +kernel
theorem dJ6_numberOfTrailingZeros_0f7a4_4 : decode cJ6_numberOfTrailingZeros_0f7a4 4 = .ok (.iconst 1, 1) := by decide +kernel
theorem dJ6_numberOfTrailingZeros_0f7a4_5 : decode cJ6_numberOfTrailingZeros_0f7a4 5 = .ok (.isub, 1) := by decide +kernel
theorem dJ6_numberOfTrailingZeros_0f7a4_6 : decode cJ6_numberOfTrailingZeros_0f7a4 6 = .ok (.iand, 1) := by decide +kernel
theorem dJ6_numberOfTrailingZeros_0f7a4_7 : decode cJ6_numberOfTrailingZeros_0f7a4 7 = .ok (.istore_n 0, 1) := by decide +kernel
theorem dJ6_numberOfTrailingZeros_0f7a4_8 : decode cJ6_numberOfTrailingZeros_0f7a4 8 = .ok (.iload_n 0, 1) := by decide +kernel
theorem dJ6_numberOfTrailingZeros_0f7a4_9 : decode cJ6_numberOfTrailingZeros_0f7a4 9 = .ok (.ifCond .gt 8, 3) := by decide +kernel
theorem dJ6_numberOfTrailingZeros_0f7a4_12 : decode cJ6_numberOfTrailingZeros_0f7a4 12 = .ok (.iload_n 0, 1) := by decide +kernel
theorem dJ6_numberOfTrailingZeros_0f7a4_13 : decode cJ6_numberOfTrailingZeros_0f7a4 13 = .ok (.bipush 32, 2) := by decide +kernel
theorem dJ6_numberOfTrailingZeros_0f7a4_15 : decode cJ6_numberOfTrailingZeros_0f7a4 15 = .ok (.iand, 1) := by decide +kernel
theorem dJ6_numberOfTrailingZeros_0f7a4_16 : decode cJ6_numberOfTrailingZeros_0f7a4 16 = .ok (.ireturn, 1) := by decide +kernel
theorem dJ6_numberOfTrailingZeros_0f7a4_17 : decode cJ6_numberOfTrailingZeros_0f7a4 17 = .ok (.iconst 1, 1) := by decide +kernel
theorem dJ6_numberOfTrailingZeros_0f7a4_18 : decode cJ6_numberOfTrailingZeros_0f7a4 18 = .ok (.istore_n 1, 1) := by decide +kernel
theorem dJ6_numberOfTrailingZeros_0f7a4_19 : decode cJ6_numberOfTrailingZeros_0f7a4 19 = .ok (.iload_n 0, 1) := by decide +kernel
theorem dJ6_numberOfTrailingZeros_0f7a4_20 : decode cJ6_numberOfTrailingZeros_0f7a4 20 = .ok (.ldc_w 264, 3) := by decide +kernel
theorem dJ6_numberOfTrailingZeros_0f7a4_23 : decode cJ6_numberOfTrailingZeros_0f7a4 23 = .ok (.if_icmp .le 11, 3) := by decide +kernel
theorem dJ6_numberOfTrailingZeros_0f7a4_26 : decode cJ6_numberOfTrailingZeros_0f7a4 26 = .ok (.iinc 1 16, 3) := by decide +kernel
theorem dJ6_numberOfTrailingZeros_0f7a4_29 : decode cJ6_numberOfTrailingZeros_0f7a4 29 = .ok (.iload_n 0, 1) := by decide +kernel
theorem dJ6_numberOfTrailingZeros_0f7a4_30 : decode cJ6_numberOfTrailingZeros_0f7a4 30 = .ok (.bipush 16, 2) := by decide +kernel
theorem dJ6_numberOfTrailingZeros_0f7a4_32 : decode cJ6_numberOfTrailingZeros_0f7a4 32 = .ok (.iushr, 1) := by decide +kernel
theorem dJ6_numberOfTrailingZeros_0f7a4_33 : decode cJ6_numberOfTrailingZeros_0f7a4 33 = .ok (.istore_n 0, 1) := by decide +kernel
theorem dJ6_numberOfTrailingZeros_0f7a4_34 : decode cJ6_numberOfTrailingZeros_0f7a4 34 = .ok (.iload_n 0, 1) := by decide +kernel
theorem dJ6_numberOfTrailingZeros_0f7a4_35 : decode cJ6_numberOfTrailingZeros_0f7a4 35 = .ok (.sipush 256, 3) := by decide +kernel
theorem dJ6_numberOfTrailingZeros_0f7a4_38 : decode cJ6_numberOfTrailingZeros_0f7a4 38 = .ok (.if_icmp .le 11, 3) := by decide +kernel
theorem dJ6_numberOfTrailingZeros_0f7a4_41 : decode cJ6_numberOfTrailingZeros_0f7a4 41 = .ok (.iinc 1 8, 3) := by decide +kernel
theorem dJ6_numberOfTrailingZeros_0f7a4_44 : decode cJ6_numberOfTrailingZeros_0f7a4 44 = .ok (.iload_n 0, 1) := by decide +kernel
theorem dJ6_numberOfTrailingZeros_0f7a4_45 : decode cJ6_numberOfTrailingZeros_0f7a4 45 = .ok (.bipush 8, 2) := by decide +kernel
theorem dJ6_numberOfTrailingZeros_0f7a4_47 : decode cJ6_numberOfTrailingZeros_0f7a4 47 = .ok (.iushr, 1) := by decide +kernel
theorem dJ6_numberOfTrailingZeros_0f7a4_48 : decode cJ6_numberOfTrailingZeros_0f7a4 48 = .ok (.istore_n 0, 1) := by decide +kernel
theorem dJ6_numberOfTrailingZeros_0f7a4_49 : decode cJ6_numberOfTrailingZeros_0f7a4 49 = .ok (.iload_n 0, 1) := by decide +kernel
theorem dJ6_numberOfTrailingZeros_0f7a4_50 : decode cJ6_numberOfTrailingZeros_0f7a4 50 = .ok (.bipush 16, 2) := by decide +kernel
theorem dJ6_numberOfTrailingZeros_0f7a4_52 : decode cJ6_numberOfTrailingZeros_0f7a4 52 = .ok (.if_icmp .le 10, 3) := by decide +kernel
theorem dJ6_numberOfTrailingZeros_0f7a4_55 : decode cJ6_numberOfTrailingZeros_0f7a4 55 = .ok (.iinc 1 4, 3) := by decide +kernel
theorem dJ6_numberOfTrailingZeros_0f7a4_58 : decode cJ6_numberOfTrailingZeros_0f7a4 58 = .ok (.iload_n 0, 1) := by decide +kernel
theorem dJ6_numberOfTrailingZeros_0f7a4_59 : decode cJ6_numberOfTrailingZeros_0f7a4 59 = .ok (.iconst 4, 1) := by decide +kernel
theorem dJ6_numberOfTrailingZeros_0f7a4_60 : decode cJ6_numberOfTrailingZeros_0f7a4 60 = .ok (.iushr, 1) := by decide +kernel
theorem dJ6_numberOfTrailingZeros_0f7a4_61 : decode cJ6_numberOfTrailingZeros_0f7a4 61 = .ok (.istore_n 0, 1) := by decide +kernel
theorem dJ6_numberOfTrailingZeros_0f7a4_62 : decode cJ6_numberOfTrailingZeros_0f7a4 62 = .ok (.iload_n 0, 1) := by decide +kernel
theorem dJ6_numberOfTrailingZeros_0f7a4_63 : decode cJ6_numberOfTrailingZeros_0f7a4 63 = .ok (.iconst 4, 1) := by decide +kernel
theorem dJ6_numberOfTrailingZeros_0f7a4_64 : decode cJ6_numberOfTrailingZeros_0f7a4 64 = .ok (.if_icmp .le 10, 3) := by decide +kernel
theorem dJ6_numberOfTrailingZeros_0f7a4_67 : decode cJ6_numberOfTrailingZeros_0f7a4 67 = .ok (.iinc 1 2, 3) := by decide +kernel
theorem dJ6_numberOfTrailingZeros_0f7a4_70 : decode cJ6_numberOfTrailingZeros_0f7a4 70 = .ok (.iload_n 0, 1) := by decide +kernel
theorem dJ6_numberOfTrailingZeros_0f7a4_71 : decode cJ6_numberOfTrailingZeros_0f7a4 71 = .ok (.iconst 2, 1) := by decide +kernel
theorem dJ6_numberOfTrailingZeros_0f7a4_72 : decode cJ6_numberOfTrailingZeros_0f7a4 72 = .ok (.iushr, 1) := by decide +kernel
theorem dJ6_numberOfTrailingZeros_0f7a4_73 : decode cJ6_numberOfTrailingZeros_0f7a4 73 = .ok (.istore_n 0, 1) := by decide +kernel
theorem dJ6_numberOfTrailingZeros_0f7a4_74 : decode cJ6_numberOfTrailingZeros_0f7a4 74 = .ok (.iload_n 1, 1) := by decide +kernel
theorem dJ6_numberOfTrailingZeros_0f7a4_75 : decode cJ6_numberOfTrailingZeros_0f7a4 75 = .ok (.iload_n 0, 1) := by decide +kernel
theorem dJ6_numberOfTrailingZeros_0f7a4_76 : decode cJ6_numberOfTrailingZeros_0f7a4 76 = .ok (.iconst 1, 1) := by decide +kernel
theorem dJ6_numberOfTrailingZeros_0f7a4_77 : decode cJ6_numberOfTrailingZeros_0f7a4 77 = .ok (.iushr, 1) := by decide +kernel
theorem dJ6_numberOfTrailingZeros_0f7a4_78 : decode cJ6_numberOfTrailingZeros_0f7a4 78 = .ok (.iadd, 1) := by decide +kernel
theorem dJ6_numberOfTrailingZeros_0f7a4_79 : decode cJ6_numberOfTrailingZeros_0f7a4 79 = .ok (.ireturn, 1) := by decide +kernel
theorem dJ9_floorMod_7cf53_0 : decode cJ9_floorMod_7cf53 0 = .ok (.iload_n 0, 1) := by decide +kernel
theorem dJ9_floorMod_7cf53_1 : decode cJ9_floorMod_7cf53 1 = .ok (.iload_n 1, 1) := by decide +kernel
theorem dJ9_floorMod_7cf53_2 : decode cJ9_floorMod_7cf53 2 = .ok (.irem, 1) := by decide +kernel
theorem dJ9_floorMod_7cf53_3 : decode cJ9_floorMod_7cf53 3 = .ok (.istore_n 2, 1) := by decide +kernel
theorem dJ9_floorMod_7cf53_4 : decode cJ9_floorMod_7cf53 4 = .ok (.iload_n 0, 1) := by decide +kernel
theorem dJ9_floorMod_7cf53_5 : decode cJ9_floorMod_7cf53 5 = .ok (.iload_n 1, 1) := by decide +kernel
theorem dJ9_floorMod_7cf53_6 : decode cJ9_floorMod_7cf53 6 = .ok (.ixor, 1) := by decide +kernel
theorem dJ9_floorMod_7cf53_7 : decode cJ9_floorMod_7cf53 7 = .ok (.ifCond .ge 11, 3) := by decide +kernel
theorem dJ9_floorMod_7cf53_10 : decode cJ9_floorMod_7cf53 10 = .ok (.iload_n 2, 1) := by decide +kernel
theorem dJ9_floorMod_7cf53_11 : decode cJ9_floorMod_7cf53 11 = .ok (.ifCond .eq 7, 3) := by decide +kernel
theorem dJ9_floorMod_7cf53_14 : decode cJ9_floorMod_7cf53 14 = .ok (.iload_n 2, 1) := by decide +kernel
theorem dJ9_floorMod_7cf53_15 : decode cJ9_floorMod_7cf53 15 = .ok (.iload_n 1, 1) := by decide +kernel
theorem dJ9_floorMod_7cf53_16 : decode cJ9_floorMod_7cf53 16 = .ok (.iadd, 1) := by decide +kernel
theorem dJ9_floorMod_7cf53_17 : decode cJ9_floorMod_7cf53 17 = .ok (.ireturn, 1) := by decide +kernel
theorem dJ9_floorMod_7cf53_18 : decode cJ9_floorMod_7cf53 18 = .ok (.iload_n 2, 1) := by decide +kernel
theorem dJ9_floorMod_7cf53_19 : decode cJ9_floorMod_7cf53 19 = .ok (.ireturn, 1) := by decide +kernel
theorem dJ9_abs_0f7a4_0 : decode cJ9_abs_0f7a4 0 = .ok (.iload_n 0, 1) := by decide +kernel
theorem dJ9_abs_0f7a4_1 : decode cJ9_abs_0f7a4 1 = .ok (.ifCond .ge 8, 3) := by decide +kernel
theorem dJ9_abs_0f7a4_4 : decode cJ9_abs_0f7a4 4 = .ok (.iload_n 0, 1) := by decide +kernel
theorem dJ9_abs_0f7a4_5 : decode cJ9_abs_0f7a4 5 = .ok (.ineg, 1) := by decide +kernel
theorem dJ9_abs_0f7a4_6 : decode cJ9_abs_0f7a4 6 = .ok (.goto 4, 3) := by decide +kernel
theorem dJ9_abs_0f7a4_9 : decode cJ9_abs_0f7a4 9 = .ok (.iload_n 0, 1) := by decide +kernel
theorem dJ9_abs_0f7a4_10 : decode cJ9_abs_0f7a4 10 = .ok (.ireturn, 1) := by decide +kernel
theorem dJ9_max_7cf53_0 : decode cJ9_max_7cf53 0 = .ok (.iload_n 0, 1) := by decide +kernel
theorem dJ9_max_7cf53_1 : decode cJ9_max_7cf53 1 = .ok (.iload_n 1, 1) := by decide +kernel
theorem dJ9_max_7cf53_2 : decode cJ9_max_7cf53 2 = .ok (.if_icmp .lt 7, 3) := by decide +kernel
theorem dJ9_max_7cf53_5 : decode cJ9_max_7cf53 5 = .ok (.iload_n 0, 1) := by decide +kernel
theorem dJ9_max_7cf53_6 : decode cJ9_max_7cf53 6 = .ok (.goto 4, 3) := by decide +kernel
theorem dJ9_max_7cf53_9 : decode cJ9_max_7cf53 9 = .ok (.iload_n 1, 1) := by decide +kernel
theorem dJ9_max_7cf53_10 : decode cJ9_max_7cf53 10 = .ok (.ireturn, 1) := by decide +kernel
theorem dJ9_min_7cf53_0 : decode cJ9_min_7cf53 0 = .ok (.iload_n 0, 1) := by decide +kernel
theorem dJ9_min_7cf53_1 : decode cJ9_min_7cf53 1 = .ok (.iload_n 1, 1) := by decide +kernel
theorem dJ9_min_7cf53_2 : decode cJ9_min_7cf53 2 = .ok (.if_icmp .gt 7, 3) := by decide +kernel
theorem dJ9_min_7cf53_5 : decode cJ9_min_7cf53 5 = .ok (.iload_n 0, 1) := by decide +kernel
theorem dJ9_min_7cf53_6 : decode cJ9_min_7cf53 6 = .ok (.goto 4, 3) := by decide +kernel
theorem dJ9_min_7cf53_9 : decode cJ9_min_7cf53 9 = .ok (.iload_n 1, 1) := by decide +kernel
theorem dJ9_min_7cf53_10 : decode cJ9_min_7cf53 10 = .ok (.ireturn, 1) := by decide +kernel
set_option maxRecDepth 20000 in
theorem ggJ0_charAt_5068e_J0_isLatin1_aae02 : GoodIn wsJ0_charAt_5068e wsJ0_isLatin1_aae02 := goodIn_r _ [6, 7, 8] (by decide +kernel) (by decide +kernel)
set_option maxRecDepth 20000 in
theorem gJ0_charAt_5068e_J0_isLatin1_aae02 : GoodIn wsJ0_charAt_5068e (wsV RJ0 492 RJ0 yJ0_isLatin1_aae02 wsJ0_isLatin1_aae02) := goodIn_app (goodIn_of _ (by decide +kernel)) ggJ0_charAt_5068e_J0_isLatin1_aae02
set_option maxRecDepth 20000 in
theorem ggJ0_charAt_5068e_J1_charAt_3b067 : GoodIn wsJ0_charAt_5068e wsJ1_charAt_3b067 := goodIn_r _ [12, 13, 14, 5, 15, 16, 17, 18, 19, 20] (by decide +kernel) (by decide +kernel)
set_option maxRecDepth 20000 in
theorem gJ0_charAt_5068e_J1_charAt_3b067 : GoodIn wsJ0_charAt_5068e (va_wsS RJ0 495 yJ1_charAt_3b067 wsJ1_charAt_3b067) := goodIn_app (goodIn_of _ (by decide +kernel)) ggJ0_charAt_5068e_J1_charAt_3b067
set_option maxRecDepth 20000 in
theorem ggJ0_charAt_5068e_J2_charAt_3b067 : GoodIn wsJ0_charAt_5068e wsJ2_charAt_3b067 := goodIn_r _ [24, 25, 26, 23, 27, 28, 29, 30, 31, 14, 5, 15, 16, 17, 18, 19, 20, 32, 33, 34, 35, 36, 37] (by decide +kernel) (by decide +kernel)
set_option maxRecDepth 20000 in
theorem gJ0_charAt_5068e_J2_charAt_3b067 : GoodIn wsJ0_charAt_5068e (va_wsS RJ0 498 yJ2_charAt_3b067 wsJ2_charAt_3b067) := goodIn_app (goodIn_of _ (by decide +kernel)) ggJ0_charAt_5068e_J2_charAt_3b067
theorem dJ0_charAt_5068e_0 : decode cJ0_charAt_5068e 0 = .ok (.aload_n 0, 1) := by decide +kernel
theorem dJ0_charAt_5068e_1 : decode cJ0_charAt_5068e 1 = .ok (.invokevirtual 492, 3) := by decide +kernel
theorem dJ0_charAt_5068e_4 : decode cJ0_charAt_5068e 4 = .ok (.ifCond .eq 12, 3) := by decide +kernel
theorem dJ0_charAt_5068e_7 : decode cJ0_charAt_5068e 7 = .ok (.aload_n 0, 1) := by decide +kernel
theorem dJ0_charAt_5068e_8 : decode cJ0_charAt_5068e 8 = .ok (.getfield 9, 3) := by decide +kernel
theorem dJ0_charAt_5068e_11 : decode cJ0_charAt_5068e 11 = .ok (.iload_n 1, 1) := by decide +kernel
theorem dJ0_charAt_5068e_12 : decode cJ0_charAt_5068e 12 = .ok (.invokestatic 495, 3) := by decide +kernel
theorem dJ0_charAt_5068e_15 : decode cJ0_charAt_5068e 15 = .ok (.ireturn, 1) := by decide +kernel
theorem dJ0_charAt_5068e_16 : decode cJ0_charAt_5068e 16 = .ok (.aload_n 0, 1) := by decide +kernel
theorem dJ0_charAt_5068e_17 : decode cJ0_charAt_5068e 17 = .ok (.getfield 9, 3) := by decide +kernel
theorem dJ0_charAt_5068e_20 : decode cJ0_charAt_5068e 20 = .ok (.iload_n 1, 1) := by decide +kernel
theorem dJ0_charAt_5068e_21 : decode cJ0_charAt_5068e 21 = .ok (.invokestatic 498, 3) := by decide +kernel
theorem dJ0_charAt_5068e_24 : decode cJ0_charAt_5068e 24 = .ok (.ireturn, 1) := by decide +kernel
theorem dJ0_isLatin1_aae02_0 : decode cJ0_isLatin1_aae02 0 = .ok (.getstatic 38, 3) := by decide +kernel
theorem dJ0_isLatin1_aae02_3 : decode cJ0_isLatin1_aae02 3 = .ok (.ifCond .eq 14, 3) := by decide +kernel
theorem dJ0_isLatin1_aae02_6 : decode cJ0_isLatin1_aae02 6 = .ok (.aload_n 0, 1) := by decide +kernel
theorem dJ0_isLatin1_aae02_7 : decode cJ0_isLatin1_aae02 7 = .ok (.getfield 15, 3) := by decide +kernel
theorem dJ0_isLatin1_aae02_10 : decode cJ0_isLatin1_aae02 10 = .ok (.ifCond .ne 7, 3) := by decide +kernel
theorem dJ0_isLatin1_aae02_13 : decode cJ0_isLatin1_aae02 13 = .ok (.iconst 1, 1) := by decide +kernel
theorem dJ0_isLatin1_aae02_14 : decode cJ0_isLatin1_aae02 14 = .ok (.goto 4, 3) := by decide +kernel
theorem dJ0_isLatin1_aae02_17 : decode cJ0_isLatin1_aae02 17 = .ok (.iconst 0, 1) := by decide +kernel
theorem dJ0_isLatin1_aae02_18 : decode cJ0_isLatin1_aae02 18 = .ok (.ireturn, 1) := by decide +kernel
set_option maxRecDepth 20000 in
theorem ggJ0_checkIndex_df160_J3_checkIndex_8e157 : GoodIn wsJ0_checkIndex_df160 wsJ3_checkIndex_8e157 := goodIn_r _ [5] (by decide +kernel) (by decide +kernel)
set_option maxRecDepth 20000 in
theorem gJ0_checkIndex_df160_J3_checkIndex_8e157 : GoodIn wsJ0_checkIndex_df160 (va_wsS RJ0 1059 yJ3_checkIndex_8e157 wsJ3_checkIndex_8e157) := goodIn_app (goodIn_of _ (by decide +kernel)) ggJ0_checkIndex_df160_J3_checkIndex_8e157
theorem dJ0_checkIndex_df160_0 : decode cJ0_checkIndex_df160 0 = .ok (.iload_n 0, 1) := by decide +kernel
theorem dJ0_checkIndex_df160_1 : decode cJ0_checkIndex_df160 1 = .ok (.iload_n 1, 1) := by decide +kernel
theorem dJ0_checkIndex_df160_2 : decode cJ0_checkIndex_df160 2 = .ok (.getstatic 1053, 3) := by decide +kernel
theorem dJ0_checkIndex_df160_5 : decode cJ0_checkIndex_df160 5 = .ok (.invokestatic 1059, 3) := by decide +kernel
theorem dJ0_checkIndex_df160_8 : decode cJ0_checkIndex_df160 8 = .ok (.pop, 1) := by decide +kernel
theorem dJ0_checkIndex_df160_9 : decode cJ0_checkIndex_df160 9 = .ok (.return_, 1) := by decide +kernel
set_option maxRecDepth 20000 in
theorem ggJ1_charAt_3b067_J0_checkIndex_df160 : GoodIn wsJ1_charAt_3b067 wsJ0_checkIndex_df160 := goodIn_r _ [4, 5, 6, 7, 8, 9] (by decide +kernel) (by decide +kernel)
set_option maxRecDepth 20000 in
theorem gJ1_charAt_3b067_J0_checkIndex_df160 : GoodIn wsJ1_charAt_3b067 (va_wsS RJ1 9 yJ0_checkIndex_df160 wsJ0_checkIndex_df160) := goodIn_app (goodIn_of _ (by decide +kernel)) ggJ1_charAt_3b067_J0_checkIndex_df160
theorem dJ1_charAt_3b067_0 : decode cJ1_charAt_3b067 0 = .ok (.iload_n 1, 1) := by decide +kernel
theorem dJ1_charAt_3b067_1 : decode cJ1_charAt_3b067 1 = .ok (.aload_n 0, 1) := by decide +kernel
theorem dJ1_charAt_3b067_2 : decode cJ1_charAt_3b067 2 = .ok (.arraylength, 1) := by decide +kernel
theorem dJ1_charAt_3b067_3 : decode cJ1_charAt_3b067 3 = .ok (.invokestatic 9, 3) := by decide +kernel
theorem dJ1_charAt_3b067_6 : decode cJ1_charAt_3b067 6 = .ok (.aload_n 0, 1) := by decide +kernel
theorem dJ1_charAt_3b067_7 : decode cJ1_charAt_3b067 7 = .ok (.iload_n 1, 1) := by decide +kernel
theorem dJ1_charAt_3b067_8 : decode cJ1_charAt_3b067 8 = .ok (.baload, 1) := by decide +kernel
theorem dJ1_charAt_3b067_9 : decode cJ1_charAt_3b067 9 = .ok (.sipush 255, 3) := by decide +kernel
theorem dJ1_charAt_3b067_12 : decode cJ1_charAt_3b067 12 = .ok (.iand, 1) := by decide +kernel
theorem dJ1_charAt_3b067_13 : decode cJ1_charAt_3b067 13 = .ok (.i2c, 1) := by decide +kernel
theorem dJ1_charAt_3b067_14 : decode cJ1_charAt_3b067 14 = .ok (.ireturn, 1) := by decide +kernel
set_option maxRecDepth 20000 in
theorem ggJ2_getChar_3b067_J2_length_9d52b : GoodIn wsJ2_getChar_3b067 wsJ2_length_9d52b := goodIn_r _ [7] (by decide +kernel) (by decide +kernel)
set_option maxRecDepth 20000 in
theorem gJ2_getChar_3b067_J2_length_9d52b : GoodIn wsJ2_getChar_3b067 (va_wsS RJ2 48 yJ2_length_9d52b wsJ2_length_9d52b) := goodIn_app (goodIn_of _ (by decide +kernel)) ggJ2_getChar_3b067_J2_length_9d52b
theorem dJ2_getChar_3b067_0 : decode cJ2_getChar_3b067 0 = .ok (.getstatic 44, 3) := by decide +kernel
theorem dJ2_getChar_3b067_3 : decode cJ2_getChar_3b067 3 = .ok (.ifCond .ne 25, 3) := by decide +kernel
theorem dJ2_getChar_3b067_6 : decode cJ2_getChar_3b067 6 = .ok (.iload_n 1, 1) := by decide +kernel
theorem dJ2_getChar_3b067_7 : decode cJ2_getChar_3b067 7 = .ok (.ifCond .lt 11, 3) := by decide +kernel
theorem dJ2_getChar_3b067_10 : decode cJ2_getChar_3b067 10 = .ok (.iload_n 1, 1) := by decide +kernel
theorem dJ2_getChar_3b067_11 : decode cJ2_getChar_3b067 11 = .ok (.aload_n 0, 1) := by decide +kernel
theorem dJ2_getChar_3b067_12 : decode cJ2_getChar_3b067 12 = .ok (.invokestatic 48, 3) := by decide +kernel
theorem dJ2_getChar_3b067_15 : decode cJ2_getChar_3b067 15 = .ok (.if_icmp .lt 13, 3) := by decide +kernel
theorem dJ2_getChar_3b067_18 : decode cJ2_getChar_3b067 18 = .ok (.new 52, 3) := by decide +kernel
theorem dJ2_getChar_3b067_21 : decode cJ2_getChar_3b067 21 = .ok (.dup, 1) := by decide +kernel
theorem dJ2_getChar_3b067_22 : decode cJ2_getChar_3b067 22 = .ok (.ldc 54, 2) := by decide +kernel
theorem dJ2_getChar_3b067_24 : decode cJ2_getChar_3b067 24 = .ok (.invokespecial 56, 3) := by decide +kernel
theorem dJ2_getChar_3b067_27 : decode cJ2_getChar_3b067 27 = .ok (.athrow, 1) := by decide +kernel
theorem dJ2_getChar_3b067_28 : decode cJ2_getChar_3b067 28 = .ok (.iload_n 1, 1) := by decide +kernel
theorem dJ2_getChar_3b067_29 : decode cJ2_getChar_3b067 29 = .ok (.iconst 1, 1) := by decide +kernel
theorem dJ2_getChar_3b067_30 : decode cJ2_getChar_3b067 30 = .ok (.ishl, 1) := by decide +kernel
theorem dJ2_getChar_3b067_31 : decode cJ2_getChar_3b067 31 = .ok (.istore_n 1, 1) := by decide +kernel
theorem dJ2_getChar_3b067_32 : decode cJ2_getChar_3b067 32 = .ok (.aload_n 0, 1) := by decide +kernel
theorem dJ2_getChar_3b067_33 : decode cJ2_getChar_3b067 33 = .ok (.iload_n 1, 1) := by decide +kernel
theorem dJ2_getChar_3b067_34 : decode cJ2_getChar_3b067 34 = .ok (.iinc 1 1, 3) := by decide +kernel
theorem dJ2_getChar_3b067_37 : decode cJ2_getChar_3b067 37 = .ok (.baload, 1) := by decide +kernel
theorem dJ2_getChar_3b067_38 : decode cJ2_getChar_3b067 38 = .ok (.sipush 255, 3) := by decide +kernel
theorem dJ2_getChar_3b067_41 : decode cJ2_getChar_3b067 41 = .ok (.iand, 1) := by decide +kernel
theorem dJ2_getChar_3b067_42 : decode cJ2_getChar_3b067 42 = .ok (.getstatic 59, 3) := by decide +kernel
theorem dJ2_getChar_3b067_45 : decode cJ2_getChar_3b067 45 = .ok (.ishl, 1) := by decide +kernel
theorem dJ2_getChar_3b067_46 : decode cJ2_getChar_3b067 46 = .ok (.aload_n 0, 1) := by decide +kernel
theorem dJ2_getChar_3b067_47 : decode cJ2_getChar_3b067 47 = .ok (.iload_n 1, 1) := by decide +kernel
theorem dJ2_getChar_3b067_48 : decode cJ2_getChar_3b067 48 = .ok (.baload, 1) := by decide +kernel
theorem dJ2_getChar_3b067_49 : decode cJ2_getChar_3b067 49 = .ok (.sipush 255, 3) := by decide +kernel
theorem dJ2_getChar_3b067_52 : decode cJ2_getChar_3b067 52 = .ok (.iand, 1) := by decide +kernel
theorem dJ2_getChar_3b067_53 : decode cJ2_getChar_3b067 53 = .ok (.getstatic 63, 3) := by decide +kernel
theorem dJ2_getChar_3b067_56 : decode cJ2_getChar_3b067 56 = .ok (.ishl, 1) := by decide +kernel
theorem dJ2_getChar_3b067_57 : decode cJ2_getChar_3b067 57 = .ok (.ior, 1) := by decide +kernel
theorem dJ2_getChar_3b067_58 : decode cJ2_getChar_3b067 58 = .ok (.i2c, 1) := by decide +kernel
theorem dJ2_getChar_3b067_59 : decode cJ2_getChar_3b067 59 = .ok (.ireturn, 1) := by decide +kernel
theorem dJ2_length_9d52b_0 : decode cJ2_length_9d52b 0 = .ok (.aload_n 0, 1) := by decide +kernel
theorem dJ2_length_9d52b_1 : decode cJ2_length_9d52b 1 = .ok (.arraylength, 1) := by decide +kernel
theorem dJ2_length_9d52b_2 : decode cJ2_length_9d52b 2 = .ok (.iconst 1, 1) := by decide +kernel
theorem dJ2_length_9d52b_3 : decode cJ2_length_9d52b 3 = .ok (.ishr, 1) := by decide +kernel
theorem dJ2_length_9d52b_4 : decode cJ2_length_9d52b 4 = .ok (.ireturn, 1) := by decide +kernel
set_option maxRecDepth 20000 in
theorem ggJ2_charAt_3b067_J2_checkIndex_2214a : GoodIn wsJ2_charAt_3b067 wsJ2_checkIndex_2214a := goodIn_r _ [4, 5, 6, 3, 7, 8, 9, 10, 11, 12, 13, 14, 15, 16] (by decide +kernel) (by decide +kernel)
set_option maxRecDepth 20000 in
theorem gJ2_charAt_3b067_J2_checkIndex_2214a : GoodIn wsJ2_charAt_3b067 (va_wsS RJ2 67 yJ2_checkIndex_2214a wsJ2_checkIndex_2214a) := goodIn_app (goodIn_of _ (by decide +kernel)) ggJ2_charAt_3b067_J2_checkIndex_2214a
set_option maxRecDepth 20000 in
theorem ggJ2_charAt_3b067_J2_getChar_3b067 : GoodIn wsJ2_charAt_3b067 wsJ2_getChar_3b067 := goodIn_r _ [19, 20, 21, 22, 5, 6, 3, 7] (by decide +kernel) (by decide +kernel)
set_option maxRecDepth 20000 in
theorem gJ2_charAt_3b067_J2_getChar_3b067 : GoodIn wsJ2_charAt_3b067 (va_wsS RJ2 71 yJ2_getChar_3b067 wsJ2_getChar_3b067) := goodIn_app (goodIn_of _ (by decide +kernel)) ggJ2_charAt_3b067_J2_getChar_3b067
theorem dJ2_charAt_3b067_0 : decode cJ2_charAt_3b067 0 = .ok (.iload_n 1, 1) := by decide +kernel
theorem dJ2_charAt_3b067_1 : decode cJ2_charAt_3b067 1 = .ok (.aload_n 0, 1) := by decide +kernel
theorem dJ2_charAt_3b067_2 : decode cJ2_charAt_3b067 2 = .ok (.invokestatic 67, 3) := by decide +kernel
theorem dJ2_charAt_3b067_5 : decode cJ2_charAt_3b067 5 = .ok (.aload_n 0, 1) := by decide +kernel
theorem dJ2_charAt_3b067_6 : decode cJ2_charAt_3b067 6 = .ok (.iload_n 1, 1) := by decide +kernel
theorem dJ2_charAt_3b067_7 : decode cJ2_charAt_3b067 7 = .ok (.invokestatic 71, 3) := by decide +kernel
theorem dJ2_charAt_3b067_10 : decode cJ2_charAt_3b067 10 = .ok (.ireturn, 1) := by decide +kernel
set_option maxRecDepth 20000 in
theorem ggJ2_checkIndex_2214a_J2_length_9d52b : GoodIn wsJ2_checkIndex_2214a wsJ2_length_9d52b := goodIn_r _ [4] (by decide +kernel) (by decide +kernel)
set_option maxRecDepth 20000 in
theorem gJ2_checkIndex_2214a_J2_length_9d52b : GoodIn wsJ2_checkIndex_2214a (va_wsS RJ2 48 yJ2_length_9d52b wsJ2_length_9d52b) := goodIn_app (goodIn_of _ (by decide +kernel)) ggJ2_checkIndex_2214a_J2_length_9d52b
set_option maxRecDepth 20000 in
theorem ggJ2_checkIndex_2214a_J0_checkIndex_df160 : GoodIn wsJ2_checkIndex_2214a wsJ0_checkIndex_df160 := goodIn_r _ [8, 9, 10, 11, 12, 13] (by decide +kernel) (by decide +kernel)
set_option maxRecDepth 20000 in
theorem gJ2_checkIndex_2214a_J0_checkIndex_df160 : GoodIn wsJ2_checkIndex_2214a (va_wsS RJ2 414 yJ0_checkIndex_df160 wsJ0_checkIndex_df160) := goodIn_app (goodIn_of _ (by decide +kernel)) ggJ2_checkIndex_2214a_J0_checkIndex_df160
theorem dJ2_checkIndex_2214a_0 : decode cJ2_checkIndex_2214a 0 = .ok (.iload_n 0, 1) := by decide +kernel
theorem dJ2_checkIndex_2214a_1 : decode cJ2_checkIndex_2214a 1 = .ok (.aload_n 1, 1) := by decide +kernel
theorem dJ2_checkIndex_2214a_2 : decode cJ2_checkIndex_2214a 2 = .ok (.invokestatic 48, 3) := by decide +kernel
theorem dJ2_checkIndex_2214a_5 : decode cJ2_checkIndex_2214a 5 = .ok (.invokestatic 414, 3) := by decide +kernel
theorem dJ2_checkIndex_2214a_8 : decode cJ2_checkIndex_2214a 8 = .ok (.return_, 1) := by decide +kernel
theorem dJ7_fill_53178_0 : decode cJ7_fill_53178 0 = .ok (.iconst 0, 1) := by decide +kernel
theorem dJ7_fill_53178_1 : decode cJ7_fill_53178 1 = .ok (.istore_n 2, 1) := by decide +kernel
theorem dJ7_fill_53178_2 : decode cJ7_fill_53178 2 = .ok (.aload_n 0, 1) := by decide +kernel
theorem dJ7_fill_53178_3 : decode cJ7_fill_53178 3 = .ok (.arraylength, 1) := by decide +kernel
theorem dJ7_fill_53178_4 : decode cJ7_fill_53178 4 = .ok (.istore_n 3, 1) := by decide +kernel
theorem dJ7_fill_53178_5 : decode cJ7_fill_53178 5 = .ok (.iload_n 2, 1) := by decide +kernel
theorem dJ7_fill_53178_6 : decode cJ7_fill_53178 6 = .ok (.iload_n 3, 1) := by decide +kernel
theorem dJ7_fill_53178_7 : decode cJ7_fill_53178 7 = .ok (.if_icmp .ge 13, 3) := by decide +kernel
theorem dJ7_fill_53178_10 : decode cJ7_fill_53178 10 = .ok (.aload_n 0, 1) := by decide +kernel
theorem dJ7_fill_53178_11 : decode cJ7_fill_53178 11 = .ok (.iload_n 2, 1) := by decide +kernel
theorem dJ7_fill_53178_12 : decode cJ7_fill_53178 12 = .ok (.iload_n 1, 1) := by decide +kernel
theorem dJ7_fill_53178_13 : decode cJ7_fill_53178 13 = .ok (.iastore, 1) := by decide +kernel
theorem dJ7_fill_53178_14 : decode cJ7_fill_53178 14 = .ok (.iinc 2 1, 3) := by decide +kernel
theorem dJ7_fill_53178_17 : decode cJ7_fill_53178 17 = .ok (.goto (-12), 3) := by decide +kernel
theorem dJ7_fill_53178_20 : decode cJ7_fill_53178 20 = .ok (.return_, 1) := by decide +kernel
theorem dJ3_checkIndex_8e157_0 : decode cJ3_checkIndex_8e157 0 = .ok (.iload_n 0, 1) := by decide +kernel
theorem dJ3_checkIndex_8e157_1 : decode cJ3_checkIndex_8e157 1 = .ok (.ifCond .lt 8, 3) := by decide +kernel
theorem dJ3_checkIndex_8e157_4 : decode cJ3_checkIndex_8e157 4 = .ok (.iload_n 0, 1) := by decide +kernel
theorem dJ3_checkIndex_8e157_5 : decode cJ3_checkIndex_8e157 5 = .ok (.iload_n 1, 1) := by decide +kernel
theorem dJ3_checkIndex_8e157_6 : decode cJ3_checkIndex_8e157 6 = .ok (.if_icmp .lt 10, 3) := by decide +kernel
theorem dJ3_checkIndex_8e157_9 : decode cJ3_checkIndex_8e157 9 = .ok (.aload_n 2, 1) := by decide +kernel
theorem dJ3_checkIndex_8e157_10 : decode cJ3_checkIndex_8e157 10 = .ok (.iload_n 0, 1) := by decide +kernel
theorem dJ3_checkIndex_8e157_11 : decode cJ3_checkIndex_8e157 11 = .ok (.iload_n 1, 1) := by decide +kernel
theorem dJ3_checkIndex_8e157_12 : decode cJ3_checkIndex_8e157 12 = .ok (.invokestatic 95, 3) := by decide +kernel
theorem dJ3_checkIndex_8e157_15 : decode cJ3_checkIndex_8e157 15 = .ok (.athrow, 1) := by decide +kernel
theorem dJ3_checkIndex_8e157_16 : decode cJ3_checkIndex_8e157 16 = .ok (.iload_n 0, 1) := by decide +kernel
theorem dJ3_checkIndex_8e157_17 : decode cJ3_checkIndex_8e157 17 = .ok (.ireturn, 1) := by decide +kernel
