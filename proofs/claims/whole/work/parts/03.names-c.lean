set_option maxRecDepth 20000 in
theorem ggX0_init_X4_init : GoodIn wsX0_init wsX4_init := goodIn_r _ [20, 21, 2, 3, 22, 23, 24, 25, 26, 27, 28, 29, 4, 30, 45, 46, 47] (by decide +kernel) (by decide +kernel)
set_option maxRecDepth 20000 in
theorem gX0_init_X4_init : GoodIn wsX0_init (wsX4_init) := ggX0_init_X4_init
theorem dX0_init_0 : decode cX0_init 0 = .ok (.aload_n 0, 1) := by decide +kernel
theorem dX0_init_1 : decode cX0_init 1 = .ok (.invokespecial 3, 3) := by decide +kernel
theorem dX0_init_4 : decode cX0_init 4 = .ok (.aload_n 0, 1) := by decide +kernel
theorem dX0_init_5 : decode cX0_init 5 = .ok (.bipush 8, 2) := by decide +kernel
theorem dX0_init_7 : decode cX0_init 7 = .ok (.newarray .int, 2) := by decide +kernel
theorem dX0_init_9 : decode cX0_init 9 = .ok (.putfield 11, 3) := by decide +kernel
theorem dX0_init_12 : decode cX0_init 12 = .ok (.aload_n 0, 1) := by decide +kernel
theorem dX0_init_13 : decode cX0_init 13 = .ok (.bipush 8, 2) := by decide +kernel
theorem dX0_init_15 : decode cX0_init 15 = .ok (.newarray .int, 2) := by decide +kernel
theorem dX0_init_17 : decode cX0_init 17 = .ok (.putfield 15, 3) := by decide +kernel
theorem dX0_init_20 : decode cX0_init 20 = .ok (.aload_n 0, 1) := by decide +kernel
theorem dX0_init_21 : decode cX0_init 21 = .ok (.bipush 8, 2) := by decide +kernel
theorem dX0_init_23 : decode cX0_init 23 = .ok (.newarray .int, 2) := by decide +kernel
theorem dX0_init_25 : decode cX0_init 25 = .ok (.putfield 18, 3) := by decide +kernel
theorem dX0_init_28 : decode cX0_init 28 = .ok (.aload_n 0, 1) := by decide +kernel
theorem dX0_init_29 : decode cX0_init 29 = .ok (.bipush 8, 2) := by decide +kernel
theorem dX0_init_31 : decode cX0_init 31 = .ok (.newarray .int, 2) := by decide +kernel
theorem dX0_init_33 : decode cX0_init 33 = .ok (.putfield 21, 3) := by decide +kernel
theorem dX0_init_36 : decode cX0_init 36 = .ok (.aload_n 0, 1) := by decide +kernel
theorem dX0_init_37 : decode cX0_init 37 = .ok (.bipush 16, 2) := by decide +kernel
theorem dX0_init_39 : decode cX0_init 39 = .ok (.newarray .int, 2) := by decide +kernel
theorem dX0_init_41 : decode cX0_init 41 = .ok (.putfield 24, 3) := by decide +kernel
theorem dX0_init_44 : decode cX0_init 44 = .ok (.aload_n 0, 1) := by decide +kernel
theorem dX0_init_45 : decode cX0_init 45 = .ok (.bipush 16, 2) := by decide +kernel
theorem dX0_init_47 : decode cX0_init 47 = .ok (.newarray .int, 2) := by decide +kernel
theorem dX0_init_49 : decode cX0_init 49 = .ok (.putfield 27, 3) := by decide +kernel
theorem dX0_init_52 : decode cX0_init 52 = .ok (.aload_n 0, 1) := by decide +kernel
theorem dX0_init_53 : decode cX0_init 53 = .ok (.bipush 16, 2) := by decide +kernel
theorem dX0_init_55 : decode cX0_init 55 = .ok (.newarray .int, 2) := by decide +kernel
theorem dX0_init_57 : decode cX0_init 57 = .ok (.putfield 30, 3) := by decide +kernel
theorem dX0_init_60 : decode cX0_init 60 = .ok (.aload_n 0, 1) := by decide +kernel
theorem dX0_init_61 : decode cX0_init 61 = .ok (.bipush 16, 2) := by decide +kernel
theorem dX0_init_63 : decode cX0_init 63 = .ok (.newarray .int, 2) := by decide +kernel
theorem dX0_init_65 : decode cX0_init 65 = .ok (.putfield 33, 3) := by decide +kernel
theorem dX0_init_68 : decode cX0_init 68 = .ok (.aload_n 0, 1) := by decide +kernel
theorem dX0_init_69 : decode cX0_init 69 = .ok (.bipush 64, 2) := by decide +kernel
theorem dX0_init_71 : decode cX0_init 71 = .ok (.newarray .int, 2) := by decide +kernel
theorem dX0_init_73 : decode cX0_init 73 = .ok (.putfield 36, 3) := by decide +kernel
theorem dX0_init_76 : decode cX0_init 76 = .ok (.aload_n 0, 1) := by decide +kernel
theorem dX0_init_77 : decode cX0_init 77 = .ok (.new 39, 3) := by decide +kernel
theorem dX0_init_80 : decode cX0_init 80 = .ok (.dup, 1) := by decide +kernel
theorem dX0_init_81 : decode cX0_init 81 = .ok (.bipush 16, 2) := by decide +kernel
theorem dX0_init_83 : decode cX0_init 83 = .ok (.invokespecial 41, 3) := by decide +kernel
theorem dX0_init_86 : decode cX0_init 86 = .ok (.putfield 44, 3) := by decide +kernel
theorem dX0_init_89 : decode cX0_init 89 = .ok (.return_, 1) := by decide +kernel
set_option maxRecDepth 20000 in
theorem ggX0_bitsOfAll_X4_size : GoodIn wsX0_bitsOfAll wsX4_size := goodIn_r _ [6, 7, 18, 19, 20] (by decide +kernel) (by decide +kernel)
set_option maxRecDepth 20000 in
theorem gX0_bitsOfAll_X4_size : GoodIn wsX0_bitsOfAll (wsV RX0 53 RX4 yX4_size wsX4_size) := goodIn_app (goodIn_of _ (by decide +kernel)) ggX0_bitsOfAll_X4_size
theorem dX0_bitsOfAll_0 : decode cX0_bitsOfAll 0 = .ok (.iconst 1, 1) := by decide +kernel
theorem dX0_bitsOfAll_1 : decode cX0_bitsOfAll 1 = .ok (.aload_n 0, 1) := by decide +kernel
theorem dX0_bitsOfAll_2 : decode cX0_bitsOfAll 2 = .ok (.getfield 48, 3) := by decide +kernel
theorem dX0_bitsOfAll_5 : decode cX0_bitsOfAll 5 = .ok (.invokevirtual 53, 3) := by decide +kernel
theorem dX0_bitsOfAll_8 : decode cX0_bitsOfAll 8 = .ok (.ishl, 1) := by decide +kernel
theorem dX0_bitsOfAll_9 : decode cX0_bitsOfAll 9 = .ok (.iconst 1, 1) := by decide +kernel
theorem dX0_bitsOfAll_10 : decode cX0_bitsOfAll 10 = .ok (.isub, 1) := by decide +kernel
theorem dX0_bitsOfAll_11 : decode cX0_bitsOfAll 11 = .ok (.ireturn, 1) := by decide +kernel
set_option maxRecDepth 20000 in
theorem ggX0_joinBy_X0_take : GoodIn wsX0_joinBy wsX0_take := goodIn_r _ [5, 6, 7, 8, 9, 10, 11, 12, 13, 14, 15, 16, 17, 18, 19, 20, 21, 22, 23, 24, 25, 26, 27, 28, 29, 30, 31, 53, 54, 55, 56, 57, 58, 59, 60, 61, 62, 63, 64, 65, 66, 67, 68, 69, 70, 71, 72, 73, 74, 75, 76, 77, 78, 79] (by decide +kernel) (by decide +kernel)
set_option maxRecDepth 20000 in
theorem gX0_joinBy_X0_take : GoodIn wsX0_joinBy (wsV RX0 57 RX0 yX0_take wsX0_take) := goodIn_app (goodIn_of _ (by decide +kernel)) ggX0_joinBy_X0_take
set_option maxRecDepth 20000 in
theorem ggX0_joinBy_X0_join : GoodIn wsX0_joinBy wsX0_join := goodIn_r _ [35, 36, 37, 11, 12, 14, 38, 39, 9, 40, 15, 7, 8, 10, 41, 42, 43, 44, 45, 46, 47, 4, 48, 13, 49, 50, 51, 52, 63, 64, 65, 66, 67, 68, 69, 70, 71, 72, 73, 74, 75, 76] (by decide +kernel) (by decide +kernel)
set_option maxRecDepth 20000 in
theorem gX0_joinBy_X0_join : GoodIn wsX0_joinBy (wsV RX0 61 RX0 yX0_join wsX0_join) := goodIn_app (goodIn_of _ (by decide +kernel)) ggX0_joinBy_X0_join
theorem dX0_joinBy_0 : decode cX0_joinBy 0 = .ok (.aload_n 0, 1) := by decide +kernel
theorem dX0_joinBy_1 : decode cX0_joinBy 1 = .ok (.aload_n 1, 1) := by decide +kernel
theorem dX0_joinBy_2 : decode cX0_joinBy 2 = .ok (.invokevirtual 57, 3) := by decide +kernel
theorem dX0_joinBy_5 : decode cX0_joinBy 5 = .ok (.aload_n 0, 1) := by decide +kernel
theorem dX0_joinBy_6 : decode cX0_joinBy 6 = .ok (.iload_n 2, 1) := by decide +kernel
theorem dX0_joinBy_7 : decode cX0_joinBy 7 = .ok (.invokevirtual 61, 3) := by decide +kernel
theorem dX0_joinBy_10 : decode cX0_joinBy 10 = .ok (.ireturn, 1) := by decide +kernel
set_option maxRecDepth 20000 in
theorem ggX0_joinBest_X0_leftOut : GoodIn wsX0_joinBest wsX0_leftOut := goodIn_r _ [5, 6, 7, 8, 9, 10, 11, 12, 13, 14, 15, 16, 17, 18, 19, 20, 21, 22, 23, 24, 25, 26, 27, 28, 29, 4, 30, 31, 32, 33, 34, 35, 36, 37, 38, 39, 40, 41, 42, 43, 44, 45, 46, 47, 48, 49, 50, 51, 52, 53, 54, 55, 56, 57, 58, 59, 60, 61, 62, 63, 64, 65, 66, 67, 68, 69, 70, 71, 72, 73, 74, 75, 76, 77, 78, 79, 80, 81, 82, 83, 84, 85, 86, 87, 88, 89, 90, 104, 105, 106, 107, 108, 109, 110, 111, 112, 113, 114, 115, 116, 117, 118, 119, 120, 121, 122, 123, 124, 125, 126, 127, 128, 129, 130] (by decide +kernel) (by decide +kernel)
set_option maxRecDepth 20000 in
theorem gX0_joinBest_X0_leftOut : GoodIn wsX0_joinBest (wsV RX0 65 RX0 yX0_leftOut wsX0_leftOut) := goodIn_app (goodIn_of _ (by decide +kernel)) ggX0_joinBest_X0_leftOut
set_option maxRecDepth 20000 in
theorem ggX0_joinBest_X0_bitsOfAll : GoodIn wsX0_joinBest wsX0_bitsOfAll := goodIn_r _ [47, 10, 40, 41, 42, 15, 43, 17, 104, 105, 106, 107, 108, 109, 110, 111, 112, 113, 128, 129, 130] (by decide +kernel) (by decide +kernel)
set_option maxRecDepth 20000 in
theorem gX0_joinBest_X0_bitsOfAll : GoodIn wsX0_joinBest (va_wsS RX0 69 yX0_bitsOfAll wsX0_bitsOfAll) := goodIn_app (goodIn_of _ (by decide +kernel)) ggX0_joinBest_X0_bitsOfAll
set_option maxRecDepth 20000 in
theorem ggX0_joinBest_X0_joinBy : GoodIn wsX0_joinBest wsX0_joinBy := goodIn_r _ [94, 27, 28, 29, 4, 30, 10, 31, 32, 33, 34, 35, 36, 37, 38, 39, 6, 40, 41, 42, 15, 43, 17, 44, 19, 20, 21, 22, 23, 24, 25, 26, 52, 53, 54, 55, 56, 57, 58, 59, 60, 61, 62, 63, 64, 65, 66, 67, 68, 69, 70, 71, 72, 104, 105, 106, 107, 108, 109, 110, 111, 112, 113, 114, 115, 116, 117, 118, 119, 120, 121, 122, 123, 124, 125, 126, 127, 128, 129, 130] (by decide +kernel) (by decide +kernel)
set_option maxRecDepth 20000 in
theorem gX0_joinBest_X0_joinBy : GoodIn wsX0_joinBest (wsV RX0 72 RX0 yX0_joinBy wsX0_joinBy) := goodIn_app (goodIn_of _ (by decide +kernel)) ggX0_joinBest_X0_joinBy
set_option maxRecDepth 20000 in
theorem ggX0_joinBest_X0_countCuts : GoodIn wsX0_joinBest wsX0_countCuts := goodIn_r _ [98, 99, 35, 37, 36, 58, 59, 33, 60, 61, 62, 63, 64, 100, 101, 102, 4, 103, 114, 115, 116, 117, 118, 119, 120, 121, 122, 123, 124, 125, 126, 127] (by decide +kernel) (by decide +kernel)
set_option maxRecDepth 20000 in
theorem gX0_joinBest_X0_countCuts : GoodIn wsX0_joinBest (wsV RX0 76 RX0 yX0_countCuts wsX0_countCuts) := goodIn_app (goodIn_of _ (by decide +kernel)) ggX0_joinBest_X0_countCuts
theorem dX0_joinBest_0 : decode cX0_joinBest 0 = .ok (.aload_n 0, 1) := by decide +kernel
theorem dX0_joinBest_1 : decode cX0_joinBest 1 = .ok (.aload_n 1, 1) := by decide +kernel
theorem dX0_joinBest_2 : decode cX0_joinBest 2 = .ok (.invokevirtual 65, 3) := by decide +kernel
theorem dX0_joinBest_5 : decode cX0_joinBest 5 = .ok (.istore_n 2, 1) := by decide +kernel
theorem dX0_joinBest_6 : decode cX0_joinBest 6 = .ok (.iload_n 2, 1) := by decide +kernel
theorem dX0_joinBest_7 : decode cX0_joinBest 7 = .ok (.bipush (-5), 2) := by decide +kernel
theorem dX0_joinBest_9 : decode cX0_joinBest 9 = .ok (.if_icmp .ne 5, 3) := by decide +kernel
theorem dX0_joinBest_12 : decode cX0_joinBest 12 = .ok (.iconst 0, 1) := by decide +kernel
theorem dX0_joinBest_13 : decode cX0_joinBest 13 = .ok (.ireturn, 1) := by decide +kernel
theorem dX0_joinBest_14 : decode cX0_joinBest 14 = .ok (.aload_n 1, 1) := by decide +kernel
theorem dX0_joinBest_15 : decode cX0_joinBest 15 = .ok (.invokestatic 69, 3) := by decide +kernel
theorem dX0_joinBest_18 : decode cX0_joinBest 18 = .ok (.iload_n 2, 1) := by decide +kernel
theorem dX0_joinBest_19 : decode cX0_joinBest 19 = .ok (.iconst (-1), 1) := by decide +kernel
theorem dX0_joinBest_20 : decode cX0_joinBest 20 = .ok (.ixor, 1) := by decide +kernel
theorem dX0_joinBest_21 : decode cX0_joinBest 21 = .ok (.iand, 1) := by decide +kernel
theorem dX0_joinBest_22 : decode cX0_joinBest 22 = .ok (.istore_n 3, 1) := by decide +kernel
theorem dX0_joinBest_23 : decode cX0_joinBest 23 = .ok (.aload_n 0, 1) := by decide +kernel
theorem dX0_joinBest_24 : decode cX0_joinBest 24 = .ok (.aload_n 1, 1) := by decide +kernel
theorem dX0_joinBest_25 : decode cX0_joinBest 25 = .ok (.iload_n 3, 1) := by decide +kernel
theorem dX0_joinBest_26 : decode cX0_joinBest 26 = .ok (.invokevirtual 72, 3) := by decide +kernel
theorem dX0_joinBest_29 : decode cX0_joinBest 29 = .ok (.istore 4, 2) := by decide +kernel
theorem dX0_joinBest_31 : decode cX0_joinBest 31 = .ok (.aload_n 0, 1) := by decide +kernel
theorem dX0_joinBest_32 : decode cX0_joinBest 32 = .ok (.iload_n 3, 1) := by decide +kernel
theorem dX0_joinBest_33 : decode cX0_joinBest 33 = .ok (.invokevirtual 76, 3) := by decide +kernel
theorem dX0_joinBest_36 : decode cX0_joinBest 36 = .ok (.iload 4, 2) := by decide +kernel
theorem dX0_joinBest_38 : decode cX0_joinBest 38 = .ok (.ireturn, 1) := by decide +kernel
theorem dX0_leastOf_0 : decode cX0_leastOf 0 = .ok (.iload_n 1, 1) := by decide +kernel
theorem dX0_leastOf_1 : decode cX0_leastOf 1 = .ok (.ifCond .lt 18, 3) := by decide +kernel
theorem dX0_leastOf_4 : decode cX0_leastOf 4 = .ok (.iload_n 1, 1) := by decide +kernel
theorem dX0_leastOf_5 : decode cX0_leastOf 5 = .ok (.bipush 8, 2) := by decide +kernel
theorem dX0_leastOf_7 : decode cX0_leastOf 7 = .ok (.if_icmp .ge 12, 3) := by decide +kernel
theorem dX0_leastOf_10 : decode cX0_leastOf 10 = .ok (.aload_n 0, 1) := by decide +kernel
theorem dX0_leastOf_11 : decode cX0_leastOf 11 = .ok (.getfield 11, 3) := by decide +kernel
theorem dX0_leastOf_14 : decode cX0_leastOf 14 = .ok (.iload_n 1, 1) := by decide +kernel
theorem dX0_leastOf_15 : decode cX0_leastOf 15 = .ok (.iaload, 1) := by decide +kernel
theorem dX0_leastOf_16 : decode cX0_leastOf 16 = .ok (.goto 4, 3) := by decide +kernel
theorem dX0_leastOf_19 : decode cX0_leastOf 19 = .ok (.iconst (-1), 1) := by decide +kernel
theorem dX0_leastOf_20 : decode cX0_leastOf 20 = .ok (.ireturn, 1) := by decide +kernel
theorem dX0_greatestOf_0 : decode cX0_greatestOf 0 = .ok (.iload_n 1, 1) := by decide +kernel
theorem dX0_greatestOf_1 : decode cX0_greatestOf 1 = .ok (.ifCond .lt 18, 3) := by decide +kernel
theorem dX0_greatestOf_4 : decode cX0_greatestOf 4 = .ok (.iload_n 1, 1) := by decide +kernel
theorem dX0_greatestOf_5 : decode cX0_greatestOf 5 = .ok (.bipush 8, 2) := by decide +kernel
theorem dX0_greatestOf_7 : decode cX0_greatestOf 7 = .ok (.if_icmp .ge 12, 3) := by decide +kernel
theorem dX0_greatestOf_10 : decode cX0_greatestOf 10 = .ok (.aload_n 0, 1) := by decide +kernel
theorem dX0_greatestOf_11 : decode cX0_greatestOf 11 = .ok (.getfield 15, 3) := by decide +kernel
theorem dX0_greatestOf_14 : decode cX0_greatestOf 14 = .ok (.iload_n 1, 1) := by decide +kernel
theorem dX0_greatestOf_15 : decode cX0_greatestOf 15 = .ok (.iaload, 1) := by decide +kernel
theorem dX0_greatestOf_16 : decode cX0_greatestOf 16 = .ok (.goto 4, 3) := by decide +kernel
theorem dX0_greatestOf_19 : decode cX0_greatestOf 19 = .ok (.iconst (-1), 1) := by decide +kernel
theorem dX0_greatestOf_20 : decode cX0_greatestOf 20 = .ok (.ireturn, 1) := by decide +kernel
set_option maxRecDepth 20000 in
theorem ggX0_leftOut_X4_isLike : GoodIn wsX0_leftOut wsX4_isLike := goodIn_r _ [11, 12, 13, 14, 15, 10, 16, 17, 18, 19, 20, 21, 111, 112, 113] (by decide +kernel) (by decide +kernel)
set_option maxRecDepth 20000 in
theorem gX0_leftOut_X4_isLike : GoodIn wsX0_leftOut (wsV RX0 89 RX4 yX4_isLike wsX4_isLike) := goodIn_app (goodIn_of _ (by decide +kernel)) ggX0_leftOut_X4_isLike
set_option maxRecDepth 20000 in
theorem ggX0_leftOut_X0_take : GoodIn wsX0_leftOut wsX0_take := goodIn_r _ [26, 5, 27, 28, 29, 30, 31, 32, 33, 34, 35, 1, 36, 37, 38, 10, 39, 12, 40, 14, 15, 16, 17, 18, 19, 20, 21, 87, 88, 89, 90, 91, 92, 93, 94, 95, 96, 97, 98, 99, 100, 101, 102, 103, 104, 105, 106, 107, 108, 109, 110, 111, 112, 113] (by decide +kernel) (by decide +kernel)
set_option maxRecDepth 20000 in
theorem gX0_leftOut_X0_take : GoodIn wsX0_leftOut (wsV RX0 57 RX0 yX0_take wsX0_take) := goodIn_app (goodIn_of _ (by decide +kernel)) ggX0_leftOut_X0_take
set_option maxRecDepth 20000 in
theorem ggX0_leftOut_X0_bitsOfAll : GoodIn wsX0_leftOut wsX0_bitsOfAll := goodIn_r _ [43, 5, 36, 37, 38, 10, 39, 12, 87, 88, 89, 90, 91, 92, 93, 94, 95, 96, 111, 112, 113] (by decide +kernel) (by decide +kernel)
set_option maxRecDepth 20000 in
theorem gX0_leftOut_X0_bitsOfAll : GoodIn wsX0_leftOut (va_wsS RX0 69 yX0_bitsOfAll wsX0_bitsOfAll) := goodIn_app (goodIn_of _ (by decide +kernel)) ggX0_leftOut_X0_bitsOfAll
set_option maxRecDepth 20000 in
theorem ggX0_leftOut_X0_seekLeftOut : GoodIn wsX0_leftOut wsX0_seekLeftOut := goodIn_r _ [47, 48, 49, 50, 25, 51, 52, 53, 31, 32, 34, 54, 55, 29, 56, 35, 27, 28, 30, 57, 58, 59, 60, 61, 62, 63, 64, 33, 65, 66, 67, 68, 69, 70, 71, 72, 73, 74, 75, 76, 97, 98, 99, 100, 101, 102, 103, 104, 105, 106, 107, 108, 109, 110] (by decide +kernel) (by decide +kernel)
set_option maxRecDepth 20000 in
theorem gX0_leftOut_X0_seekLeftOut : GoodIn wsX0_leftOut (wsV RX0 93 RX0 yX0_seekLeftOut wsX0_seekLeftOut) := goodIn_app (goodIn_of _ (by decide +kernel)) ggX0_leftOut_X0_seekLeftOut
set_option maxRecDepth 20000 in
theorem ggX0_leftOut_X4_copyFrom : GoodIn wsX0_leftOut wsX4_copyFrom := goodIn_r _ [80, 81, 12, 82, 28, 29, 30, 17, 83, 84, 85, 86, 111, 112, 113] (by decide +kernel) (by decide +kernel)
set_option maxRecDepth 20000 in
theorem gX0_leftOut_X4_copyFrom : GoodIn wsX0_leftOut (wsV RX0 100 RX4 yX4_copyFrom wsX4_copyFrom) := goodIn_app (goodIn_of _ (by decide +kernel)) ggX0_leftOut_X4_copyFrom
theorem dX0_leftOut_0 : decode cX0_leftOut 0 = .ok (.aload_n 1, 1) := by decide +kernel
theorem dX0_leftOut_1 : decode cX0_leftOut 1 = .ok (.getfield 79, 3) := by decide +kernel
theorem dX0_leftOut_4 : decode cX0_leftOut 4 = .ok (.iconst 4, 1) := by decide +kernel
theorem dX0_leftOut_5 : decode cX0_leftOut 5 = .ok (.iaload, 1) := by decide +kernel
theorem dX0_leftOut_6 : decode cX0_leftOut 6 = .ok (.istore_n 2, 1) := by decide +kernel
theorem dX0_leftOut_7 : decode cX0_leftOut 7 = .ok (.aload_n 1, 1) := by decide +kernel
theorem dX0_leftOut_8 : decode cX0_leftOut 8 = .ok (.getfield 79, 3) := by decide +kernel
theorem dX0_leftOut_11 : decode cX0_leftOut 11 = .ok (.iconst 5, 1) := by decide +kernel
theorem dX0_leftOut_12 : decode cX0_leftOut 12 = .ok (.iaload, 1) := by decide +kernel
theorem dX0_leftOut_13 : decode cX0_leftOut 13 = .ok (.istore_n 3, 1) := by decide +kernel
theorem dX0_leftOut_14 : decode cX0_leftOut 14 = .ok (.iload_n 2, 1) := by decide +kernel
theorem dX0_leftOut_15 : decode cX0_leftOut 15 = .ok (.aload_n 0, 1) := by decide +kernel
theorem dX0_leftOut_16 : decode cX0_leftOut 16 = .ok (.getfield 82, 3) := by decide +kernel
theorem dX0_leftOut_19 : decode cX0_leftOut 19 = .ok (.if_icmp .ne 25, 3) := by decide +kernel
theorem dX0_leftOut_22 : decode cX0_leftOut 22 = .ok (.iload_n 3, 1) := by decide +kernel
theorem dX0_leftOut_23 : decode cX0_leftOut 23 = .ok (.aload_n 0, 1) := by decide +kernel
theorem dX0_leftOut_24 : decode cX0_leftOut 24 = .ok (.getfield 86, 3) := by decide +kernel
theorem dX0_leftOut_27 : decode cX0_leftOut 27 = .ok (.if_icmp .ne 17, 3) := by decide +kernel
theorem dX0_leftOut_30 : decode cX0_leftOut 30 = .ok (.aload_n 0, 1) := by decide +kernel
theorem dX0_leftOut_31 : decode cX0_leftOut 31 = .ok (.getfield 44, 3) := by decide +kernel
theorem dX0_leftOut_34 : decode cX0_leftOut 34 = .ok (.aload_n 1, 1) := by decide +kernel
theorem dX0_leftOut_35 : decode cX0_leftOut 35 = .ok (.getfield 48, 3) := by decide +kernel
theorem dX0_leftOut_38 : decode cX0_leftOut 38 = .ok (.invokevirtual 89, 3) := by decide +kernel
theorem dX0_leftOut_41 : decode cX0_leftOut 41 = .ok (.ifCond .ne 41, 3) := by decide +kernel
theorem dX0_leftOut_44 : decode cX0_leftOut 44 = .ok (.aload_n 0, 1) := by decide +kernel
theorem dX0_leftOut_45 : decode cX0_leftOut 45 = .ok (.aload_n 1, 1) := by decide +kernel
theorem dX0_leftOut_46 : decode cX0_leftOut 46 = .ok (.invokevirtual 57, 3) := by decide +kernel
theorem dX0_leftOut_49 : decode cX0_leftOut 49 = .ok (.aload_n 0, 1) := by decide +kernel
theorem dX0_leftOut_50 : decode cX0_leftOut 50 = .ok (.aload_n 0, 1) := by decide +kernel
theorem dX0_leftOut_51 : decode cX0_leftOut 51 = .ok (.aload_n 1, 1) := by decide +kernel
theorem dX0_leftOut_52 : decode cX0_leftOut 52 = .ok (.invokestatic 69, 3) := by decide +kernel
theorem dX0_leftOut_55 : decode cX0_leftOut 55 = .ok (.invokevirtual 93, 3) := by decide +kernel
theorem dX0_leftOut_58 : decode cX0_leftOut 58 = .ok (.putfield 97, 3) := by decide +kernel
theorem dX0_leftOut_61 : decode cX0_leftOut 61 = .ok (.aload_n 0, 1) := by decide +kernel
theorem dX0_leftOut_62 : decode cX0_leftOut 62 = .ok (.getfield 44, 3) := by decide +kernel
theorem dX0_leftOut_65 : decode cX0_leftOut 65 = .ok (.aload_n 1, 1) := by decide +kernel
theorem dX0_leftOut_66 : decode cX0_leftOut 66 = .ok (.getfield 48, 3) := by decide +kernel
theorem dX0_leftOut_69 : decode cX0_leftOut 69 = .ok (.invokevirtual 100, 3) := by decide +kernel
theorem dX0_leftOut_72 : decode cX0_leftOut 72 = .ok (.aload_n 0, 1) := by decide +kernel
theorem dX0_leftOut_73 : decode cX0_leftOut 73 = .ok (.iload_n 2, 1) := by decide +kernel
theorem dX0_leftOut_74 : decode cX0_leftOut 74 = .ok (.putfield 82, 3) := by decide +kernel
theorem dX0_leftOut_77 : decode cX0_leftOut 77 = .ok (.aload_n 0, 1) := by decide +kernel
theorem dX0_leftOut_78 : decode cX0_leftOut 78 = .ok (.iload_n 3, 1) := by decide +kernel
theorem dX0_leftOut_79 : decode cX0_leftOut 79 = .ok (.putfield 86, 3) := by decide +kernel
theorem dX0_leftOut_82 : decode cX0_leftOut 82 = .ok (.aload_n 0, 1) := by decide +kernel
theorem dX0_leftOut_83 : decode cX0_leftOut 83 = .ok (.getfield 97, 3) := by decide +kernel
theorem dX0_leftOut_86 : decode cX0_leftOut 86 = .ok (.ireturn, 1) := by decide +kernel
set_option maxRecDepth 20000 in
theorem ggX0_isYounger_X0_cuts : GoodIn wsX0_isYounger wsX0_cuts := goodIn_r _ [5, 6, 17, 18, 19, 20, 21, 22, 23, 24, 25, 26, 27, 28, 29, 30] (by decide +kernel) (by decide +kernel)
set_option maxRecDepth 20000 in
theorem gX0_isYounger_X0_cuts : GoodIn wsX0_isYounger (wsV RX0 104 RX0 yX0_cuts wsX0_cuts) := goodIn_app (goodIn_of _ (by decide +kernel)) ggX0_isYounger_X0_cuts
set_option maxRecDepth 20000 in
theorem ggX0_isYounger_X0_greatestOf : GoodIn wsX0_isYounger wsX0_greatestOf := goodIn_r _ [10, 11, 17, 18, 19, 20, 21, 22, 23, 24, 25, 26, 27, 28, 29, 30] (by decide +kernel) (by decide +kernel)
set_option maxRecDepth 20000 in
theorem gX0_isYounger_X0_greatestOf : GoodIn wsX0_isYounger (wsV RX0 108 RX0 yX0_greatestOf wsX0_greatestOf) := goodIn_app (goodIn_of _ (by decide +kernel)) ggX0_isYounger_X0_greatestOf
set_option maxRecDepth 20000 in
theorem ggX0_isYounger_X0_leastOf : GoodIn wsX0_isYounger wsX0_leastOf := goodIn_r _ [15, 16, 17, 18, 19, 20, 21, 22, 23, 24, 25, 26, 27, 28, 29, 30] (by decide +kernel) (by decide +kernel)
set_option maxRecDepth 20000 in
theorem gX0_isYounger_X0_leastOf : GoodIn wsX0_isYounger (wsV RX0 111 RX0 yX0_leastOf wsX0_leastOf) := goodIn_app (goodIn_of _ (by decide +kernel)) ggX0_isYounger_X0_leastOf
theorem dX0_isYounger_0 : decode cX0_isYounger 0 = .ok (.aload_n 0, 1) := by decide +kernel
theorem dX0_isYounger_1 : decode cX0_isYounger 1 = .ok (.iload_n 1, 1) := by decide +kernel
theorem dX0_isYounger_2 : decode cX0_isYounger 2 = .ok (.iload_n 2, 1) := by decide +kernel
theorem dX0_isYounger_3 : decode cX0_isYounger 3 = .ok (.invokevirtual 104, 3) := by decide +kernel
theorem dX0_isYounger_6 : decode cX0_isYounger 6 = .ok (.ifCond .gt 16, 3) := by decide +kernel
theorem dX0_isYounger_9 : decode cX0_isYounger 9 = .ok (.aload_n 0, 1) := by decide +kernel
theorem dX0_isYounger_10 : decode cX0_isYounger 10 = .ok (.iload_n 1, 1) := by decide +kernel
theorem dX0_isYounger_11 : decode cX0_isYounger 11 = .ok (.invokevirtual 108, 3) := by decide +kernel
theorem dX0_isYounger_14 : decode cX0_isYounger 14 = .ok (.aload_n 0, 1) := by decide +kernel
theorem dX0_isYounger_15 : decode cX0_isYounger 15 = .ok (.iload_n 2, 1) := by decide +kernel
theorem dX0_isYounger_16 : decode cX0_isYounger 16 = .ok (.invokevirtual 111, 3) := by decide +kernel
theorem dX0_isYounger_19 : decode cX0_isYounger 19 = .ok (.if_icmp .ge 7, 3) := by decide +kernel
theorem dX0_isYounger_22 : decode cX0_isYounger 22 = .ok (.iconst 1, 1) := by decide +kernel
theorem dX0_isYounger_23 : decode cX0_isYounger 23 = .ok (.goto 4, 3) := by decide +kernel
theorem dX0_isYounger_26 : decode cX0_isYounger 26 = .ok (.iconst 0, 1) := by decide +kernel
theorem dX0_isYounger_27 : decode cX0_isYounger 27 = .ok (.ireturn, 1) := by decide +kernel
set_option maxRecDepth 20000 in
theorem ggX0_ridgeToCore_X0_leastOf : GoodIn wsX0_ridgeToCore wsX0_leastOf := goodIn_r _ [9, 10, 28, 29, 30, 31, 32, 33, 34, 35, 36, 37, 38, 39, 40, 41] (by decide +kernel) (by decide +kernel)
set_option maxRecDepth 20000 in
theorem gX0_ridgeToCore_X0_leastOf : GoodIn wsX0_ridgeToCore (wsV RX0 111 RX0 yX0_leastOf wsX0_leastOf) := goodIn_app (goodIn_of _ (by decide +kernel)) ggX0_ridgeToCore_X0_leastOf
set_option maxRecDepth 20000 in
theorem ggX0_ridgeToCore_X0_greatestOf : GoodIn wsX0_ridgeToCore wsX0_greatestOf := goodIn_r _ [14, 15, 28, 29, 30, 31, 32, 33, 34, 35, 36, 37, 38, 39, 40, 41] (by decide +kernel) (by decide +kernel)
set_option maxRecDepth 20000 in
theorem gX0_ridgeToCore_X0_greatestOf : GoodIn wsX0_ridgeToCore (wsV RX0 108 RX0 yX0_greatestOf wsX0_greatestOf) := goodIn_app (goodIn_of _ (by decide +kernel)) ggX0_ridgeToCore_X0_greatestOf
set_option maxRecDepth 20000 in
theorem ggX0_ridgeToCore_X0_spansIfKnown : GoodIn wsX0_ridgeToCore wsX0_spansIfKnown := goodIn_r _ [19, 1, 2, 3, 4, 20, 21, 22, 5, 6, 7, 8, 9, 10, 11, 12, 13, 14, 15, 23, 24, 25, 26, 27, 28, 29, 30, 31, 32, 33, 34, 35, 36, 37, 38, 39, 40, 41] (by decide +kernel) (by decide +kernel)
set_option maxRecDepth 20000 in
theorem gX0_ridgeToCore_X0_spansIfKnown : GoodIn wsX0_ridgeToCore (wsV RX0 114 RX0 yX0_spansIfKnown wsX0_spansIfKnown) := goodIn_app (goodIn_of _ (by decide +kernel)) ggX0_ridgeToCore_X0_spansIfKnown
theorem dX0_ridgeToCore_0 : decode cX0_ridgeToCore 0 = .ok (.iconst (-1), 1) := by decide +kernel
theorem dX0_ridgeToCore_1 : decode cX0_ridgeToCore 1 = .ok (.istore_n 2, 1) := by decide +kernel
theorem dX0_ridgeToCore_2 : decode cX0_ridgeToCore 2 = .ok (.iconst 0, 1) := by decide +kernel
theorem dX0_ridgeToCore_3 : decode cX0_ridgeToCore 3 = .ok (.istore_n 3, 1) := by decide +kernel
theorem dX0_ridgeToCore_4 : decode cX0_ridgeToCore 4 = .ok (.iconst 0, 1) := by decide +kernel
theorem dX0_ridgeToCore_5 : decode cX0_ridgeToCore 5 = .ok (.istore 4, 2) := by decide +kernel
theorem dX0_ridgeToCore_7 : decode cX0_ridgeToCore 7 = .ok (.iload 4, 2) := by decide +kernel
theorem dX0_ridgeToCore_9 : decode cX0_ridgeToCore 9 = .ok (.iload_n 1, 1) := by decide +kernel
theorem dX0_ridgeToCore_10 : decode cX0_ridgeToCore 10 = .ok (.if_icmp .ge 70, 3) := by decide +kernel
theorem dX0_ridgeToCore_13 : decode cX0_ridgeToCore 13 = .ok (.iconst 0, 1) := by decide +kernel
theorem dX0_ridgeToCore_14 : decode cX0_ridgeToCore 14 = .ok (.istore 5, 2) := by decide +kernel
theorem dX0_ridgeToCore_16 : decode cX0_ridgeToCore 16 = .ok (.aload_n 0, 1) := by decide +kernel
theorem dX0_ridgeToCore_17 : decode cX0_ridgeToCore 17 = .ok (.iload 4, 2) := by decide +kernel
theorem dX0_ridgeToCore_19 : decode cX0_ridgeToCore 19 = .ok (.invokevirtual 111, 3) := by decide +kernel
theorem dX0_ridgeToCore_22 : decode cX0_ridgeToCore 22 = .ok (.istore 6, 2) := by decide +kernel
theorem dX0_ridgeToCore_24 : decode cX0_ridgeToCore 24 = .ok (.iload 6, 2) := by decide +kernel
theorem dX0_ridgeToCore_26 : decode cX0_ridgeToCore 26 = .ok (.aload_n 0, 1) := by decide +kernel
theorem dX0_ridgeToCore_27 : decode cX0_ridgeToCore 27 = .ok (.iload 4, 2) := by decide +kernel
theorem dX0_ridgeToCore_29 : decode cX0_ridgeToCore 29 = .ok (.invokevirtual 108, 3) := by decide +kernel
theorem dX0_ridgeToCore_32 : decode cX0_ridgeToCore 32 = .ok (.if_icmp .gt 25, 3) := by decide +kernel
theorem dX0_ridgeToCore_35 : decode cX0_ridgeToCore 35 = .ok (.iload 5, 2) := by decide +kernel
theorem dX0_ridgeToCore_37 : decode cX0_ridgeToCore 37 = .ok (.aload_n 0, 1) := by decide +kernel
theorem dX0_ridgeToCore_38 : decode cX0_ridgeToCore 38 = .ok (.iload_n 1, 1) := by decide +kernel
theorem dX0_ridgeToCore_39 : decode cX0_ridgeToCore 39 = .ok (.iload 4, 2) := by decide +kernel
theorem dX0_ridgeToCore_41 : decode cX0_ridgeToCore 41 = .ok (.iload 6, 2) := by decide +kernel
theorem dX0_ridgeToCore_43 : decode cX0_ridgeToCore 43 = .ok (.invokevirtual 114, 3) := by decide +kernel
theorem dX0_ridgeToCore_46 : decode cX0_ridgeToCore 46 = .ok (.invokestatic 118, 3) := by decide +kernel
theorem dX0_ridgeToCore_49 : decode cX0_ridgeToCore 49 = .ok (.istore 5, 2) := by decide +kernel
theorem dX0_ridgeToCore_51 : decode cX0_ridgeToCore 51 = .ok (.iinc 6 1, 3) := by decide +kernel
theorem dX0_ridgeToCore_54 : decode cX0_ridgeToCore 54 = .ok (.goto (-30), 3) := by decide +kernel
theorem dX0_ridgeToCore_57 : decode cX0_ridgeToCore 57 = .ok (.iload_n 2, 1) := by decide +kernel
theorem dX0_ridgeToCore_58 : decode cX0_ridgeToCore 58 = .ok (.iconst (-1), 1) := by decide +kernel
theorem dX0_ridgeToCore_59 : decode cX0_ridgeToCore 59 = .ok (.if_icmp .eq 9, 3) := by decide +kernel
theorem dX0_ridgeToCore_62 : decode cX0_ridgeToCore 62 = .ok (.iload 5, 2) := by decide +kernel
theorem dX0_ridgeToCore_64 : decode cX0_ridgeToCore 64 = .ok (.iload_n 3, 1) := by decide +kernel
theorem dX0_ridgeToCore_65 : decode cX0_ridgeToCore 65 = .ok (.if_icmp .ge 9, 3) := by decide +kernel
theorem dX0_ridgeToCore_68 : decode cX0_ridgeToCore 68 = .ok (.iload 4, 2) := by decide +kernel
theorem dX0_ridgeToCore_70 : decode cX0_ridgeToCore 70 = .ok (.istore_n 2, 1) := by decide +kernel
theorem dX0_ridgeToCore_71 : decode cX0_ridgeToCore 71 = .ok (.iload 5, 2) := by decide +kernel
theorem dX0_ridgeToCore_73 : decode cX0_ridgeToCore 73 = .ok (.istore_n 3, 1) := by decide +kernel
theorem dX0_ridgeToCore_74 : decode cX0_ridgeToCore 74 = .ok (.iinc 4 1, 3) := by decide +kernel
theorem dX0_ridgeToCore_77 : decode cX0_ridgeToCore 77 = .ok (.goto (-70), 3) := by decide +kernel
theorem dX0_ridgeToCore_80 : decode cX0_ridgeToCore 80 = .ok (.iload_n 2, 1) := by decide +kernel
theorem dX0_ridgeToCore_81 : decode cX0_ridgeToCore 81 = .ok (.ireturn, 1) := by decide +kernel
set_option maxRecDepth 20000 in
theorem ggX0_firstParted_X0_bitsOfScholar : GoodIn wsX0_firstParted wsX0_bitsOfScholar := goodIn_r _ [17, 18, 19, 20, 21, 22, 23, 24, 25, 26, 27, 28, 29, 30, 31, 32, 33, 81, 82, 83, 84, 85, 86, 87, 88, 89, 90, 91, 92, 93] (by decide +kernel) (by decide +kernel)
set_option maxRecDepth 20000 in
theorem gX0_firstParted_X0_bitsOfScholar : GoodIn wsX0_firstParted (va_wsS RX0 123 yX0_bitsOfScholar wsX0_bitsOfScholar) := goodIn_app (goodIn_of _ (by decide +kernel)) ggX0_firstParted_X0_bitsOfScholar
set_option maxRecDepth 20000 in
theorem ggX0_firstParted_X0_joinBy : GoodIn wsX0_firstParted wsX0_joinBy := goodIn_r _ [37, 38, 39, 40, 16, 41, 18, 10, 11, 12, 13, 42, 43, 44, 45, 46, 47, 19, 20, 21, 22, 23, 24, 25, 26, 27, 28, 29, 30, 31, 32, 33, 48, 49, 50, 51, 1, 7, 52, 53, 54, 55, 56, 57, 58, 59, 60, 61, 62, 63, 64, 65, 66, 81, 82, 83, 84, 85, 86, 87, 88, 89, 90, 67, 68, 69, 70, 71, 72, 73, 74, 75, 76, 77, 78, 79, 80, 91, 92, 93] (by decide +kernel) (by decide +kernel)
set_option maxRecDepth 20000 in
theorem gX0_firstParted_X0_joinBy : GoodIn wsX0_firstParted (wsV RX0 72 RX0 yX0_joinBy wsX0_joinBy) := goodIn_app (goodIn_of _ (by decide +kernel)) ggX0_firstParted_X0_joinBy
theorem dX0_firstParted_0 : decode cX0_firstParted 0 = .ok (.aload_n 0, 1) := by decide +kernel
theorem dX0_firstParted_1 : decode cX0_firstParted 1 = .ok (.aload_n 1, 1) := by decide +kernel
theorem dX0_firstParted_2 : decode cX0_firstParted 2 = .ok (.aload_n 1, 1) := by decide +kernel
theorem dX0_firstParted_3 : decode cX0_firstParted 3 = .ok (.iconst 0, 1) := by decide +kernel
theorem dX0_firstParted_4 : decode cX0_firstParted 4 = .ok (.invokestatic 123, 3) := by decide +kernel
theorem dX0_firstParted_7 : decode cX0_firstParted 7 = .ok (.invokevirtual 72, 3) := by decide +kernel
theorem dX0_firstParted_10 : decode cX0_firstParted 10 = .ok (.ifCond .ne 6, 3) := by decide +kernel
theorem dX0_firstParted_13 : decode cX0_firstParted 13 = .ok (.bipush (-5), 2) := by decide +kernel
theorem dX0_firstParted_15 : decode cX0_firstParted 15 = .ok (.ireturn, 1) := by decide +kernel
theorem dX0_firstParted_16 : decode cX0_firstParted 16 = .ok (.aload_n 0, 1) := by decide +kernel
theorem dX0_firstParted_17 : decode cX0_firstParted 17 = .ok (.getfield 11, 3) := by decide +kernel
theorem dX0_firstParted_20 : decode cX0_firstParted 20 = .ok (.iconst 0, 1) := by decide +kernel
theorem dX0_firstParted_21 : decode cX0_firstParted 21 = .ok (.aload_n 0, 1) := by decide +kernel
theorem dX0_firstParted_22 : decode cX0_firstParted 22 = .ok (.getfield 18, 3) := by decide +kernel
theorem dX0_firstParted_25 : decode cX0_firstParted 25 = .ok (.iconst 0, 1) := by decide +kernel
theorem dX0_firstParted_26 : decode cX0_firstParted 26 = .ok (.bipush 8, 2) := by decide +kernel
theorem dX0_firstParted_28 : decode cX0_firstParted 28 = .ok (.invokestatic 127, 3) := by decide +kernel
theorem dX0_firstParted_31 : decode cX0_firstParted 31 = .ok (.aload_n 0, 1) := by decide +kernel
theorem dX0_firstParted_32 : decode cX0_firstParted 32 = .ok (.getfield 15, 3) := by decide +kernel
theorem dX0_firstParted_35 : decode cX0_firstParted 35 = .ok (.iconst 0, 1) := by decide +kernel
theorem dX0_firstParted_36 : decode cX0_firstParted 36 = .ok (.aload_n 0, 1) := by decide +kernel
theorem dX0_firstParted_37 : decode cX0_firstParted 37 = .ok (.getfield 21, 3) := by decide +kernel
theorem dX0_firstParted_40 : decode cX0_firstParted 40 = .ok (.iconst 0, 1) := by decide +kernel
theorem dX0_firstParted_41 : decode cX0_firstParted 41 = .ok (.bipush 8, 2) := by decide +kernel
theorem dX0_firstParted_43 : decode cX0_firstParted 43 = .ok (.invokestatic 127, 3) := by decide +kernel
theorem dX0_firstParted_46 : decode cX0_firstParted 46 = .ok (.aload_n 0, 1) := by decide +kernel
theorem dX0_firstParted_47 : decode cX0_firstParted 47 = .ok (.aload_n 1, 1) := by decide +kernel
theorem dX0_firstParted_48 : decode cX0_firstParted 48 = .ok (.aload_n 1, 1) := by decide +kernel
theorem dX0_firstParted_49 : decode cX0_firstParted 49 = .ok (.iconst 1, 1) := by decide +kernel
theorem dX0_firstParted_50 : decode cX0_firstParted 50 = .ok (.invokestatic 123, 3) := by decide +kernel
theorem dX0_firstParted_53 : decode cX0_firstParted 53 = .ok (.invokevirtual 72, 3) := by decide +kernel
theorem dX0_firstParted_56 : decode cX0_firstParted 56 = .ok (.ifCond .ne 6, 3) := by decide +kernel
theorem dX0_firstParted_59 : decode cX0_firstParted 59 = .ok (.bipush (-5), 2) := by decide +kernel
theorem dX0_firstParted_61 : decode cX0_firstParted 61 = .ok (.ireturn, 1) := by decide +kernel
theorem dX0_firstParted_62 : decode cX0_firstParted 62 = .ok (.aload_n 1, 1) := by decide +kernel
theorem dX0_firstParted_63 : decode cX0_firstParted 63 = .ok (.getfield 133, 3) := by decide +kernel
theorem dX0_firstParted_66 : decode cX0_firstParted 66 = .ok (.bipush 8, 2) := by decide +kernel
theorem dX0_firstParted_68 : decode cX0_firstParted 68 = .ok (.invokestatic 136, 3) := by decide +kernel
theorem dX0_firstParted_71 : decode cX0_firstParted 71 = .ok (.istore_n 2, 1) := by decide +kernel
theorem dX0_firstParted_72 : decode cX0_firstParted 72 = .ok (.iconst 0, 1) := by decide +kernel
theorem dX0_firstParted_73 : decode cX0_firstParted 73 = .ok (.istore_n 3, 1) := by decide +kernel
theorem dX0_firstParted_74 : decode cX0_firstParted 74 = .ok (.iload_n 3, 1) := by decide +kernel
theorem dX0_firstParted_75 : decode cX0_firstParted 75 = .ok (.iload_n 2, 1) := by decide +kernel
theorem dX0_firstParted_76 : decode cX0_firstParted 76 = .ok (.if_icmp .ge 41, 3) := by decide +kernel
theorem dX0_firstParted_79 : decode cX0_firstParted 79 = .ok (.aload_n 0, 1) := by decide +kernel
theorem dX0_firstParted_80 : decode cX0_firstParted 80 = .ok (.getfield 21, 3) := by decide +kernel
theorem dX0_firstParted_83 : decode cX0_firstParted 83 = .ok (.iload_n 3, 1) := by decide +kernel
theorem dX0_firstParted_84 : decode cX0_firstParted 84 = .ok (.iaload, 1) := by decide +kernel
theorem dX0_firstParted_85 : decode cX0_firstParted 85 = .ok (.aload_n 0, 1) := by decide +kernel
theorem dX0_firstParted_86 : decode cX0_firstParted 86 = .ok (.getfield 11, 3) := by decide +kernel
theorem dX0_firstParted_89 : decode cX0_firstParted 89 = .ok (.iload_n 3, 1) := by decide +kernel
theorem dX0_firstParted_90 : decode cX0_firstParted 90 = .ok (.iaload, 1) := by decide +kernel
theorem dX0_firstParted_91 : decode cX0_firstParted 91 = .ok (.if_icmp .lt 18, 3) := by decide +kernel
theorem dX0_firstParted_94 : decode cX0_firstParted 94 = .ok (.aload_n 0, 1) := by decide +kernel
theorem dX0_firstParted_95 : decode cX0_firstParted 95 = .ok (.getfield 15, 3) := by decide +kernel
theorem dX0_firstParted_98 : decode cX0_firstParted 98 = .ok (.iload_n 3, 1) := by decide +kernel
theorem dX0_firstParted_99 : decode cX0_firstParted 99 = .ok (.iaload, 1) := by decide +kernel
theorem dX0_firstParted_100 : decode cX0_firstParted 100 = .ok (.aload_n 0, 1) := by decide +kernel
theorem dX0_firstParted_101 : decode cX0_firstParted 101 = .ok (.getfield 18, 3) := by decide +kernel
theorem dX0_firstParted_104 : decode cX0_firstParted 104 = .ok (.iload_n 3, 1) := by decide +kernel
theorem dX0_firstParted_105 : decode cX0_firstParted 105 = .ok (.iaload, 1) := by decide +kernel
theorem dX0_firstParted_106 : decode cX0_firstParted 106 = .ok (.if_icmp .ge 5, 3) := by decide +kernel
theorem dX0_firstParted_109 : decode cX0_firstParted 109 = .ok (.iload_n 3, 1) := by decide +kernel
theorem dX0_firstParted_110 : decode cX0_firstParted 110 = .ok (.ireturn, 1) := by decide +kernel
theorem dX0_firstParted_111 : decode cX0_firstParted 111 = .ok (.iinc 3 1, 3) := by decide +kernel
theorem dX0_firstParted_114 : decode cX0_firstParted 114 = .ok (.goto (-40), 3) := by decide +kernel
theorem dX0_firstParted_117 : decode cX0_firstParted 117 = .ok (.iconst (-1), 1) := by decide +kernel
theorem dX0_firstParted_118 : decode cX0_firstParted 118 = .ok (.ireturn, 1) := by decide +kernel
set_option maxRecDepth 20000 in
theorem ggX0_bitsOfScholar_X4_size : GoodIn wsX0_bitsOfScholar wsX4_size := goodIn_r _ [6, 7, 27, 28, 29] (by decide +kernel) (by decide +kernel)
set_option maxRecDepth 20000 in
theorem gX0_bitsOfScholar_X4_size : GoodIn wsX0_bitsOfScholar (wsV RX0 53 RX4 yX4_size wsX4_size) := goodIn_app (goodIn_of _ (by decide +kernel)) ggX0_bitsOfScholar_X4_size
set_option maxRecDepth 20000 in
theorem ggX0_bitsOfScholar_X4_cell : GoodIn wsX0_bitsOfScholar wsX4_cell := goodIn_r _ [11, 12, 13, 14, 15, 5, 16, 7, 27, 28, 29] (by decide +kernel) (by decide +kernel)
set_option maxRecDepth 20000 in
theorem gX0_bitsOfScholar_X4_cell : GoodIn wsX0_bitsOfScholar (wsV RX0 139 RX4 yX4_cell wsX4_cell) := goodIn_app (goodIn_of _ (by decide +kernel)) ggX0_bitsOfScholar_X4_cell
theorem dX0_bitsOfScholar_0 : decode cX0_bitsOfScholar 0 = .ok (.iconst 0, 1) := by decide +kernel
theorem dX0_bitsOfScholar_1 : decode cX0_bitsOfScholar 1 = .ok (.istore_n 2, 1) := by decide +kernel
theorem dX0_bitsOfScholar_2 : decode cX0_bitsOfScholar 2 = .ok (.iconst 0, 1) := by decide +kernel
theorem dX0_bitsOfScholar_3 : decode cX0_bitsOfScholar 3 = .ok (.istore_n 3, 1) := by decide +kernel
theorem dX0_bitsOfScholar_4 : decode cX0_bitsOfScholar 4 = .ok (.iload_n 3, 1) := by decide +kernel
theorem dX0_bitsOfScholar_5 : decode cX0_bitsOfScholar 5 = .ok (.aload_n 0, 1) := by decide +kernel
theorem dX0_bitsOfScholar_6 : decode cX0_bitsOfScholar 6 = .ok (.getfield 48, 3) := by decide +kernel
theorem dX0_bitsOfScholar_9 : decode cX0_bitsOfScholar 9 = .ok (.invokevirtual 53, 3) := by decide +kernel
theorem dX0_bitsOfScholar_12 : decode cX0_bitsOfScholar 12 = .ok (.if_icmp .ge 28, 3) := by decide +kernel
theorem dX0_bitsOfScholar_15 : decode cX0_bitsOfScholar 15 = .ok (.aload_n 0, 1) := by decide +kernel
theorem dX0_bitsOfScholar_16 : decode cX0_bitsOfScholar 16 = .ok (.getfield 48, 3) := by decide +kernel
theorem dX0_bitsOfScholar_19 : decode cX0_bitsOfScholar 19 = .ok (.iload_n 3, 1) := by decide +kernel
theorem dX0_bitsOfScholar_20 : decode cX0_bitsOfScholar 20 = .ok (.iconst 0, 1) := by decide +kernel
theorem dX0_bitsOfScholar_21 : decode cX0_bitsOfScholar 21 = .ok (.invokevirtual 139, 3) := by decide +kernel
theorem dX0_bitsOfScholar_24 : decode cX0_bitsOfScholar 24 = .ok (.iload_n 1, 1) := by decide +kernel
theorem dX0_bitsOfScholar_25 : decode cX0_bitsOfScholar 25 = .ok (.if_icmp .ne 9, 3) := by decide +kernel
theorem dX0_bitsOfScholar_28 : decode cX0_bitsOfScholar 28 = .ok (.iload_n 2, 1) := by decide +kernel
theorem dX0_bitsOfScholar_29 : decode cX0_bitsOfScholar 29 = .ok (.iconst 1, 1) := by decide +kernel
theorem dX0_bitsOfScholar_30 : decode cX0_bitsOfScholar 30 = .ok (.iload_n 3, 1) := by decide +kernel
theorem dX0_bitsOfScholar_31 : decode cX0_bitsOfScholar 31 = .ok (.ishl, 1) := by decide +kernel
theorem dX0_bitsOfScholar_32 : decode cX0_bitsOfScholar 32 = .ok (.ior, 1) := by decide +kernel
theorem dX0_bitsOfScholar_33 : decode cX0_bitsOfScholar 33 = .ok (.istore_n 2, 1) := by decide +kernel
theorem dX0_bitsOfScholar_34 : decode cX0_bitsOfScholar 34 = .ok (.iinc 3 1, 3) := by decide +kernel
theorem dX0_bitsOfScholar_37 : decode cX0_bitsOfScholar 37 = .ok (.goto (-33), 3) := by decide +kernel
theorem dX0_bitsOfScholar_40 : decode cX0_bitsOfScholar 40 = .ok (.iload_n 2, 1) := by decide +kernel
theorem dX0_bitsOfScholar_41 : decode cX0_bitsOfScholar 41 = .ok (.ireturn, 1) := by decide +kernel
set_option maxRecDepth 20000 in
theorem ggX0_take_X4_size : GoodIn wsX0_take wsX4_size := goodIn_r _ [16, 17, 51, 52, 53] (by decide +kernel) (by decide +kernel)
set_option maxRecDepth 20000 in
theorem gX0_take_X4_size : GoodIn wsX0_take (wsV RX0 53 RX4 yX4_size wsX4_size) := goodIn_app (goodIn_of _ (by decide +kernel)) ggX0_take_X4_size
set_option maxRecDepth 20000 in
theorem ggX0_take_X4_cell : GoodIn wsX0_take wsX4_cell := goodIn_r _ [21, 22, 23, 24, 25, 15, 26, 17, 51, 52, 53] (by decide +kernel) (by decide +kernel)
set_option maxRecDepth 20000 in
theorem gX0_take_X4_cell : GoodIn wsX0_take (wsV RX0 139 RX4 yX4_cell wsX4_cell) := goodIn_app (goodIn_of _ (by decide +kernel)) ggX0_take_X4_cell
theorem dX0_take_0 : decode cX0_take 0 = .ok (.aload_n 0, 1) := by decide +kernel
theorem dX0_take_1 : decode cX0_take 1 = .ok (.bipush 16, 2) := by decide +kernel
theorem dX0_take_3 : decode cX0_take 3 = .ok (.aload_n 1, 1) := by decide +kernel
theorem dX0_take_4 : decode cX0_take 4 = .ok (.getfield 48, 3) := by decide +kernel
theorem dX0_take_7 : decode cX0_take 7 = .ok (.invokevirtual 53, 3) := by decide +kernel
theorem dX0_take_10 : decode cX0_take 10 = .ok (.invokestatic 136, 3) := by decide +kernel
theorem dX0_take_13 : decode cX0_take 13 = .ok (.putfield 142, 3) := by decide +kernel
theorem dX0_take_16 : decode cX0_take 16 = .ok (.iconst 0, 1) := by decide +kernel
theorem dX0_take_17 : decode cX0_take 17 = .ok (.istore_n 2, 1) := by decide +kernel
theorem dX0_take_18 : decode cX0_take 18 = .ok (.iload_n 2, 1) := by decide +kernel
theorem dX0_take_19 : decode cX0_take 19 = .ok (.aload_n 0, 1) := by decide +kernel
theorem dX0_take_20 : decode cX0_take 20 = .ok (.getfield 142, 3) := by decide +kernel
theorem dX0_take_23 : decode cX0_take 23 = .ok (.if_icmp .ge 169, 3) := by decide +kernel
theorem dX0_take_26 : decode cX0_take 26 = .ok (.aload_n 1, 1) := by decide +kernel
theorem dX0_take_27 : decode cX0_take 27 = .ok (.getfield 48, 3) := by decide +kernel
theorem dX0_take_30 : decode cX0_take 30 = .ok (.iload_n 2, 1) := by decide +kernel
theorem dX0_take_31 : decode cX0_take 31 = .ok (.iconst 1, 1) := by decide +kernel
theorem dX0_take_32 : decode cX0_take 32 = .ok (.invokevirtual 139, 3) := by decide +kernel
theorem dX0_take_35 : decode cX0_take 35 = .ok (.istore_n 3, 1) := by decide +kernel
theorem dX0_take_36 : decode cX0_take 36 = .ok (.aload_n 1, 1) := by decide +kernel
theorem dX0_take_37 : decode cX0_take 37 = .ok (.getfield 48, 3) := by decide +kernel
theorem dX0_take_40 : decode cX0_take 40 = .ok (.iload_n 2, 1) := by decide +kernel
theorem dX0_take_41 : decode cX0_take 41 = .ok (.iconst 3, 1) := by decide +kernel
theorem dX0_take_42 : decode cX0_take 42 = .ok (.invokevirtual 139, 3) := by decide +kernel
theorem dX0_take_45 : decode cX0_take 45 = .ok (.istore 4, 2) := by decide +kernel
theorem dX0_take_47 : decode cX0_take 47 = .ok (.aload_n 0, 1) := by decide +kernel
theorem dX0_take_48 : decode cX0_take 48 = .ok (.getfield 24, 3) := by decide +kernel
theorem dX0_take_51 : decode cX0_take 51 = .ok (.iload_n 2, 1) := by decide +kernel
theorem dX0_take_52 : decode cX0_take 52 = .ok (.aload_n 1, 1) := by decide +kernel
theorem dX0_take_53 : decode cX0_take 53 = .ok (.getfield 48, 3) := by decide +kernel
theorem dX0_take_56 : decode cX0_take 56 = .ok (.iload_n 2, 1) := by decide +kernel
theorem dX0_take_57 : decode cX0_take 57 = .ok (.iconst 2, 1) := by decide +kernel
theorem dX0_take_58 : decode cX0_take 58 = .ok (.invokevirtual 139, 3) := by decide +kernel
theorem dX0_take_61 : decode cX0_take 61 = .ok (.bipush 7, 2) := by decide +kernel
theorem dX0_take_63 : decode cX0_take 63 = .ok (.iand, 1) := by decide +kernel
theorem dX0_take_64 : decode cX0_take 64 = .ok (.iastore, 1) := by decide +kernel
theorem dX0_take_65 : decode cX0_take 65 = .ok (.aload_n 0, 1) := by decide +kernel
theorem dX0_take_66 : decode cX0_take 66 = .ok (.getfield 27, 3) := by decide +kernel
theorem dX0_take_69 : decode cX0_take 69 = .ok (.iload_n 2, 1) := by decide +kernel
theorem dX0_take_70 : decode cX0_take 70 = .ok (.iload_n 3, 1) := by decide +kernel
theorem dX0_take_71 : decode cX0_take 71 = .ok (.ifCond .ne 11, 3) := by decide +kernel
theorem dX0_take_74 : decode cX0_take 74 = .ok (.iload 4, 2) := by decide +kernel
theorem dX0_take_76 : decode cX0_take 76 = .ok (.bipush 7, 2) := by decide +kernel
theorem dX0_take_78 : decode cX0_take 78 = .ok (.iand, 1) := by decide +kernel
theorem dX0_take_79 : decode cX0_take 79 = .ok (.goto 4, 3) := by decide +kernel
theorem dX0_take_82 : decode cX0_take 82 = .ok (.iconst (-1), 1) := by decide +kernel
theorem dX0_take_83 : decode cX0_take 83 = .ok (.iastore, 1) := by decide +kernel
theorem dX0_take_84 : decode cX0_take 84 = .ok (.aload_n 0, 1) := by decide +kernel
theorem dX0_take_85 : decode cX0_take 85 = .ok (.getfield 30, 3) := by decide +kernel
theorem dX0_take_88 : decode cX0_take 88 = .ok (.iload_n 2, 1) := by decide +kernel
theorem dX0_take_89 : decode cX0_take 89 = .ok (.iconst 0, 1) := by decide +kernel
theorem dX0_take_90 : decode cX0_take 90 = .ok (.iastore, 1) := by decide +kernel
theorem dX0_take_91 : decode cX0_take 91 = .ok (.aload_n 0, 1) := by decide +kernel
theorem dX0_take_92 : decode cX0_take 92 = .ok (.getfield 33, 3) := by decide +kernel
theorem dX0_take_95 : decode cX0_take 95 = .ok (.iload_n 2, 1) := by decide +kernel
theorem dX0_take_96 : decode cX0_take 96 = .ok (.sipush 999, 3) := by decide +kernel
theorem dX0_take_99 : decode cX0_take 99 = .ok (.iastore, 1) := by decide +kernel
theorem dX0_take_100 : decode cX0_take 100 = .ok (.iload_n 3, 1) := by decide +kernel
theorem dX0_take_101 : decode cX0_take 101 = .ok (.iconst 1, 1) := by decide +kernel
theorem dX0_take_102 : decode cX0_take 102 = .ok (.if_icmp .eq 8, 3) := by decide +kernel
theorem dX0_take_105 : decode cX0_take 105 = .ok (.iload_n 3, 1) := by decide +kernel
theorem dX0_take_106 : decode cX0_take 106 = .ok (.iconst 4, 1) := by decide +kernel
theorem dX0_take_107 : decode cX0_take 107 = .ok (.if_icmp .ne 11, 3) := by decide +kernel
theorem dX0_take_110 : decode cX0_take 110 = .ok (.aload_n 0, 1) := by decide +kernel
theorem dX0_take_111 : decode cX0_take 111 = .ok (.getfield 30, 3) := by decide +kernel
theorem dX0_take_114 : decode cX0_take 114 = .ok (.iload_n 2, 1) := by decide +kernel
theorem dX0_take_115 : decode cX0_take 115 = .ok (.iload 4, 2) := by decide +kernel
theorem dX0_take_117 : decode cX0_take 117 = .ok (.iastore, 1) := by decide +kernel
theorem dX0_take_118 : decode cX0_take 118 = .ok (.iload_n 3, 1) := by decide +kernel
theorem dX0_take_119 : decode cX0_take 119 = .ok (.iconst 1, 1) := by decide +kernel
theorem dX0_take_120 : decode cX0_take 120 = .ok (.if_icmp .ne 18, 3) := by decide +kernel
theorem dX0_take_123 : decode cX0_take 123 = .ok (.aload_n 0, 1) := by decide +kernel
theorem dX0_take_124 : decode cX0_take 124 = .ok (.getfield 33, 3) := by decide +kernel
theorem dX0_take_127 : decode cX0_take 127 = .ok (.iload_n 2, 1) := by decide +kernel
theorem dX0_take_128 : decode cX0_take 128 = .ok (.aload_n 1, 1) := by decide +kernel
theorem dX0_take_129 : decode cX0_take 129 = .ok (.getfield 48, 3) := by decide +kernel
theorem dX0_take_132 : decode cX0_take 132 = .ok (.iload_n 2, 1) := by decide +kernel
theorem dX0_take_133 : decode cX0_take 133 = .ok (.iconst 4, 1) := by decide +kernel
theorem dX0_take_134 : decode cX0_take 134 = .ok (.invokevirtual 139, 3) := by decide +kernel
theorem dX0_take_137 : decode cX0_take 137 = .ok (.iastore, 1) := by decide +kernel
theorem dX0_take_138 : decode cX0_take 138 = .ok (.iload_n 3, 1) := by decide +kernel
theorem dX0_take_139 : decode cX0_take 139 = .ok (.iconst 2, 1) := by decide +kernel
theorem dX0_take_140 : decode cX0_take 140 = .ok (.if_icmp .ne 33, 3) := by decide +kernel
theorem dX0_take_143 : decode cX0_take 143 = .ok (.aload_n 0, 1) := by decide +kernel
theorem dX0_take_144 : decode cX0_take 144 = .ok (.getfield 30, 3) := by decide +kernel
theorem dX0_take_147 : decode cX0_take 147 = .ok (.iload_n 2, 1) := by decide +kernel
theorem dX0_take_148 : decode cX0_take 148 = .ok (.iload 4, 2) := by decide +kernel
theorem dX0_take_150 : decode cX0_take 150 = .ok (.aload_n 1, 1) := by decide +kernel
theorem dX0_take_151 : decode cX0_take 151 = .ok (.getfield 79, 3) := by decide +kernel
theorem dX0_take_154 : decode cX0_take 154 = .ok (.iconst 4, 1) := by decide +kernel
theorem dX0_take_155 : decode cX0_take 155 = .ok (.iaload, 1) := by decide +kernel
theorem dX0_take_156 : decode cX0_take 156 = .ok (.imul, 1) := by decide +kernel
theorem dX0_take_157 : decode cX0_take 157 = .ok (.iastore, 1) := by decide +kernel
theorem dX0_take_158 : decode cX0_take 158 = .ok (.aload_n 0, 1) := by decide +kernel
theorem dX0_take_159 : decode cX0_take 159 = .ok (.getfield 33, 3) := by decide +kernel
theorem dX0_take_162 : decode cX0_take 162 = .ok (.iload_n 2, 1) := by decide +kernel
theorem dX0_take_163 : decode cX0_take 163 = .ok (.iload 4, 2) := by decide +kernel
theorem dX0_take_165 : decode cX0_take 165 = .ok (.aload_n 1, 1) := by decide +kernel
theorem dX0_take_166 : decode cX0_take 166 = .ok (.getfield 79, 3) := by decide +kernel
theorem dX0_take_169 : decode cX0_take 169 = .ok (.iconst 5, 1) := by decide +kernel
theorem dX0_take_170 : decode cX0_take 170 = .ok (.iaload, 1) := by decide +kernel
theorem dX0_take_171 : decode cX0_take 171 = .ok (.imul, 1) := by decide +kernel
theorem dX0_take_172 : decode cX0_take 172 = .ok (.iastore, 1) := by decide +kernel
theorem dX0_take_173 : decode cX0_take 173 = .ok (.iload_n 3, 1) := by decide +kernel
theorem dX0_take_174 : decode cX0_take 174 = .ok (.iconst 3, 1) := by decide +kernel
theorem dX0_take_175 : decode cX0_take 175 = .ok (.if_icmp .ne 11, 3) := by decide +kernel
theorem dX0_take_178 : decode cX0_take 178 = .ok (.aload_n 0, 1) := by decide +kernel
theorem dX0_take_179 : decode cX0_take 179 = .ok (.getfield 33, 3) := by decide +kernel
theorem dX0_take_182 : decode cX0_take 182 = .ok (.iload_n 2, 1) := by decide +kernel
theorem dX0_take_183 : decode cX0_take 183 = .ok (.iload 4, 2) := by decide +kernel
theorem dX0_take_185 : decode cX0_take 185 = .ok (.iastore, 1) := by decide +kernel
theorem dX0_take_186 : decode cX0_take 186 = .ok (.iinc 2 1, 3) := by decide +kernel
theorem dX0_take_189 : decode cX0_take 189 = .ok (.goto (-171), 3) := by decide +kernel
theorem dX0_take_192 : decode cX0_take 192 = .ok (.return_, 1) := by decide +kernel
set_option maxRecDepth 20000 in
theorem ggX0_seekLeftOut_X0_join : GoodIn wsX0_seekLeftOut wsX0_join := goodIn_r _ [5, 6, 7, 8, 9, 10, 11, 12, 13, 14, 15, 16, 17, 18, 19, 20, 21, 22, 23, 24, 25, 4, 26, 27, 28, 29, 30, 31, 40, 41, 42, 43, 44, 45, 46, 47, 48, 49, 50, 51, 52, 53] (by decide +kernel) (by decide +kernel)
set_option maxRecDepth 20000 in
theorem gX0_seekLeftOut_X0_join : GoodIn wsX0_seekLeftOut (wsV RX0 61 RX0 yX0_join wsX0_join) := goodIn_app (goodIn_of _ (by decide +kernel)) ggX0_seekLeftOut_X0_join
set_option maxRecDepth 20000 in
theorem ggX0_seekLeftOut_X0_nextOfAsManyBits : GoodIn wsX0_seekLeftOut wsX0_nextOfAsManyBits := goodIn_r _ [34, 35, 36, 37, 38, 39] (by decide +kernel) (by decide +kernel)
set_option maxRecDepth 20000 in
theorem gX0_seekLeftOut_X0_nextOfAsManyBits : GoodIn wsX0_seekLeftOut (va_wsS RX0 145 yX0_nextOfAsManyBits wsX0_nextOfAsManyBits) := goodIn_app (goodIn_of _ (by decide +kernel)) ggX0_seekLeftOut_X0_nextOfAsManyBits
theorem dX0_seekLeftOut_0 : decode cX0_seekLeftOut 0 = .ok (.aload_n 0, 1) := by decide +kernel
theorem dX0_seekLeftOut_1 : decode cX0_seekLeftOut 1 = .ok (.iload_n 1, 1) := by decide +kernel
theorem dX0_seekLeftOut_2 : decode cX0_seekLeftOut 2 = .ok (.invokevirtual 61, 3) := by decide +kernel
theorem dX0_seekLeftOut_5 : decode cX0_seekLeftOut 5 = .ok (.ifCond .eq 5, 3) := by decide +kernel
theorem dX0_seekLeftOut_8 : decode cX0_seekLeftOut 8 = .ok (.iconst 0, 1) := by decide +kernel
theorem dX0_seekLeftOut_9 : decode cX0_seekLeftOut 9 = .ok (.ireturn, 1) := by decide +kernel
theorem dX0_seekLeftOut_10 : decode cX0_seekLeftOut 10 = .ok (.iconst 1, 1) := by decide +kernel
theorem dX0_seekLeftOut_11 : decode cX0_seekLeftOut 11 = .ok (.istore_n 2, 1) := by decide +kernel
theorem dX0_seekLeftOut_12 : decode cX0_seekLeftOut 12 = .ok (.iload_n 2, 1) := by decide +kernel
theorem dX0_seekLeftOut_13 : decode cX0_seekLeftOut 13 = .ok (.iconst 4, 1) := by decide +kernel
theorem dX0_seekLeftOut_14 : decode cX0_seekLeftOut 14 = .ok (.if_icmp .gt 56, 3) := by decide +kernel
theorem dX0_seekLeftOut_17 : decode cX0_seekLeftOut 17 = .ok (.iconst 1, 1) := by decide +kernel
theorem dX0_seekLeftOut_18 : decode cX0_seekLeftOut 18 = .ok (.iload_n 2, 1) := by decide +kernel
theorem dX0_seekLeftOut_19 : decode cX0_seekLeftOut 19 = .ok (.ishl, 1) := by decide +kernel
theorem dX0_seekLeftOut_20 : decode cX0_seekLeftOut 20 = .ok (.iconst 1, 1) := by decide +kernel
theorem dX0_seekLeftOut_21 : decode cX0_seekLeftOut 21 = .ok (.isub, 1) := by decide +kernel
theorem dX0_seekLeftOut_22 : decode cX0_seekLeftOut 22 = .ok (.istore_n 3, 1) := by decide +kernel
theorem dX0_seekLeftOut_23 : decode cX0_seekLeftOut 23 = .ok (.iconst 0, 1) := by decide +kernel
theorem dX0_seekLeftOut_24 : decode cX0_seekLeftOut 24 = .ok (.istore 4, 2) := by decide +kernel
theorem dX0_seekLeftOut_26 : decode cX0_seekLeftOut 26 = .ok (.iload 4, 2) := by decide +kernel
theorem dX0_seekLeftOut_28 : decode cX0_seekLeftOut 28 = .ok (.sipush 2000, 3) := by decide +kernel
theorem dX0_seekLeftOut_31 : decode cX0_seekLeftOut 31 = .ok (.if_icmp .ge 33, 3) := by decide +kernel
theorem dX0_seekLeftOut_34 : decode cX0_seekLeftOut 34 = .ok (.iload_n 3, 1) := by decide +kernel
theorem dX0_seekLeftOut_35 : decode cX0_seekLeftOut 35 = .ok (.iload_n 1, 1) := by decide +kernel
theorem dX0_seekLeftOut_36 : decode cX0_seekLeftOut 36 = .ok (.if_icmp .gt 28, 3) := by decide +kernel
theorem dX0_seekLeftOut_39 : decode cX0_seekLeftOut 39 = .ok (.aload_n 0, 1) := by decide +kernel
theorem dX0_seekLeftOut_40 : decode cX0_seekLeftOut 40 = .ok (.iload_n 1, 1) := by decide +kernel
theorem dX0_seekLeftOut_41 : decode cX0_seekLeftOut 41 = .ok (.iload_n 3, 1) := by decide +kernel
theorem dX0_seekLeftOut_42 : decode cX0_seekLeftOut 42 = .ok (.iconst (-1), 1) := by decide +kernel
theorem dX0_seekLeftOut_43 : decode cX0_seekLeftOut 43 = .ok (.ixor, 1) := by decide +kernel
theorem dX0_seekLeftOut_44 : decode cX0_seekLeftOut 44 = .ok (.iand, 1) := by decide +kernel
theorem dX0_seekLeftOut_45 : decode cX0_seekLeftOut 45 = .ok (.invokevirtual 61, 3) := by decide +kernel
theorem dX0_seekLeftOut_48 : decode cX0_seekLeftOut 48 = .ok (.ifCond .eq 5, 3) := by decide +kernel
theorem dX0_seekLeftOut_51 : decode cX0_seekLeftOut 51 = .ok (.iload_n 3, 1) := by decide +kernel
theorem dX0_seekLeftOut_52 : decode cX0_seekLeftOut 52 = .ok (.ireturn, 1) := by decide +kernel
theorem dX0_seekLeftOut_53 : decode cX0_seekLeftOut 53 = .ok (.iload_n 3, 1) := by decide +kernel
theorem dX0_seekLeftOut_54 : decode cX0_seekLeftOut 54 = .ok (.invokestatic 145, 3) := by decide +kernel
theorem dX0_seekLeftOut_57 : decode cX0_seekLeftOut 57 = .ok (.istore_n 3, 1) := by decide +kernel
theorem dX0_seekLeftOut_58 : decode cX0_seekLeftOut 58 = .ok (.iinc 4 1, 3) := by decide +kernel
theorem dX0_seekLeftOut_61 : decode cX0_seekLeftOut 61 = .ok (.goto (-35), 3) := by decide +kernel
theorem dX0_seekLeftOut_64 : decode cX0_seekLeftOut 64 = .ok (.iinc 2 1, 3) := by decide +kernel
theorem dX0_seekLeftOut_67 : decode cX0_seekLeftOut 67 = .ok (.goto (-55), 3) := by decide +kernel
theorem dX0_seekLeftOut_70 : decode cX0_seekLeftOut 70 = .ok (.bipush (-5), 2) := by decide +kernel
theorem dX0_seekLeftOut_72 : decode cX0_seekLeftOut 72 = .ok (.ireturn, 1) := by decide +kernel
set_option maxRecDepth 20000 in
theorem ggX0_nextOfAsManyBits_J6_numberOfTrailingZeros_0f7a4 : GoodIn wsX0_nextOfAsManyBits wsJ6_numberOfTrailingZeros_0f7a4 := goodIn_r _ [4, 5] (by decide +kernel) (by decide +kernel)
set_option maxRecDepth 20000 in
theorem gX0_nextOfAsManyBits_J6_numberOfTrailingZeros_0f7a4 : GoodIn wsX0_nextOfAsManyBits (va_wsS RX0 148 yJ6_numberOfTrailingZeros_0f7a4 wsJ6_numberOfTrailingZeros_0f7a4) := goodIn_app (goodIn_of _ (by decide +kernel)) ggX0_nextOfAsManyBits_J6_numberOfTrailingZeros_0f7a4
theorem dX0_nextOfAsManyBits_0 : decode cX0_nextOfAsManyBits 0 = .ok (.iload_n 0, 1) := by decide +kernel
theorem dX0_nextOfAsManyBits_1 : decode cX0_nextOfAsManyBits 1 = .ok (.iload_n 0, 1) := by decide +kernel
theorem dX0_nextOfAsManyBits_2 : decode cX0_nextOfAsManyBits 2 = .ok (.ineg, 1) := by decide +kernel
theorem dX0_nextOfAsManyBits_3 : decode cX0_nextOfAsManyBits 3 = .ok (.iand, 1) := by decide +kernel
theorem dX0_nextOfAsManyBits_4 : decode cX0_nextOfAsManyBits 4 = .ok (.istore_n 1, 1) := by decide +kernel
theorem dX0_nextOfAsManyBits_5 : decode cX0_nextOfAsManyBits 5 = .ok (.iload_n 0, 1) := by decide +kernel
theorem dX0_nextOfAsManyBits_6 : decode cX0_nextOfAsManyBits 6 = .ok (.iload_n 1, 1) := by decide +kernel
theorem dX0_nextOfAsManyBits_7 : decode cX0_nextOfAsManyBits 7 = .ok (.iadd, 1) := by decide +kernel
theorem dX0_nextOfAsManyBits_8 : decode cX0_nextOfAsManyBits 8 = .ok (.istore_n 2, 1) := by decide +kernel
theorem dX0_nextOfAsManyBits_9 : decode cX0_nextOfAsManyBits 9 = .ok (.iload_n 2, 1) := by decide +kernel
theorem dX0_nextOfAsManyBits_10 : decode cX0_nextOfAsManyBits 10 = .ok (.iload_n 0, 1) := by decide +kernel
theorem dX0_nextOfAsManyBits_11 : decode cX0_nextOfAsManyBits 11 = .ok (.iload_n 2, 1) := by decide +kernel
theorem dX0_nextOfAsManyBits_12 : decode cX0_nextOfAsManyBits 12 = .ok (.ixor, 1) := by decide +kernel
theorem dX0_nextOfAsManyBits_13 : decode cX0_nextOfAsManyBits 13 = .ok (.iload_n 0, 1) := by decide +kernel
theorem dX0_nextOfAsManyBits_14 : decode cX0_nextOfAsManyBits 14 = .ok (.invokestatic 148, 3) := by decide +kernel
theorem dX0_nextOfAsManyBits_17 : decode cX0_nextOfAsManyBits 17 = .ok (.iconst 2, 1) := by decide +kernel
theorem dX0_nextOfAsManyBits_18 : decode cX0_nextOfAsManyBits 18 = .ok (.iadd, 1) := by decide +kernel
theorem dX0_nextOfAsManyBits_19 : decode cX0_nextOfAsManyBits 19 = .ok (.ishr, 1) := by decide +kernel
theorem dX0_nextOfAsManyBits_20 : decode cX0_nextOfAsManyBits 20 = .ok (.ior, 1) := by decide +kernel
theorem dX0_nextOfAsManyBits_21 : decode cX0_nextOfAsManyBits 21 = .ok (.ireturn, 1) := by decide +kernel
set_option maxRecDepth 20000 in
theorem ggX0_join_J7_fill_53178 : GoodIn wsX0_join wsJ7_fill_53178 := goodIn_r _ [17] (by decide +kernel) (by decide +kernel)
set_option maxRecDepth 20000 in
theorem gX0_join_J7_fill_53178 : GoodIn wsX0_join (va_wsS RX0 153 yJ7_fill_53178 wsJ7_fill_53178) := goodIn_app (goodIn_of _ (by decide +kernel)) ggX0_join_J7_fill_53178
set_option maxRecDepth 20000 in
theorem ggX0_join_X0_moveByCuts : GoodIn wsX0_join wsX0_moveByCuts := goodIn_r _ [22, 3, 23, 4, 1, 2, 28, 29, 30, 31, 32, 33, 34, 35, 36, 37, 38, 39, 40, 41] (by decide +kernel) (by decide +kernel)
set_option maxRecDepth 20000 in
theorem gX0_join_X0_moveByCuts : GoodIn wsX0_join (wsV RX0 159 RX0 yX0_moveByCuts wsX0_moveByCuts) := goodIn_app (goodIn_of _ (by decide +kernel)) ggX0_join_X0_moveByCuts
set_option maxRecDepth 20000 in
theorem ggX0_join_X0_haveAllAges : GoodIn wsX0_join wsX0_haveAllAges := goodIn_r _ [27, 1, 2, 28, 29, 30, 31, 32, 33, 34, 35, 36, 37, 38, 39, 40, 41] (by decide +kernel) (by decide +kernel)
set_option maxRecDepth 20000 in
theorem gX0_join_X0_haveAllAges : GoodIn wsX0_join (wsV RX0 162 RX0 yX0_haveAllAges wsX0_haveAllAges) := goodIn_app (goodIn_of _ (by decide +kernel)) ggX0_join_X0_haveAllAges
theorem dX0_join_0 : decode cX0_join 0 = .ok (.aload_n 0, 1) := by decide +kernel
theorem dX0_join_1 : decode cX0_join 1 = .ok (.getfield 11, 3) := by decide +kernel
theorem dX0_join_4 : decode cX0_join 4 = .ok (.iconst 0, 1) := by decide +kernel
theorem dX0_join_5 : decode cX0_join 5 = .ok (.invokestatic 153, 3) := by decide +kernel
theorem dX0_join_8 : decode cX0_join 8 = .ok (.aload_n 0, 1) := by decide +kernel
theorem dX0_join_9 : decode cX0_join 9 = .ok (.getfield 15, 3) := by decide +kernel
theorem dX0_join_12 : decode cX0_join 12 = .ok (.sipush 999, 3) := by decide +kernel
theorem dX0_join_15 : decode cX0_join 15 = .ok (.invokestatic 153, 3) := by decide +kernel
theorem dX0_join_18 : decode cX0_join 18 = .ok (.iconst 0, 1) := by decide +kernel
theorem dX0_join_19 : decode cX0_join 19 = .ok (.istore_n 2, 1) := by decide +kernel
theorem dX0_join_20 : decode cX0_join 20 = .ok (.iload_n 2, 1) := by decide +kernel
theorem dX0_join_21 : decode cX0_join 21 = .ok (.aload_n 0, 1) := by decide +kernel
theorem dX0_join_22 : decode cX0_join 22 = .ok (.getfield 142, 3) := by decide +kernel
theorem dX0_join_25 : decode cX0_join 25 = .ok (.if_icmp .ge 66, 3) := by decide +kernel
theorem dX0_join_28 : decode cX0_join 28 = .ok (.iload_n 1, 1) := by decide +kernel
theorem dX0_join_29 : decode cX0_join 29 = .ok (.iload_n 2, 1) := by decide +kernel
theorem dX0_join_30 : decode cX0_join 30 = .ok (.ishr, 1) := by decide +kernel
theorem dX0_join_31 : decode cX0_join 31 = .ok (.iconst 1, 1) := by decide +kernel
theorem dX0_join_32 : decode cX0_join 32 = .ok (.iand, 1) := by decide +kernel
theorem dX0_join_33 : decode cX0_join 33 = .ok (.ifCond .eq 52, 3) := by decide +kernel
theorem dX0_join_36 : decode cX0_join 36 = .ok (.aload_n 0, 1) := by decide +kernel
theorem dX0_join_37 : decode cX0_join 37 = .ok (.getfield 24, 3) := by decide +kernel
theorem dX0_join_40 : decode cX0_join 40 = .ok (.iload_n 2, 1) := by decide +kernel
theorem dX0_join_41 : decode cX0_join 41 = .ok (.iaload, 1) := by decide +kernel
theorem dX0_join_42 : decode cX0_join 42 = .ok (.istore_n 3, 1) := by decide +kernel
theorem dX0_join_43 : decode cX0_join 43 = .ok (.aload_n 0, 1) := by decide +kernel
theorem dX0_join_44 : decode cX0_join 44 = .ok (.getfield 11, 3) := by decide +kernel
theorem dX0_join_47 : decode cX0_join 47 = .ok (.iload_n 3, 1) := by decide +kernel
theorem dX0_join_48 : decode cX0_join 48 = .ok (.aload_n 0, 1) := by decide +kernel
theorem dX0_join_49 : decode cX0_join 49 = .ok (.getfield 11, 3) := by decide +kernel
theorem dX0_join_52 : decode cX0_join 52 = .ok (.iload_n 3, 1) := by decide +kernel
theorem dX0_join_53 : decode cX0_join 53 = .ok (.iaload, 1) := by decide +kernel
theorem dX0_join_54 : decode cX0_join 54 = .ok (.aload_n 0, 1) := by decide +kernel
theorem dX0_join_55 : decode cX0_join 55 = .ok (.getfield 30, 3) := by decide +kernel
theorem dX0_join_58 : decode cX0_join 58 = .ok (.iload_n 2, 1) := by decide +kernel
theorem dX0_join_59 : decode cX0_join 59 = .ok (.iaload, 1) := by decide +kernel
theorem dX0_join_60 : decode cX0_join 60 = .ok (.invokestatic 118, 3) := by decide +kernel
theorem dX0_join_63 : decode cX0_join 63 = .ok (.iastore, 1) := by decide +kernel
theorem dX0_join_64 : decode cX0_join 64 = .ok (.aload_n 0, 1) := by decide +kernel
theorem dX0_join_65 : decode cX0_join 65 = .ok (.getfield 15, 3) := by decide +kernel
theorem dX0_join_68 : decode cX0_join 68 = .ok (.iload_n 3, 1) := by decide +kernel
theorem dX0_join_69 : decode cX0_join 69 = .ok (.aload_n 0, 1) := by decide +kernel
theorem dX0_join_70 : decode cX0_join 70 = .ok (.getfield 15, 3) := by decide +kernel
theorem dX0_join_73 : decode cX0_join 73 = .ok (.iload_n 3, 1) := by decide +kernel
theorem dX0_join_74 : decode cX0_join 74 = .ok (.iaload, 1) := by decide +kernel
theorem dX0_join_75 : decode cX0_join 75 = .ok (.aload_n 0, 1) := by decide +kernel
theorem dX0_join_76 : decode cX0_join 76 = .ok (.getfield 33, 3) := by decide +kernel
theorem dX0_join_79 : decode cX0_join 79 = .ok (.iload_n 2, 1) := by decide +kernel
theorem dX0_join_80 : decode cX0_join 80 = .ok (.iaload, 1) := by decide +kernel
theorem dX0_join_81 : decode cX0_join 81 = .ok (.invokestatic 136, 3) := by decide +kernel
theorem dX0_join_84 : decode cX0_join 84 = .ok (.iastore, 1) := by decide +kernel
theorem dX0_join_85 : decode cX0_join 85 = .ok (.iinc 2 1, 3) := by decide +kernel
theorem dX0_join_88 : decode cX0_join 88 = .ok (.goto (-68), 3) := by decide +kernel
theorem dX0_join_91 : decode cX0_join 91 = .ok (.iconst 1, 1) := by decide +kernel
theorem dX0_join_92 : decode cX0_join 92 = .ok (.istore_n 2, 1) := by decide +kernel
theorem dX0_join_93 : decode cX0_join 93 = .ok (.iconst 0, 1) := by decide +kernel
theorem dX0_join_94 : decode cX0_join 94 = .ok (.istore_n 3, 1) := by decide +kernel
theorem dX0_join_95 : decode cX0_join 95 = .ok (.iload_n 3, 1) := by decide +kernel
theorem dX0_join_96 : decode cX0_join 96 = .ok (.bipush 8, 2) := by decide +kernel
theorem dX0_join_98 : decode cX0_join 98 = .ok (.if_icmp .ge 19, 3) := by decide +kernel
theorem dX0_join_101 : decode cX0_join 101 = .ok (.iload_n 2, 1) := by decide +kernel
theorem dX0_join_102 : decode cX0_join 102 = .ok (.ifCond .eq 15, 3) := by decide +kernel
theorem dX0_join_105 : decode cX0_join 105 = .ok (.aload_n 0, 1) := by decide +kernel
theorem dX0_join_106 : decode cX0_join 106 = .ok (.iload_n 1, 1) := by decide +kernel
theorem dX0_join_107 : decode cX0_join 107 = .ok (.invokevirtual 159, 3) := by decide +kernel
theorem dX0_join_110 : decode cX0_join 110 = .ok (.istore_n 2, 1) := by decide +kernel
theorem dX0_join_111 : decode cX0_join 111 = .ok (.iinc 3 1, 3) := by decide +kernel
theorem dX0_join_114 : decode cX0_join 114 = .ok (.goto (-19), 3) := by decide +kernel
theorem dX0_join_117 : decode cX0_join 117 = .ok (.iload_n 2, 1) := by decide +kernel
theorem dX0_join_118 : decode cX0_join 118 = .ok (.ifCond .ne 14, 3) := by decide +kernel
theorem dX0_join_121 : decode cX0_join 121 = .ok (.aload_n 0, 1) := by decide +kernel
theorem dX0_join_122 : decode cX0_join 122 = .ok (.invokevirtual 162, 3) := by decide +kernel
theorem dX0_join_125 : decode cX0_join 125 = .ok (.ifCond .eq 7, 3) := by decide +kernel
theorem dX0_join_128 : decode cX0_join 128 = .ok (.iconst 1, 1) := by decide +kernel
theorem dX0_join_129 : decode cX0_join 129 = .ok (.goto 4, 3) := by decide +kernel
theorem dX0_join_132 : decode cX0_join 132 = .ok (.iconst 0, 1) := by decide +kernel
theorem dX0_join_133 : decode cX0_join 133 = .ok (.ireturn, 1) := by decide +kernel
theorem dX0_moveByCuts_0 : decode cX0_moveByCuts 0 = .ok (.iconst 0, 1) := by decide +kernel
theorem dX0_moveByCuts_1 : decode cX0_moveByCuts 1 = .ok (.istore_n 2, 1) := by decide +kernel
theorem dX0_moveByCuts_2 : decode cX0_moveByCuts 2 = .ok (.iconst 0, 1) := by decide +kernel
theorem dX0_moveByCuts_3 : decode cX0_moveByCuts 3 = .ok (.istore_n 3, 1) := by decide +kernel
theorem dX0_moveByCuts_4 : decode cX0_moveByCuts 4 = .ok (.iload_n 3, 1) := by decide +kernel
theorem dX0_moveByCuts_5 : decode cX0_moveByCuts 5 = .ok (.aload_n 0, 1) := by decide +kernel
theorem dX0_moveByCuts_6 : decode cX0_moveByCuts 6 = .ok (.getfield 142, 3) := by decide +kernel
theorem dX0_moveByCuts_9 : decode cX0_moveByCuts 9 = .ok (.if_icmp .ge 109, 3) := by decide +kernel
theorem dX0_moveByCuts_12 : decode cX0_moveByCuts 12 = .ok (.aload_n 0, 1) := by decide +kernel
theorem dX0_moveByCuts_13 : decode cX0_moveByCuts 13 = .ok (.getfield 27, 3) := by decide +kernel
theorem dX0_moveByCuts_16 : decode cX0_moveByCuts 16 = .ok (.iload_n 3, 1) := by decide +kernel
theorem dX0_moveByCuts_17 : decode cX0_moveByCuts 17 = .ok (.iaload, 1) := by decide +kernel
theorem dX0_moveByCuts_18 : decode cX0_moveByCuts 18 = .ok (.istore 4, 2) := by decide +kernel
theorem dX0_moveByCuts_20 : decode cX0_moveByCuts 20 = .ok (.iload_n 1, 1) := by decide +kernel
theorem dX0_moveByCuts_21 : decode cX0_moveByCuts 21 = .ok (.iload_n 3, 1) := by decide +kernel
theorem dX0_moveByCuts_22 : decode cX0_moveByCuts 22 = .ok (.ishr, 1) := by decide +kernel
theorem dX0_moveByCuts_23 : decode cX0_moveByCuts 23 = .ok (.iconst 1, 1) := by decide +kernel
theorem dX0_moveByCuts_24 : decode cX0_moveByCuts 24 = .ok (.iand, 1) := by decide +kernel
theorem dX0_moveByCuts_25 : decode cX0_moveByCuts 25 = .ok (.ifCond .eq 87, 3) := by decide +kernel
theorem dX0_moveByCuts_28 : decode cX0_moveByCuts 28 = .ok (.iload 4, 2) := by decide +kernel
theorem dX0_moveByCuts_30 : decode cX0_moveByCuts 30 = .ok (.iconst (-1), 1) := by decide +kernel
theorem dX0_moveByCuts_31 : decode cX0_moveByCuts 31 = .ok (.if_icmp .eq 81, 3) := by decide +kernel
theorem dX0_moveByCuts_34 : decode cX0_moveByCuts 34 = .ok (.aload_n 0, 1) := by decide +kernel
theorem dX0_moveByCuts_35 : decode cX0_moveByCuts 35 = .ok (.getfield 24, 3) := by decide +kernel
theorem dX0_moveByCuts_38 : decode cX0_moveByCuts 38 = .ok (.iload_n 3, 1) := by decide +kernel
theorem dX0_moveByCuts_39 : decode cX0_moveByCuts 39 = .ok (.iaload, 1) := by decide +kernel
theorem dX0_moveByCuts_40 : decode cX0_moveByCuts 40 = .ok (.istore 5, 2) := by decide +kernel
theorem dX0_moveByCuts_42 : decode cX0_moveByCuts 42 = .ok (.aload_n 0, 1) := by decide +kernel
theorem dX0_moveByCuts_43 : decode cX0_moveByCuts 43 = .ok (.getfield 11, 3) := by decide +kernel
theorem dX0_moveByCuts_46 : decode cX0_moveByCuts 46 = .ok (.iload 4, 2) := by decide +kernel
theorem dX0_moveByCuts_48 : decode cX0_moveByCuts 48 = .ok (.iaload, 1) := by decide +kernel
theorem dX0_moveByCuts_49 : decode cX0_moveByCuts 49 = .ok (.aload_n 0, 1) := by decide +kernel
theorem dX0_moveByCuts_50 : decode cX0_moveByCuts 50 = .ok (.getfield 11, 3) := by decide +kernel
theorem dX0_moveByCuts_53 : decode cX0_moveByCuts 53 = .ok (.iload 5, 2) := by decide +kernel
theorem dX0_moveByCuts_55 : decode cX0_moveByCuts 55 = .ok (.iaload, 1) := by decide +kernel
theorem dX0_moveByCuts_56 : decode cX0_moveByCuts 56 = .ok (.if_icmp .gt 21, 3) := by decide +kernel
theorem dX0_moveByCuts_59 : decode cX0_moveByCuts 59 = .ok (.aload_n 0, 1) := by decide +kernel
theorem dX0_moveByCuts_60 : decode cX0_moveByCuts 60 = .ok (.getfield 11, 3) := by decide +kernel
theorem dX0_moveByCuts_63 : decode cX0_moveByCuts 63 = .ok (.iload 4, 2) := by decide +kernel
theorem dX0_moveByCuts_65 : decode cX0_moveByCuts 65 = .ok (.aload_n 0, 1) := by decide +kernel
theorem dX0_moveByCuts_66 : decode cX0_moveByCuts 66 = .ok (.getfield 11, 3) := by decide +kernel
theorem dX0_moveByCuts_69 : decode cX0_moveByCuts 69 = .ok (.iload 5, 2) := by decide +kernel
theorem dX0_moveByCuts_71 : decode cX0_moveByCuts 71 = .ok (.iaload, 1) := by decide +kernel
theorem dX0_moveByCuts_72 : decode cX0_moveByCuts 72 = .ok (.iconst 1, 1) := by decide +kernel
theorem dX0_moveByCuts_73 : decode cX0_moveByCuts 73 = .ok (.iadd, 1) := by decide +kernel
theorem dX0_moveByCuts_74 : decode cX0_moveByCuts 74 = .ok (.iastore, 1) := by decide +kernel
theorem dX0_moveByCuts_75 : decode cX0_moveByCuts 75 = .ok (.iconst 1, 1) := by decide +kernel
theorem dX0_moveByCuts_76 : decode cX0_moveByCuts 76 = .ok (.istore_n 2, 1) := by decide +kernel
theorem dX0_moveByCuts_77 : decode cX0_moveByCuts 77 = .ok (.aload_n 0, 1) := by decide +kernel
theorem dX0_moveByCuts_78 : decode cX0_moveByCuts 78 = .ok (.getfield 15, 3) := by decide +kernel
theorem dX0_moveByCuts_81 : decode cX0_moveByCuts 81 = .ok (.iload 5, 2) := by decide +kernel
theorem dX0_moveByCuts_83 : decode cX0_moveByCuts 83 = .ok (.iaload, 1) := by decide +kernel
theorem dX0_moveByCuts_84 : decode cX0_moveByCuts 84 = .ok (.aload_n 0, 1) := by decide +kernel
theorem dX0_moveByCuts_85 : decode cX0_moveByCuts 85 = .ok (.getfield 15, 3) := by decide +kernel
theorem dX0_moveByCuts_88 : decode cX0_moveByCuts 88 = .ok (.iload 4, 2) := by decide +kernel
theorem dX0_moveByCuts_90 : decode cX0_moveByCuts 90 = .ok (.iaload, 1) := by decide +kernel
theorem dX0_moveByCuts_91 : decode cX0_moveByCuts 91 = .ok (.if_icmp .lt 21, 3) := by decide +kernel
theorem dX0_moveByCuts_94 : decode cX0_moveByCuts 94 = .ok (.aload_n 0, 1) := by decide +kernel
theorem dX0_moveByCuts_95 : decode cX0_moveByCuts 95 = .ok (.getfield 15, 3) := by decide +kernel
theorem dX0_moveByCuts_98 : decode cX0_moveByCuts 98 = .ok (.iload 5, 2) := by decide +kernel
theorem dX0_moveByCuts_100 : decode cX0_moveByCuts 100 = .ok (.aload_n 0, 1) := by decide +kernel
theorem dX0_moveByCuts_101 : decode cX0_moveByCuts 101 = .ok (.getfield 15, 3) := by decide +kernel
theorem dX0_moveByCuts_104 : decode cX0_moveByCuts 104 = .ok (.iload 4, 2) := by decide +kernel
theorem dX0_moveByCuts_106 : decode cX0_moveByCuts 106 = .ok (.iaload, 1) := by decide +kernel
theorem dX0_moveByCuts_107 : decode cX0_moveByCuts 107 = .ok (.iconst 1, 1) := by decide +kernel
theorem dX0_moveByCuts_108 : decode cX0_moveByCuts 108 = .ok (.isub, 1) := by decide +kernel
theorem dX0_moveByCuts_109 : decode cX0_moveByCuts 109 = .ok (.iastore, 1) := by decide +kernel
theorem dX0_moveByCuts_110 : decode cX0_moveByCuts 110 = .ok (.iconst 1, 1) := by decide +kernel
theorem dX0_moveByCuts_111 : decode cX0_moveByCuts 111 = .ok (.istore_n 2, 1) := by decide +kernel
theorem dX0_moveByCuts_112 : decode cX0_moveByCuts 112 = .ok (.iinc 3 1, 3) := by decide +kernel
theorem dX0_moveByCuts_115 : decode cX0_moveByCuts 115 = .ok (.goto (-111), 3) := by decide +kernel
theorem dX0_moveByCuts_118 : decode cX0_moveByCuts 118 = .ok (.iload_n 2, 1) := by decide +kernel
theorem dX0_moveByCuts_119 : decode cX0_moveByCuts 119 = .ok (.ireturn, 1) := by decide +kernel
theorem dX0_haveAllAges_0 : decode cX0_haveAllAges 0 = .ok (.iconst 0, 1) := by decide +kernel
theorem dX0_haveAllAges_1 : decode cX0_haveAllAges 1 = .ok (.istore_n 1, 1) := by decide +kernel
theorem dX0_haveAllAges_2 : decode cX0_haveAllAges 2 = .ok (.iload_n 1, 1) := by decide +kernel
theorem dX0_haveAllAges_3 : decode cX0_haveAllAges 3 = .ok (.bipush 8, 2) := by decide +kernel
theorem dX0_haveAllAges_5 : decode cX0_haveAllAges 5 = .ok (.if_icmp .ge 26, 3) := by decide +kernel
theorem dX0_haveAllAges_8 : decode cX0_haveAllAges 8 = .ok (.aload_n 0, 1) := by decide +kernel
theorem dX0_haveAllAges_9 : decode cX0_haveAllAges 9 = .ok (.getfield 11, 3) := by decide +kernel
theorem dX0_haveAllAges_12 : decode cX0_haveAllAges 12 = .ok (.iload_n 1, 1) := by decide +kernel
theorem dX0_haveAllAges_13 : decode cX0_haveAllAges 13 = .ok (.iaload, 1) := by decide +kernel
theorem dX0_haveAllAges_14 : decode cX0_haveAllAges 14 = .ok (.aload_n 0, 1) := by decide +kernel
theorem dX0_haveAllAges_15 : decode cX0_haveAllAges 15 = .ok (.getfield 15, 3) := by decide +kernel
theorem dX0_haveAllAges_18 : decode cX0_haveAllAges 18 = .ok (.iload_n 1, 1) := by decide +kernel
theorem dX0_haveAllAges_19 : decode cX0_haveAllAges 19 = .ok (.iaload, 1) := by decide +kernel
theorem dX0_haveAllAges_20 : decode cX0_haveAllAges 20 = .ok (.if_icmp .le 5, 3) := by decide +kernel
theorem dX0_haveAllAges_23 : decode cX0_haveAllAges 23 = .ok (.iconst 0, 1) := by decide +kernel
theorem dX0_haveAllAges_24 : decode cX0_haveAllAges 24 = .ok (.ireturn, 1) := by decide +kernel
theorem dX0_haveAllAges_25 : decode cX0_haveAllAges 25 = .ok (.iinc 1 1, 3) := by decide +kernel
theorem dX0_haveAllAges_28 : decode cX0_haveAllAges 28 = .ok (.goto (-26), 3) := by decide +kernel
theorem dX0_haveAllAges_31 : decode cX0_haveAllAges 31 = .ok (.iconst 1, 1) := by decide +kernel
theorem dX0_haveAllAges_32 : decode cX0_haveAllAges 32 = .ok (.ireturn, 1) := by decide +kernel
set_option maxRecDepth 20000 in
theorem ggX0_countCuts_J7_fill_53178 : GoodIn wsX0_countCuts wsJ7_fill_53178 := goodIn_r _ [12] (by decide +kernel) (by decide +kernel)
set_option maxRecDepth 20000 in
theorem gX0_countCuts_J7_fill_53178 : GoodIn wsX0_countCuts (va_wsS RX0 153 yJ7_fill_53178 wsJ7_fill_53178) := goodIn_app (goodIn_of _ (by decide +kernel)) ggX0_countCuts_J7_fill_53178
set_option maxRecDepth 20000 in
theorem ggX0_countCuts_X0_cuts : GoodIn wsX0_countCuts wsX0_cuts := goodIn_r _ [17, 1, 18, 19, 20, 21, 22, 23, 24, 25, 26, 27, 28, 29, 30, 31] (by decide +kernel) (by decide +kernel)
set_option maxRecDepth 20000 in
theorem gX0_countCuts_X0_cuts : GoodIn wsX0_countCuts (wsV RX0 104 RX0 yX0_cuts wsX0_cuts) := goodIn_app (goodIn_of _ (by decide +kernel)) ggX0_countCuts_X0_cuts
theorem dX0_countCuts_0 : decode cX0_countCuts 0 = .ok (.aload_n 0, 1) := by decide +kernel
theorem dX0_countCuts_1 : decode cX0_countCuts 1 = .ok (.getfield 36, 3) := by decide +kernel
theorem dX0_countCuts_4 : decode cX0_countCuts 4 = .ok (.iconst 0, 1) := by decide +kernel
theorem dX0_countCuts_5 : decode cX0_countCuts 5 = .ok (.invokestatic 153, 3) := by decide +kernel
theorem dX0_countCuts_8 : decode cX0_countCuts 8 = .ok (.iconst 0, 1) := by decide +kernel
theorem dX0_countCuts_9 : decode cX0_countCuts 9 = .ok (.istore_n 2, 1) := by decide +kernel
theorem dX0_countCuts_10 : decode cX0_countCuts 10 = .ok (.iload_n 2, 1) := by decide +kernel
theorem dX0_countCuts_11 : decode cX0_countCuts 11 = .ok (.aload_n 0, 1) := by decide +kernel
theorem dX0_countCuts_12 : decode cX0_countCuts 12 = .ok (.getfield 142, 3) := by decide +kernel
theorem dX0_countCuts_15 : decode cX0_countCuts 15 = .ok (.if_icmp .ge 49, 3) := by decide +kernel
theorem dX0_countCuts_18 : decode cX0_countCuts 18 = .ok (.iload_n 1, 1) := by decide +kernel
theorem dX0_countCuts_19 : decode cX0_countCuts 19 = .ok (.iload_n 2, 1) := by decide +kernel
theorem dX0_countCuts_20 : decode cX0_countCuts 20 = .ok (.ishr, 1) := by decide +kernel
theorem dX0_countCuts_21 : decode cX0_countCuts 21 = .ok (.iconst 1, 1) := by decide +kernel
theorem dX0_countCuts_22 : decode cX0_countCuts 22 = .ok (.iand, 1) := by decide +kernel
theorem dX0_countCuts_23 : decode cX0_countCuts 23 = .ok (.ifCond .eq 35, 3) := by decide +kernel
theorem dX0_countCuts_26 : decode cX0_countCuts 26 = .ok (.aload_n 0, 1) := by decide +kernel
theorem dX0_countCuts_27 : decode cX0_countCuts 27 = .ok (.getfield 27, 3) := by decide +kernel
theorem dX0_countCuts_30 : decode cX0_countCuts 30 = .ok (.iload_n 2, 1) := by decide +kernel
theorem dX0_countCuts_31 : decode cX0_countCuts 31 = .ok (.iaload, 1) := by decide +kernel
theorem dX0_countCuts_32 : decode cX0_countCuts 32 = .ok (.iconst (-1), 1) := by decide +kernel
theorem dX0_countCuts_33 : decode cX0_countCuts 33 = .ok (.if_icmp .eq 25, 3) := by decide +kernel
theorem dX0_countCuts_36 : decode cX0_countCuts 36 = .ok (.aload_n 0, 1) := by decide +kernel
theorem dX0_countCuts_37 : decode cX0_countCuts 37 = .ok (.getfield 36, 3) := by decide +kernel
theorem dX0_countCuts_40 : decode cX0_countCuts 40 = .ok (.bipush 8, 2) := by decide +kernel
theorem dX0_countCuts_42 : decode cX0_countCuts 42 = .ok (.aload_n 0, 1) := by decide +kernel
theorem dX0_countCuts_43 : decode cX0_countCuts 43 = .ok (.getfield 24, 3) := by decide +kernel
theorem dX0_countCuts_46 : decode cX0_countCuts 46 = .ok (.iload_n 2, 1) := by decide +kernel
theorem dX0_countCuts_47 : decode cX0_countCuts 47 = .ok (.iaload, 1) := by decide +kernel
theorem dX0_countCuts_48 : decode cX0_countCuts 48 = .ok (.imul, 1) := by decide +kernel
theorem dX0_countCuts_49 : decode cX0_countCuts 49 = .ok (.aload_n 0, 1) := by decide +kernel
theorem dX0_countCuts_50 : decode cX0_countCuts 50 = .ok (.getfield 27, 3) := by decide +kernel
theorem dX0_countCuts_53 : decode cX0_countCuts 53 = .ok (.iload_n 2, 1) := by decide +kernel
theorem dX0_countCuts_54 : decode cX0_countCuts 54 = .ok (.iaload, 1) := by decide +kernel
theorem dX0_countCuts_55 : decode cX0_countCuts 55 = .ok (.iadd, 1) := by decide +kernel
theorem dX0_countCuts_56 : decode cX0_countCuts 56 = .ok (.iconst 1, 1) := by decide +kernel
theorem dX0_countCuts_57 : decode cX0_countCuts 57 = .ok (.iastore, 1) := by decide +kernel
theorem dX0_countCuts_58 : decode cX0_countCuts 58 = .ok (.iinc 2 1, 3) := by decide +kernel
theorem dX0_countCuts_61 : decode cX0_countCuts 61 = .ok (.goto (-51), 3) := by decide +kernel
theorem dX0_countCuts_64 : decode cX0_countCuts 64 = .ok (.iconst 0, 1) := by decide +kernel
theorem dX0_countCuts_65 : decode cX0_countCuts 65 = .ok (.istore_n 2, 1) := by decide +kernel
theorem dX0_countCuts_66 : decode cX0_countCuts 66 = .ok (.iload_n 2, 1) := by decide +kernel
theorem dX0_countCuts_67 : decode cX0_countCuts 67 = .ok (.bipush 8, 2) := by decide +kernel
theorem dX0_countCuts_69 : decode cX0_countCuts 69 = .ok (.if_icmp .ge 98, 3) := by decide +kernel
theorem dX0_countCuts_72 : decode cX0_countCuts 72 = .ok (.iconst 0, 1) := by decide +kernel
theorem dX0_countCuts_73 : decode cX0_countCuts 73 = .ok (.istore_n 3, 1) := by decide +kernel
theorem dX0_countCuts_74 : decode cX0_countCuts 74 = .ok (.iload_n 3, 1) := by decide +kernel
theorem dX0_countCuts_75 : decode cX0_countCuts 75 = .ok (.bipush 8, 2) := by decide +kernel
theorem dX0_countCuts_77 : decode cX0_countCuts 77 = .ok (.if_icmp .ge 84, 3) := by decide +kernel
theorem dX0_countCuts_80 : decode cX0_countCuts 80 = .ok (.iconst 0, 1) := by decide +kernel
theorem dX0_countCuts_81 : decode cX0_countCuts 81 = .ok (.istore 4, 2) := by decide +kernel
theorem dX0_countCuts_83 : decode cX0_countCuts 83 = .ok (.iload 4, 2) := by decide +kernel
theorem dX0_countCuts_85 : decode cX0_countCuts 85 = .ok (.bipush 8, 2) := by decide +kernel
theorem dX0_countCuts_87 : decode cX0_countCuts 87 = .ok (.if_icmp .ge 68, 3) := by decide +kernel
theorem dX0_countCuts_90 : decode cX0_countCuts 90 = .ok (.aload_n 0, 1) := by decide +kernel
theorem dX0_countCuts_91 : decode cX0_countCuts 91 = .ok (.iload_n 3, 1) := by decide +kernel
theorem dX0_countCuts_92 : decode cX0_countCuts 92 = .ok (.iload_n 2, 1) := by decide +kernel
theorem dX0_countCuts_93 : decode cX0_countCuts 93 = .ok (.invokevirtual 104, 3) := by decide +kernel
theorem dX0_countCuts_96 : decode cX0_countCuts 96 = .ok (.ifCond .le 53, 3) := by decide +kernel
theorem dX0_countCuts_99 : decode cX0_countCuts 99 = .ok (.aload_n 0, 1) := by decide +kernel
theorem dX0_countCuts_100 : decode cX0_countCuts 100 = .ok (.iload_n 2, 1) := by decide +kernel
theorem dX0_countCuts_101 : decode cX0_countCuts 101 = .ok (.iload 4, 2) := by decide +kernel
theorem dX0_countCuts_103 : decode cX0_countCuts 103 = .ok (.invokevirtual 104, 3) := by decide +kernel
theorem dX0_countCuts_106 : decode cX0_countCuts 106 = .ok (.ifCond .le 43, 3) := by decide +kernel
theorem dX0_countCuts_109 : decode cX0_countCuts 109 = .ok (.aload_n 0, 1) := by decide +kernel
theorem dX0_countCuts_110 : decode cX0_countCuts 110 = .ok (.iload_n 3, 1) := by decide +kernel
theorem dX0_countCuts_111 : decode cX0_countCuts 111 = .ok (.iload_n 2, 1) := by decide +kernel
theorem dX0_countCuts_112 : decode cX0_countCuts 112 = .ok (.invokevirtual 104, 3) := by decide +kernel
theorem dX0_countCuts_115 : decode cX0_countCuts 115 = .ok (.aload_n 0, 1) := by decide +kernel
theorem dX0_countCuts_116 : decode cX0_countCuts 116 = .ok (.iload_n 2, 1) := by decide +kernel
theorem dX0_countCuts_117 : decode cX0_countCuts 117 = .ok (.iload 4, 2) := by decide +kernel
theorem dX0_countCuts_119 : decode cX0_countCuts 119 = .ok (.invokevirtual 104, 3) := by decide +kernel
theorem dX0_countCuts_122 : decode cX0_countCuts 122 = .ok (.iadd, 1) := by decide +kernel
theorem dX0_countCuts_123 : decode cX0_countCuts 123 = .ok (.istore 5, 2) := by decide +kernel
theorem dX0_countCuts_125 : decode cX0_countCuts 125 = .ok (.aload_n 0, 1) := by decide +kernel
theorem dX0_countCuts_126 : decode cX0_countCuts 126 = .ok (.getfield 36, 3) := by decide +kernel
theorem dX0_countCuts_129 : decode cX0_countCuts 129 = .ok (.bipush 8, 2) := by decide +kernel
theorem dX0_countCuts_131 : decode cX0_countCuts 131 = .ok (.iload_n 3, 1) := by decide +kernel
theorem dX0_countCuts_132 : decode cX0_countCuts 132 = .ok (.imul, 1) := by decide +kernel
theorem dX0_countCuts_133 : decode cX0_countCuts 133 = .ok (.iload 4, 2) := by decide +kernel
theorem dX0_countCuts_135 : decode cX0_countCuts 135 = .ok (.iadd, 1) := by decide +kernel
theorem dX0_countCuts_136 : decode cX0_countCuts 136 = .ok (.aload_n 0, 1) := by decide +kernel
theorem dX0_countCuts_137 : decode cX0_countCuts 137 = .ok (.iload_n 3, 1) := by decide +kernel
theorem dX0_countCuts_138 : decode cX0_countCuts 138 = .ok (.iload 4, 2) := by decide +kernel
theorem dX0_countCuts_140 : decode cX0_countCuts 140 = .ok (.invokevirtual 104, 3) := by decide +kernel
theorem dX0_countCuts_143 : decode cX0_countCuts 143 = .ok (.iload 5, 2) := by decide +kernel
theorem dX0_countCuts_145 : decode cX0_countCuts 145 = .ok (.invokestatic 118, 3) := by decide +kernel
theorem dX0_countCuts_148 : decode cX0_countCuts 148 = .ok (.iastore, 1) := by decide +kernel
theorem dX0_countCuts_149 : decode cX0_countCuts 149 = .ok (.iinc 4 1, 3) := by decide +kernel
theorem dX0_countCuts_152 : decode cX0_countCuts 152 = .ok (.goto (-69), 3) := by decide +kernel
theorem dX0_countCuts_155 : decode cX0_countCuts 155 = .ok (.iinc 3 1, 3) := by decide +kernel
theorem dX0_countCuts_158 : decode cX0_countCuts 158 = .ok (.goto (-84), 3) := by decide +kernel
theorem dX0_countCuts_161 : decode cX0_countCuts 161 = .ok (.iinc 2 1, 3) := by decide +kernel
theorem dX0_countCuts_164 : decode cX0_countCuts 164 = .ok (.goto (-98), 3) := by decide +kernel
theorem dX0_countCuts_167 : decode cX0_countCuts 167 = .ok (.return_, 1) := by decide +kernel
theorem dX0_cuts_0 : decode cX0_cuts 0 = .ok (.bipush 8, 2) := by decide +kernel
theorem dX0_cuts_2 : decode cX0_cuts 2 = .ok (.iload_n 1, 1) := by decide +kernel
theorem dX0_cuts_3 : decode cX0_cuts 3 = .ok (.imul, 1) := by decide +kernel
theorem dX0_cuts_4 : decode cX0_cuts 4 = .ok (.iload_n 2, 1) := by decide +kernel
theorem dX0_cuts_5 : decode cX0_cuts 5 = .ok (.iadd, 1) := by decide +kernel
theorem dX0_cuts_6 : decode cX0_cuts 6 = .ok (.istore_n 3, 1) := by decide +kernel
theorem dX0_cuts_7 : decode cX0_cuts 7 = .ok (.iload_n 3, 1) := by decide +kernel
theorem dX0_cuts_8 : decode cX0_cuts 8 = .ok (.ifCond .lt 21, 3) := by decide +kernel
theorem dX0_cuts_11 : decode cX0_cuts 11 = .ok (.iload_n 3, 1) := by decide +kernel
theorem dX0_cuts_12 : decode cX0_cuts 12 = .ok (.aload_n 0, 1) := by decide +kernel
theorem dX0_cuts_13 : decode cX0_cuts 13 = .ok (.getfield 36, 3) := by decide +kernel
theorem dX0_cuts_16 : decode cX0_cuts 16 = .ok (.arraylength, 1) := by decide +kernel
theorem dX0_cuts_17 : decode cX0_cuts 17 = .ok (.if_icmp .ge 12, 3) := by decide +kernel
theorem dX0_cuts_20 : decode cX0_cuts 20 = .ok (.aload_n 0, 1) := by decide +kernel
theorem dX0_cuts_21 : decode cX0_cuts 21 = .ok (.getfield 36, 3) := by decide +kernel
theorem dX0_cuts_24 : decode cX0_cuts 24 = .ok (.iload_n 3, 1) := by decide +kernel
theorem dX0_cuts_25 : decode cX0_cuts 25 = .ok (.iaload, 1) := by decide +kernel
theorem dX0_cuts_26 : decode cX0_cuts 26 = .ok (.goto 4, 3) := by decide +kernel
theorem dX0_cuts_29 : decode cX0_cuts 29 = .ok (.iconst 0, 1) := by decide +kernel
theorem dX0_cuts_30 : decode cX0_cuts 30 = .ok (.ireturn, 1) := by decide +kernel
set_option maxRecDepth 20000 in
theorem ggX0_spansIfKnown_X0_leastOf : GoodIn wsX0_spansIfKnown wsX0_leastOf := goodIn_r _ [12, 13, 24, 25, 26, 27, 28, 29, 30, 31, 32, 33, 34, 35, 36, 37] (by decide +kernel) (by decide +kernel)
set_option maxRecDepth 20000 in
theorem gX0_spansIfKnown_X0_leastOf : GoodIn wsX0_spansIfKnown (wsV RX0 111 RX0 yX0_leastOf wsX0_leastOf) := goodIn_app (goodIn_of _ (by decide +kernel)) ggX0_spansIfKnown_X0_leastOf
set_option maxRecDepth 20000 in
theorem ggX0_spansIfKnown_X0_greatestOf : GoodIn wsX0_spansIfKnown wsX0_greatestOf := goodIn_r _ [17, 18, 24, 25, 26, 27, 28, 29, 30, 31, 32, 33, 34, 35, 36, 37] (by decide +kernel) (by decide +kernel)
set_option maxRecDepth 20000 in
theorem gX0_spansIfKnown_X0_greatestOf : GoodIn wsX0_spansIfKnown (wsV RX0 108 RX0 yX0_greatestOf wsX0_greatestOf) := goodIn_app (goodIn_of _ (by decide +kernel)) ggX0_spansIfKnown_X0_greatestOf
set_option maxRecDepth 20000 in
theorem ggX0_spansIfKnown_X0_cuts : GoodIn wsX0_spansIfKnown wsX0_cuts := goodIn_r _ [22, 23, 24, 25, 26, 27, 28, 29, 30, 31, 32, 33, 34, 35, 36, 37] (by decide +kernel) (by decide +kernel)
set_option maxRecDepth 20000 in
theorem gX0_spansIfKnown_X0_cuts : GoodIn wsX0_spansIfKnown (wsV RX0 104 RX0 yX0_cuts wsX0_cuts) := goodIn_app (goodIn_of _ (by decide +kernel)) ggX0_spansIfKnown_X0_cuts
theorem dX0_spansIfKnown_0 : decode cX0_spansIfKnown 0 = .ok (.iconst 0, 1) := by decide +kernel
theorem dX0_spansIfKnown_1 : decode cX0_spansIfKnown 1 = .ok (.istore 4, 2) := by decide +kernel
theorem dX0_spansIfKnown_3 : decode cX0_spansIfKnown 3 = .ok (.iconst 0, 1) := by decide +kernel
theorem dX0_spansIfKnown_4 : decode cX0_spansIfKnown 4 = .ok (.istore 5, 2) := by decide +kernel
theorem dX0_spansIfKnown_6 : decode cX0_spansIfKnown 6 = .ok (.iload 5, 2) := by decide +kernel
theorem dX0_spansIfKnown_8 : decode cX0_spansIfKnown 8 = .ok (.iload_n 1, 1) := by decide +kernel
theorem dX0_spansIfKnown_9 : decode cX0_spansIfKnown 9 = .ok (.if_icmp .ge 93, 3) := by decide +kernel
theorem dX0_spansIfKnown_12 : decode cX0_spansIfKnown 12 = .ok (.aload_n 0, 1) := by decide +kernel
theorem dX0_spansIfKnown_13 : decode cX0_spansIfKnown 13 = .ok (.iload 5, 2) := by decide +kernel
theorem dX0_spansIfKnown_15 : decode cX0_spansIfKnown 15 = .ok (.invokevirtual 111, 3) := by decide +kernel
theorem dX0_spansIfKnown_18 : decode cX0_spansIfKnown 18 = .ok (.istore 6, 2) := by decide +kernel
theorem dX0_spansIfKnown_20 : decode cX0_spansIfKnown 20 = .ok (.aload_n 0, 1) := by decide +kernel
theorem dX0_spansIfKnown_21 : decode cX0_spansIfKnown 21 = .ok (.iload 5, 2) := by decide +kernel
theorem dX0_spansIfKnown_23 : decode cX0_spansIfKnown 23 = .ok (.invokevirtual 108, 3) := by decide +kernel
theorem dX0_spansIfKnown_26 : decode cX0_spansIfKnown 26 = .ok (.istore 7, 2) := by decide +kernel
theorem dX0_spansIfKnown_28 : decode cX0_spansIfKnown 28 = .ok (.aload_n 0, 1) := by decide +kernel
theorem dX0_spansIfKnown_29 : decode cX0_spansIfKnown 29 = .ok (.iload_n 2, 1) := by decide +kernel
theorem dX0_spansIfKnown_30 : decode cX0_spansIfKnown 30 = .ok (.iload 5, 2) := by decide +kernel
theorem dX0_spansIfKnown_32 : decode cX0_spansIfKnown 32 = .ok (.invokevirtual 104, 3) := by decide +kernel
theorem dX0_spansIfKnown_35 : decode cX0_spansIfKnown 35 = .ok (.ifCond .le 19, 3) := by decide +kernel
theorem dX0_spansIfKnown_38 : decode cX0_spansIfKnown 38 = .ok (.iload 6, 2) := by decide +kernel
theorem dX0_spansIfKnown_40 : decode cX0_spansIfKnown 40 = .ok (.iload_n 3, 1) := by decide +kernel
theorem dX0_spansIfKnown_41 : decode cX0_spansIfKnown 41 = .ok (.aload_n 0, 1) := by decide +kernel
theorem dX0_spansIfKnown_42 : decode cX0_spansIfKnown 42 = .ok (.iload_n 2, 1) := by decide +kernel
theorem dX0_spansIfKnown_43 : decode cX0_spansIfKnown 43 = .ok (.iload 5, 2) := by decide +kernel
theorem dX0_spansIfKnown_45 : decode cX0_spansIfKnown 45 = .ok (.invokevirtual 104, 3) := by decide +kernel
theorem dX0_spansIfKnown_48 : decode cX0_spansIfKnown 48 = .ok (.iadd, 1) := by decide +kernel
theorem dX0_spansIfKnown_49 : decode cX0_spansIfKnown 49 = .ok (.invokestatic 118, 3) := by decide +kernel
theorem dX0_spansIfKnown_52 : decode cX0_spansIfKnown 52 = .ok (.istore 6, 2) := by decide +kernel
theorem dX0_spansIfKnown_54 : decode cX0_spansIfKnown 54 = .ok (.aload_n 0, 1) := by decide +kernel
theorem dX0_spansIfKnown_55 : decode cX0_spansIfKnown 55 = .ok (.iload 5, 2) := by decide +kernel
theorem dX0_spansIfKnown_57 : decode cX0_spansIfKnown 57 = .ok (.iload_n 2, 1) := by decide +kernel
theorem dX0_spansIfKnown_58 : decode cX0_spansIfKnown 58 = .ok (.invokevirtual 104, 3) := by decide +kernel
theorem dX0_spansIfKnown_61 : decode cX0_spansIfKnown 61 = .ok (.ifCond .le 19, 3) := by decide +kernel
theorem dX0_spansIfKnown_64 : decode cX0_spansIfKnown 64 = .ok (.iload 7, 2) := by decide +kernel
theorem dX0_spansIfKnown_66 : decode cX0_spansIfKnown 66 = .ok (.iload_n 3, 1) := by decide +kernel
theorem dX0_spansIfKnown_67 : decode cX0_spansIfKnown 67 = .ok (.aload_n 0, 1) := by decide +kernel
theorem dX0_spansIfKnown_68 : decode cX0_spansIfKnown 68 = .ok (.iload 5, 2) := by decide +kernel
theorem dX0_spansIfKnown_70 : decode cX0_spansIfKnown 70 = .ok (.iload_n 2, 1) := by decide +kernel
theorem dX0_spansIfKnown_71 : decode cX0_spansIfKnown 71 = .ok (.invokevirtual 104, 3) := by decide +kernel
theorem dX0_spansIfKnown_74 : decode cX0_spansIfKnown 74 = .ok (.isub, 1) := by decide +kernel
theorem dX0_spansIfKnown_75 : decode cX0_spansIfKnown 75 = .ok (.invokestatic 136, 3) := by decide +kernel
theorem dX0_spansIfKnown_78 : decode cX0_spansIfKnown 78 = .ok (.istore 7, 2) := by decide +kernel
theorem dX0_spansIfKnown_80 : decode cX0_spansIfKnown 80 = .ok (.iload 5, 2) := by decide +kernel
theorem dX0_spansIfKnown_82 : decode cX0_spansIfKnown 82 = .ok (.iload_n 2, 1) := by decide +kernel
theorem dX0_spansIfKnown_83 : decode cX0_spansIfKnown 83 = .ok (.if_icmp .eq 13, 3) := by decide +kernel
theorem dX0_spansIfKnown_86 : decode cX0_spansIfKnown 86 = .ok (.iload 4, 2) := by decide +kernel
theorem dX0_spansIfKnown_88 : decode cX0_spansIfKnown 88 = .ok (.iload 7, 2) := by decide +kernel
theorem dX0_spansIfKnown_90 : decode cX0_spansIfKnown 90 = .ok (.iload 6, 2) := by decide +kernel
theorem dX0_spansIfKnown_92 : decode cX0_spansIfKnown 92 = .ok (.isub, 1) := by decide +kernel
theorem dX0_spansIfKnown_93 : decode cX0_spansIfKnown 93 = .ok (.iadd, 1) := by decide +kernel
theorem dX0_spansIfKnown_94 : decode cX0_spansIfKnown 94 = .ok (.istore 4, 2) := by decide +kernel
theorem dX0_spansIfKnown_96 : decode cX0_spansIfKnown 96 = .ok (.iinc 5 1, 3) := by decide +kernel
theorem dX0_spansIfKnown_99 : decode cX0_spansIfKnown 99 = .ok (.goto (-93), 3) := by decide +kernel
theorem dX0_spansIfKnown_102 : decode cX0_spansIfKnown 102 = .ok (.iload 4, 2) := by decide +kernel
theorem dX0_spansIfKnown_104 : decode cX0_spansIfKnown 104 = .ok (.ireturn, 1) := by decide +kernel
set_option maxRecDepth 20000 in
theorem ggX1_init_X4_init : GoodIn wsX1_init wsX4_init := goodIn_r _ [19, 20, 2, 3, 21, 22, 23, 24, 25, 26, 27, 28, 4, 29, 40, 41, 42] (by decide +kernel) (by decide +kernel)
set_option maxRecDepth 20000 in
theorem gX1_init_X4_init : GoodIn wsX1_init (wsX4_init) := ggX1_init_X4_init
theorem dX1_init_0 : decode cX1_init 0 = .ok (.aload_n 0, 1) := by decide +kernel
theorem dX1_init_1 : decode cX1_init 1 = .ok (.invokespecial 1, 3) := by decide +kernel
theorem dX1_init_4 : decode cX1_init 4 = .ok (.aload_n 0, 1) := by decide +kernel
theorem dX1_init_5 : decode cX1_init 5 = .ok (.sipush 192, 3) := by decide +kernel
theorem dX1_init_8 : decode cX1_init 8 = .ok (.newarray .int, 2) := by decide +kernel
theorem dX1_init_10 : decode cX1_init 10 = .ok (.putfield 9, 3) := by decide +kernel
theorem dX1_init_13 : decode cX1_init 13 = .ok (.aload_n 0, 1) := by decide +kernel
theorem dX1_init_14 : decode cX1_init 14 = .ok (.new 15, 3) := by decide +kernel
theorem dX1_init_17 : decode cX1_init 17 = .ok (.dup, 1) := by decide +kernel
theorem dX1_init_18 : decode cX1_init 18 = .ok (.bipush 8, 2) := by decide +kernel
theorem dX1_init_20 : decode cX1_init 20 = .ok (.invokespecial 17, 3) := by decide +kernel
theorem dX1_init_23 : decode cX1_init 23 = .ok (.putfield 20, 3) := by decide +kernel
theorem dX1_init_26 : decode cX1_init 26 = .ok (.aload_n 0, 1) := by decide +kernel
theorem dX1_init_27 : decode cX1_init 27 = .ok (.new 15, 3) := by decide +kernel
theorem dX1_init_30 : decode cX1_init 30 = .ok (.dup, 1) := by decide +kernel
theorem dX1_init_31 : decode cX1_init 31 = .ok (.bipush 10, 2) := by decide +kernel
theorem dX1_init_33 : decode cX1_init 33 = .ok (.invokespecial 17, 3) := by decide +kernel
theorem dX1_init_36 : decode cX1_init 36 = .ok (.putfield 24, 3) := by decide +kernel
theorem dX1_init_39 : decode cX1_init 39 = .ok (.aload_n 0, 1) := by decide +kernel
theorem dX1_init_40 : decode cX1_init 40 = .ok (.new 15, 3) := by decide +kernel
theorem dX1_init_43 : decode cX1_init 43 = .ok (.dup, 1) := by decide +kernel
theorem dX1_init_44 : decode cX1_init 44 = .ok (.bipush 10, 2) := by decide +kernel
theorem dX1_init_46 : decode cX1_init 46 = .ok (.invokespecial 17, 3) := by decide +kernel
theorem dX1_init_49 : decode cX1_init 49 = .ok (.putfield 27, 3) := by decide +kernel
theorem dX1_init_52 : decode cX1_init 52 = .ok (.aload_n 0, 1) := by decide +kernel
theorem dX1_init_53 : decode cX1_init 53 = .ok (.bipush 6, 2) := by decide +kernel
theorem dX1_init_55 : decode cX1_init 55 = .ok (.newarray .int, 2) := by decide +kernel
theorem dX1_init_57 : decode cX1_init 57 = .ok (.dup, 1) := by decide +kernel
theorem dX1_init_58 : decode cX1_init 58 = .ok (.iconst 0, 1) := by decide +kernel
theorem dX1_init_59 : decode cX1_init 59 = .ok (.iconst 1, 1) := by decide +kernel
theorem dX1_init_60 : decode cX1_init 60 = .ok (.iastore, 1) := by decide +kernel
theorem dX1_init_61 : decode cX1_init 61 = .ok (.dup, 1) := by decide +kernel
theorem dX1_init_62 : decode cX1_init 62 = .ok (.iconst 1, 1) := by decide +kernel
theorem dX1_init_63 : decode cX1_init 63 = .ok (.iconst 3, 1) := by decide +kernel
theorem dX1_init_64 : decode cX1_init 64 = .ok (.iastore, 1) := by decide +kernel
theorem dX1_init_65 : decode cX1_init 65 = .ok (.dup, 1) := by decide +kernel
theorem dX1_init_66 : decode cX1_init 66 = .ok (.iconst 2, 1) := by decide +kernel
theorem dX1_init_67 : decode cX1_init 67 = .ok (.bipush 50, 2) := by decide +kernel
theorem dX1_init_69 : decode cX1_init 69 = .ok (.iastore, 1) := by decide +kernel
theorem dX1_init_70 : decode cX1_init 70 = .ok (.dup, 1) := by decide +kernel
theorem dX1_init_71 : decode cX1_init 71 = .ok (.iconst 3, 1) := by decide +kernel
theorem dX1_init_72 : decode cX1_init 72 = .ok (.iconst 2, 1) := by decide +kernel
theorem dX1_init_73 : decode cX1_init 73 = .ok (.iastore, 1) := by decide +kernel
theorem dX1_init_74 : decode cX1_init 74 = .ok (.dup, 1) := by decide +kernel
theorem dX1_init_75 : decode cX1_init 75 = .ok (.iconst 4, 1) := by decide +kernel
theorem dX1_init_76 : decode cX1_init 76 = .ok (.bipush 10, 2) := by decide +kernel
theorem dX1_init_78 : decode cX1_init 78 = .ok (.iastore, 1) := by decide +kernel
theorem dX1_init_79 : decode cX1_init 79 = .ok (.dup, 1) := by decide +kernel
theorem dX1_init_80 : decode cX1_init 80 = .ok (.iconst 5, 1) := by decide +kernel
theorem dX1_init_81 : decode cX1_init 81 = .ok (.bipush 30, 2) := by decide +kernel
theorem dX1_init_83 : decode cX1_init 83 = .ok (.iastore, 1) := by decide +kernel
theorem dX1_init_84 : decode cX1_init 84 = .ok (.putfield 30, 3) := by decide +kernel
theorem dX1_init_87 : decode cX1_init 87 = .ok (.aload_n 0, 1) := by decide +kernel
theorem dX1_init_88 : decode cX1_init 88 = .ok (.new 15, 3) := by decide +kernel
theorem dX1_init_91 : decode cX1_init 91 = .ok (.dup, 1) := by decide +kernel
theorem dX1_init_92 : decode cX1_init 92 = .ok (.bipush 16, 2) := by decide +kernel
theorem dX1_init_94 : decode cX1_init 94 = .ok (.invokespecial 17, 3) := by decide +kernel
theorem dX1_init_97 : decode cX1_init 97 = .ok (.putfield 35, 3) := by decide +kernel
theorem dX1_init_100 : decode cX1_init 100 = .ok (.aload_n 0, 1) := by decide +kernel
theorem dX1_init_101 : decode cX1_init 101 = .ok (.new 15, 3) := by decide +kernel
theorem dX1_init_104 : decode cX1_init 104 = .ok (.dup, 1) := by decide +kernel
theorem dX1_init_105 : decode cX1_init 105 = .ok (.bipush 10, 2) := by decide +kernel
theorem dX1_init_107 : decode cX1_init 107 = .ok (.invokespecial 17, 3) := by decide +kernel
theorem dX1_init_110 : decode cX1_init 110 = .ok (.putfield 40, 3) := by decide +kernel
theorem dX1_init_113 : decode cX1_init 113 = .ok (.aload_n 0, 1) := by decide +kernel
theorem dX1_init_114 : decode cX1_init 114 = .ok (.bipush 20, 2) := by decide +kernel
theorem dX1_init_116 : decode cX1_init 116 = .ok (.newarray .int, 2) := by decide +kernel
theorem dX1_init_118 : decode cX1_init 118 = .ok (.putfield 45, 3) := by decide +kernel
theorem dX1_init_121 : decode cX1_init 121 = .ok (.aload_n 0, 1) := by decide +kernel
theorem dX1_init_122 : decode cX1_init 122 = .ok (.bipush 21, 2) := by decide +kernel
theorem dX1_init_124 : decode cX1_init 124 = .ok (.newarray .int, 2) := by decide +kernel
theorem dX1_init_126 : decode cX1_init 126 = .ok (.putfield 50, 3) := by decide +kernel
theorem dX1_init_129 : decode cX1_init 129 = .ok (.return_, 1) := by decide +kernel
theorem dX1_mayPut_0 : decode cX1_mayPut 0 = .ok (.iload_n 1, 1) := by decide +kernel
theorem dX1_mayPut_1 : decode cX1_mayPut 1 = .ok (.ifCond .lt 30, 3) := by decide +kernel
theorem dX1_mayPut_4 : decode cX1_mayPut 4 = .ok (.iload_n 1, 1) := by decide +kernel
theorem dX1_mayPut_5 : decode cX1_mayPut 5 = .ok (.aload_n 0, 1) := by decide +kernel
theorem dX1_mayPut_6 : decode cX1_mayPut 6 = .ok (.getfield 30, 3) := by decide +kernel
theorem dX1_mayPut_9 : decode cX1_mayPut 9 = .ok (.arraylength, 1) := by decide +kernel
theorem dX1_mayPut_10 : decode cX1_mayPut 10 = .ok (.if_icmp .ge 21, 3) := by decide +kernel
theorem dX1_mayPut_13 : decode cX1_mayPut 13 = .ok (.iload_n 2, 1) := by decide +kernel
theorem dX1_mayPut_14 : decode cX1_mayPut 14 = .ok (.getstatic 53, 3) := by decide +kernel
theorem dX1_mayPut_17 : decode cX1_mayPut 17 = .ok (.iload_n 1, 1) := by decide +kernel
theorem dX1_mayPut_18 : decode cX1_mayPut 18 = .ok (.iaload, 1) := by decide +kernel
theorem dX1_mayPut_19 : decode cX1_mayPut 19 = .ok (.if_icmp .lt 12, 3) := by decide +kernel
theorem dX1_mayPut_22 : decode cX1_mayPut 22 = .ok (.iload_n 2, 1) := by decide +kernel
theorem dX1_mayPut_23 : decode cX1_mayPut 23 = .ok (.getstatic 56, 3) := by decide +kernel
theorem dX1_mayPut_26 : decode cX1_mayPut 26 = .ok (.iload_n 1, 1) := by decide +kernel
theorem dX1_mayPut_27 : decode cX1_mayPut 27 = .ok (.iaload, 1) := by decide +kernel
theorem dX1_mayPut_28 : decode cX1_mayPut 28 = .ok (.if_icmp .le 5, 3) := by decide +kernel
theorem dX1_mayPut_31 : decode cX1_mayPut 31 = .ok (.iconst 0, 1) := by decide +kernel
theorem dX1_mayPut_32 : decode cX1_mayPut 32 = .ok (.ireturn, 1) := by decide +kernel
theorem dX1_mayPut_33 : decode cX1_mayPut 33 = .ok (.iload_n 1, 1) := by decide +kernel
theorem dX1_mayPut_34 : decode cX1_mayPut 34 = .ok (.iconst 4, 1) := by decide +kernel
theorem dX1_mayPut_35 : decode cX1_mayPut 35 = .ok (.if_icmp .ne 13, 3) := by decide +kernel
theorem dX1_mayPut_38 : decode cX1_mayPut 38 = .ok (.iload_n 2, 1) := by decide +kernel
theorem dX1_mayPut_39 : decode cX1_mayPut 39 = .ok (.aload_n 0, 1) := by decide +kernel
theorem dX1_mayPut_40 : decode cX1_mayPut 40 = .ok (.getfield 30, 3) := by decide +kernel
theorem dX1_mayPut_43 : decode cX1_mayPut 43 = .ok (.iconst 5, 1) := by decide +kernel
theorem dX1_mayPut_44 : decode cX1_mayPut 44 = .ok (.iaload, 1) := by decide +kernel
theorem dX1_mayPut_45 : decode cX1_mayPut 45 = .ok (.if_icmp .gt 22, 3) := by decide +kernel
theorem dX1_mayPut_48 : decode cX1_mayPut 48 = .ok (.iload_n 1, 1) := by decide +kernel
theorem dX1_mayPut_49 : decode cX1_mayPut 49 = .ok (.iconst 5, 1) := by decide +kernel
theorem dX1_mayPut_50 : decode cX1_mayPut 50 = .ok (.if_icmp .ne 13, 3) := by decide +kernel
theorem dX1_mayPut_53 : decode cX1_mayPut 53 = .ok (.iload_n 2, 1) := by decide +kernel
theorem dX1_mayPut_54 : decode cX1_mayPut 54 = .ok (.aload_n 0, 1) := by decide +kernel
theorem dX1_mayPut_55 : decode cX1_mayPut 55 = .ok (.getfield 30, 3) := by decide +kernel
theorem dX1_mayPut_58 : decode cX1_mayPut 58 = .ok (.iconst 4, 1) := by decide +kernel
theorem dX1_mayPut_59 : decode cX1_mayPut 59 = .ok (.iaload, 1) := by decide +kernel
theorem dX1_mayPut_60 : decode cX1_mayPut 60 = .ok (.if_icmp .lt 7, 3) := by decide +kernel
theorem dX1_mayPut_63 : decode cX1_mayPut 63 = .ok (.iconst 1, 1) := by decide +kernel
theorem dX1_mayPut_64 : decode cX1_mayPut 64 = .ok (.goto 4, 3) := by decide +kernel
theorem dX1_mayPut_67 : decode cX1_mayPut 67 = .ok (.iconst 0, 1) := by decide +kernel
theorem dX1_mayPut_68 : decode cX1_mayPut 68 = .ok (.ireturn, 1) := by decide +kernel
set_option maxRecDepth 20000 in
theorem ggX1_copyFrom_X4_copyFrom : GoodIn wsX1_copyFrom wsX4_copyFrom := goodIn_r _ [19, 20, 21, 22, 23, 24, 25, 26, 27, 3, 4, 5, 38, 39, 40] (by decide +kernel) (by decide +kernel)
set_option maxRecDepth 20000 in
theorem gX1_copyFrom_X4_copyFrom : GoodIn wsX1_copyFrom (wsV RX1 65 RX4 yX4_copyFrom wsX4_copyFrom) := goodIn_app (goodIn_of _ (by decide +kernel)) ggX1_copyFrom_X4_copyFrom
theorem dX1_copyFrom_0 : decode cX1_copyFrom 0 = .ok (.aload_n 1, 1) := by decide +kernel
theorem dX1_copyFrom_1 : decode cX1_copyFrom 1 = .ok (.getfield 9, 3) := by decide +kernel
theorem dX1_copyFrom_4 : decode cX1_copyFrom 4 = .ok (.iconst 0, 1) := by decide +kernel
theorem dX1_copyFrom_5 : decode cX1_copyFrom 5 = .ok (.aload_n 0, 1) := by decide +kernel
theorem dX1_copyFrom_6 : decode cX1_copyFrom 6 = .ok (.getfield 9, 3) := by decide +kernel
theorem dX1_copyFrom_9 : decode cX1_copyFrom 9 = .ok (.iconst 0, 1) := by decide +kernel
theorem dX1_copyFrom_10 : decode cX1_copyFrom 10 = .ok (.aload_n 0, 1) := by decide +kernel
theorem dX1_copyFrom_11 : decode cX1_copyFrom 11 = .ok (.getfield 9, 3) := by decide +kernel
theorem dX1_copyFrom_14 : decode cX1_copyFrom 14 = .ok (.arraylength, 1) := by decide +kernel
theorem dX1_copyFrom_15 : decode cX1_copyFrom 15 = .ok (.invokestatic 59, 3) := by decide +kernel
theorem dX1_copyFrom_18 : decode cX1_copyFrom 18 = .ok (.aload_n 0, 1) := by decide +kernel
theorem dX1_copyFrom_19 : decode cX1_copyFrom 19 = .ok (.getfield 20, 3) := by decide +kernel
theorem dX1_copyFrom_22 : decode cX1_copyFrom 22 = .ok (.aload_n 1, 1) := by decide +kernel
theorem dX1_copyFrom_23 : decode cX1_copyFrom 23 = .ok (.getfield 20, 3) := by decide +kernel
theorem dX1_copyFrom_26 : decode cX1_copyFrom 26 = .ok (.invokevirtual 65, 3) := by decide +kernel
theorem dX1_copyFrom_29 : decode cX1_copyFrom 29 = .ok (.aload_n 0, 1) := by decide +kernel
theorem dX1_copyFrom_30 : decode cX1_copyFrom 30 = .ok (.getfield 24, 3) := by decide +kernel
theorem dX1_copyFrom_33 : decode cX1_copyFrom 33 = .ok (.aload_n 1, 1) := by decide +kernel
theorem dX1_copyFrom_34 : decode cX1_copyFrom 34 = .ok (.getfield 24, 3) := by decide +kernel
theorem dX1_copyFrom_37 : decode cX1_copyFrom 37 = .ok (.invokevirtual 65, 3) := by decide +kernel
theorem dX1_copyFrom_40 : decode cX1_copyFrom 40 = .ok (.aload_n 0, 1) := by decide +kernel
theorem dX1_copyFrom_41 : decode cX1_copyFrom 41 = .ok (.getfield 27, 3) := by decide +kernel
theorem dX1_copyFrom_44 : decode cX1_copyFrom 44 = .ok (.aload_n 1, 1) := by decide +kernel
theorem dX1_copyFrom_45 : decode cX1_copyFrom 45 = .ok (.getfield 27, 3) := by decide +kernel
theorem dX1_copyFrom_48 : decode cX1_copyFrom 48 = .ok (.invokevirtual 65, 3) := by decide +kernel
theorem dX1_copyFrom_51 : decode cX1_copyFrom 51 = .ok (.aload_n 1, 1) := by decide +kernel
theorem dX1_copyFrom_52 : decode cX1_copyFrom 52 = .ok (.getfield 30, 3) := by decide +kernel
theorem dX1_copyFrom_55 : decode cX1_copyFrom 55 = .ok (.iconst 0, 1) := by decide +kernel
theorem dX1_copyFrom_56 : decode cX1_copyFrom 56 = .ok (.aload_n 0, 1) := by decide +kernel
theorem dX1_copyFrom_57 : decode cX1_copyFrom 57 = .ok (.getfield 30, 3) := by decide +kernel
theorem dX1_copyFrom_60 : decode cX1_copyFrom 60 = .ok (.iconst 0, 1) := by decide +kernel
theorem dX1_copyFrom_61 : decode cX1_copyFrom 61 = .ok (.aload_n 0, 1) := by decide +kernel
theorem dX1_copyFrom_62 : decode cX1_copyFrom 62 = .ok (.getfield 30, 3) := by decide +kernel
theorem dX1_copyFrom_65 : decode cX1_copyFrom 65 = .ok (.arraylength, 1) := by decide +kernel
theorem dX1_copyFrom_66 : decode cX1_copyFrom 66 = .ok (.invokestatic 59, 3) := by decide +kernel
theorem dX1_copyFrom_69 : decode cX1_copyFrom 69 = .ok (.aload_n 0, 1) := by decide +kernel
theorem dX1_copyFrom_70 : decode cX1_copyFrom 70 = .ok (.getfield 35, 3) := by decide +kernel
theorem dX1_copyFrom_73 : decode cX1_copyFrom 73 = .ok (.aload_n 1, 1) := by decide +kernel
theorem dX1_copyFrom_74 : decode cX1_copyFrom 74 = .ok (.getfield 35, 3) := by decide +kernel
theorem dX1_copyFrom_77 : decode cX1_copyFrom 77 = .ok (.invokevirtual 65, 3) := by decide +kernel
theorem dX1_copyFrom_80 : decode cX1_copyFrom 80 = .ok (.aload_n 0, 1) := by decide +kernel
theorem dX1_copyFrom_81 : decode cX1_copyFrom 81 = .ok (.getfield 40, 3) := by decide +kernel
theorem dX1_copyFrom_84 : decode cX1_copyFrom 84 = .ok (.aload_n 1, 1) := by decide +kernel
theorem dX1_copyFrom_85 : decode cX1_copyFrom 85 = .ok (.getfield 40, 3) := by decide +kernel
theorem dX1_copyFrom_88 : decode cX1_copyFrom 88 = .ok (.invokevirtual 65, 3) := by decide +kernel
theorem dX1_copyFrom_91 : decode cX1_copyFrom 91 = .ok (.aload_n 1, 1) := by decide +kernel
theorem dX1_copyFrom_92 : decode cX1_copyFrom 92 = .ok (.getfield 45, 3) := by decide +kernel
theorem dX1_copyFrom_95 : decode cX1_copyFrom 95 = .ok (.iconst 0, 1) := by decide +kernel
theorem dX1_copyFrom_96 : decode cX1_copyFrom 96 = .ok (.aload_n 0, 1) := by decide +kernel
theorem dX1_copyFrom_97 : decode cX1_copyFrom 97 = .ok (.getfield 45, 3) := by decide +kernel
theorem dX1_copyFrom_100 : decode cX1_copyFrom 100 = .ok (.iconst 0, 1) := by decide +kernel
theorem dX1_copyFrom_101 : decode cX1_copyFrom 101 = .ok (.aload_n 0, 1) := by decide +kernel
theorem dX1_copyFrom_102 : decode cX1_copyFrom 102 = .ok (.getfield 45, 3) := by decide +kernel
theorem dX1_copyFrom_105 : decode cX1_copyFrom 105 = .ok (.arraylength, 1) := by decide +kernel
theorem dX1_copyFrom_106 : decode cX1_copyFrom 106 = .ok (.invokestatic 59, 3) := by decide +kernel
theorem dX1_copyFrom_109 : decode cX1_copyFrom 109 = .ok (.aload_n 1, 1) := by decide +kernel
theorem dX1_copyFrom_110 : decode cX1_copyFrom 110 = .ok (.getfield 50, 3) := by decide +kernel
theorem dX1_copyFrom_113 : decode cX1_copyFrom 113 = .ok (.iconst 0, 1) := by decide +kernel
theorem dX1_copyFrom_114 : decode cX1_copyFrom 114 = .ok (.aload_n 0, 1) := by decide +kernel
theorem dX1_copyFrom_115 : decode cX1_copyFrom 115 = .ok (.getfield 50, 3) := by decide +kernel
theorem dX1_copyFrom_118 : decode cX1_copyFrom 118 = .ok (.iconst 0, 1) := by decide +kernel
theorem dX1_copyFrom_119 : decode cX1_copyFrom 119 = .ok (.aload_n 0, 1) := by decide +kernel
theorem dX1_copyFrom_120 : decode cX1_copyFrom 120 = .ok (.getfield 50, 3) := by decide +kernel
theorem dX1_copyFrom_123 : decode cX1_copyFrom 123 = .ok (.arraylength, 1) := by decide +kernel
theorem dX1_copyFrom_124 : decode cX1_copyFrom 124 = .ok (.invokestatic 59, 3) := by decide +kernel
theorem dX1_copyFrom_127 : decode cX1_copyFrom 127 = .ok (.aload_n 0, 1) := by decide +kernel
theorem dX1_copyFrom_128 : decode cX1_copyFrom 128 = .ok (.aload_n 1, 1) := by decide +kernel
theorem dX1_copyFrom_129 : decode cX1_copyFrom 129 = .ok (.getfield 69, 3) := by decide +kernel
theorem dX1_copyFrom_132 : decode cX1_copyFrom 132 = .ok (.putfield 69, 3) := by decide +kernel
theorem dX1_copyFrom_135 : decode cX1_copyFrom 135 = .ok (.return_, 1) := by decide +kernel
set_option maxRecDepth 20000 in
theorem ggX1_digestOn_X1_digestOf : GoodIn wsX1_digestOn wsX1_digestOf := goodIn_r _ [13, 14] (by decide +kernel) (by decide +kernel)
set_option maxRecDepth 20000 in
theorem gX1_digestOn_X1_digestOf : GoodIn wsX1_digestOn (va_wsS RX1 73 yX1_digestOf wsX1_digestOf) := goodIn_app (goodIn_of _ (by decide +kernel)) ggX1_digestOn_X1_digestOf
set_option maxRecDepth 20000 in
theorem ggX1_digestOn_X4_digestOn : GoodIn wsX1_digestOn wsX4_digestOn := goodIn_r _ [19, 20, 21, 22, 23, 24, 18, 25, 26, 27, 28, 29, 30, 41, 42, 43] (by decide +kernel) (by decide +kernel)
set_option maxRecDepth 20000 in
theorem gX1_digestOn_X4_digestOn : GoodIn wsX1_digestOn (wsV RX1 77 RX4 yX4_digestOn wsX4_digestOn) := goodIn_app (goodIn_of _ (by decide +kernel)) ggX1_digestOn_X4_digestOn
theorem dX1_digestOn_0 : decode cX1_digestOn 0 = .ok (.lload_n 1, 1) := by decide +kernel
theorem dX1_digestOn_1 : decode cX1_digestOn 1 = .ok (.aload_n 0, 1) := by decide +kernel
theorem dX1_digestOn_2 : decode cX1_digestOn 2 = .ok (.getfield 9, 3) := by decide +kernel
theorem dX1_digestOn_5 : decode cX1_digestOn 5 = .ok (.invokestatic 73, 3) := by decide +kernel
theorem dX1_digestOn_8 : decode cX1_digestOn 8 = .ok (.lstore_n 3, 1) := by decide +kernel
theorem dX1_digestOn_9 : decode cX1_digestOn 9 = .ok (.aload_n 0, 1) := by decide +kernel
theorem dX1_digestOn_10 : decode cX1_digestOn 10 = .ok (.getfield 20, 3) := by decide +kernel
theorem dX1_digestOn_13 : decode cX1_digestOn 13 = .ok (.lload_n 3, 1) := by decide +kernel
theorem dX1_digestOn_14 : decode cX1_digestOn 14 = .ok (.iconst 2, 1) := by decide +kernel
theorem dX1_digestOn_15 : decode cX1_digestOn 15 = .ok (.invokevirtual 77, 3) := by decide +kernel
theorem dX1_digestOn_18 : decode cX1_digestOn 18 = .ok (.lstore_n 3, 1) := by decide +kernel
theorem dX1_digestOn_19 : decode cX1_digestOn 19 = .ok (.aload_n 0, 1) := by decide +kernel
theorem dX1_digestOn_20 : decode cX1_digestOn 20 = .ok (.getfield 24, 3) := by decide +kernel
theorem dX1_digestOn_23 : decode cX1_digestOn 23 = .ok (.lload_n 3, 1) := by decide +kernel
theorem dX1_digestOn_24 : decode cX1_digestOn 24 = .ok (.iconst 2, 1) := by decide +kernel
theorem dX1_digestOn_25 : decode cX1_digestOn 25 = .ok (.invokevirtual 77, 3) := by decide +kernel
theorem dX1_digestOn_28 : decode cX1_digestOn 28 = .ok (.lstore_n 3, 1) := by decide +kernel
theorem dX1_digestOn_29 : decode cX1_digestOn 29 = .ok (.aload_n 0, 1) := by decide +kernel
theorem dX1_digestOn_30 : decode cX1_digestOn 30 = .ok (.getfield 27, 3) := by decide +kernel
theorem dX1_digestOn_33 : decode cX1_digestOn 33 = .ok (.lload_n 3, 1) := by decide +kernel
theorem dX1_digestOn_34 : decode cX1_digestOn 34 = .ok (.iconst 2, 1) := by decide +kernel
theorem dX1_digestOn_35 : decode cX1_digestOn 35 = .ok (.invokevirtual 77, 3) := by decide +kernel
theorem dX1_digestOn_38 : decode cX1_digestOn 38 = .ok (.lstore_n 3, 1) := by decide +kernel
theorem dX1_digestOn_39 : decode cX1_digestOn 39 = .ok (.lload_n 3, 1) := by decide +kernel
theorem dX1_digestOn_40 : decode cX1_digestOn 40 = .ok (.aload_n 0, 1) := by decide +kernel
theorem dX1_digestOn_41 : decode cX1_digestOn 41 = .ok (.getfield 30, 3) := by decide +kernel
theorem dX1_digestOn_44 : decode cX1_digestOn 44 = .ok (.invokestatic 73, 3) := by decide +kernel
theorem dX1_digestOn_47 : decode cX1_digestOn 47 = .ok (.lstore_n 3, 1) := by decide +kernel
theorem dX1_digestOn_48 : decode cX1_digestOn 48 = .ok (.aload_n 0, 1) := by decide +kernel
theorem dX1_digestOn_49 : decode cX1_digestOn 49 = .ok (.getfield 35, 3) := by decide +kernel
theorem dX1_digestOn_52 : decode cX1_digestOn 52 = .ok (.lload_n 3, 1) := by decide +kernel
theorem dX1_digestOn_53 : decode cX1_digestOn 53 = .ok (.iconst 5, 1) := by decide +kernel
theorem dX1_digestOn_54 : decode cX1_digestOn 54 = .ok (.invokevirtual 77, 3) := by decide +kernel
theorem dX1_digestOn_57 : decode cX1_digestOn 57 = .ok (.lstore_n 3, 1) := by decide +kernel
theorem dX1_digestOn_58 : decode cX1_digestOn 58 = .ok (.aload_n 0, 1) := by decide +kernel
theorem dX1_digestOn_59 : decode cX1_digestOn 59 = .ok (.getfield 40, 3) := by decide +kernel
theorem dX1_digestOn_62 : decode cX1_digestOn 62 = .ok (.lload_n 3, 1) := by decide +kernel
theorem dX1_digestOn_63 : decode cX1_digestOn 63 = .ok (.iconst 4, 1) := by decide +kernel
theorem dX1_digestOn_64 : decode cX1_digestOn 64 = .ok (.invokevirtual 77, 3) := by decide +kernel
theorem dX1_digestOn_67 : decode cX1_digestOn 67 = .ok (.lstore_n 3, 1) := by decide +kernel
theorem dX1_digestOn_68 : decode cX1_digestOn 68 = .ok (.lload_n 3, 1) := by decide +kernel
theorem dX1_digestOn_69 : decode cX1_digestOn 69 = .ok (.aload_n 0, 1) := by decide +kernel
theorem dX1_digestOn_70 : decode cX1_digestOn 70 = .ok (.getfield 45, 3) := by decide +kernel
theorem dX1_digestOn_73 : decode cX1_digestOn 73 = .ok (.invokestatic 73, 3) := by decide +kernel
theorem dX1_digestOn_76 : decode cX1_digestOn 76 = .ok (.lstore_n 3, 1) := by decide +kernel
theorem dX1_digestOn_77 : decode cX1_digestOn 77 = .ok (.lload_n 3, 1) := by decide +kernel
theorem dX1_digestOn_78 : decode cX1_digestOn 78 = .ok (.aload_n 0, 1) := by decide +kernel
theorem dX1_digestOn_79 : decode cX1_digestOn 79 = .ok (.getfield 50, 3) := by decide +kernel
theorem dX1_digestOn_82 : decode cX1_digestOn 82 = .ok (.invokestatic 73, 3) := by decide +kernel
theorem dX1_digestOn_85 : decode cX1_digestOn 85 = .ok (.lreturn, 1) := by decide +kernel
theorem dX1_digestOf_0 : decode cX1_digestOf 0 = .ok (.lload_n 0, 1) := by decide +kernel
theorem dX1_digestOf_1 : decode cX1_digestOf 1 = .ok (.lstore_n 3, 1) := by decide +kernel
theorem dX1_digestOf_2 : decode cX1_digestOf 2 = .ok (.aload_n 2, 1) := by decide +kernel
theorem dX1_digestOf_3 : decode cX1_digestOf 3 = .ok (.astore 5, 2) := by decide +kernel
theorem dX1_digestOf_5 : decode cX1_digestOf 5 = .ok (.aload 5, 2) := by decide +kernel
theorem dX1_digestOf_7 : decode cX1_digestOf 7 = .ok (.arraylength, 1) := by decide +kernel
theorem dX1_digestOf_8 : decode cX1_digestOf 8 = .ok (.istore 6, 2) := by decide +kernel
theorem dX1_digestOf_10 : decode cX1_digestOf 10 = .ok (.iconst 0, 1) := by decide +kernel
theorem dX1_digestOf_11 : decode cX1_digestOf 11 = .ok (.istore 7, 2) := by decide +kernel
theorem dX1_digestOf_13 : decode cX1_digestOf 13 = .ok (.iload 7, 2) := by decide +kernel
theorem dX1_digestOf_15 : decode cX1_digestOf 15 = .ok (.iload 6, 2) := by decide +kernel
theorem dX1_digestOf_17 : decode cX1_digestOf 17 = .ok (.if_icmp .ge 26, 3) := by decide +kernel
theorem dX1_digestOf_20 : decode cX1_digestOf 20 = .ok (.aload 5, 2) := by decide +kernel
theorem dX1_digestOf_22 : decode cX1_digestOf 22 = .ok (.iload 7, 2) := by decide +kernel
theorem dX1_digestOf_24 : decode cX1_digestOf 24 = .ok (.iaload, 1) := by decide +kernel
theorem dX1_digestOf_25 : decode cX1_digestOf 25 = .ok (.istore 8, 2) := by decide +kernel
theorem dX1_digestOf_27 : decode cX1_digestOf 27 = .ok (.ldc2_w 81, 3) := by decide +kernel
theorem dX1_digestOf_30 : decode cX1_digestOf 30 = .ok (.lload_n 3, 1) := by decide +kernel
theorem dX1_digestOf_31 : decode cX1_digestOf 31 = .ok (.lmul, 1) := by decide +kernel
theorem dX1_digestOf_32 : decode cX1_digestOf 32 = .ok (.iload 8, 2) := by decide +kernel
theorem dX1_digestOf_34 : decode cX1_digestOf 34 = .ok (.i2l, 1) := by decide +kernel
theorem dX1_digestOf_35 : decode cX1_digestOf 35 = .ok (.ladd, 1) := by decide +kernel
theorem dX1_digestOf_36 : decode cX1_digestOf 36 = .ok (.lstore_n 3, 1) := by decide +kernel
theorem dX1_digestOf_37 : decode cX1_digestOf 37 = .ok (.iinc 7 1, 3) := by decide +kernel
theorem dX1_digestOf_40 : decode cX1_digestOf 40 = .ok (.goto (-27), 3) := by decide +kernel
theorem dX1_digestOf_43 : decode cX1_digestOf 43 = .ok (.lload_n 3, 1) := by decide +kernel
theorem dX1_digestOf_44 : decode cX1_digestOf 44 = .ok (.lreturn, 1) := by decide +kernel
set_option maxRecDepth 20000 in
theorem ggX2_init_X4_init : GoodIn wsX2_init wsX4_init := goodIn_r _ [16, 17, 2, 3, 18, 19, 20, 21, 22, 23, 24, 25, 4, 26, 37, 38, 39] (by decide +kernel) (by decide +kernel)
set_option maxRecDepth 20000 in
theorem gX2_init_X4_init : GoodIn wsX2_init (wsX4_init) := ggX2_init_X4_init
theorem dX2_init_0 : decode cX2_init 0 = .ok (.aload_n 0, 1) := by decide +kernel
theorem dX2_init_1 : decode cX2_init 1 = .ok (.invokespecial 5, 3) := by decide +kernel
theorem dX2_init_4 : decode cX2_init 4 = .ok (.aload_n 0, 1) := by decide +kernel
theorem dX2_init_5 : decode cX2_init 5 = .ok (.sipush 26880, 3) := by decide +kernel
theorem dX2_init_8 : decode cX2_init 8 = .ok (.newarray .int, 2) := by decide +kernel
theorem dX2_init_10 : decode cX2_init 10 = .ok (.putfield 11, 3) := by decide +kernel
theorem dX2_init_13 : decode cX2_init 13 = .ok (.aload_n 0, 1) := by decide +kernel
theorem dX2_init_14 : decode cX2_init 14 = .ok (.bipush 40, 2) := by decide +kernel
theorem dX2_init_16 : decode cX2_init 16 = .ok (.newarray .int, 2) := by decide +kernel
theorem dX2_init_18 : decode cX2_init 18 = .ok (.putfield 15, 3) := by decide +kernel
theorem dX2_init_21 : decode cX2_init 21 = .ok (.aload_n 0, 1) := by decide +kernel
theorem dX2_init_22 : decode cX2_init 22 = .ok (.bipush 40, 2) := by decide +kernel
theorem dX2_init_24 : decode cX2_init 24 = .ok (.newarray .int, 2) := by decide +kernel
theorem dX2_init_26 : decode cX2_init 26 = .ok (.putfield 18, 3) := by decide +kernel
theorem dX2_init_29 : decode cX2_init 29 = .ok (.aload_n 0, 1) := by decide +kernel
theorem dX2_init_30 : decode cX2_init 30 = .ok (.sipush 840, 3) := by decide +kernel
theorem dX2_init_33 : decode cX2_init 33 = .ok (.newarray .int, 2) := by decide +kernel
theorem dX2_init_35 : decode cX2_init 35 = .ok (.putfield 21, 3) := by decide +kernel
theorem dX2_init_38 : decode cX2_init 38 = .ok (.aload_n 0, 1) := by decide +kernel
theorem dX2_init_39 : decode cX2_init 39 = .ok (.bipush 40, 2) := by decide +kernel
theorem dX2_init_41 : decode cX2_init 41 = .ok (.newarray .int, 2) := by decide +kernel
theorem dX2_init_43 : decode cX2_init 43 = .ok (.putfield 24, 3) := by decide +kernel
theorem dX2_init_46 : decode cX2_init 46 = .ok (.aload_n 0, 1) := by decide +kernel
theorem dX2_init_47 : decode cX2_init 47 = .ok (.new 27, 3) := by decide +kernel
theorem dX2_init_50 : decode cX2_init 50 = .ok (.dup, 1) := by decide +kernel
theorem dX2_init_51 : decode cX2_init 51 = .ok (.bipush 10, 2) := by decide +kernel
theorem dX2_init_53 : decode cX2_init 53 = .ok (.invokespecial 29, 3) := by decide +kernel
theorem dX2_init_56 : decode cX2_init 56 = .ok (.putfield 32, 3) := by decide +kernel
theorem dX2_init_59 : decode cX2_init 59 = .ok (.return_, 1) := by decide +kernel
set_option maxRecDepth 20000 in
theorem ggX2_countAt_X4_size : GoodIn wsX2_countAt wsX4_size := goodIn_r _ [6, 7, 27, 28, 29] (by decide +kernel) (by decide +kernel)
set_option maxRecDepth 20000 in
theorem gX2_countAt_X4_size : GoodIn wsX2_countAt (wsV RX2 41 RX4 yX4_size wsX4_size) := goodIn_app (goodIn_of _ (by decide +kernel)) ggX2_countAt_X4_size
set_option maxRecDepth 20000 in
theorem ggX2_countAt_X4_cell : GoodIn wsX2_countAt wsX4_cell := goodIn_r _ [11, 12, 13, 14, 15, 5, 16, 7, 27, 28, 29] (by decide +kernel) (by decide +kernel)
set_option maxRecDepth 20000 in
theorem gX2_countAt_X4_cell : GoodIn wsX2_countAt (wsV RX2 45 RX4 yX4_cell wsX4_cell) := goodIn_app (goodIn_of _ (by decide +kernel)) ggX2_countAt_X4_cell
theorem dX2_countAt_0 : decode cX2_countAt 0 = .ok (.iconst 0, 1) := by decide +kernel
theorem dX2_countAt_1 : decode cX2_countAt 1 = .ok (.istore_n 1, 1) := by decide +kernel
theorem dX2_countAt_2 : decode cX2_countAt 2 = .ok (.iconst 0, 1) := by decide +kernel
theorem dX2_countAt_3 : decode cX2_countAt 3 = .ok (.istore_n 2, 1) := by decide +kernel
theorem dX2_countAt_4 : decode cX2_countAt 4 = .ok (.iload_n 2, 1) := by decide +kernel
theorem dX2_countAt_5 : decode cX2_countAt 5 = .ok (.aload_n 0, 1) := by decide +kernel
theorem dX2_countAt_6 : decode cX2_countAt 6 = .ok (.getfield 36, 3) := by decide +kernel
theorem dX2_countAt_9 : decode cX2_countAt 9 = .ok (.invokevirtual 41, 3) := by decide +kernel
theorem dX2_countAt_12 : decode cX2_countAt 12 = .ok (.if_icmp .ge 24, 3) := by decide +kernel
theorem dX2_countAt_15 : decode cX2_countAt 15 = .ok (.aload_n 0, 1) := by decide +kernel
theorem dX2_countAt_16 : decode cX2_countAt 16 = .ok (.getfield 36, 3) := by decide +kernel
theorem dX2_countAt_19 : decode cX2_countAt 19 = .ok (.iload_n 2, 1) := by decide +kernel
theorem dX2_countAt_20 : decode cX2_countAt 20 = .ok (.iconst 0, 1) := by decide +kernel
theorem dX2_countAt_21 : decode cX2_countAt 21 = .ok (.invokevirtual 45, 3) := by decide +kernel
theorem dX2_countAt_24 : decode cX2_countAt 24 = .ok (.ifCond .ne 6, 3) := by decide +kernel
theorem dX2_countAt_27 : decode cX2_countAt 27 = .ok (.iinc 1 1, 3) := by decide +kernel
theorem dX2_countAt_30 : decode cX2_countAt 30 = .ok (.iinc 2 1, 3) := by decide +kernel
theorem dX2_countAt_33 : decode cX2_countAt 33 = .ok (.goto (-29), 3) := by decide +kernel
theorem dX2_countAt_36 : decode cX2_countAt 36 = .ok (.iload_n 1, 1) := by decide +kernel
theorem dX2_countAt_37 : decode cX2_countAt 37 = .ok (.ireturn, 1) := by decide +kernel
theorem dX2_travel_0 : decode cX2_travel 0 = .ok (.aload_n 0, 1) := by decide +kernel
theorem dX2_travel_1 : decode cX2_travel 1 = .ok (.getfield 49, 3) := by decide +kernel
theorem dX2_travel_4 : decode cX2_travel 4 = .ok (.ireturn, 1) := by decide +kernel
theorem dX2_frontIn_0 : decode cX2_frontIn 0 = .ok (.iload_n 1, 1) := by decide +kernel
theorem dX2_frontIn_1 : decode cX2_frontIn 1 = .ok (.ifCond .lt 18, 3) := by decide +kernel
theorem dX2_frontIn_4 : decode cX2_frontIn 4 = .ok (.iload_n 1, 1) := by decide +kernel
theorem dX2_frontIn_5 : decode cX2_frontIn 5 = .ok (.bipush 40, 2) := by decide +kernel
theorem dX2_frontIn_7 : decode cX2_frontIn 7 = .ok (.if_icmp .ge 12, 3) := by decide +kernel
theorem dX2_frontIn_10 : decode cX2_frontIn 10 = .ok (.aload_n 0, 1) := by decide +kernel
theorem dX2_frontIn_11 : decode cX2_frontIn 11 = .ok (.getfield 24, 3) := by decide +kernel
theorem dX2_frontIn_14 : decode cX2_frontIn 14 = .ok (.iload_n 1, 1) := by decide +kernel
theorem dX2_frontIn_15 : decode cX2_frontIn 15 = .ok (.iaload, 1) := by decide +kernel
theorem dX2_frontIn_16 : decode cX2_frontIn 16 = .ok (.goto 4, 3) := by decide +kernel
theorem dX2_frontIn_19 : decode cX2_frontIn 19 = .ok (.iconst (-1), 1) := by decide +kernel
theorem dX2_frontIn_20 : decode cX2_frontIn 20 = .ok (.ireturn, 1) := by decide +kernel
set_option maxRecDepth 20000 in
theorem ggX2_draw_X4_isLike : GoodIn wsX2_draw wsX4_isLike := goodIn_r _ [10, 11, 12, 13, 14, 9, 15, 16, 17, 18, 19, 20, 106, 107, 108] (by decide +kernel) (by decide +kernel)
set_option maxRecDepth 20000 in
theorem gX2_draw_X4_isLike : GoodIn wsX2_draw (wsV RX2 62 RX4 yX4_isLike wsX4_isLike) := goodIn_app (goodIn_of _ (by decide +kernel)) ggX2_draw_X4_isLike
set_option maxRecDepth 20000 in
theorem ggX2_draw_X2_takeSigns : GoodIn wsX2_draw wsX2_takeSigns := goodIn_r _ [25, 26, 27, 28, 29, 30, 31, 32, 33, 34, 35, 36, 37, 38, 39, 40, 9, 41, 11, 42, 43, 44, 24, 45, 46, 47, 48, 49, 13, 14, 15, 16, 17, 18, 19, 20, 96, 97, 98, 99, 100, 101, 102, 103, 104, 105, 106, 107, 108] (by decide +kernel) (by decide +kernel)
set_option maxRecDepth 20000 in
theorem gX2_draw_X2_takeSigns : GoodIn wsX2_draw (wsV RX2 66 RX2 yX2_takeSigns wsX2_takeSigns) := goodIn_app (goodIn_of _ (by decide +kernel)) ggX2_draw_X2_takeSigns
set_option maxRecDepth 20000 in
theorem ggX2_draw_X2_findWaysFrom : GoodIn wsX2_draw wsX2_findWaysFrom := goodIn_r _ [53, 33, 54, 55, 56, 24, 57, 58, 59, 60, 61, 26, 27, 62, 28, 2, 29, 30, 31, 32, 46, 47, 48, 63, 64, 65, 96, 97, 98, 99, 100, 101, 102, 103, 104, 105] (by decide +kernel) (by decide +kernel)
set_option maxRecDepth 20000 in
theorem gX2_draw_X2_findWaysFrom : GoodIn wsX2_draw (wsV RX2 70 RX2 yX2_findWaysFrom wsX2_findWaysFrom) := goodIn_app (goodIn_of _ (by decide +kernel)) ggX2_draw_X2_findWaysFrom
set_option maxRecDepth 20000 in
theorem ggX2_draw_X2_followFirstRow : GoodIn wsX2_draw wsX2_followFirstRow := goodIn_r _ [69, 54, 70, 62, 2, 46, 47, 31, 48, 29, 30, 32, 71, 28, 33, 72, 73, 74, 24, 75, 63, 64, 65, 55, 56, 57, 96, 97, 98, 99, 100, 101, 102, 103, 104, 105] (by decide +kernel) (by decide +kernel)
set_option maxRecDepth 20000 in
theorem gX2_draw_X2_followFirstRow : GoodIn wsX2_draw (wsV RX2 73 RX2 yX2_followFirstRow wsX2_followFirstRow) := goodIn_app (goodIn_of _ (by decide +kernel)) ggX2_draw_X2_followFirstRow
set_option maxRecDepth 20000 in
theorem ggX2_draw_X4_copyFrom : GoodIn wsX2_draw wsX4_copyFrom := goodIn_r _ [79, 80, 11, 81, 30, 31, 32, 16, 82, 83, 84, 85, 106, 107, 108] (by decide +kernel) (by decide +kernel)
set_option maxRecDepth 20000 in
theorem gX2_draw_X4_copyFrom : GoodIn wsX2_draw (wsV RX2 76 RX4 yX4_copyFrom wsX4_copyFrom) := goodIn_app (goodIn_of _ (by decide +kernel)) ggX2_draw_X4_copyFrom
theorem dX2_draw_0 : decode cX2_draw 0 = .ok (.aload_n 0, 1) := by decide +kernel
theorem dX2_draw_1 : decode cX2_draw 1 = .ok (.aload_n 1, 1) := by decide +kernel
theorem dX2_draw_2 : decode cX2_draw 2 = .ok (.getfield 53, 3) := by decide +kernel
theorem dX2_draw_5 : decode cX2_draw 5 = .ok (.iconst 1, 1) := by decide +kernel
theorem dX2_draw_6 : decode cX2_draw 6 = .ok (.iaload, 1) := by decide +kernel
theorem dX2_draw_7 : decode cX2_draw 7 = .ok (.putfield 56, 3) := by decide +kernel
theorem dX2_draw_10 : decode cX2_draw 10 = .ok (.aload_n 0, 1) := by decide +kernel
theorem dX2_draw_11 : decode cX2_draw 11 = .ok (.getfield 56, 3) := by decide +kernel
theorem dX2_draw_14 : decode cX2_draw 14 = .ok (.aload_n 0, 1) := by decide +kernel
theorem dX2_draw_15 : decode cX2_draw 15 = .ok (.getfield 59, 3) := by decide +kernel
theorem dX2_draw_18 : decode cX2_draw 18 = .ok (.if_icmp .ne 18, 3) := by decide +kernel
theorem dX2_draw_21 : decode cX2_draw 21 = .ok (.aload_n 0, 1) := by decide +kernel
theorem dX2_draw_22 : decode cX2_draw 22 = .ok (.getfield 32, 3) := by decide +kernel
theorem dX2_draw_25 : decode cX2_draw 25 = .ok (.aload_n 1, 1) := by decide +kernel
theorem dX2_draw_26 : decode cX2_draw 26 = .ok (.getfield 36, 3) := by decide +kernel
theorem dX2_draw_29 : decode cX2_draw 29 = .ok (.invokevirtual 62, 3) := by decide +kernel
theorem dX2_draw_32 : decode cX2_draw 32 = .ok (.ifCond .eq 4, 3) := by decide +kernel
theorem dX2_draw_35 : decode cX2_draw 35 = .ok (.return_, 1) := by decide +kernel
theorem dX2_draw_36 : decode cX2_draw 36 = .ok (.aload_n 0, 1) := by decide +kernel
theorem dX2_draw_37 : decode cX2_draw 37 = .ok (.aload_n 1, 1) := by decide +kernel
theorem dX2_draw_38 : decode cX2_draw 38 = .ok (.getfield 36, 3) := by decide +kernel
theorem dX2_draw_41 : decode cX2_draw 41 = .ok (.invokevirtual 66, 3) := by decide +kernel
theorem dX2_draw_44 : decode cX2_draw 44 = .ok (.bipush 39, 2) := by decide +kernel
theorem dX2_draw_46 : decode cX2_draw 46 = .ok (.istore_n 2, 1) := by decide +kernel
theorem dX2_draw_47 : decode cX2_draw 47 = .ok (.iload_n 2, 1) := by decide +kernel
theorem dX2_draw_48 : decode cX2_draw 48 = .ok (.ifCond .lt 14, 3) := by decide +kernel
theorem dX2_draw_51 : decode cX2_draw 51 = .ok (.aload_n 0, 1) := by decide +kernel
theorem dX2_draw_52 : decode cX2_draw 52 = .ok (.iload_n 2, 1) := by decide +kernel
theorem dX2_draw_53 : decode cX2_draw 53 = .ok (.invokevirtual 70, 3) := by decide +kernel
theorem dX2_draw_56 : decode cX2_draw 56 = .ok (.iinc 2 (-1), 3) := by decide +kernel
theorem dX2_draw_59 : decode cX2_draw 59 = .ok (.goto (-12), 3) := by decide +kernel
theorem dX2_draw_62 : decode cX2_draw 62 = .ok (.aload_n 0, 1) := by decide +kernel
theorem dX2_draw_63 : decode cX2_draw 63 = .ok (.invokevirtual 73, 3) := by decide +kernel
theorem dX2_draw_66 : decode cX2_draw 66 = .ok (.aload_n 0, 1) := by decide +kernel
theorem dX2_draw_67 : decode cX2_draw 67 = .ok (.getfield 32, 3) := by decide +kernel
theorem dX2_draw_70 : decode cX2_draw 70 = .ok (.aload_n 1, 1) := by decide +kernel
theorem dX2_draw_71 : decode cX2_draw 71 = .ok (.getfield 36, 3) := by decide +kernel
theorem dX2_draw_74 : decode cX2_draw 74 = .ok (.invokevirtual 76, 3) := by decide +kernel
theorem dX2_draw_77 : decode cX2_draw 77 = .ok (.aload_n 0, 1) := by decide +kernel
theorem dX2_draw_78 : decode cX2_draw 78 = .ok (.aload_n 0, 1) := by decide +kernel
theorem dX2_draw_79 : decode cX2_draw 79 = .ok (.getfield 56, 3) := by decide +kernel
theorem dX2_draw_82 : decode cX2_draw 82 = .ok (.putfield 59, 3) := by decide +kernel
theorem dX2_draw_85 : decode cX2_draw 85 = .ok (.return_, 1) := by decide +kernel
set_option maxRecDepth 20000 in
theorem ggX2_takeSigns_J7_fill_53178 : GoodIn wsX2_takeSigns wsJ7_fill_53178 := goodIn_r _ [12] (by decide +kernel) (by decide +kernel)
set_option maxRecDepth 20000 in
theorem gX2_takeSigns_J7_fill_53178 : GoodIn wsX2_takeSigns (va_wsS RX2 79 yJ7_fill_53178 wsJ7_fill_53178) := goodIn_app (goodIn_of _ (by decide +kernel)) ggX2_takeSigns_J7_fill_53178
set_option maxRecDepth 20000 in
theorem ggX2_takeSigns_X4_size : GoodIn wsX2_takeSigns wsX4_size := goodIn_r _ [17, 18, 46, 47, 48] (by decide +kernel) (by decide +kernel)
set_option maxRecDepth 20000 in
theorem gX2_takeSigns_X4_size : GoodIn wsX2_takeSigns (wsV RX2 41 RX4 yX4_size wsX4_size) := goodIn_app (goodIn_of _ (by decide +kernel)) ggX2_takeSigns_X4_size
set_option maxRecDepth 20000 in
theorem ggX2_takeSigns_X2_takeSign : GoodIn wsX2_takeSigns wsX2_takeSign := goodIn_r _ [23, 4, 5, 6, 7, 24, 25, 26, 3, 2, 1, 27, 28, 29, 16, 30, 31, 32, 33, 34, 35, 18, 36, 37, 38, 39, 40, 41, 42, 43, 44, 45, 46, 47, 48] (by decide +kernel) (by decide +kernel)
set_option maxRecDepth 20000 in
theorem gX2_takeSigns_X2_takeSign : GoodIn wsX2_takeSigns (wsV RX2 85 RX2 yX2_takeSign wsX2_takeSign) := goodIn_app (goodIn_of _ (by decide +kernel)) ggX2_takeSigns_X2_takeSign
set_option maxRecDepth 20000 in
theorem ggX2_takeSigns_X4_cell : GoodIn wsX2_takeSigns wsX4_cell := goodIn_r _ [30, 31, 32, 33, 34, 16, 35, 18, 46, 47, 48] (by decide +kernel) (by decide +kernel)
set_option maxRecDepth 20000 in
theorem gX2_takeSigns_X4_cell : GoodIn wsX2_takeSigns (wsV RX2 45 RX4 yX4_cell wsX4_cell) := goodIn_app (goodIn_of _ (by decide +kernel)) ggX2_takeSigns_X4_cell
theorem dX2_takeSigns_0 : decode cX2_takeSigns 0 = .ok (.aload_n 0, 1) := by decide +kernel
theorem dX2_takeSigns_1 : decode cX2_takeSigns 1 = .ok (.getfield 15, 3) := by decide +kernel
theorem dX2_takeSigns_4 : decode cX2_takeSigns 4 = .ok (.iconst 0, 1) := by decide +kernel
theorem dX2_takeSigns_5 : decode cX2_takeSigns 5 = .ok (.invokestatic 79, 3) := by decide +kernel
theorem dX2_takeSigns_8 : decode cX2_takeSigns 8 = .ok (.aload_n 0, 1) := by decide +kernel
theorem dX2_takeSigns_9 : decode cX2_takeSigns 9 = .ok (.getfield 18, 3) := by decide +kernel
theorem dX2_takeSigns_12 : decode cX2_takeSigns 12 = .ok (.bipush 20, 2) := by decide +kernel
theorem dX2_takeSigns_14 : decode cX2_takeSigns 14 = .ok (.invokestatic 79, 3) := by decide +kernel
theorem dX2_takeSigns_17 : decode cX2_takeSigns 17 = .ok (.aload_n 0, 1) := by decide +kernel
theorem dX2_takeSigns_18 : decode cX2_takeSigns 18 = .ok (.getfield 21, 3) := by decide +kernel
theorem dX2_takeSigns_21 : decode cX2_takeSigns 21 = .ok (.iconst 0, 1) := by decide +kernel
theorem dX2_takeSigns_22 : decode cX2_takeSigns 22 = .ok (.invokestatic 79, 3) := by decide +kernel
theorem dX2_takeSigns_25 : decode cX2_takeSigns 25 = .ok (.iconst 1, 1) := by decide +kernel
theorem dX2_takeSigns_26 : decode cX2_takeSigns 26 = .ok (.istore_n 2, 1) := by decide +kernel
theorem dX2_takeSigns_27 : decode cX2_takeSigns 27 = .ok (.iconst 0, 1) := by decide +kernel
theorem dX2_takeSigns_28 : decode cX2_takeSigns 28 = .ok (.istore_n 3, 1) := by decide +kernel
theorem dX2_takeSigns_29 : decode cX2_takeSigns 29 = .ok (.iload_n 3, 1) := by decide +kernel
theorem dX2_takeSigns_30 : decode cX2_takeSigns 30 = .ok (.aload_n 1, 1) := by decide +kernel
theorem dX2_takeSigns_31 : decode cX2_takeSigns 31 = .ok (.invokevirtual 41, 3) := by decide +kernel
theorem dX2_takeSigns_34 : decode cX2_takeSigns 34 = .ok (.if_icmp .ge 29, 3) := by decide +kernel
theorem dX2_takeSigns_37 : decode cX2_takeSigns 37 = .ok (.aload_n 0, 1) := by decide +kernel
theorem dX2_takeSigns_38 : decode cX2_takeSigns 38 = .ok (.aload_n 1, 1) := by decide +kernel
theorem dX2_takeSigns_39 : decode cX2_takeSigns 39 = .ok (.iload_n 3, 1) := by decide +kernel
theorem dX2_takeSigns_40 : decode cX2_takeSigns 40 = .ok (.iload_n 2, 1) := by decide +kernel
theorem dX2_takeSigns_41 : decode cX2_takeSigns 41 = .ok (.invokevirtual 85, 3) := by decide +kernel
theorem dX2_takeSigns_44 : decode cX2_takeSigns 44 = .ok (.aload_n 1, 1) := by decide +kernel
theorem dX2_takeSigns_45 : decode cX2_takeSigns 45 = .ok (.iload_n 3, 1) := by decide +kernel
theorem dX2_takeSigns_46 : decode cX2_takeSigns 46 = .ok (.iconst 0, 1) := by decide +kernel
theorem dX2_takeSigns_47 : decode cX2_takeSigns 47 = .ok (.invokevirtual 45, 3) := by decide +kernel
theorem dX2_takeSigns_50 : decode cX2_takeSigns 50 = .ok (.ifCond .ne 7, 3) := by decide +kernel
theorem dX2_takeSigns_53 : decode cX2_takeSigns 53 = .ok (.iload_n 2, 1) := by decide +kernel
theorem dX2_takeSigns_54 : decode cX2_takeSigns 54 = .ok (.iconst 1, 1) := by decide +kernel
theorem dX2_takeSigns_55 : decode cX2_takeSigns 55 = .ok (.ishl, 1) := by decide +kernel
theorem dX2_takeSigns_56 : decode cX2_takeSigns 56 = .ok (.istore_n 2, 1) := by decide +kernel
theorem dX2_takeSigns_57 : decode cX2_takeSigns 57 = .ok (.iinc 3 1, 3) := by decide +kernel
theorem dX2_takeSigns_60 : decode cX2_takeSigns 60 = .ok (.goto (-31), 3) := by decide +kernel
theorem dX2_takeSigns_63 : decode cX2_takeSigns 63 = .ok (.aload_n 0, 1) := by decide +kernel
theorem dX2_takeSigns_64 : decode cX2_takeSigns 64 = .ok (.iload_n 2, 1) := by decide +kernel
theorem dX2_takeSigns_65 : decode cX2_takeSigns 65 = .ok (.bipush 32, 2) := by decide +kernel
theorem dX2_takeSigns_67 : decode cX2_takeSigns 67 = .ok (.invokestatic 89, 3) := by decide +kernel
theorem dX2_takeSigns_70 : decode cX2_takeSigns 70 = .ok (.iconst 1, 1) := by decide +kernel
theorem dX2_takeSigns_71 : decode cX2_takeSigns 71 = .ok (.isub, 1) := by decide +kernel
theorem dX2_takeSigns_72 : decode cX2_takeSigns 72 = .ok (.putfield 94, 3) := by decide +kernel
theorem dX2_takeSigns_75 : decode cX2_takeSigns 75 = .ok (.return_, 1) := by decide +kernel
set_option maxRecDepth 20000 in
theorem ggX2_takeSign_X4_cell : GoodIn wsX2_takeSign wsX4_cell := goodIn_r _ [15, 16, 17, 18, 19, 14, 20, 21, 32, 33, 34] (by decide +kernel) (by decide +kernel)
set_option maxRecDepth 20000 in
theorem gX2_takeSign_X4_cell : GoodIn wsX2_takeSign (wsV RX2 45 RX4 yX4_cell wsX4_cell) := goodIn_app (goodIn_of _ (by decide +kernel)) ggX2_takeSign_X4_cell
theorem dX2_takeSign_0 : decode cX2_takeSign 0 = .ok (.aload_n 1, 1) := by decide +kernel
theorem dX2_takeSign_1 : decode cX2_takeSign 1 = .ok (.iload_n 2, 1) := by decide +kernel
theorem dX2_takeSign_2 : decode cX2_takeSign 2 = .ok (.iconst 0, 1) := by decide +kernel
theorem dX2_takeSign_3 : decode cX2_takeSign 3 = .ok (.invokevirtual 45, 3) := by decide +kernel
theorem dX2_takeSign_6 : decode cX2_takeSign 6 = .ok (.istore 4, 2) := by decide +kernel
theorem dX2_takeSign_8 : decode cX2_takeSign 8 = .ok (.iconst 0, 1) := by decide +kernel
theorem dX2_takeSign_9 : decode cX2_takeSign 9 = .ok (.aload_n 1, 1) := by decide +kernel
theorem dX2_takeSign_10 : decode cX2_takeSign 10 = .ok (.iload_n 2, 1) := by decide +kernel
theorem dX2_takeSign_11 : decode cX2_takeSign 11 = .ok (.iconst 1, 1) := by decide +kernel
theorem dX2_takeSign_12 : decode cX2_takeSign 12 = .ok (.invokevirtual 45, 3) := by decide +kernel
theorem dX2_takeSign_15 : decode cX2_takeSign 15 = .ok (.bipush 20, 2) := by decide +kernel
theorem dX2_takeSign_17 : decode cX2_takeSign 17 = .ok (.invokestatic 89, 3) := by decide +kernel
theorem dX2_takeSign_20 : decode cX2_takeSign 20 = .ok (.invokestatic 97, 3) := by decide +kernel
theorem dX2_takeSign_23 : decode cX2_takeSign 23 = .ok (.istore 5, 2) := by decide +kernel
theorem dX2_takeSign_25 : decode cX2_takeSign 25 = .ok (.aload_n 1, 1) := by decide +kernel
theorem dX2_takeSign_26 : decode cX2_takeSign 26 = .ok (.iload_n 2, 1) := by decide +kernel
theorem dX2_takeSign_27 : decode cX2_takeSign 27 = .ok (.iconst 3, 1) := by decide +kernel
theorem dX2_takeSign_28 : decode cX2_takeSign 28 = .ok (.invokevirtual 45, 3) := by decide +kernel
theorem dX2_takeSign_31 : decode cX2_takeSign 31 = .ok (.bipush 39, 2) := by decide +kernel
theorem dX2_takeSign_33 : decode cX2_takeSign 33 = .ok (.invokestatic 89, 3) := by decide +kernel
theorem dX2_takeSign_36 : decode cX2_takeSign 36 = .ok (.istore 6, 2) := by decide +kernel
theorem dX2_takeSign_38 : decode cX2_takeSign 38 = .ok (.iconst 0, 1) := by decide +kernel
theorem dX2_takeSign_39 : decode cX2_takeSign 39 = .ok (.aload_n 1, 1) := by decide +kernel
theorem dX2_takeSign_40 : decode cX2_takeSign 40 = .ok (.iload_n 2, 1) := by decide +kernel
theorem dX2_takeSign_41 : decode cX2_takeSign 41 = .ok (.iconst 2, 1) := by decide +kernel
theorem dX2_takeSign_42 : decode cX2_takeSign 42 = .ok (.invokevirtual 45, 3) := by decide +kernel
theorem dX2_takeSign_45 : decode cX2_takeSign 45 = .ok (.invokestatic 97, 3) := by decide +kernel
theorem dX2_takeSign_48 : decode cX2_takeSign 48 = .ok (.istore 7, 2) := by decide +kernel
theorem dX2_takeSign_50 : decode cX2_takeSign 50 = .ok (.iload 7, 2) := by decide +kernel
theorem dX2_takeSign_52 : decode cX2_takeSign 52 = .ok (.iload 6, 2) := by decide +kernel
theorem dX2_takeSign_54 : decode cX2_takeSign 54 = .ok (.if_icmp .gt 81, 3) := by decide +kernel
theorem dX2_takeSign_57 : decode cX2_takeSign 57 = .ok (.iload 4, 2) := by decide +kernel
theorem dX2_takeSign_59 : decode cX2_takeSign 59 = .ok (.ifCond .ne 23, 3) := by decide +kernel
theorem dX2_takeSign_62 : decode cX2_takeSign 62 = .ok (.aload_n 0, 1) := by decide +kernel
theorem dX2_takeSign_63 : decode cX2_takeSign 63 = .ok (.getfield 21, 3) := by decide +kernel
theorem dX2_takeSign_66 : decode cX2_takeSign 66 = .ok (.bipush 21, 2) := by decide +kernel
theorem dX2_takeSign_68 : decode cX2_takeSign 68 = .ok (.iload 7, 2) := by decide +kernel
theorem dX2_takeSign_70 : decode cX2_takeSign 70 = .ok (.imul, 1) := by decide +kernel
theorem dX2_takeSign_71 : decode cX2_takeSign 71 = .ok (.iload 5, 2) := by decide +kernel
theorem dX2_takeSign_73 : decode cX2_takeSign 73 = .ok (.iadd, 1) := by decide +kernel
theorem dX2_takeSign_74 : decode cX2_takeSign 74 = .ok (.dup2, 1) := by decide +kernel
theorem dX2_takeSign_75 : decode cX2_takeSign 75 = .ok (.iaload, 1) := by decide +kernel
theorem dX2_takeSign_76 : decode cX2_takeSign 76 = .ok (.iload_n 3, 1) := by decide +kernel
theorem dX2_takeSign_77 : decode cX2_takeSign 77 = .ok (.ior, 1) := by decide +kernel
theorem dX2_takeSign_78 : decode cX2_takeSign 78 = .ok (.iastore, 1) := by decide +kernel
theorem dX2_takeSign_79 : decode cX2_takeSign 79 = .ok (.goto 50, 3) := by decide +kernel
theorem dX2_takeSign_82 : decode cX2_takeSign 82 = .ok (.iload 4, 2) := by decide +kernel
theorem dX2_takeSign_84 : decode cX2_takeSign 84 = .ok (.iconst 1, 1) := by decide +kernel
theorem dX2_takeSign_85 : decode cX2_takeSign 85 = .ok (.if_icmp .ne 25, 3) := by decide +kernel
theorem dX2_takeSign_88 : decode cX2_takeSign 88 = .ok (.aload_n 0, 1) := by decide +kernel
theorem dX2_takeSign_89 : decode cX2_takeSign 89 = .ok (.getfield 18, 3) := by decide +kernel
theorem dX2_takeSign_92 : decode cX2_takeSign 92 = .ok (.iload 7, 2) := by decide +kernel
theorem dX2_takeSign_94 : decode cX2_takeSign 94 = .ok (.aload_n 0, 1) := by decide +kernel
theorem dX2_takeSign_95 : decode cX2_takeSign 95 = .ok (.getfield 18, 3) := by decide +kernel
theorem dX2_takeSign_98 : decode cX2_takeSign 98 = .ok (.iload 7, 2) := by decide +kernel
theorem dX2_takeSign_100 : decode cX2_takeSign 100 = .ok (.iaload, 1) := by decide +kernel
theorem dX2_takeSign_101 : decode cX2_takeSign 101 = .ok (.iload 5, 2) := by decide +kernel
theorem dX2_takeSign_103 : decode cX2_takeSign 103 = .ok (.invokestatic 89, 3) := by decide +kernel
theorem dX2_takeSign_106 : decode cX2_takeSign 106 = .ok (.iastore, 1) := by decide +kernel
theorem dX2_takeSign_107 : decode cX2_takeSign 107 = .ok (.goto 22, 3) := by decide +kernel
theorem dX2_takeSign_110 : decode cX2_takeSign 110 = .ok (.aload_n 0, 1) := by decide +kernel
theorem dX2_takeSign_111 : decode cX2_takeSign 111 = .ok (.getfield 15, 3) := by decide +kernel
theorem dX2_takeSign_114 : decode cX2_takeSign 114 = .ok (.iload 7, 2) := by decide +kernel
theorem dX2_takeSign_116 : decode cX2_takeSign 116 = .ok (.aload_n 0, 1) := by decide +kernel
theorem dX2_takeSign_117 : decode cX2_takeSign 117 = .ok (.getfield 15, 3) := by decide +kernel
theorem dX2_takeSign_120 : decode cX2_takeSign 120 = .ok (.iload 7, 2) := by decide +kernel
theorem dX2_takeSign_122 : decode cX2_takeSign 122 = .ok (.iaload, 1) := by decide +kernel
theorem dX2_takeSign_123 : decode cX2_takeSign 123 = .ok (.iload 5, 2) := by decide +kernel
theorem dX2_takeSign_125 : decode cX2_takeSign 125 = .ok (.invokestatic 97, 3) := by decide +kernel
theorem dX2_takeSign_128 : decode cX2_takeSign 128 = .ok (.iastore, 1) := by decide +kernel
theorem dX2_takeSign_129 : decode cX2_takeSign 129 = .ok (.iinc 7 1, 3) := by decide +kernel
theorem dX2_takeSign_132 : decode cX2_takeSign 132 = .ok (.goto (-82), 3) := by decide +kernel
theorem dX2_takeSign_135 : decode cX2_takeSign 135 = .ok (.return_, 1) := by decide +kernel
set_option maxRecDepth 20000 in
theorem ggX2_findWaysFrom_X2_wayAt : GoodIn wsX2_findWaysFrom wsX2_wayAt := goodIn_r _ [6] (by decide +kernel) (by decide +kernel)
set_option maxRecDepth 20000 in
theorem gX2_findWaysFrom_X2_wayAt : GoodIn wsX2_findWaysFrom (va_wsS RX2 100 yX2_wayAt wsX2_wayAt) := goodIn_app (goodIn_of _ (by decide +kernel)) ggX2_findWaysFrom_X2_wayAt
set_option maxRecDepth 20000 in
theorem ggX2_findWaysFrom_X2_leastWayFrom : GoodIn wsX2_findWaysFrom wsX2_leastWayFrom := goodIn_r _ [10, 11, 12, 13, 14, 1, 15, 16, 17, 18, 19, 20, 21, 22, 23, 24, 25, 2, 3, 4, 5, 6, 26, 27, 28, 29, 30, 31, 32, 33, 34, 35] (by decide +kernel) (by decide +kernel)
set_option maxRecDepth 20000 in
theorem gX2_findWaysFrom_X2_leastWayFrom : GoodIn wsX2_findWaysFrom (wsV RX2 104 RX2 yX2_leastWayFrom wsX2_leastWayFrom) := goodIn_app (goodIn_of _ (by decide +kernel)) ggX2_findWaysFrom_X2_leastWayFrom
theorem dX2_findWaysFrom_0 : decode cX2_findWaysFrom 0 = .ok (.iconst 0, 1) := by decide +kernel
theorem dX2_findWaysFrom_1 : decode cX2_findWaysFrom 1 = .ok (.istore_n 2, 1) := by decide +kernel
theorem dX2_findWaysFrom_2 : decode cX2_findWaysFrom 2 = .ok (.iload_n 2, 1) := by decide +kernel
theorem dX2_findWaysFrom_3 : decode cX2_findWaysFrom 3 = .ok (.aload_n 0, 1) := by decide +kernel
theorem dX2_findWaysFrom_4 : decode cX2_findWaysFrom 4 = .ok (.getfield 94, 3) := by decide +kernel
theorem dX2_findWaysFrom_7 : decode cX2_findWaysFrom 7 = .ok (.if_icmp .gt 41, 3) := by decide +kernel
theorem dX2_findWaysFrom_10 : decode cX2_findWaysFrom 10 = .ok (.iconst 0, 1) := by decide +kernel
theorem dX2_findWaysFrom_11 : decode cX2_findWaysFrom 11 = .ok (.istore_n 3, 1) := by decide +kernel
theorem dX2_findWaysFrom_12 : decode cX2_findWaysFrom 12 = .ok (.iload_n 3, 1) := by decide +kernel
theorem dX2_findWaysFrom_13 : decode cX2_findWaysFrom 13 = .ok (.bipush 21, 2) := by decide +kernel
theorem dX2_findWaysFrom_15 : decode cX2_findWaysFrom 15 = .ok (.if_icmp .ge 27, 3) := by decide +kernel
theorem dX2_findWaysFrom_18 : decode cX2_findWaysFrom 18 = .ok (.aload_n 0, 1) := by decide +kernel
theorem dX2_findWaysFrom_19 : decode cX2_findWaysFrom 19 = .ok (.getfield 11, 3) := by decide +kernel
theorem dX2_findWaysFrom_22 : decode cX2_findWaysFrom 22 = .ok (.iload_n 1, 1) := by decide +kernel
theorem dX2_findWaysFrom_23 : decode cX2_findWaysFrom 23 = .ok (.iload_n 2, 1) := by decide +kernel
theorem dX2_findWaysFrom_24 : decode cX2_findWaysFrom 24 = .ok (.iload_n 3, 1) := by decide +kernel
theorem dX2_findWaysFrom_25 : decode cX2_findWaysFrom 25 = .ok (.invokestatic 100, 3) := by decide +kernel
theorem dX2_findWaysFrom_28 : decode cX2_findWaysFrom 28 = .ok (.aload_n 0, 1) := by decide +kernel
theorem dX2_findWaysFrom_29 : decode cX2_findWaysFrom 29 = .ok (.iload_n 1, 1) := by decide +kernel
theorem dX2_findWaysFrom_30 : decode cX2_findWaysFrom 30 = .ok (.iload_n 2, 1) := by decide +kernel
theorem dX2_findWaysFrom_31 : decode cX2_findWaysFrom 31 = .ok (.iload_n 3, 1) := by decide +kernel
theorem dX2_findWaysFrom_32 : decode cX2_findWaysFrom 32 = .ok (.invokevirtual 104, 3) := by decide +kernel
theorem dX2_findWaysFrom_35 : decode cX2_findWaysFrom 35 = .ok (.iastore, 1) := by decide +kernel
theorem dX2_findWaysFrom_36 : decode cX2_findWaysFrom 36 = .ok (.iinc 3 1, 3) := by decide +kernel
theorem dX2_findWaysFrom_39 : decode cX2_findWaysFrom 39 = .ok (.goto (-27), 3) := by decide +kernel
theorem dX2_findWaysFrom_42 : decode cX2_findWaysFrom 42 = .ok (.iinc 2 1, 3) := by decide +kernel
theorem dX2_findWaysFrom_45 : decode cX2_findWaysFrom 45 = .ok (.goto (-43), 3) := by decide +kernel
theorem dX2_findWaysFrom_48 : decode cX2_findWaysFrom 48 = .ok (.return_, 1) := by decide +kernel
set_option maxRecDepth 20000 in
theorem ggX2_leastWayFrom_X2_wayAt : GoodIn wsX2_leastWayFrom wsX2_wayAt := goodIn_r _ [21] (by decide +kernel) (by decide +kernel)
set_option maxRecDepth 20000 in
theorem gX2_leastWayFrom_X2_wayAt : GoodIn wsX2_leastWayFrom (va_wsS RX2 100 yX2_wayAt wsX2_wayAt) := goodIn_app (goodIn_of _ (by decide +kernel)) ggX2_leastWayFrom_X2_wayAt
theorem dX2_leastWayFrom_0 : decode cX2_leastWayFrom 0 = .ok (.iload_n 3, 1) := by decide +kernel
theorem dX2_leastWayFrom_1 : decode cX2_leastWayFrom 1 = .ok (.aload_n 0, 1) := by decide +kernel
theorem dX2_leastWayFrom_2 : decode cX2_leastWayFrom 2 = .ok (.getfield 15, 3) := by decide +kernel
theorem dX2_leastWayFrom_5 : decode cX2_leastWayFrom 5 = .ok (.iload_n 1, 1) := by decide +kernel
theorem dX2_leastWayFrom_6 : decode cX2_leastWayFrom 6 = .ok (.iaload, 1) := by decide +kernel
theorem dX2_leastWayFrom_7 : decode cX2_leastWayFrom 7 = .ok (.if_icmp .lt 13, 3) := by decide +kernel
theorem dX2_leastWayFrom_10 : decode cX2_leastWayFrom 10 = .ok (.iload_n 3, 1) := by decide +kernel
theorem dX2_leastWayFrom_11 : decode cX2_leastWayFrom 11 = .ok (.aload_n 0, 1) := by decide +kernel
theorem dX2_leastWayFrom_12 : decode cX2_leastWayFrom 12 = .ok (.getfield 18, 3) := by decide +kernel
theorem dX2_leastWayFrom_15 : decode cX2_leastWayFrom 15 = .ok (.iload_n 1, 1) := by decide +kernel
theorem dX2_leastWayFrom_16 : decode cX2_leastWayFrom 16 = .ok (.iaload, 1) := by decide +kernel
theorem dX2_leastWayFrom_17 : decode cX2_leastWayFrom 17 = .ok (.if_icmp .le 6, 3) := by decide +kernel
theorem dX2_leastWayFrom_20 : decode cX2_leastWayFrom 20 = .ok (.ldc 107, 2) := by decide +kernel
theorem dX2_leastWayFrom_22 : decode cX2_leastWayFrom 22 = .ok (.ireturn, 1) := by decide +kernel
theorem dX2_leastWayFrom_23 : decode cX2_leastWayFrom 23 = .ok (.iload_n 2, 1) := by decide +kernel
theorem dX2_leastWayFrom_24 : decode cX2_leastWayFrom 24 = .ok (.aload_n 0, 1) := by decide +kernel
theorem dX2_leastWayFrom_25 : decode cX2_leastWayFrom 25 = .ok (.getfield 21, 3) := by decide +kernel
theorem dX2_leastWayFrom_28 : decode cX2_leastWayFrom 28 = .ok (.bipush 21, 2) := by decide +kernel
theorem dX2_leastWayFrom_30 : decode cX2_leastWayFrom 30 = .ok (.iload_n 1, 1) := by decide +kernel
theorem dX2_leastWayFrom_31 : decode cX2_leastWayFrom 31 = .ok (.imul, 1) := by decide +kernel
theorem dX2_leastWayFrom_32 : decode cX2_leastWayFrom 32 = .ok (.iload_n 3, 1) := by decide +kernel
theorem dX2_leastWayFrom_33 : decode cX2_leastWayFrom 33 = .ok (.iadd, 1) := by decide +kernel
theorem dX2_leastWayFrom_34 : decode cX2_leastWayFrom 34 = .ok (.iaload, 1) := by decide +kernel
theorem dX2_leastWayFrom_35 : decode cX2_leastWayFrom 35 = .ok (.ior, 1) := by decide +kernel
theorem dX2_leastWayFrom_36 : decode cX2_leastWayFrom 36 = .ok (.aload_n 0, 1) := by decide +kernel
theorem dX2_leastWayFrom_37 : decode cX2_leastWayFrom 37 = .ok (.getfield 94, 3) := by decide +kernel
theorem dX2_leastWayFrom_40 : decode cX2_leastWayFrom 40 = .ok (.iand, 1) := by decide +kernel
theorem dX2_leastWayFrom_41 : decode cX2_leastWayFrom 41 = .ok (.istore 4, 2) := by decide +kernel
theorem dX2_leastWayFrom_43 : decode cX2_leastWayFrom 43 = .ok (.iload_n 1, 1) := by decide +kernel
theorem dX2_leastWayFrom_44 : decode cX2_leastWayFrom 44 = .ok (.bipush 39, 2) := by decide +kernel
theorem dX2_leastWayFrom_46 : decode cX2_leastWayFrom 46 = .ok (.if_icmp .ne 19, 3) := by decide +kernel
theorem dX2_leastWayFrom_49 : decode cX2_leastWayFrom 49 = .ok (.iload 4, 2) := by decide +kernel
theorem dX2_leastWayFrom_51 : decode cX2_leastWayFrom 51 = .ok (.aload_n 0, 1) := by decide +kernel
theorem dX2_leastWayFrom_52 : decode cX2_leastWayFrom 52 = .ok (.getfield 94, 3) := by decide +kernel
theorem dX2_leastWayFrom_55 : decode cX2_leastWayFrom 55 = .ok (.if_icmp .ne 7, 3) := by decide +kernel
theorem dX2_leastWayFrom_58 : decode cX2_leastWayFrom 58 = .ok (.iconst 0, 1) := by decide +kernel
theorem dX2_leastWayFrom_59 : decode cX2_leastWayFrom 59 = .ok (.goto 5, 3) := by decide +kernel
theorem dX2_leastWayFrom_62 : decode cX2_leastWayFrom 62 = .ok (.ldc 107, 2) := by decide +kernel
theorem dX2_leastWayFrom_64 : decode cX2_leastWayFrom 64 = .ok (.ireturn, 1) := by decide +kernel
theorem dX2_leastWayFrom_65 : decode cX2_leastWayFrom 65 = .ok (.ldc 107, 2) := by decide +kernel
theorem dX2_leastWayFrom_67 : decode cX2_leastWayFrom 67 = .ok (.istore 5, 2) := by decide +kernel
theorem dX2_leastWayFrom_69 : decode cX2_leastWayFrom 69 = .ok (.bipush 20, 2) := by decide +kernel
theorem dX2_leastWayFrom_71 : decode cX2_leastWayFrom 71 = .ok (.iload_n 3, 1) := by decide +kernel
theorem dX2_leastWayFrom_72 : decode cX2_leastWayFrom 72 = .ok (.aload_n 0, 1) := by decide +kernel
theorem dX2_leastWayFrom_73 : decode cX2_leastWayFrom 73 = .ok (.getfield 56, 3) := by decide +kernel
theorem dX2_leastWayFrom_76 : decode cX2_leastWayFrom 76 = .ok (.iadd, 1) := by decide +kernel
theorem dX2_leastWayFrom_77 : decode cX2_leastWayFrom 77 = .ok (.invokestatic 89, 3) := by decide +kernel
theorem dX2_leastWayFrom_80 : decode cX2_leastWayFrom 80 = .ok (.istore 6, 2) := by decide +kernel
theorem dX2_leastWayFrom_82 : decode cX2_leastWayFrom 82 = .ok (.iconst 0, 1) := by decide +kernel
theorem dX2_leastWayFrom_83 : decode cX2_leastWayFrom 83 = .ok (.iload_n 3, 1) := by decide +kernel
theorem dX2_leastWayFrom_84 : decode cX2_leastWayFrom 84 = .ok (.aload_n 0, 1) := by decide +kernel
theorem dX2_leastWayFrom_85 : decode cX2_leastWayFrom 85 = .ok (.getfield 56, 3) := by decide +kernel
theorem dX2_leastWayFrom_88 : decode cX2_leastWayFrom 88 = .ok (.isub, 1) := by decide +kernel
theorem dX2_leastWayFrom_89 : decode cX2_leastWayFrom 89 = .ok (.invokestatic 97, 3) := by decide +kernel
theorem dX2_leastWayFrom_92 : decode cX2_leastWayFrom 92 = .ok (.istore 7, 2) := by decide +kernel
theorem dX2_leastWayFrom_94 : decode cX2_leastWayFrom 94 = .ok (.iload 7, 2) := by decide +kernel
theorem dX2_leastWayFrom_96 : decode cX2_leastWayFrom 96 = .ok (.iload 6, 2) := by decide +kernel
theorem dX2_leastWayFrom_98 : decode cX2_leastWayFrom 98 = .ok (.if_icmp .gt 39, 3) := by decide +kernel
theorem dX2_leastWayFrom_101 : decode cX2_leastWayFrom 101 = .ok (.iload 5, 2) := by decide +kernel
theorem dX2_leastWayFrom_103 : decode cX2_leastWayFrom 103 = .ok (.iload 7, 2) := by decide +kernel
theorem dX2_leastWayFrom_105 : decode cX2_leastWayFrom 105 = .ok (.iload_n 3, 1) := by decide +kernel
theorem dX2_leastWayFrom_106 : decode cX2_leastWayFrom 106 = .ok (.isub, 1) := by decide +kernel
theorem dX2_leastWayFrom_107 : decode cX2_leastWayFrom 107 = .ok (.invokestatic 108, 3) := by decide +kernel
theorem dX2_leastWayFrom_110 : decode cX2_leastWayFrom 110 = .ok (.aload_n 0, 1) := by decide +kernel
theorem dX2_leastWayFrom_111 : decode cX2_leastWayFrom 111 = .ok (.getfield 11, 3) := by decide +kernel
theorem dX2_leastWayFrom_114 : decode cX2_leastWayFrom 114 = .ok (.iload_n 1, 1) := by decide +kernel
theorem dX2_leastWayFrom_115 : decode cX2_leastWayFrom 115 = .ok (.iconst 1, 1) := by decide +kernel
theorem dX2_leastWayFrom_116 : decode cX2_leastWayFrom 116 = .ok (.iadd, 1) := by decide +kernel
theorem dX2_leastWayFrom_117 : decode cX2_leastWayFrom 117 = .ok (.iload 4, 2) := by decide +kernel
theorem dX2_leastWayFrom_119 : decode cX2_leastWayFrom 119 = .ok (.iload 7, 2) := by decide +kernel
theorem dX2_leastWayFrom_121 : decode cX2_leastWayFrom 121 = .ok (.invokestatic 100, 3) := by decide +kernel
theorem dX2_leastWayFrom_124 : decode cX2_leastWayFrom 124 = .ok (.iaload, 1) := by decide +kernel
theorem dX2_leastWayFrom_125 : decode cX2_leastWayFrom 125 = .ok (.iadd, 1) := by decide +kernel
theorem dX2_leastWayFrom_126 : decode cX2_leastWayFrom 126 = .ok (.invokestatic 89, 3) := by decide +kernel
theorem dX2_leastWayFrom_129 : decode cX2_leastWayFrom 129 = .ok (.istore 5, 2) := by decide +kernel
theorem dX2_leastWayFrom_131 : decode cX2_leastWayFrom 131 = .ok (.iinc 7 1, 3) := by decide +kernel
theorem dX2_leastWayFrom_134 : decode cX2_leastWayFrom 134 = .ok (.goto (-40), 3) := by decide +kernel
theorem dX2_leastWayFrom_137 : decode cX2_leastWayFrom 137 = .ok (.iload 5, 2) := by decide +kernel
theorem dX2_leastWayFrom_139 : decode cX2_leastWayFrom 139 = .ok (.ireturn, 1) := by decide +kernel
set_option maxRecDepth 20000 in
theorem ggX2_followFirstRow_X2_leastFront : GoodIn wsX2_followFirstRow wsX2_leastFront := goodIn_r _ [19, 3, 20, 21, 7, 22, 1, 23, 24, 18, 25, 26, 27, 28, 29, 30, 31, 32, 33, 34, 35] (by decide +kernel) (by decide +kernel)
set_option maxRecDepth 20000 in
theorem gX2_followFirstRow_X2_leastFront : GoodIn wsX2_followFirstRow (wsV RX2 112 RX2 yX2_leastFront wsX2_leastFront) := goodIn_app (goodIn_of _ (by decide +kernel)) ggX2_followFirstRow_X2_leastFront
set_option maxRecDepth 20000 in
theorem ggX2_followFirstRow_X2_wayAt : GoodIn wsX2_followFirstRow wsX2_wayAt := goodIn_r _ [25] (by decide +kernel) (by decide +kernel)
set_option maxRecDepth 20000 in
theorem gX2_followFirstRow_X2_wayAt : GoodIn wsX2_followFirstRow (va_wsS RX2 100 yX2_wayAt wsX2_wayAt) := goodIn_app (goodIn_of _ (by decide +kernel)) ggX2_followFirstRow_X2_wayAt
theorem dX2_followFirstRow_0 : decode cX2_followFirstRow 0 = .ok (.iconst 0, 1) := by decide +kernel
theorem dX2_followFirstRow_1 : decode cX2_followFirstRow 1 = .ok (.istore_n 1, 1) := by decide +kernel
theorem dX2_followFirstRow_2 : decode cX2_followFirstRow 2 = .ok (.aload_n 0, 1) := by decide +kernel
theorem dX2_followFirstRow_3 : decode cX2_followFirstRow 3 = .ok (.iconst 0, 1) := by decide +kernel
theorem dX2_followFirstRow_4 : decode cX2_followFirstRow 4 = .ok (.iload_n 1, 1) := by decide +kernel
theorem dX2_followFirstRow_5 : decode cX2_followFirstRow 5 = .ok (.iconst 0, 1) := by decide +kernel
theorem dX2_followFirstRow_6 : decode cX2_followFirstRow 6 = .ok (.bipush 20, 2) := by decide +kernel
theorem dX2_followFirstRow_8 : decode cX2_followFirstRow 8 = .ok (.iconst 0, 1) := by decide +kernel
theorem dX2_followFirstRow_9 : decode cX2_followFirstRow 9 = .ok (.invokevirtual 112, 3) := by decide +kernel
theorem dX2_followFirstRow_12 : decode cX2_followFirstRow 12 = .ok (.istore_n 2, 1) := by decide +kernel
theorem dX2_followFirstRow_13 : decode cX2_followFirstRow 13 = .ok (.aload_n 0, 1) := by decide +kernel
theorem dX2_followFirstRow_14 : decode cX2_followFirstRow 14 = .ok (.aload_n 0, 1) := by decide +kernel
theorem dX2_followFirstRow_15 : decode cX2_followFirstRow 15 = .ok (.getfield 11, 3) := by decide +kernel
theorem dX2_followFirstRow_18 : decode cX2_followFirstRow 18 = .ok (.iconst 0, 1) := by decide +kernel
theorem dX2_followFirstRow_19 : decode cX2_followFirstRow 19 = .ok (.iload_n 1, 1) := by decide +kernel
theorem dX2_followFirstRow_20 : decode cX2_followFirstRow 20 = .ok (.iload_n 2, 1) := by decide +kernel
theorem dX2_followFirstRow_21 : decode cX2_followFirstRow 21 = .ok (.invokestatic 100, 3) := by decide +kernel
theorem dX2_followFirstRow_24 : decode cX2_followFirstRow 24 = .ok (.iaload, 1) := by decide +kernel
theorem dX2_followFirstRow_25 : decode cX2_followFirstRow 25 = .ok (.putfield 49, 3) := by decide +kernel
theorem dX2_followFirstRow_28 : decode cX2_followFirstRow 28 = .ok (.aload_n 0, 1) := by decide +kernel
theorem dX2_followFirstRow_29 : decode cX2_followFirstRow 29 = .ok (.getfield 49, 3) := by decide +kernel
theorem dX2_followFirstRow_32 : decode cX2_followFirstRow 32 = .ok (.ldc 107, 2) := by decide +kernel
theorem dX2_followFirstRow_34 : decode cX2_followFirstRow 34 = .ok (.if_icmp .lt 9, 3) := by decide +kernel
theorem dX2_followFirstRow_37 : decode cX2_followFirstRow 37 = .ok (.aload_n 0, 1) := by decide +kernel
theorem dX2_followFirstRow_38 : decode cX2_followFirstRow 38 = .ok (.iconst (-1), 1) := by decide +kernel
theorem dX2_followFirstRow_39 : decode cX2_followFirstRow 39 = .ok (.putfield 49, 3) := by decide +kernel
theorem dX2_followFirstRow_42 : decode cX2_followFirstRow 42 = .ok (.return_, 1) := by decide +kernel
theorem dX2_followFirstRow_43 : decode cX2_followFirstRow 43 = .ok (.iconst 0, 1) := by decide +kernel
theorem dX2_followFirstRow_44 : decode cX2_followFirstRow 44 = .ok (.istore_n 3, 1) := by decide +kernel
theorem dX2_followFirstRow_45 : decode cX2_followFirstRow 45 = .ok (.iload_n 3, 1) := by decide +kernel
theorem dX2_followFirstRow_46 : decode cX2_followFirstRow 46 = .ok (.bipush 40, 2) := by decide +kernel
theorem dX2_followFirstRow_48 : decode cX2_followFirstRow 48 = .ok (.if_icmp .ge 68, 3) := by decide +kernel
theorem dX2_followFirstRow_51 : decode cX2_followFirstRow 51 = .ok (.iload_n 3, 1) := by decide +kernel
theorem dX2_followFirstRow_52 : decode cX2_followFirstRow 52 = .ok (.ifCond .le 32, 3) := by decide +kernel
theorem dX2_followFirstRow_55 : decode cX2_followFirstRow 55 = .ok (.aload_n 0, 1) := by decide +kernel
theorem dX2_followFirstRow_56 : decode cX2_followFirstRow 56 = .ok (.iload_n 3, 1) := by decide +kernel
theorem dX2_followFirstRow_57 : decode cX2_followFirstRow 57 = .ok (.iload_n 1, 1) := by decide +kernel
theorem dX2_followFirstRow_58 : decode cX2_followFirstRow 58 = .ok (.iconst 0, 1) := by decide +kernel
theorem dX2_followFirstRow_59 : decode cX2_followFirstRow 59 = .ok (.iload_n 2, 1) := by decide +kernel
theorem dX2_followFirstRow_60 : decode cX2_followFirstRow 60 = .ok (.aload_n 0, 1) := by decide +kernel
theorem dX2_followFirstRow_61 : decode cX2_followFirstRow 61 = .ok (.getfield 56, 3) := by decide +kernel
theorem dX2_followFirstRow_64 : decode cX2_followFirstRow 64 = .ok (.isub, 1) := by decide +kernel
theorem dX2_followFirstRow_65 : decode cX2_followFirstRow 65 = .ok (.invokestatic 97, 3) := by decide +kernel
theorem dX2_followFirstRow_68 : decode cX2_followFirstRow 68 = .ok (.bipush 20, 2) := by decide +kernel
theorem dX2_followFirstRow_70 : decode cX2_followFirstRow 70 = .ok (.iload_n 2, 1) := by decide +kernel
theorem dX2_followFirstRow_71 : decode cX2_followFirstRow 71 = .ok (.aload_n 0, 1) := by decide +kernel
theorem dX2_followFirstRow_72 : decode cX2_followFirstRow 72 = .ok (.getfield 56, 3) := by decide +kernel
theorem dX2_followFirstRow_75 : decode cX2_followFirstRow 75 = .ok (.iadd, 1) := by decide +kernel
theorem dX2_followFirstRow_76 : decode cX2_followFirstRow 76 = .ok (.invokestatic 89, 3) := by decide +kernel
theorem dX2_followFirstRow_79 : decode cX2_followFirstRow 79 = .ok (.iload_n 2, 1) := by decide +kernel
theorem dX2_followFirstRow_80 : decode cX2_followFirstRow 80 = .ok (.invokevirtual 112, 3) := by decide +kernel
theorem dX2_followFirstRow_83 : decode cX2_followFirstRow 83 = .ok (.istore_n 2, 1) := by decide +kernel
theorem dX2_followFirstRow_84 : decode cX2_followFirstRow 84 = .ok (.aload_n 0, 1) := by decide +kernel
theorem dX2_followFirstRow_85 : decode cX2_followFirstRow 85 = .ok (.getfield 24, 3) := by decide +kernel
theorem dX2_followFirstRow_88 : decode cX2_followFirstRow 88 = .ok (.iload_n 3, 1) := by decide +kernel
theorem dX2_followFirstRow_89 : decode cX2_followFirstRow 89 = .ok (.iload_n 2, 1) := by decide +kernel
theorem dX2_followFirstRow_90 : decode cX2_followFirstRow 90 = .ok (.iastore, 1) := by decide +kernel
theorem dX2_followFirstRow_91 : decode cX2_followFirstRow 91 = .ok (.iload_n 1, 1) := by decide +kernel
theorem dX2_followFirstRow_92 : decode cX2_followFirstRow 92 = .ok (.aload_n 0, 1) := by decide +kernel
theorem dX2_followFirstRow_93 : decode cX2_followFirstRow 93 = .ok (.getfield 21, 3) := by decide +kernel
theorem dX2_followFirstRow_96 : decode cX2_followFirstRow 96 = .ok (.bipush 21, 2) := by decide +kernel
theorem dX2_followFirstRow_98 : decode cX2_followFirstRow 98 = .ok (.iload_n 3, 1) := by decide +kernel
theorem dX2_followFirstRow_99 : decode cX2_followFirstRow 99 = .ok (.imul, 1) := by decide +kernel
theorem dX2_followFirstRow_100 : decode cX2_followFirstRow 100 = .ok (.iload_n 2, 1) := by decide +kernel
theorem dX2_followFirstRow_101 : decode cX2_followFirstRow 101 = .ok (.iadd, 1) := by decide +kernel
theorem dX2_followFirstRow_102 : decode cX2_followFirstRow 102 = .ok (.iaload, 1) := by decide +kernel
theorem dX2_followFirstRow_103 : decode cX2_followFirstRow 103 = .ok (.ior, 1) := by decide +kernel
theorem dX2_followFirstRow_104 : decode cX2_followFirstRow 104 = .ok (.aload_n 0, 1) := by decide +kernel
theorem dX2_followFirstRow_105 : decode cX2_followFirstRow 105 = .ok (.getfield 94, 3) := by decide +kernel
theorem dX2_followFirstRow_108 : decode cX2_followFirstRow 108 = .ok (.iand, 1) := by decide +kernel
theorem dX2_followFirstRow_109 : decode cX2_followFirstRow 109 = .ok (.istore_n 1, 1) := by decide +kernel
theorem dX2_followFirstRow_110 : decode cX2_followFirstRow 110 = .ok (.iinc 3 1, 3) := by decide +kernel
theorem dX2_followFirstRow_113 : decode cX2_followFirstRow 113 = .ok (.goto (-68), 3) := by decide +kernel
theorem dX2_followFirstRow_116 : decode cX2_followFirstRow 116 = .ok (.return_, 1) := by decide +kernel
set_option maxRecDepth 20000 in
theorem ggX2_leastFront_X2_wayAt : GoodIn wsX2_leastFront wsX2_wayAt := goodIn_r _ [10] (by decide +kernel) (by decide +kernel)
set_option maxRecDepth 20000 in
theorem gX2_leastFront_X2_wayAt : GoodIn wsX2_leastFront (va_wsS RX2 100 yX2_wayAt wsX2_wayAt) := goodIn_app (goodIn_of _ (by decide +kernel)) ggX2_leastFront_X2_wayAt
theorem dX2_leastFront_0 : decode cX2_leastFront 0 = .ok (.iload_n 3, 1) := by decide +kernel
theorem dX2_leastFront_1 : decode cX2_leastFront 1 = .ok (.istore 6, 2) := by decide +kernel
theorem dX2_leastFront_3 : decode cX2_leastFront 3 = .ok (.ldc 107, 2) := by decide +kernel
theorem dX2_leastFront_5 : decode cX2_leastFront 5 = .ok (.istore 7, 2) := by decide +kernel
theorem dX2_leastFront_7 : decode cX2_leastFront 7 = .ok (.iload_n 3, 1) := by decide +kernel
theorem dX2_leastFront_8 : decode cX2_leastFront 8 = .ok (.istore 8, 2) := by decide +kernel
theorem dX2_leastFront_10 : decode cX2_leastFront 10 = .ok (.iload 8, 2) := by decide +kernel
theorem dX2_leastFront_12 : decode cX2_leastFront 12 = .ok (.iload 4, 2) := by decide +kernel
theorem dX2_leastFront_14 : decode cX2_leastFront 14 = .ok (.if_icmp .gt 59, 3) := by decide +kernel
theorem dX2_leastFront_17 : decode cX2_leastFront 17 = .ok (.iload_n 1, 1) := by decide +kernel
theorem dX2_leastFront_18 : decode cX2_leastFront 18 = .ok (.ifCond .ne 7, 3) := by decide +kernel
theorem dX2_leastFront_21 : decode cX2_leastFront 21 = .ok (.iconst 0, 1) := by decide +kernel
theorem dX2_leastFront_22 : decode cX2_leastFront 22 = .ok (.goto 11, 3) := by decide +kernel
theorem dX2_leastFront_25 : decode cX2_leastFront 25 = .ok (.iload 8, 2) := by decide +kernel
theorem dX2_leastFront_27 : decode cX2_leastFront 27 = .ok (.iload 5, 2) := by decide +kernel
theorem dX2_leastFront_29 : decode cX2_leastFront 29 = .ok (.isub, 1) := by decide +kernel
theorem dX2_leastFront_30 : decode cX2_leastFront 30 = .ok (.invokestatic 108, 3) := by decide +kernel
theorem dX2_leastFront_33 : decode cX2_leastFront 33 = .ok (.istore 9, 2) := by decide +kernel
theorem dX2_leastFront_35 : decode cX2_leastFront 35 = .ok (.iload 9, 2) := by decide +kernel
theorem dX2_leastFront_37 : decode cX2_leastFront 37 = .ok (.aload_n 0, 1) := by decide +kernel
theorem dX2_leastFront_38 : decode cX2_leastFront 38 = .ok (.getfield 11, 3) := by decide +kernel
theorem dX2_leastFront_41 : decode cX2_leastFront 41 = .ok (.iload_n 1, 1) := by decide +kernel
theorem dX2_leastFront_42 : decode cX2_leastFront 42 = .ok (.iload_n 2, 1) := by decide +kernel
theorem dX2_leastFront_43 : decode cX2_leastFront 43 = .ok (.iload 8, 2) := by decide +kernel
theorem dX2_leastFront_45 : decode cX2_leastFront 45 = .ok (.invokestatic 100, 3) := by decide +kernel
theorem dX2_leastFront_48 : decode cX2_leastFront 48 = .ok (.iaload, 1) := by decide +kernel
theorem dX2_leastFront_49 : decode cX2_leastFront 49 = .ok (.iadd, 1) := by decide +kernel
theorem dX2_leastFront_50 : decode cX2_leastFront 50 = .ok (.istore 10, 2) := by decide +kernel
theorem dX2_leastFront_52 : decode cX2_leastFront 52 = .ok (.iload 10, 2) := by decide +kernel
theorem dX2_leastFront_54 : decode cX2_leastFront 54 = .ok (.iload 7, 2) := by decide +kernel
theorem dX2_leastFront_56 : decode cX2_leastFront 56 = .ok (.if_icmp .ge 11, 3) := by decide +kernel
theorem dX2_leastFront_59 : decode cX2_leastFront 59 = .ok (.iload 8, 2) := by decide +kernel
theorem dX2_leastFront_61 : decode cX2_leastFront 61 = .ok (.istore 6, 2) := by decide +kernel
theorem dX2_leastFront_63 : decode cX2_leastFront 63 = .ok (.iload 10, 2) := by decide +kernel
theorem dX2_leastFront_65 : decode cX2_leastFront 65 = .ok (.istore 7, 2) := by decide +kernel
theorem dX2_leastFront_67 : decode cX2_leastFront 67 = .ok (.iinc 8 1, 3) := by decide +kernel
theorem dX2_leastFront_70 : decode cX2_leastFront 70 = .ok (.goto (-60), 3) := by decide +kernel
theorem dX2_leastFront_73 : decode cX2_leastFront 73 = .ok (.iload 6, 2) := by decide +kernel
theorem dX2_leastFront_75 : decode cX2_leastFront 75 = .ok (.ireturn, 1) := by decide +kernel
theorem dX2_wayAt_0 : decode cX2_wayAt 0 = .ok (.iload_n 0, 1) := by decide +kernel
theorem dX2_wayAt_1 : decode cX2_wayAt 1 = .ok (.bipush 32, 2) := by decide +kernel
theorem dX2_wayAt_3 : decode cX2_wayAt 3 = .ok (.imul, 1) := by decide +kernel
theorem dX2_wayAt_4 : decode cX2_wayAt 4 = .ok (.iload_n 1, 1) := by decide +kernel
theorem dX2_wayAt_5 : decode cX2_wayAt 5 = .ok (.iadd, 1) := by decide +kernel
theorem dX2_wayAt_6 : decode cX2_wayAt 6 = .ok (.bipush 21, 2) := by decide +kernel
theorem dX2_wayAt_8 : decode cX2_wayAt 8 = .ok (.imul, 1) := by decide +kernel
theorem dX2_wayAt_9 : decode cX2_wayAt 9 = .ok (.iload_n 2, 1) := by decide +kernel
theorem dX2_wayAt_10 : decode cX2_wayAt 10 = .ok (.iadd, 1) := by decide +kernel
theorem dX2_wayAt_11 : decode cX2_wayAt 11 = .ok (.ireturn, 1) := by decide +kernel
theorem dX3_init_0 : decode cX3_init 0 = .ok (.aload_n 0, 1) := by decide +kernel
theorem dX3_init_1 : decode cX3_init 1 = .ok (.invokespecial 1, 3) := by decide +kernel
theorem dX3_init_4 : decode cX3_init 4 = .ok (.aload_n 0, 1) := by decide +kernel
theorem dX3_init_5 : decode cX3_init 5 = .ok (.bipush 20, 2) := by decide +kernel
theorem dX3_init_7 : decode cX3_init 7 = .ok (.newarray .int, 2) := by decide +kernel
theorem dX3_init_9 : decode cX3_init 9 = .ok (.putfield 9, 3) := by decide +kernel
theorem dX3_init_12 : decode cX3_init 12 = .ok (.return_, 1) := by decide +kernel
theorem dX3_volume_0 : decode cX3_volume 0 = .ok (.iconst 0, 1) := by decide +kernel
theorem dX3_volume_1 : decode cX3_volume 1 = .ok (.istore_n 3, 1) := by decide +kernel
theorem dX3_volume_2 : decode cX3_volume 2 = .ok (.iconst 0, 1) := by decide +kernel
theorem dX3_volume_3 : decode cX3_volume 3 = .ok (.iload_n 2, 1) := by decide +kernel
theorem dX3_volume_4 : decode cX3_volume 4 = .ok (.invokestatic 13, 3) := by decide +kernel
theorem dX3_volume_7 : decode cX3_volume 7 = .ok (.istore 4, 2) := by decide +kernel
theorem dX3_volume_9 : decode cX3_volume 9 = .ok (.iload 4, 2) := by decide +kernel
theorem dX3_volume_11 : decode cX3_volume 11 = .ok (.iload_n 1, 1) := by decide +kernel
theorem dX3_volume_12 : decode cX3_volume 12 = .ok (.if_icmp .ge 23, 3) := by decide +kernel
theorem dX3_volume_15 : decode cX3_volume 15 = .ok (.iload 4, 2) := by decide +kernel
theorem dX3_volume_17 : decode cX3_volume 17 = .ok (.aload_n 0, 1) := by decide +kernel
theorem dX3_volume_18 : decode cX3_volume 18 = .ok (.arraylength, 1) := by decide +kernel
theorem dX3_volume_19 : decode cX3_volume 19 = .ok (.if_icmp .ge 16, 3) := by decide +kernel
theorem dX3_volume_22 : decode cX3_volume 22 = .ok (.iload_n 3, 1) := by decide +kernel
theorem dX3_volume_23 : decode cX3_volume 23 = .ok (.aload_n 0, 1) := by decide +kernel
theorem dX3_volume_24 : decode cX3_volume 24 = .ok (.iload 4, 2) := by decide +kernel
theorem dX3_volume_26 : decode cX3_volume 26 = .ok (.iaload, 1) := by decide +kernel
theorem dX3_volume_27 : decode cX3_volume 27 = .ok (.iadd, 1) := by decide +kernel
theorem dX3_volume_28 : decode cX3_volume 28 = .ok (.istore_n 3, 1) := by decide +kernel
theorem dX3_volume_29 : decode cX3_volume 29 = .ok (.iinc 4 1, 3) := by decide +kernel
theorem dX3_volume_32 : decode cX3_volume 32 = .ok (.goto (-23), 3) := by decide +kernel
theorem dX3_volume_35 : decode cX3_volume 35 = .ok (.iload_n 3, 1) := by decide +kernel
theorem dX3_volume_36 : decode cX3_volume 36 = .ok (.ireturn, 1) := by decide +kernel
theorem dX3_hours_0 : decode cX3_hours 0 = .ok (.aload_n 0, 1) := by decide +kernel
theorem dX3_hours_1 : decode cX3_hours 1 = .ok (.getfield 19, 3) := by decide +kernel
theorem dX3_hours_4 : decode cX3_hours 4 = .ok (.ireturn, 1) := by decide +kernel
theorem dX3_greatest_0 : decode cX3_greatest 0 = .ok (.aload_n 0, 1) := by decide +kernel
theorem dX3_greatest_1 : decode cX3_greatest 1 = .ok (.getfield 23, 3) := by decide +kernel
theorem dX3_greatest_4 : decode cX3_greatest 4 = .ok (.ireturn, 1) := by decide +kernel
set_option maxRecDepth 20000 in
theorem ggX3_run_X3_volume : GoodIn wsX3_run wsX3_volume := goodIn_r _ [20, 14, 15, 11, 16] (by decide +kernel) (by decide +kernel)
set_option maxRecDepth 20000 in
theorem gX3_run_X3_volume : GoodIn wsX3_run (va_wsS RX3 31 yX3_volume wsX3_volume) := goodIn_app (goodIn_of _ (by decide +kernel)) ggX3_run_X3_volume
set_option maxRecDepth 20000 in
theorem ggX3_run_X3_highestWithSomething : GoodIn wsX3_run wsX3_highestWithSomething := goodIn_r _ [24, 2, 39, 40, 41] (by decide +kernel) (by decide +kernel)
set_option maxRecDepth 20000 in
theorem gX3_run_X3_highestWithSomething : GoodIn wsX3_run (wsV RX3 44 RX3 yX3_highestWithSomething wsX3_highestWithSomething) := goodIn_app (goodIn_of _ (by decide +kernel)) ggX3_run_X3_highestWithSomething
set_option maxRecDepth 20000 in
theorem ggX3_run_X3_drain : GoodIn wsX3_run wsX3_drain := goodIn_r _ [28, 2, 9, 10, 11, 12, 39, 40, 41] (by decide +kernel) (by decide +kernel)
set_option maxRecDepth 20000 in
theorem gX3_run_X3_drain : GoodIn wsX3_run (wsV RX3 50 RX3 yX3_drain wsX3_drain) := goodIn_app (goodIn_of _ (by decide +kernel)) ggX3_run_X3_drain
theorem dX3_run_0 : decode cX3_run 0 = .ok (.aload_n 1, 1) := by decide +kernel
theorem dX3_run_1 : decode cX3_run 1 = .ok (.getfield 26, 3) := by decide +kernel
theorem dX3_run_4 : decode cX3_run 4 = .ok (.iload_n 2, 1) := by decide +kernel
theorem dX3_run_5 : decode cX3_run 5 = .ok (.iload_n 3, 1) := by decide +kernel
theorem dX3_run_6 : decode cX3_run 6 = .ok (.invokestatic 31, 3) := by decide +kernel
theorem dX3_run_9 : decode cX3_run 9 = .ok (.istore 4, 2) := by decide +kernel
theorem dX3_run_11 : decode cX3_run 11 = .ok (.aload_n 1, 1) := by decide +kernel
theorem dX3_run_12 : decode cX3_run 12 = .ok (.getfield 26, 3) := by decide +kernel
theorem dX3_run_15 : decode cX3_run 15 = .ok (.iconst 0, 1) := by decide +kernel
theorem dX3_run_16 : decode cX3_run 16 = .ok (.aload_n 0, 1) := by decide +kernel
theorem dX3_run_17 : decode cX3_run 17 = .ok (.getfield 9, 3) := by decide +kernel
theorem dX3_run_20 : decode cX3_run 20 = .ok (.iconst 0, 1) := by decide +kernel
theorem dX3_run_21 : decode cX3_run 21 = .ok (.bipush 20, 2) := by decide +kernel
theorem dX3_run_23 : decode cX3_run 23 = .ok (.invokestatic 35, 3) := by decide +kernel
theorem dX3_run_26 : decode cX3_run 26 = .ok (.aload_n 0, 1) := by decide +kernel
theorem dX3_run_27 : decode cX3_run 27 = .ok (.iconst 0, 1) := by decide +kernel
theorem dX3_run_28 : decode cX3_run 28 = .ok (.putfield 19, 3) := by decide +kernel
theorem dX3_run_31 : decode cX3_run 31 = .ok (.aload_n 0, 1) := by decide +kernel
theorem dX3_run_32 : decode cX3_run 32 = .ok (.iconst 0, 1) := by decide +kernel
theorem dX3_run_33 : decode cX3_run 33 = .ok (.putfield 23, 3) := by decide +kernel
theorem dX3_run_36 : decode cX3_run 36 = .ok (.iload_n 2, 1) := by decide +kernel
theorem dX3_run_37 : decode cX3_run 37 = .ok (.bipush 20, 2) := by decide +kernel
theorem dX3_run_39 : decode cX3_run 39 = .ok (.invokestatic 41, 3) := by decide +kernel
theorem dX3_run_42 : decode cX3_run 42 = .ok (.iconst 1, 1) := by decide +kernel
theorem dX3_run_43 : decode cX3_run 43 = .ok (.isub, 1) := by decide +kernel
theorem dX3_run_44 : decode cX3_run 44 = .ok (.istore 5, 2) := by decide +kernel
theorem dX3_run_46 : decode cX3_run 46 = .ok (.iload 4, 2) := by decide +kernel
theorem dX3_run_48 : decode cX3_run 48 = .ok (.ifCond .le 84, 3) := by decide +kernel
theorem dX3_run_51 : decode cX3_run 51 = .ok (.aload_n 0, 1) := by decide +kernel
theorem dX3_run_52 : decode cX3_run 52 = .ok (.getfield 19, 3) := by decide +kernel
theorem dX3_run_55 : decode cX3_run 55 = .ok (.sipush 1000, 3) := by decide +kernel
theorem dX3_run_58 : decode cX3_run 58 = .ok (.if_icmp .ge 74, 3) := by decide +kernel
theorem dX3_run_61 : decode cX3_run 61 = .ok (.aload_n 0, 1) := by decide +kernel
theorem dX3_run_62 : decode cX3_run 62 = .ok (.iload 5, 2) := by decide +kernel
theorem dX3_run_64 : decode cX3_run 64 = .ok (.iload_n 3, 1) := by decide +kernel
theorem dX3_run_65 : decode cX3_run 65 = .ok (.invokevirtual 44, 3) := by decide +kernel
theorem dX3_run_68 : decode cX3_run 68 = .ok (.istore 5, 2) := by decide +kernel
theorem dX3_run_70 : decode cX3_run 70 = .ok (.iload 4, 2) := by decide +kernel
theorem dX3_run_72 : decode cX3_run 72 = .ok (.aload_n 1, 1) := by decide +kernel
theorem dX3_run_73 : decode cX3_run 73 = .ok (.getfield 47, 3) := by decide +kernel
theorem dX3_run_76 : decode cX3_run 76 = .ok (.iconst 2, 1) := by decide +kernel
theorem dX3_run_77 : decode cX3_run 77 = .ok (.iaload, 1) := by decide +kernel
theorem dX3_run_78 : decode cX3_run 78 = .ok (.iload 5, 2) := by decide +kernel
theorem dX3_run_80 : decode cX3_run 80 = .ok (.iload_n 3, 1) := by decide +kernel
theorem dX3_run_81 : decode cX3_run 81 = .ok (.isub, 1) := by decide +kernel
theorem dX3_run_82 : decode cX3_run 82 = .ok (.iconst 1, 1) := by decide +kernel
theorem dX3_run_83 : decode cX3_run 83 = .ok (.iadd, 1) := by decide +kernel
theorem dX3_run_84 : decode cX3_run 84 = .ok (.imul, 1) := by decide +kernel
theorem dX3_run_85 : decode cX3_run 85 = .ok (.invokestatic 41, 3) := by decide +kernel
theorem dX3_run_88 : decode cX3_run 88 = .ok (.istore 6, 2) := by decide +kernel
theorem dX3_run_90 : decode cX3_run 90 = .ok (.aload_n 0, 1) := by decide +kernel
theorem dX3_run_91 : decode cX3_run 91 = .ok (.iload 5, 2) := by decide +kernel
theorem dX3_run_93 : decode cX3_run 93 = .ok (.iload_n 3, 1) := by decide +kernel
theorem dX3_run_94 : decode cX3_run 94 = .ok (.iload 6, 2) := by decide +kernel
theorem dX3_run_96 : decode cX3_run 96 = .ok (.invokevirtual 50, 3) := by decide +kernel
theorem dX3_run_99 : decode cX3_run 99 = .ok (.iload 4, 2) := by decide +kernel
theorem dX3_run_101 : decode cX3_run 101 = .ok (.iload 6, 2) := by decide +kernel
theorem dX3_run_103 : decode cX3_run 103 = .ok (.isub, 1) := by decide +kernel
theorem dX3_run_104 : decode cX3_run 104 = .ok (.istore 4, 2) := by decide +kernel
theorem dX3_run_106 : decode cX3_run 106 = .ok (.aload_n 0, 1) := by decide +kernel
theorem dX3_run_107 : decode cX3_run 107 = .ok (.aload_n 0, 1) := by decide +kernel
theorem dX3_run_108 : decode cX3_run 108 = .ok (.getfield 23, 3) := by decide +kernel
theorem dX3_run_111 : decode cX3_run 111 = .ok (.iload 6, 2) := by decide +kernel
theorem dX3_run_113 : decode cX3_run 113 = .ok (.invokestatic 13, 3) := by decide +kernel
theorem dX3_run_116 : decode cX3_run 116 = .ok (.putfield 23, 3) := by decide +kernel
theorem dX3_run_119 : decode cX3_run 119 = .ok (.aload_n 0, 1) := by decide +kernel
theorem dX3_run_120 : decode cX3_run 120 = .ok (.dup, 1) := by decide +kernel
theorem dX3_run_121 : decode cX3_run 121 = .ok (.getfield 19, 3) := by decide +kernel
theorem dX3_run_124 : decode cX3_run 124 = .ok (.iconst 1, 1) := by decide +kernel
theorem dX3_run_125 : decode cX3_run 125 = .ok (.iadd, 1) := by decide +kernel
theorem dX3_run_126 : decode cX3_run 126 = .ok (.putfield 19, 3) := by decide +kernel
theorem dX3_run_129 : decode cX3_run 129 = .ok (.goto (-83), 3) := by decide +kernel
theorem dX3_run_132 : decode cX3_run 132 = .ok (.return_, 1) := by decide +kernel
theorem dX3_highestWithSomething_0 : decode cX3_highestWithSomething 0 = .ok (.iload_n 1, 1) := by decide +kernel
theorem dX3_highestWithSomething_1 : decode cX3_highestWithSomething 1 = .ok (.istore_n 3, 1) := by decide +kernel
theorem dX3_highestWithSomething_2 : decode cX3_highestWithSomething 2 = .ok (.iload_n 3, 1) := by decide +kernel
theorem dX3_highestWithSomething_3 : decode cX3_highestWithSomething 3 = .ok (.iload_n 2, 1) := by decide +kernel
theorem dX3_highestWithSomething_4 : decode cX3_highestWithSomething 4 = .ok (.if_icmp .le 22, 3) := by decide +kernel
theorem dX3_highestWithSomething_7 : decode cX3_highestWithSomething 7 = .ok (.iload_n 3, 1) := by decide +kernel
theorem dX3_highestWithSomething_8 : decode cX3_highestWithSomething 8 = .ok (.ifCond .le 18, 3) := by decide +kernel
theorem dX3_highestWithSomething_11 : decode cX3_highestWithSomething 11 = .ok (.aload_n 0, 1) := by decide +kernel
theorem dX3_highestWithSomething_12 : decode cX3_highestWithSomething 12 = .ok (.getfield 9, 3) := by decide +kernel
theorem dX3_highestWithSomething_15 : decode cX3_highestWithSomething 15 = .ok (.iload_n 3, 1) := by decide +kernel
theorem dX3_highestWithSomething_16 : decode cX3_highestWithSomething 16 = .ok (.iaload, 1) := by decide +kernel
theorem dX3_highestWithSomething_17 : decode cX3_highestWithSomething 17 = .ok (.ifCond .ne 9, 3) := by decide +kernel
theorem dX3_highestWithSomething_20 : decode cX3_highestWithSomething 20 = .ok (.iinc 3 (-1), 3) := by decide +kernel
theorem dX3_highestWithSomething_23 : decode cX3_highestWithSomething 23 = .ok (.goto (-21), 3) := by decide +kernel
theorem dX3_highestWithSomething_26 : decode cX3_highestWithSomething 26 = .ok (.iload_n 3, 1) := by decide +kernel
theorem dX3_highestWithSomething_27 : decode cX3_highestWithSomething 27 = .ok (.ireturn, 1) := by decide +kernel
theorem dX3_drain_0 : decode cX3_drain 0 = .ok (.iload_n 3, 1) := by decide +kernel
theorem dX3_drain_1 : decode cX3_drain 1 = .ok (.istore 4, 2) := by decide +kernel
theorem dX3_drain_3 : decode cX3_drain 3 = .ok (.iload_n 1, 1) := by decide +kernel
theorem dX3_drain_4 : decode cX3_drain 4 = .ok (.istore 5, 2) := by decide +kernel
theorem dX3_drain_6 : decode cX3_drain 6 = .ok (.iload 5, 2) := by decide +kernel
theorem dX3_drain_8 : decode cX3_drain 8 = .ok (.iload_n 2, 1) := by decide +kernel
theorem dX3_drain_9 : decode cX3_drain 9 = .ok (.if_icmp .lt 47, 3) := by decide +kernel
theorem dX3_drain_12 : decode cX3_drain 12 = .ok (.iload 5, 2) := by decide +kernel
theorem dX3_drain_14 : decode cX3_drain 14 = .ok (.ifCond .lt 42, 3) := by decide +kernel
theorem dX3_drain_17 : decode cX3_drain 17 = .ok (.iload 4, 2) := by decide +kernel
theorem dX3_drain_19 : decode cX3_drain 19 = .ok (.aload_n 0, 1) := by decide +kernel
theorem dX3_drain_20 : decode cX3_drain 20 = .ok (.getfield 9, 3) := by decide +kernel
theorem dX3_drain_23 : decode cX3_drain 23 = .ok (.iload 5, 2) := by decide +kernel
theorem dX3_drain_25 : decode cX3_drain 25 = .ok (.iaload, 1) := by decide +kernel
theorem dX3_drain_26 : decode cX3_drain 26 = .ok (.invokestatic 41, 3) := by decide +kernel
theorem dX3_drain_29 : decode cX3_drain 29 = .ok (.istore 6, 2) := by decide +kernel
theorem dX3_drain_31 : decode cX3_drain 31 = .ok (.aload_n 0, 1) := by decide +kernel
theorem dX3_drain_32 : decode cX3_drain 32 = .ok (.getfield 9, 3) := by decide +kernel
theorem dX3_drain_35 : decode cX3_drain 35 = .ok (.iload 5, 2) := by decide +kernel
theorem dX3_drain_37 : decode cX3_drain 37 = .ok (.dup2, 1) := by decide +kernel
theorem dX3_drain_38 : decode cX3_drain 38 = .ok (.iaload, 1) := by decide +kernel
theorem dX3_drain_39 : decode cX3_drain 39 = .ok (.iload 6, 2) := by decide +kernel
theorem dX3_drain_41 : decode cX3_drain 41 = .ok (.isub, 1) := by decide +kernel
theorem dX3_drain_42 : decode cX3_drain 42 = .ok (.iastore, 1) := by decide +kernel
theorem dX3_drain_43 : decode cX3_drain 43 = .ok (.iload 4, 2) := by decide +kernel
theorem dX3_drain_45 : decode cX3_drain 45 = .ok (.iload 6, 2) := by decide +kernel
theorem dX3_drain_47 : decode cX3_drain 47 = .ok (.isub, 1) := by decide +kernel
theorem dX3_drain_48 : decode cX3_drain 48 = .ok (.istore 4, 2) := by decide +kernel
theorem dX3_drain_50 : decode cX3_drain 50 = .ok (.iinc 5 (-1), 3) := by decide +kernel
theorem dX3_drain_53 : decode cX3_drain 53 = .ok (.goto (-47), 3) := by decide +kernel
theorem dX3_drain_56 : decode cX3_drain 56 = .ok (.return_, 1) := by decide +kernel
theorem dX4_init_0 : decode cX4_init 0 = .ok (.aload_n 0, 1) := by decide +kernel
theorem dX4_init_1 : decode cX4_init 1 = .ok (.invokespecial 3, 3) := by decide +kernel
theorem dX4_init_4 : decode cX4_init 4 = .ok (.aload_n 0, 1) := by decide +kernel
theorem dX4_init_5 : decode cX4_init 5 = .ok (.iconst 0, 1) := by decide +kernel
theorem dX4_init_6 : decode cX4_init 6 = .ok (.iload_n 1, 1) := by decide +kernel
theorem dX4_init_7 : decode cX4_init 7 = .ok (.bipush 100, 2) := by decide +kernel
theorem dX4_init_9 : decode cX4_init 9 = .ok (.invokestatic 9, 3) := by decide +kernel
theorem dX4_init_12 : decode cX4_init 12 = .ok (.invokestatic 15, 3) := by decide +kernel
theorem dX4_init_15 : decode cX4_init 15 = .ok (.putfield 18, 3) := by decide +kernel
theorem dX4_init_18 : decode cX4_init 18 = .ok (.aload_n 0, 1) := by decide +kernel
theorem dX4_init_19 : decode cX4_init 19 = .ok (.iconst 5, 1) := by decide +kernel
theorem dX4_init_20 : decode cX4_init 20 = .ok (.aload_n 0, 1) := by decide +kernel
theorem dX4_init_21 : decode cX4_init 21 = .ok (.getfield 18, 3) := by decide +kernel
theorem dX4_init_24 : decode cX4_init 24 = .ok (.imul, 1) := by decide +kernel
theorem dX4_init_25 : decode cX4_init 25 = .ok (.newarray .int, 2) := by decide +kernel
theorem dX4_init_27 : decode cX4_init 27 = .ok (.putfield 24, 3) := by decide +kernel
theorem dX4_init_30 : decode cX4_init 30 = .ok (.return_, 1) := by decide +kernel
theorem dX4_size_0 : decode cX4_size 0 = .ok (.aload_n 0, 1) := by decide +kernel
theorem dX4_size_1 : decode cX4_size 1 = .ok (.getfield 28, 3) := by decide +kernel
theorem dX4_size_4 : decode cX4_size 4 = .ok (.ireturn, 1) := by decide +kernel
theorem dX4_has_0 : decode cX4_has 0 = .ok (.iload_n 1, 1) := by decide +kernel
theorem dX4_has_1 : decode cX4_has 1 = .ok (.ifCond .lt 15, 3) := by decide +kernel
theorem dX4_has_4 : decode cX4_has 4 = .ok (.iload_n 1, 1) := by decide +kernel
theorem dX4_has_5 : decode cX4_has 5 = .ok (.aload_n 0, 1) := by decide +kernel
theorem dX4_has_6 : decode cX4_has 6 = .ok (.getfield 28, 3) := by decide +kernel
theorem dX4_has_9 : decode cX4_has 9 = .ok (.if_icmp .ge 7, 3) := by decide +kernel
theorem dX4_has_12 : decode cX4_has 12 = .ok (.iconst 1, 1) := by decide +kernel
theorem dX4_has_13 : decode cX4_has 13 = .ok (.goto 4, 3) := by decide +kernel
theorem dX4_has_16 : decode cX4_has 16 = .ok (.iconst 0, 1) := by decide +kernel
theorem dX4_has_17 : decode cX4_has 17 = .ok (.ireturn, 1) := by decide +kernel
set_option maxRecDepth 20000 in
theorem ggX4_cell_X4_has : GoodIn wsX4_cell wsX4_has := goodIn_r _ [6, 7, 8, 9, 10] (by decide +kernel) (by decide +kernel)
set_option maxRecDepth 20000 in
theorem gX4_cell_X4_has : GoodIn wsX4_cell (wsV RX4 31 RX4 yX4_has wsX4_has) := goodIn_app (goodIn_of _ (by decide +kernel)) ggX4_cell_X4_has
theorem dX4_cell_0 : decode cX4_cell 0 = .ok (.aload_n 0, 1) := by decide +kernel
theorem dX4_cell_1 : decode cX4_cell 1 = .ok (.iload_n 1, 1) := by decide +kernel
theorem dX4_cell_2 : decode cX4_cell 2 = .ok (.invokevirtual 31, 3) := by decide +kernel
theorem dX4_cell_5 : decode cX4_cell 5 = .ok (.ifCond .eq 12, 3) := by decide +kernel
theorem dX4_cell_8 : decode cX4_cell 8 = .ok (.iload_n 2, 1) := by decide +kernel
theorem dX4_cell_9 : decode cX4_cell 9 = .ok (.ifCond .lt 8, 3) := by decide +kernel
theorem dX4_cell_12 : decode cX4_cell 12 = .ok (.iload_n 2, 1) := by decide +kernel
theorem dX4_cell_13 : decode cX4_cell 13 = .ok (.iconst 5, 1) := by decide +kernel
theorem dX4_cell_14 : decode cX4_cell 14 = .ok (.if_icmp .lt 5, 3) := by decide +kernel
theorem dX4_cell_17 : decode cX4_cell 17 = .ok (.iconst 0, 1) := by decide +kernel
theorem dX4_cell_18 : decode cX4_cell 18 = .ok (.ireturn, 1) := by decide +kernel
theorem dX4_cell_19 : decode cX4_cell 19 = .ok (.aload_n 0, 1) := by decide +kernel
theorem dX4_cell_20 : decode cX4_cell 20 = .ok (.getfield 24, 3) := by decide +kernel
theorem dX4_cell_23 : decode cX4_cell 23 = .ok (.iconst 5, 1) := by decide +kernel
theorem dX4_cell_24 : decode cX4_cell 24 = .ok (.iload_n 1, 1) := by decide +kernel
theorem dX4_cell_25 : decode cX4_cell 25 = .ok (.imul, 1) := by decide +kernel
theorem dX4_cell_26 : decode cX4_cell 26 = .ok (.iload_n 2, 1) := by decide +kernel
theorem dX4_cell_27 : decode cX4_cell 27 = .ok (.iadd, 1) := by decide +kernel
theorem dX4_cell_28 : decode cX4_cell 28 = .ok (.iaload, 1) := by decide +kernel
theorem dX4_cell_29 : decode cX4_cell 29 = .ok (.ireturn, 1) := by decide +kernel
theorem dX4_add_0 : decode cX4_add 0 = .ok (.aload_n 0, 1) := by decide +kernel
theorem dX4_add_1 : decode cX4_add 1 = .ok (.getfield 28, 3) := by decide +kernel
theorem dX4_add_4 : decode cX4_add 4 = .ok (.aload_n 0, 1) := by decide +kernel
theorem dX4_add_5 : decode cX4_add 5 = .ok (.getfield 18, 3) := by decide +kernel
theorem dX4_add_8 : decode cX4_add 8 = .ok (.if_icmp .lt 6, 3) := by decide +kernel
theorem dX4_add_11 : decode cX4_add 11 = .ok (.bipush (-4), 2) := by decide +kernel
theorem dX4_add_13 : decode cX4_add 13 = .ok (.ireturn, 1) := by decide +kernel
theorem dX4_add_14 : decode cX4_add 14 = .ok (.iconst 5, 1) := by decide +kernel
theorem dX4_add_15 : decode cX4_add 15 = .ok (.aload_n 0, 1) := by decide +kernel
theorem dX4_add_16 : decode cX4_add 16 = .ok (.getfield 28, 3) := by decide +kernel
theorem dX4_add_19 : decode cX4_add 19 = .ok (.imul, 1) := by decide +kernel
theorem dX4_add_20 : decode cX4_add 20 = .ok (.istore 6, 2) := by decide +kernel
theorem dX4_add_22 : decode cX4_add 22 = .ok (.aload_n 0, 1) := by decide +kernel
theorem dX4_add_23 : decode cX4_add 23 = .ok (.getfield 24, 3) := by decide +kernel
theorem dX4_add_26 : decode cX4_add 26 = .ok (.iload 6, 2) := by decide +kernel
theorem dX4_add_28 : decode cX4_add 28 = .ok (.iload_n 1, 1) := by decide +kernel
theorem dX4_add_29 : decode cX4_add 29 = .ok (.iastore, 1) := by decide +kernel
theorem dX4_add_30 : decode cX4_add 30 = .ok (.aload_n 0, 1) := by decide +kernel
theorem dX4_add_31 : decode cX4_add 31 = .ok (.getfield 24, 3) := by decide +kernel
theorem dX4_add_34 : decode cX4_add 34 = .ok (.iload 6, 2) := by decide +kernel
theorem dX4_add_36 : decode cX4_add 36 = .ok (.iconst 1, 1) := by decide +kernel
theorem dX4_add_37 : decode cX4_add 37 = .ok (.iadd, 1) := by decide +kernel
theorem dX4_add_38 : decode cX4_add 38 = .ok (.iload_n 2, 1) := by decide +kernel
theorem dX4_add_39 : decode cX4_add 39 = .ok (.iastore, 1) := by decide +kernel
theorem dX4_add_40 : decode cX4_add 40 = .ok (.aload_n 0, 1) := by decide +kernel
theorem dX4_add_41 : decode cX4_add 41 = .ok (.getfield 24, 3) := by decide +kernel
theorem dX4_add_44 : decode cX4_add 44 = .ok (.iload 6, 2) := by decide +kernel
theorem dX4_add_46 : decode cX4_add 46 = .ok (.iconst 2, 1) := by decide +kernel
theorem dX4_add_47 : decode cX4_add 47 = .ok (.iadd, 1) := by decide +kernel
theorem dX4_add_48 : decode cX4_add 48 = .ok (.iload_n 3, 1) := by decide +kernel
theorem dX4_add_49 : decode cX4_add 49 = .ok (.iastore, 1) := by decide +kernel
theorem dX4_add_50 : decode cX4_add 50 = .ok (.aload_n 0, 1) := by decide +kernel
theorem dX4_add_51 : decode cX4_add 51 = .ok (.getfield 24, 3) := by decide +kernel
theorem dX4_add_54 : decode cX4_add 54 = .ok (.iload 6, 2) := by decide +kernel
theorem dX4_add_56 : decode cX4_add 56 = .ok (.iconst 3, 1) := by decide +kernel
theorem dX4_add_57 : decode cX4_add 57 = .ok (.iadd, 1) := by decide +kernel
theorem dX4_add_58 : decode cX4_add 58 = .ok (.iload 4, 2) := by decide +kernel
theorem dX4_add_60 : decode cX4_add 60 = .ok (.iastore, 1) := by decide +kernel
theorem dX4_add_61 : decode cX4_add 61 = .ok (.aload_n 0, 1) := by decide +kernel
theorem dX4_add_62 : decode cX4_add 62 = .ok (.getfield 24, 3) := by decide +kernel
theorem dX4_add_65 : decode cX4_add 65 = .ok (.iload 6, 2) := by decide +kernel
theorem dX4_add_67 : decode cX4_add 67 = .ok (.iconst 4, 1) := by decide +kernel
theorem dX4_add_68 : decode cX4_add 68 = .ok (.iadd, 1) := by decide +kernel
theorem dX4_add_69 : decode cX4_add 69 = .ok (.iload 5, 2) := by decide +kernel
theorem dX4_add_71 : decode cX4_add 71 = .ok (.iastore, 1) := by decide +kernel
theorem dX4_add_72 : decode cX4_add 72 = .ok (.aload_n 0, 1) := by decide +kernel
theorem dX4_add_73 : decode cX4_add 73 = .ok (.dup, 1) := by decide +kernel
theorem dX4_add_74 : decode cX4_add 74 = .ok (.getfield 28, 3) := by decide +kernel
theorem dX4_add_77 : decode cX4_add 77 = .ok (.dup_x1, 1) := by decide +kernel
theorem dX4_add_78 : decode cX4_add 78 = .ok (.iconst 1, 1) := by decide +kernel
theorem dX4_add_79 : decode cX4_add 79 = .ok (.iadd, 1) := by decide +kernel
theorem dX4_add_80 : decode cX4_add 80 = .ok (.putfield 28, 3) := by decide +kernel
theorem dX4_add_83 : decode cX4_add 83 = .ok (.ireturn, 1) := by decide +kernel
theorem dX4_copyFrom_0 : decode cX4_copyFrom 0 = .ok (.aload_n 0, 1) := by decide +kernel
theorem dX4_copyFrom_1 : decode cX4_copyFrom 1 = .ok (.aload_n 0, 1) := by decide +kernel
theorem dX4_copyFrom_2 : decode cX4_copyFrom 2 = .ok (.getfield 18, 3) := by decide +kernel
theorem dX4_copyFrom_5 : decode cX4_copyFrom 5 = .ok (.aload_n 1, 1) := by decide +kernel
theorem dX4_copyFrom_6 : decode cX4_copyFrom 6 = .ok (.getfield 28, 3) := by decide +kernel
theorem dX4_copyFrom_9 : decode cX4_copyFrom 9 = .ok (.invokestatic 9, 3) := by decide +kernel
theorem dX4_copyFrom_12 : decode cX4_copyFrom 12 = .ok (.putfield 28, 3) := by decide +kernel
theorem dX4_copyFrom_15 : decode cX4_copyFrom 15 = .ok (.aload_n 1, 1) := by decide +kernel
theorem dX4_copyFrom_16 : decode cX4_copyFrom 16 = .ok (.getfield 24, 3) := by decide +kernel
theorem dX4_copyFrom_19 : decode cX4_copyFrom 19 = .ok (.iconst 0, 1) := by decide +kernel
theorem dX4_copyFrom_20 : decode cX4_copyFrom 20 = .ok (.aload_n 0, 1) := by decide +kernel
theorem dX4_copyFrom_21 : decode cX4_copyFrom 21 = .ok (.getfield 24, 3) := by decide +kernel
theorem dX4_copyFrom_24 : decode cX4_copyFrom 24 = .ok (.iconst 0, 1) := by decide +kernel
theorem dX4_copyFrom_25 : decode cX4_copyFrom 25 = .ok (.iconst 5, 1) := by decide +kernel
theorem dX4_copyFrom_26 : decode cX4_copyFrom 26 = .ok (.aload_n 0, 1) := by decide +kernel
theorem dX4_copyFrom_27 : decode cX4_copyFrom 27 = .ok (.getfield 28, 3) := by decide +kernel
theorem dX4_copyFrom_30 : decode cX4_copyFrom 30 = .ok (.imul, 1) := by decide +kernel
theorem dX4_copyFrom_31 : decode cX4_copyFrom 31 = .ok (.invokestatic 35, 3) := by decide +kernel
theorem dX4_copyFrom_34 : decode cX4_copyFrom 34 = .ok (.return_, 1) := by decide +kernel
set_option maxRecDepth 20000 in
theorem ggX4_isLike_X4_cell : GoodIn wsX4_isLike wsX4_cell := goodIn_r _ [6, 7, 8, 9, 10, 5, 11, 1, 12, 13, 14] (by decide +kernel) (by decide +kernel)
set_option maxRecDepth 20000 in
theorem gX4_isLike_X4_cell : GoodIn wsX4_isLike (wsV RX4 41 RX4 yX4_cell wsX4_cell) := goodIn_app (goodIn_of _ (by decide +kernel)) ggX4_isLike_X4_cell
theorem dX4_isLike_0 : decode cX4_isLike 0 = .ok (.aload_n 0, 1) := by decide +kernel
theorem dX4_isLike_1 : decode cX4_isLike 1 = .ok (.getfield 28, 3) := by decide +kernel
theorem dX4_isLike_4 : decode cX4_isLike 4 = .ok (.aload_n 1, 1) := by decide +kernel
theorem dX4_isLike_5 : decode cX4_isLike 5 = .ok (.getfield 28, 3) := by decide +kernel
theorem dX4_isLike_8 : decode cX4_isLike 8 = .ok (.if_icmp .ne 7, 3) := by decide +kernel
theorem dX4_isLike_11 : decode cX4_isLike 11 = .ok (.iconst 1, 1) := by decide +kernel
theorem dX4_isLike_12 : decode cX4_isLike 12 = .ok (.goto 4, 3) := by decide +kernel
theorem dX4_isLike_15 : decode cX4_isLike 15 = .ok (.iconst 0, 1) := by decide +kernel
theorem dX4_isLike_16 : decode cX4_isLike 16 = .ok (.istore_n 2, 1) := by decide +kernel
theorem dX4_isLike_17 : decode cX4_isLike 17 = .ok (.iconst 0, 1) := by decide +kernel
theorem dX4_isLike_18 : decode cX4_isLike 18 = .ok (.istore_n 3, 1) := by decide +kernel
theorem dX4_isLike_19 : decode cX4_isLike 19 = .ok (.iload_n 3, 1) := by decide +kernel
theorem dX4_isLike_20 : decode cX4_isLike 20 = .ok (.aload_n 0, 1) := by decide +kernel
theorem dX4_isLike_21 : decode cX4_isLike 21 = .ok (.getfield 28, 3) := by decide +kernel
theorem dX4_isLike_24 : decode cX4_isLike 24 = .ok (.if_icmp .ge 55, 3) := by decide +kernel
theorem dX4_isLike_27 : decode cX4_isLike 27 = .ok (.iload_n 2, 1) := by decide +kernel
theorem dX4_isLike_28 : decode cX4_isLike 28 = .ok (.ifCond .eq 51, 3) := by decide +kernel
theorem dX4_isLike_31 : decode cX4_isLike 31 = .ok (.iconst 0, 1) := by decide +kernel
theorem dX4_isLike_32 : decode cX4_isLike 32 = .ok (.istore 4, 2) := by decide +kernel
theorem dX4_isLike_34 : decode cX4_isLike 34 = .ok (.iload 4, 2) := by decide +kernel
theorem dX4_isLike_36 : decode cX4_isLike 36 = .ok (.iconst 5, 1) := by decide +kernel
theorem dX4_isLike_37 : decode cX4_isLike 37 = .ok (.if_icmp .ge 36, 3) := by decide +kernel
theorem dX4_isLike_40 : decode cX4_isLike 40 = .ok (.iload_n 2, 1) := by decide +kernel
theorem dX4_isLike_41 : decode cX4_isLike 41 = .ok (.ifCond .eq 24, 3) := by decide +kernel
theorem dX4_isLike_44 : decode cX4_isLike 44 = .ok (.aload_n 0, 1) := by decide +kernel
theorem dX4_isLike_45 : decode cX4_isLike 45 = .ok (.iload_n 3, 1) := by decide +kernel
theorem dX4_isLike_46 : decode cX4_isLike 46 = .ok (.iload 4, 2) := by decide +kernel
theorem dX4_isLike_48 : decode cX4_isLike 48 = .ok (.invokevirtual 41, 3) := by decide +kernel
theorem dX4_isLike_51 : decode cX4_isLike 51 = .ok (.aload_n 1, 1) := by decide +kernel
theorem dX4_isLike_52 : decode cX4_isLike 52 = .ok (.iload_n 3, 1) := by decide +kernel
theorem dX4_isLike_53 : decode cX4_isLike 53 = .ok (.iload 4, 2) := by decide +kernel
theorem dX4_isLike_55 : decode cX4_isLike 55 = .ok (.invokevirtual 41, 3) := by decide +kernel
theorem dX4_isLike_58 : decode cX4_isLike 58 = .ok (.if_icmp .ne 7, 3) := by decide +kernel
theorem dX4_isLike_61 : decode cX4_isLike 61 = .ok (.iconst 1, 1) := by decide +kernel
theorem dX4_isLike_62 : decode cX4_isLike 62 = .ok (.goto 4, 3) := by decide +kernel
theorem dX4_isLike_65 : decode cX4_isLike 65 = .ok (.iconst 0, 1) := by decide +kernel
theorem dX4_isLike_66 : decode cX4_isLike 66 = .ok (.istore_n 2, 1) := by decide +kernel
theorem dX4_isLike_67 : decode cX4_isLike 67 = .ok (.iinc 4 1, 3) := by decide +kernel
theorem dX4_isLike_70 : decode cX4_isLike 70 = .ok (.goto (-36), 3) := by decide +kernel
theorem dX4_isLike_73 : decode cX4_isLike 73 = .ok (.iinc 3 1, 3) := by decide +kernel
theorem dX4_isLike_76 : decode cX4_isLike 76 = .ok (.goto (-57), 3) := by decide +kernel
theorem dX4_isLike_79 : decode cX4_isLike 79 = .ok (.iload_n 2, 1) := by decide +kernel
theorem dX4_isLike_80 : decode cX4_isLike 80 = .ok (.ireturn, 1) := by decide +kernel
set_option maxRecDepth 20000 in
theorem ggX4_digestOn_X4_cell : GoodIn wsX4_digestOn wsX4_cell := goodIn_r _ [7, 8, 9, 10, 11, 6, 12, 1, 13, 14, 15] (by decide +kernel) (by decide +kernel)
set_option maxRecDepth 20000 in
theorem gX4_digestOn_X4_cell : GoodIn wsX4_digestOn (wsV RX4 41 RX4 yX4_cell wsX4_cell) := goodIn_app (goodIn_of _ (by decide +kernel)) ggX4_digestOn_X4_cell
theorem dX4_digestOn_0 : decode cX4_digestOn 0 = .ok (.lload_n 1, 1) := by decide +kernel
theorem dX4_digestOn_1 : decode cX4_digestOn 1 = .ok (.lstore 4, 2) := by decide +kernel
theorem dX4_digestOn_3 : decode cX4_digestOn 3 = .ok (.iconst 0, 1) := by decide +kernel
theorem dX4_digestOn_4 : decode cX4_digestOn 4 = .ok (.istore 6, 2) := by decide +kernel
theorem dX4_digestOn_6 : decode cX4_digestOn 6 = .ok (.iload 6, 2) := by decide +kernel
theorem dX4_digestOn_8 : decode cX4_digestOn 8 = .ok (.aload_n 0, 1) := by decide +kernel
theorem dX4_digestOn_9 : decode cX4_digestOn 9 = .ok (.getfield 28, 3) := by decide +kernel
theorem dX4_digestOn_12 : decode cX4_digestOn 12 = .ok (.if_icmp .ge 42, 3) := by decide +kernel
theorem dX4_digestOn_15 : decode cX4_digestOn 15 = .ok (.iconst 0, 1) := by decide +kernel
theorem dX4_digestOn_16 : decode cX4_digestOn 16 = .ok (.istore 7, 2) := by decide +kernel
theorem dX4_digestOn_18 : decode cX4_digestOn 18 = .ok (.iload 7, 2) := by decide +kernel
theorem dX4_digestOn_20 : decode cX4_digestOn 20 = .ok (.iload_n 3, 1) := by decide +kernel
theorem dX4_digestOn_21 : decode cX4_digestOn 21 = .ok (.if_icmp .ge 27, 3) := by decide +kernel
theorem dX4_digestOn_24 : decode cX4_digestOn 24 = .ok (.ldc2_w 44, 3) := by decide +kernel
theorem dX4_digestOn_27 : decode cX4_digestOn 27 = .ok (.lload 4, 2) := by decide +kernel
theorem dX4_digestOn_29 : decode cX4_digestOn 29 = .ok (.lmul, 1) := by decide +kernel
theorem dX4_digestOn_30 : decode cX4_digestOn 30 = .ok (.aload_n 0, 1) := by decide +kernel
theorem dX4_digestOn_31 : decode cX4_digestOn 31 = .ok (.iload 6, 2) := by decide +kernel
theorem dX4_digestOn_33 : decode cX4_digestOn 33 = .ok (.iload 7, 2) := by decide +kernel
theorem dX4_digestOn_35 : decode cX4_digestOn 35 = .ok (.invokevirtual 41, 3) := by decide +kernel
theorem dX4_digestOn_38 : decode cX4_digestOn 38 = .ok (.i2l, 1) := by decide +kernel
theorem dX4_digestOn_39 : decode cX4_digestOn 39 = .ok (.ladd, 1) := by decide +kernel
theorem dX4_digestOn_40 : decode cX4_digestOn 40 = .ok (.lstore 4, 2) := by decide +kernel
theorem dX4_digestOn_42 : decode cX4_digestOn 42 = .ok (.iinc 7 1, 3) := by decide +kernel
theorem dX4_digestOn_45 : decode cX4_digestOn 45 = .ok (.goto (-27), 3) := by decide +kernel
theorem dX4_digestOn_48 : decode cX4_digestOn 48 = .ok (.iinc 6 1, 3) := by decide +kernel
theorem dX4_digestOn_51 : decode cX4_digestOn 51 = .ok (.goto (-45), 3) := by decide +kernel
theorem dX4_digestOn_54 : decode cX4_digestOn 54 = .ok (.lload 4, 2) := by decide +kernel
theorem dX4_digestOn_56 : decode cX4_digestOn 56 = .ok (.lreturn, 1) := by decide +kernel
set_option maxRecDepth 20000 in
theorem ggX5_stagesOf_X4_cell : GoodIn wsX5_stagesOf wsX4_cell := goodIn_r _ [8, 9, 10, 11, 12, 7, 13, 14, 49, 50, 51] (by decide +kernel) (by decide +kernel)
set_option maxRecDepth 20000 in
theorem gX5_stagesOf_X4_cell : GoodIn wsX5_stagesOf (wsV RX5 17 RX4 yX4_cell wsX4_cell) := goodIn_app (goodIn_of _ (by decide +kernel)) ggX5_stagesOf_X4_cell
set_option maxRecDepth 20000 in
theorem ggX5_stagesOf_X7_directionOfFlow : GoodIn wsX5_stagesOf wsX7_directionOfFlow := goodIn_r _ [18, 19, 20, 17, 21, 22, 23, 24, 25, 26] (by decide +kernel) (by decide +kernel)
set_option maxRecDepth 20000 in
theorem gX5_stagesOf_X7_directionOfFlow : GoodIn wsX5_stagesOf (va_wsS RX5 29 yX7_directionOfFlow wsX7_directionOfFlow) := goodIn_app (goodIn_of _ (by decide +kernel)) ggX5_stagesOf_X7_directionOfFlow
set_option maxRecDepth 20000 in
theorem ggX5_stagesOf_X5_turnBetween : GoodIn wsX5_stagesOf wsX5_turnBetween := goodIn_r _ [30, 31, 32, 33, 34, 35, 36, 37, 38] (by decide +kernel) (by decide +kernel)
set_option maxRecDepth 20000 in
theorem gX5_stagesOf_X5_turnBetween : GoodIn wsX5_stagesOf (va_wsS RX5 33 yX5_turnBetween wsX5_turnBetween) := goodIn_app (goodIn_of _ (by decide +kernel)) ggX5_stagesOf_X5_turnBetween
theorem dX5_stagesOf_0 : decode cX5_stagesOf 0 = .ok (.aload_n 0, 1) := by decide +kernel
theorem dX5_stagesOf_1 : decode cX5_stagesOf 1 = .ok (.getfield 9, 3) := by decide +kernel
theorem dX5_stagesOf_4 : decode cX5_stagesOf 4 = .ok (.iload_n 1, 1) := by decide +kernel
theorem dX5_stagesOf_5 : decode cX5_stagesOf 5 = .ok (.iconst 0, 1) := by decide +kernel
theorem dX5_stagesOf_6 : decode cX5_stagesOf 6 = .ok (.invokevirtual 17, 3) := by decide +kernel
theorem dX5_stagesOf_9 : decode cX5_stagesOf 9 = .ok (.istore_n 2, 1) := by decide +kernel
theorem dX5_stagesOf_10 : decode cX5_stagesOf 10 = .ok (.aload_n 0, 1) := by decide +kernel
theorem dX5_stagesOf_11 : decode cX5_stagesOf 11 = .ok (.getfield 9, 3) := by decide +kernel
theorem dX5_stagesOf_14 : decode cX5_stagesOf 14 = .ok (.iload_n 1, 1) := by decide +kernel
theorem dX5_stagesOf_15 : decode cX5_stagesOf 15 = .ok (.iconst 1, 1) := by decide +kernel
theorem dX5_stagesOf_16 : decode cX5_stagesOf 16 = .ok (.invokevirtual 17, 3) := by decide +kernel
theorem dX5_stagesOf_19 : decode cX5_stagesOf 19 = .ok (.istore_n 3, 1) := by decide +kernel
theorem dX5_stagesOf_20 : decode cX5_stagesOf 20 = .ok (.iconst 0, 1) := by decide +kernel
theorem dX5_stagesOf_21 : decode cX5_stagesOf 21 = .ok (.istore 4, 2) := by decide +kernel
theorem dX5_stagesOf_23 : decode cX5_stagesOf 23 = .ok (.iconst 0, 1) := by decide +kernel
theorem dX5_stagesOf_24 : decode cX5_stagesOf 24 = .ok (.istore 5, 2) := by decide +kernel
theorem dX5_stagesOf_26 : decode cX5_stagesOf 26 = .ok (.iload 5, 2) := by decide +kernel
theorem dX5_stagesOf_28 : decode cX5_stagesOf 28 = .ok (.iconst 3, 1) := by decide +kernel
theorem dX5_stagesOf_29 : decode cX5_stagesOf 29 = .ok (.if_icmp .ge 53, 3) := by decide +kernel
theorem dX5_stagesOf_32 : decode cX5_stagesOf 32 = .ok (.aload_n 0, 1) := by decide +kernel
theorem dX5_stagesOf_33 : decode cX5_stagesOf 33 = .ok (.getfield 25, 3) := by decide +kernel
theorem dX5_stagesOf_36 : decode cX5_stagesOf 36 = .ok (.iload 5, 2) := by decide +kernel
theorem dX5_stagesOf_38 : decode cX5_stagesOf 38 = .ok (.iload_n 2, 1) := by decide +kernel
theorem dX5_stagesOf_39 : decode cX5_stagesOf 39 = .ok (.invokestatic 29, 3) := by decide +kernel
theorem dX5_stagesOf_42 : decode cX5_stagesOf 42 = .ok (.istore 6, 2) := by decide +kernel
theorem dX5_stagesOf_44 : decode cX5_stagesOf 44 = .ok (.iload 6, 2) := by decide +kernel
theorem dX5_stagesOf_46 : decode cX5_stagesOf 46 = .ok (.iconst (-1), 1) := by decide +kernel
theorem dX5_stagesOf_47 : decode cX5_stagesOf 47 = .ok (.if_icmp .eq 29, 3) := by decide +kernel
theorem dX5_stagesOf_50 : decode cX5_stagesOf 50 = .ok (.iconst 2, 1) := by decide +kernel
theorem dX5_stagesOf_51 : decode cX5_stagesOf 51 = .ok (.iload 6, 2) := by decide +kernel
theorem dX5_stagesOf_53 : decode cX5_stagesOf 53 = .ok (.imul, 1) := by decide +kernel
theorem dX5_stagesOf_54 : decode cX5_stagesOf 54 = .ok (.iload_n 3, 1) := by decide +kernel
theorem dX5_stagesOf_55 : decode cX5_stagesOf 55 = .ok (.invokestatic 33, 3) := by decide +kernel
theorem dX5_stagesOf_58 : decode cX5_stagesOf 58 = .ok (.aload_n 0, 1) := by decide +kernel
theorem dX5_stagesOf_59 : decode cX5_stagesOf 59 = .ok (.getfield 36, 3) := by decide +kernel
theorem dX5_stagesOf_62 : decode cX5_stagesOf 62 = .ok (.iconst 0, 1) := by decide +kernel
theorem dX5_stagesOf_63 : decode cX5_stagesOf 63 = .ok (.iaload, 1) := by decide +kernel
theorem dX5_stagesOf_64 : decode cX5_stagesOf 64 = .ok (.if_icmp .gt 12, 3) := by decide +kernel
theorem dX5_stagesOf_67 : decode cX5_stagesOf 67 = .ok (.iload 4, 2) := by decide +kernel
theorem dX5_stagesOf_69 : decode cX5_stagesOf 69 = .ok (.iconst 1, 1) := by decide +kernel
theorem dX5_stagesOf_70 : decode cX5_stagesOf 70 = .ok (.iload 5, 2) := by decide +kernel
theorem dX5_stagesOf_72 : decode cX5_stagesOf 72 = .ok (.ishl, 1) := by decide +kernel
theorem dX5_stagesOf_73 : decode cX5_stagesOf 73 = .ok (.ior, 1) := by decide +kernel
theorem dX5_stagesOf_74 : decode cX5_stagesOf 74 = .ok (.istore 4, 2) := by decide +kernel
theorem dX5_stagesOf_76 : decode cX5_stagesOf 76 = .ok (.iinc 5 1, 3) := by decide +kernel
theorem dX5_stagesOf_79 : decode cX5_stagesOf 79 = .ok (.goto (-53), 3) := by decide +kernel
theorem dX5_stagesOf_82 : decode cX5_stagesOf 82 = .ok (.iload 4, 2) := by decide +kernel
theorem dX5_stagesOf_84 : decode cX5_stagesOf 84 = .ok (.ireturn, 1) := by decide +kernel
set_option maxRecDepth 20000 in
theorem ggX5_rows_X4_size : GoodIn wsX5_rows wsX4_size := goodIn_r _ [6, 7, 65, 66, 67] (by decide +kernel) (by decide +kernel)
set_option maxRecDepth 20000 in
theorem gX5_rows_X4_size : GoodIn wsX5_rows (wsV RX5 39 RX4 yX4_size wsX4_size) := goodIn_app (goodIn_of _ (by decide +kernel)) ggX5_rows_X4_size
set_option maxRecDepth 20000 in
theorem ggX5_rows_X5_isFirstAtItsPlace : GoodIn wsX5_rows wsX5_isFirstAtItsPlace := goodIn_r _ [11, 12, 13, 10, 14, 1, 15, 16, 17, 5, 18, 19, 20, 21, 22, 23, 7, 55, 56, 57, 58, 59, 60, 61, 62, 63, 64, 65, 66, 67] (by decide +kernel) (by decide +kernel)
set_option maxRecDepth 20000 in
theorem gX5_rows_X5_isFirstAtItsPlace : GoodIn wsX5_rows (va_wsS RX5 43 yX5_isFirstAtItsPlace wsX5_isFirstAtItsPlace) := goodIn_app (goodIn_of _ (by decide +kernel)) ggX5_rows_X5_isFirstAtItsPlace
set_option maxRecDepth 20000 in
theorem ggX5_rows_X5_rowsAtPlaceOf : GoodIn wsX5_rows wsX5_rowsAtPlaceOf := goodIn_r _ [26, 1, 2, 3, 4, 5, 6, 7, 12, 13, 10, 14, 15, 16, 17, 18, 19, 20, 21, 22, 23, 27, 28, 29, 30, 31, 32, 33, 34, 35, 36, 37, 38, 39, 40, 41, 42, 43, 44, 45, 46, 47, 48, 49, 50, 51, 52, 53, 54, 55, 56, 57, 58, 59, 60, 61, 62, 63, 64, 65, 66, 67] (by decide +kernel) (by decide +kernel)
set_option maxRecDepth 20000 in
theorem gX5_rows_X5_rowsAtPlaceOf : GoodIn wsX5_rows (va_wsS RX5 47 yX5_rowsAtPlaceOf wsX5_rowsAtPlaceOf) := goodIn_app (goodIn_of _ (by decide +kernel)) ggX5_rows_X5_rowsAtPlaceOf
theorem dX5_rows_0 : decode cX5_rows 0 = .ok (.iconst 1, 1) := by decide +kernel
theorem dX5_rows_1 : decode cX5_rows 1 = .ok (.istore_n 1, 1) := by decide +kernel
theorem dX5_rows_2 : decode cX5_rows 2 = .ok (.iconst 0, 1) := by decide +kernel
theorem dX5_rows_3 : decode cX5_rows 3 = .ok (.istore_n 2, 1) := by decide +kernel
theorem dX5_rows_4 : decode cX5_rows 4 = .ok (.iload_n 2, 1) := by decide +kernel
theorem dX5_rows_5 : decode cX5_rows 5 = .ok (.aload_n 0, 1) := by decide +kernel
theorem dX5_rows_6 : decode cX5_rows 6 = .ok (.getfield 9, 3) := by decide +kernel
theorem dX5_rows_9 : decode cX5_rows 9 = .ok (.invokevirtual 39, 3) := by decide +kernel
theorem dX5_rows_12 : decode cX5_rows 12 = .ok (.if_icmp .ge 25, 3) := by decide +kernel
theorem dX5_rows_15 : decode cX5_rows 15 = .ok (.aload_n 0, 1) := by decide +kernel
theorem dX5_rows_16 : decode cX5_rows 16 = .ok (.iload_n 2, 1) := by decide +kernel
theorem dX5_rows_17 : decode cX5_rows 17 = .ok (.invokestatic 43, 3) := by decide +kernel
theorem dX5_rows_20 : decode cX5_rows 20 = .ok (.ifCond .eq 11, 3) := by decide +kernel
theorem dX5_rows_23 : decode cX5_rows 23 = .ok (.iload_n 1, 1) := by decide +kernel
theorem dX5_rows_24 : decode cX5_rows 24 = .ok (.aload_n 0, 1) := by decide +kernel
theorem dX5_rows_25 : decode cX5_rows 25 = .ok (.iload_n 2, 1) := by decide +kernel
theorem dX5_rows_26 : decode cX5_rows 26 = .ok (.invokestatic 47, 3) := by decide +kernel
theorem dX5_rows_29 : decode cX5_rows 29 = .ok (.imul, 1) := by decide +kernel
theorem dX5_rows_30 : decode cX5_rows 30 = .ok (.istore_n 1, 1) := by decide +kernel
theorem dX5_rows_31 : decode cX5_rows 31 = .ok (.iinc 2 1, 3) := by decide +kernel
theorem dX5_rows_34 : decode cX5_rows 34 = .ok (.goto (-30), 3) := by decide +kernel
theorem dX5_rows_37 : decode cX5_rows 37 = .ok (.iload_n 1, 1) := by decide +kernel
theorem dX5_rows_38 : decode cX5_rows 38 = .ok (.ireturn, 1) := by decide +kernel
set_option maxRecDepth 20000 in
theorem ggX5_stageInFirstRow_X5_rows : GoodIn wsX5_stageInFirstRow wsX5_rows := goodIn_r _ [8, 9, 10, 11, 12, 13, 14, 15, 16, 17, 7, 18, 19, 20, 21, 22, 23, 24, 25, 26, 27, 28, 29, 30, 31, 32, 33, 34, 35, 36, 37, 38, 39, 40, 41, 42, 43, 44, 45, 46, 47, 48, 49, 50, 51, 52, 53, 1, 2, 3, 4, 54, 55, 56, 57, 63, 64, 65, 66, 67, 68, 69, 70, 71, 72, 73, 74, 75] (by decide +kernel) (by decide +kernel)
set_option maxRecDepth 20000 in
theorem gX5_stageInFirstRow_X5_rows : GoodIn wsX5_stageInFirstRow (va_wsS RX5 51 yX5_rows wsX5_rows) := goodIn_app (goodIn_of _ (by decide +kernel)) ggX5_stageInFirstRow_X5_rows
set_option maxRecDepth 20000 in
theorem ggX5_stageInFirstRow_X5_areAtOnePlace : GoodIn wsX5_stageInFirstRow wsX5_areAtOnePlace := goodIn_r _ [21, 9, 22, 23, 24, 13, 25, 26, 27, 28, 29, 30, 15, 63, 64, 65, 66, 67, 68, 69, 70, 71, 72, 73, 74, 75] (by decide +kernel) (by decide +kernel)
set_option maxRecDepth 20000 in
theorem gX5_stageInFirstRow_X5_areAtOnePlace : GoodIn wsX5_stageInFirstRow (va_wsS RX5 55 yX5_areAtOnePlace wsX5_areAtOnePlace) := goodIn_app (goodIn_of _ (by decide +kernel)) ggX5_stageInFirstRow_X5_areAtOnePlace
set_option maxRecDepth 20000 in
theorem ggX5_stageInFirstRow_X5_stagesOf : GoodIn wsX5_stageInFirstRow wsX5_stagesOf := goodIn_r _ [36, 9, 37, 38, 22, 23, 24, 13, 25, 26, 27, 28, 29, 30, 15, 39, 40, 41, 42, 43, 44, 45, 46, 47, 48, 49, 50, 51, 52, 7, 53, 1, 2, 3, 4, 54, 55, 56, 57, 63, 64, 65, 66, 67, 68, 69, 70, 71, 72, 73, 74, 75] (by decide +kernel) (by decide +kernel)
set_option maxRecDepth 20000 in
theorem gX5_stageInFirstRow_X5_stagesOf : GoodIn wsX5_stageInFirstRow (va_wsS RX5 59 yX5_stagesOf wsX5_stagesOf) := goodIn_app (goodIn_of _ (by decide +kernel)) ggX5_stageInFirstRow_X5_stagesOf
set_option maxRecDepth 20000 in
theorem ggX5_stageInFirstRow_J6_numberOfTrailingZeros_0f7a4 : GoodIn wsX5_stageInFirstRow wsJ6_numberOfTrailingZeros_0f7a4 := goodIn_r _ [61, 62] (by decide +kernel) (by decide +kernel)
set_option maxRecDepth 20000 in
theorem gX5_stageInFirstRow_J6_numberOfTrailingZeros_0f7a4 : GoodIn wsX5_stageInFirstRow (va_wsS RX5 62 yJ6_numberOfTrailingZeros_0f7a4 wsJ6_numberOfTrailingZeros_0f7a4) := goodIn_app (goodIn_of _ (by decide +kernel)) ggX5_stageInFirstRow_J6_numberOfTrailingZeros_0f7a4
theorem dX5_stageInFirstRow_0 : decode cX5_stageInFirstRow 0 = .ok (.aload_n 0, 1) := by decide +kernel
theorem dX5_stageInFirstRow_1 : decode cX5_stageInFirstRow 1 = .ok (.invokestatic 51, 3) := by decide +kernel
theorem dX5_stageInFirstRow_4 : decode cX5_stageInFirstRow 4 = .ok (.ifCond .ne 5, 3) := by decide +kernel
theorem dX5_stageInFirstRow_7 : decode cX5_stageInFirstRow 7 = .ok (.iconst (-1), 1) := by decide +kernel
theorem dX5_stageInFirstRow_8 : decode cX5_stageInFirstRow 8 = .ok (.ireturn, 1) := by decide +kernel
theorem dX5_stageInFirstRow_9 : decode cX5_stageInFirstRow 9 = .ok (.iconst 0, 1) := by decide +kernel
theorem dX5_stageInFirstRow_10 : decode cX5_stageInFirstRow 10 = .ok (.istore_n 2, 1) := by decide +kernel
theorem dX5_stageInFirstRow_11 : decode cX5_stageInFirstRow 11 = .ok (.iconst 0, 1) := by decide +kernel
theorem dX5_stageInFirstRow_12 : decode cX5_stageInFirstRow 12 = .ok (.istore_n 3, 1) := by decide +kernel
theorem dX5_stageInFirstRow_13 : decode cX5_stageInFirstRow 13 = .ok (.iload_n 3, 1) := by decide +kernel
theorem dX5_stageInFirstRow_14 : decode cX5_stageInFirstRow 14 = .ok (.iload_n 1, 1) := by decide +kernel
theorem dX5_stageInFirstRow_15 : decode cX5_stageInFirstRow 15 = .ok (.if_icmp .gt 39, 3) := by decide +kernel
theorem dX5_stageInFirstRow_18 : decode cX5_stageInFirstRow 18 = .ok (.aload_n 0, 1) := by decide +kernel
theorem dX5_stageInFirstRow_19 : decode cX5_stageInFirstRow 19 = .ok (.iload_n 3, 1) := by decide +kernel
theorem dX5_stageInFirstRow_20 : decode cX5_stageInFirstRow 20 = .ok (.iload_n 1, 1) := by decide +kernel
theorem dX5_stageInFirstRow_21 : decode cX5_stageInFirstRow 21 = .ok (.invokestatic 55, 3) := by decide +kernel
theorem dX5_stageInFirstRow_24 : decode cX5_stageInFirstRow 24 = .ok (.ifCond .eq 24, 3) := by decide +kernel
theorem dX5_stageInFirstRow_27 : decode cX5_stageInFirstRow 27 = .ok (.aload_n 0, 1) := by decide +kernel
theorem dX5_stageInFirstRow_28 : decode cX5_stageInFirstRow 28 = .ok (.iload_n 3, 1) := by decide +kernel
theorem dX5_stageInFirstRow_29 : decode cX5_stageInFirstRow 29 = .ok (.invokestatic 59, 3) := by decide +kernel
theorem dX5_stageInFirstRow_32 : decode cX5_stageInFirstRow 32 = .ok (.iload_n 2, 1) := by decide +kernel
theorem dX5_stageInFirstRow_33 : decode cX5_stageInFirstRow 33 = .ok (.ishr, 1) := by decide +kernel
theorem dX5_stageInFirstRow_34 : decode cX5_stageInFirstRow 34 = .ok (.iload_n 2, 1) := by decide +kernel
theorem dX5_stageInFirstRow_35 : decode cX5_stageInFirstRow 35 = .ok (.ishl, 1) := by decide +kernel
theorem dX5_stageInFirstRow_36 : decode cX5_stageInFirstRow 36 = .ok (.istore 4, 2) := by decide +kernel
theorem dX5_stageInFirstRow_38 : decode cX5_stageInFirstRow 38 = .ok (.iconst 2, 1) := by decide +kernel
theorem dX5_stageInFirstRow_39 : decode cX5_stageInFirstRow 39 = .ok (.iload 4, 2) := by decide +kernel
theorem dX5_stageInFirstRow_41 : decode cX5_stageInFirstRow 41 = .ok (.invokestatic 62, 3) := by decide +kernel
theorem dX5_stageInFirstRow_44 : decode cX5_stageInFirstRow 44 = .ok (.invokestatic 68, 3) := by decide +kernel
theorem dX5_stageInFirstRow_47 : decode cX5_stageInFirstRow 47 = .ok (.istore_n 2, 1) := by decide +kernel
theorem dX5_stageInFirstRow_48 : decode cX5_stageInFirstRow 48 = .ok (.iinc 3 1, 3) := by decide +kernel
theorem dX5_stageInFirstRow_51 : decode cX5_stageInFirstRow 51 = .ok (.goto (-38), 3) := by decide +kernel
theorem dX5_stageInFirstRow_54 : decode cX5_stageInFirstRow 54 = .ok (.iload_n 2, 1) := by decide +kernel
theorem dX5_stageInFirstRow_55 : decode cX5_stageInFirstRow 55 = .ok (.ireturn, 1) := by decide +kernel
set_option maxRecDepth 20000 in
theorem ggX5_rowsAtPlaceOf_X4_size : GoodIn wsX5_rowsAtPlaceOf wsX4_size := goodIn_r _ [6, 7, 59, 60, 61] (by decide +kernel) (by decide +kernel)
set_option maxRecDepth 20000 in
theorem gX5_rowsAtPlaceOf_X4_size : GoodIn wsX5_rowsAtPlaceOf (wsV RX5 39 RX4 yX4_size wsX4_size) := goodIn_app (goodIn_of _ (by decide +kernel)) ggX5_rowsAtPlaceOf_X4_size
set_option maxRecDepth 20000 in
theorem ggX5_rowsAtPlaceOf_X5_areAtOnePlace : GoodIn wsX5_rowsAtPlaceOf wsX5_areAtOnePlace := goodIn_r _ [11, 1, 12, 13, 14, 5, 15, 16, 17, 18, 19, 20, 7, 49, 50, 51, 52, 53, 54, 55, 56, 57, 58, 59, 60, 61] (by decide +kernel) (by decide +kernel)
set_option maxRecDepth 20000 in
theorem gX5_rowsAtPlaceOf_X5_areAtOnePlace : GoodIn wsX5_rowsAtPlaceOf (va_wsS RX5 55 yX5_areAtOnePlace wsX5_areAtOnePlace) := goodIn_app (goodIn_of _ (by decide +kernel)) ggX5_rowsAtPlaceOf_X5_areAtOnePlace
set_option maxRecDepth 20000 in
theorem ggX5_rowsAtPlaceOf_X5_stagesOf : GoodIn wsX5_rowsAtPlaceOf wsX5_stagesOf := goodIn_r _ [23, 1, 24, 25, 12, 13, 14, 5, 15, 16, 17, 18, 19, 20, 7, 26, 27, 28, 29, 30, 31, 32, 33, 34, 35, 36, 37, 38, 39, 10, 40, 41, 42, 43, 44, 45, 46, 47, 48, 49, 50, 51, 52, 53, 54, 55, 56, 57, 58, 59, 60, 61] (by decide +kernel) (by decide +kernel)
set_option maxRecDepth 20000 in
theorem gX5_rowsAtPlaceOf_X5_stagesOf : GoodIn wsX5_rowsAtPlaceOf (va_wsS RX5 59 yX5_stagesOf wsX5_stagesOf) := goodIn_app (goodIn_of _ (by decide +kernel)) ggX5_rowsAtPlaceOf_X5_stagesOf
theorem dX5_rowsAtPlaceOf_0 : decode cX5_rowsAtPlaceOf 0 = .ok (.iconst 1, 1) := by decide +kernel
theorem dX5_rowsAtPlaceOf_1 : decode cX5_rowsAtPlaceOf 1 = .ok (.istore_n 2, 1) := by decide +kernel
theorem dX5_rowsAtPlaceOf_2 : decode cX5_rowsAtPlaceOf 2 = .ok (.iconst 0, 1) := by decide +kernel
theorem dX5_rowsAtPlaceOf_3 : decode cX5_rowsAtPlaceOf 3 = .ok (.istore_n 3, 1) := by decide +kernel
theorem dX5_rowsAtPlaceOf_4 : decode cX5_rowsAtPlaceOf 4 = .ok (.iconst 0, 1) := by decide +kernel
theorem dX5_rowsAtPlaceOf_5 : decode cX5_rowsAtPlaceOf 5 = .ok (.istore 4, 2) := by decide +kernel
theorem dX5_rowsAtPlaceOf_7 : decode cX5_rowsAtPlaceOf 7 = .ok (.iload_n 1, 1) := by decide +kernel
theorem dX5_rowsAtPlaceOf_8 : decode cX5_rowsAtPlaceOf 8 = .ok (.istore 5, 2) := by decide +kernel
theorem dX5_rowsAtPlaceOf_10 : decode cX5_rowsAtPlaceOf 10 = .ok (.iload 5, 2) := by decide +kernel
theorem dX5_rowsAtPlaceOf_12 : decode cX5_rowsAtPlaceOf 12 = .ok (.aload_n 0, 1) := by decide +kernel
theorem dX5_rowsAtPlaceOf_13 : decode cX5_rowsAtPlaceOf 13 = .ok (.getfield 9, 3) := by decide +kernel
theorem dX5_rowsAtPlaceOf_16 : decode cX5_rowsAtPlaceOf 16 = .ok (.invokevirtual 39, 3) := by decide +kernel
theorem dX5_rowsAtPlaceOf_19 : decode cX5_rowsAtPlaceOf 19 = .ok (.if_icmp .ge 74, 3) := by decide +kernel
theorem dX5_rowsAtPlaceOf_22 : decode cX5_rowsAtPlaceOf 22 = .ok (.aload_n 0, 1) := by decide +kernel
theorem dX5_rowsAtPlaceOf_23 : decode cX5_rowsAtPlaceOf 23 = .ok (.iload_n 1, 1) := by decide +kernel
theorem dX5_rowsAtPlaceOf_24 : decode cX5_rowsAtPlaceOf 24 = .ok (.iload 5, 2) := by decide +kernel
theorem dX5_rowsAtPlaceOf_26 : decode cX5_rowsAtPlaceOf 26 = .ok (.invokestatic 55, 3) := by decide +kernel
theorem dX5_rowsAtPlaceOf_29 : decode cX5_rowsAtPlaceOf 29 = .ok (.ifCond .eq 58, 3) := by decide +kernel
theorem dX5_rowsAtPlaceOf_32 : decode cX5_rowsAtPlaceOf 32 = .ok (.aload_n 0, 1) := by decide +kernel
theorem dX5_rowsAtPlaceOf_33 : decode cX5_rowsAtPlaceOf 33 = .ok (.iload 5, 2) := by decide +kernel
theorem dX5_rowsAtPlaceOf_35 : decode cX5_rowsAtPlaceOf 35 = .ok (.invokestatic 59, 3) := by decide +kernel
theorem dX5_rowsAtPlaceOf_38 : decode cX5_rowsAtPlaceOf 38 = .ok (.istore 6, 2) := by decide +kernel
theorem dX5_rowsAtPlaceOf_40 : decode cX5_rowsAtPlaceOf 40 = .ok (.iload 6, 2) := by decide +kernel
theorem dX5_rowsAtPlaceOf_42 : decode cX5_rowsAtPlaceOf 42 = .ok (.iconst 4, 1) := by decide +kernel
theorem dX5_rowsAtPlaceOf_43 : decode cX5_rowsAtPlaceOf 43 = .ok (.iand, 1) := by decide +kernel
theorem dX5_rowsAtPlaceOf_44 : decode cX5_rowsAtPlaceOf 44 = .ok (.ifCond .ne 7, 3) := by decide +kernel
theorem dX5_rowsAtPlaceOf_47 : decode cX5_rowsAtPlaceOf 47 = .ok (.iconst 0, 1) := by decide +kernel
theorem dX5_rowsAtPlaceOf_48 : decode cX5_rowsAtPlaceOf 48 = .ok (.goto 9, 3) := by decide +kernel
theorem dX5_rowsAtPlaceOf_51 : decode cX5_rowsAtPlaceOf 51 = .ok (.iload_n 2, 1) := by decide +kernel
theorem dX5_rowsAtPlaceOf_52 : decode cX5_rowsAtPlaceOf 52 = .ok (.iload_n 3, 1) := by decide +kernel
theorem dX5_rowsAtPlaceOf_53 : decode cX5_rowsAtPlaceOf 53 = .ok (.iadd, 1) := by decide +kernel
theorem dX5_rowsAtPlaceOf_54 : decode cX5_rowsAtPlaceOf 54 = .ok (.iload 4, 2) := by decide +kernel
theorem dX5_rowsAtPlaceOf_56 : decode cX5_rowsAtPlaceOf 56 = .ok (.iadd, 1) := by decide +kernel
theorem dX5_rowsAtPlaceOf_57 : decode cX5_rowsAtPlaceOf 57 = .ok (.istore 4, 2) := by decide +kernel
theorem dX5_rowsAtPlaceOf_59 : decode cX5_rowsAtPlaceOf 59 = .ok (.iload 6, 2) := by decide +kernel
theorem dX5_rowsAtPlaceOf_61 : decode cX5_rowsAtPlaceOf 61 = .ok (.iconst 2, 1) := by decide +kernel
theorem dX5_rowsAtPlaceOf_62 : decode cX5_rowsAtPlaceOf 62 = .ok (.iand, 1) := by decide +kernel
theorem dX5_rowsAtPlaceOf_63 : decode cX5_rowsAtPlaceOf 63 = .ok (.ifCond .ne 7, 3) := by decide +kernel
theorem dX5_rowsAtPlaceOf_66 : decode cX5_rowsAtPlaceOf 66 = .ok (.iconst 0, 1) := by decide +kernel
theorem dX5_rowsAtPlaceOf_67 : decode cX5_rowsAtPlaceOf 67 = .ok (.goto 6, 3) := by decide +kernel
theorem dX5_rowsAtPlaceOf_70 : decode cX5_rowsAtPlaceOf 70 = .ok (.iload_n 2, 1) := by decide +kernel
theorem dX5_rowsAtPlaceOf_71 : decode cX5_rowsAtPlaceOf 71 = .ok (.iload_n 3, 1) := by decide +kernel
theorem dX5_rowsAtPlaceOf_72 : decode cX5_rowsAtPlaceOf 72 = .ok (.iadd, 1) := by decide +kernel
theorem dX5_rowsAtPlaceOf_73 : decode cX5_rowsAtPlaceOf 73 = .ok (.istore_n 3, 1) := by decide +kernel
theorem dX5_rowsAtPlaceOf_74 : decode cX5_rowsAtPlaceOf 74 = .ok (.iload 6, 2) := by decide +kernel
theorem dX5_rowsAtPlaceOf_76 : decode cX5_rowsAtPlaceOf 76 = .ok (.iconst 1, 1) := by decide +kernel
theorem dX5_rowsAtPlaceOf_77 : decode cX5_rowsAtPlaceOf 77 = .ok (.iand, 1) := by decide +kernel
theorem dX5_rowsAtPlaceOf_78 : decode cX5_rowsAtPlaceOf 78 = .ok (.ifCond .ne 7, 3) := by decide +kernel
theorem dX5_rowsAtPlaceOf_81 : decode cX5_rowsAtPlaceOf 81 = .ok (.iconst 0, 1) := by decide +kernel
theorem dX5_rowsAtPlaceOf_82 : decode cX5_rowsAtPlaceOf 82 = .ok (.goto 4, 3) := by decide +kernel
theorem dX5_rowsAtPlaceOf_85 : decode cX5_rowsAtPlaceOf 85 = .ok (.iload_n 2, 1) := by decide +kernel
theorem dX5_rowsAtPlaceOf_86 : decode cX5_rowsAtPlaceOf 86 = .ok (.istore_n 2, 1) := by decide +kernel
theorem dX5_rowsAtPlaceOf_87 : decode cX5_rowsAtPlaceOf 87 = .ok (.iinc 5 1, 3) := by decide +kernel
theorem dX5_rowsAtPlaceOf_90 : decode cX5_rowsAtPlaceOf 90 = .ok (.goto (-80), 3) := by decide +kernel
theorem dX5_rowsAtPlaceOf_93 : decode cX5_rowsAtPlaceOf 93 = .ok (.iload_n 2, 1) := by decide +kernel
theorem dX5_rowsAtPlaceOf_94 : decode cX5_rowsAtPlaceOf 94 = .ok (.iload_n 3, 1) := by decide +kernel
theorem dX5_rowsAtPlaceOf_95 : decode cX5_rowsAtPlaceOf 95 = .ok (.iadd, 1) := by decide +kernel
theorem dX5_rowsAtPlaceOf_96 : decode cX5_rowsAtPlaceOf 96 = .ok (.iload 4, 2) := by decide +kernel
theorem dX5_rowsAtPlaceOf_98 : decode cX5_rowsAtPlaceOf 98 = .ok (.iadd, 1) := by decide +kernel
theorem dX5_rowsAtPlaceOf_99 : decode cX5_rowsAtPlaceOf 99 = .ok (.ireturn, 1) := by decide +kernel
set_option maxRecDepth 20000 in
theorem ggX5_isFirstAtItsPlace_X5_areAtOnePlace : GoodIn wsX5_isFirstAtItsPlace wsX5_areAtOnePlace := goodIn_r _ [4, 5, 6, 7, 8, 9, 10, 11, 12, 13, 14, 15, 16, 17, 18, 19, 20, 21, 22, 23, 24, 25, 26, 27, 28, 29] (by decide +kernel) (by decide +kernel)
set_option maxRecDepth 20000 in
theorem gX5_isFirstAtItsPlace_X5_areAtOnePlace : GoodIn wsX5_isFirstAtItsPlace (va_wsS RX5 55 yX5_areAtOnePlace wsX5_areAtOnePlace) := goodIn_app (goodIn_of _ (by decide +kernel)) ggX5_isFirstAtItsPlace_X5_areAtOnePlace
theorem dX5_isFirstAtItsPlace_0 : decode cX5_isFirstAtItsPlace 0 = .ok (.iconst 0, 1) := by decide +kernel
theorem dX5_isFirstAtItsPlace_1 : decode cX5_isFirstAtItsPlace 1 = .ok (.istore_n 2, 1) := by decide +kernel
theorem dX5_isFirstAtItsPlace_2 : decode cX5_isFirstAtItsPlace 2 = .ok (.iload_n 2, 1) := by decide +kernel
theorem dX5_isFirstAtItsPlace_3 : decode cX5_isFirstAtItsPlace 3 = .ok (.iload_n 1, 1) := by decide +kernel
theorem dX5_isFirstAtItsPlace_4 : decode cX5_isFirstAtItsPlace 4 = .ok (.if_icmp .ge 20, 3) := by decide +kernel
theorem dX5_isFirstAtItsPlace_7 : decode cX5_isFirstAtItsPlace 7 = .ok (.aload_n 0, 1) := by decide +kernel
theorem dX5_isFirstAtItsPlace_8 : decode cX5_isFirstAtItsPlace 8 = .ok (.iload_n 2, 1) := by decide +kernel
theorem dX5_isFirstAtItsPlace_9 : decode cX5_isFirstAtItsPlace 9 = .ok (.iload_n 1, 1) := by decide +kernel
theorem dX5_isFirstAtItsPlace_10 : decode cX5_isFirstAtItsPlace 10 = .ok (.invokestatic 55, 3) := by decide +kernel
theorem dX5_isFirstAtItsPlace_13 : decode cX5_isFirstAtItsPlace 13 = .ok (.ifCond .eq 5, 3) := by decide +kernel
theorem dX5_isFirstAtItsPlace_16 : decode cX5_isFirstAtItsPlace 16 = .ok (.iconst 0, 1) := by decide +kernel
theorem dX5_isFirstAtItsPlace_17 : decode cX5_isFirstAtItsPlace 17 = .ok (.ireturn, 1) := by decide +kernel
theorem dX5_isFirstAtItsPlace_18 : decode cX5_isFirstAtItsPlace 18 = .ok (.iinc 2 1, 3) := by decide +kernel
theorem dX5_isFirstAtItsPlace_21 : decode cX5_isFirstAtItsPlace 21 = .ok (.goto (-19), 3) := by decide +kernel
theorem dX5_isFirstAtItsPlace_24 : decode cX5_isFirstAtItsPlace 24 = .ok (.iconst 1, 1) := by decide +kernel
theorem dX5_isFirstAtItsPlace_25 : decode cX5_isFirstAtItsPlace 25 = .ok (.ireturn, 1) := by decide +kernel
set_option maxRecDepth 20000 in
theorem ggX5_areAtOnePlace_X4_cell : GoodIn wsX5_areAtOnePlace wsX4_cell := goodIn_r _ [6, 7, 8, 9, 10, 5, 11, 12, 23, 24, 25] (by decide +kernel) (by decide +kernel)
set_option maxRecDepth 20000 in
theorem gX5_areAtOnePlace_X4_cell : GoodIn wsX5_areAtOnePlace (wsV RX5 17 RX4 yX4_cell wsX4_cell) := goodIn_app (goodIn_of _ (by decide +kernel)) ggX5_areAtOnePlace_X4_cell
theorem dX5_areAtOnePlace_0 : decode cX5_areAtOnePlace 0 = .ok (.aload_n 0, 1) := by decide +kernel
theorem dX5_areAtOnePlace_1 : decode cX5_areAtOnePlace 1 = .ok (.getfield 9, 3) := by decide +kernel
theorem dX5_areAtOnePlace_4 : decode cX5_areAtOnePlace 4 = .ok (.iload_n 1, 1) := by decide +kernel
theorem dX5_areAtOnePlace_5 : decode cX5_areAtOnePlace 5 = .ok (.iconst 0, 1) := by decide +kernel
theorem dX5_areAtOnePlace_6 : decode cX5_areAtOnePlace 6 = .ok (.invokevirtual 17, 3) := by decide +kernel
theorem dX5_areAtOnePlace_9 : decode cX5_areAtOnePlace 9 = .ok (.aload_n 0, 1) := by decide +kernel
theorem dX5_areAtOnePlace_10 : decode cX5_areAtOnePlace 10 = .ok (.getfield 9, 3) := by decide +kernel
theorem dX5_areAtOnePlace_13 : decode cX5_areAtOnePlace 13 = .ok (.iload_n 2, 1) := by decide +kernel
theorem dX5_areAtOnePlace_14 : decode cX5_areAtOnePlace 14 = .ok (.iconst 0, 1) := by decide +kernel
theorem dX5_areAtOnePlace_15 : decode cX5_areAtOnePlace 15 = .ok (.invokevirtual 17, 3) := by decide +kernel
theorem dX5_areAtOnePlace_18 : decode cX5_areAtOnePlace 18 = .ok (.if_icmp .ne 7, 3) := by decide +kernel
theorem dX5_areAtOnePlace_21 : decode cX5_areAtOnePlace 21 = .ok (.iconst 1, 1) := by decide +kernel
theorem dX5_areAtOnePlace_22 : decode cX5_areAtOnePlace 22 = .ok (.goto 4, 3) := by decide +kernel
theorem dX5_areAtOnePlace_25 : decode cX5_areAtOnePlace 25 = .ok (.iconst 0, 1) := by decide +kernel
theorem dX5_areAtOnePlace_26 : decode cX5_areAtOnePlace 26 = .ok (.ireturn, 1) := by decide +kernel
set_option maxRecDepth 20000 in
theorem ggX5_turnBetween_J9_floorMod_7cf53 : GoodIn wsX5_turnBetween wsJ9_floorMod_7cf53 := goodIn_r _ [8] (by decide +kernel) (by decide +kernel)
set_option maxRecDepth 20000 in
theorem gX5_turnBetween_J9_floorMod_7cf53 : GoodIn wsX5_turnBetween (va_wsS RX5 73 yJ9_floorMod_7cf53 wsJ9_floorMod_7cf53) := goodIn_app (goodIn_of _ (by decide +kernel)) ggX5_turnBetween_J9_floorMod_7cf53
theorem dX5_turnBetween_0 : decode cX5_turnBetween 0 = .ok (.iload_n 0, 1) := by decide +kernel
theorem dX5_turnBetween_1 : decode cX5_turnBetween 1 = .ok (.iload_n 1, 1) := by decide +kernel
theorem dX5_turnBetween_2 : decode cX5_turnBetween 2 = .ok (.isub, 1) := by decide +kernel
theorem dX5_turnBetween_3 : decode cX5_turnBetween 3 = .ok (.bipush 16, 2) := by decide +kernel
theorem dX5_turnBetween_5 : decode cX5_turnBetween 5 = .ok (.invokestatic 73, 3) := by decide +kernel
theorem dX5_turnBetween_8 : decode cX5_turnBetween 8 = .ok (.istore_n 2, 1) := by decide +kernel
theorem dX5_turnBetween_9 : decode cX5_turnBetween 9 = .ok (.iload_n 2, 1) := by decide +kernel
theorem dX5_turnBetween_10 : decode cX5_turnBetween 10 = .ok (.bipush 16, 2) := by decide +kernel
theorem dX5_turnBetween_12 : decode cX5_turnBetween 12 = .ok (.iload_n 2, 1) := by decide +kernel
theorem dX5_turnBetween_13 : decode cX5_turnBetween 13 = .ok (.isub, 1) := by decide +kernel
theorem dX5_turnBetween_14 : decode cX5_turnBetween 14 = .ok (.invokestatic 68, 3) := by decide +kernel
theorem dX5_turnBetween_17 : decode cX5_turnBetween 17 = .ok (.ireturn, 1) := by decide +kernel
theorem dX6_init_0 : decode cX6_init 0 = .ok (.aload_n 0, 1) := by decide +kernel
theorem dX6_init_1 : decode cX6_init 1 = .ok (.invokespecial 3, 3) := by decide +kernel
theorem dX6_init_4 : decode cX6_init 4 = .ok (.aload_n 0, 1) := by decide +kernel
theorem dX6_init_5 : decode cX6_init 5 = .ok (.sipush 240, 3) := by decide +kernel
theorem dX6_init_8 : decode cX6_init 8 = .ok (.newarray .int, 2) := by decide +kernel
theorem dX6_init_10 : decode cX6_init 10 = .ok (.putfield 11, 3) := by decide +kernel
theorem dX6_init_13 : decode cX6_init 13 = .ok (.aload_n 0, 1) := by decide +kernel
theorem dX6_init_14 : decode cX6_init 14 = .ok (.iconst 4, 1) := by decide +kernel
theorem dX6_init_15 : decode cX6_init 15 = .ok (.newarray .int, 2) := by decide +kernel
theorem dX6_init_17 : decode cX6_init 17 = .ok (.putfield 15, 3) := by decide +kernel
theorem dX6_init_20 : decode cX6_init 20 = .ok (.return_, 1) := by decide +kernel
theorem dX6_size_0 : decode cX6_size 0 = .ok (.aload_n 0, 1) := by decide +kernel
theorem dX6_size_1 : decode cX6_size 1 = .ok (.getfield 18, 3) := by decide +kernel
theorem dX6_size_4 : decode cX6_size 4 = .ok (.ireturn, 1) := by decide +kernel
theorem dX6_empty_0 : decode cX6_empty 0 = .ok (.aload_n 0, 1) := by decide +kernel
theorem dX6_empty_1 : decode cX6_empty 1 = .ok (.iconst 0, 1) := by decide +kernel
theorem dX6_empty_2 : decode cX6_empty 2 = .ok (.putfield 18, 3) := by decide +kernel
theorem dX6_empty_5 : decode cX6_empty 5 = .ok (.return_, 1) := by decide +kernel
theorem dX6_append_0 : decode cX6_append 0 = .ok (.iload_n 3, 1) := by decide +kernel
theorem dX6_append_1 : decode cX6_append 1 = .ok (.sipush 240, 3) := by decide +kernel
theorem dX6_append_4 : decode cX6_append 4 = .ok (.aload_n 0, 1) := by decide +kernel
theorem dX6_append_5 : decode cX6_append 5 = .ok (.getfield 18, 3) := by decide +kernel
theorem dX6_append_8 : decode cX6_append 8 = .ok (.isub, 1) := by decide +kernel
theorem dX6_append_9 : decode cX6_append 9 = .ok (.if_icmp .le 6, 3) := by decide +kernel
theorem dX6_append_12 : decode cX6_append 12 = .ok (.bipush (-4), 2) := by decide +kernel
theorem dX6_append_14 : decode cX6_append 14 = .ok (.ireturn, 1) := by decide +kernel
theorem dX6_append_15 : decode cX6_append 15 = .ok (.bipush 8, 2) := by decide +kernel
theorem dX6_append_17 : decode cX6_append 17 = .ok (.iload_n 3, 1) := by decide +kernel
theorem dX6_append_18 : decode cX6_append 18 = .ok (.iconst 1, 1) := by decide +kernel
theorem dX6_append_19 : decode cX6_append 19 = .ok (.isub, 1) := by decide +kernel
theorem dX6_append_20 : decode cX6_append 20 = .ok (.imul, 1) := by decide +kernel
theorem dX6_append_21 : decode cX6_append 21 = .ok (.istore 4, 2) := by decide +kernel
theorem dX6_append_23 : decode cX6_append 23 = .ok (.iload 4, 2) := by decide +kernel
theorem dX6_append_25 : decode cX6_append 25 = .ok (.ifCond .lt 37, 3) := by decide +kernel
theorem dX6_append_28 : decode cX6_append 28 = .ok (.aload_n 0, 1) := by decide +kernel
theorem dX6_append_29 : decode cX6_append 29 = .ok (.getfield 11, 3) := by decide +kernel
theorem dX6_append_32 : decode cX6_append 32 = .ok (.aload_n 0, 1) := by decide +kernel
theorem dX6_append_33 : decode cX6_append 33 = .ok (.getfield 18, 3) := by decide +kernel
theorem dX6_append_36 : decode cX6_append 36 = .ok (.lload_n 1, 1) := by decide +kernel
theorem dX6_append_37 : decode cX6_append 37 = .ok (.iload 4, 2) := by decide +kernel
theorem dX6_append_39 : decode cX6_append 39 = .ok (.lshr, 1) := by decide +kernel
theorem dX6_append_40 : decode cX6_append 40 = .ok (.ldc2_w 22, 3) := by decide +kernel
theorem dX6_append_43 : decode cX6_append 43 = .ok (.land, 1) := by decide +kernel
theorem dX6_append_44 : decode cX6_append 44 = .ok (.l2i, 1) := by decide +kernel
theorem dX6_append_45 : decode cX6_append 45 = .ok (.iastore, 1) := by decide +kernel
theorem dX6_append_46 : decode cX6_append 46 = .ok (.aload_n 0, 1) := by decide +kernel
theorem dX6_append_47 : decode cX6_append 47 = .ok (.dup, 1) := by decide +kernel
theorem dX6_append_48 : decode cX6_append 48 = .ok (.getfield 18, 3) := by decide +kernel
theorem dX6_append_51 : decode cX6_append 51 = .ok (.iconst 1, 1) := by decide +kernel
theorem dX6_append_52 : decode cX6_append 52 = .ok (.iadd, 1) := by decide +kernel
theorem dX6_append_53 : decode cX6_append 53 = .ok (.putfield 18, 3) := by decide +kernel
theorem dX6_append_56 : decode cX6_append 56 = .ok (.iinc 4 (-8), 3) := by decide +kernel
theorem dX6_append_59 : decode cX6_append 59 = .ok (.goto (-36), 3) := by decide +kernel
theorem dX6_append_62 : decode cX6_append 62 = .ok (.aload_n 0, 1) := by decide +kernel
theorem dX6_append_63 : decode cX6_append 63 = .ok (.getfield 18, 3) := by decide +kernel
theorem dX6_append_66 : decode cX6_append 66 = .ok (.ireturn, 1) := by decide +kernel
set_option maxRecDepth 20000 in
theorem ggX6_faultPlace_X6_goToStart : GoodIn wsX6_faultPlace wsX6_goToStart := goodIn_r _ [6, 7, 85, 86, 87, 88, 89, 90, 91] (by decide +kernel) (by decide +kernel)
set_option maxRecDepth 20000 in
theorem gX6_faultPlace_X6_goToStart : GoodIn wsX6_faultPlace (wsV RX6 24 RX6 yX6_goToStart wsX6_goToStart) := goodIn_app (goodIn_of _ (by decide +kernel)) ggX6_faultPlace_X6_goToStart
set_option maxRecDepth 20000 in
theorem ggX6_faultPlace_X6_takeItem : GoodIn wsX6_faultPlace wsX6_takeItem := goodIn_r _ [11, 12, 13, 14, 15, 16, 17, 18, 19, 20, 21, 22, 5, 23, 7, 24, 25, 1, 26, 27, 28, 29, 30, 31, 32, 33, 34, 35, 36, 37, 38, 39, 40, 41, 42, 43, 44, 45, 46, 47, 48, 49, 50, 51, 52, 53, 54, 55, 56, 57, 58, 59, 60, 61, 62, 63, 64, 65, 66, 67, 68, 69, 70, 71, 72, 73, 74, 75, 76, 77, 78, 79, 80, 81, 82, 83, 84, 85, 86, 87, 88, 89, 90, 91] (by decide +kernel) (by decide +kernel)
set_option maxRecDepth 20000 in
theorem gX6_faultPlace_X6_takeItem : GoodIn wsX6_faultPlace (wsV RX6 27 RX6 yX6_takeItem wsX6_takeItem) := goodIn_app (goodIn_of _ (by decide +kernel)) ggX6_faultPlace_X6_takeItem
theorem dX6_faultPlace_0 : decode cX6_faultPlace 0 = .ok (.aload_n 0, 1) := by decide +kernel
theorem dX6_faultPlace_1 : decode cX6_faultPlace 1 = .ok (.invokevirtual 24, 3) := by decide +kernel
theorem dX6_faultPlace_4 : decode cX6_faultPlace 4 = .ok (.iconst 1, 1) := by decide +kernel
theorem dX6_faultPlace_5 : decode cX6_faultPlace 5 = .ok (.istore_n 1, 1) := by decide +kernel
theorem dX6_faultPlace_6 : decode cX6_faultPlace 6 = .ok (.iconst 0, 1) := by decide +kernel
theorem dX6_faultPlace_7 : decode cX6_faultPlace 7 = .ok (.istore_n 2, 1) := by decide +kernel
theorem dX6_faultPlace_8 : decode cX6_faultPlace 8 = .ok (.iload_n 2, 1) := by decide +kernel
theorem dX6_faultPlace_9 : decode cX6_faultPlace 9 = .ok (.sipush 240, 3) := by decide +kernel
theorem dX6_faultPlace_12 : decode cX6_faultPlace 12 = .ok (.if_icmp .gt 19, 3) := by decide +kernel
theorem dX6_faultPlace_15 : decode cX6_faultPlace 15 = .ok (.iload_n 1, 1) := by decide +kernel
theorem dX6_faultPlace_16 : decode cX6_faultPlace 16 = .ok (.iconst 1, 1) := by decide +kernel
theorem dX6_faultPlace_17 : decode cX6_faultPlace 17 = .ok (.if_icmp .ne 14, 3) := by decide +kernel
theorem dX6_faultPlace_20 : decode cX6_faultPlace 20 = .ok (.aload_n 0, 1) := by decide +kernel
theorem dX6_faultPlace_21 : decode cX6_faultPlace 21 = .ok (.invokevirtual 27, 3) := by decide +kernel
theorem dX6_faultPlace_24 : decode cX6_faultPlace 24 = .ok (.istore_n 1, 1) := by decide +kernel
theorem dX6_faultPlace_25 : decode cX6_faultPlace 25 = .ok (.iinc 2 1, 3) := by decide +kernel
theorem dX6_faultPlace_28 : decode cX6_faultPlace 28 = .ok (.goto (-20), 3) := by decide +kernel
theorem dX6_faultPlace_31 : decode cX6_faultPlace 31 = .ok (.iload_n 1, 1) := by decide +kernel
theorem dX6_faultPlace_32 : decode cX6_faultPlace 32 = .ok (.iconst (-1), 1) := by decide +kernel
theorem dX6_faultPlace_33 : decode cX6_faultPlace 33 = .ok (.if_icmp .ne 10, 3) := by decide +kernel
theorem dX6_faultPlace_36 : decode cX6_faultPlace 36 = .ok (.aload_n 0, 1) := by decide +kernel
theorem dX6_faultPlace_37 : decode cX6_faultPlace 37 = .ok (.getfield 31, 3) := by decide +kernel
theorem dX6_faultPlace_40 : decode cX6_faultPlace 40 = .ok (.goto 4, 3) := by decide +kernel
theorem dX6_faultPlace_43 : decode cX6_faultPlace 43 = .ok (.iconst (-1), 1) := by decide +kernel
theorem dX6_faultPlace_44 : decode cX6_faultPlace 44 = .ok (.ireturn, 1) := by decide +kernel
theorem dX6_goToStart_0 : decode cX6_goToStart 0 = .ok (.aload_n 0, 1) := by decide +kernel
theorem dX6_goToStart_1 : decode cX6_goToStart 1 = .ok (.iconst 0, 1) := by decide +kernel
