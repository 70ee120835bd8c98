theorem dX6_height_11 : decode cX6_height 11 = .ok (.iload_n 2, 1) := by decide +kernel
theorem dX6_height_12 : decode cX6_height 12 = .ok (.ifCond .ne 7, 3) := by decide +kernel
theorem dX6_height_15 : decode cX6_height 15 = .ok (.iconst 1, 1) := by decide +kernel
theorem dX6_height_16 : decode cX6_height 16 = .ok (.goto 16, 3) := by decide +kernel
theorem dX6_height_19 : decode cX6_height 19 = .ok (.aload_n 0, 1) := by decide +kernel
theorem dX6_height_20 : decode cX6_height 20 = .ok (.iload_n 1, 1) := by decide +kernel
theorem dX6_height_21 : decode cX6_height 21 = .ok (.invokevirtual 126, 3) := by decide +kernel
theorem dX6_height_24 : decode cX6_height 24 = .ok (.ifCond .ne 7, 3) := by decide +kernel
theorem dX6_height_27 : decode cX6_height 27 = .ok (.iconst 2, 1) := by decide +kernel
theorem dX6_height_28 : decode cX6_height 28 = .ok (.goto 4, 3) := by decide +kernel
theorem dX6_height_31 : decode cX6_height 31 = .ok (.iconst 0, 1) := by decide +kernel
theorem dX6_height_32 : decode cX6_height 32 = .ok (.invokevirtual 80, 3) := by decide +kernel
theorem dX6_height_35 : decode cX6_height 35 = .ok (.ifCond .eq 12, 3) := by decide +kernel
theorem dX6_height_38 : decode cX6_height 38 = .ok (.aload_n 0, 1) := by decide +kernel
theorem dX6_height_39 : decode cX6_height 39 = .ok (.getfield 42, 3) := by decide +kernel
theorem dX6_height_42 : decode cX6_height 42 = .ok (.iload_n 1, 1) := by decide +kernel
theorem dX6_height_43 : decode cX6_height 43 = .ok (.iaload, 1) := by decide +kernel
theorem dX6_height_44 : decode cX6_height 44 = .ok (.goto 4, 3) := by decide +kernel
theorem dX6_height_47 : decode cX6_height 47 = .ok (.iconst 0, 1) := by decide +kernel
theorem dX6_height_48 : decode cX6_height 48 = .ok (.ireturn, 1) := by decide +kernel
set_option maxRecDepth 20000 in
theorem ggX6_doubtOf_X6_findsAll : GoodIn wsX6_doubtOf wsX6_findsAll := goodIn_r _ [6, 1, 7, 8, 9, 10, 11, 12, 13, 5, 14, 15, 16, 17, 18, 19, 20, 21, 22, 23, 24, 25, 26, 27, 28, 29, 30, 31, 32, 33, 34, 35, 36, 37, 38, 39, 40, 41, 42, 43, 44] (by decide +kernel) (by decide +kernel)
set_option maxRecDepth 20000 in
theorem gX6_doubtOf_X6_findsAll : GoodIn wsX6_doubtOf (wsV RX6 137 RX6 yX6_findsAll wsX6_findsAll) := goodIn_app (goodIn_of _ (by decide +kernel)) ggX6_doubtOf_X6_findsAll
theorem dX6_doubtOf_0 : decode cX6_doubtOf 0 = .ok (.aload_n 0, 1) := by decide +kernel
theorem dX6_doubtOf_1 : decode cX6_doubtOf 1 = .ok (.invokevirtual 137, 3) := by decide +kernel
theorem dX6_doubtOf_4 : decode cX6_doubtOf 4 = .ok (.aload_n 0, 1) := by decide +kernel
theorem dX6_doubtOf_5 : decode cX6_doubtOf 5 = .ok (.getfield 39, 3) := by decide +kernel
theorem dX6_doubtOf_8 : decode cX6_doubtOf 8 = .ok (.iload_n 1, 1) := by decide +kernel
theorem dX6_doubtOf_9 : decode cX6_doubtOf 9 = .ok (.iaload, 1) := by decide +kernel
theorem dX6_doubtOf_10 : decode cX6_doubtOf 10 = .ok (.ireturn, 1) := by decide +kernel
set_option maxRecDepth 20000 in
theorem ggX6_doubt_X6_isBenchmark : GoodIn wsX6_doubt wsX6_isBenchmark := goodIn_r _ [5, 6, 7, 8, 4, 9, 42, 43, 44, 45, 46, 47, 48, 49, 50, 51, 52, 53, 54, 55, 56, 57, 58, 59, 60, 61] (by decide +kernel) (by decide +kernel)
set_option maxRecDepth 20000 in
theorem gX6_doubt_X6_isBenchmark : GoodIn wsX6_doubt (wsV RX6 118 RX6 yX6_isBenchmark wsX6_isBenchmark) := goodIn_app (goodIn_of _ (by decide +kernel)) ggX6_doubt_X6_isBenchmark
set_option maxRecDepth 20000 in
theorem ggX6_doubt_X6_holds : GoodIn wsX6_doubt wsX6_holds := goodIn_r _ [13, 14, 42, 43, 44, 45, 46, 47, 48, 49, 50, 51, 52, 53, 54, 55, 56, 57, 58, 59, 60, 61] (by decide +kernel) (by decide +kernel)
set_option maxRecDepth 20000 in
theorem gX6_doubt_X6_holds : GoodIn wsX6_doubt (wsV RX6 80 RX6 yX6_holds wsX6_holds) := goodIn_app (goodIn_of _ (by decide +kernel)) ggX6_doubt_X6_holds
set_option maxRecDepth 20000 in
theorem ggX6_doubt_X6_doubtOf : GoodIn wsX6_doubt wsX6_doubtOf := goodIn_r _ [18, 19, 20, 21, 22, 4, 23, 24, 25, 26, 27, 28, 29, 30, 31, 32, 33, 34, 35, 36, 37, 38, 39, 40, 41, 42, 43, 44, 45, 46, 47, 48, 49, 50, 51, 52, 53, 54, 55, 56, 57, 58, 59, 60, 61] (by decide +kernel) (by decide +kernel)
set_option maxRecDepth 20000 in
theorem gX6_doubt_X6_doubtOf : GoodIn wsX6_doubt (wsV RX6 140 RX6 yX6_doubtOf wsX6_doubtOf) := goodIn_app (goodIn_of _ (by decide +kernel)) ggX6_doubt_X6_doubtOf
theorem dX6_doubt_0 : decode cX6_doubt 0 = .ok (.aload_n 0, 1) := by decide +kernel
theorem dX6_doubt_1 : decode cX6_doubt 1 = .ok (.aload_n 0, 1) := by decide +kernel
theorem dX6_doubt_2 : decode cX6_doubt 2 = .ok (.iload_n 1, 1) := by decide +kernel
theorem dX6_doubt_3 : decode cX6_doubt 3 = .ok (.invokevirtual 118, 3) := by decide +kernel
theorem dX6_doubt_6 : decode cX6_doubt 6 = .ok (.ifCond .eq 7, 3) := by decide +kernel
theorem dX6_doubt_9 : decode cX6_doubt 9 = .ok (.iconst 0, 1) := by decide +kernel
theorem dX6_doubt_10 : decode cX6_doubt 10 = .ok (.goto 4, 3) := by decide +kernel
theorem dX6_doubt_13 : decode cX6_doubt 13 = .ok (.iconst 1, 1) := by decide +kernel
theorem dX6_doubt_14 : decode cX6_doubt 14 = .ok (.invokevirtual 80, 3) := by decide +kernel
theorem dX6_doubt_17 : decode cX6_doubt 17 = .ok (.ifCond .eq 11, 3) := by decide +kernel
theorem dX6_doubt_20 : decode cX6_doubt 20 = .ok (.aload_n 0, 1) := by decide +kernel
theorem dX6_doubt_21 : decode cX6_doubt 21 = .ok (.iload_n 1, 1) := by decide +kernel
theorem dX6_doubt_22 : decode cX6_doubt 22 = .ok (.invokevirtual 140, 3) := by decide +kernel
theorem dX6_doubt_25 : decode cX6_doubt 25 = .ok (.goto 4, 3) := by decide +kernel
theorem dX6_doubt_28 : decode cX6_doubt 28 = .ok (.iconst 0, 1) := by decide +kernel
theorem dX6_doubt_29 : decode cX6_doubt 29 = .ok (.ireturn, 1) := by decide +kernel
set_option maxRecDepth 20000 in
theorem ggX6_doubtAnew_X6_isBenchmark : GoodIn wsX6_doubtAnew wsX6_isBenchmark := goodIn_r _ [5, 6, 7, 8, 4, 9, 42, 43, 44, 45, 46, 47, 48, 49, 50, 51, 52, 53, 54, 55, 56, 57, 58, 59, 60, 61] (by decide +kernel) (by decide +kernel)
set_option maxRecDepth 20000 in
theorem gX6_doubtAnew_X6_isBenchmark : GoodIn wsX6_doubtAnew (wsV RX6 118 RX6 yX6_isBenchmark wsX6_isBenchmark) := goodIn_app (goodIn_of _ (by decide +kernel)) ggX6_doubtAnew_X6_isBenchmark
set_option maxRecDepth 20000 in
theorem ggX6_doubtAnew_X6_holds : GoodIn wsX6_doubtAnew wsX6_holds := goodIn_r _ [13, 14, 42, 43, 44, 45, 46, 47, 48, 49, 50, 51, 52, 53, 54, 55, 56, 57, 58, 59, 60, 61] (by decide +kernel) (by decide +kernel)
set_option maxRecDepth 20000 in
theorem gX6_doubtAnew_X6_holds : GoodIn wsX6_doubtAnew (wsV RX6 80 RX6 yX6_holds wsX6_holds) := goodIn_app (goodIn_of _ (by decide +kernel)) ggX6_doubtAnew_X6_holds
set_option maxRecDepth 20000 in
theorem ggX6_doubtAnew_X6_doubtOf : GoodIn wsX6_doubtAnew wsX6_doubtOf := goodIn_r _ [18, 19, 20, 21, 22, 4, 23, 24, 25, 26, 27, 28, 29, 30, 31, 32, 33, 34, 35, 36, 37, 38, 39, 40, 41, 42, 43, 44, 45, 46, 47, 48, 49, 50, 51, 52, 53, 54, 55, 56, 57, 58, 59, 60, 61] (by decide +kernel) (by decide +kernel)
set_option maxRecDepth 20000 in
theorem gX6_doubtAnew_X6_doubtOf : GoodIn wsX6_doubtAnew (wsV RX6 140 RX6 yX6_doubtOf wsX6_doubtOf) := goodIn_app (goodIn_of _ (by decide +kernel)) ggX6_doubtAnew_X6_doubtOf
theorem dX6_doubtAnew_0 : decode cX6_doubtAnew 0 = .ok (.aload_n 0, 1) := by decide +kernel
theorem dX6_doubtAnew_1 : decode cX6_doubtAnew 1 = .ok (.aload_n 0, 1) := by decide +kernel
theorem dX6_doubtAnew_2 : decode cX6_doubtAnew 2 = .ok (.iload_n 1, 1) := by decide +kernel
theorem dX6_doubtAnew_3 : decode cX6_doubtAnew 3 = .ok (.invokevirtual 118, 3) := by decide +kernel
theorem dX6_doubtAnew_6 : decode cX6_doubtAnew 6 = .ok (.ifCond .eq 7, 3) := by decide +kernel
theorem dX6_doubtAnew_9 : decode cX6_doubtAnew 9 = .ok (.iconst 0, 1) := by decide +kernel
theorem dX6_doubtAnew_10 : decode cX6_doubtAnew 10 = .ok (.goto 4, 3) := by decide +kernel
theorem dX6_doubtAnew_13 : decode cX6_doubtAnew 13 = .ok (.iconst 1, 1) := by decide +kernel
theorem dX6_doubtAnew_14 : decode cX6_doubtAnew 14 = .ok (.invokevirtual 80, 3) := by decide +kernel
theorem dX6_doubtAnew_17 : decode cX6_doubtAnew 17 = .ok (.ifCond .eq 11, 3) := by decide +kernel
theorem dX6_doubtAnew_20 : decode cX6_doubtAnew 20 = .ok (.aload_n 0, 1) := by decide +kernel
theorem dX6_doubtAnew_21 : decode cX6_doubtAnew 21 = .ok (.iload_n 1, 1) := by decide +kernel
theorem dX6_doubtAnew_22 : decode cX6_doubtAnew 22 = .ok (.invokevirtual 140, 3) := by decide +kernel
theorem dX6_doubtAnew_25 : decode cX6_doubtAnew 25 = .ok (.goto 4, 3) := by decide +kernel
theorem dX6_doubtAnew_28 : decode cX6_doubtAnew 28 = .ok (.iconst 0, 1) := by decide +kernel
theorem dX6_doubtAnew_29 : decode cX6_doubtAnew 29 = .ok (.ireturn, 1) := by decide +kernel
set_option maxRecDepth 20000 in
theorem ggX6_conflicts_X6_findsAll : GoodIn wsX6_conflicts wsX6_findsAll := goodIn_r _ [11, 6, 4, 1, 2, 3, 12, 13, 14, 10, 15, 16, 17, 18, 19, 20, 5, 21, 22, 23, 24, 25, 26, 27, 28, 29, 30, 31, 32, 33, 34, 35, 36, 37, 38, 39, 40, 41, 42, 43, 44] (by decide +kernel) (by decide +kernel)
set_option maxRecDepth 20000 in
theorem gX6_conflicts_X6_findsAll : GoodIn wsX6_conflicts (wsV RX6 137 RX6 yX6_findsAll wsX6_findsAll) := goodIn_app (goodIn_of _ (by decide +kernel)) ggX6_conflicts_X6_findsAll
set_option maxRecDepth 20000 in
theorem ggX6_conflicts_X6_isFound : GoodIn wsX6_conflicts wsX6_isFound := goodIn_r _ [24, 6, 25, 26, 27, 28, 29, 30, 31, 32, 33, 34, 35, 36, 37, 38, 39, 40, 41, 42, 43, 44] (by decide +kernel) (by decide +kernel)
set_option maxRecDepth 20000 in
theorem gX6_conflicts_X6_isFound : GoodIn wsX6_conflicts (wsV RX6 126 RX6 yX6_isFound wsX6_isFound) := goodIn_app (goodIn_of _ (by decide +kernel)) ggX6_conflicts_X6_isFound
theorem dX6_conflicts_0 : decode cX6_conflicts 0 = .ok (.aload_n 0, 1) := by decide +kernel
theorem dX6_conflicts_1 : decode cX6_conflicts 1 = .ok (.invokevirtual 137, 3) := by decide +kernel
theorem dX6_conflicts_4 : decode cX6_conflicts 4 = .ok (.aload_n 0, 1) := by decide +kernel
theorem dX6_conflicts_5 : decode cX6_conflicts 5 = .ok (.getfield 27, 3) := by decide +kernel
theorem dX6_conflicts_8 : decode cX6_conflicts 8 = .ok (.iload_n 1, 1) := by decide +kernel
theorem dX6_conflicts_9 : decode cX6_conflicts 9 = .ok (.iaload, 1) := by decide +kernel
theorem dX6_conflicts_10 : decode cX6_conflicts 10 = .ok (.istore_n 2, 1) := by decide +kernel
theorem dX6_conflicts_11 : decode cX6_conflicts 11 = .ok (.aload_n 0, 1) := by decide +kernel
theorem dX6_conflicts_12 : decode cX6_conflicts 12 = .ok (.getfield 30, 3) := by decide +kernel
theorem dX6_conflicts_15 : decode cX6_conflicts 15 = .ok (.iload_n 1, 1) := by decide +kernel
theorem dX6_conflicts_16 : decode cX6_conflicts 16 = .ok (.iaload, 1) := by decide +kernel
theorem dX6_conflicts_17 : decode cX6_conflicts 17 = .ok (.istore_n 3, 1) := by decide +kernel
theorem dX6_conflicts_18 : decode cX6_conflicts 18 = .ok (.aload_n 0, 1) := by decide +kernel
theorem dX6_conflicts_19 : decode cX6_conflicts 19 = .ok (.getfield 33, 3) := by decide +kernel
theorem dX6_conflicts_22 : decode cX6_conflicts 22 = .ok (.iload_n 1, 1) := by decide +kernel
theorem dX6_conflicts_23 : decode cX6_conflicts 23 = .ok (.iaload, 1) := by decide +kernel
theorem dX6_conflicts_24 : decode cX6_conflicts 24 = .ok (.aload_n 0, 1) := by decide +kernel
theorem dX6_conflicts_25 : decode cX6_conflicts 25 = .ok (.getfield 42, 3) := by decide +kernel
theorem dX6_conflicts_28 : decode cX6_conflicts 28 = .ok (.iload_n 3, 1) := by decide +kernel
theorem dX6_conflicts_29 : decode cX6_conflicts 29 = .ok (.iaload, 1) := by decide +kernel
theorem dX6_conflicts_30 : decode cX6_conflicts 30 = .ok (.aload_n 0, 1) := by decide +kernel
theorem dX6_conflicts_31 : decode cX6_conflicts 31 = .ok (.getfield 42, 3) := by decide +kernel
theorem dX6_conflicts_34 : decode cX6_conflicts 34 = .ok (.iload_n 2, 1) := by decide +kernel
theorem dX6_conflicts_35 : decode cX6_conflicts 35 = .ok (.iaload, 1) := by decide +kernel
theorem dX6_conflicts_36 : decode cX6_conflicts 36 = .ok (.isub, 1) := by decide +kernel
theorem dX6_conflicts_37 : decode cX6_conflicts 37 = .ok (.isub, 1) := by decide +kernel
theorem dX6_conflicts_38 : decode cX6_conflicts 38 = .ok (.istore 4, 2) := by decide +kernel
theorem dX6_conflicts_40 : decode cX6_conflicts 40 = .ok (.aload_n 0, 1) := by decide +kernel
theorem dX6_conflicts_41 : decode cX6_conflicts 41 = .ok (.iload_n 2, 1) := by decide +kernel
theorem dX6_conflicts_42 : decode cX6_conflicts 42 = .ok (.invokevirtual 126, 3) := by decide +kernel
theorem dX6_conflicts_45 : decode cX6_conflicts 45 = .ok (.ifCond .eq 51, 3) := by decide +kernel
theorem dX6_conflicts_48 : decode cX6_conflicts 48 = .ok (.aload_n 0, 1) := by decide +kernel
theorem dX6_conflicts_49 : decode cX6_conflicts 49 = .ok (.iload_n 3, 1) := by decide +kernel
theorem dX6_conflicts_50 : decode cX6_conflicts 50 = .ok (.invokevirtual 126, 3) := by decide +kernel
theorem dX6_conflicts_53 : decode cX6_conflicts 53 = .ok (.ifCond .eq 43, 3) := by decide +kernel
theorem dX6_conflicts_56 : decode cX6_conflicts 56 = .ok (.iload 4, 2) := by decide +kernel
theorem dX6_conflicts_58 : decode cX6_conflicts 58 = .ok (.ifCond .ge 9, 3) := by decide +kernel
theorem dX6_conflicts_61 : decode cX6_conflicts 61 = .ok (.iload 4, 2) := by decide +kernel
theorem dX6_conflicts_63 : decode cX6_conflicts 63 = .ok (.ineg, 1) := by decide +kernel
theorem dX6_conflicts_64 : decode cX6_conflicts 64 = .ok (.goto 5, 3) := by decide +kernel
theorem dX6_conflicts_67 : decode cX6_conflicts 67 = .ok (.iload 4, 2) := by decide +kernel
theorem dX6_conflicts_69 : decode cX6_conflicts 69 = .ok (.aload_n 0, 1) := by decide +kernel
theorem dX6_conflicts_70 : decode cX6_conflicts 70 = .ok (.getfield 36, 3) := by decide +kernel
theorem dX6_conflicts_73 : decode cX6_conflicts 73 = .ok (.iload_n 1, 1) := by decide +kernel
theorem dX6_conflicts_74 : decode cX6_conflicts 74 = .ok (.iaload, 1) := by decide +kernel
theorem dX6_conflicts_75 : decode cX6_conflicts 75 = .ok (.aload_n 0, 1) := by decide +kernel
theorem dX6_conflicts_76 : decode cX6_conflicts 76 = .ok (.getfield 39, 3) := by decide +kernel
theorem dX6_conflicts_79 : decode cX6_conflicts 79 = .ok (.iload_n 2, 1) := by decide +kernel
theorem dX6_conflicts_80 : decode cX6_conflicts 80 = .ok (.iaload, 1) := by decide +kernel
theorem dX6_conflicts_81 : decode cX6_conflicts 81 = .ok (.iadd, 1) := by decide +kernel
theorem dX6_conflicts_82 : decode cX6_conflicts 82 = .ok (.aload_n 0, 1) := by decide +kernel
theorem dX6_conflicts_83 : decode cX6_conflicts 83 = .ok (.getfield 39, 3) := by decide +kernel
theorem dX6_conflicts_86 : decode cX6_conflicts 86 = .ok (.iload_n 3, 1) := by decide +kernel
theorem dX6_conflicts_87 : decode cX6_conflicts 87 = .ok (.iaload, 1) := by decide +kernel
theorem dX6_conflicts_88 : decode cX6_conflicts 88 = .ok (.iadd, 1) := by decide +kernel
theorem dX6_conflicts_89 : decode cX6_conflicts 89 = .ok (.if_icmp .le 7, 3) := by decide +kernel
theorem dX6_conflicts_92 : decode cX6_conflicts 92 = .ok (.iconst 1, 1) := by decide +kernel
theorem dX6_conflicts_93 : decode cX6_conflicts 93 = .ok (.goto 4, 3) := by decide +kernel
theorem dX6_conflicts_96 : decode cX6_conflicts 96 = .ok (.iconst 0, 1) := by decide +kernel
theorem dX6_conflicts_97 : decode cX6_conflicts 97 = .ok (.ireturn, 1) := by decide +kernel
set_option maxRecDepth 20000 in
theorem ggX6_isInConflict_X6_isIn : GoodIn wsX6_isInConflict wsX6_isIn := goodIn_r _ [5] (by decide +kernel) (by decide +kernel)
set_option maxRecDepth 20000 in
theorem gX6_isInConflict_X6_isIn : GoodIn wsX6_isInConflict (va_wsS RX6 59 yX6_isIn wsX6_isIn) := goodIn_app (goodIn_of _ (by decide +kernel)) ggX6_isInConflict_X6_isIn
set_option maxRecDepth 20000 in
theorem ggX6_isInConflict_X6_holds : GoodIn wsX6_isInConflict wsX6_holds := goodIn_r _ [9, 10, 37, 38, 39, 40, 41, 42, 43, 44, 45, 46, 47, 48, 49, 50, 51, 52, 53, 54, 55, 56] (by decide +kernel) (by decide +kernel)
set_option maxRecDepth 20000 in
theorem gX6_isInConflict_X6_holds : GoodIn wsX6_isInConflict (wsV RX6 80 RX6 yX6_holds wsX6_holds) := goodIn_app (goodIn_of _ (by decide +kernel)) ggX6_isInConflict_X6_holds
set_option maxRecDepth 20000 in
theorem ggX6_isInConflict_X6_conflicts : GoodIn wsX6_isInConflict wsX6_conflicts := goodIn_r _ [14, 15, 16, 17, 18, 19, 20, 21, 22, 23, 4, 24, 25, 26, 27, 28, 1, 29, 30, 31, 32, 33, 34, 35, 36, 37, 38, 39, 40, 41, 42, 43, 44, 45, 46, 47, 48, 49, 50, 51, 52, 53, 54, 55, 56] (by decide +kernel) (by decide +kernel)
set_option maxRecDepth 20000 in
theorem gX6_isInConflict_X6_conflicts : GoodIn wsX6_isInConflict (wsV RX6 143 RX6 yX6_conflicts wsX6_conflicts) := goodIn_app (goodIn_of _ (by decide +kernel)) ggX6_isInConflict_X6_conflicts
theorem dX6_isInConflict_0 : decode cX6_isInConflict 0 = .ok (.aload_n 0, 1) := by decide +kernel
theorem dX6_isInConflict_1 : decode cX6_isInConflict 1 = .ok (.iload_n 1, 1) := by decide +kernel
theorem dX6_isInConflict_2 : decode cX6_isInConflict 2 = .ok (.i2l, 1) := by decide +kernel
theorem dX6_isInConflict_3 : decode cX6_isInConflict 3 = .ok (.lconst 0, 1) := by decide +kernel
theorem dX6_isInConflict_4 : decode cX6_isInConflict 4 = .ok (.aload_n 0, 1) := by decide +kernel
theorem dX6_isInConflict_5 : decode cX6_isInConflict 5 = .ok (.getfield 123, 3) := by decide +kernel
theorem dX6_isInConflict_8 : decode cX6_isInConflict 8 = .ok (.iconst 1, 1) := by decide +kernel
theorem dX6_isInConflict_9 : decode cX6_isInConflict 9 = .ok (.isub, 1) := by decide +kernel
theorem dX6_isInConflict_10 : decode cX6_isInConflict 10 = .ok (.i2l, 1) := by decide +kernel
theorem dX6_isInConflict_11 : decode cX6_isInConflict 11 = .ok (.invokestatic 59, 3) := by decide +kernel
theorem dX6_isInConflict_14 : decode cX6_isInConflict 14 = .ok (.ifCond .eq 7, 3) := by decide +kernel
theorem dX6_isInConflict_17 : decode cX6_isInConflict 17 = .ok (.iconst 0, 1) := by decide +kernel
theorem dX6_isInConflict_18 : decode cX6_isInConflict 18 = .ok (.goto 4, 3) := by decide +kernel
theorem dX6_isInConflict_21 : decode cX6_isInConflict 21 = .ok (.iconst 1, 1) := by decide +kernel
theorem dX6_isInConflict_22 : decode cX6_isInConflict 22 = .ok (.invokevirtual 80, 3) := by decide +kernel
theorem dX6_isInConflict_25 : decode cX6_isInConflict 25 = .ok (.ifCond .eq 15, 3) := by decide +kernel
theorem dX6_isInConflict_28 : decode cX6_isInConflict 28 = .ok (.aload_n 0, 1) := by decide +kernel
theorem dX6_isInConflict_29 : decode cX6_isInConflict 29 = .ok (.iload_n 1, 1) := by decide +kernel
theorem dX6_isInConflict_30 : decode cX6_isInConflict 30 = .ok (.invokevirtual 143, 3) := by decide +kernel
theorem dX6_isInConflict_33 : decode cX6_isInConflict 33 = .ok (.ifCond .eq 7, 3) := by decide +kernel
theorem dX6_isInConflict_36 : decode cX6_isInConflict 36 = .ok (.iconst 1, 1) := by decide +kernel
theorem dX6_isInConflict_37 : decode cX6_isInConflict 37 = .ok (.goto 4, 3) := by decide +kernel
theorem dX6_isInConflict_40 : decode cX6_isInConflict 40 = .ok (.iconst 0, 1) := by decide +kernel
theorem dX6_isInConflict_41 : decode cX6_isInConflict 41 = .ok (.ireturn, 1) := by decide +kernel
set_option maxRecDepth 20000 in
theorem ggX6_release_X6_holds : GoodIn wsX6_release wsX6_holds := goodIn_r _ [9, 10, 17, 18, 19, 20, 21, 22, 23, 24, 25, 26, 27, 28, 29, 30, 31, 32, 33, 34, 35, 36] (by decide +kernel) (by decide +kernel)
set_option maxRecDepth 20000 in
theorem gX6_release_X6_holds : GoodIn wsX6_release (wsV RX6 80 RX6 yX6_holds wsX6_holds) := goodIn_app (goodIn_of _ (by decide +kernel)) ggX6_release_X6_holds
set_option maxRecDepth 20000 in
theorem ggX6_release_X6_pullAt : GoodIn wsX6_release wsX6_pullAt := goodIn_r _ [14, 15, 16, 17, 18, 19, 20, 21, 22, 23, 24, 25, 26, 27, 28, 29, 30, 31, 32, 33, 34, 35, 36] (by decide +kernel) (by decide +kernel)
set_option maxRecDepth 20000 in
theorem gX6_release_X6_pullAt : GoodIn wsX6_release (wsV RX6 92 RX6 yX6_pullAt wsX6_pullAt) := goodIn_app (goodIn_of _ (by decide +kernel)) ggX6_release_X6_pullAt
theorem dX6_release_0 : decode cX6_release 0 = .ok (.aload_n 0, 1) := by decide +kernel
theorem dX6_release_1 : decode cX6_release 1 = .ok (.aload_n 0, 1) := by decide +kernel
theorem dX6_release_2 : decode cX6_release 2 = .ok (.getfield 69, 3) := by decide +kernel
theorem dX6_release_5 : decode cX6_release 5 = .ok (.bipush 12, 2) := by decide +kernel
theorem dX6_release_7 : decode cX6_release 7 = .ok (.if_icmp .ne 7, 3) := by decide +kernel
theorem dX6_release_10 : decode cX6_release 10 = .ok (.iconst 1, 1) := by decide +kernel
theorem dX6_release_11 : decode cX6_release 11 = .ok (.goto 4, 3) := by decide +kernel
theorem dX6_release_14 : decode cX6_release 14 = .ok (.iconst 0, 1) := by decide +kernel
theorem dX6_release_15 : decode cX6_release 15 = .ok (.invokevirtual 80, 3) := by decide +kernel
theorem dX6_release_18 : decode cX6_release 18 = .ok (.ifCond .ne 5, 3) := by decide +kernel
theorem dX6_release_21 : decode cX6_release 21 = .ok (.iconst 0, 1) := by decide +kernel
theorem dX6_release_22 : decode cX6_release 22 = .ok (.ireturn, 1) := by decide +kernel
theorem dX6_release_23 : decode cX6_release 23 = .ok (.iconst 0, 1) := by decide +kernel
theorem dX6_release_24 : decode cX6_release 24 = .ok (.istore_n 1, 1) := by decide +kernel
theorem dX6_release_25 : decode cX6_release 25 = .ok (.iload_n 1, 1) := by decide +kernel
theorem dX6_release_26 : decode cX6_release 26 = .ok (.bipush 64, 2) := by decide +kernel
theorem dX6_release_28 : decode cX6_release 28 = .ok (.if_icmp .ge 35, 3) := by decide +kernel
theorem dX6_release_31 : decode cX6_release 31 = .ok (.aload_n 0, 1) := by decide +kernel
theorem dX6_release_32 : decode cX6_release 32 = .ok (.getfield 45, 3) := by decide +kernel
theorem dX6_release_35 : decode cX6_release 35 = .ok (.bipush 64, 2) := by decide +kernel
theorem dX6_release_37 : decode cX6_release 37 = .ok (.aload_n 0, 1) := by decide +kernel
theorem dX6_release_38 : decode cX6_release 38 = .ok (.getfield 69, 3) := by decide +kernel
theorem dX6_release_41 : decode cX6_release 41 = .ok (.imul, 1) := by decide +kernel
theorem dX6_release_42 : decode cX6_release 42 = .ok (.iload_n 1, 1) := by decide +kernel
theorem dX6_release_43 : decode cX6_release 43 = .ok (.iadd, 1) := by decide +kernel
theorem dX6_release_44 : decode cX6_release 44 = .ok (.aload_n 0, 1) := by decide +kernel
theorem dX6_release_45 : decode cX6_release 45 = .ok (.iload_n 1, 1) := by decide +kernel
theorem dX6_release_46 : decode cX6_release 46 = .ok (.bipush 8, 2) := by decide +kernel
theorem dX6_release_48 : decode cX6_release 48 = .ok (.irem, 1) := by decide +kernel
theorem dX6_release_49 : decode cX6_release 49 = .ok (.iload_n 1, 1) := by decide +kernel
theorem dX6_release_50 : decode cX6_release 50 = .ok (.bipush 8, 2) := by decide +kernel
theorem dX6_release_52 : decode cX6_release 52 = .ok (.idiv, 1) := by decide +kernel
theorem dX6_release_53 : decode cX6_release 53 = .ok (.invokevirtual 92, 3) := by decide +kernel
theorem dX6_release_56 : decode cX6_release 56 = .ok (.lastore, 1) := by decide +kernel
theorem dX6_release_57 : decode cX6_release 57 = .ok (.iinc 1 1, 3) := by decide +kernel
theorem dX6_release_60 : decode cX6_release 60 = .ok (.goto (-35), 3) := by decide +kernel
theorem dX6_release_63 : decode cX6_release 63 = .ok (.aload_n 0, 1) := by decide +kernel
theorem dX6_release_64 : decode cX6_release 64 = .ok (.getfield 48, 3) := by decide +kernel
theorem dX6_release_67 : decode cX6_release 67 = .ok (.aload_n 0, 1) := by decide +kernel
theorem dX6_release_68 : decode cX6_release 68 = .ok (.getfield 69, 3) := by decide +kernel
theorem dX6_release_71 : decode cX6_release 71 = .ok (.aload_n 0, 1) := by decide +kernel
theorem dX6_release_72 : decode cX6_release 72 = .ok (.getfield 51, 3) := by decide +kernel
theorem dX6_release_75 : decode cX6_release 75 = .ok (.iastore, 1) := by decide +kernel
theorem dX6_release_76 : decode cX6_release 76 = .ok (.aload_n 0, 1) := by decide +kernel
theorem dX6_release_77 : decode cX6_release 77 = .ok (.dup, 1) := by decide +kernel
theorem dX6_release_78 : decode cX6_release 78 = .ok (.getfield 69, 3) := by decide +kernel
theorem dX6_release_81 : decode cX6_release 81 = .ok (.iconst 1, 1) := by decide +kernel
theorem dX6_release_82 : decode cX6_release 82 = .ok (.iadd, 1) := by decide +kernel
theorem dX6_release_83 : decode cX6_release 83 = .ok (.putfield 69, 3) := by decide +kernel
theorem dX6_release_86 : decode cX6_release 86 = .ok (.aload_n 0, 1) := by decide +kernel
theorem dX6_release_87 : decode cX6_release 87 = .ok (.getfield 69, 3) := by decide +kernel
theorem dX6_release_90 : decode cX6_release 90 = .ok (.iconst 1, 1) := by decide +kernel
theorem dX6_release_91 : decode cX6_release 91 = .ok (.isub, 1) := by decide +kernel
theorem dX6_release_92 : decode cX6_release 92 = .ok (.ireturn, 1) := by decide +kernel
theorem dX6_down_0 : decode cX6_down 0 = .ok (.lload_n 0, 1) := by decide +kernel
theorem dX6_down_1 : decode cX6_down 1 = .ok (.lload_n 2, 1) := by decide +kernel
theorem dX6_down_2 : decode cX6_down 2 = .ok (.ldiv, 1) := by decide +kernel
theorem dX6_down_3 : decode cX6_down 3 = .ok (.lstore 4, 2) := by decide +kernel
theorem dX6_down_5 : decode cX6_down 5 = .ok (.lload_n 0, 1) := by decide +kernel
theorem dX6_down_6 : decode cX6_down 6 = .ok (.lload_n 2, 1) := by decide +kernel
theorem dX6_down_7 : decode cX6_down 7 = .ok (.lrem, 1) := by decide +kernel
theorem dX6_down_8 : decode cX6_down 8 = .ok (.lconst 0, 1) := by decide +kernel
theorem dX6_down_9 : decode cX6_down 9 = .ok (.lcmp, 1) := by decide +kernel
theorem dX6_down_10 : decode cX6_down 10 = .ok (.ifCond .ge 10, 3) := by decide +kernel
theorem dX6_down_13 : decode cX6_down 13 = .ok (.lload 4, 2) := by decide +kernel
theorem dX6_down_15 : decode cX6_down 15 = .ok (.lconst 1, 1) := by decide +kernel
theorem dX6_down_16 : decode cX6_down 16 = .ok (.lsub, 1) := by decide +kernel
theorem dX6_down_17 : decode cX6_down 17 = .ok (.goto 5, 3) := by decide +kernel
theorem dX6_down_20 : decode cX6_down 20 = .ok (.lload 4, 2) := by decide +kernel
theorem dX6_down_22 : decode cX6_down 22 = .ok (.lreturn, 1) := by decide +kernel
set_option maxRecDepth 20000 in
theorem ggX6_trend_X6_isRelease : GoodIn wsX6_trend wsX6_isRelease := goodIn_r _ [7, 8, 9, 10, 6, 11, 24, 25, 26, 27, 28, 29, 30, 31, 32, 33, 34, 35, 36, 37, 38, 39, 40, 41, 42, 43] (by decide +kernel) (by decide +kernel)
set_option maxRecDepth 20000 in
theorem gX6_trend_X6_isRelease : GoodIn wsX6_trend (wsV RX6 146 RX6 yX6_isRelease wsX6_isRelease) := goodIn_app (goodIn_of _ (by decide +kernel)) ggX6_trend_X6_isRelease
set_option maxRecDepth 20000 in
theorem ggX6_trend_X6_isCell : GoodIn wsX6_trend wsX6_isCell := goodIn_r _ [14, 15, 9, 10, 6, 11] (by decide +kernel) (by decide +kernel)
set_option maxRecDepth 20000 in
theorem gX6_trend_X6_isCell : GoodIn wsX6_trend (va_wsS RX6 72 yX6_isCell wsX6_isCell) := goodIn_app (goodIn_of _ (by decide +kernel)) ggX6_trend_X6_isCell
set_option maxRecDepth 20000 in
theorem ggX6_trend_X6_holds : GoodIn wsX6_trend wsX6_holds := goodIn_r _ [19, 20, 24, 25, 26, 27, 28, 29, 30, 31, 32, 33, 34, 35, 36, 37, 38, 39, 40, 41, 42, 43] (by decide +kernel) (by decide +kernel)
set_option maxRecDepth 20000 in
theorem gX6_trend_X6_holds : GoodIn wsX6_trend (wsV RX6 80 RX6 yX6_holds wsX6_holds) := goodIn_app (goodIn_of _ (by decide +kernel)) ggX6_trend_X6_holds
set_option maxRecDepth 20000 in
theorem ggX6_trend_X6_down : GoodIn wsX6_trend wsX6_down := goodIn_r _ [23] (by decide +kernel) (by decide +kernel)
set_option maxRecDepth 20000 in
theorem gX6_trend_X6_down : GoodIn wsX6_trend (va_wsS RX6 149 yX6_down wsX6_down) := goodIn_app (goodIn_of _ (by decide +kernel)) ggX6_trend_X6_down
theorem dX6_trend_0 : decode cX6_trend 0 = .ok (.aload_n 0, 1) := by decide +kernel
theorem dX6_trend_1 : decode cX6_trend 1 = .ok (.iload_n 1, 1) := by decide +kernel
theorem dX6_trend_2 : decode cX6_trend 2 = .ok (.invokevirtual 146, 3) := by decide +kernel
theorem dX6_trend_5 : decode cX6_trend 5 = .ok (.ifCond .eq 24, 3) := by decide +kernel
theorem dX6_trend_8 : decode cX6_trend 8 = .ok (.aload_n 0, 1) := by decide +kernel
theorem dX6_trend_9 : decode cX6_trend 9 = .ok (.iload_n 2, 1) := by decide +kernel
theorem dX6_trend_10 : decode cX6_trend 10 = .ok (.invokevirtual 146, 3) := by decide +kernel
theorem dX6_trend_13 : decode cX6_trend 13 = .ok (.ifCond .eq 16, 3) := by decide +kernel
theorem dX6_trend_16 : decode cX6_trend 16 = .ok (.iload_n 3, 1) := by decide +kernel
theorem dX6_trend_17 : decode cX6_trend 17 = .ok (.iload 4, 2) := by decide +kernel
theorem dX6_trend_19 : decode cX6_trend 19 = .ok (.invokestatic 72, 3) := by decide +kernel
theorem dX6_trend_22 : decode cX6_trend 22 = .ok (.ifCond .eq 7, 3) := by decide +kernel
theorem dX6_trend_25 : decode cX6_trend 25 = .ok (.iconst 1, 1) := by decide +kernel
theorem dX6_trend_26 : decode cX6_trend 26 = .ok (.goto 4, 3) := by decide +kernel
theorem dX6_trend_29 : decode cX6_trend 29 = .ok (.iconst 0, 1) := by decide +kernel
theorem dX6_trend_30 : decode cX6_trend 30 = .ok (.istore 5, 2) := by decide +kernel
theorem dX6_trend_32 : decode cX6_trend 32 = .ok (.aload_n 0, 1) := by decide +kernel
theorem dX6_trend_33 : decode cX6_trend 33 = .ok (.iload 5, 2) := by decide +kernel
theorem dX6_trend_35 : decode cX6_trend 35 = .ok (.ifCond .ne 7, 3) := by decide +kernel
theorem dX6_trend_38 : decode cX6_trend 38 = .ok (.iconst 1, 1) := by decide +kernel
theorem dX6_trend_39 : decode cX6_trend 39 = .ok (.goto 23, 3) := by decide +kernel
theorem dX6_trend_42 : decode cX6_trend 42 = .ok (.aload_n 0, 1) := by decide +kernel
theorem dX6_trend_43 : decode cX6_trend 43 = .ok (.getfield 48, 3) := by decide +kernel
theorem dX6_trend_46 : decode cX6_trend 46 = .ok (.iload_n 1, 1) := by decide +kernel
theorem dX6_trend_47 : decode cX6_trend 47 = .ok (.iaload, 1) := by decide +kernel
theorem dX6_trend_48 : decode cX6_trend 48 = .ok (.aload_n 0, 1) := by decide +kernel
theorem dX6_trend_49 : decode cX6_trend 49 = .ok (.getfield 48, 3) := by decide +kernel
theorem dX6_trend_52 : decode cX6_trend 52 = .ok (.iload_n 2, 1) := by decide +kernel
theorem dX6_trend_53 : decode cX6_trend 53 = .ok (.iaload, 1) := by decide +kernel
theorem dX6_trend_54 : decode cX6_trend 54 = .ok (.if_icmp .ne 7, 3) := by decide +kernel
theorem dX6_trend_57 : decode cX6_trend 57 = .ok (.iconst 2, 1) := by decide +kernel
theorem dX6_trend_58 : decode cX6_trend 58 = .ok (.goto 4, 3) := by decide +kernel
theorem dX6_trend_61 : decode cX6_trend 61 = .ok (.iconst 0, 1) := by decide +kernel
theorem dX6_trend_62 : decode cX6_trend 62 = .ok (.invokevirtual 80, 3) := by decide +kernel
theorem dX6_trend_65 : decode cX6_trend 65 = .ok (.ifCond .ne 5, 3) := by decide +kernel
theorem dX6_trend_68 : decode cX6_trend 68 = .ok (.lconst 0, 1) := by decide +kernel
theorem dX6_trend_69 : decode cX6_trend 69 = .ok (.lreturn, 1) := by decide +kernel
theorem dX6_trend_70 : decode cX6_trend 70 = .ok (.aload_n 0, 1) := by decide +kernel
theorem dX6_trend_71 : decode cX6_trend 71 = .ok (.getfield 48, 3) := by decide +kernel
theorem dX6_trend_74 : decode cX6_trend 74 = .ok (.iload_n 1, 1) := by decide +kernel
theorem dX6_trend_75 : decode cX6_trend 75 = .ok (.iaload, 1) := by decide +kernel
theorem dX6_trend_76 : decode cX6_trend 76 = .ok (.aload_n 0, 1) := by decide +kernel
theorem dX6_trend_77 : decode cX6_trend 77 = .ok (.getfield 48, 3) := by decide +kernel
theorem dX6_trend_80 : decode cX6_trend 80 = .ok (.iload_n 2, 1) := by decide +kernel
theorem dX6_trend_81 : decode cX6_trend 81 = .ok (.iaload, 1) := by decide +kernel
theorem dX6_trend_82 : decode cX6_trend 82 = .ok (.if_icmp .le 7, 3) := by decide +kernel
theorem dX6_trend_85 : decode cX6_trend 85 = .ok (.iload_n 1, 1) := by decide +kernel
theorem dX6_trend_86 : decode cX6_trend 86 = .ok (.goto 4, 3) := by decide +kernel
theorem dX6_trend_89 : decode cX6_trend 89 = .ok (.iload_n 2, 1) := by decide +kernel
theorem dX6_trend_90 : decode cX6_trend 90 = .ok (.istore 6, 2) := by decide +kernel
theorem dX6_trend_92 : decode cX6_trend 92 = .ok (.iload 6, 2) := by decide +kernel
theorem dX6_trend_94 : decode cX6_trend 94 = .ok (.iload_n 1, 1) := by decide +kernel
theorem dX6_trend_95 : decode cX6_trend 95 = .ok (.if_icmp .ne 7, 3) := by decide +kernel
theorem dX6_trend_98 : decode cX6_trend 98 = .ok (.iload_n 2, 1) := by decide +kernel
theorem dX6_trend_99 : decode cX6_trend 99 = .ok (.goto 4, 3) := by decide +kernel
theorem dX6_trend_102 : decode cX6_trend 102 = .ok (.iload_n 1, 1) := by decide +kernel
theorem dX6_trend_103 : decode cX6_trend 103 = .ok (.istore 7, 2) := by decide +kernel
theorem dX6_trend_105 : decode cX6_trend 105 = .ok (.bipush 8, 2) := by decide +kernel
theorem dX6_trend_107 : decode cX6_trend 107 = .ok (.iload 4, 2) := by decide +kernel
theorem dX6_trend_109 : decode cX6_trend 109 = .ok (.imul, 1) := by decide +kernel
theorem dX6_trend_110 : decode cX6_trend 110 = .ok (.iload_n 3, 1) := by decide +kernel
theorem dX6_trend_111 : decode cX6_trend 111 = .ok (.iadd, 1) := by decide +kernel
theorem dX6_trend_112 : decode cX6_trend 112 = .ok (.istore 8, 2) := by decide +kernel
theorem dX6_trend_114 : decode cX6_trend 114 = .ok (.aload_n 0, 1) := by decide +kernel
theorem dX6_trend_115 : decode cX6_trend 115 = .ok (.getfield 45, 3) := by decide +kernel
theorem dX6_trend_118 : decode cX6_trend 118 = .ok (.bipush 64, 2) := by decide +kernel
theorem dX6_trend_120 : decode cX6_trend 120 = .ok (.iload 6, 2) := by decide +kernel
theorem dX6_trend_122 : decode cX6_trend 122 = .ok (.imul, 1) := by decide +kernel
theorem dX6_trend_123 : decode cX6_trend 123 = .ok (.iload 8, 2) := by decide +kernel
theorem dX6_trend_125 : decode cX6_trend 125 = .ok (.iadd, 1) := by decide +kernel
theorem dX6_trend_126 : decode cX6_trend 126 = .ok (.laload, 1) := by decide +kernel
theorem dX6_trend_127 : decode cX6_trend 127 = .ok (.aload_n 0, 1) := by decide +kernel
theorem dX6_trend_128 : decode cX6_trend 128 = .ok (.getfield 45, 3) := by decide +kernel
theorem dX6_trend_131 : decode cX6_trend 131 = .ok (.bipush 64, 2) := by decide +kernel
theorem dX6_trend_133 : decode cX6_trend 133 = .ok (.iload 7, 2) := by decide +kernel
theorem dX6_trend_135 : decode cX6_trend 135 = .ok (.imul, 1) := by decide +kernel
theorem dX6_trend_136 : decode cX6_trend 136 = .ok (.iload 8, 2) := by decide +kernel
theorem dX6_trend_138 : decode cX6_trend 138 = .ok (.iadd, 1) := by decide +kernel
theorem dX6_trend_139 : decode cX6_trend 139 = .ok (.laload, 1) := by decide +kernel
theorem dX6_trend_140 : decode cX6_trend 140 = .ok (.lsub, 1) := by decide +kernel
theorem dX6_trend_141 : decode cX6_trend 141 = .ok (.aload_n 0, 1) := by decide +kernel
theorem dX6_trend_142 : decode cX6_trend 142 = .ok (.getfield 48, 3) := by decide +kernel
theorem dX6_trend_145 : decode cX6_trend 145 = .ok (.iload 6, 2) := by decide +kernel
theorem dX6_trend_147 : decode cX6_trend 147 = .ok (.iaload, 1) := by decide +kernel
theorem dX6_trend_148 : decode cX6_trend 148 = .ok (.aload_n 0, 1) := by decide +kernel
theorem dX6_trend_149 : decode cX6_trend 149 = .ok (.getfield 48, 3) := by decide +kernel
theorem dX6_trend_152 : decode cX6_trend 152 = .ok (.iload 7, 2) := by decide +kernel
theorem dX6_trend_154 : decode cX6_trend 154 = .ok (.iaload, 1) := by decide +kernel
theorem dX6_trend_155 : decode cX6_trend 155 = .ok (.isub, 1) := by decide +kernel
theorem dX6_trend_156 : decode cX6_trend 156 = .ok (.i2l, 1) := by decide +kernel
theorem dX6_trend_157 : decode cX6_trend 157 = .ok (.invokestatic 149, 3) := by decide +kernel
theorem dX6_trend_160 : decode cX6_trend 160 = .ok (.lreturn, 1) := by decide +kernel
theorem dJ9_floorDiv_f86c9_0 : decode cJ9_floorDiv_f86c9 0 = .ok (.lload_n 0, 1) := by decide +kernel
theorem dJ9_floorDiv_f86c9_1 : decode cJ9_floorDiv_f86c9 1 = .ok (.lload_n 2, 1) := by decide +kernel
theorem dJ9_floorDiv_f86c9_2 : decode cJ9_floorDiv_f86c9 2 = .ok (.ldiv, 1) := by decide +kernel
theorem dJ9_floorDiv_f86c9_3 : decode cJ9_floorDiv_f86c9 3 = .ok (.lstore 4, 2) := by decide +kernel
theorem dJ9_floorDiv_f86c9_5 : decode cJ9_floorDiv_f86c9 5 = .ok (.lload_n 0, 1) := by decide +kernel
theorem dJ9_floorDiv_f86c9_6 : decode cJ9_floorDiv_f86c9 6 = .ok (.lload_n 2, 1) := by decide +kernel
theorem dJ9_floorDiv_f86c9_7 : decode cJ9_floorDiv_f86c9 7 = .ok (.lxor, 1) := by decide +kernel
theorem dJ9_floorDiv_f86c9_8 : decode cJ9_floorDiv_f86c9 8 = .ok (.lconst 0, 1) := by decide +kernel
theorem dJ9_floorDiv_f86c9_9 : decode cJ9_floorDiv_f86c9 9 = .ok (.lcmp, 1) := by decide +kernel
theorem dJ9_floorDiv_f86c9_10 : decode cJ9_floorDiv_f86c9 10 = .ok (.ifCond .ge 17, 3) := by decide +kernel
theorem dJ9_floorDiv_f86c9_13 : decode cJ9_floorDiv_f86c9 13 = .ok (.lload 4, 2) := by decide +kernel
theorem dJ9_floorDiv_f86c9_15 : decode cJ9_floorDiv_f86c9 15 = .ok (.lload_n 2, 1) := by decide +kernel
theorem dJ9_floorDiv_f86c9_16 : decode cJ9_floorDiv_f86c9 16 = .ok (.lmul, 1) := by decide +kernel
theorem dJ9_floorDiv_f86c9_17 : decode cJ9_floorDiv_f86c9 17 = .ok (.lload_n 0, 1) := by decide +kernel
theorem dJ9_floorDiv_f86c9_18 : decode cJ9_floorDiv_f86c9 18 = .ok (.lcmp, 1) := by decide +kernel
theorem dJ9_floorDiv_f86c9_19 : decode cJ9_floorDiv_f86c9 19 = .ok (.ifCond .eq 8, 3) := by decide +kernel
theorem dJ9_floorDiv_f86c9_22 : decode cJ9_floorDiv_f86c9 22 = .ok (.lload 4, 2) := by decide +kernel
theorem dJ9_floorDiv_f86c9_24 : decode cJ9_floorDiv_f86c9 24 = .ok (.lconst 1, 1) := by decide +kernel
theorem dJ9_floorDiv_f86c9_25 : decode cJ9_floorDiv_f86c9 25 = .ok (.lsub, 1) := by decide +kernel
theorem dJ9_floorDiv_f86c9_26 : decode cJ9_floorDiv_f86c9 26 = .ok (.lreturn, 1) := by decide +kernel
theorem dJ9_floorDiv_f86c9_27 : decode cJ9_floorDiv_f86c9 27 = .ok (.lload 4, 2) := by decide +kernel
theorem dJ9_floorDiv_f86c9_29 : decode cJ9_floorDiv_f86c9 29 = .ok (.lreturn, 1) := by decide +kernel
theorem dJ9_abs_0f7a4_0 : decode cJ9_abs_0f7a4 0 = .ok (.iload_n 0, 1) := by decide +kernel
theorem dJ9_abs_0f7a4_1 : decode cJ9_abs_0f7a4 1 = .ok (.ifCond .ge 8, 3) := by decide +kernel
theorem dJ9_abs_0f7a4_4 : decode cJ9_abs_0f7a4 4 = .ok (.iload_n 0, 1) := by decide +kernel
theorem dJ9_abs_0f7a4_5 : decode cJ9_abs_0f7a4 5 = .ok (.ineg, 1) := by decide +kernel
theorem dJ9_abs_0f7a4_6 : decode cJ9_abs_0f7a4 6 = .ok (.goto 4, 3) := by decide +kernel
theorem dJ9_abs_0f7a4_9 : decode cJ9_abs_0f7a4 9 = .ok (.iload_n 0, 1) := by decide +kernel
theorem dJ9_abs_0f7a4_10 : decode cJ9_abs_0f7a4 10 = .ok (.ireturn, 1) := by decide +kernel
set_option maxRecDepth 20000 in
theorem ggL_mass_X5_mass : GoodIn wsL_mass wsX5_mass := goodIn_ca (goodIn_ca (goodIn_r _ [7, 8, 9, 10, 11, 6, 12, 13, 14, 15, 16, 17, 18, 19, 20, 21, 22, 23, 24, 25, 26, 27, 28, 29, 30, 31, 32, 33, 34, 35, 36, 37, 38, 39, 40, 41, 42, 43, 44, 45, 46, 47, 48, 49, 50] (by decide +kernel) (by decide +kernel)) (goodIn_sub (fun _ h => List.mem_cons_of_mem _ (List.mem_append_left _ (List.mem_append_right _ h))) (by decide +kernel))) (goodIn_sub (fun _ h => List.mem_cons_of_mem _ (List.mem_append_right _ h)) (by decide +kernel))
set_option maxRecDepth 20000 in
theorem gL_mass_X5_mass : GoodIn wsL_mass (wsV RL 7 RX5 yX5_mass wsX5_mass) := goodIn_app (goodIn_of _ (by decide +kernel)) ggL_mass_X5_mass
theorem dL_mass_0 : decode cL_mass 0 = .ok (.aload 6, 2) := by decide +kernel
theorem dL_mass_2 : decode cL_mass 2 = .ok (.iconst 0, 1) := by decide +kernel
theorem dL_mass_3 : decode cL_mass 3 = .ok (.aload_n 0, 1) := by decide +kernel
theorem dL_mass_4 : decode cL_mass 4 = .ok (.iload_n 1, 1) := by decide +kernel
theorem dL_mass_5 : decode cL_mass 5 = .ok (.iload_n 2, 1) := by decide +kernel
theorem dL_mass_6 : decode cL_mass 6 = .ok (.iload_n 3, 1) := by decide +kernel
theorem dL_mass_7 : decode cL_mass 7 = .ok (.lload 4, 2) := by decide +kernel
theorem dL_mass_9 : decode cL_mass 9 = .ok (.invokevirtual 7, 3) := by decide +kernel
theorem dL_mass_12 : decode cL_mass 12 = .ok (.lastore, 1) := by decide +kernel
theorem dL_mass_13 : decode cL_mass 13 = .ok (.goto 11, 3) := by decide +kernel
theorem dL_mass_16 : decode cL_mass 16 = .ok (.astore 7, 2) := by decide +kernel
theorem dL_mass_18 : decode cL_mass 18 = .ok (.iconst 1, 1) := by decide +kernel
theorem dL_mass_19 : decode cL_mass 19 = .ok (.ireturn, 1) := by decide +kernel
theorem dL_mass_20 : decode cL_mass 20 = .ok (.astore 7, 2) := by decide +kernel
theorem dL_mass_22 : decode cL_mass 22 = .ok (.iconst 2, 1) := by decide +kernel
theorem dL_mass_23 : decode cL_mass 23 = .ok (.ireturn, 1) := by decide +kernel
theorem dL_mass_24 : decode cL_mass 24 = .ok (.iconst 0, 1) := by decide +kernel
theorem dL_mass_25 : decode cL_mass 25 = .ok (.ireturn, 1) := by decide +kernel
set_option maxRecDepth 20000 in
theorem ggL_water_X5_water : GoodIn wsL_water wsX5_water := goodIn_ca (goodIn_ca (goodIn_r _ [7, 8, 9, 10, 11, 6, 12, 13, 14, 15, 16, 17, 18, 19, 20, 21, 22, 23, 24, 25, 26, 27, 28, 29, 30, 31, 32, 33, 34, 35, 36, 37, 38, 39, 40, 41, 42, 43, 44, 45, 46, 47] (by decide +kernel) (by decide +kernel)) (goodIn_sub (fun _ h => List.mem_cons_of_mem _ (List.mem_append_left _ (List.mem_append_right _ h))) (by decide +kernel))) (goodIn_sub (fun _ h => List.mem_cons_of_mem _ (List.mem_append_right _ h)) (by decide +kernel))
set_option maxRecDepth 20000 in
theorem gL_water_X5_water : GoodIn wsL_water (wsV RL 17 RX5 yX5_water wsX5_water) := goodIn_app (goodIn_of _ (by decide +kernel)) ggL_water_X5_water
theorem dL_water_0 : decode cL_water 0 = .ok (.aload 5, 2) := by decide +kernel
theorem dL_water_2 : decode cL_water 2 = .ok (.iconst 0, 1) := by decide +kernel
theorem dL_water_3 : decode cL_water 3 = .ok (.aload_n 0, 1) := by decide +kernel
theorem dL_water_4 : decode cL_water 4 = .ok (.iload_n 1, 1) := by decide +kernel
theorem dL_water_5 : decode cL_water 5 = .ok (.iload_n 2, 1) := by decide +kernel
theorem dL_water_6 : decode cL_water 6 = .ok (.lload_n 3, 1) := by decide +kernel
theorem dL_water_7 : decode cL_water 7 = .ok (.invokevirtual 17, 3) := by decide +kernel
theorem dL_water_10 : decode cL_water 10 = .ok (.lastore, 1) := by decide +kernel
theorem dL_water_11 : decode cL_water 11 = .ok (.goto 11, 3) := by decide +kernel
theorem dL_water_14 : decode cL_water 14 = .ok (.astore 6, 2) := by decide +kernel
theorem dL_water_16 : decode cL_water 16 = .ok (.iconst 1, 1) := by decide +kernel
theorem dL_water_17 : decode cL_water 17 = .ok (.ireturn, 1) := by decide +kernel
theorem dL_water_18 : decode cL_water 18 = .ok (.astore 6, 2) := by decide +kernel
theorem dL_water_20 : decode cL_water 20 = .ok (.iconst 2, 1) := by decide +kernel
theorem dL_water_21 : decode cL_water 21 = .ok (.ireturn, 1) := by decide +kernel
theorem dL_water_22 : decode cL_water 22 = .ok (.iconst 0, 1) := by decide +kernel
theorem dL_water_23 : decode cL_water 23 = .ok (.ireturn, 1) := by decide +kernel
set_option maxRecDepth 20000 in
theorem ggL_pull_X5_pull : GoodIn wsL_pull wsX5_pull := goodIn_ca (goodIn_r _ [6, 7, 8, 9, 5, 10, 11, 12, 13, 14, 15, 16, 17, 18, 19, 20, 21, 22, 23, 24, 25, 26, 27, 28] (by decide +kernel) (by decide +kernel)) (goodIn_sub (fun _ h => List.mem_cons_of_mem _ (List.mem_append_right _ h)) (by decide +kernel))
set_option maxRecDepth 20000 in
theorem gL_pull_X5_pull : GoodIn wsL_pull (wsV RL 21 RX5 yX5_pull wsX5_pull) := goodIn_app (goodIn_of _ (by decide +kernel)) ggL_pull_X5_pull
theorem dL_pull_0 : decode cL_pull 0 = .ok (.aload_n 3, 1) := by decide +kernel
theorem dL_pull_1 : decode cL_pull 1 = .ok (.iconst 0, 1) := by decide +kernel
theorem dL_pull_2 : decode cL_pull 2 = .ok (.aload_n 0, 1) := by decide +kernel
theorem dL_pull_3 : decode cL_pull 3 = .ok (.iload_n 1, 1) := by decide +kernel
theorem dL_pull_4 : decode cL_pull 4 = .ok (.iload_n 2, 1) := by decide +kernel
theorem dL_pull_5 : decode cL_pull 5 = .ok (.invokevirtual 21, 3) := by decide +kernel
theorem dL_pull_8 : decode cL_pull 8 = .ok (.lastore, 1) := by decide +kernel
theorem dL_pull_9 : decode cL_pull 9 = .ok (.goto 7, 3) := by decide +kernel
theorem dL_pull_12 : decode cL_pull 12 = .ok (.astore 4, 2) := by decide +kernel
theorem dL_pull_14 : decode cL_pull 14 = .ok (.iconst 1, 1) := by decide +kernel
theorem dL_pull_15 : decode cL_pull 15 = .ok (.ireturn, 1) := by decide +kernel
theorem dL_pull_16 : decode cL_pull 16 = .ok (.iconst 0, 1) := by decide +kernel
theorem dL_pull_17 : decode cL_pull 17 = .ok (.ireturn, 1) := by decide +kernel
set_option maxRecDepth 20000 in
theorem ggL_pullAnew_X5_pullAnew : GoodIn wsL_pullAnew wsX5_pullAnew := goodIn_ca (goodIn_r _ [6, 7, 8, 9, 5, 10, 11, 12, 13, 14, 15, 16, 17, 18, 19, 20, 21, 22, 23, 24, 25, 26, 27, 28, 29, 30, 31, 32, 33, 34, 35, 36] (by decide +kernel) (by decide +kernel)) (goodIn_sub (fun _ h => List.mem_cons_of_mem _ (List.mem_append_right _ h)) (by decide +kernel))
set_option maxRecDepth 20000 in
theorem gL_pullAnew_X5_pullAnew : GoodIn wsL_pullAnew (wsV RL 25 RX5 yX5_pullAnew wsX5_pullAnew) := goodIn_app (goodIn_of _ (by decide +kernel)) ggL_pullAnew_X5_pullAnew
theorem dL_pullAnew_0 : decode cL_pullAnew 0 = .ok (.aload_n 3, 1) := by decide +kernel
theorem dL_pullAnew_1 : decode cL_pullAnew 1 = .ok (.iconst 0, 1) := by decide +kernel
theorem dL_pullAnew_2 : decode cL_pullAnew 2 = .ok (.aload_n 0, 1) := by decide +kernel
theorem dL_pullAnew_3 : decode cL_pullAnew 3 = .ok (.iload_n 1, 1) := by decide +kernel
theorem dL_pullAnew_4 : decode cL_pullAnew 4 = .ok (.iload_n 2, 1) := by decide +kernel
theorem dL_pullAnew_5 : decode cL_pullAnew 5 = .ok (.invokevirtual 25, 3) := by decide +kernel
theorem dL_pullAnew_8 : decode cL_pullAnew 8 = .ok (.lastore, 1) := by decide +kernel
theorem dL_pullAnew_9 : decode cL_pullAnew 9 = .ok (.goto 7, 3) := by decide +kernel
theorem dL_pullAnew_12 : decode cL_pullAnew 12 = .ok (.astore 4, 2) := by decide +kernel
theorem dL_pullAnew_14 : decode cL_pullAnew 14 = .ok (.iconst 1, 1) := by decide +kernel
theorem dL_pullAnew_15 : decode cL_pullAnew 15 = .ok (.ireturn, 1) := by decide +kernel
theorem dL_pullAnew_16 : decode cL_pullAnew 16 = .ok (.iconst 0, 1) := by decide +kernel
theorem dL_pullAnew_17 : decode cL_pullAnew 17 = .ok (.ireturn, 1) := by decide +kernel
set_option maxRecDepth 20000 in
theorem ggL_gap_X5_gap : GoodIn wsL_gap wsX5_gap := goodIn_ca (goodIn_r _ [6, 7, 8, 9, 5, 10, 11, 12, 13, 14, 15, 16, 17, 18, 19, 20, 21, 22, 23, 24, 25, 26, 27, 28, 29, 30, 31] (by decide +kernel) (by decide +kernel)) (goodIn_sub (fun _ h => List.mem_cons_of_mem _ (List.mem_append_right _ h)) (by decide +kernel))
set_option maxRecDepth 20000 in
theorem gL_gap_X5_gap : GoodIn wsL_gap (wsV RL 28 RX5 yX5_gap wsX5_gap) := goodIn_app (goodIn_of _ (by decide +kernel)) ggL_gap_X5_gap
theorem dL_gap_0 : decode cL_gap 0 = .ok (.aload_n 3, 1) := by decide +kernel
theorem dL_gap_1 : decode cL_gap 1 = .ok (.iconst 0, 1) := by decide +kernel
theorem dL_gap_2 : decode cL_gap 2 = .ok (.aload_n 0, 1) := by decide +kernel
theorem dL_gap_3 : decode cL_gap 3 = .ok (.iload_n 1, 1) := by decide +kernel
theorem dL_gap_4 : decode cL_gap 4 = .ok (.iload_n 2, 1) := by decide +kernel
theorem dL_gap_5 : decode cL_gap 5 = .ok (.invokevirtual 28, 3) := by decide +kernel
theorem dL_gap_8 : decode cL_gap 8 = .ok (.lastore, 1) := by decide +kernel
theorem dL_gap_9 : decode cL_gap 9 = .ok (.goto 7, 3) := by decide +kernel
theorem dL_gap_12 : decode cL_gap 12 = .ok (.astore 4, 2) := by decide +kernel
theorem dL_gap_14 : decode cL_gap 14 = .ok (.iconst 1, 1) := by decide +kernel
theorem dL_gap_15 : decode cL_gap 15 = .ok (.ireturn, 1) := by decide +kernel
theorem dL_gap_16 : decode cL_gap 16 = .ok (.iconst 0, 1) := by decide +kernel
theorem dL_gap_17 : decode cL_gap 17 = .ok (.ireturn, 1) := by decide +kernel
set_option maxRecDepth 20000 in
theorem ggL_tide_X5_tide : GoodIn wsL_tide wsX5_tide := goodIn_ca (goodIn_r _ [6, 7, 8, 9, 10, 11, 5, 12, 13, 14, 15, 16, 17, 18, 19, 20, 21, 22, 23, 24, 25, 26, 27, 28] (by decide +kernel) (by decide +kernel)) (goodIn_sub (fun _ h => List.mem_cons_of_mem _ (List.mem_append_right _ h)) (by decide +kernel))
set_option maxRecDepth 20000 in
theorem gL_tide_X5_tide : GoodIn wsL_tide (wsV RL 31 RX5 yX5_tide wsX5_tide) := goodIn_app (goodIn_of _ (by decide +kernel)) ggL_tide_X5_tide
theorem dL_tide_0 : decode cL_tide 0 = .ok (.aload_n 3, 1) := by decide +kernel
theorem dL_tide_1 : decode cL_tide 1 = .ok (.iconst 0, 1) := by decide +kernel
theorem dL_tide_2 : decode cL_tide 2 = .ok (.aload_n 0, 1) := by decide +kernel
theorem dL_tide_3 : decode cL_tide 3 = .ok (.iload_n 1, 1) := by decide +kernel
theorem dL_tide_4 : decode cL_tide 4 = .ok (.iload_n 2, 1) := by decide +kernel
theorem dL_tide_5 : decode cL_tide 5 = .ok (.invokevirtual 31, 3) := by decide +kernel
theorem dL_tide_8 : decode cL_tide 8 = .ok (.i2l, 1) := by decide +kernel
theorem dL_tide_9 : decode cL_tide 9 = .ok (.lastore, 1) := by decide +kernel
theorem dL_tide_10 : decode cL_tide 10 = .ok (.goto 7, 3) := by decide +kernel
theorem dL_tide_13 : decode cL_tide 13 = .ok (.astore 4, 2) := by decide +kernel
theorem dL_tide_15 : decode cL_tide 15 = .ok (.iconst 1, 1) := by decide +kernel
theorem dL_tide_16 : decode cL_tide 16 = .ok (.ireturn, 1) := by decide +kernel
theorem dL_tide_17 : decode cL_tide 17 = .ok (.iconst 0, 1) := by decide +kernel
theorem dL_tide_18 : decode cL_tide 18 = .ok (.ireturn, 1) := by decide +kernel
set_option maxRecDepth 20000 in
theorem ggL_pass_X5_pass : GoodIn wsL_pass wsX5_pass := goodIn_ca (goodIn_ca (goodIn_r _ [7, 8, 9, 10, 11, 12, 13, 6, 14, 15, 16, 17, 18, 19, 20, 21, 22] (by decide +kernel) (by decide +kernel)) (goodIn_sub (fun _ h => List.mem_cons_of_mem _ (List.mem_append_left _ (List.mem_append_right _ h))) (by decide +kernel))) (goodIn_sub (fun _ h => List.mem_cons_of_mem _ (List.mem_append_right _ h)) (by decide +kernel))
set_option maxRecDepth 20000 in
theorem gL_pass_X5_pass : GoodIn wsL_pass (wsV RL 35 RX5 yX5_pass wsX5_pass) := goodIn_app (goodIn_of _ (by decide +kernel)) ggL_pass_X5_pass
theorem dL_pass_0 : decode cL_pass 0 = .ok (.aload_n 2, 1) := by decide +kernel
theorem dL_pass_1 : decode cL_pass 1 = .ok (.iconst 0, 1) := by decide +kernel
theorem dL_pass_2 : decode cL_pass 2 = .ok (.aload_n 0, 1) := by decide +kernel
theorem dL_pass_3 : decode cL_pass 3 = .ok (.iload_n 1, 1) := by decide +kernel
theorem dL_pass_4 : decode cL_pass 4 = .ok (.invokevirtual 35, 3) := by decide +kernel
theorem dL_pass_7 : decode cL_pass 7 = .ok (.i2l, 1) := by decide +kernel
theorem dL_pass_8 : decode cL_pass 8 = .ok (.lastore, 1) := by decide +kernel
theorem dL_pass_9 : decode cL_pass 9 = .ok (.goto 9, 3) := by decide +kernel
theorem dL_pass_12 : decode cL_pass 12 = .ok (.astore_n 3, 1) := by decide +kernel
theorem dL_pass_13 : decode cL_pass 13 = .ok (.iconst 1, 1) := by decide +kernel
theorem dL_pass_14 : decode cL_pass 14 = .ok (.ireturn, 1) := by decide +kernel
theorem dL_pass_15 : decode cL_pass 15 = .ok (.astore_n 3, 1) := by decide +kernel
theorem dL_pass_16 : decode cL_pass 16 = .ok (.iconst 2, 1) := by decide +kernel
theorem dL_pass_17 : decode cL_pass 17 = .ok (.ireturn, 1) := by decide +kernel
theorem dL_pass_18 : decode cL_pass 18 = .ok (.iconst 0, 1) := by decide +kernel
theorem dL_pass_19 : decode cL_pass 19 = .ok (.ireturn, 1) := by decide +kernel
set_option maxRecDepth 20000 in
theorem ggL_needle_X5_needle : GoodIn wsL_needle wsX5_needle := goodIn_ca (goodIn_ca (goodIn_r _ [7, 8, 9, 10, 11, 12, 13, 6, 14, 15, 16, 17, 18, 19, 20, 21, 22, 23, 24, 25, 26, 27, 28, 29, 30, 31, 32, 33, 34, 35, 36, 37, 38, 39] (by decide +kernel) (by decide +kernel)) (goodIn_sub (fun _ h => List.mem_cons_of_mem _ (List.mem_append_left _ (List.mem_append_right _ h))) (by decide +kernel))) (goodIn_sub (fun _ h => List.mem_cons_of_mem _ (List.mem_append_right _ h)) (by decide +kernel))
set_option maxRecDepth 20000 in
theorem gL_needle_X5_needle : GoodIn wsL_needle (wsV RL 41 RX5 yX5_needle wsX5_needle) := goodIn_app (goodIn_of _ (by decide +kernel)) ggL_needle_X5_needle
theorem dL_needle_0 : decode cL_needle 0 = .ok (.aload_n 3, 1) := by decide +kernel
theorem dL_needle_1 : decode cL_needle 1 = .ok (.iconst 0, 1) := by decide +kernel
theorem dL_needle_2 : decode cL_needle 2 = .ok (.aload_n 0, 1) := by decide +kernel
theorem dL_needle_3 : decode cL_needle 3 = .ok (.iload_n 1, 1) := by decide +kernel
theorem dL_needle_4 : decode cL_needle 4 = .ok (.iload_n 2, 1) := by decide +kernel
theorem dL_needle_5 : decode cL_needle 5 = .ok (.invokevirtual 41, 3) := by decide +kernel
theorem dL_needle_8 : decode cL_needle 8 = .ok (.i2l, 1) := by decide +kernel
theorem dL_needle_9 : decode cL_needle 9 = .ok (.lastore, 1) := by decide +kernel
theorem dL_needle_10 : decode cL_needle 10 = .ok (.goto 11, 3) := by decide +kernel
theorem dL_needle_13 : decode cL_needle 13 = .ok (.astore 4, 2) := by decide +kernel
theorem dL_needle_15 : decode cL_needle 15 = .ok (.iconst 1, 1) := by decide +kernel
theorem dL_needle_16 : decode cL_needle 16 = .ok (.ireturn, 1) := by decide +kernel
theorem dL_needle_17 : decode cL_needle 17 = .ok (.astore 4, 2) := by decide +kernel
theorem dL_needle_19 : decode cL_needle 19 = .ok (.iconst 2, 1) := by decide +kernel
theorem dL_needle_20 : decode cL_needle 20 = .ok (.ireturn, 1) := by decide +kernel
theorem dL_needle_21 : decode cL_needle 21 = .ok (.iconst 0, 1) := by decide +kernel
theorem dL_needle_22 : decode cL_needle 22 = .ok (.ireturn, 1) := by decide +kernel
set_option maxRecDepth 20000 in
theorem ggL_tie_X5_tie : GoodIn wsL_tie wsX5_tie := goodIn_ca (goodIn_ca (goodIn_r _ [7, 8, 9, 10, 11, 12, 13, 6, 14, 15, 16, 17, 18, 19, 20, 21, 22, 23, 24, 25, 26, 27, 28, 29, 30, 31, 32, 33] (by decide +kernel) (by decide +kernel)) (goodIn_sub (fun _ h => List.mem_cons_of_mem _ (List.mem_append_left _ (List.mem_append_right _ h))) (by decide +kernel))) (goodIn_sub (fun _ h => List.mem_cons_of_mem _ (List.mem_append_right _ h)) (by decide +kernel))
set_option maxRecDepth 20000 in
theorem gL_tie_X5_tie : GoodIn wsL_tie (wsV RL 44 RX5 yX5_tie wsX5_tie) := goodIn_app (goodIn_of _ (by decide +kernel)) ggL_tie_X5_tie
theorem dL_tie_0 : decode cL_tie 0 = .ok (.aload_n 2, 1) := by decide +kernel
theorem dL_tie_1 : decode cL_tie 1 = .ok (.iconst 0, 1) := by decide +kernel
theorem dL_tie_2 : decode cL_tie 2 = .ok (.aload_n 0, 1) := by decide +kernel
theorem dL_tie_3 : decode cL_tie 3 = .ok (.iload_n 1, 1) := by decide +kernel
theorem dL_tie_4 : decode cL_tie 4 = .ok (.invokevirtual 44, 3) := by decide +kernel
theorem dL_tie_7 : decode cL_tie 7 = .ok (.lastore, 1) := by decide +kernel
theorem dL_tie_8 : decode cL_tie 8 = .ok (.goto 9, 3) := by decide +kernel
theorem dL_tie_11 : decode cL_tie 11 = .ok (.astore_n 3, 1) := by decide +kernel
theorem dL_tie_12 : decode cL_tie 12 = .ok (.iconst 1, 1) := by decide +kernel
theorem dL_tie_13 : decode cL_tie 13 = .ok (.ireturn, 1) := by decide +kernel
theorem dL_tie_14 : decode cL_tie 14 = .ok (.astore_n 3, 1) := by decide +kernel
theorem dL_tie_15 : decode cL_tie 15 = .ok (.iconst 2, 1) := by decide +kernel
theorem dL_tie_16 : decode cL_tie 16 = .ok (.ireturn, 1) := by decide +kernel
theorem dL_tie_17 : decode cL_tie 17 = .ok (.iconst 0, 1) := by decide +kernel
theorem dL_tie_18 : decode cL_tie 18 = .ok (.ireturn, 1) := by decide +kernel
set_option maxRecDepth 20000 in
theorem ggL_read_X5_read : GoodIn wsL_read wsX5_read := goodIn_ca (goodIn_r _ [6, 7, 8, 9, 10, 11, 12, 5, 13, 14, 15, 16, 17, 18, 19, 20, 21, 22, 23, 24, 25, 26, 27, 28, 29, 30, 31, 32, 33, 34, 35, 36, 37, 38, 39, 40, 41, 42, 43, 44, 45, 46, 47, 48, 49, 50, 51, 52, 53] (by decide +kernel) (by decide +kernel)) (goodIn_sub (fun _ h => List.mem_cons_of_mem _ (List.mem_append_right _ h)) (by decide +kernel))
set_option maxRecDepth 20000 in
theorem gL_read_X5_read : GoodIn wsL_read (wsV RL 48 RX5 yX5_read wsX5_read) := goodIn_app (goodIn_of _ (by decide +kernel)) ggL_read_X5_read
theorem dL_read_0 : decode cL_read 0 = .ok (.aload 4, 2) := by decide +kernel
theorem dL_read_2 : decode cL_read 2 = .ok (.iconst 0, 1) := by decide +kernel
theorem dL_read_3 : decode cL_read 3 = .ok (.aload_n 0, 1) := by decide +kernel
theorem dL_read_4 : decode cL_read 4 = .ok (.iload_n 1, 1) := by decide +kernel
theorem dL_read_5 : decode cL_read 5 = .ok (.iload_n 2, 1) := by decide +kernel
theorem dL_read_6 : decode cL_read 6 = .ok (.iload_n 3, 1) := by decide +kernel
theorem dL_read_7 : decode cL_read 7 = .ok (.invokevirtual 48, 3) := by decide +kernel
theorem dL_read_10 : decode cL_read 10 = .ok (.lastore, 1) := by decide +kernel
theorem dL_read_11 : decode cL_read 11 = .ok (.goto 7, 3) := by decide +kernel
theorem dL_read_14 : decode cL_read 14 = .ok (.astore 5, 2) := by decide +kernel
theorem dL_read_16 : decode cL_read 16 = .ok (.iconst 1, 1) := by decide +kernel
theorem dL_read_17 : decode cL_read 17 = .ok (.ireturn, 1) := by decide +kernel
theorem dL_read_18 : decode cL_read 18 = .ok (.iconst 0, 1) := by decide +kernel
theorem dL_read_19 : decode cL_read 19 = .ok (.ireturn, 1) := by decide +kernel
set_option maxRecDepth 20000 in
theorem ggL_benchmark_X5_benchmark : GoodIn wsL_benchmark wsX5_benchmark := goodIn_ca (goodIn_r _ [6, 7, 8, 9, 5, 10, 11, 12, 13, 14, 15, 16, 17, 18, 19, 20, 21, 22, 23, 24, 25, 26, 27, 28, 29, 30, 31, 32] (by decide +kernel) (by decide +kernel)) (goodIn_sub (fun _ h => List.mem_cons_of_mem _ (List.mem_append_right _ h)) (by decide +kernel))
set_option maxRecDepth 20000 in
theorem gL_benchmark_X5_benchmark : GoodIn wsL_benchmark (wsV RL 52 RX5 yX5_benchmark wsX5_benchmark) := goodIn_app (goodIn_of _ (by decide +kernel)) ggL_benchmark_X5_benchmark
theorem dL_benchmark_0 : decode cL_benchmark 0 = .ok (.aload_n 1, 1) := by decide +kernel
theorem dL_benchmark_1 : decode cL_benchmark 1 = .ok (.iconst 0, 1) := by decide +kernel
theorem dL_benchmark_2 : decode cL_benchmark 2 = .ok (.aload_n 0, 1) := by decide +kernel
theorem dL_benchmark_3 : decode cL_benchmark 3 = .ok (.invokevirtual 52, 3) := by decide +kernel
theorem dL_benchmark_6 : decode cL_benchmark 6 = .ok (.i2l, 1) := by decide +kernel
theorem dL_benchmark_7 : decode cL_benchmark 7 = .ok (.lastore, 1) := by decide +kernel
theorem dL_benchmark_8 : decode cL_benchmark 8 = .ok (.goto 6, 3) := by decide +kernel
theorem dL_benchmark_11 : decode cL_benchmark 11 = .ok (.astore_n 2, 1) := by decide +kernel
theorem dL_benchmark_12 : decode cL_benchmark 12 = .ok (.iconst 1, 1) := by decide +kernel
theorem dL_benchmark_13 : decode cL_benchmark 13 = .ok (.ireturn, 1) := by decide +kernel
theorem dL_benchmark_14 : decode cL_benchmark 14 = .ok (.iconst 0, 1) := by decide +kernel
theorem dL_benchmark_15 : decode cL_benchmark 15 = .ok (.ireturn, 1) := by decide +kernel
set_option maxRecDepth 20000 in
theorem ggL_line_X5_line : GoodIn wsL_line wsX5_line := goodIn_ca (goodIn_ca (goodIn_ca (goodIn_r _ [8, 9, 10, 11, 12, 13, 14, 15, 16, 7, 17, 18, 19, 20, 21, 22, 23, 24, 25, 26, 27, 28, 29, 30, 31, 32, 33, 34, 35, 36, 37, 38, 39, 40, 41, 42, 43, 44, 45, 46, 47, 48, 49, 50, 51] (by decide +kernel) (by decide +kernel)) (goodIn_sub (fun _ h => List.mem_cons_of_mem _ (List.mem_append_left _ (List.mem_append_left _ (List.mem_append_right _ h)))) (by decide +kernel))) (goodIn_sub (fun _ h => List.mem_cons_of_mem _ (List.mem_append_left _ (List.mem_append_right _ h))) (by decide +kernel))) (goodIn_sub (fun _ h => List.mem_cons_of_mem _ (List.mem_append_right _ h)) (by decide +kernel))
set_option maxRecDepth 20000 in
theorem gL_line_X5_line : GoodIn wsL_line (wsV RL 56 RX5 yX5_line wsX5_line) := goodIn_app (goodIn_of _ (by decide +kernel)) ggL_line_X5_line
theorem dL_line_0 : decode cL_line 0 = .ok (.aload 5, 2) := by decide +kernel
theorem dL_line_2 : decode cL_line 2 = .ok (.iconst 0, 1) := by decide +kernel
theorem dL_line_3 : decode cL_line 3 = .ok (.aload_n 0, 1) := by decide +kernel
theorem dL_line_4 : decode cL_line 4 = .ok (.iload_n 1, 1) := by decide +kernel
theorem dL_line_5 : decode cL_line 5 = .ok (.iload_n 2, 1) := by decide +kernel
theorem dL_line_6 : decode cL_line 6 = .ok (.iload_n 3, 1) := by decide +kernel
theorem dL_line_7 : decode cL_line 7 = .ok (.iload 4, 2) := by decide +kernel
theorem dL_line_9 : decode cL_line 9 = .ok (.invokevirtual 56, 3) := by decide +kernel
theorem dL_line_12 : decode cL_line 12 = .ok (.i2l, 1) := by decide +kernel
theorem dL_line_13 : decode cL_line 13 = .ok (.lastore, 1) := by decide +kernel
theorem dL_line_14 : decode cL_line 14 = .ok (.goto 15, 3) := by decide +kernel
theorem dL_line_17 : decode cL_line 17 = .ok (.astore 6, 2) := by decide +kernel
theorem dL_line_19 : decode cL_line 19 = .ok (.iconst 1, 1) := by decide +kernel
theorem dL_line_20 : decode cL_line 20 = .ok (.ireturn, 1) := by decide +kernel
theorem dL_line_21 : decode cL_line 21 = .ok (.astore 6, 2) := by decide +kernel
theorem dL_line_23 : decode cL_line 23 = .ok (.iconst 2, 1) := by decide +kernel
theorem dL_line_24 : decode cL_line 24 = .ok (.ireturn, 1) := by decide +kernel
theorem dL_line_25 : decode cL_line 25 = .ok (.astore 6, 2) := by decide +kernel
theorem dL_line_27 : decode cL_line 27 = .ok (.iconst 3, 1) := by decide +kernel
theorem dL_line_28 : decode cL_line 28 = .ok (.ireturn, 1) := by decide +kernel
theorem dL_line_29 : decode cL_line 29 = .ok (.iconst 0, 1) := by decide +kernel
theorem dL_line_30 : decode cL_line 30 = .ok (.ireturn, 1) := by decide +kernel
set_option maxRecDepth 20000 in
theorem ggL_height_X5_height : GoodIn wsL_height wsX5_height := goodIn_ca (goodIn_ca (goodIn_r _ [7, 8, 9, 10, 11, 12, 6, 13, 14, 15, 16, 17, 18, 19, 20, 21, 22, 23, 24, 25, 26, 27, 28, 29, 30, 31, 32, 33, 34, 35, 36, 37, 38, 39, 40, 41, 42, 43, 44, 45, 46, 47, 48, 49, 50, 51, 52, 53, 54, 55, 56, 57] (by decide +kernel) (by decide +kernel)) (goodIn_sub (fun _ h => List.mem_cons_of_mem _ (List.mem_append_left _ (List.mem_append_right _ h))) (by decide +kernel))) (goodIn_sub (fun _ h => List.mem_cons_of_mem _ (List.mem_append_right _ h)) (by decide +kernel))
set_option maxRecDepth 20000 in
theorem gL_height_X5_height : GoodIn wsL_height (wsV RL 60 RX5 yX5_height wsX5_height) := goodIn_app (goodIn_of _ (by decide +kernel)) ggL_height_X5_height
theorem dL_height_0 : decode cL_height 0 = .ok (.aload_n 2, 1) := by decide +kernel
theorem dL_height_1 : decode cL_height 1 = .ok (.iconst 0, 1) := by decide +kernel
theorem dL_height_2 : decode cL_height 2 = .ok (.aload_n 0, 1) := by decide +kernel
theorem dL_height_3 : decode cL_height 3 = .ok (.iload_n 1, 1) := by decide +kernel
theorem dL_height_4 : decode cL_height 4 = .ok (.invokevirtual 60, 3) := by decide +kernel
theorem dL_height_7 : decode cL_height 7 = .ok (.i2l, 1) := by decide +kernel
theorem dL_height_8 : decode cL_height 8 = .ok (.lastore, 1) := by decide +kernel
theorem dL_height_9 : decode cL_height 9 = .ok (.goto 9, 3) := by decide +kernel
theorem dL_height_12 : decode cL_height 12 = .ok (.astore_n 3, 1) := by decide +kernel
theorem dL_height_13 : decode cL_height 13 = .ok (.iconst 1, 1) := by decide +kernel
theorem dL_height_14 : decode cL_height 14 = .ok (.ireturn, 1) := by decide +kernel
theorem dL_height_15 : decode cL_height 15 = .ok (.astore_n 3, 1) := by decide +kernel
theorem dL_height_16 : decode cL_height 16 = .ok (.iconst 2, 1) := by decide +kernel
theorem dL_height_17 : decode cL_height 17 = .ok (.ireturn, 1) := by decide +kernel
theorem dL_height_18 : decode cL_height 18 = .ok (.iconst 0, 1) := by decide +kernel
theorem dL_height_19 : decode cL_height 19 = .ok (.ireturn, 1) := by decide +kernel
set_option maxRecDepth 20000 in
theorem ggL_doubt_X5_doubt : GoodIn wsL_doubt wsX5_doubt := goodIn_ca (goodIn_r _ [6, 7, 8, 9, 5, 10, 11, 12, 13, 14, 15, 16, 17, 18, 19, 20, 21, 22, 23, 24, 25, 26, 27, 28, 29, 30, 31, 32, 33, 34, 35, 36, 37, 38, 39, 40, 41, 42, 43, 44, 45, 46, 47, 48, 49, 50, 51, 52, 53, 54] (by decide +kernel) (by decide +kernel)) (goodIn_sub (fun _ h => List.mem_cons_of_mem _ (List.mem_append_right _ h)) (by decide +kernel))
set_option maxRecDepth 20000 in
theorem gL_doubt_X5_doubt : GoodIn wsL_doubt (wsV RL 63 RX5 yX5_doubt wsX5_doubt) := goodIn_app (goodIn_of _ (by decide +kernel)) ggL_doubt_X5_doubt
theorem dL_doubt_0 : decode cL_doubt 0 = .ok (.aload_n 2, 1) := by decide +kernel
theorem dL_doubt_1 : decode cL_doubt 1 = .ok (.iconst 0, 1) := by decide +kernel
theorem dL_doubt_2 : decode cL_doubt 2 = .ok (.aload_n 0, 1) := by decide +kernel
theorem dL_doubt_3 : decode cL_doubt 3 = .ok (.iload_n 1, 1) := by decide +kernel
theorem dL_doubt_4 : decode cL_doubt 4 = .ok (.invokevirtual 63, 3) := by decide +kernel
theorem dL_doubt_7 : decode cL_doubt 7 = .ok (.i2l, 1) := by decide +kernel
theorem dL_doubt_8 : decode cL_doubt 8 = .ok (.lastore, 1) := by decide +kernel
theorem dL_doubt_9 : decode cL_doubt 9 = .ok (.goto 6, 3) := by decide +kernel
theorem dL_doubt_12 : decode cL_doubt 12 = .ok (.astore_n 3, 1) := by decide +kernel
theorem dL_doubt_13 : decode cL_doubt 13 = .ok (.iconst 1, 1) := by decide +kernel
theorem dL_doubt_14 : decode cL_doubt 14 = .ok (.ireturn, 1) := by decide +kernel
theorem dL_doubt_15 : decode cL_doubt 15 = .ok (.iconst 0, 1) := by decide +kernel
theorem dL_doubt_16 : decode cL_doubt 16 = .ok (.ireturn, 1) := by decide +kernel
set_option maxRecDepth 20000 in
theorem ggL_doubtAnew_X5_doubtAnew : GoodIn wsL_doubtAnew wsX5_doubtAnew := goodIn_ca (goodIn_r _ [6, 7, 8, 9, 5, 10, 11, 12, 13, 14, 15, 16, 17, 18, 19, 20, 21, 22, 23, 24, 25, 26, 27, 28, 29, 30, 31, 32, 33, 34, 35, 36, 37, 38, 39, 40, 41, 42, 43, 44, 45, 46, 47, 48] (by decide +kernel) (by decide +kernel)) (goodIn_sub (fun _ h => List.mem_cons_of_mem _ (List.mem_append_right _ h)) (by decide +kernel))
set_option maxRecDepth 20000 in
theorem gL_doubtAnew_X5_doubtAnew : GoodIn wsL_doubtAnew (wsV RL 66 RX5 yX5_doubtAnew wsX5_doubtAnew) := goodIn_app (goodIn_of _ (by decide +kernel)) ggL_doubtAnew_X5_doubtAnew
theorem dL_doubtAnew_0 : decode cL_doubtAnew 0 = .ok (.aload_n 2, 1) := by decide +kernel
theorem dL_doubtAnew_1 : decode cL_doubtAnew 1 = .ok (.iconst 0, 1) := by decide +kernel
theorem dL_doubtAnew_2 : decode cL_doubtAnew 2 = .ok (.aload_n 0, 1) := by decide +kernel
theorem dL_doubtAnew_3 : decode cL_doubtAnew 3 = .ok (.iload_n 1, 1) := by decide +kernel
theorem dL_doubtAnew_4 : decode cL_doubtAnew 4 = .ok (.invokevirtual 66, 3) := by decide +kernel
theorem dL_doubtAnew_7 : decode cL_doubtAnew 7 = .ok (.i2l, 1) := by decide +kernel
theorem dL_doubtAnew_8 : decode cL_doubtAnew 8 = .ok (.lastore, 1) := by decide +kernel
theorem dL_doubtAnew_9 : decode cL_doubtAnew 9 = .ok (.goto 6, 3) := by decide +kernel
theorem dL_doubtAnew_12 : decode cL_doubtAnew 12 = .ok (.astore_n 3, 1) := by decide +kernel
theorem dL_doubtAnew_13 : decode cL_doubtAnew 13 = .ok (.iconst 1, 1) := by decide +kernel
theorem dL_doubtAnew_14 : decode cL_doubtAnew 14 = .ok (.ireturn, 1) := by decide +kernel
theorem dL_doubtAnew_15 : decode cL_doubtAnew 15 = .ok (.iconst 0, 1) := by decide +kernel
theorem dL_doubtAnew_16 : decode cL_doubtAnew 16 = .ok (.ireturn, 1) := by decide +kernel
set_option maxRecDepth 20000 in
theorem ggL_isInConflict_X5_isInConflict : GoodIn wsL_isInConflict wsX5_isInConflict := goodIn_ca (goodIn_r _ [6, 7, 8, 9, 5, 10, 11, 12, 13, 14, 15, 16, 17, 18, 19, 20, 21, 22, 23, 24, 25, 26, 27, 28, 29, 30, 31, 32, 33, 34, 35, 36, 37, 38, 39, 40, 41, 42, 43, 44, 45, 46, 47, 48, 49, 50, 51, 52, 53, 54, 55, 56, 57, 58, 59, 60, 61] (by decide +kernel) (by decide +kernel)) (goodIn_sub (fun _ h => List.mem_cons_of_mem _ (List.mem_append_right _ h)) (by decide +kernel))
set_option maxRecDepth 20000 in
theorem gL_isInConflict_X5_isInConflict : GoodIn wsL_isInConflict (wsV RL 69 RX5 yX5_isInConflict wsX5_isInConflict) := goodIn_app (goodIn_of _ (by decide +kernel)) ggL_isInConflict_X5_isInConflict
theorem dL_isInConflict_0 : decode cL_isInConflict 0 = .ok (.aload_n 2, 1) := by decide +kernel
theorem dL_isInConflict_1 : decode cL_isInConflict 1 = .ok (.iconst 0, 1) := by decide +kernel
theorem dL_isInConflict_2 : decode cL_isInConflict 2 = .ok (.aload_n 0, 1) := by decide +kernel
theorem dL_isInConflict_3 : decode cL_isInConflict 3 = .ok (.iload_n 1, 1) := by decide +kernel
theorem dL_isInConflict_4 : decode cL_isInConflict 4 = .ok (.invokevirtual 69, 3) := by decide +kernel
theorem dL_isInConflict_7 : decode cL_isInConflict 7 = .ok (.ifCond .eq 7, 3) := by decide +kernel
theorem dL_isInConflict_10 : decode cL_isInConflict 10 = .ok (.lconst 1, 1) := by decide +kernel
theorem dL_isInConflict_11 : decode cL_isInConflict 11 = .ok (.goto 4, 3) := by decide +kernel
theorem dL_isInConflict_14 : decode cL_isInConflict 14 = .ok (.lconst 0, 1) := by decide +kernel
theorem dL_isInConflict_15 : decode cL_isInConflict 15 = .ok (.lastore, 1) := by decide +kernel
theorem dL_isInConflict_16 : decode cL_isInConflict 16 = .ok (.goto 6, 3) := by decide +kernel
theorem dL_isInConflict_19 : decode cL_isInConflict 19 = .ok (.astore_n 3, 1) := by decide +kernel
theorem dL_isInConflict_20 : decode cL_isInConflict 20 = .ok (.iconst 1, 1) := by decide +kernel
theorem dL_isInConflict_21 : decode cL_isInConflict 21 = .ok (.ireturn, 1) := by decide +kernel
theorem dL_isInConflict_22 : decode cL_isInConflict 22 = .ok (.iconst 0, 1) := by decide +kernel
theorem dL_isInConflict_23 : decode cL_isInConflict 23 = .ok (.ireturn, 1) := by decide +kernel
set_option maxRecDepth 20000 in
theorem ggL_release_X5_release : GoodIn wsL_release wsX5_release := goodIn_ca (goodIn_r _ [6, 7, 8, 9, 10, 11, 5, 12, 13, 14, 15, 16, 17, 18, 19, 20, 21, 22, 23, 24, 25, 26, 27, 28, 29, 30, 31, 32, 33, 34, 35, 36, 37] (by decide +kernel) (by decide +kernel)) (goodIn_sub (fun _ h => List.mem_cons_of_mem _ (List.mem_append_right _ h)) (by decide +kernel))
set_option maxRecDepth 20000 in
theorem gL_release_X5_release : GoodIn wsL_release (wsV RL 73 RX5 yX5_release wsX5_release) := goodIn_app (goodIn_of _ (by decide +kernel)) ggL_release_X5_release
theorem dL_release_0 : decode cL_release 0 = .ok (.aload_n 1, 1) := by decide +kernel
theorem dL_release_1 : decode cL_release 1 = .ok (.iconst 0, 1) := by decide +kernel
theorem dL_release_2 : decode cL_release 2 = .ok (.aload_n 0, 1) := by decide +kernel
theorem dL_release_3 : decode cL_release 3 = .ok (.invokevirtual 73, 3) := by decide +kernel
theorem dL_release_6 : decode cL_release 6 = .ok (.i2l, 1) := by decide +kernel
theorem dL_release_7 : decode cL_release 7 = .ok (.lastore, 1) := by decide +kernel
theorem dL_release_8 : decode cL_release 8 = .ok (.goto 6, 3) := by decide +kernel
theorem dL_release_11 : decode cL_release 11 = .ok (.astore_n 2, 1) := by decide +kernel
theorem dL_release_12 : decode cL_release 12 = .ok (.iconst 1, 1) := by decide +kernel
theorem dL_release_13 : decode cL_release 13 = .ok (.ireturn, 1) := by decide +kernel
theorem dL_release_14 : decode cL_release 14 = .ok (.iconst 0, 1) := by decide +kernel
theorem dL_release_15 : decode cL_release 15 = .ok (.ireturn, 1) := by decide +kernel
set_option maxRecDepth 20000 in
theorem ggL_trend_X5_trend : GoodIn wsL_trend wsX5_trend := goodIn_ca (goodIn_ca (goodIn_r _ [7, 8, 9, 10, 11, 12, 6, 13, 14, 15, 16, 17, 18, 19, 20, 21, 22, 23, 24, 25, 26, 27, 28, 29, 30, 31, 32, 33, 34, 35, 36, 37, 38, 39] (by decide +kernel) (by decide +kernel)) (goodIn_sub (fun _ h => List.mem_cons_of_mem _ (List.mem_append_left _ (List.mem_append_right _ h))) (by decide +kernel))) (goodIn_sub (fun _ h => List.mem_cons_of_mem _ (List.mem_append_right _ h)) (by decide +kernel))
set_option maxRecDepth 20000 in
theorem gL_trend_X5_trend : GoodIn wsL_trend (wsV RL 76 RX5 yX5_trend wsX5_trend) := goodIn_app (goodIn_of _ (by decide +kernel)) ggL_trend_X5_trend
theorem dL_trend_0 : decode cL_trend 0 = .ok (.aload 5, 2) := by decide +kernel
theorem dL_trend_2 : decode cL_trend 2 = .ok (.iconst 0, 1) := by decide +kernel
theorem dL_trend_3 : decode cL_trend 3 = .ok (.aload_n 0, 1) := by decide +kernel
theorem dL_trend_4 : decode cL_trend 4 = .ok (.iload_n 1, 1) := by decide +kernel
theorem dL_trend_5 : decode cL_trend 5 = .ok (.iload_n 2, 1) := by decide +kernel
theorem dL_trend_6 : decode cL_trend 6 = .ok (.iload_n 3, 1) := by decide +kernel
theorem dL_trend_7 : decode cL_trend 7 = .ok (.iload 4, 2) := by decide +kernel
theorem dL_trend_9 : decode cL_trend 9 = .ok (.invokevirtual 76, 3) := by decide +kernel
theorem dL_trend_12 : decode cL_trend 12 = .ok (.lastore, 1) := by decide +kernel
theorem dL_trend_13 : decode cL_trend 13 = .ok (.goto 11, 3) := by decide +kernel
theorem dL_trend_16 : decode cL_trend 16 = .ok (.astore 6, 2) := by decide +kernel
theorem dL_trend_18 : decode cL_trend 18 = .ok (.iconst 1, 1) := by decide +kernel
theorem dL_trend_19 : decode cL_trend 19 = .ok (.ireturn, 1) := by decide +kernel
theorem dL_trend_20 : decode cL_trend 20 = .ok (.astore 6, 2) := by decide +kernel
theorem dL_trend_22 : decode cL_trend 22 = .ok (.iconst 2, 1) := by decide +kernel
theorem dL_trend_23 : decode cL_trend 23 = .ok (.ireturn, 1) := by decide +kernel
theorem dL_trend_24 : decode cL_trend 24 = .ok (.iconst 0, 1) := by decide +kernel
theorem dL_trend_25 : decode cL_trend 25 = .ok (.ireturn, 1) := by decide +kernel
set_option maxRecDepth 20000 in
theorem ggL_law_X5_init : GoodIn wsL_law wsX5_init := goodIn_r _ [10, 11, 12, 13, 14, 15, 16, 17, 18, 19, 20, 21, 22, 23, 24, 25, 26, 27, 28, 29, 30, 31, 32, 33, 34, 35, 36, 37, 6, 38, 39, 40, 41, 42, 43, 44, 45, 46, 47, 48, 49, 50, 51, 52, 53, 54, 55, 56, 57, 58, 59, 60, 61, 62, 63, 64, 65, 66, 67, 68, 69, 70, 71, 522, 523, 524, 496, 497, 498, 499, 500, 501, 525, 526, 527, 528, 529, 530, 531, 532, 533, 534, 535, 536, 537, 538, 539, 540, 541, 542] (by decide +kernel) (by decide +kernel)
set_option maxRecDepth 20000 in
theorem gL_law_X5_init : GoodIn wsL_law (wsX5_init) := ggL_law_X5_init
set_option maxRecDepth 20000 in
theorem ggL_law_X6_init : GoodIn wsL_law wsX6_init := goodIn_r _ [74, 75, 12, 13, 6, 76, 77, 49, 78, 79, 80, 81, 82, 83, 84, 85, 86, 87, 88, 89, 502, 503, 504, 505, 506, 507, 508, 509, 510, 511, 512, 513, 514, 515, 516, 517, 518, 519, 520, 521] (by decide +kernel) (by decide +kernel)
set_option maxRecDepth 20000 in
theorem gL_law_X6_init : GoodIn wsL_law (wsX6_init) := ggL_law_X6_init
set_option maxRecDepth 20000 in
theorem ggL_law_L_mass : GoodIn wsL_law wsL_mass := goodIn_ca (goodIn_ca (goodIn_r _ [93, 94, 95, 96, 97, 98, 2, 99, 100, 17, 101, 102, 103, 104, 105, 106, 107, 108, 109, 110, 111, 112, 113, 114, 16, 115, 116, 38, 117, 118, 119, 120, 121, 122, 40, 123, 124, 125, 126, 127, 128, 129, 496, 497, 498, 499, 500, 501, 522, 523, 524] (by decide +kernel) (by decide +kernel)) (goodIn_sub (fun _ h => List.mem_append_left _ (List.mem_append_left _ (List.mem_append_right _ h))) (by decide +kernel))) (goodIn_sub (fun _ h => List.mem_append_left _ (List.mem_append_right _ h)) (by decide +kernel))
set_option maxRecDepth 20000 in
theorem gL_law_L_mass : GoodIn wsL_law (va_wsS RL 86 yL_mass wsL_mass) := goodIn_app (goodIn_of _ (by decide +kernel)) ggL_law_L_mass
set_option maxRecDepth 20000 in
theorem ggL_law_X6_mass : GoodIn wsL_law wsX6_mass := goodIn_r _ [133, 134, 135, 136, 137, 5, 138, 139, 140, 141, 142, 143, 144, 145, 146, 147, 148, 149, 150, 151, 76, 502, 503, 504, 505, 506, 507, 508, 509, 510, 511, 512, 513, 514, 515, 516, 517, 518, 519, 520, 521] (by decide +kernel) (by decide +kernel)
set_option maxRecDepth 20000 in
theorem gL_law_X6_mass : GoodIn wsL_law (wsV RL 91 RX6 yX6_mass wsX6_mass) := goodIn_app (goodIn_of _ (by decide +kernel)) ggL_law_X6_mass
set_option maxRecDepth 20000 in
theorem ggL_law_X6_thrown : GoodIn wsL_law wsX6_thrown := goodIn_r _ [155, 147, 502, 503, 504, 505, 506, 507, 508, 509, 510, 511, 512, 513, 514, 515, 516, 517, 518, 519, 520, 521] (by decide +kernel) (by decide +kernel)
set_option maxRecDepth 20000 in
theorem gL_law_X6_thrown : GoodIn wsL_law (wsV RL 92 RX6 yX6_thrown wsX6_thrown) := goodIn_app (goodIn_of _ (by decide +kernel)) ggL_law_X6_thrown
set_option maxRecDepth 20000 in
theorem ggL_law_L_water : GoodIn wsL_law wsL_water := goodIn_ca (goodIn_ca (goodIn_r _ [158, 94, 95, 159, 160, 161, 2, 162, 163, 17, 101, 102, 103, 104, 105, 109, 110, 111, 112, 113, 164, 16, 165, 166, 39, 117, 118, 119, 120, 121, 122, 40, 123, 124, 125, 126, 127, 128, 129, 496, 497, 498, 499, 500, 501, 522, 523, 524] (by decide +kernel) (by decide +kernel)) (goodIn_sub (fun _ h => List.mem_append_left _ (List.mem_append_left _ (List.mem_append_right _ h))) (by decide +kernel))) (goodIn_sub (fun _ h => List.mem_append_left _ (List.mem_append_right _ h)) (by decide +kernel))
set_option maxRecDepth 20000 in
theorem gL_law_L_water : GoodIn wsL_law (va_wsS RL 95 yL_water wsL_water) := goodIn_app (goodIn_of _ (by decide +kernel)) ggL_law_L_water
set_option maxRecDepth 20000 in
theorem ggL_law_X6_water : GoodIn wsL_law wsX6_water := goodIn_r _ [170, 171, 136, 137, 5, 138, 139, 140, 141, 142, 143, 144, 145, 146, 147, 148, 149, 150, 151, 76, 502, 503, 504, 505, 506, 507, 508, 509, 510, 511, 512, 513, 514, 515, 516, 517, 518, 519, 520, 521] (by decide +kernel) (by decide +kernel)
set_option maxRecDepth 20000 in
theorem gL_law_X6_water : GoodIn wsL_law (wsV RL 98 RX6 yX6_water wsX6_water) := goodIn_app (goodIn_of _ (by decide +kernel)) ggL_law_X6_water
set_option maxRecDepth 20000 in
theorem ggL_law_L_pull : GoodIn wsL_law wsL_pull := goodIn_ca (goodIn_r _ [174, 94, 175, 176, 177, 2, 178, 17, 101, 102, 103, 104, 105, 179, 16, 180, 181, 40, 117, 118, 496, 497, 498, 499, 500, 501, 522, 523, 524] (by decide +kernel) (by decide +kernel)) (goodIn_sub (fun _ h => List.mem_append_left _ (List.mem_append_left _ (List.mem_append_right _ h))) (by decide +kernel))
set_option maxRecDepth 20000 in
theorem gL_law_L_pull : GoodIn wsL_law (va_wsS RL 99 yL_pull wsL_pull) := goodIn_app (goodIn_of _ (by decide +kernel)) ggL_law_L_pull
set_option maxRecDepth 20000 in
theorem ggL_law_X6_pull : GoodIn wsL_law wsX6_pull := goodIn_r _ [185, 136, 137, 5, 138, 139, 140, 141, 142, 143, 144, 145, 146, 147, 186, 187, 188, 189, 76, 190, 502, 503, 504, 505, 506, 507, 508, 509, 510, 511, 512, 513, 514, 515, 516, 517, 518, 519, 520, 521] (by decide +kernel) (by decide +kernel)
set_option maxRecDepth 20000 in
theorem gL_law_X6_pull : GoodIn wsL_law (wsV RL 102 RX6 yX6_pull wsX6_pull) := goodIn_app (goodIn_of _ (by decide +kernel)) ggL_law_X6_pull
set_option maxRecDepth 20000 in
theorem ggL_law_L_pullAnew : GoodIn wsL_law wsL_pullAnew := goodIn_ca (goodIn_r _ [193, 94, 194, 195, 196, 2, 197, 17, 101, 102, 103, 104, 105, 198, 16, 199, 200, 39, 38, 117, 118, 123, 124, 125, 126, 127, 128, 129, 496, 497, 498, 499, 500, 501, 522, 523, 524] (by decide +kernel) (by decide +kernel)) (goodIn_sub (fun _ h => List.mem_append_left _ (List.mem_append_left _ (List.mem_append_right _ h))) (by decide +kernel))
set_option maxRecDepth 20000 in
theorem gL_law_L_pullAnew : GoodIn wsL_law (va_wsS RL 103 yL_pullAnew wsL_pullAnew) := goodIn_app (goodIn_of _ (by decide +kernel)) ggL_law_L_pullAnew
set_option maxRecDepth 20000 in
theorem ggL_law_X6_pullAnew : GoodIn wsL_law wsX6_pullAnew := goodIn_r _ [204, 136, 137, 5, 138, 139, 140, 141, 142, 143, 144, 145, 146, 147, 186, 187, 188, 189, 76, 190, 502, 503, 504, 505, 506, 507, 508, 509, 510, 511, 512, 513, 514, 515, 516, 517, 518, 519, 520, 521] (by decide +kernel) (by decide +kernel)
set_option maxRecDepth 20000 in
theorem gL_law_X6_pullAnew : GoodIn wsL_law (wsV RL 105 RX6 yX6_pullAnew wsX6_pullAnew) := goodIn_app (goodIn_of _ (by decide +kernel)) ggL_law_X6_pullAnew
set_option maxRecDepth 20000 in
theorem ggL_law_L_gap : GoodIn wsL_law wsL_gap := goodIn_ca (goodIn_r _ [207, 94, 208, 209, 210, 2, 211, 17, 101, 102, 103, 104, 105, 106, 107, 108, 179, 16, 180, 181, 40, 117, 118, 496, 497, 498, 499, 500, 501, 522, 523, 524] (by decide +kernel) (by decide +kernel)) (goodIn_sub (fun _ h => List.mem_append_left _ (List.mem_append_left _ (List.mem_append_right _ h))) (by decide +kernel))
set_option maxRecDepth 20000 in
theorem gL_law_L_gap : GoodIn wsL_law (va_wsS RL 106 yL_gap wsL_gap) := goodIn_app (goodIn_of _ (by decide +kernel)) ggL_law_L_gap
set_option maxRecDepth 20000 in
theorem ggL_law_X6_gap : GoodIn wsL_law wsX6_gap := goodIn_r _ [215, 136, 137, 5, 138, 139, 140, 141, 142, 143, 144, 145, 146, 147, 186, 187, 188, 189, 76, 190, 502, 503, 504, 505, 506, 507, 508, 509, 510, 511, 512, 513, 514, 515, 516, 517, 518, 519, 520, 521] (by decide +kernel) (by decide +kernel)
set_option maxRecDepth 20000 in
theorem gL_law_X6_gap : GoodIn wsL_law (wsV RL 108 RX6 yX6_gap wsX6_gap) := goodIn_app (goodIn_of _ (by decide +kernel)) ggL_law_X6_gap
set_option maxRecDepth 20000 in
theorem ggL_law_L_tide : GoodIn wsL_law wsL_tide := goodIn_ca (goodIn_r _ [218, 95, 219, 220, 221, 2, 222, 223, 224, 21, 109, 110, 111, 112, 113, 225, 20, 226, 227, 44, 45, 496, 497, 498, 499, 500, 501, 525, 526] (by decide +kernel) (by decide +kernel)) (goodIn_sub (fun _ h => List.mem_append_left _ (List.mem_append_right _ h)) (by decide +kernel))
set_option maxRecDepth 20000 in
theorem gL_law_L_tide : GoodIn wsL_law (va_wsS RL 109 yL_tide wsL_tide) := goodIn_app (goodIn_of _ (by decide +kernel)) ggL_law_L_tide
set_option maxRecDepth 20000 in
theorem ggL_law_X6_tide : GoodIn wsL_law wsX6_tide := goodIn_r _ [231, 190, 232, 233, 77, 140, 141, 5, 142, 143, 144, 145, 146, 147, 502, 503, 504, 505, 506, 507, 508, 509, 510, 511, 512, 513, 514, 515, 516, 517, 518, 519, 520, 521] (by decide +kernel) (by decide +kernel)
set_option maxRecDepth 20000 in
theorem gL_law_X6_tide : GoodIn wsL_law (wsV RL 111 RX6 yX6_tide wsX6_tide) := goodIn_app (goodIn_of _ (by decide +kernel)) ggL_law_X6_tide
set_option maxRecDepth 20000 in
theorem ggL_law_L_pass : GoodIn wsL_law wsL_pass := goodIn_ca (goodIn_ca (goodIn_r _ [236, 95, 237, 238, 239, 240, 2, 241, 242, 243, 244, 34, 109, 110, 111, 112, 113, 496, 497, 498, 499, 500, 501] (by decide +kernel) (by decide +kernel)) (goodIn_sub (fun _ h => List.mem_append_right _ h) (by decide +kernel))) (goodIn_sub (fun _ h => List.mem_append_left _ (List.mem_append_right _ h)) (by decide +kernel))
set_option maxRecDepth 20000 in
theorem gL_law_L_pass : GoodIn wsL_law (va_wsS RL 112 yL_pass wsL_pass) := goodIn_app (goodIn_of _ (by decide +kernel)) ggL_law_L_pass
set_option maxRecDepth 20000 in
theorem ggL_law_X6_pass : GoodIn wsL_law wsX6_pass := goodIn_r _ [248, 249, 89, 140, 141, 5, 142, 143, 144, 145, 146, 147, 502, 503, 504, 505, 506, 507, 508, 509, 510, 511, 512, 513, 514, 515, 516, 517, 518, 519, 520, 521] (by decide +kernel) (by decide +kernel)
set_option maxRecDepth 20000 in
theorem gL_law_X6_pass : GoodIn wsL_law (wsV RL 115 RX6 yX6_pass wsX6_pass) := goodIn_app (goodIn_of _ (by decide +kernel)) ggL_law_X6_pass
set_option maxRecDepth 20000 in
theorem ggL_law_L_needle : GoodIn wsL_law wsL_needle := goodIn_ca (goodIn_ca (goodIn_r _ [252, 95, 237, 253, 254, 255, 2, 256, 257, 258, 25, 34, 109, 110, 111, 112, 113, 259, 260, 261, 242, 243, 262, 24, 263, 264, 50, 53, 51, 52, 496, 497, 498, 499, 500, 501, 527, 528, 529, 530] (by decide +kernel) (by decide +kernel)) (goodIn_sub (fun _ h => List.mem_append_left _ (List.mem_append_right _ h)) (by decide +kernel))) (goodIn_sub (fun _ h => List.mem_append_right _ h) (by decide +kernel))
set_option maxRecDepth 20000 in
theorem gL_law_L_needle : GoodIn wsL_law (va_wsS RL 116 yL_needle wsL_needle) := goodIn_app (goodIn_of _ (by decide +kernel)) ggL_law_L_needle
set_option maxRecDepth 20000 in
theorem ggL_law_X6_needle : GoodIn wsL_law wsX6_needle := goodIn_r _ [268, 269, 270, 271, 78, 79, 80, 89, 140, 141, 5, 142, 143, 144, 145, 146, 147, 502, 503, 504, 505, 506, 507, 508, 509, 510, 511, 512, 513, 514, 515, 516, 517, 518, 519, 520, 521] (by decide +kernel) (by decide +kernel)
set_option maxRecDepth 20000 in
theorem gL_law_X6_needle : GoodIn wsL_law (wsV RL 118 RX6 yX6_needle wsX6_needle) := goodIn_app (goodIn_of _ (by decide +kernel)) ggL_law_X6_needle
set_option maxRecDepth 20000 in
theorem ggL_law_L_tie : GoodIn wsL_law wsL_tie := goodIn_ca (goodIn_ca (goodIn_r _ [274, 94, 237, 275, 276, 277, 2, 278, 242, 243, 25, 34, 106, 107, 108, 104, 105, 279, 24, 280, 281, 50, 51, 52, 496, 497, 498, 499, 500, 501, 527, 528, 529, 530] (by decide +kernel) (by decide +kernel)) (goodIn_sub (fun _ h => List.mem_append_right _ h) (by decide +kernel))) (goodIn_sub (fun _ h => List.mem_append_left _ (List.mem_append_left _ (List.mem_append_right _ h))) (by decide +kernel))
set_option maxRecDepth 20000 in
theorem gL_law_L_tie : GoodIn wsL_law (va_wsS RL 119 yL_tie wsL_tie) := goodIn_app (goodIn_of _ (by decide +kernel)) ggL_law_L_tie
set_option maxRecDepth 20000 in
theorem ggL_law_X6_tie : GoodIn wsL_law wsX6_tie := goodIn_r _ [285, 78, 80, 89, 286, 287, 288, 5, 289, 271, 140, 141, 142, 143, 144, 145, 146, 147, 290, 291, 292, 293, 79, 502, 503, 504, 505, 506, 507, 508, 509, 510, 511, 512, 513, 514, 515, 516, 517, 518, 519, 520, 521] (by decide +kernel) (by decide +kernel)
set_option maxRecDepth 20000 in
theorem gL_law_X6_tie : GoodIn wsL_law (wsV RL 121 RX6 yX6_tie wsX6_tie) := goodIn_app (goodIn_of _ (by decide +kernel)) ggL_law_X6_tie
set_option maxRecDepth 20000 in
theorem ggL_law_L_read : GoodIn wsL_law wsL_read := goodIn_ca (goodIn_r _ [296, 94, 297, 298, 299, 2, 300, 25, 17, 21, 34, 106, 107, 108, 104, 105, 101, 102, 103, 179, 16, 180, 181, 40, 117, 118, 301, 20, 302, 303, 45, 44, 279, 24, 280, 281, 50, 51, 52, 496, 497, 498, 499, 500, 501, 527, 528, 529, 530, 522, 523, 524, 525, 526] (by decide +kernel) (by decide +kernel)) (goodIn_sub (fun _ h => List.mem_append_left _ (List.mem_append_left _ (List.mem_append_right _ h))) (by decide +kernel))
set_option maxRecDepth 20000 in
theorem gL_law_L_read : GoodIn wsL_law (va_wsS RL 122 yL_read wsL_read) := goodIn_app (goodIn_of _ (by decide +kernel)) ggL_law_L_read
set_option maxRecDepth 20000 in
theorem ggL_law_X6_read : GoodIn wsL_law wsX6_read := goodIn_r _ [307, 286, 287, 288, 5, 289, 271, 140, 141, 142, 136, 137, 138, 139, 143, 144, 145, 146, 147, 308, 309, 310, 311, 89, 77, 233, 186, 187, 188, 189, 76, 190, 290, 291, 292, 293, 78, 79, 80, 502, 503, 504, 505, 506, 507, 508, 509, 510, 511, 512, 513, 514, 515, 516, 517, 518, 519, 520, 521] (by decide +kernel) (by decide +kernel)
set_option maxRecDepth 20000 in
theorem gL_law_X6_read : GoodIn wsL_law (wsV RL 125 RX6 yX6_read wsX6_read) := goodIn_app (goodIn_of _ (by decide +kernel)) ggL_law_X6_read
set_option maxRecDepth 20000 in
theorem ggL_law_L_benchmark : GoodIn wsL_law wsL_benchmark := goodIn_ca (goodIn_r _ [314, 237, 315, 316, 317, 2, 318, 29, 259, 260, 261, 242, 243, 319, 28, 320, 321, 64, 496, 497, 498, 499, 500, 501, 531, 532, 533, 534, 535, 536, 537, 538, 539] (by decide +kernel) (by decide +kernel)) (goodIn_sub (fun _ h => List.mem_append_right _ h) (by decide +kernel))
set_option maxRecDepth 20000 in
theorem gL_law_L_benchmark : GoodIn wsL_law (va_wsS RL 126 yL_benchmark wsL_benchmark) := goodIn_app (goodIn_of _ (by decide +kernel)) ggL_law_L_benchmark
set_option maxRecDepth 20000 in
theorem ggL_law_X6_benchmark : GoodIn wsL_law wsX6_benchmark := goodIn_r _ [325, 326, 143, 144, 145, 5, 146, 147, 502, 503, 504, 505, 506, 507, 508, 509, 510, 511, 512, 513, 514, 515, 516, 517, 518, 519, 520, 521] (by decide +kernel) (by decide +kernel)
set_option maxRecDepth 20000 in
theorem gL_law_X6_benchmark : GoodIn wsL_law (wsV RL 129 RX6 yX6_benchmark wsX6_benchmark) := goodIn_app (goodIn_of _ (by decide +kernel)) ggL_law_X6_benchmark
set_option maxRecDepth 20000 in
theorem ggL_law_L_line : GoodIn wsL_law wsL_line := goodIn_ca (goodIn_ca (goodIn_ca (goodIn_r _ [329, 94, 95, 237, 330, 331, 332, 2, 333, 112, 113, 29, 334, 223, 258, 106, 107, 108, 104, 105, 109, 110, 111, 259, 260, 261, 242, 243, 335, 28, 336, 337, 57, 65, 58, 59, 60, 496, 497, 498, 499, 500, 501, 531, 532, 533, 534, 535, 536, 537, 538, 539] (by decide +kernel) (by decide +kernel)) (goodIn_sub (fun _ h => List.mem_append_left _ (List.mem_append_right _ h)) (by decide +kernel))) (goodIn_sub (fun _ h => List.mem_append_left _ (List.mem_append_left _ (List.mem_append_right _ h))) (by decide +kernel))) (goodIn_sub (fun _ h => List.mem_append_right _ h) (by decide +kernel))
set_option maxRecDepth 20000 in
theorem gL_law_L_line : GoodIn wsL_law (va_wsS RL 130 yL_line wsL_line) := goodIn_app (goodIn_of _ (by decide +kernel)) ggL_law_L_line
set_option maxRecDepth 20000 in
theorem ggL_law_X6_line : GoodIn wsL_law wsX6_line := goodIn_r _ [341, 342, 190, 270, 343, 81, 82, 83, 84, 344, 345, 346, 5, 347, 326, 140, 141, 142, 143, 144, 145, 146, 147, 502, 503, 504, 505, 506, 507, 508, 509, 510, 511, 512, 513, 514, 515, 516, 517, 518, 519, 520, 521] (by decide +kernel) (by decide +kernel)
set_option maxRecDepth 20000 in
theorem gL_law_X6_line : GoodIn wsL_law (wsV RL 133 RX6 yX6_line wsX6_line) := goodIn_app (goodIn_of _ (by decide +kernel)) ggL_law_X6_line
set_option maxRecDepth 20000 in
theorem ggL_law_L_height : GoodIn wsL_law wsL_height := goodIn_ca (goodIn_ca (goodIn_r _ [350, 94, 237, 351, 352, 353, 2, 354, 242, 243, 29, 106, 107, 108, 104, 105, 355, 28, 356, 357, 62, 61, 64, 358, 359, 360, 361, 362, 363, 364, 65, 365, 366, 367, 368, 57, 58, 60, 369, 370, 371, 372, 59, 496, 497, 498, 499, 500, 501, 531, 532, 533, 534, 535, 536, 537, 538, 539] (by decide +kernel) (by decide +kernel)) (goodIn_sub (fun _ h => List.mem_append_right _ h) (by decide +kernel))) (goodIn_sub (fun _ h => List.mem_append_left _ (List.mem_append_left _ (List.mem_append_right _ h))) (by decide +kernel))
set_option maxRecDepth 20000 in
theorem gL_law_L_height : GoodIn wsL_law (va_wsS RL 134 yL_height wsL_height) := goodIn_app (goodIn_of _ (by decide +kernel)) ggL_law_L_height
set_option maxRecDepth 20000 in
theorem ggL_law_X6_height : GoodIn wsL_law wsX6_height := goodIn_r _ [376, 86, 344, 345, 346, 5, 347, 326, 140, 141, 142, 377, 378, 379, 380, 85, 81, 82, 83, 381, 382, 383, 384, 343, 385, 386, 387, 388, 84, 389, 390, 391, 392, 143, 144, 145, 146, 147, 502, 503, 504, 505, 506, 507, 508, 509, 510, 511, 512, 513, 514, 515, 516, 517, 518, 519, 520, 521] (by decide +kernel) (by decide +kernel)
set_option maxRecDepth 20000 in
theorem gL_law_X6_height : GoodIn wsL_law (wsV RL 136 RX6 yX6_height wsX6_height) := goodIn_app (goodIn_of _ (by decide +kernel)) ggL_law_X6_height
set_option maxRecDepth 20000 in
theorem ggL_law_L_doubt : GoodIn wsL_law wsL_doubt := goodIn_ca (goodIn_r _ [395, 94, 396, 397, 398, 2, 399, 29, 106, 107, 108, 104, 105, 355, 28, 356, 357, 62, 61, 64, 358, 359, 360, 361, 362, 363, 364, 65, 365, 366, 367, 368, 57, 58, 60, 369, 370, 371, 372, 59, 496, 497, 498, 499, 500, 501, 531, 532, 533, 534, 535, 536, 537, 538, 539] (by decide +kernel) (by decide +kernel)) (goodIn_sub (fun _ h => List.mem_append_left _ (List.mem_append_left _ (List.mem_append_right _ h))) (by decide +kernel))
set_option maxRecDepth 20000 in
theorem gL_law_L_doubt : GoodIn wsL_law (va_wsS RL 137 yL_doubt wsL_doubt) := goodIn_app (goodIn_of _ (by decide +kernel)) ggL_law_L_doubt
set_option maxRecDepth 20000 in
theorem ggL_law_X6_doubt : GoodIn wsL_law wsX6_doubt := goodIn_r _ [403, 344, 345, 346, 5, 347, 326, 140, 141, 142, 143, 144, 145, 146, 147, 404, 405, 406, 407, 85, 377, 378, 379, 380, 86, 81, 82, 83, 381, 382, 383, 384, 343, 385, 386, 387, 388, 84, 389, 390, 391, 392, 502, 503, 504, 505, 506, 507, 508, 509, 510, 511, 512, 513, 514, 515, 516, 517, 518, 519, 520, 521] (by decide +kernel) (by decide +kernel)
set_option maxRecDepth 20000 in
theorem gL_law_X6_doubt : GoodIn wsL_law (wsV RL 139 RX6 yX6_doubt wsX6_doubt) := goodIn_app (goodIn_of _ (by decide +kernel)) ggL_law_X6_doubt
set_option maxRecDepth 20000 in
theorem ggL_law_L_doubtAnew : GoodIn wsL_law wsL_doubtAnew := goodIn_ca (goodIn_r _ [410, 94, 411, 412, 413, 2, 414, 29, 106, 107, 108, 104, 105, 415, 28, 416, 417, 63, 64, 358, 359, 360, 418, 419, 420, 421, 65, 57, 58, 60, 422, 423, 424, 425, 496, 497, 498, 499, 500, 501, 531, 532, 533, 534, 535, 536, 537, 538, 539] (by decide +kernel) (by decide +kernel)) (goodIn_sub (fun _ h => List.mem_append_left _ (List.mem_append_left _ (List.mem_append_right _ h))) (by decide +kernel))
set_option maxRecDepth 20000 in
theorem gL_law_L_doubtAnew : GoodIn wsL_law (va_wsS RL 140 yL_doubtAnew wsL_doubtAnew) := goodIn_app (goodIn_of _ (by decide +kernel)) ggL_law_L_doubtAnew
set_option maxRecDepth 20000 in
theorem ggL_law_X6_doubtAnew : GoodIn wsL_law wsX6_doubtAnew := goodIn_r _ [429, 344, 345, 346, 5, 347, 326, 140, 141, 142, 143, 144, 145, 146, 147, 404, 405, 406, 407, 85, 377, 378, 379, 380, 86, 81, 82, 83, 381, 382, 383, 384, 343, 385, 386, 387, 388, 84, 389, 390, 391, 392, 502, 503, 504, 505, 506, 507, 508, 509, 510, 511, 512, 513, 514, 515, 516, 517, 518, 519, 520, 521] (by decide +kernel) (by decide +kernel)
set_option maxRecDepth 20000 in
theorem gL_law_X6_doubtAnew : GoodIn wsL_law (wsV RL 142 RX6 yX6_doubtAnew wsX6_doubtAnew) := goodIn_app (goodIn_of _ (by decide +kernel)) ggL_law_X6_doubtAnew
set_option maxRecDepth 20000 in
theorem ggL_law_L_isInConflict : GoodIn wsL_law wsL_isInConflict := goodIn_ca (goodIn_r _ [432, 94, 433, 434, 435, 2, 436, 29, 106, 107, 108, 104, 105, 355, 28, 356, 357, 62, 61, 64, 358, 359, 360, 361, 362, 363, 364, 65, 365, 366, 367, 368, 57, 58, 60, 369, 370, 371, 372, 59, 437, 438, 439, 440, 441, 442, 443, 496, 497, 498, 499, 500, 501, 531, 532, 533, 534, 535, 536, 537, 538, 539] (by decide +kernel) (by decide +kernel)) (goodIn_sub (fun _ h => List.mem_append_left _ (List.mem_append_left _ (List.mem_append_right _ h))) (by decide +kernel))
