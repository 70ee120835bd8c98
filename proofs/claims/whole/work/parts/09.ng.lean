set_option maxRecDepth 20000 in
theorem gX6_mass_X6_changed : GoodIn wsX6_mass (wsV RX6 84 RX6 yX6_changed wsX6_changed) := goodIn_app (goodIn_of _ (by decide +kernel)) ggX6_mass_X6_changed
theorem dX6_mass_0 : decode cX6_mass 0 = .ok (.iload_n 1, 1) := by decide +kernel
theorem dX6_mass_1 : decode cX6_mass 1 = .ok (.iload_n 2, 1) := by decide +kernel
theorem dX6_mass_2 : decode cX6_mass 2 = .ok (.invokestatic 72, 3) := by decide +kernel
theorem dX6_mass_5 : decode cX6_mass 5 = .ok (.ifCond .eq 19, 3) := by decide +kernel
theorem dX6_mass_8 : decode cX6_mass 8 = .ok (.iload_n 3, 1) := by decide +kernel
theorem dX6_mass_9 : decode cX6_mass 9 = .ok (.i2l, 1) := by decide +kernel
theorem dX6_mass_10 : decode cX6_mass 10 = .ok (.lconst 0, 1) := by decide +kernel
theorem dX6_mass_11 : decode cX6_mass 11 = .ok (.ldc2_w 76, 3) := by decide +kernel
theorem dX6_mass_14 : decode cX6_mass 14 = .ok (.invokestatic 59, 3) := by decide +kernel
theorem dX6_mass_17 : decode cX6_mass 17 = .ok (.ifCond .eq 7, 3) := by decide +kernel
theorem dX6_mass_20 : decode cX6_mass 20 = .ok (.iconst 1, 1) := by decide +kernel
theorem dX6_mass_21 : decode cX6_mass 21 = .ok (.goto 4, 3) := by decide +kernel
theorem dX6_mass_24 : decode cX6_mass 24 = .ok (.iconst 0, 1) := by decide +kernel
theorem dX6_mass_25 : decode cX6_mass 25 = .ok (.istore 6, 2) := by decide +kernel
theorem dX6_mass_27 : decode cX6_mass 27 = .ok (.aload_n 0, 1) := by decide +kernel
theorem dX6_mass_28 : decode cX6_mass 28 = .ok (.iload 6, 2) := by decide +kernel
theorem dX6_mass_30 : decode cX6_mass 30 = .ok (.ifCond .ne 7, 3) := by decide +kernel
theorem dX6_mass_33 : decode cX6_mass 33 = .ok (.iconst 1, 1) := by decide +kernel
theorem dX6_mass_34 : decode cX6_mass 34 = .ok (.goto 20, 3) := by decide +kernel
theorem dX6_mass_37 : decode cX6_mass 37 = .ok (.lload 4, 2) := by decide +kernel
theorem dX6_mass_39 : decode cX6_mass 39 = .ok (.lconst 0, 1) := by decide +kernel
theorem dX6_mass_40 : decode cX6_mass 40 = .ok (.ldc2_w 78, 3) := by decide +kernel
theorem dX6_mass_43 : decode cX6_mass 43 = .ok (.invokestatic 59, 3) := by decide +kernel
theorem dX6_mass_46 : decode cX6_mass 46 = .ok (.ifCond .ne 7, 3) := by decide +kernel
theorem dX6_mass_49 : decode cX6_mass 49 = .ok (.iconst 2, 1) := by decide +kernel
theorem dX6_mass_50 : decode cX6_mass 50 = .ok (.goto 4, 3) := by decide +kernel
theorem dX6_mass_53 : decode cX6_mass 53 = .ok (.iconst 0, 1) := by decide +kernel
theorem dX6_mass_54 : decode cX6_mass 54 = .ok (.invokevirtual 80, 3) := by decide +kernel
theorem dX6_mass_57 : decode cX6_mass 57 = .ok (.ifCond .eq 23, 3) := by decide +kernel
theorem dX6_mass_60 : decode cX6_mass 60 = .ok (.aload_n 0, 1) := by decide +kernel
theorem dX6_mass_61 : decode cX6_mass 61 = .ok (.bipush 64, 2) := by decide +kernel
theorem dX6_mass_63 : decode cX6_mass 63 = .ok (.iload_n 3, 1) := by decide +kernel
theorem dX6_mass_64 : decode cX6_mass 64 = .ok (.imul, 1) := by decide +kernel
theorem dX6_mass_65 : decode cX6_mass 65 = .ok (.bipush 8, 2) := by decide +kernel
theorem dX6_mass_67 : decode cX6_mass 67 = .ok (.iload_n 2, 1) := by decide +kernel
theorem dX6_mass_68 : decode cX6_mass 68 = .ok (.imul, 1) := by decide +kernel
theorem dX6_mass_69 : decode cX6_mass 69 = .ok (.iadd, 1) := by decide +kernel
theorem dX6_mass_70 : decode cX6_mass 70 = .ok (.iload_n 1, 1) := by decide +kernel
theorem dX6_mass_71 : decode cX6_mass 71 = .ok (.iadd, 1) := by decide +kernel
theorem dX6_mass_72 : decode cX6_mass 72 = .ok (.lload 4, 2) := by decide +kernel
theorem dX6_mass_74 : decode cX6_mass 74 = .ok (.invokevirtual 84, 3) := by decide +kernel
theorem dX6_mass_77 : decode cX6_mass 77 = .ok (.goto 4, 3) := by decide +kernel
theorem dX6_mass_80 : decode cX6_mass 80 = .ok (.lconst 0, 1) := by decide +kernel
theorem dX6_mass_81 : decode cX6_mass 81 = .ok (.lreturn, 1) := by decide +kernel
set_option maxRecDepth 20000 in
theorem ggX6_water_X6_isCell : GoodIn wsX6_water wsX6_isCell := goodIn_r _ [5, 6, 7, 8, 4, 9] (by decide +kernel) (by decide +kernel)
set_option maxRecDepth 20000 in
theorem gX6_water_X6_isCell : GoodIn wsX6_water (va_wsS RX6 72 yX6_isCell wsX6_isCell) := goodIn_app (goodIn_of _ (by decide +kernel)) ggX6_water_X6_isCell
set_option maxRecDepth 20000 in
theorem ggX6_water_X6_isIn : GoodIn wsX6_water wsX6_isIn := goodIn_r _ [9] (by decide +kernel) (by decide +kernel)
set_option maxRecDepth 20000 in
theorem gX6_water_X6_isIn : GoodIn wsX6_water (va_wsS RX6 59 yX6_isIn wsX6_isIn) := goodIn_app (goodIn_of _ (by decide +kernel)) ggX6_water_X6_isIn
set_option maxRecDepth 20000 in
theorem ggX6_water_X6_holds : GoodIn wsX6_water wsX6_holds := goodIn_r _ [13, 14, 20, 21, 22, 23, 24, 25, 26, 27, 28, 29, 30, 31, 32, 33, 34, 35, 36, 37, 38, 39] (by decide +kernel) (by decide +kernel)
set_option maxRecDepth 20000 in
theorem gX6_water_X6_holds : GoodIn wsX6_water (wsV RX6 80 RX6 yX6_holds wsX6_holds) := goodIn_app (goodIn_of _ (by decide +kernel)) ggX6_water_X6_holds
set_option maxRecDepth 20000 in
theorem ggX6_water_X6_changed : GoodIn wsX6_water wsX6_changed := goodIn_r _ [18, 19, 20, 21, 22, 23, 24, 25, 26, 27, 28, 29, 30, 31, 32, 33, 34, 35, 36, 37, 38, 39] (by decide +kernel) (by decide +kernel)
set_option maxRecDepth 20000 in
theorem gX6_water_X6_changed : GoodIn wsX6_water (wsV RX6 84 RX6 yX6_changed wsX6_changed) := goodIn_app (goodIn_of _ (by decide +kernel)) ggX6_water_X6_changed
theorem dX6_water_0 : decode cX6_water 0 = .ok (.iload_n 1, 1) := by decide +kernel
theorem dX6_water_1 : decode cX6_water 1 = .ok (.iload_n 2, 1) := by decide +kernel
theorem dX6_water_2 : decode cX6_water 2 = .ok (.invokestatic 72, 3) := by decide +kernel
theorem dX6_water_5 : decode cX6_water 5 = .ok (.istore 5, 2) := by decide +kernel
theorem dX6_water_7 : decode cX6_water 7 = .ok (.aload_n 0, 1) := by decide +kernel
theorem dX6_water_8 : decode cX6_water 8 = .ok (.iload 5, 2) := by decide +kernel
theorem dX6_water_10 : decode cX6_water 10 = .ok (.ifCond .ne 7, 3) := by decide +kernel
theorem dX6_water_13 : decode cX6_water 13 = .ok (.iconst 1, 1) := by decide +kernel
theorem dX6_water_14 : decode cX6_water 14 = .ok (.goto 19, 3) := by decide +kernel
theorem dX6_water_17 : decode cX6_water 17 = .ok (.lload_n 3, 1) := by decide +kernel
theorem dX6_water_18 : decode cX6_water 18 = .ok (.lconst 0, 1) := by decide +kernel
theorem dX6_water_19 : decode cX6_water 19 = .ok (.ldc2_w 88, 3) := by decide +kernel
theorem dX6_water_22 : decode cX6_water 22 = .ok (.invokestatic 59, 3) := by decide +kernel
theorem dX6_water_25 : decode cX6_water 25 = .ok (.ifCond .ne 7, 3) := by decide +kernel
theorem dX6_water_28 : decode cX6_water 28 = .ok (.iconst 2, 1) := by decide +kernel
theorem dX6_water_29 : decode cX6_water 29 = .ok (.goto 4, 3) := by decide +kernel
theorem dX6_water_32 : decode cX6_water 32 = .ok (.iconst 0, 1) := by decide +kernel
theorem dX6_water_33 : decode cX6_water 33 = .ok (.invokevirtual 80, 3) := by decide +kernel
theorem dX6_water_36 : decode cX6_water 36 = .ok (.ifCond .eq 21, 3) := by decide +kernel
theorem dX6_water_39 : decode cX6_water 39 = .ok (.aload_n 0, 1) := by decide +kernel
theorem dX6_water_40 : decode cX6_water 40 = .ok (.sipush 192, 3) := by decide +kernel
theorem dX6_water_43 : decode cX6_water 43 = .ok (.bipush 8, 2) := by decide +kernel
theorem dX6_water_45 : decode cX6_water 45 = .ok (.iload_n 2, 1) := by decide +kernel
theorem dX6_water_46 : decode cX6_water 46 = .ok (.imul, 1) := by decide +kernel
theorem dX6_water_47 : decode cX6_water 47 = .ok (.iadd, 1) := by decide +kernel
theorem dX6_water_48 : decode cX6_water 48 = .ok (.iload_n 1, 1) := by decide +kernel
theorem dX6_water_49 : decode cX6_water 49 = .ok (.iadd, 1) := by decide +kernel
theorem dX6_water_50 : decode cX6_water 50 = .ok (.lload_n 3, 1) := by decide +kernel
theorem dX6_water_51 : decode cX6_water 51 = .ok (.invokevirtual 84, 3) := by decide +kernel
theorem dX6_water_54 : decode cX6_water 54 = .ok (.goto 4, 3) := by decide +kernel
theorem dX6_water_57 : decode cX6_water 57 = .ok (.lconst 0, 1) := by decide +kernel
theorem dX6_water_58 : decode cX6_water 58 = .ok (.lreturn, 1) := by decide +kernel
theorem dX6_pullAt_0 : decode cX6_pullAt 0 = .ok (.lconst 0, 1) := by decide +kernel
theorem dX6_pullAt_1 : decode cX6_pullAt 1 = .ok (.lstore_n 3, 1) := by decide +kernel
theorem dX6_pullAt_2 : decode cX6_pullAt 2 = .ok (.iconst 0, 1) := by decide +kernel
theorem dX6_pullAt_3 : decode cX6_pullAt 3 = .ok (.istore 5, 2) := by decide +kernel
theorem dX6_pullAt_5 : decode cX6_pullAt 5 = .ok (.iload 5, 2) := by decide +kernel
theorem dX6_pullAt_7 : decode cX6_pullAt 7 = .ok (.sipush 256, 3) := by decide +kernel
theorem dX6_pullAt_10 : decode cX6_pullAt 10 = .ok (.if_icmp .ge 88, 3) := by decide +kernel
theorem dX6_pullAt_13 : decode cX6_pullAt 13 = .ok (.iload 5, 2) := by decide +kernel
theorem dX6_pullAt_15 : decode cX6_pullAt 15 = .ok (.bipush 64, 2) := by decide +kernel
theorem dX6_pullAt_17 : decode cX6_pullAt 17 = .ok (.idiv, 1) := by decide +kernel
theorem dX6_pullAt_18 : decode cX6_pullAt 18 = .ok (.istore 6, 2) := by decide +kernel
theorem dX6_pullAt_20 : decode cX6_pullAt 20 = .ok (.iload 5, 2) := by decide +kernel
theorem dX6_pullAt_22 : decode cX6_pullAt 22 = .ok (.bipush 8, 2) := by decide +kernel
theorem dX6_pullAt_24 : decode cX6_pullAt 24 = .ok (.irem, 1) := by decide +kernel
theorem dX6_pullAt_25 : decode cX6_pullAt 25 = .ok (.iload_n 1, 1) := by decide +kernel
theorem dX6_pullAt_26 : decode cX6_pullAt 26 = .ok (.isub, 1) := by decide +kernel
theorem dX6_pullAt_27 : decode cX6_pullAt 27 = .ok (.istore 7, 2) := by decide +kernel
theorem dX6_pullAt_29 : decode cX6_pullAt 29 = .ok (.iload 5, 2) := by decide +kernel
theorem dX6_pullAt_31 : decode cX6_pullAt 31 = .ok (.bipush 64, 2) := by decide +kernel
theorem dX6_pullAt_33 : decode cX6_pullAt 33 = .ok (.irem, 1) := by decide +kernel
theorem dX6_pullAt_34 : decode cX6_pullAt 34 = .ok (.bipush 8, 2) := by decide +kernel
theorem dX6_pullAt_36 : decode cX6_pullAt 36 = .ok (.idiv, 1) := by decide +kernel
theorem dX6_pullAt_37 : decode cX6_pullAt 37 = .ok (.iload_n 2, 1) := by decide +kernel
theorem dX6_pullAt_38 : decode cX6_pullAt 38 = .ok (.isub, 1) := by decide +kernel
theorem dX6_pullAt_39 : decode cX6_pullAt 39 = .ok (.istore 8, 2) := by decide +kernel
theorem dX6_pullAt_41 : decode cX6_pullAt 41 = .ok (.iload 6, 2) := by decide +kernel
theorem dX6_pullAt_43 : decode cX6_pullAt 43 = .ok (.iconst 3, 1) := by decide +kernel
theorem dX6_pullAt_44 : decode cX6_pullAt 44 = .ok (.if_icmp .ne 7, 3) := by decide +kernel
theorem dX6_pullAt_47 : decode cX6_pullAt 47 = .ok (.iconst 1, 1) := by decide +kernel
theorem dX6_pullAt_48 : decode cX6_pullAt 48 = .ok (.goto 12, 3) := by decide +kernel
theorem dX6_pullAt_51 : decode cX6_pullAt 51 = .ok (.iload 6, 2) := by decide +kernel
theorem dX6_pullAt_53 : decode cX6_pullAt 53 = .ok (.iconst 1, 1) := by decide +kernel
theorem dX6_pullAt_54 : decode cX6_pullAt 54 = .ok (.iadd, 1) := by decide +kernel
theorem dX6_pullAt_55 : decode cX6_pullAt 55 = .ok (.iload 6, 2) := by decide +kernel
theorem dX6_pullAt_57 : decode cX6_pullAt 57 = .ok (.iconst 1, 1) := by decide +kernel
theorem dX6_pullAt_58 : decode cX6_pullAt 58 = .ok (.iadd, 1) := by decide +kernel
theorem dX6_pullAt_59 : decode cX6_pullAt 59 = .ok (.imul, 1) := by decide +kernel
theorem dX6_pullAt_60 : decode cX6_pullAt 60 = .ok (.istore 9, 2) := by decide +kernel
theorem dX6_pullAt_62 : decode cX6_pullAt 62 = .ok (.lload_n 3, 1) := by decide +kernel
theorem dX6_pullAt_63 : decode cX6_pullAt 63 = .ok (.aload_n 0, 1) := by decide +kernel
theorem dX6_pullAt_64 : decode cX6_pullAt 64 = .ok (.getfield 7, 3) := by decide +kernel
theorem dX6_pullAt_67 : decode cX6_pullAt 67 = .ok (.iload 5, 2) := by decide +kernel
theorem dX6_pullAt_69 : decode cX6_pullAt 69 = .ok (.laload, 1) := by decide +kernel
theorem dX6_pullAt_70 : decode cX6_pullAt 70 = .ok (.ldc2_w 90, 3) := by decide +kernel
theorem dX6_pullAt_73 : decode cX6_pullAt 73 = .ok (.lmul, 1) := by decide +kernel
theorem dX6_pullAt_74 : decode cX6_pullAt 74 = .ok (.iload 7, 2) := by decide +kernel
theorem dX6_pullAt_76 : decode cX6_pullAt 76 = .ok (.iload 7, 2) := by decide +kernel
theorem dX6_pullAt_78 : decode cX6_pullAt 78 = .ok (.imul, 1) := by decide +kernel
theorem dX6_pullAt_79 : decode cX6_pullAt 79 = .ok (.iload 8, 2) := by decide +kernel
theorem dX6_pullAt_81 : decode cX6_pullAt 81 = .ok (.iload 8, 2) := by decide +kernel
theorem dX6_pullAt_83 : decode cX6_pullAt 83 = .ok (.imul, 1) := by decide +kernel
theorem dX6_pullAt_84 : decode cX6_pullAt 84 = .ok (.iadd, 1) := by decide +kernel
theorem dX6_pullAt_85 : decode cX6_pullAt 85 = .ok (.iload 9, 2) := by decide +kernel
theorem dX6_pullAt_87 : decode cX6_pullAt 87 = .ok (.iadd, 1) := by decide +kernel
theorem dX6_pullAt_88 : decode cX6_pullAt 88 = .ok (.i2l, 1) := by decide +kernel
theorem dX6_pullAt_89 : decode cX6_pullAt 89 = .ok (.ldiv, 1) := by decide +kernel
theorem dX6_pullAt_90 : decode cX6_pullAt 90 = .ok (.ladd, 1) := by decide +kernel
theorem dX6_pullAt_91 : decode cX6_pullAt 91 = .ok (.lstore_n 3, 1) := by decide +kernel
theorem dX6_pullAt_92 : decode cX6_pullAt 92 = .ok (.iinc 5 1, 3) := by decide +kernel
theorem dX6_pullAt_95 : decode cX6_pullAt 95 = .ok (.goto (-90), 3) := by decide +kernel
theorem dX6_pullAt_98 : decode cX6_pullAt 98 = .ok (.lload_n 3, 1) := by decide +kernel
theorem dX6_pullAt_99 : decode cX6_pullAt 99 = .ok (.lreturn, 1) := by decide +kernel
set_option maxRecDepth 20000 in
theorem ggX6_pull_X6_isCell : GoodIn wsX6_pull wsX6_isCell := goodIn_r _ [4, 5, 6, 7, 3, 8] (by decide +kernel) (by decide +kernel)
set_option maxRecDepth 20000 in
theorem gX6_pull_X6_isCell : GoodIn wsX6_pull (va_wsS RX6 72 yX6_isCell wsX6_isCell) := goodIn_app (goodIn_of _ (by decide +kernel)) ggX6_pull_X6_isCell
set_option maxRecDepth 20000 in
theorem ggX6_pull_X6_holds : GoodIn wsX6_pull wsX6_holds := goodIn_r _ [12, 13, 20, 21, 22, 23, 24, 25, 26, 27, 28, 29, 30, 31, 32, 33, 34, 35, 36, 37, 38, 39] (by decide +kernel) (by decide +kernel)
set_option maxRecDepth 20000 in
theorem gX6_pull_X6_holds : GoodIn wsX6_pull (wsV RX6 80 RX6 yX6_holds wsX6_holds) := goodIn_app (goodIn_of _ (by decide +kernel)) ggX6_pull_X6_holds
set_option maxRecDepth 20000 in
theorem ggX6_pull_X6_pullAt : GoodIn wsX6_pull wsX6_pullAt := goodIn_r _ [17, 18, 19, 20, 21, 22, 23, 24, 25, 26, 27, 28, 29, 30, 31, 32, 33, 34, 35, 36, 37, 38, 39] (by decide +kernel) (by decide +kernel)
set_option maxRecDepth 20000 in
theorem gX6_pull_X6_pullAt : GoodIn wsX6_pull (wsV RX6 92 RX6 yX6_pullAt wsX6_pullAt) := goodIn_app (goodIn_of _ (by decide +kernel)) ggX6_pull_X6_pullAt
theorem dX6_pull_0 : decode cX6_pull 0 = .ok (.aload_n 0, 1) := by decide +kernel
theorem dX6_pull_1 : decode cX6_pull 1 = .ok (.iload_n 1, 1) := by decide +kernel
theorem dX6_pull_2 : decode cX6_pull 2 = .ok (.iload_n 2, 1) := by decide +kernel
theorem dX6_pull_3 : decode cX6_pull 3 = .ok (.invokestatic 72, 3) := by decide +kernel
theorem dX6_pull_6 : decode cX6_pull 6 = .ok (.ifCond .eq 7, 3) := by decide +kernel
theorem dX6_pull_9 : decode cX6_pull 9 = .ok (.iconst 0, 1) := by decide +kernel
theorem dX6_pull_10 : decode cX6_pull 10 = .ok (.goto 4, 3) := by decide +kernel
theorem dX6_pull_13 : decode cX6_pull 13 = .ok (.iconst 1, 1) := by decide +kernel
theorem dX6_pull_14 : decode cX6_pull 14 = .ok (.invokevirtual 80, 3) := by decide +kernel
theorem dX6_pull_17 : decode cX6_pull 17 = .ok (.ifCond .eq 12, 3) := by decide +kernel
theorem dX6_pull_20 : decode cX6_pull 20 = .ok (.aload_n 0, 1) := by decide +kernel
theorem dX6_pull_21 : decode cX6_pull 21 = .ok (.iload_n 1, 1) := by decide +kernel
theorem dX6_pull_22 : decode cX6_pull 22 = .ok (.iload_n 2, 1) := by decide +kernel
theorem dX6_pull_23 : decode cX6_pull 23 = .ok (.invokevirtual 92, 3) := by decide +kernel
theorem dX6_pull_26 : decode cX6_pull 26 = .ok (.goto 4, 3) := by decide +kernel
theorem dX6_pull_29 : decode cX6_pull 29 = .ok (.lconst 0, 1) := by decide +kernel
theorem dX6_pull_30 : decode cX6_pull 30 = .ok (.lreturn, 1) := by decide +kernel
set_option maxRecDepth 20000 in
theorem ggX6_pullAnew_X6_isCell : GoodIn wsX6_pullAnew wsX6_isCell := goodIn_r _ [4, 5, 6, 7, 3, 8] (by decide +kernel) (by decide +kernel)
set_option maxRecDepth 20000 in
theorem gX6_pullAnew_X6_isCell : GoodIn wsX6_pullAnew (va_wsS RX6 72 yX6_isCell wsX6_isCell) := goodIn_app (goodIn_of _ (by decide +kernel)) ggX6_pullAnew_X6_isCell
set_option maxRecDepth 20000 in
theorem ggX6_pullAnew_X6_holds : GoodIn wsX6_pullAnew wsX6_holds := goodIn_r _ [12, 13, 20, 21, 22, 23, 24, 25, 26, 27, 28, 29, 30, 31, 32, 33, 34, 35, 36, 37, 38, 39] (by decide +kernel) (by decide +kernel)
set_option maxRecDepth 20000 in
theorem gX6_pullAnew_X6_holds : GoodIn wsX6_pullAnew (wsV RX6 80 RX6 yX6_holds wsX6_holds) := goodIn_app (goodIn_of _ (by decide +kernel)) ggX6_pullAnew_X6_holds
set_option maxRecDepth 20000 in
theorem ggX6_pullAnew_X6_pullAt : GoodIn wsX6_pullAnew wsX6_pullAt := goodIn_r _ [17, 18, 19, 20, 21, 22, 23, 24, 25, 26, 27, 28, 29, 30, 31, 32, 33, 34, 35, 36, 37, 38, 39] (by decide +kernel) (by decide +kernel)
set_option maxRecDepth 20000 in
theorem gX6_pullAnew_X6_pullAt : GoodIn wsX6_pullAnew (wsV RX6 92 RX6 yX6_pullAt wsX6_pullAt) := goodIn_app (goodIn_of _ (by decide +kernel)) ggX6_pullAnew_X6_pullAt
theorem dX6_pullAnew_0 : decode cX6_pullAnew 0 = .ok (.aload_n 0, 1) := by decide +kernel
theorem dX6_pullAnew_1 : decode cX6_pullAnew 1 = .ok (.iload_n 1, 1) := by decide +kernel
theorem dX6_pullAnew_2 : decode cX6_pullAnew 2 = .ok (.iload_n 2, 1) := by decide +kernel
theorem dX6_pullAnew_3 : decode cX6_pullAnew 3 = .ok (.invokestatic 72, 3) := by decide +kernel
theorem dX6_pullAnew_6 : decode cX6_pullAnew 6 = .ok (.ifCond .eq 7, 3) := by decide +kernel
theorem dX6_pullAnew_9 : decode cX6_pullAnew 9 = .ok (.iconst 0, 1) := by decide +kernel
theorem dX6_pullAnew_10 : decode cX6_pullAnew 10 = .ok (.goto 4, 3) := by decide +kernel
theorem dX6_pullAnew_13 : decode cX6_pullAnew 13 = .ok (.iconst 1, 1) := by decide +kernel
theorem dX6_pullAnew_14 : decode cX6_pullAnew 14 = .ok (.invokevirtual 80, 3) := by decide +kernel
theorem dX6_pullAnew_17 : decode cX6_pullAnew 17 = .ok (.ifCond .eq 12, 3) := by decide +kernel
theorem dX6_pullAnew_20 : decode cX6_pullAnew 20 = .ok (.aload_n 0, 1) := by decide +kernel
theorem dX6_pullAnew_21 : decode cX6_pullAnew 21 = .ok (.iload_n 1, 1) := by decide +kernel
theorem dX6_pullAnew_22 : decode cX6_pullAnew 22 = .ok (.iload_n 2, 1) := by decide +kernel
theorem dX6_pullAnew_23 : decode cX6_pullAnew 23 = .ok (.invokevirtual 92, 3) := by decide +kernel
theorem dX6_pullAnew_26 : decode cX6_pullAnew 26 = .ok (.goto 4, 3) := by decide +kernel
theorem dX6_pullAnew_29 : decode cX6_pullAnew 29 = .ok (.lconst 0, 1) := by decide +kernel
theorem dX6_pullAnew_30 : decode cX6_pullAnew 30 = .ok (.lreturn, 1) := by decide +kernel
set_option maxRecDepth 20000 in
theorem ggX6_gap_X6_isCell : GoodIn wsX6_gap wsX6_isCell := goodIn_r _ [4, 5, 6, 7, 3, 8] (by decide +kernel) (by decide +kernel)
set_option maxRecDepth 20000 in
theorem gX6_gap_X6_isCell : GoodIn wsX6_gap (va_wsS RX6 72 yX6_isCell wsX6_isCell) := goodIn_app (goodIn_of _ (by decide +kernel)) ggX6_gap_X6_isCell
set_option maxRecDepth 20000 in
theorem ggX6_gap_X6_holds : GoodIn wsX6_gap wsX6_holds := goodIn_r _ [12, 13, 20, 21, 22, 23, 24, 25, 26, 27, 28, 29, 30, 31, 32, 33, 34, 35, 36, 37, 38, 39] (by decide +kernel) (by decide +kernel)
set_option maxRecDepth 20000 in
theorem gX6_gap_X6_holds : GoodIn wsX6_gap (wsV RX6 80 RX6 yX6_holds wsX6_holds) := goodIn_app (goodIn_of _ (by decide +kernel)) ggX6_gap_X6_holds
set_option maxRecDepth 20000 in
theorem ggX6_gap_X6_pullAt : GoodIn wsX6_gap wsX6_pullAt := goodIn_r _ [17, 18, 19, 20, 21, 22, 23, 24, 25, 26, 27, 28, 29, 30, 31, 32, 33, 34, 35, 36, 37, 38, 39] (by decide +kernel) (by decide +kernel)
set_option maxRecDepth 20000 in
theorem gX6_gap_X6_pullAt : GoodIn wsX6_gap (wsV RX6 92 RX6 yX6_pullAt wsX6_pullAt) := goodIn_app (goodIn_of _ (by decide +kernel)) ggX6_gap_X6_pullAt
theorem dX6_gap_0 : decode cX6_gap 0 = .ok (.aload_n 0, 1) := by decide +kernel
theorem dX6_gap_1 : decode cX6_gap 1 = .ok (.iload_n 1, 1) := by decide +kernel
theorem dX6_gap_2 : decode cX6_gap 2 = .ok (.iload_n 2, 1) := by decide +kernel
theorem dX6_gap_3 : decode cX6_gap 3 = .ok (.invokestatic 72, 3) := by decide +kernel
theorem dX6_gap_6 : decode cX6_gap 6 = .ok (.ifCond .eq 13, 3) := by decide +kernel
theorem dX6_gap_9 : decode cX6_gap 9 = .ok (.iload_n 1, 1) := by decide +kernel
theorem dX6_gap_10 : decode cX6_gap 10 = .ok (.bipush 7, 2) := by decide +kernel
theorem dX6_gap_12 : decode cX6_gap 12 = .ok (.if_icmp .ge 7, 3) := by decide +kernel
theorem dX6_gap_15 : decode cX6_gap 15 = .ok (.iconst 0, 1) := by decide +kernel
theorem dX6_gap_16 : decode cX6_gap 16 = .ok (.goto 4, 3) := by decide +kernel
theorem dX6_gap_19 : decode cX6_gap 19 = .ok (.iconst 1, 1) := by decide +kernel
theorem dX6_gap_20 : decode cX6_gap 20 = .ok (.invokevirtual 80, 3) := by decide +kernel
theorem dX6_gap_23 : decode cX6_gap 23 = .ok (.ifCond .eq 21, 3) := by decide +kernel
theorem dX6_gap_26 : decode cX6_gap 26 = .ok (.aload_n 0, 1) := by decide +kernel
theorem dX6_gap_27 : decode cX6_gap 27 = .ok (.iload_n 1, 1) := by decide +kernel
theorem dX6_gap_28 : decode cX6_gap 28 = .ok (.iconst 1, 1) := by decide +kernel
theorem dX6_gap_29 : decode cX6_gap 29 = .ok (.iadd, 1) := by decide +kernel
theorem dX6_gap_30 : decode cX6_gap 30 = .ok (.iload_n 2, 1) := by decide +kernel
theorem dX6_gap_31 : decode cX6_gap 31 = .ok (.invokevirtual 92, 3) := by decide +kernel
theorem dX6_gap_34 : decode cX6_gap 34 = .ok (.aload_n 0, 1) := by decide +kernel
theorem dX6_gap_35 : decode cX6_gap 35 = .ok (.iload_n 1, 1) := by decide +kernel
theorem dX6_gap_36 : decode cX6_gap 36 = .ok (.iload_n 2, 1) := by decide +kernel
theorem dX6_gap_37 : decode cX6_gap 37 = .ok (.invokevirtual 92, 3) := by decide +kernel
theorem dX6_gap_40 : decode cX6_gap 40 = .ok (.lsub, 1) := by decide +kernel
theorem dX6_gap_41 : decode cX6_gap 41 = .ok (.goto 4, 3) := by decide +kernel
theorem dX6_gap_44 : decode cX6_gap 44 = .ok (.lconst 0, 1) := by decide +kernel
theorem dX6_gap_45 : decode cX6_gap 45 = .ok (.lreturn, 1) := by decide +kernel
set_option maxRecDepth 20000 in
theorem ggX6_tide_X6_isIn : GoodIn wsX6_tide wsX6_isIn := goodIn_r _ [8] (by decide +kernel) (by decide +kernel)
set_option maxRecDepth 20000 in
theorem gX6_tide_X6_isIn : GoodIn wsX6_tide (va_wsS RX6 59 yX6_isIn wsX6_isIn) := goodIn_app (goodIn_of _ (by decide +kernel)) ggX6_tide_X6_isIn
set_option maxRecDepth 20000 in
theorem ggX6_tide_X6_holds : GoodIn wsX6_tide wsX6_holds := goodIn_r _ [12, 13, 14, 15, 16, 17, 18, 19, 20, 21, 22, 23, 24, 25, 26, 27, 28, 29, 30, 31, 32, 33] (by decide +kernel) (by decide +kernel)
set_option maxRecDepth 20000 in
theorem gX6_tide_X6_holds : GoodIn wsX6_tide (wsV RX6 80 RX6 yX6_holds wsX6_holds) := goodIn_app (goodIn_of _ (by decide +kernel)) ggX6_tide_X6_holds
theorem dX6_tide_0 : decode cX6_tide 0 = .ok (.aload_n 0, 1) := by decide +kernel
theorem dX6_tide_1 : decode cX6_tide 1 = .ok (.iload_n 1, 1) := by decide +kernel
theorem dX6_tide_2 : decode cX6_tide 2 = .ok (.i2l, 1) := by decide +kernel
theorem dX6_tide_3 : decode cX6_tide 3 = .ok (.lconst 0, 1) := by decide +kernel
theorem dX6_tide_4 : decode cX6_tide 4 = .ok (.ldc2_w 90, 3) := by decide +kernel
theorem dX6_tide_7 : decode cX6_tide 7 = .ok (.invokestatic 59, 3) := by decide +kernel
theorem dX6_tide_10 : decode cX6_tide 10 = .ok (.ifCond .eq 19, 3) := by decide +kernel
theorem dX6_tide_13 : decode cX6_tide 13 = .ok (.iload_n 2, 1) := by decide +kernel
theorem dX6_tide_14 : decode cX6_tide 14 = .ok (.i2l, 1) := by decide +kernel
theorem dX6_tide_15 : decode cX6_tide 15 = .ok (.lconst 1, 1) := by decide +kernel
theorem dX6_tide_16 : decode cX6_tide 16 = .ok (.ldc2_w 96, 3) := by decide +kernel
theorem dX6_tide_19 : decode cX6_tide 19 = .ok (.invokestatic 59, 3) := by decide +kernel
theorem dX6_tide_22 : decode cX6_tide 22 = .ok (.ifCond .eq 7, 3) := by decide +kernel
theorem dX6_tide_25 : decode cX6_tide 25 = .ok (.iconst 0, 1) := by decide +kernel
theorem dX6_tide_26 : decode cX6_tide 26 = .ok (.goto 4, 3) := by decide +kernel
theorem dX6_tide_29 : decode cX6_tide 29 = .ok (.iconst 1, 1) := by decide +kernel
theorem dX6_tide_30 : decode cX6_tide 30 = .ok (.invokevirtual 80, 3) := by decide +kernel
theorem dX6_tide_33 : decode cX6_tide 33 = .ok (.ifCond .ne 5, 3) := by decide +kernel
theorem dX6_tide_36 : decode cX6_tide 36 = .ok (.iconst 0, 1) := by decide +kernel
theorem dX6_tide_37 : decode cX6_tide 37 = .ok (.ireturn, 1) := by decide +kernel
theorem dX6_tide_38 : decode cX6_tide 38 = .ok (.aload_n 0, 1) := by decide +kernel
theorem dX6_tide_39 : decode cX6_tide 39 = .ok (.getfield 98, 3) := by decide +kernel
theorem dX6_tide_42 : decode cX6_tide 42 = .ok (.istore_n 3, 1) := by decide +kernel
theorem dX6_tide_43 : decode cX6_tide 43 = .ok (.aload_n 0, 1) := by decide +kernel
theorem dX6_tide_44 : decode cX6_tide 44 = .ok (.iload_n 1, 1) := by decide +kernel
theorem dX6_tide_45 : decode cX6_tide 45 = .ok (.putfield 98, 3) := by decide +kernel
theorem dX6_tide_48 : decode cX6_tide 48 = .ok (.aload_n 0, 1) := by decide +kernel
theorem dX6_tide_49 : decode cX6_tide 49 = .ok (.iload_n 2, 1) := by decide +kernel
theorem dX6_tide_50 : decode cX6_tide 50 = .ok (.putfield 13, 3) := by decide +kernel
theorem dX6_tide_53 : decode cX6_tide 53 = .ok (.iload_n 3, 1) := by decide +kernel
theorem dX6_tide_54 : decode cX6_tide 54 = .ok (.ireturn, 1) := by decide +kernel
set_option maxRecDepth 20000 in
theorem ggX6_pass_X6_isIn : GoodIn wsX6_pass wsX6_isIn := goodIn_r _ [6] (by decide +kernel) (by decide +kernel)
set_option maxRecDepth 20000 in
theorem gX6_pass_X6_isIn : GoodIn wsX6_pass (va_wsS RX6 59 yX6_isIn wsX6_isIn) := goodIn_app (goodIn_of _ (by decide +kernel)) ggX6_pass_X6_isIn
set_option maxRecDepth 20000 in
theorem ggX6_pass_X6_holds : GoodIn wsX6_pass wsX6_holds := goodIn_r _ [10, 11, 12, 13, 14, 15, 16, 17, 18, 19, 20, 21, 22, 23, 24, 25, 26, 27, 28, 29, 30, 31] (by decide +kernel) (by decide +kernel)
set_option maxRecDepth 20000 in
theorem gX6_pass_X6_holds : GoodIn wsX6_pass (wsV RX6 80 RX6 yX6_holds wsX6_holds) := goodIn_app (goodIn_of _ (by decide +kernel)) ggX6_pass_X6_holds
theorem dX6_pass_0 : decode cX6_pass 0 = .ok (.aload_n 0, 1) := by decide +kernel
theorem dX6_pass_1 : decode cX6_pass 1 = .ok (.iload_n 1, 1) := by decide +kernel
theorem dX6_pass_2 : decode cX6_pass 2 = .ok (.i2l, 1) := by decide +kernel
theorem dX6_pass_3 : decode cX6_pass 3 = .ok (.lconst 1, 1) := by decide +kernel
theorem dX6_pass_4 : decode cX6_pass 4 = .ok (.ldc2_w 101, 3) := by decide +kernel
theorem dX6_pass_7 : decode cX6_pass 7 = .ok (.invokestatic 59, 3) := by decide +kernel
theorem dX6_pass_10 : decode cX6_pass 10 = .ok (.ifCond .ne 7, 3) := by decide +kernel
theorem dX6_pass_13 : decode cX6_pass 13 = .ok (.iconst 1, 1) := by decide +kernel
theorem dX6_pass_14 : decode cX6_pass 14 = .ok (.goto 20, 3) := by decide +kernel
theorem dX6_pass_17 : decode cX6_pass 17 = .ok (.aload_n 0, 1) := by decide +kernel
theorem dX6_pass_18 : decode cX6_pass 18 = .ok (.getfield 51, 3) := by decide +kernel
theorem dX6_pass_21 : decode cX6_pass 21 = .ok (.iload_n 1, 1) := by decide +kernel
theorem dX6_pass_22 : decode cX6_pass 22 = .ok (.iadd, 1) := by decide +kernel
theorem dX6_pass_23 : decode cX6_pass 23 = .ok (.sipush 3000, 3) := by decide +kernel
theorem dX6_pass_26 : decode cX6_pass 26 = .ok (.if_icmp .le 7, 3) := by decide +kernel
theorem dX6_pass_29 : decode cX6_pass 29 = .ok (.iconst 2, 1) := by decide +kernel
theorem dX6_pass_30 : decode cX6_pass 30 = .ok (.goto 4, 3) := by decide +kernel
theorem dX6_pass_33 : decode cX6_pass 33 = .ok (.iconst 0, 1) := by decide +kernel
theorem dX6_pass_34 : decode cX6_pass 34 = .ok (.invokevirtual 80, 3) := by decide +kernel
theorem dX6_pass_37 : decode cX6_pass 37 = .ok (.ifCond .ne 5, 3) := by decide +kernel
theorem dX6_pass_40 : decode cX6_pass 40 = .ok (.iconst 0, 1) := by decide +kernel
theorem dX6_pass_41 : decode cX6_pass 41 = .ok (.ireturn, 1) := by decide +kernel
theorem dX6_pass_42 : decode cX6_pass 42 = .ok (.aload_n 0, 1) := by decide +kernel
theorem dX6_pass_43 : decode cX6_pass 43 = .ok (.dup, 1) := by decide +kernel
theorem dX6_pass_44 : decode cX6_pass 44 = .ok (.getfield 51, 3) := by decide +kernel
theorem dX6_pass_47 : decode cX6_pass 47 = .ok (.iload_n 1, 1) := by decide +kernel
theorem dX6_pass_48 : decode cX6_pass 48 = .ok (.iadd, 1) := by decide +kernel
theorem dX6_pass_49 : decode cX6_pass 49 = .ok (.putfield 51, 3) := by decide +kernel
theorem dX6_pass_52 : decode cX6_pass 52 = .ok (.aload_n 0, 1) := by decide +kernel
theorem dX6_pass_53 : decode cX6_pass 53 = .ok (.getfield 51, 3) := by decide +kernel
theorem dX6_pass_56 : decode cX6_pass 56 = .ok (.ireturn, 1) := by decide +kernel
set_option maxRecDepth 20000 in
theorem ggX6_needle_X6_isIn : GoodIn wsX6_needle wsX6_isIn := goodIn_r _ [11] (by decide +kernel) (by decide +kernel)
set_option maxRecDepth 20000 in
theorem gX6_needle_X6_isIn : GoodIn wsX6_needle (va_wsS RX6 59 yX6_isIn wsX6_isIn) := goodIn_app (goodIn_of _ (by decide +kernel)) ggX6_needle_X6_isIn
set_option maxRecDepth 20000 in
theorem ggX6_needle_X6_holds : GoodIn wsX6_needle wsX6_holds := goodIn_r _ [15, 16, 17, 18, 19, 20, 21, 22, 23, 24, 25, 26, 27, 28, 29, 30, 31, 32, 33, 34, 35, 36] (by decide +kernel) (by decide +kernel)
set_option maxRecDepth 20000 in
theorem gX6_needle_X6_holds : GoodIn wsX6_needle (wsV RX6 80 RX6 yX6_holds wsX6_holds) := goodIn_app (goodIn_of _ (by decide +kernel)) ggX6_needle_X6_holds
theorem dX6_needle_0 : decode cX6_needle 0 = .ok (.iload_n 1, 1) := by decide +kernel
theorem dX6_needle_1 : decode cX6_needle 1 = .ok (.i2l, 1) := by decide +kernel
theorem dX6_needle_2 : decode cX6_needle 2 = .ok (.lconst 0, 1) := by decide +kernel
theorem dX6_needle_3 : decode cX6_needle 3 = .ok (.lconst 1, 1) := by decide +kernel
theorem dX6_needle_4 : decode cX6_needle 4 = .ok (.invokestatic 59, 3) := by decide +kernel
theorem dX6_needle_7 : decode cX6_needle 7 = .ok (.ifCond .eq 21, 3) := by decide +kernel
theorem dX6_needle_10 : decode cX6_needle 10 = .ok (.iload_n 2, 1) := by decide +kernel
theorem dX6_needle_11 : decode cX6_needle 11 = .ok (.i2l, 1) := by decide +kernel
theorem dX6_needle_12 : decode cX6_needle 12 = .ok (.ldc2_w 103, 3) := by decide +kernel
theorem dX6_needle_15 : decode cX6_needle 15 = .ok (.ldc2_w 105, 3) := by decide +kernel
theorem dX6_needle_18 : decode cX6_needle 18 = .ok (.invokestatic 59, 3) := by decide +kernel
theorem dX6_needle_21 : decode cX6_needle 21 = .ok (.ifCond .eq 7, 3) := by decide +kernel
theorem dX6_needle_24 : decode cX6_needle 24 = .ok (.iconst 1, 1) := by decide +kernel
theorem dX6_needle_25 : decode cX6_needle 25 = .ok (.goto 4, 3) := by decide +kernel
theorem dX6_needle_28 : decode cX6_needle 28 = .ok (.iconst 0, 1) := by decide +kernel
theorem dX6_needle_29 : decode cX6_needle 29 = .ok (.istore_n 3, 1) := by decide +kernel
theorem dX6_needle_30 : decode cX6_needle 30 = .ok (.aload_n 0, 1) := by decide +kernel
theorem dX6_needle_31 : decode cX6_needle 31 = .ok (.iload_n 3, 1) := by decide +kernel
theorem dX6_needle_32 : decode cX6_needle 32 = .ok (.ifCond .ne 7, 3) := by decide +kernel
theorem dX6_needle_35 : decode cX6_needle 35 = .ok (.iconst 1, 1) := by decide +kernel
theorem dX6_needle_36 : decode cX6_needle 36 = .ok (.goto 17, 3) := by decide +kernel
theorem dX6_needle_39 : decode cX6_needle 39 = .ok (.aload_n 0, 1) := by decide +kernel
theorem dX6_needle_40 : decode cX6_needle 40 = .ok (.getfield 63, 3) := by decide +kernel
theorem dX6_needle_43 : decode cX6_needle 43 = .ok (.bipush 6, 2) := by decide +kernel
theorem dX6_needle_45 : decode cX6_needle 45 = .ok (.if_icmp .ne 7, 3) := by decide +kernel
theorem dX6_needle_48 : decode cX6_needle 48 = .ok (.iconst 2, 1) := by decide +kernel
theorem dX6_needle_49 : decode cX6_needle 49 = .ok (.goto 4, 3) := by decide +kernel
theorem dX6_needle_52 : decode cX6_needle 52 = .ok (.iconst 0, 1) := by decide +kernel
theorem dX6_needle_53 : decode cX6_needle 53 = .ok (.invokevirtual 80, 3) := by decide +kernel
theorem dX6_needle_56 : decode cX6_needle 56 = .ok (.ifCond .ne 5, 3) := by decide +kernel
theorem dX6_needle_59 : decode cX6_needle 59 = .ok (.iconst 0, 1) := by decide +kernel
theorem dX6_needle_60 : decode cX6_needle 60 = .ok (.ireturn, 1) := by decide +kernel
theorem dX6_needle_61 : decode cX6_needle 61 = .ok (.aload_n 0, 1) := by decide +kernel
theorem dX6_needle_62 : decode cX6_needle 62 = .ok (.getfield 17, 3) := by decide +kernel
theorem dX6_needle_65 : decode cX6_needle 65 = .ok (.aload_n 0, 1) := by decide +kernel
theorem dX6_needle_66 : decode cX6_needle 66 = .ok (.getfield 63, 3) := by decide +kernel
theorem dX6_needle_69 : decode cX6_needle 69 = .ok (.iload_n 1, 1) := by decide +kernel
theorem dX6_needle_70 : decode cX6_needle 70 = .ok (.iastore, 1) := by decide +kernel
theorem dX6_needle_71 : decode cX6_needle 71 = .ok (.aload_n 0, 1) := by decide +kernel
theorem dX6_needle_72 : decode cX6_needle 72 = .ok (.getfield 21, 3) := by decide +kernel
theorem dX6_needle_75 : decode cX6_needle 75 = .ok (.aload_n 0, 1) := by decide +kernel
theorem dX6_needle_76 : decode cX6_needle 76 = .ok (.getfield 63, 3) := by decide +kernel
theorem dX6_needle_79 : decode cX6_needle 79 = .ok (.iload_n 2, 1) := by decide +kernel
theorem dX6_needle_80 : decode cX6_needle 80 = .ok (.iastore, 1) := by decide +kernel
theorem dX6_needle_81 : decode cX6_needle 81 = .ok (.aload_n 0, 1) := by decide +kernel
theorem dX6_needle_82 : decode cX6_needle 82 = .ok (.getfield 24, 3) := by decide +kernel
theorem dX6_needle_85 : decode cX6_needle 85 = .ok (.aload_n 0, 1) := by decide +kernel
theorem dX6_needle_86 : decode cX6_needle 86 = .ok (.getfield 63, 3) := by decide +kernel
theorem dX6_needle_89 : decode cX6_needle 89 = .ok (.aload_n 0, 1) := by decide +kernel
theorem dX6_needle_90 : decode cX6_needle 90 = .ok (.getfield 51, 3) := by decide +kernel
theorem dX6_needle_93 : decode cX6_needle 93 = .ok (.iastore, 1) := by decide +kernel
theorem dX6_needle_94 : decode cX6_needle 94 = .ok (.aload_n 0, 1) := by decide +kernel
theorem dX6_needle_95 : decode cX6_needle 95 = .ok (.dup, 1) := by decide +kernel
theorem dX6_needle_96 : decode cX6_needle 96 = .ok (.getfield 63, 3) := by decide +kernel
theorem dX6_needle_99 : decode cX6_needle 99 = .ok (.iconst 1, 1) := by decide +kernel
theorem dX6_needle_100 : decode cX6_needle 100 = .ok (.iadd, 1) := by decide +kernel
theorem dX6_needle_101 : decode cX6_needle 101 = .ok (.putfield 63, 3) := by decide +kernel
theorem dX6_needle_104 : decode cX6_needle 104 = .ok (.aload_n 0, 1) := by decide +kernel
theorem dX6_needle_105 : decode cX6_needle 105 = .ok (.getfield 63, 3) := by decide +kernel
theorem dX6_needle_108 : decode cX6_needle 108 = .ok (.iconst 1, 1) := by decide +kernel
theorem dX6_needle_109 : decode cX6_needle 109 = .ok (.isub, 1) := by decide +kernel
theorem dX6_needle_110 : decode cX6_needle 110 = .ok (.ireturn, 1) := by decide +kernel
theorem dX6_offNow_0 : decode cX6_offNow 0 = .ok (.aload_n 0, 1) := by decide +kernel
theorem dX6_offNow_1 : decode cX6_offNow 1 = .ok (.getfield 17, 3) := by decide +kernel
theorem dX6_offNow_4 : decode cX6_offNow 4 = .ok (.iload_n 1, 1) := by decide +kernel
theorem dX6_offNow_5 : decode cX6_offNow 5 = .ok (.iaload, 1) := by decide +kernel
theorem dX6_offNow_6 : decode cX6_offNow 6 = .ok (.ifCond .ne 13, 3) := by decide +kernel
theorem dX6_offNow_9 : decode cX6_offNow 9 = .ok (.aload_n 0, 1) := by decide +kernel
theorem dX6_offNow_10 : decode cX6_offNow 10 = .ok (.getfield 21, 3) := by decide +kernel
theorem dX6_offNow_13 : decode cX6_offNow 13 = .ok (.iload_n 1, 1) := by decide +kernel
theorem dX6_offNow_14 : decode cX6_offNow 14 = .ok (.iaload, 1) := by decide +kernel
theorem dX6_offNow_15 : decode cX6_offNow 15 = .ok (.i2l, 1) := by decide +kernel
theorem dX6_offNow_16 : decode cX6_offNow 16 = .ok (.goto 23, 3) := by decide +kernel
theorem dX6_offNow_19 : decode cX6_offNow 19 = .ok (.aload_n 0, 1) := by decide +kernel
theorem dX6_offNow_20 : decode cX6_offNow 20 = .ok (.getfield 21, 3) := by decide +kernel
theorem dX6_offNow_23 : decode cX6_offNow 23 = .ok (.iload_n 1, 1) := by decide +kernel
theorem dX6_offNow_24 : decode cX6_offNow 24 = .ok (.iaload, 1) := by decide +kernel
theorem dX6_offNow_25 : decode cX6_offNow 25 = .ok (.i2l, 1) := by decide +kernel
theorem dX6_offNow_26 : decode cX6_offNow 26 = .ok (.aload_n 0, 1) := by decide +kernel
theorem dX6_offNow_27 : decode cX6_offNow 27 = .ok (.getfield 51, 3) := by decide +kernel
theorem dX6_offNow_30 : decode cX6_offNow 30 = .ok (.aload_n 0, 1) := by decide +kernel
theorem dX6_offNow_31 : decode cX6_offNow 31 = .ok (.getfield 24, 3) := by decide +kernel
theorem dX6_offNow_34 : decode cX6_offNow 34 = .ok (.iload_n 1, 1) := by decide +kernel
theorem dX6_offNow_35 : decode cX6_offNow 35 = .ok (.iaload, 1) := by decide +kernel
theorem dX6_offNow_36 : decode cX6_offNow 36 = .ok (.isub, 1) := by decide +kernel
theorem dX6_offNow_37 : decode cX6_offNow 37 = .ok (.i2l, 1) := by decide +kernel
theorem dX6_offNow_38 : decode cX6_offNow 38 = .ok (.lmul, 1) := by decide +kernel
theorem dX6_offNow_39 : decode cX6_offNow 39 = .ok (.lreturn, 1) := by decide +kernel
set_option maxRecDepth 20000 in
theorem ggX6_tie_X6_isNeedle : GoodIn wsX6_tie wsX6_isNeedle := goodIn_r _ [8, 9, 10, 11, 7, 12, 23, 24, 25, 26, 27, 28, 29, 30, 31, 32, 33, 34, 35, 36, 37, 38, 39, 40, 41, 42] (by decide +kernel) (by decide +kernel)
set_option maxRecDepth 20000 in
theorem gX6_tie_X6_isNeedle : GoodIn wsX6_tie (wsV RX6 107 RX6 yX6_isNeedle wsX6_isNeedle) := goodIn_app (goodIn_of _ (by decide +kernel)) ggX6_tie_X6_isNeedle
set_option maxRecDepth 20000 in
theorem ggX6_tie_X6_holds : GoodIn wsX6_tie wsX6_holds := goodIn_r _ [16, 17, 23, 24, 25, 26, 27, 28, 29, 30, 31, 32, 33, 34, 35, 36, 37, 38, 39, 40, 41, 42] (by decide +kernel) (by decide +kernel)
set_option maxRecDepth 20000 in
theorem gX6_tie_X6_holds : GoodIn wsX6_tie (wsV RX6 80 RX6 yX6_holds wsX6_holds) := goodIn_app (goodIn_of _ (by decide +kernel)) ggX6_tie_X6_holds
set_option maxRecDepth 20000 in
theorem ggX6_tie_X6_offNow : GoodIn wsX6_tie wsX6_offNow := goodIn_r _ [21, 1, 22, 3, 2, 23, 24, 25, 26, 27, 28, 29, 30, 31, 32, 33, 34, 35, 36, 37, 38, 39, 40, 41, 42] (by decide +kernel) (by decide +kernel)
set_option maxRecDepth 20000 in
theorem gX6_tie_X6_offNow : GoodIn wsX6_tie (wsV RX6 110 RX6 yX6_offNow wsX6_offNow) := goodIn_app (goodIn_of _ (by decide +kernel)) ggX6_tie_X6_offNow
theorem dX6_tie_0 : decode cX6_tie 0 = .ok (.aload_n 0, 1) := by decide +kernel
theorem dX6_tie_1 : decode cX6_tie 1 = .ok (.iload_n 1, 1) := by decide +kernel
theorem dX6_tie_2 : decode cX6_tie 2 = .ok (.invokevirtual 107, 3) := by decide +kernel
theorem dX6_tie_5 : decode cX6_tie 5 = .ok (.istore_n 2, 1) := by decide +kernel
theorem dX6_tie_6 : decode cX6_tie 6 = .ok (.aload_n 0, 1) := by decide +kernel
theorem dX6_tie_7 : decode cX6_tie 7 = .ok (.iload_n 2, 1) := by decide +kernel
theorem dX6_tie_8 : decode cX6_tie 8 = .ok (.ifCond .ne 7, 3) := by decide +kernel
theorem dX6_tie_11 : decode cX6_tie 11 = .ok (.iconst 1, 1) := by decide +kernel
theorem dX6_tie_12 : decode cX6_tie 12 = .ok (.goto 17, 3) := by decide +kernel
theorem dX6_tie_15 : decode cX6_tie 15 = .ok (.aload_n 0, 1) := by decide +kernel
theorem dX6_tie_16 : decode cX6_tie 16 = .ok (.getfield 17, 3) := by decide +kernel
theorem dX6_tie_19 : decode cX6_tie 19 = .ok (.iload_n 1, 1) := by decide +kernel
theorem dX6_tie_20 : decode cX6_tie 20 = .ok (.iaload, 1) := by decide +kernel
theorem dX6_tie_21 : decode cX6_tie 21 = .ok (.ifCond .ne 7, 3) := by decide +kernel
theorem dX6_tie_24 : decode cX6_tie 24 = .ok (.iconst 2, 1) := by decide +kernel
theorem dX6_tie_25 : decode cX6_tie 25 = .ok (.goto 4, 3) := by decide +kernel
theorem dX6_tie_28 : decode cX6_tie 28 = .ok (.iconst 0, 1) := by decide +kernel
theorem dX6_tie_29 : decode cX6_tie 29 = .ok (.invokevirtual 80, 3) := by decide +kernel
theorem dX6_tie_32 : decode cX6_tie 32 = .ok (.ifCond .ne 5, 3) := by decide +kernel
theorem dX6_tie_35 : decode cX6_tie 35 = .ok (.lconst 0, 1) := by decide +kernel
theorem dX6_tie_36 : decode cX6_tie 36 = .ok (.lreturn, 1) := by decide +kernel
theorem dX6_tie_37 : decode cX6_tie 37 = .ok (.aload_n 0, 1) := by decide +kernel
theorem dX6_tie_38 : decode cX6_tie 38 = .ok (.iload_n 1, 1) := by decide +kernel
theorem dX6_tie_39 : decode cX6_tie 39 = .ok (.invokevirtual 110, 3) := by decide +kernel
theorem dX6_tie_42 : decode cX6_tie 42 = .ok (.lstore_n 3, 1) := by decide +kernel
theorem dX6_tie_43 : decode cX6_tie 43 = .ok (.aload_n 0, 1) := by decide +kernel
theorem dX6_tie_44 : decode cX6_tie 44 = .ok (.getfield 24, 3) := by decide +kernel
theorem dX6_tie_47 : decode cX6_tie 47 = .ok (.iload_n 1, 1) := by decide +kernel
theorem dX6_tie_48 : decode cX6_tie 48 = .ok (.aload_n 0, 1) := by decide +kernel
theorem dX6_tie_49 : decode cX6_tie 49 = .ok (.getfield 51, 3) := by decide +kernel
theorem dX6_tie_52 : decode cX6_tie 52 = .ok (.iastore, 1) := by decide +kernel
theorem dX6_tie_53 : decode cX6_tie 53 = .ok (.lload_n 3, 1) := by decide +kernel
theorem dX6_tie_54 : decode cX6_tie 54 = .ok (.lreturn, 1) := by decide +kernel
set_option maxRecDepth 20000 in
theorem ggX6_readAt_X6_pullAt : GoodIn wsX6_readAt wsX6_pullAt := goodIn_r _ [8, 9, 10, 18, 19, 20, 21, 22, 23, 24, 25, 26, 27, 28, 29, 30, 31, 32, 33, 34, 35, 36, 37] (by decide +kernel) (by decide +kernel)
set_option maxRecDepth 20000 in
theorem gX6_readAt_X6_pullAt : GoodIn wsX6_readAt (wsV RX6 92 RX6 yX6_pullAt wsX6_pullAt) := goodIn_app (goodIn_of _ (by decide +kernel)) ggX6_readAt_X6_pullAt
set_option maxRecDepth 20000 in
theorem ggX6_readAt_X6_offNow : GoodIn wsX6_readAt wsX6_offNow := goodIn_r _ [14, 15, 16, 1, 17, 18, 19, 20, 21, 22, 23, 24, 25, 26, 27, 28, 29, 30, 31, 32, 33, 34, 35, 36, 37] (by decide +kernel) (by decide +kernel)
set_option maxRecDepth 20000 in
theorem gX6_readAt_X6_offNow : GoodIn wsX6_readAt (wsV RX6 110 RX6 yX6_offNow wsX6_offNow) := goodIn_app (goodIn_of _ (by decide +kernel)) ggX6_readAt_X6_offNow
theorem dX6_readAt_0 : decode cX6_readAt 0 = .ok (.aload_n 0, 1) := by decide +kernel
theorem dX6_readAt_1 : decode cX6_readAt 1 = .ok (.getfield 51, 3) := by decide +kernel
theorem dX6_readAt_4 : decode cX6_readAt 4 = .ok (.aload_n 0, 1) := by decide +kernel
theorem dX6_readAt_5 : decode cX6_readAt 5 = .ok (.getfield 13, 3) := by decide +kernel
theorem dX6_readAt_8 : decode cX6_readAt 8 = .ok (.irem, 1) := by decide +kernel
theorem dX6_readAt_9 : decode cX6_readAt 9 = .ok (.aload_n 0, 1) := by decide +kernel
theorem dX6_readAt_10 : decode cX6_readAt 10 = .ok (.getfield 13, 3) := by decide +kernel
theorem dX6_readAt_13 : decode cX6_readAt 13 = .ok (.iconst 2, 1) := by decide +kernel
theorem dX6_readAt_14 : decode cX6_readAt 14 = .ok (.idiv, 1) := by decide +kernel
theorem dX6_readAt_15 : decode cX6_readAt 15 = .ok (.if_icmp .ge 10, 3) := by decide +kernel
theorem dX6_readAt_18 : decode cX6_readAt 18 = .ok (.aload_n 0, 1) := by decide +kernel
theorem dX6_readAt_19 : decode cX6_readAt 19 = .ok (.getfield 98, 3) := by decide +kernel
theorem dX6_readAt_22 : decode cX6_readAt 22 = .ok (.goto 8, 3) := by decide +kernel
theorem dX6_readAt_25 : decode cX6_readAt 25 = .ok (.aload_n 0, 1) := by decide +kernel
theorem dX6_readAt_26 : decode cX6_readAt 26 = .ok (.getfield 98, 3) := by decide +kernel
theorem dX6_readAt_29 : decode cX6_readAt 29 = .ok (.ineg, 1) := by decide +kernel
theorem dX6_readAt_30 : decode cX6_readAt 30 = .ok (.istore 4, 2) := by decide +kernel
theorem dX6_readAt_32 : decode cX6_readAt 32 = .ok (.aload_n 0, 1) := by decide +kernel
theorem dX6_readAt_33 : decode cX6_readAt 33 = .ok (.iload_n 2, 1) := by decide +kernel
theorem dX6_readAt_34 : decode cX6_readAt 34 = .ok (.iload_n 3, 1) := by decide +kernel
theorem dX6_readAt_35 : decode cX6_readAt 35 = .ok (.invokevirtual 92, 3) := by decide +kernel
theorem dX6_readAt_38 : decode cX6_readAt 38 = .ok (.iload 4, 2) := by decide +kernel
theorem dX6_readAt_40 : decode cX6_readAt 40 = .ok (.i2l, 1) := by decide +kernel
theorem dX6_readAt_41 : decode cX6_readAt 41 = .ok (.ladd, 1) := by decide +kernel
theorem dX6_readAt_42 : decode cX6_readAt 42 = .ok (.aload_n 0, 1) := by decide +kernel
theorem dX6_readAt_43 : decode cX6_readAt 43 = .ok (.iload_n 1, 1) := by decide +kernel
theorem dX6_readAt_44 : decode cX6_readAt 44 = .ok (.invokevirtual 110, 3) := by decide +kernel
theorem dX6_readAt_47 : decode cX6_readAt 47 = .ok (.ladd, 1) := by decide +kernel
theorem dX6_readAt_48 : decode cX6_readAt 48 = .ok (.lreturn, 1) := by decide +kernel
set_option maxRecDepth 20000 in
theorem ggX6_read_X6_isNeedle : GoodIn wsX6_read wsX6_isNeedle := goodIn_r _ [5, 6, 7, 8, 4, 9, 39, 40, 41, 42, 43, 44, 45, 46, 47, 48, 49, 50, 51, 52, 53, 54, 55, 56, 57, 58] (by decide +kernel) (by decide +kernel)
set_option maxRecDepth 20000 in
theorem gX6_read_X6_isNeedle : GoodIn wsX6_read (wsV RX6 107 RX6 yX6_isNeedle wsX6_isNeedle) := goodIn_app (goodIn_of _ (by decide +kernel)) ggX6_read_X6_isNeedle
set_option maxRecDepth 20000 in
theorem ggX6_read_X6_isCell : GoodIn wsX6_read wsX6_isCell := goodIn_r _ [12, 13, 7, 8, 4, 9] (by decide +kernel) (by decide +kernel)
set_option maxRecDepth 20000 in
theorem gX6_read_X6_isCell : GoodIn wsX6_read (va_wsS RX6 72 yX6_isCell wsX6_isCell) := goodIn_app (goodIn_of _ (by decide +kernel)) ggX6_read_X6_isCell
set_option maxRecDepth 20000 in
theorem ggX6_read_X6_holds : GoodIn wsX6_read wsX6_holds := goodIn_r _ [17, 18, 39, 40, 41, 42, 43, 44, 45, 46, 47, 48, 49, 50, 51, 52, 53, 54, 55, 56, 57, 58] (by decide +kernel) (by decide +kernel)
set_option maxRecDepth 20000 in
theorem gX6_read_X6_holds : GoodIn wsX6_read (wsV RX6 80 RX6 yX6_holds wsX6_holds) := goodIn_app (goodIn_of _ (by decide +kernel)) ggX6_read_X6_holds
set_option maxRecDepth 20000 in
theorem ggX6_read_X6_readAt : GoodIn wsX6_read wsX6_readAt := goodIn_r _ [22, 23, 24, 25, 26, 27, 28, 4, 29, 30, 31, 32, 33, 34, 35, 36, 37, 38, 39, 40, 41, 42, 43, 44, 45, 46, 47, 48, 49, 50, 51, 52, 53, 54, 55, 56, 57, 58] (by decide +kernel) (by decide +kernel)
set_option maxRecDepth 20000 in
theorem gX6_read_X6_readAt : GoodIn wsX6_read (wsV RX6 114 RX6 yX6_readAt wsX6_readAt) := goodIn_app (goodIn_of _ (by decide +kernel)) ggX6_read_X6_readAt
theorem dX6_read_0 : decode cX6_read 0 = .ok (.aload_n 0, 1) := by decide +kernel
theorem dX6_read_1 : decode cX6_read 1 = .ok (.aload_n 0, 1) := by decide +kernel
theorem dX6_read_2 : decode cX6_read 2 = .ok (.iload_n 1, 1) := by decide +kernel
theorem dX6_read_3 : decode cX6_read 3 = .ok (.invokevirtual 107, 3) := by decide +kernel
theorem dX6_read_6 : decode cX6_read 6 = .ok (.ifCond .eq 15, 3) := by decide +kernel
theorem dX6_read_9 : decode cX6_read 9 = .ok (.iload_n 2, 1) := by decide +kernel
theorem dX6_read_10 : decode cX6_read 10 = .ok (.iload_n 3, 1) := by decide +kernel
theorem dX6_read_11 : decode cX6_read 11 = .ok (.invokestatic 72, 3) := by decide +kernel
theorem dX6_read_14 : decode cX6_read 14 = .ok (.ifCond .eq 7, 3) := by decide +kernel
theorem dX6_read_17 : decode cX6_read 17 = .ok (.iconst 0, 1) := by decide +kernel
theorem dX6_read_18 : decode cX6_read 18 = .ok (.goto 4, 3) := by decide +kernel
theorem dX6_read_21 : decode cX6_read 21 = .ok (.iconst 1, 1) := by decide +kernel
theorem dX6_read_22 : decode cX6_read 22 = .ok (.invokevirtual 80, 3) := by decide +kernel
theorem dX6_read_25 : decode cX6_read 25 = .ok (.ifCond .eq 13, 3) := by decide +kernel
theorem dX6_read_28 : decode cX6_read 28 = .ok (.aload_n 0, 1) := by decide +kernel
theorem dX6_read_29 : decode cX6_read 29 = .ok (.iload_n 1, 1) := by decide +kernel
theorem dX6_read_30 : decode cX6_read 30 = .ok (.iload_n 2, 1) := by decide +kernel
theorem dX6_read_31 : decode cX6_read 31 = .ok (.iload_n 3, 1) := by decide +kernel
theorem dX6_read_32 : decode cX6_read 32 = .ok (.invokevirtual 114, 3) := by decide +kernel
theorem dX6_read_35 : decode cX6_read 35 = .ok (.goto 4, 3) := by decide +kernel
theorem dX6_read_38 : decode cX6_read 38 = .ok (.lconst 0, 1) := by decide +kernel
theorem dX6_read_39 : decode cX6_read 39 = .ok (.lreturn, 1) := by decide +kernel
set_option maxRecDepth 20000 in
theorem ggX6_benchmark_X6_holds : GoodIn wsX6_benchmark wsX6_holds := goodIn_r _ [6, 7, 8, 9, 10, 11, 12, 13, 14, 15, 16, 17, 18, 19, 20, 21, 22, 23, 24, 25, 26, 27] (by decide +kernel) (by decide +kernel)
set_option maxRecDepth 20000 in
theorem gX6_benchmark_X6_holds : GoodIn wsX6_benchmark (wsV RX6 80 RX6 yX6_holds wsX6_holds) := goodIn_app (goodIn_of _ (by decide +kernel)) ggX6_benchmark_X6_holds
theorem dX6_benchmark_0 : decode cX6_benchmark 0 = .ok (.aload_n 0, 1) := by decide +kernel
theorem dX6_benchmark_1 : decode cX6_benchmark 1 = .ok (.aload_n 0, 1) := by decide +kernel
theorem dX6_benchmark_2 : decode cX6_benchmark 2 = .ok (.getfield 66, 3) := by decide +kernel
theorem dX6_benchmark_5 : decode cX6_benchmark 5 = .ok (.bipush 10, 2) := by decide +kernel
theorem dX6_benchmark_7 : decode cX6_benchmark 7 = .ok (.if_icmp .ne 7, 3) := by decide +kernel
theorem dX6_benchmark_10 : decode cX6_benchmark 10 = .ok (.iconst 1, 1) := by decide +kernel
theorem dX6_benchmark_11 : decode cX6_benchmark 11 = .ok (.goto 4, 3) := by decide +kernel
theorem dX6_benchmark_14 : decode cX6_benchmark 14 = .ok (.iconst 0, 1) := by decide +kernel
theorem dX6_benchmark_15 : decode cX6_benchmark 15 = .ok (.invokevirtual 80, 3) := by decide +kernel
theorem dX6_benchmark_18 : decode cX6_benchmark 18 = .ok (.ifCond .ne 5, 3) := by decide +kernel
theorem dX6_benchmark_21 : decode cX6_benchmark 21 = .ok (.iconst 0, 1) := by decide +kernel
theorem dX6_benchmark_22 : decode cX6_benchmark 22 = .ok (.ireturn, 1) := by decide +kernel
theorem dX6_benchmark_23 : decode cX6_benchmark 23 = .ok (.aload_n 0, 1) := by decide +kernel
theorem dX6_benchmark_24 : decode cX6_benchmark 24 = .ok (.dup, 1) := by decide +kernel
theorem dX6_benchmark_25 : decode cX6_benchmark 25 = .ok (.getfield 66, 3) := by decide +kernel
theorem dX6_benchmark_28 : decode cX6_benchmark 28 = .ok (.iconst 1, 1) := by decide +kernel
theorem dX6_benchmark_29 : decode cX6_benchmark 29 = .ok (.iadd, 1) := by decide +kernel
theorem dX6_benchmark_30 : decode cX6_benchmark 30 = .ok (.putfield 66, 3) := by decide +kernel
theorem dX6_benchmark_33 : decode cX6_benchmark 33 = .ok (.aload_n 0, 1) := by decide +kernel
theorem dX6_benchmark_34 : decode cX6_benchmark 34 = .ok (.getfield 66, 3) := by decide +kernel
theorem dX6_benchmark_37 : decode cX6_benchmark 37 = .ok (.iconst 1, 1) := by decide +kernel
theorem dX6_benchmark_38 : decode cX6_benchmark 38 = .ok (.isub, 1) := by decide +kernel
theorem dX6_benchmark_39 : decode cX6_benchmark 39 = .ok (.ireturn, 1) := by decide +kernel
set_option maxRecDepth 20000 in
theorem ggX6_line_X6_isBenchmark : GoodIn wsX6_line wsX6_isBenchmark := goodIn_r _ [13, 14, 15, 16, 12, 17, 23, 24, 25, 26, 27, 28, 29, 30, 31, 32, 33, 34, 35, 36, 37, 38, 39, 40, 41, 42] (by decide +kernel) (by decide +kernel)
set_option maxRecDepth 20000 in
theorem gX6_line_X6_isBenchmark : GoodIn wsX6_line (wsV RX6 118 RX6 yX6_isBenchmark wsX6_isBenchmark) := goodIn_app (goodIn_of _ (by decide +kernel)) ggX6_line_X6_isBenchmark
set_option maxRecDepth 20000 in
theorem ggX6_line_X6_isIn : GoodIn wsX6_line wsX6_isIn := goodIn_r _ [17] (by decide +kernel) (by decide +kernel)
set_option maxRecDepth 20000 in
theorem gX6_line_X6_isIn : GoodIn wsX6_line (va_wsS RX6 59 yX6_isIn wsX6_isIn) := goodIn_app (goodIn_of _ (by decide +kernel)) ggX6_line_X6_isIn
set_option maxRecDepth 20000 in
theorem ggX6_line_X6_holds : GoodIn wsX6_line wsX6_holds := goodIn_r _ [21, 22, 23, 24, 25, 26, 27, 28, 29, 30, 31, 32, 33, 34, 35, 36, 37, 38, 39, 40, 41, 42] (by decide +kernel) (by decide +kernel)
set_option maxRecDepth 20000 in
theorem gX6_line_X6_holds : GoodIn wsX6_line (wsV RX6 80 RX6 yX6_holds wsX6_holds) := goodIn_app (goodIn_of _ (by decide +kernel)) ggX6_line_X6_holds
theorem dX6_line_0 : decode cX6_line 0 = .ok (.aload_n 0, 1) := by decide +kernel
theorem dX6_line_1 : decode cX6_line 1 = .ok (.iload_n 1, 1) := by decide +kernel
theorem dX6_line_2 : decode cX6_line 2 = .ok (.invokevirtual 118, 3) := by decide +kernel
theorem dX6_line_5 : decode cX6_line 5 = .ok (.ifCond .eq 15, 3) := by decide +kernel
theorem dX6_line_8 : decode cX6_line 8 = .ok (.aload_n 0, 1) := by decide +kernel
theorem dX6_line_9 : decode cX6_line 9 = .ok (.iload_n 2, 1) := by decide +kernel
theorem dX6_line_10 : decode cX6_line 10 = .ok (.invokevirtual 118, 3) := by decide +kernel
theorem dX6_line_13 : decode cX6_line 13 = .ok (.ifCond .eq 7, 3) := by decide +kernel
theorem dX6_line_16 : decode cX6_line 16 = .ok (.iconst 1, 1) := by decide +kernel
theorem dX6_line_17 : decode cX6_line 17 = .ok (.goto 4, 3) := by decide +kernel
theorem dX6_line_20 : decode cX6_line 20 = .ok (.iconst 0, 1) := by decide +kernel
theorem dX6_line_21 : decode cX6_line 21 = .ok (.istore 5, 2) := by decide +kernel
theorem dX6_line_23 : decode cX6_line 23 = .ok (.iload_n 1, 1) := by decide +kernel
theorem dX6_line_24 : decode cX6_line 24 = .ok (.iload_n 2, 1) := by decide +kernel
theorem dX6_line_25 : decode cX6_line 25 = .ok (.if_icmp .eq 34, 3) := by decide +kernel
theorem dX6_line_28 : decode cX6_line 28 = .ok (.iload_n 3, 1) := by decide +kernel
theorem dX6_line_29 : decode cX6_line 29 = .ok (.i2l, 1) := by decide +kernel
theorem dX6_line_30 : decode cX6_line 30 = .ok (.ldc2_w 121, 3) := by decide +kernel
theorem dX6_line_33 : decode cX6_line 33 = .ok (.ldc2_w 90, 3) := by decide +kernel
theorem dX6_line_36 : decode cX6_line 36 = .ok (.invokestatic 59, 3) := by decide +kernel
theorem dX6_line_39 : decode cX6_line 39 = .ok (.ifCond .eq 20, 3) := by decide +kernel
theorem dX6_line_42 : decode cX6_line 42 = .ok (.iload 4, 2) := by decide +kernel
theorem dX6_line_44 : decode cX6_line 44 = .ok (.i2l, 1) := by decide +kernel
theorem dX6_line_45 : decode cX6_line 45 = .ok (.lconst 0, 1) := by decide +kernel
theorem dX6_line_46 : decode cX6_line 46 = .ok (.ldc2_w 105, 3) := by decide +kernel
theorem dX6_line_49 : decode cX6_line 49 = .ok (.invokestatic 59, 3) := by decide +kernel
theorem dX6_line_52 : decode cX6_line 52 = .ok (.ifCond .eq 7, 3) := by decide +kernel
theorem dX6_line_55 : decode cX6_line 55 = .ok (.iconst 1, 1) := by decide +kernel
theorem dX6_line_56 : decode cX6_line 56 = .ok (.goto 4, 3) := by decide +kernel
theorem dX6_line_59 : decode cX6_line 59 = .ok (.iconst 0, 1) := by decide +kernel
theorem dX6_line_60 : decode cX6_line 60 = .ok (.istore 6, 2) := by decide +kernel
theorem dX6_line_62 : decode cX6_line 62 = .ok (.aload_n 0, 1) := by decide +kernel
theorem dX6_line_63 : decode cX6_line 63 = .ok (.iload 5, 2) := by decide +kernel
theorem dX6_line_65 : decode cX6_line 65 = .ok (.ifCond .ne 7, 3) := by decide +kernel
theorem dX6_line_68 : decode cX6_line 68 = .ok (.iconst 1, 1) := by decide +kernel
theorem dX6_line_69 : decode cX6_line 69 = .ok (.goto 26, 3) := by decide +kernel
theorem dX6_line_72 : decode cX6_line 72 = .ok (.iload 6, 2) := by decide +kernel
theorem dX6_line_74 : decode cX6_line 74 = .ok (.ifCond .ne 7, 3) := by decide +kernel
theorem dX6_line_77 : decode cX6_line 77 = .ok (.iconst 2, 1) := by decide +kernel
theorem dX6_line_78 : decode cX6_line 78 = .ok (.goto 17, 3) := by decide +kernel
theorem dX6_line_81 : decode cX6_line 81 = .ok (.aload_n 0, 1) := by decide +kernel
theorem dX6_line_82 : decode cX6_line 82 = .ok (.getfield 123, 3) := by decide +kernel
theorem dX6_line_85 : decode cX6_line 85 = .ok (.bipush 24, 2) := by decide +kernel
theorem dX6_line_87 : decode cX6_line 87 = .ok (.if_icmp .ne 7, 3) := by decide +kernel
theorem dX6_line_90 : decode cX6_line 90 = .ok (.iconst 3, 1) := by decide +kernel
theorem dX6_line_91 : decode cX6_line 91 = .ok (.goto 4, 3) := by decide +kernel
theorem dX6_line_94 : decode cX6_line 94 = .ok (.iconst 0, 1) := by decide +kernel
theorem dX6_line_95 : decode cX6_line 95 = .ok (.invokevirtual 80, 3) := by decide +kernel
theorem dX6_line_98 : decode cX6_line 98 = .ok (.ifCond .ne 5, 3) := by decide +kernel
theorem dX6_line_101 : decode cX6_line 101 = .ok (.iconst 0, 1) := by decide +kernel
theorem dX6_line_102 : decode cX6_line 102 = .ok (.ireturn, 1) := by decide +kernel
theorem dX6_line_103 : decode cX6_line 103 = .ok (.aload_n 0, 1) := by decide +kernel
theorem dX6_line_104 : decode cX6_line 104 = .ok (.getfield 27, 3) := by decide +kernel
theorem dX6_line_107 : decode cX6_line 107 = .ok (.aload_n 0, 1) := by decide +kernel
theorem dX6_line_108 : decode cX6_line 108 = .ok (.getfield 123, 3) := by decide +kernel
theorem dX6_line_111 : decode cX6_line 111 = .ok (.iload_n 1, 1) := by decide +kernel
theorem dX6_line_112 : decode cX6_line 112 = .ok (.iastore, 1) := by decide +kernel
theorem dX6_line_113 : decode cX6_line 113 = .ok (.aload_n 0, 1) := by decide +kernel
theorem dX6_line_114 : decode cX6_line 114 = .ok (.getfield 30, 3) := by decide +kernel
theorem dX6_line_117 : decode cX6_line 117 = .ok (.aload_n 0, 1) := by decide +kernel
theorem dX6_line_118 : decode cX6_line 118 = .ok (.getfield 123, 3) := by decide +kernel
theorem dX6_line_121 : decode cX6_line 121 = .ok (.iload_n 2, 1) := by decide +kernel
theorem dX6_line_122 : decode cX6_line 122 = .ok (.iastore, 1) := by decide +kernel
theorem dX6_line_123 : decode cX6_line 123 = .ok (.aload_n 0, 1) := by decide +kernel
theorem dX6_line_124 : decode cX6_line 124 = .ok (.getfield 33, 3) := by decide +kernel
theorem dX6_line_127 : decode cX6_line 127 = .ok (.aload_n 0, 1) := by decide +kernel
theorem dX6_line_128 : decode cX6_line 128 = .ok (.getfield 123, 3) := by decide +kernel
theorem dX6_line_131 : decode cX6_line 131 = .ok (.iload_n 3, 1) := by decide +kernel
theorem dX6_line_132 : decode cX6_line 132 = .ok (.iastore, 1) := by decide +kernel
theorem dX6_line_133 : decode cX6_line 133 = .ok (.aload_n 0, 1) := by decide +kernel
theorem dX6_line_134 : decode cX6_line 134 = .ok (.getfield 36, 3) := by decide +kernel
theorem dX6_line_137 : decode cX6_line 137 = .ok (.aload_n 0, 1) := by decide +kernel
theorem dX6_line_138 : decode cX6_line 138 = .ok (.getfield 123, 3) := by decide +kernel
theorem dX6_line_141 : decode cX6_line 141 = .ok (.iload 4, 2) := by decide +kernel
theorem dX6_line_143 : decode cX6_line 143 = .ok (.iastore, 1) := by decide +kernel
theorem dX6_line_144 : decode cX6_line 144 = .ok (.aload_n 0, 1) := by decide +kernel
theorem dX6_line_145 : decode cX6_line 145 = .ok (.dup, 1) := by decide +kernel
theorem dX6_line_146 : decode cX6_line 146 = .ok (.getfield 123, 3) := by decide +kernel
theorem dX6_line_149 : decode cX6_line 149 = .ok (.iconst 1, 1) := by decide +kernel
theorem dX6_line_150 : decode cX6_line 150 = .ok (.iadd, 1) := by decide +kernel
theorem dX6_line_151 : decode cX6_line 151 = .ok (.putfield 123, 3) := by decide +kernel
theorem dX6_line_154 : decode cX6_line 154 = .ok (.aload_n 0, 1) := by decide +kernel
theorem dX6_line_155 : decode cX6_line 155 = .ok (.getfield 123, 3) := by decide +kernel
theorem dX6_line_158 : decode cX6_line 158 = .ok (.iconst 1, 1) := by decide +kernel
theorem dX6_line_159 : decode cX6_line 159 = .ok (.isub, 1) := by decide +kernel
theorem dX6_line_160 : decode cX6_line 160 = .ok (.ireturn, 1) := by decide +kernel
theorem dX6_isFound_0 : decode cX6_isFound 0 = .ok (.aload_n 0, 1) := by decide +kernel
theorem dX6_isFound_1 : decode cX6_isFound 1 = .ok (.getfield 39, 3) := by decide +kernel
theorem dX6_isFound_4 : decode cX6_isFound 4 = .ok (.iload_n 1, 1) := by decide +kernel
theorem dX6_isFound_5 : decode cX6_isFound 5 = .ok (.iaload, 1) := by decide +kernel
theorem dX6_isFound_6 : decode cX6_isFound 6 = .ok (.iconst (-1), 1) := by decide +kernel
theorem dX6_isFound_7 : decode cX6_isFound 7 = .ok (.if_icmp .eq 7, 3) := by decide +kernel
theorem dX6_isFound_10 : decode cX6_isFound 10 = .ok (.iconst 1, 1) := by decide +kernel
theorem dX6_isFound_11 : decode cX6_isFound 11 = .ok (.goto 4, 3) := by decide +kernel
theorem dX6_isFound_14 : decode cX6_isFound 14 = .ok (.iconst 0, 1) := by decide +kernel
theorem dX6_isFound_15 : decode cX6_isFound 15 = .ok (.ireturn, 1) := by decide +kernel
set_option maxRecDepth 20000 in
theorem ggX6_finds_X6_isFound : GoodIn wsX6_finds wsX6_isFound := goodIn_r _ [9, 4, 10, 11, 12, 13, 14, 15, 16, 17, 18, 19, 20, 21, 22, 23, 24, 25, 26, 27, 28, 29] (by decide +kernel) (by decide +kernel)
set_option maxRecDepth 20000 in
theorem gX6_finds_X6_isFound : GoodIn wsX6_finds (wsV RX6 126 RX6 yX6_isFound wsX6_isFound) := goodIn_app (goodIn_of _ (by decide +kernel)) ggX6_finds_X6_isFound
theorem dX6_finds_0 : decode cX6_finds 0 = .ok (.aload_n 0, 1) := by decide +kernel
theorem dX6_finds_1 : decode cX6_finds 1 = .ok (.aload_n 0, 1) := by decide +kernel
theorem dX6_finds_2 : decode cX6_finds 2 = .ok (.getfield 27, 3) := by decide +kernel
theorem dX6_finds_5 : decode cX6_finds 5 = .ok (.iload_n 1, 1) := by decide +kernel
theorem dX6_finds_6 : decode cX6_finds 6 = .ok (.iaload, 1) := by decide +kernel
theorem dX6_finds_7 : decode cX6_finds 7 = .ok (.invokevirtual 126, 3) := by decide +kernel
theorem dX6_finds_10 : decode cX6_finds 10 = .ok (.istore_n 2, 1) := by decide +kernel
theorem dX6_finds_11 : decode cX6_finds 11 = .ok (.iload_n 2, 1) := by decide +kernel
theorem dX6_finds_12 : decode cX6_finds 12 = .ok (.aload_n 0, 1) := by decide +kernel
theorem dX6_finds_13 : decode cX6_finds 13 = .ok (.aload_n 0, 1) := by decide +kernel
theorem dX6_finds_14 : decode cX6_finds 14 = .ok (.getfield 30, 3) := by decide +kernel
theorem dX6_finds_17 : decode cX6_finds 17 = .ok (.iload_n 1, 1) := by decide +kernel
theorem dX6_finds_18 : decode cX6_finds 18 = .ok (.iaload, 1) := by decide +kernel
theorem dX6_finds_19 : decode cX6_finds 19 = .ok (.invokevirtual 126, 3) := by decide +kernel
theorem dX6_finds_22 : decode cX6_finds 22 = .ok (.if_icmp .ne 7, 3) := by decide +kernel
theorem dX6_finds_25 : decode cX6_finds 25 = .ok (.iconst (-1), 1) := by decide +kernel
theorem dX6_finds_26 : decode cX6_finds 26 = .ok (.goto 34, 3) := by decide +kernel
theorem dX6_finds_29 : decode cX6_finds 29 = .ok (.aload_n 0, 1) := by decide +kernel
theorem dX6_finds_30 : decode cX6_finds 30 = .ok (.getfield 36, 3) := by decide +kernel
theorem dX6_finds_33 : decode cX6_finds 33 = .ok (.iload_n 1, 1) := by decide +kernel
theorem dX6_finds_34 : decode cX6_finds 34 = .ok (.iaload, 1) := by decide +kernel
theorem dX6_finds_35 : decode cX6_finds 35 = .ok (.aload_n 0, 1) := by decide +kernel
theorem dX6_finds_36 : decode cX6_finds 36 = .ok (.getfield 39, 3) := by decide +kernel
theorem dX6_finds_39 : decode cX6_finds 39 = .ok (.iload_n 2, 1) := by decide +kernel
theorem dX6_finds_40 : decode cX6_finds 40 = .ok (.ifCond .eq 12, 3) := by decide +kernel
theorem dX6_finds_43 : decode cX6_finds 43 = .ok (.aload_n 0, 1) := by decide +kernel
theorem dX6_finds_44 : decode cX6_finds 44 = .ok (.getfield 27, 3) := by decide +kernel
theorem dX6_finds_47 : decode cX6_finds 47 = .ok (.iload_n 1, 1) := by decide +kernel
theorem dX6_finds_48 : decode cX6_finds 48 = .ok (.iaload, 1) := by decide +kernel
theorem dX6_finds_49 : decode cX6_finds 49 = .ok (.goto 9, 3) := by decide +kernel
theorem dX6_finds_52 : decode cX6_finds 52 = .ok (.aload_n 0, 1) := by decide +kernel
theorem dX6_finds_53 : decode cX6_finds 53 = .ok (.getfield 30, 3) := by decide +kernel
theorem dX6_finds_56 : decode cX6_finds 56 = .ok (.iload_n 1, 1) := by decide +kernel
theorem dX6_finds_57 : decode cX6_finds 57 = .ok (.iaload, 1) := by decide +kernel
theorem dX6_finds_58 : decode cX6_finds 58 = .ok (.iaload, 1) := by decide +kernel
theorem dX6_finds_59 : decode cX6_finds 59 = .ok (.iadd, 1) := by decide +kernel
theorem dX6_finds_60 : decode cX6_finds 60 = .ok (.ireturn, 1) := by decide +kernel
set_option maxRecDepth 20000 in
theorem ggX6_next_X6_finds : GoodIn wsX6_next wsX6_finds := goodIn_r _ [6, 7, 8, 9, 10, 11, 12, 13, 5, 14, 15, 16, 17, 18, 19, 20, 21, 22, 23, 24, 25, 26, 27, 28, 29, 30, 31, 32, 33, 34] (by decide +kernel) (by decide +kernel)
set_option maxRecDepth 20000 in
theorem gX6_next_X6_finds : GoodIn wsX6_next (wsV RX6 129 RX6 yX6_finds wsX6_finds) := goodIn_app (goodIn_of _ (by decide +kernel)) ggX6_next_X6_finds
theorem dX6_next_0 : decode cX6_next 0 = .ok (.iconst (-1), 1) := by decide +kernel
theorem dX6_next_1 : decode cX6_next 1 = .ok (.istore_n 1, 1) := by decide +kernel
theorem dX6_next_2 : decode cX6_next 2 = .ok (.iconst 0, 1) := by decide +kernel
theorem dX6_next_3 : decode cX6_next 3 = .ok (.istore_n 2, 1) := by decide +kernel
theorem dX6_next_4 : decode cX6_next 4 = .ok (.iload_n 2, 1) := by decide +kernel
theorem dX6_next_5 : decode cX6_next 5 = .ok (.aload_n 0, 1) := by decide +kernel
theorem dX6_next_6 : decode cX6_next 6 = .ok (.getfield 123, 3) := by decide +kernel
theorem dX6_next_9 : decode cX6_next 9 = .ok (.if_icmp .ge 40, 3) := by decide +kernel
theorem dX6_next_12 : decode cX6_next 12 = .ok (.aload_n 0, 1) := by decide +kernel
theorem dX6_next_13 : decode cX6_next 13 = .ok (.iload_n 2, 1) := by decide +kernel
theorem dX6_next_14 : decode cX6_next 14 = .ok (.invokevirtual 129, 3) := by decide +kernel
theorem dX6_next_17 : decode cX6_next 17 = .ok (.istore_n 3, 1) := by decide +kernel
theorem dX6_next_18 : decode cX6_next 18 = .ok (.iload_n 3, 1) := by decide +kernel
theorem dX6_next_19 : decode cX6_next 19 = .ok (.iconst (-1), 1) := by decide +kernel
theorem dX6_next_20 : decode cX6_next 20 = .ok (.if_icmp .eq 21, 3) := by decide +kernel
theorem dX6_next_23 : decode cX6_next 23 = .ok (.iload_n 1, 1) := by decide +kernel
theorem dX6_next_24 : decode cX6_next 24 = .ok (.iconst (-1), 1) := by decide +kernel
theorem dX6_next_25 : decode cX6_next 25 = .ok (.if_icmp .eq 12, 3) := by decide +kernel
theorem dX6_next_28 : decode cX6_next 28 = .ok (.iload_n 3, 1) := by decide +kernel
theorem dX6_next_29 : decode cX6_next 29 = .ok (.aload_n 0, 1) := by decide +kernel
theorem dX6_next_30 : decode cX6_next 30 = .ok (.iload_n 1, 1) := by decide +kernel
theorem dX6_next_31 : decode cX6_next 31 = .ok (.invokevirtual 129, 3) := by decide +kernel
theorem dX6_next_34 : decode cX6_next 34 = .ok (.if_icmp .ge 7, 3) := by decide +kernel
theorem dX6_next_37 : decode cX6_next 37 = .ok (.iload_n 2, 1) := by decide +kernel
theorem dX6_next_38 : decode cX6_next 38 = .ok (.goto 4, 3) := by decide +kernel
theorem dX6_next_41 : decode cX6_next 41 = .ok (.iload_n 1, 1) := by decide +kernel
theorem dX6_next_42 : decode cX6_next 42 = .ok (.istore_n 1, 1) := by decide +kernel
theorem dX6_next_43 : decode cX6_next 43 = .ok (.iinc 2 1, 3) := by decide +kernel
theorem dX6_next_46 : decode cX6_next 46 = .ok (.goto (-42), 3) := by decide +kernel
theorem dX6_next_49 : decode cX6_next 49 = .ok (.iload_n 1, 1) := by decide +kernel
theorem dX6_next_50 : decode cX6_next 50 = .ok (.ireturn, 1) := by decide +kernel
set_option maxRecDepth 20000 in
theorem ggX6_findsAll_X6_next : GoodIn wsX6_findsAll wsX6_next := goodIn_r _ [10, 11, 12, 13, 14, 9, 15, 3, 4, 16, 1, 17, 18, 19, 20, 21, 22, 23, 24, 25, 26, 27, 28, 29, 30, 31, 32, 33, 34, 35, 36, 37, 38, 39, 40] (by decide +kernel) (by decide +kernel)
set_option maxRecDepth 20000 in
theorem gX6_findsAll_X6_next : GoodIn wsX6_findsAll (wsV RX6 133 RX6 yX6_next wsX6_next) := goodIn_app (goodIn_of _ (by decide +kernel)) ggX6_findsAll_X6_next
set_option maxRecDepth 20000 in
theorem ggX6_findsAll_X6_finds : GoodIn wsX6_findsAll wsX6_finds := goodIn_r _ [15, 3, 4, 16, 1, 17, 18, 19, 9, 20, 21, 22, 23, 24, 25, 26, 27, 28, 29, 30, 31, 32, 33, 34, 35, 36, 37, 38, 39, 40] (by decide +kernel) (by decide +kernel)
set_option maxRecDepth 20000 in
theorem gX6_findsAll_X6_finds : GoodIn wsX6_findsAll (wsV RX6 129 RX6 yX6_finds wsX6_finds) := goodIn_app (goodIn_of _ (by decide +kernel)) ggX6_findsAll_X6_finds
set_option maxRecDepth 20000 in
theorem ggX6_findsAll_X6_isFound : GoodIn wsX6_findsAll wsX6_isFound := goodIn_r _ [20, 1, 21, 22, 23, 24, 25, 26, 27, 28, 29, 30, 31, 32, 33, 34, 35, 36, 37, 38, 39, 40] (by decide +kernel) (by decide +kernel)
set_option maxRecDepth 20000 in
theorem gX6_findsAll_X6_isFound : GoodIn wsX6_findsAll (wsV RX6 126 RX6 yX6_isFound wsX6_isFound) := goodIn_app (goodIn_of _ (by decide +kernel)) ggX6_findsAll_X6_isFound
theorem dX6_findsAll_0 : decode cX6_findsAll 0 = .ok (.iconst 0, 1) := by decide +kernel
theorem dX6_findsAll_1 : decode cX6_findsAll 1 = .ok (.istore_n 1, 1) := by decide +kernel
theorem dX6_findsAll_2 : decode cX6_findsAll 2 = .ok (.iload_n 1, 1) := by decide +kernel
theorem dX6_findsAll_3 : decode cX6_findsAll 3 = .ok (.bipush 10, 2) := by decide +kernel
theorem dX6_findsAll_5 : decode cX6_findsAll 5 = .ok (.if_icmp .ge 31, 3) := by decide +kernel
theorem dX6_findsAll_8 : decode cX6_findsAll 8 = .ok (.aload_n 0, 1) := by decide +kernel
theorem dX6_findsAll_9 : decode cX6_findsAll 9 = .ok (.getfield 39, 3) := by decide +kernel
theorem dX6_findsAll_12 : decode cX6_findsAll 12 = .ok (.iload_n 1, 1) := by decide +kernel
theorem dX6_findsAll_13 : decode cX6_findsAll 13 = .ok (.iload_n 1, 1) := by decide +kernel
theorem dX6_findsAll_14 : decode cX6_findsAll 14 = .ok (.ifCond .ne 7, 3) := by decide +kernel
theorem dX6_findsAll_17 : decode cX6_findsAll 17 = .ok (.iconst 0, 1) := by decide +kernel
theorem dX6_findsAll_18 : decode cX6_findsAll 18 = .ok (.goto 4, 3) := by decide +kernel
theorem dX6_findsAll_21 : decode cX6_findsAll 21 = .ok (.iconst (-1), 1) := by decide +kernel
theorem dX6_findsAll_22 : decode cX6_findsAll 22 = .ok (.iastore, 1) := by decide +kernel
theorem dX6_findsAll_23 : decode cX6_findsAll 23 = .ok (.aload_n 0, 1) := by decide +kernel
theorem dX6_findsAll_24 : decode cX6_findsAll 24 = .ok (.getfield 42, 3) := by decide +kernel
theorem dX6_findsAll_27 : decode cX6_findsAll 27 = .ok (.iload_n 1, 1) := by decide +kernel
theorem dX6_findsAll_28 : decode cX6_findsAll 28 = .ok (.iconst 0, 1) := by decide +kernel
theorem dX6_findsAll_29 : decode cX6_findsAll 29 = .ok (.iastore, 1) := by decide +kernel
theorem dX6_findsAll_30 : decode cX6_findsAll 30 = .ok (.iinc 1 1, 3) := by decide +kernel
theorem dX6_findsAll_33 : decode cX6_findsAll 33 = .ok (.goto (-31), 3) := by decide +kernel
theorem dX6_findsAll_36 : decode cX6_findsAll 36 = .ok (.aload_n 0, 1) := by decide +kernel
theorem dX6_findsAll_37 : decode cX6_findsAll 37 = .ok (.invokevirtual 133, 3) := by decide +kernel
theorem dX6_findsAll_40 : decode cX6_findsAll 40 = .ok (.istore_n 1, 1) := by decide +kernel
theorem dX6_findsAll_41 : decode cX6_findsAll 41 = .ok (.iload_n 1, 1) := by decide +kernel
theorem dX6_findsAll_42 : decode cX6_findsAll 42 = .ok (.iconst (-1), 1) := by decide +kernel
theorem dX6_findsAll_43 : decode cX6_findsAll 43 = .ok (.if_icmp .eq 107, 3) := by decide +kernel
theorem dX6_findsAll_46 : decode cX6_findsAll 46 = .ok (.aload_n 0, 1) := by decide +kernel
theorem dX6_findsAll_47 : decode cX6_findsAll 47 = .ok (.iload_n 1, 1) := by decide +kernel
theorem dX6_findsAll_48 : decode cX6_findsAll 48 = .ok (.invokevirtual 129, 3) := by decide +kernel
theorem dX6_findsAll_51 : decode cX6_findsAll 51 = .ok (.istore_n 2, 1) := by decide +kernel
theorem dX6_findsAll_52 : decode cX6_findsAll 52 = .ok (.aload_n 0, 1) := by decide +kernel
theorem dX6_findsAll_53 : decode cX6_findsAll 53 = .ok (.aload_n 0, 1) := by decide +kernel
theorem dX6_findsAll_54 : decode cX6_findsAll 54 = .ok (.getfield 27, 3) := by decide +kernel
theorem dX6_findsAll_57 : decode cX6_findsAll 57 = .ok (.iload_n 1, 1) := by decide +kernel
theorem dX6_findsAll_58 : decode cX6_findsAll 58 = .ok (.iaload, 1) := by decide +kernel
theorem dX6_findsAll_59 : decode cX6_findsAll 59 = .ok (.invokevirtual 126, 3) := by decide +kernel
theorem dX6_findsAll_62 : decode cX6_findsAll 62 = .ok (.istore_n 3, 1) := by decide +kernel
theorem dX6_findsAll_63 : decode cX6_findsAll 63 = .ok (.iload_n 3, 1) := by decide +kernel
theorem dX6_findsAll_64 : decode cX6_findsAll 64 = .ok (.ifCond .eq 12, 3) := by decide +kernel
theorem dX6_findsAll_67 : decode cX6_findsAll 67 = .ok (.aload_n 0, 1) := by decide +kernel
theorem dX6_findsAll_68 : decode cX6_findsAll 68 = .ok (.getfield 30, 3) := by decide +kernel
theorem dX6_findsAll_71 : decode cX6_findsAll 71 = .ok (.iload_n 1, 1) := by decide +kernel
theorem dX6_findsAll_72 : decode cX6_findsAll 72 = .ok (.iaload, 1) := by decide +kernel
theorem dX6_findsAll_73 : decode cX6_findsAll 73 = .ok (.goto 9, 3) := by decide +kernel
theorem dX6_findsAll_76 : decode cX6_findsAll 76 = .ok (.aload_n 0, 1) := by decide +kernel
theorem dX6_findsAll_77 : decode cX6_findsAll 77 = .ok (.getfield 27, 3) := by decide +kernel
theorem dX6_findsAll_80 : decode cX6_findsAll 80 = .ok (.iload_n 1, 1) := by decide +kernel
theorem dX6_findsAll_81 : decode cX6_findsAll 81 = .ok (.iaload, 1) := by decide +kernel
theorem dX6_findsAll_82 : decode cX6_findsAll 82 = .ok (.istore 4, 2) := by decide +kernel
theorem dX6_findsAll_84 : decode cX6_findsAll 84 = .ok (.aload_n 0, 1) := by decide +kernel
theorem dX6_findsAll_85 : decode cX6_findsAll 85 = .ok (.getfield 42, 3) := by decide +kernel
theorem dX6_findsAll_88 : decode cX6_findsAll 88 = .ok (.iload 4, 2) := by decide +kernel
theorem dX6_findsAll_90 : decode cX6_findsAll 90 = .ok (.iload_n 3, 1) := by decide +kernel
theorem dX6_findsAll_91 : decode cX6_findsAll 91 = .ok (.ifCond .eq 24, 3) := by decide +kernel
theorem dX6_findsAll_94 : decode cX6_findsAll 94 = .ok (.aload_n 0, 1) := by decide +kernel
theorem dX6_findsAll_95 : decode cX6_findsAll 95 = .ok (.getfield 42, 3) := by decide +kernel
theorem dX6_findsAll_98 : decode cX6_findsAll 98 = .ok (.aload_n 0, 1) := by decide +kernel
theorem dX6_findsAll_99 : decode cX6_findsAll 99 = .ok (.getfield 27, 3) := by decide +kernel
theorem dX6_findsAll_102 : decode cX6_findsAll 102 = .ok (.iload_n 1, 1) := by decide +kernel
theorem dX6_findsAll_103 : decode cX6_findsAll 103 = .ok (.iaload, 1) := by decide +kernel
theorem dX6_findsAll_104 : decode cX6_findsAll 104 = .ok (.iaload, 1) := by decide +kernel
theorem dX6_findsAll_105 : decode cX6_findsAll 105 = .ok (.aload_n 0, 1) := by decide +kernel
theorem dX6_findsAll_106 : decode cX6_findsAll 106 = .ok (.getfield 33, 3) := by decide +kernel
theorem dX6_findsAll_109 : decode cX6_findsAll 109 = .ok (.iload_n 1, 1) := by decide +kernel
theorem dX6_findsAll_110 : decode cX6_findsAll 110 = .ok (.iaload, 1) := by decide +kernel
theorem dX6_findsAll_111 : decode cX6_findsAll 111 = .ok (.iadd, 1) := by decide +kernel
theorem dX6_findsAll_112 : decode cX6_findsAll 112 = .ok (.goto 21, 3) := by decide +kernel
theorem dX6_findsAll_115 : decode cX6_findsAll 115 = .ok (.aload_n 0, 1) := by decide +kernel
theorem dX6_findsAll_116 : decode cX6_findsAll 116 = .ok (.getfield 42, 3) := by decide +kernel
theorem dX6_findsAll_119 : decode cX6_findsAll 119 = .ok (.aload_n 0, 1) := by decide +kernel
theorem dX6_findsAll_120 : decode cX6_findsAll 120 = .ok (.getfield 30, 3) := by decide +kernel
theorem dX6_findsAll_123 : decode cX6_findsAll 123 = .ok (.iload_n 1, 1) := by decide +kernel
theorem dX6_findsAll_124 : decode cX6_findsAll 124 = .ok (.iaload, 1) := by decide +kernel
theorem dX6_findsAll_125 : decode cX6_findsAll 125 = .ok (.iaload, 1) := by decide +kernel
theorem dX6_findsAll_126 : decode cX6_findsAll 126 = .ok (.aload_n 0, 1) := by decide +kernel
theorem dX6_findsAll_127 : decode cX6_findsAll 127 = .ok (.getfield 33, 3) := by decide +kernel
theorem dX6_findsAll_130 : decode cX6_findsAll 130 = .ok (.iload_n 1, 1) := by decide +kernel
theorem dX6_findsAll_131 : decode cX6_findsAll 131 = .ok (.iaload, 1) := by decide +kernel
theorem dX6_findsAll_132 : decode cX6_findsAll 132 = .ok (.isub, 1) := by decide +kernel
theorem dX6_findsAll_133 : decode cX6_findsAll 133 = .ok (.iastore, 1) := by decide +kernel
theorem dX6_findsAll_134 : decode cX6_findsAll 134 = .ok (.aload_n 0, 1) := by decide +kernel
theorem dX6_findsAll_135 : decode cX6_findsAll 135 = .ok (.getfield 39, 3) := by decide +kernel
theorem dX6_findsAll_138 : decode cX6_findsAll 138 = .ok (.iload 4, 2) := by decide +kernel
theorem dX6_findsAll_140 : decode cX6_findsAll 140 = .ok (.iload_n 2, 1) := by decide +kernel
theorem dX6_findsAll_141 : decode cX6_findsAll 141 = .ok (.iastore, 1) := by decide +kernel
theorem dX6_findsAll_142 : decode cX6_findsAll 142 = .ok (.aload_n 0, 1) := by decide +kernel
theorem dX6_findsAll_143 : decode cX6_findsAll 143 = .ok (.invokevirtual 133, 3) := by decide +kernel
theorem dX6_findsAll_146 : decode cX6_findsAll 146 = .ok (.istore_n 1, 1) := by decide +kernel
theorem dX6_findsAll_147 : decode cX6_findsAll 147 = .ok (.goto (-106), 3) := by decide +kernel
theorem dX6_findsAll_150 : decode cX6_findsAll 150 = .ok (.return_, 1) := by decide +kernel
set_option maxRecDepth 20000 in
theorem ggX6_height_X6_isBenchmark : GoodIn wsX6_height wsX6_isBenchmark := goodIn_r _ [6, 7, 8, 9, 5, 10, 38, 39, 40, 41, 42, 43, 44, 45, 46, 47, 48, 49, 50, 51, 52, 53, 54, 55, 56, 57] (by decide +kernel) (by decide +kernel)
set_option maxRecDepth 20000 in
theorem gX6_height_X6_isBenchmark : GoodIn wsX6_height (wsV RX6 118 RX6 yX6_isBenchmark wsX6_isBenchmark) := goodIn_app (goodIn_of _ (by decide +kernel)) ggX6_height_X6_isBenchmark
set_option maxRecDepth 20000 in
theorem ggX6_height_X6_findsAll : GoodIn wsX6_height wsX6_findsAll := goodIn_r _ [14, 15, 1, 16, 17, 18, 19, 20, 21, 5, 22, 23, 24, 25, 26, 27, 28, 29, 30, 31, 32, 38, 39, 40, 41, 42, 43, 44, 45, 46, 47, 48, 49, 50, 51, 52, 53, 54, 55, 56, 57] (by decide +kernel) (by decide +kernel)
set_option maxRecDepth 20000 in
theorem gX6_height_X6_findsAll : GoodIn wsX6_height (wsV RX6 137 RX6 yX6_findsAll wsX6_findsAll) := goodIn_app (goodIn_of _ (by decide +kernel)) ggX6_height_X6_findsAll
set_option maxRecDepth 20000 in
theorem ggX6_height_X6_isFound : GoodIn wsX6_height wsX6_isFound := goodIn_r _ [32, 15, 38, 39, 40, 41, 42, 43, 44, 45, 46, 47, 48, 49, 50, 51, 52, 53, 54, 55, 56, 57] (by decide +kernel) (by decide +kernel)
set_option maxRecDepth 20000 in
theorem gX6_height_X6_isFound : GoodIn wsX6_height (wsV RX6 126 RX6 yX6_isFound wsX6_isFound) := goodIn_app (goodIn_of _ (by decide +kernel)) ggX6_height_X6_isFound
set_option maxRecDepth 20000 in
theorem ggX6_height_X6_holds : GoodIn wsX6_height wsX6_holds := goodIn_r _ [36, 37, 38, 39, 40, 41, 42, 43, 44, 45, 46, 47, 48, 49, 50, 51, 52, 53, 54, 55, 56, 57] (by decide +kernel) (by decide +kernel)
set_option maxRecDepth 20000 in
theorem gX6_height_X6_holds : GoodIn wsX6_height (wsV RX6 80 RX6 yX6_holds wsX6_holds) := goodIn_app (goodIn_of _ (by decide +kernel)) ggX6_height_X6_holds
theorem dX6_height_0 : decode cX6_height 0 = .ok (.aload_n 0, 1) := by decide +kernel
theorem dX6_height_1 : decode cX6_height 1 = .ok (.iload_n 1, 1) := by decide +kernel
theorem dX6_height_2 : decode cX6_height 2 = .ok (.invokevirtual 118, 3) := by decide +kernel
theorem dX6_height_5 : decode cX6_height 5 = .ok (.istore_n 2, 1) := by decide +kernel
theorem dX6_height_6 : decode cX6_height 6 = .ok (.aload_n 0, 1) := by decide +kernel
theorem dX6_height_7 : decode cX6_height 7 = .ok (.invokevirtual 137, 3) := by decide +kernel
theorem dX6_height_10 : decode cX6_height 10 = .ok (.aload_n 0, 1) := by decide +kernel
