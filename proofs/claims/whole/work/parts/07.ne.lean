theorem dX0_init_0 : decode cX0_init 0 = .ok (.aload_n 0, 1) := by decide +kernel
theorem dX0_init_1 : decode cX0_init 1 = .ok (.invokespecial 3, 3) := by decide +kernel
theorem dX0_init_4 : decode cX0_init 4 = .ok (.aload_n 0, 1) := by decide +kernel
theorem dX0_init_5 : decode cX0_init 5 = .ok (.sipush 768, 3) := by decide +kernel
theorem dX0_init_8 : decode cX0_init 8 = .ok (.newarray .long, 2) := by decide +kernel
theorem dX0_init_10 : decode cX0_init 10 = .ok (.putfield 9, 3) := by decide +kernel
theorem dX0_init_13 : decode cX0_init 13 = .ok (.aload_n 0, 1) := by decide +kernel
theorem dX0_init_14 : decode cX0_init 14 = .ok (.bipush 12, 2) := by decide +kernel
theorem dX0_init_16 : decode cX0_init 16 = .ok (.newarray .int, 2) := by decide +kernel
theorem dX0_init_18 : decode cX0_init 18 = .ok (.putfield 15, 3) := by decide +kernel
theorem dX0_init_21 : decode cX0_init 21 = .ok (.aload_n 0, 1) := by decide +kernel
theorem dX0_init_22 : decode cX0_init 22 = .ok (.iconst 0, 1) := by decide +kernel
theorem dX0_init_23 : decode cX0_init 23 = .ok (.putfield 19, 3) := by decide +kernel
theorem dX0_init_26 : decode cX0_init 26 = .ok (.return_, 1) := by decide +kernel
theorem dX0_keep_0 : decode cX0_keep 0 = .ok (.aload_n 1, 1) := by decide +kernel
theorem dX0_keep_1 : decode cX0_keep 1 = .ok (.iconst 0, 1) := by decide +kernel
theorem dX0_keep_2 : decode cX0_keep 2 = .ok (.aload_n 0, 1) := by decide +kernel
theorem dX0_keep_3 : decode cX0_keep 3 = .ok (.getfield 9, 3) := by decide +kernel
theorem dX0_keep_6 : decode cX0_keep 6 = .ok (.aload_n 0, 1) := by decide +kernel
theorem dX0_keep_7 : decode cX0_keep 7 = .ok (.getfield 19, 3) := by decide +kernel
theorem dX0_keep_10 : decode cX0_keep 10 = .ok (.bipush 64, 2) := by decide +kernel
theorem dX0_keep_12 : decode cX0_keep 12 = .ok (.imul, 1) := by decide +kernel
theorem dX0_keep_13 : decode cX0_keep 13 = .ok (.bipush 64, 2) := by decide +kernel
theorem dX0_keep_15 : decode cX0_keep 15 = .ok (.invokestatic 23, 3) := by decide +kernel
theorem dX0_keep_18 : decode cX0_keep 18 = .ok (.aload_n 0, 1) := by decide +kernel
theorem dX0_keep_19 : decode cX0_keep 19 = .ok (.getfield 15, 3) := by decide +kernel
theorem dX0_keep_22 : decode cX0_keep 22 = .ok (.aload_n 0, 1) := by decide +kernel
theorem dX0_keep_23 : decode cX0_keep 23 = .ok (.getfield 19, 3) := by decide +kernel
theorem dX0_keep_26 : decode cX0_keep 26 = .ok (.iload_n 2, 1) := by decide +kernel
theorem dX0_keep_27 : decode cX0_keep 27 = .ok (.iastore, 1) := by decide +kernel
theorem dX0_keep_28 : decode cX0_keep 28 = .ok (.aload_n 0, 1) := by decide +kernel
theorem dX0_keep_29 : decode cX0_keep 29 = .ok (.dup, 1) := by decide +kernel
theorem dX0_keep_30 : decode cX0_keep 30 = .ok (.getfield 19, 3) := by decide +kernel
theorem dX0_keep_33 : decode cX0_keep 33 = .ok (.iconst 1, 1) := by decide +kernel
theorem dX0_keep_34 : decode cX0_keep 34 = .ok (.iadd, 1) := by decide +kernel
theorem dX0_keep_35 : decode cX0_keep 35 = .ok (.putfield 19, 3) := by decide +kernel
theorem dX0_keep_38 : decode cX0_keep 38 = .ok (.aload_n 0, 1) := by decide +kernel
theorem dX0_keep_39 : decode cX0_keep 39 = .ok (.getfield 19, 3) := by decide +kernel
theorem dX0_keep_42 : decode cX0_keep 42 = .ok (.iconst 1, 1) := by decide +kernel
theorem dX0_keep_43 : decode cX0_keep 43 = .ok (.isub, 1) := by decide +kernel
theorem dX0_keep_44 : decode cX0_keep 44 = .ok (.ireturn, 1) := by decide +kernel
set_option maxRecDepth 20000 in
theorem ggX0_trendFrom_X5_cellNumber : GoodIn wsX0_trendFrom wsX5_cellNumber := goodIn_r _ [5] (by decide +kernel) (by decide +kernel)
set_option maxRecDepth 20000 in
theorem gX0_trendFrom_X5_cellNumber_n29 : GoodIn wsX0_trendFrom (wsX5_cellNumber) := ggX0_trendFrom_X5_cellNumber
set_option maxRecDepth 20000 in
theorem ggX0_trendFrom_J9_floorDiv_f86c9 : GoodIn wsX0_trendFrom wsJ9_floorDiv_f86c9 := goodIn_r _ [9] (by decide +kernel) (by decide +kernel)
set_option maxRecDepth 20000 in
theorem gX0_trendFrom_J9_floorDiv_f86c9 : GoodIn wsX0_trendFrom (va_wsS RX0 33 yJ9_floorDiv_f86c9 wsJ9_floorDiv_f86c9) := goodIn_app (goodIn_of _ (by decide +kernel)) ggX0_trendFrom_J9_floorDiv_f86c9
theorem dX0_trendFrom_0 : decode cX0_trendFrom 0 = .ok (.aload_n 0, 1) := by decide +kernel
theorem dX0_trendFrom_1 : decode cX0_trendFrom 1 = .ok (.getfield 15, 3) := by decide +kernel
theorem dX0_trendFrom_4 : decode cX0_trendFrom 4 = .ok (.iload_n 2, 1) := by decide +kernel
theorem dX0_trendFrom_5 : decode cX0_trendFrom 5 = .ok (.iaload, 1) := by decide +kernel
theorem dX0_trendFrom_6 : decode cX0_trendFrom 6 = .ok (.aload_n 0, 1) := by decide +kernel
theorem dX0_trendFrom_7 : decode cX0_trendFrom 7 = .ok (.getfield 15, 3) := by decide +kernel
theorem dX0_trendFrom_10 : decode cX0_trendFrom 10 = .ok (.iload_n 1, 1) := by decide +kernel
theorem dX0_trendFrom_11 : decode cX0_trendFrom 11 = .ok (.iaload, 1) := by decide +kernel
theorem dX0_trendFrom_12 : decode cX0_trendFrom 12 = .ok (.isub, 1) := by decide +kernel
theorem dX0_trendFrom_13 : decode cX0_trendFrom 13 = .ok (.istore 5, 2) := by decide +kernel
theorem dX0_trendFrom_15 : decode cX0_trendFrom 15 = .ok (.iload_n 3, 1) := by decide +kernel
theorem dX0_trendFrom_16 : decode cX0_trendFrom 16 = .ok (.iload 4, 2) := by decide +kernel
theorem dX0_trendFrom_18 : decode cX0_trendFrom 18 = .ok (.invokestatic 29, 3) := by decide +kernel
theorem dX0_trendFrom_21 : decode cX0_trendFrom 21 = .ok (.istore 6, 2) := by decide +kernel
theorem dX0_trendFrom_23 : decode cX0_trendFrom 23 = .ok (.aload_n 0, 1) := by decide +kernel
theorem dX0_trendFrom_24 : decode cX0_trendFrom 24 = .ok (.getfield 9, 3) := by decide +kernel
theorem dX0_trendFrom_27 : decode cX0_trendFrom 27 = .ok (.iload_n 2, 1) := by decide +kernel
theorem dX0_trendFrom_28 : decode cX0_trendFrom 28 = .ok (.bipush 64, 2) := by decide +kernel
theorem dX0_trendFrom_30 : decode cX0_trendFrom 30 = .ok (.imul, 1) := by decide +kernel
theorem dX0_trendFrom_31 : decode cX0_trendFrom 31 = .ok (.iload 6, 2) := by decide +kernel
theorem dX0_trendFrom_33 : decode cX0_trendFrom 33 = .ok (.iadd, 1) := by decide +kernel
theorem dX0_trendFrom_34 : decode cX0_trendFrom 34 = .ok (.laload, 1) := by decide +kernel
theorem dX0_trendFrom_35 : decode cX0_trendFrom 35 = .ok (.aload_n 0, 1) := by decide +kernel
theorem dX0_trendFrom_36 : decode cX0_trendFrom 36 = .ok (.getfield 9, 3) := by decide +kernel
theorem dX0_trendFrom_39 : decode cX0_trendFrom 39 = .ok (.iload_n 1, 1) := by decide +kernel
theorem dX0_trendFrom_40 : decode cX0_trendFrom 40 = .ok (.bipush 64, 2) := by decide +kernel
theorem dX0_trendFrom_42 : decode cX0_trendFrom 42 = .ok (.imul, 1) := by decide +kernel
theorem dX0_trendFrom_43 : decode cX0_trendFrom 43 = .ok (.iload 6, 2) := by decide +kernel
theorem dX0_trendFrom_45 : decode cX0_trendFrom 45 = .ok (.iadd, 1) := by decide +kernel
theorem dX0_trendFrom_46 : decode cX0_trendFrom 46 = .ok (.laload, 1) := by decide +kernel
theorem dX0_trendFrom_47 : decode cX0_trendFrom 47 = .ok (.lsub, 1) := by decide +kernel
theorem dX0_trendFrom_48 : decode cX0_trendFrom 48 = .ok (.lstore 7, 2) := by decide +kernel
theorem dX0_trendFrom_50 : decode cX0_trendFrom 50 = .ok (.iload 5, 2) := by decide +kernel
theorem dX0_trendFrom_52 : decode cX0_trendFrom 52 = .ok (.iconst 1, 1) := by decide +kernel
theorem dX0_trendFrom_53 : decode cX0_trendFrom 53 = .ok (.if_icmp .ge 7, 3) := by decide +kernel
theorem dX0_trendFrom_56 : decode cX0_trendFrom 56 = .ok (.lconst 0, 1) := by decide +kernel
theorem dX0_trendFrom_57 : decode cX0_trendFrom 57 = .ok (.goto 11, 3) := by decide +kernel
theorem dX0_trendFrom_60 : decode cX0_trendFrom 60 = .ok (.lload 7, 2) := by decide +kernel
theorem dX0_trendFrom_62 : decode cX0_trendFrom 62 = .ok (.iload 5, 2) := by decide +kernel
theorem dX0_trendFrom_64 : decode cX0_trendFrom 64 = .ok (.i2l, 1) := by decide +kernel
theorem dX0_trendFrom_65 : decode cX0_trendFrom 65 = .ok (.invokestatic 33, 3) := by decide +kernel
theorem dX0_trendFrom_68 : decode cX0_trendFrom 68 = .ok (.lreturn, 1) := by decide +kernel
theorem dX1_init_0 : decode cX1_init 0 = .ok (.aload_n 0, 1) := by decide +kernel
theorem dX1_init_1 : decode cX1_init 1 = .ok (.invokespecial 3, 3) := by decide +kernel
theorem dX1_init_4 : decode cX1_init 4 = .ok (.aload_n 0, 1) := by decide +kernel
theorem dX1_init_5 : decode cX1_init 5 = .ok (.sipush 192, 3) := by decide +kernel
theorem dX1_init_8 : decode cX1_init 8 = .ok (.newarray .long, 2) := by decide +kernel
theorem dX1_init_10 : decode cX1_init 10 = .ok (.putfield 9, 3) := by decide +kernel
theorem dX1_init_13 : decode cX1_init 13 = .ok (.aload_n 0, 1) := by decide +kernel
theorem dX1_init_14 : decode cX1_init 14 = .ok (.bipush 64, 2) := by decide +kernel
theorem dX1_init_16 : decode cX1_init 16 = .ok (.newarray .long, 2) := by decide +kernel
theorem dX1_init_18 : decode cX1_init 18 = .ok (.putfield 15, 3) := by decide +kernel
theorem dX1_init_21 : decode cX1_init 21 = .ok (.aload_n 0, 1) := by decide +kernel
theorem dX1_init_22 : decode cX1_init 22 = .ok (.bipush 64, 2) := by decide +kernel
theorem dX1_init_24 : decode cX1_init 24 = .ok (.newarray .long, 2) := by decide +kernel
theorem dX1_init_26 : decode cX1_init 26 = .ok (.putfield 18, 3) := by decide +kernel
theorem dX1_init_29 : decode cX1_init 29 = .ok (.return_, 1) := by decide +kernel
set_option maxRecDepth 20000 in
theorem ggX1_putMass_X5_cellNumber : GoodIn wsX1_putMass wsX5_cellNumber := goodIn_r _ [4] (by decide +kernel) (by decide +kernel)
set_option maxRecDepth 20000 in
theorem gX1_putMass_X5_cellNumber_n21 : GoodIn wsX1_putMass (wsX5_cellNumber) := ggX1_putMass_X5_cellNumber
set_option maxRecDepth 20000 in
theorem ggX1_putMass_X1_changePulls : GoodIn wsX1_putMass wsX1_changePulls := goodIn_r _ [9, 10, 11, 12, 8, 13, 2, 3, 4, 14, 15, 16, 17, 18, 19, 20] (by decide +kernel) (by decide +kernel)
set_option maxRecDepth 20000 in
theorem gX1_putMass_X1_changePulls : GoodIn wsX1_putMass (wsV RX1 25 RX1 yX1_changePulls wsX1_changePulls) := goodIn_app (goodIn_of _ (by decide +kernel)) ggX1_putMass_X1_changePulls
theorem dX1_putMass_0 : decode cX1_putMass 0 = .ok (.iload_n 3, 1) := by decide +kernel
theorem dX1_putMass_1 : decode cX1_putMass 1 = .ok (.bipush 64, 2) := by decide +kernel
theorem dX1_putMass_3 : decode cX1_putMass 3 = .ok (.imul, 1) := by decide +kernel
theorem dX1_putMass_4 : decode cX1_putMass 4 = .ok (.iload_n 1, 1) := by decide +kernel
theorem dX1_putMass_5 : decode cX1_putMass 5 = .ok (.iload_n 2, 1) := by decide +kernel
theorem dX1_putMass_6 : decode cX1_putMass 6 = .ok (.invokestatic 21, 3) := by decide +kernel
theorem dX1_putMass_9 : decode cX1_putMass 9 = .ok (.iadd, 1) := by decide +kernel
theorem dX1_putMass_10 : decode cX1_putMass 10 = .ok (.istore 6, 2) := by decide +kernel
theorem dX1_putMass_12 : decode cX1_putMass 12 = .ok (.aload_n 0, 1) := by decide +kernel
theorem dX1_putMass_13 : decode cX1_putMass 13 = .ok (.getfield 9, 3) := by decide +kernel
theorem dX1_putMass_16 : decode cX1_putMass 16 = .ok (.iload 6, 2) := by decide +kernel
theorem dX1_putMass_18 : decode cX1_putMass 18 = .ok (.laload, 1) := by decide +kernel
theorem dX1_putMass_19 : decode cX1_putMass 19 = .ok (.lstore 7, 2) := by decide +kernel
theorem dX1_putMass_21 : decode cX1_putMass 21 = .ok (.aload_n 0, 1) := by decide +kernel
theorem dX1_putMass_22 : decode cX1_putMass 22 = .ok (.getfield 9, 3) := by decide +kernel
theorem dX1_putMass_25 : decode cX1_putMass 25 = .ok (.iload 6, 2) := by decide +kernel
theorem dX1_putMass_27 : decode cX1_putMass 27 = .ok (.lload 4, 2) := by decide +kernel
theorem dX1_putMass_29 : decode cX1_putMass 29 = .ok (.lastore, 1) := by decide +kernel
theorem dX1_putMass_30 : decode cX1_putMass 30 = .ok (.aload_n 0, 1) := by decide +kernel
theorem dX1_putMass_31 : decode cX1_putMass 31 = .ok (.iload_n 1, 1) := by decide +kernel
theorem dX1_putMass_32 : decode cX1_putMass 32 = .ok (.iload_n 2, 1) := by decide +kernel
theorem dX1_putMass_33 : decode cX1_putMass 33 = .ok (.iload_n 3, 1) := by decide +kernel
theorem dX1_putMass_34 : decode cX1_putMass 34 = .ok (.lload 7, 2) := by decide +kernel
theorem dX1_putMass_36 : decode cX1_putMass 36 = .ok (.lload 4, 2) := by decide +kernel
theorem dX1_putMass_38 : decode cX1_putMass 38 = .ok (.invokevirtual 25, 3) := by decide +kernel
theorem dX1_putMass_41 : decode cX1_putMass 41 = .ok (.lload 7, 2) := by decide +kernel
theorem dX1_putMass_43 : decode cX1_putMass 43 = .ok (.lreturn, 1) := by decide +kernel
set_option maxRecDepth 20000 in
theorem ggX1_putWater_X5_cellNumber : GoodIn wsX1_putWater wsX5_cellNumber := goodIn_r _ [4] (by decide +kernel) (by decide +kernel)
set_option maxRecDepth 20000 in
theorem gX1_putWater_X5_cellNumber_n21 : GoodIn wsX1_putWater (wsX5_cellNumber) := ggX1_putWater_X5_cellNumber
set_option maxRecDepth 20000 in
theorem ggX1_putWater_X1_changePulls : GoodIn wsX1_putWater wsX1_changePulls := goodIn_r _ [9, 10, 11, 12, 8, 13, 2, 3, 4, 14, 15, 16, 17, 18, 19, 20] (by decide +kernel) (by decide +kernel)
set_option maxRecDepth 20000 in
theorem gX1_putWater_X1_changePulls : GoodIn wsX1_putWater (wsV RX1 25 RX1 yX1_changePulls wsX1_changePulls) := goodIn_app (goodIn_of _ (by decide +kernel)) ggX1_putWater_X1_changePulls
theorem dX1_putWater_0 : decode cX1_putWater 0 = .ok (.iload_n 1, 1) := by decide +kernel
theorem dX1_putWater_1 : decode cX1_putWater 1 = .ok (.iload_n 2, 1) := by decide +kernel
theorem dX1_putWater_2 : decode cX1_putWater 2 = .ok (.invokestatic 21, 3) := by decide +kernel
theorem dX1_putWater_5 : decode cX1_putWater 5 = .ok (.istore 5, 2) := by decide +kernel
theorem dX1_putWater_7 : decode cX1_putWater 7 = .ok (.aload_n 0, 1) := by decide +kernel
theorem dX1_putWater_8 : decode cX1_putWater 8 = .ok (.getfield 15, 3) := by decide +kernel
theorem dX1_putWater_11 : decode cX1_putWater 11 = .ok (.iload 5, 2) := by decide +kernel
theorem dX1_putWater_13 : decode cX1_putWater 13 = .ok (.laload, 1) := by decide +kernel
theorem dX1_putWater_14 : decode cX1_putWater 14 = .ok (.lstore 6, 2) := by decide +kernel
theorem dX1_putWater_16 : decode cX1_putWater 16 = .ok (.aload_n 0, 1) := by decide +kernel
theorem dX1_putWater_17 : decode cX1_putWater 17 = .ok (.getfield 15, 3) := by decide +kernel
theorem dX1_putWater_20 : decode cX1_putWater 20 = .ok (.iload 5, 2) := by decide +kernel
theorem dX1_putWater_22 : decode cX1_putWater 22 = .ok (.lload_n 3, 1) := by decide +kernel
theorem dX1_putWater_23 : decode cX1_putWater 23 = .ok (.lastore, 1) := by decide +kernel
theorem dX1_putWater_24 : decode cX1_putWater 24 = .ok (.aload_n 0, 1) := by decide +kernel
theorem dX1_putWater_25 : decode cX1_putWater 25 = .ok (.iload_n 1, 1) := by decide +kernel
theorem dX1_putWater_26 : decode cX1_putWater 26 = .ok (.iload_n 2, 1) := by decide +kernel
theorem dX1_putWater_27 : decode cX1_putWater 27 = .ok (.iconst 0, 1) := by decide +kernel
theorem dX1_putWater_28 : decode cX1_putWater 28 = .ok (.lload 6, 2) := by decide +kernel
theorem dX1_putWater_30 : decode cX1_putWater 30 = .ok (.lload_n 3, 1) := by decide +kernel
theorem dX1_putWater_31 : decode cX1_putWater 31 = .ok (.invokevirtual 25, 3) := by decide +kernel
theorem dX1_putWater_34 : decode cX1_putWater 34 = .ok (.lload 6, 2) := by decide +kernel
theorem dX1_putWater_36 : decode cX1_putWater 36 = .ok (.lreturn, 1) := by decide +kernel
set_option maxRecDepth 20000 in
theorem ggX1_changePulls_X1_squareOf : GoodIn wsX1_changePulls wsX1_squareOf := goodIn_r _ [5] (by decide +kernel) (by decide +kernel)
set_option maxRecDepth 20000 in
theorem gX1_changePulls_X1_squareOf : GoodIn wsX1_changePulls (va_wsS RX1 29 yX1_squareOf wsX1_squareOf) := goodIn_app (goodIn_of _ (by decide +kernel)) ggX1_changePulls_X1_squareOf
set_option maxRecDepth 20000 in
theorem ggX1_changePulls_X5_cellNumber : GoodIn wsX1_changePulls wsX5_cellNumber := goodIn_r _ [8] (by decide +kernel) (by decide +kernel)
set_option maxRecDepth 20000 in
theorem gX1_changePulls_X5_cellNumber_n21 : GoodIn wsX1_changePulls (wsX5_cellNumber) := ggX1_changePulls_X5_cellNumber
set_option maxRecDepth 20000 in
theorem ggX1_changePulls_X1_pullOf : GoodIn wsX1_changePulls wsX1_pullOf := goodIn_r _ [11, 12] (by decide +kernel) (by decide +kernel)
set_option maxRecDepth 20000 in
theorem gX1_changePulls_X1_pullOf : GoodIn wsX1_changePulls (va_wsS RX1 33 yX1_pullOf wsX1_pullOf) := goodIn_app (goodIn_of _ (by decide +kernel)) ggX1_changePulls_X1_pullOf
theorem dX1_changePulls_0 : decode cX1_changePulls 0 = .ok (.iconst 0, 1) := by decide +kernel
theorem dX1_changePulls_1 : decode cX1_changePulls 1 = .ok (.istore 8, 2) := by decide +kernel
theorem dX1_changePulls_3 : decode cX1_changePulls 3 = .ok (.iload 8, 2) := by decide +kernel
theorem dX1_changePulls_5 : decode cX1_changePulls 5 = .ok (.bipush 8, 2) := by decide +kernel
theorem dX1_changePulls_7 : decode cX1_changePulls 7 = .ok (.if_icmp .ge 69, 3) := by decide +kernel
theorem dX1_changePulls_10 : decode cX1_changePulls 10 = .ok (.iconst 0, 1) := by decide +kernel
theorem dX1_changePulls_11 : decode cX1_changePulls 11 = .ok (.istore 9, 2) := by decide +kernel
theorem dX1_changePulls_13 : decode cX1_changePulls 13 = .ok (.iload 9, 2) := by decide +kernel
theorem dX1_changePulls_15 : decode cX1_changePulls 15 = .ok (.bipush 8, 2) := by decide +kernel
theorem dX1_changePulls_17 : decode cX1_changePulls 17 = .ok (.if_icmp .ge 53, 3) := by decide +kernel
theorem dX1_changePulls_20 : decode cX1_changePulls 20 = .ok (.iload 9, 2) := by decide +kernel
theorem dX1_changePulls_22 : decode cX1_changePulls 22 = .ok (.iload_n 1, 1) := by decide +kernel
theorem dX1_changePulls_23 : decode cX1_changePulls 23 = .ok (.isub, 1) := by decide +kernel
theorem dX1_changePulls_24 : decode cX1_changePulls 24 = .ok (.iload 8, 2) := by decide +kernel
theorem dX1_changePulls_26 : decode cX1_changePulls 26 = .ok (.iload_n 2, 1) := by decide +kernel
theorem dX1_changePulls_27 : decode cX1_changePulls 27 = .ok (.isub, 1) := by decide +kernel
theorem dX1_changePulls_28 : decode cX1_changePulls 28 = .ok (.iload_n 3, 1) := by decide +kernel
theorem dX1_changePulls_29 : decode cX1_changePulls 29 = .ok (.invokestatic 29, 3) := by decide +kernel
theorem dX1_changePulls_32 : decode cX1_changePulls 32 = .ok (.lstore 10, 2) := by decide +kernel
theorem dX1_changePulls_34 : decode cX1_changePulls 34 = .ok (.aload_n 0, 1) := by decide +kernel
theorem dX1_changePulls_35 : decode cX1_changePulls 35 = .ok (.getfield 18, 3) := by decide +kernel
theorem dX1_changePulls_38 : decode cX1_changePulls 38 = .ok (.iload 9, 2) := by decide +kernel
theorem dX1_changePulls_40 : decode cX1_changePulls 40 = .ok (.iload 8, 2) := by decide +kernel
theorem dX1_changePulls_42 : decode cX1_changePulls 42 = .ok (.invokestatic 21, 3) := by decide +kernel
theorem dX1_changePulls_45 : decode cX1_changePulls 45 = .ok (.dup2, 1) := by decide +kernel
theorem dX1_changePulls_46 : decode cX1_changePulls 46 = .ok (.laload, 1) := by decide +kernel
theorem dX1_changePulls_47 : decode cX1_changePulls 47 = .ok (.lload 6, 2) := by decide +kernel
theorem dX1_changePulls_49 : decode cX1_changePulls 49 = .ok (.lload 10, 2) := by decide +kernel
theorem dX1_changePulls_51 : decode cX1_changePulls 51 = .ok (.invokestatic 33, 3) := by decide +kernel
theorem dX1_changePulls_54 : decode cX1_changePulls 54 = .ok (.lload 4, 2) := by decide +kernel
theorem dX1_changePulls_56 : decode cX1_changePulls 56 = .ok (.lload 10, 2) := by decide +kernel
theorem dX1_changePulls_58 : decode cX1_changePulls 58 = .ok (.invokestatic 33, 3) := by decide +kernel
theorem dX1_changePulls_61 : decode cX1_changePulls 61 = .ok (.lsub, 1) := by decide +kernel
theorem dX1_changePulls_62 : decode cX1_changePulls 62 = .ok (.ladd, 1) := by decide +kernel
theorem dX1_changePulls_63 : decode cX1_changePulls 63 = .ok (.lastore, 1) := by decide +kernel
theorem dX1_changePulls_64 : decode cX1_changePulls 64 = .ok (.iinc 9 1, 3) := by decide +kernel
theorem dX1_changePulls_67 : decode cX1_changePulls 67 = .ok (.goto (-54), 3) := by decide +kernel
theorem dX1_changePulls_70 : decode cX1_changePulls 70 = .ok (.iinc 8 1, 3) := by decide +kernel
theorem dX1_changePulls_73 : decode cX1_changePulls 73 = .ok (.goto (-70), 3) := by decide +kernel
theorem dX1_changePulls_76 : decode cX1_changePulls 76 = .ok (.return_, 1) := by decide +kernel
set_option maxRecDepth 20000 in
theorem ggX1_keptPull_X5_cellNumber : GoodIn wsX1_keptPull wsX5_cellNumber := goodIn_r _ [4] (by decide +kernel) (by decide +kernel)
set_option maxRecDepth 20000 in
theorem gX1_keptPull_X5_cellNumber_n21 : GoodIn wsX1_keptPull (wsX5_cellNumber) := ggX1_keptPull_X5_cellNumber
theorem dX1_keptPull_0 : decode cX1_keptPull 0 = .ok (.aload_n 0, 1) := by decide +kernel
theorem dX1_keptPull_1 : decode cX1_keptPull 1 = .ok (.getfield 18, 3) := by decide +kernel
theorem dX1_keptPull_4 : decode cX1_keptPull 4 = .ok (.iload_n 1, 1) := by decide +kernel
theorem dX1_keptPull_5 : decode cX1_keptPull 5 = .ok (.iload_n 2, 1) := by decide +kernel
theorem dX1_keptPull_6 : decode cX1_keptPull 6 = .ok (.invokestatic 21, 3) := by decide +kernel
theorem dX1_keptPull_9 : decode cX1_keptPull 9 = .ok (.laload, 1) := by decide +kernel
theorem dX1_keptPull_10 : decode cX1_keptPull 10 = .ok (.lreturn, 1) := by decide +kernel
set_option maxRecDepth 20000 in
theorem ggX1_summedPull_X5_cellNumber : GoodIn wsX1_summedPull wsX5_cellNumber := goodIn_r _ [5] (by decide +kernel) (by decide +kernel)
set_option maxRecDepth 20000 in
theorem gX1_summedPull_X5_cellNumber_n21 : GoodIn wsX1_summedPull (wsX5_cellNumber) := ggX1_summedPull_X5_cellNumber
set_option maxRecDepth 20000 in
theorem ggX1_summedPull_X1_squareOf : GoodIn wsX1_summedPull wsX1_squareOf := goodIn_r _ [9] (by decide +kernel) (by decide +kernel)
set_option maxRecDepth 20000 in
theorem gX1_summedPull_X1_squareOf : GoodIn wsX1_summedPull (va_wsS RX1 29 yX1_squareOf wsX1_squareOf) := goodIn_app (goodIn_of _ (by decide +kernel)) ggX1_summedPull_X1_squareOf
set_option maxRecDepth 20000 in
theorem ggX1_summedPull_X1_pullOf : GoodIn wsX1_summedPull wsX1_pullOf := goodIn_r _ [12, 13] (by decide +kernel) (by decide +kernel)
set_option maxRecDepth 20000 in
theorem gX1_summedPull_X1_pullOf : GoodIn wsX1_summedPull (va_wsS RX1 33 yX1_pullOf wsX1_pullOf) := goodIn_app (goodIn_of _ (by decide +kernel)) ggX1_summedPull_X1_pullOf
theorem dX1_summedPull_0 : decode cX1_summedPull 0 = .ok (.lconst 0, 1) := by decide +kernel
theorem dX1_summedPull_1 : decode cX1_summedPull 1 = .ok (.lstore_n 3, 1) := by decide +kernel
theorem dX1_summedPull_2 : decode cX1_summedPull 2 = .ok (.iconst 0, 1) := by decide +kernel
theorem dX1_summedPull_3 : decode cX1_summedPull 3 = .ok (.istore 5, 2) := by decide +kernel
theorem dX1_summedPull_5 : decode cX1_summedPull 5 = .ok (.iload 5, 2) := by decide +kernel
theorem dX1_summedPull_7 : decode cX1_summedPull 7 = .ok (.bipush 8, 2) := by decide +kernel
theorem dX1_summedPull_9 : decode cX1_summedPull 9 = .ok (.if_icmp .ge 106, 3) := by decide +kernel
theorem dX1_summedPull_12 : decode cX1_summedPull 12 = .ok (.iconst 0, 1) := by decide +kernel
theorem dX1_summedPull_13 : decode cX1_summedPull 13 = .ok (.istore 6, 2) := by decide +kernel
theorem dX1_summedPull_15 : decode cX1_summedPull 15 = .ok (.iload 6, 2) := by decide +kernel
theorem dX1_summedPull_17 : decode cX1_summedPull 17 = .ok (.bipush 8, 2) := by decide +kernel
theorem dX1_summedPull_19 : decode cX1_summedPull 19 = .ok (.if_icmp .ge 90, 3) := by decide +kernel
theorem dX1_summedPull_22 : decode cX1_summedPull 22 = .ok (.iload 6, 2) := by decide +kernel
theorem dX1_summedPull_24 : decode cX1_summedPull 24 = .ok (.iload 5, 2) := by decide +kernel
theorem dX1_summedPull_26 : decode cX1_summedPull 26 = .ok (.invokestatic 21, 3) := by decide +kernel
theorem dX1_summedPull_29 : decode cX1_summedPull 29 = .ok (.istore 7, 2) := by decide +kernel
theorem dX1_summedPull_31 : decode cX1_summedPull 31 = .ok (.lload_n 3, 1) := by decide +kernel
theorem dX1_summedPull_32 : decode cX1_summedPull 32 = .ok (.aload_n 0, 1) := by decide +kernel
theorem dX1_summedPull_33 : decode cX1_summedPull 33 = .ok (.getfield 15, 3) := by decide +kernel
theorem dX1_summedPull_36 : decode cX1_summedPull 36 = .ok (.iload 7, 2) := by decide +kernel
theorem dX1_summedPull_38 : decode cX1_summedPull 38 = .ok (.laload, 1) := by decide +kernel
theorem dX1_summedPull_39 : decode cX1_summedPull 39 = .ok (.iload 6, 2) := by decide +kernel
theorem dX1_summedPull_41 : decode cX1_summedPull 41 = .ok (.iload_n 1, 1) := by decide +kernel
theorem dX1_summedPull_42 : decode cX1_summedPull 42 = .ok (.isub, 1) := by decide +kernel
theorem dX1_summedPull_43 : decode cX1_summedPull 43 = .ok (.iload 5, 2) := by decide +kernel
theorem dX1_summedPull_45 : decode cX1_summedPull 45 = .ok (.iload_n 2, 1) := by decide +kernel
theorem dX1_summedPull_46 : decode cX1_summedPull 46 = .ok (.isub, 1) := by decide +kernel
theorem dX1_summedPull_47 : decode cX1_summedPull 47 = .ok (.iconst 0, 1) := by decide +kernel
theorem dX1_summedPull_48 : decode cX1_summedPull 48 = .ok (.invokestatic 29, 3) := by decide +kernel
theorem dX1_summedPull_51 : decode cX1_summedPull 51 = .ok (.invokestatic 33, 3) := by decide +kernel
theorem dX1_summedPull_54 : decode cX1_summedPull 54 = .ok (.ladd, 1) := by decide +kernel
theorem dX1_summedPull_55 : decode cX1_summedPull 55 = .ok (.lstore_n 3, 1) := by decide +kernel
theorem dX1_summedPull_56 : decode cX1_summedPull 56 = .ok (.iconst 0, 1) := by decide +kernel
theorem dX1_summedPull_57 : decode cX1_summedPull 57 = .ok (.istore 8, 2) := by decide +kernel
theorem dX1_summedPull_59 : decode cX1_summedPull 59 = .ok (.iload 8, 2) := by decide +kernel
theorem dX1_summedPull_61 : decode cX1_summedPull 61 = .ok (.iconst 3, 1) := by decide +kernel
theorem dX1_summedPull_62 : decode cX1_summedPull 62 = .ok (.if_icmp .ge 41, 3) := by decide +kernel
theorem dX1_summedPull_65 : decode cX1_summedPull 65 = .ok (.lload_n 3, 1) := by decide +kernel
theorem dX1_summedPull_66 : decode cX1_summedPull 66 = .ok (.aload_n 0, 1) := by decide +kernel
theorem dX1_summedPull_67 : decode cX1_summedPull 67 = .ok (.getfield 9, 3) := by decide +kernel
theorem dX1_summedPull_70 : decode cX1_summedPull 70 = .ok (.iload 8, 2) := by decide +kernel
theorem dX1_summedPull_72 : decode cX1_summedPull 72 = .ok (.bipush 64, 2) := by decide +kernel
theorem dX1_summedPull_74 : decode cX1_summedPull 74 = .ok (.imul, 1) := by decide +kernel
theorem dX1_summedPull_75 : decode cX1_summedPull 75 = .ok (.iload 7, 2) := by decide +kernel
theorem dX1_summedPull_77 : decode cX1_summedPull 77 = .ok (.iadd, 1) := by decide +kernel
theorem dX1_summedPull_78 : decode cX1_summedPull 78 = .ok (.laload, 1) := by decide +kernel
theorem dX1_summedPull_79 : decode cX1_summedPull 79 = .ok (.iload 6, 2) := by decide +kernel
theorem dX1_summedPull_81 : decode cX1_summedPull 81 = .ok (.iload_n 1, 1) := by decide +kernel
theorem dX1_summedPull_82 : decode cX1_summedPull 82 = .ok (.isub, 1) := by decide +kernel
theorem dX1_summedPull_83 : decode cX1_summedPull 83 = .ok (.iload 5, 2) := by decide +kernel
theorem dX1_summedPull_85 : decode cX1_summedPull 85 = .ok (.iload_n 2, 1) := by decide +kernel
theorem dX1_summedPull_86 : decode cX1_summedPull 86 = .ok (.isub, 1) := by decide +kernel
theorem dX1_summedPull_87 : decode cX1_summedPull 87 = .ok (.iload 8, 2) := by decide +kernel
theorem dX1_summedPull_89 : decode cX1_summedPull 89 = .ok (.invokestatic 29, 3) := by decide +kernel
theorem dX1_summedPull_92 : decode cX1_summedPull 92 = .ok (.invokestatic 33, 3) := by decide +kernel
theorem dX1_summedPull_95 : decode cX1_summedPull 95 = .ok (.ladd, 1) := by decide +kernel
theorem dX1_summedPull_96 : decode cX1_summedPull 96 = .ok (.lstore_n 3, 1) := by decide +kernel
theorem dX1_summedPull_97 : decode cX1_summedPull 97 = .ok (.iinc 8 1, 3) := by decide +kernel
theorem dX1_summedPull_100 : decode cX1_summedPull 100 = .ok (.goto (-41), 3) := by decide +kernel
theorem dX1_summedPull_103 : decode cX1_summedPull 103 = .ok (.iinc 6 1, 3) := by decide +kernel
theorem dX1_summedPull_106 : decode cX1_summedPull 106 = .ok (.goto (-91), 3) := by decide +kernel
theorem dX1_summedPull_109 : decode cX1_summedPull 109 = .ok (.iinc 5 1, 3) := by decide +kernel
theorem dX1_summedPull_112 : decode cX1_summedPull 112 = .ok (.goto (-107), 3) := by decide +kernel
theorem dX1_summedPull_115 : decode cX1_summedPull 115 = .ok (.lload_n 3, 1) := by decide +kernel
theorem dX1_summedPull_116 : decode cX1_summedPull 116 = .ok (.lreturn, 1) := by decide +kernel
theorem dX1_squareOf_0 : decode cX1_squareOf 0 = .ok (.iload_n 0, 1) := by decide +kernel
theorem dX1_squareOf_1 : decode cX1_squareOf 1 = .ok (.iload_n 0, 1) := by decide +kernel
theorem dX1_squareOf_2 : decode cX1_squareOf 2 = .ok (.imul, 1) := by decide +kernel
theorem dX1_squareOf_3 : decode cX1_squareOf 3 = .ok (.iload_n 1, 1) := by decide +kernel
theorem dX1_squareOf_4 : decode cX1_squareOf 4 = .ok (.iload_n 1, 1) := by decide +kernel
theorem dX1_squareOf_5 : decode cX1_squareOf 5 = .ok (.imul, 1) := by decide +kernel
theorem dX1_squareOf_6 : decode cX1_squareOf 6 = .ok (.iadd, 1) := by decide +kernel
theorem dX1_squareOf_7 : decode cX1_squareOf 7 = .ok (.iload_n 2, 1) := by decide +kernel
theorem dX1_squareOf_8 : decode cX1_squareOf 8 = .ok (.iconst 1, 1) := by decide +kernel
theorem dX1_squareOf_9 : decode cX1_squareOf 9 = .ok (.iadd, 1) := by decide +kernel
theorem dX1_squareOf_10 : decode cX1_squareOf 10 = .ok (.iload_n 2, 1) := by decide +kernel
theorem dX1_squareOf_11 : decode cX1_squareOf 11 = .ok (.iconst 1, 1) := by decide +kernel
theorem dX1_squareOf_12 : decode cX1_squareOf 12 = .ok (.iadd, 1) := by decide +kernel
theorem dX1_squareOf_13 : decode cX1_squareOf 13 = .ok (.imul, 1) := by decide +kernel
theorem dX1_squareOf_14 : decode cX1_squareOf 14 = .ok (.iadd, 1) := by decide +kernel
theorem dX1_squareOf_15 : decode cX1_squareOf 15 = .ok (.i2l, 1) := by decide +kernel
theorem dX1_squareOf_16 : decode cX1_squareOf 16 = .ok (.lreturn, 1) := by decide +kernel
theorem dX1_pullOf_0 : decode cX1_pullOf 0 = .ok (.lload_n 2, 1) := by decide +kernel
theorem dX1_pullOf_1 : decode cX1_pullOf 1 = .ok (.lconst 1, 1) := by decide +kernel
theorem dX1_pullOf_2 : decode cX1_pullOf 2 = .ok (.lcmp, 1) := by decide +kernel
theorem dX1_pullOf_3 : decode cX1_pullOf 3 = .ok (.ifCond .ge 7, 3) := by decide +kernel
theorem dX1_pullOf_6 : decode cX1_pullOf 6 = .ok (.lconst 0, 1) := by decide +kernel
theorem dX1_pullOf_7 : decode cX1_pullOf 7 = .ok (.goto 10, 3) := by decide +kernel
theorem dX1_pullOf_10 : decode cX1_pullOf 10 = .ok (.lload_n 0, 1) := by decide +kernel
theorem dX1_pullOf_11 : decode cX1_pullOf 11 = .ok (.ldc2_w 37, 3) := by decide +kernel
theorem dX1_pullOf_14 : decode cX1_pullOf 14 = .ok (.lmul, 1) := by decide +kernel
theorem dX1_pullOf_15 : decode cX1_pullOf 15 = .ok (.lload_n 2, 1) := by decide +kernel
theorem dX1_pullOf_16 : decode cX1_pullOf 16 = .ok (.ldiv, 1) := by decide +kernel
theorem dX1_pullOf_17 : decode cX1_pullOf 17 = .ok (.lreturn, 1) := by decide +kernel
theorem dX2_init_0 : decode cX2_init 0 = .ok (.aload_n 0, 1) := by decide +kernel
theorem dX2_init_1 : decode cX2_init 1 = .ok (.invokespecial 1, 3) := by decide +kernel
theorem dX2_init_4 : decode cX2_init 4 = .ok (.aload_n 0, 1) := by decide +kernel
theorem dX2_init_5 : decode cX2_init 5 = .ok (.iconst 0, 1) := by decide +kernel
theorem dX2_init_6 : decode cX2_init 6 = .ok (.putfield 7, 3) := by decide +kernel
theorem dX2_init_9 : decode cX2_init 9 = .ok (.aload_n 0, 1) := by decide +kernel
theorem dX2_init_10 : decode cX2_init 10 = .ok (.iconst 1, 1) := by decide +kernel
theorem dX2_init_11 : decode cX2_init 11 = .ok (.putfield 13, 3) := by decide +kernel
theorem dX2_init_14 : decode cX2_init 14 = .ok (.return_, 1) := by decide +kernel
theorem dX2_put_0 : decode cX2_put 0 = .ok (.aload_n 0, 1) := by decide +kernel
theorem dX2_put_1 : decode cX2_put 1 = .ok (.getfield 7, 3) := by decide +kernel
theorem dX2_put_4 : decode cX2_put 4 = .ok (.istore_n 3, 1) := by decide +kernel
theorem dX2_put_5 : decode cX2_put 5 = .ok (.aload_n 0, 1) := by decide +kernel
theorem dX2_put_6 : decode cX2_put 6 = .ok (.iload_n 1, 1) := by decide +kernel
theorem dX2_put_7 : decode cX2_put 7 = .ok (.putfield 7, 3) := by decide +kernel
theorem dX2_put_10 : decode cX2_put 10 = .ok (.aload_n 0, 1) := by decide +kernel
theorem dX2_put_11 : decode cX2_put 11 = .ok (.iload_n 2, 1) := by decide +kernel
theorem dX2_put_12 : decode cX2_put 12 = .ok (.putfield 13, 3) := by decide +kernel
theorem dX2_put_15 : decode cX2_put 15 = .ok (.iload_n 3, 1) := by decide +kernel
theorem dX2_put_16 : decode cX2_put 16 = .ok (.ireturn, 1) := by decide +kernel
theorem dX2_tideIn_0 : decode cX2_tideIn 0 = .ok (.aload_n 0, 1) := by decide +kernel
theorem dX2_tideIn_1 : decode cX2_tideIn 1 = .ok (.getfield 13, 3) := by decide +kernel
theorem dX2_tideIn_4 : decode cX2_tideIn 4 = .ok (.iconst 1, 1) := by decide +kernel
theorem dX2_tideIn_5 : decode cX2_tideIn 5 = .ok (.if_icmp .lt 22, 3) := by decide +kernel
theorem dX2_tideIn_8 : decode cX2_tideIn 8 = .ok (.iload_n 1, 1) := by decide +kernel
theorem dX2_tideIn_9 : decode cX2_tideIn 9 = .ok (.aload_n 0, 1) := by decide +kernel
theorem dX2_tideIn_10 : decode cX2_tideIn 10 = .ok (.getfield 13, 3) := by decide +kernel
theorem dX2_tideIn_13 : decode cX2_tideIn 13 = .ok (.irem, 1) := by decide +kernel
theorem dX2_tideIn_14 : decode cX2_tideIn 14 = .ok (.aload_n 0, 1) := by decide +kernel
theorem dX2_tideIn_15 : decode cX2_tideIn 15 = .ok (.getfield 13, 3) := by decide +kernel
theorem dX2_tideIn_18 : decode cX2_tideIn 18 = .ok (.iconst 2, 1) := by decide +kernel
theorem dX2_tideIn_19 : decode cX2_tideIn 19 = .ok (.idiv, 1) := by decide +kernel
theorem dX2_tideIn_20 : decode cX2_tideIn 20 = .ok (.if_icmp .ge 7, 3) := by decide +kernel
theorem dX2_tideIn_23 : decode cX2_tideIn 23 = .ok (.iconst 1, 1) := by decide +kernel
theorem dX2_tideIn_24 : decode cX2_tideIn 24 = .ok (.goto 4, 3) := by decide +kernel
theorem dX2_tideIn_27 : decode cX2_tideIn 27 = .ok (.iconst 0, 1) := by decide +kernel
theorem dX2_tideIn_28 : decode cX2_tideIn 28 = .ok (.istore_n 2, 1) := by decide +kernel
theorem dX2_tideIn_29 : decode cX2_tideIn 29 = .ok (.iload_n 2, 1) := by decide +kernel
theorem dX2_tideIn_30 : decode cX2_tideIn 30 = .ok (.ifCond .eq 11, 3) := by decide +kernel
theorem dX2_tideIn_33 : decode cX2_tideIn 33 = .ok (.aload_n 0, 1) := by decide +kernel
theorem dX2_tideIn_34 : decode cX2_tideIn 34 = .ok (.getfield 7, 3) := by decide +kernel
theorem dX2_tideIn_37 : decode cX2_tideIn 37 = .ok (.i2l, 1) := by decide +kernel
theorem dX2_tideIn_38 : decode cX2_tideIn 38 = .ok (.goto 9, 3) := by decide +kernel
theorem dX2_tideIn_41 : decode cX2_tideIn 41 = .ok (.aload_n 0, 1) := by decide +kernel
theorem dX2_tideIn_42 : decode cX2_tideIn 42 = .ok (.getfield 7, 3) := by decide +kernel
theorem dX2_tideIn_45 : decode cX2_tideIn 45 = .ok (.ineg, 1) := by decide +kernel
theorem dX2_tideIn_46 : decode cX2_tideIn 46 = .ok (.i2l, 1) := by decide +kernel
theorem dX2_tideIn_47 : decode cX2_tideIn 47 = .ok (.lreturn, 1) := by decide +kernel
theorem dX3_init_0 : decode cX3_init 0 = .ok (.aload_n 0, 1) := by decide +kernel
theorem dX3_init_1 : decode cX3_init 1 = .ok (.invokespecial 3, 3) := by decide +kernel
theorem dX3_init_4 : decode cX3_init 4 = .ok (.aload_n 0, 1) := by decide +kernel
theorem dX3_init_5 : decode cX3_init 5 = .ok (.bipush 6, 2) := by decide +kernel
theorem dX3_init_7 : decode cX3_init 7 = .ok (.newarray .int, 2) := by decide +kernel
theorem dX3_init_9 : decode cX3_init 9 = .ok (.putfield 9, 3) := by decide +kernel
theorem dX3_init_12 : decode cX3_init 12 = .ok (.aload_n 0, 1) := by decide +kernel
theorem dX3_init_13 : decode cX3_init 13 = .ok (.bipush 6, 2) := by decide +kernel
theorem dX3_init_15 : decode cX3_init 15 = .ok (.newarray .int, 2) := by decide +kernel
theorem dX3_init_17 : decode cX3_init 17 = .ok (.putfield 15, 3) := by decide +kernel
theorem dX3_init_20 : decode cX3_init 20 = .ok (.aload_n 0, 1) := by decide +kernel
theorem dX3_init_21 : decode cX3_init 21 = .ok (.bipush 6, 2) := by decide +kernel
theorem dX3_init_23 : decode cX3_init 23 = .ok (.newarray .int, 2) := by decide +kernel
theorem dX3_init_25 : decode cX3_init 25 = .ok (.putfield 18, 3) := by decide +kernel
theorem dX3_init_28 : decode cX3_init 28 = .ok (.aload_n 0, 1) := by decide +kernel
theorem dX3_init_29 : decode cX3_init 29 = .ok (.iconst 0, 1) := by decide +kernel
theorem dX3_init_30 : decode cX3_init 30 = .ok (.putfield 21, 3) := by decide +kernel
theorem dX3_init_33 : decode cX3_init 33 = .ok (.return_, 1) := by decide +kernel
theorem dX3_add_0 : decode cX3_add 0 = .ok (.aload_n 0, 1) := by decide +kernel
theorem dX3_add_1 : decode cX3_add 1 = .ok (.getfield 9, 3) := by decide +kernel
theorem dX3_add_4 : decode cX3_add 4 = .ok (.aload_n 0, 1) := by decide +kernel
theorem dX3_add_5 : decode cX3_add 5 = .ok (.getfield 21, 3) := by decide +kernel
theorem dX3_add_8 : decode cX3_add 8 = .ok (.iload_n 1, 1) := by decide +kernel
theorem dX3_add_9 : decode cX3_add 9 = .ok (.iastore, 1) := by decide +kernel
theorem dX3_add_10 : decode cX3_add 10 = .ok (.aload_n 0, 1) := by decide +kernel
theorem dX3_add_11 : decode cX3_add 11 = .ok (.getfield 15, 3) := by decide +kernel
theorem dX3_add_14 : decode cX3_add 14 = .ok (.aload_n 0, 1) := by decide +kernel
theorem dX3_add_15 : decode cX3_add 15 = .ok (.getfield 21, 3) := by decide +kernel
theorem dX3_add_18 : decode cX3_add 18 = .ok (.iload_n 2, 1) := by decide +kernel
theorem dX3_add_19 : decode cX3_add 19 = .ok (.iastore, 1) := by decide +kernel
theorem dX3_add_20 : decode cX3_add 20 = .ok (.aload_n 0, 1) := by decide +kernel
theorem dX3_add_21 : decode cX3_add 21 = .ok (.getfield 18, 3) := by decide +kernel
theorem dX3_add_24 : decode cX3_add 24 = .ok (.aload_n 0, 1) := by decide +kernel
theorem dX3_add_25 : decode cX3_add 25 = .ok (.getfield 21, 3) := by decide +kernel
theorem dX3_add_28 : decode cX3_add 28 = .ok (.iload_n 3, 1) := by decide +kernel
theorem dX3_add_29 : decode cX3_add 29 = .ok (.iastore, 1) := by decide +kernel
theorem dX3_add_30 : decode cX3_add 30 = .ok (.aload_n 0, 1) := by decide +kernel
theorem dX3_add_31 : decode cX3_add 31 = .ok (.dup, 1) := by decide +kernel
theorem dX3_add_32 : decode cX3_add 32 = .ok (.getfield 21, 3) := by decide +kernel
theorem dX3_add_35 : decode cX3_add 35 = .ok (.iconst 1, 1) := by decide +kernel
theorem dX3_add_36 : decode cX3_add 36 = .ok (.iadd, 1) := by decide +kernel
theorem dX3_add_37 : decode cX3_add 37 = .ok (.putfield 21, 3) := by decide +kernel
theorem dX3_add_40 : decode cX3_add 40 = .ok (.aload_n 0, 1) := by decide +kernel
theorem dX3_add_41 : decode cX3_add 41 = .ok (.getfield 21, 3) := by decide +kernel
theorem dX3_add_44 : decode cX3_add 44 = .ok (.iconst 1, 1) := by decide +kernel
theorem dX3_add_45 : decode cX3_add 45 = .ok (.isub, 1) := by decide +kernel
theorem dX3_add_46 : decode cX3_add 46 = .ok (.ireturn, 1) := by decide +kernel
theorem dX3_offIn_0 : decode cX3_offIn 0 = .ok (.aload_n 0, 1) := by decide +kernel
theorem dX3_offIn_1 : decode cX3_offIn 1 = .ok (.getfield 9, 3) := by decide +kernel
theorem dX3_offIn_4 : decode cX3_offIn 4 = .ok (.iload_n 1, 1) := by decide +kernel
theorem dX3_offIn_5 : decode cX3_offIn 5 = .ok (.iaload, 1) := by decide +kernel
theorem dX3_offIn_6 : decode cX3_offIn 6 = .ok (.ifCond .ne 13, 3) := by decide +kernel
theorem dX3_offIn_9 : decode cX3_offIn 9 = .ok (.aload_n 0, 1) := by decide +kernel
theorem dX3_offIn_10 : decode cX3_offIn 10 = .ok (.getfield 15, 3) := by decide +kernel
theorem dX3_offIn_13 : decode cX3_offIn 13 = .ok (.iload_n 1, 1) := by decide +kernel
theorem dX3_offIn_14 : decode cX3_offIn 14 = .ok (.iaload, 1) := by decide +kernel
theorem dX3_offIn_15 : decode cX3_offIn 15 = .ok (.i2l, 1) := by decide +kernel
theorem dX3_offIn_16 : decode cX3_offIn 16 = .ok (.goto 20, 3) := by decide +kernel
theorem dX3_offIn_19 : decode cX3_offIn 19 = .ok (.aload_n 0, 1) := by decide +kernel
theorem dX3_offIn_20 : decode cX3_offIn 20 = .ok (.getfield 15, 3) := by decide +kernel
theorem dX3_offIn_23 : decode cX3_offIn 23 = .ok (.iload_n 1, 1) := by decide +kernel
theorem dX3_offIn_24 : decode cX3_offIn 24 = .ok (.iaload, 1) := by decide +kernel
theorem dX3_offIn_25 : decode cX3_offIn 25 = .ok (.i2l, 1) := by decide +kernel
theorem dX3_offIn_26 : decode cX3_offIn 26 = .ok (.iload_n 2, 1) := by decide +kernel
theorem dX3_offIn_27 : decode cX3_offIn 27 = .ok (.aload_n 0, 1) := by decide +kernel
theorem dX3_offIn_28 : decode cX3_offIn 28 = .ok (.getfield 18, 3) := by decide +kernel
theorem dX3_offIn_31 : decode cX3_offIn 31 = .ok (.iload_n 1, 1) := by decide +kernel
theorem dX3_offIn_32 : decode cX3_offIn 32 = .ok (.iaload, 1) := by decide +kernel
theorem dX3_offIn_33 : decode cX3_offIn 33 = .ok (.isub, 1) := by decide +kernel
theorem dX3_offIn_34 : decode cX3_offIn 34 = .ok (.i2l, 1) := by decide +kernel
theorem dX3_offIn_35 : decode cX3_offIn 35 = .ok (.lmul, 1) := by decide +kernel
theorem dX3_offIn_36 : decode cX3_offIn 36 = .ok (.lreturn, 1) := by decide +kernel
theorem dX4_init_0 : decode cX4_init 0 = .ok (.aload_n 0, 1) := by decide +kernel
theorem dX4_init_1 : decode cX4_init 1 = .ok (.invokespecial 3, 3) := by decide +kernel
theorem dX4_init_4 : decode cX4_init 4 = .ok (.aload_n 0, 1) := by decide +kernel
theorem dX4_init_5 : decode cX4_init 5 = .ok (.bipush 24, 2) := by decide +kernel
theorem dX4_init_7 : decode cX4_init 7 = .ok (.newarray .int, 2) := by decide +kernel
theorem dX4_init_9 : decode cX4_init 9 = .ok (.putfield 9, 3) := by decide +kernel
theorem dX4_init_12 : decode cX4_init 12 = .ok (.aload_n 0, 1) := by decide +kernel
theorem dX4_init_13 : decode cX4_init 13 = .ok (.bipush 24, 2) := by decide +kernel
theorem dX4_init_15 : decode cX4_init 15 = .ok (.newarray .int, 2) := by decide +kernel
theorem dX4_init_17 : decode cX4_init 17 = .ok (.putfield 15, 3) := by decide +kernel
theorem dX4_init_20 : decode cX4_init 20 = .ok (.aload_n 0, 1) := by decide +kernel
theorem dX4_init_21 : decode cX4_init 21 = .ok (.bipush 24, 2) := by decide +kernel
theorem dX4_init_23 : decode cX4_init 23 = .ok (.newarray .int, 2) := by decide +kernel
theorem dX4_init_25 : decode cX4_init 25 = .ok (.putfield 18, 3) := by decide +kernel
theorem dX4_init_28 : decode cX4_init 28 = .ok (.aload_n 0, 1) := by decide +kernel
theorem dX4_init_29 : decode cX4_init 29 = .ok (.bipush 24, 2) := by decide +kernel
theorem dX4_init_31 : decode cX4_init 31 = .ok (.newarray .int, 2) := by decide +kernel
theorem dX4_init_33 : decode cX4_init 33 = .ok (.putfield 21, 3) := by decide +kernel
theorem dX4_init_36 : decode cX4_init 36 = .ok (.aload_n 0, 1) := by decide +kernel
theorem dX4_init_37 : decode cX4_init 37 = .ok (.bipush 10, 2) := by decide +kernel
theorem dX4_init_39 : decode cX4_init 39 = .ok (.newarray .int, 2) := by decide +kernel
theorem dX4_init_41 : decode cX4_init 41 = .ok (.putfield 24, 3) := by decide +kernel
theorem dX4_init_44 : decode cX4_init 44 = .ok (.aload_n 0, 1) := by decide +kernel
theorem dX4_init_45 : decode cX4_init 45 = .ok (.bipush 10, 2) := by decide +kernel
theorem dX4_init_47 : decode cX4_init 47 = .ok (.newarray .int, 2) := by decide +kernel
theorem dX4_init_49 : decode cX4_init 49 = .ok (.putfield 27, 3) := by decide +kernel
theorem dX4_init_52 : decode cX4_init 52 = .ok (.aload_n 0, 1) := by decide +kernel
theorem dX4_init_53 : decode cX4_init 53 = .ok (.bipush 10, 2) := by decide +kernel
theorem dX4_init_55 : decode cX4_init 55 = .ok (.newarray .int, 2) := by decide +kernel
theorem dX4_init_57 : decode cX4_init 57 = .ok (.putfield 30, 3) := by decide +kernel
theorem dX4_init_60 : decode cX4_init 60 = .ok (.aload_n 0, 1) := by decide +kernel
theorem dX4_init_61 : decode cX4_init 61 = .ok (.iconst 0, 1) := by decide +kernel
theorem dX4_init_62 : decode cX4_init 62 = .ok (.putfield 33, 3) := by decide +kernel
theorem dX4_init_65 : decode cX4_init 65 = .ok (.aload_n 0, 1) := by decide +kernel
theorem dX4_init_66 : decode cX4_init 66 = .ok (.iconst 0, 1) := by decide +kernel
theorem dX4_init_67 : decode cX4_init 67 = .ok (.putfield 37, 3) := by decide +kernel
theorem dX4_init_70 : decode cX4_init 70 = .ok (.return_, 1) := by decide +kernel
theorem dX4_addBenchmark_0 : decode cX4_addBenchmark 0 = .ok (.aload_n 0, 1) := by decide +kernel
theorem dX4_addBenchmark_1 : decode cX4_addBenchmark 1 = .ok (.dup, 1) := by decide +kernel
theorem dX4_addBenchmark_2 : decode cX4_addBenchmark 2 = .ok (.getfield 33, 3) := by decide +kernel
theorem dX4_addBenchmark_5 : decode cX4_addBenchmark 5 = .ok (.iconst 1, 1) := by decide +kernel
theorem dX4_addBenchmark_6 : decode cX4_addBenchmark 6 = .ok (.iadd, 1) := by decide +kernel
theorem dX4_addBenchmark_7 : decode cX4_addBenchmark 7 = .ok (.putfield 33, 3) := by decide +kernel
theorem dX4_addBenchmark_10 : decode cX4_addBenchmark 10 = .ok (.aload_n 0, 1) := by decide +kernel
theorem dX4_addBenchmark_11 : decode cX4_addBenchmark 11 = .ok (.getfield 33, 3) := by decide +kernel
theorem dX4_addBenchmark_14 : decode cX4_addBenchmark 14 = .ok (.iconst 1, 1) := by decide +kernel
theorem dX4_addBenchmark_15 : decode cX4_addBenchmark 15 = .ok (.isub, 1) := by decide +kernel
theorem dX4_addBenchmark_16 : decode cX4_addBenchmark 16 = .ok (.ireturn, 1) := by decide +kernel
theorem dX4_addLine_0 : decode cX4_addLine 0 = .ok (.aload_n 0, 1) := by decide +kernel
theorem dX4_addLine_1 : decode cX4_addLine 1 = .ok (.getfield 9, 3) := by decide +kernel
theorem dX4_addLine_4 : decode cX4_addLine 4 = .ok (.aload_n 0, 1) := by decide +kernel
theorem dX4_addLine_5 : decode cX4_addLine 5 = .ok (.getfield 37, 3) := by decide +kernel
theorem dX4_addLine_8 : decode cX4_addLine 8 = .ok (.iload_n 1, 1) := by decide +kernel
theorem dX4_addLine_9 : decode cX4_addLine 9 = .ok (.iastore, 1) := by decide +kernel
theorem dX4_addLine_10 : decode cX4_addLine 10 = .ok (.aload_n 0, 1) := by decide +kernel
theorem dX4_addLine_11 : decode cX4_addLine 11 = .ok (.getfield 15, 3) := by decide +kernel
theorem dX4_addLine_14 : decode cX4_addLine 14 = .ok (.aload_n 0, 1) := by decide +kernel
theorem dX4_addLine_15 : decode cX4_addLine 15 = .ok (.getfield 37, 3) := by decide +kernel
theorem dX4_addLine_18 : decode cX4_addLine 18 = .ok (.iload_n 2, 1) := by decide +kernel
theorem dX4_addLine_19 : decode cX4_addLine 19 = .ok (.iastore, 1) := by decide +kernel
theorem dX4_addLine_20 : decode cX4_addLine 20 = .ok (.aload_n 0, 1) := by decide +kernel
theorem dX4_addLine_21 : decode cX4_addLine 21 = .ok (.getfield 18, 3) := by decide +kernel
theorem dX4_addLine_24 : decode cX4_addLine 24 = .ok (.aload_n 0, 1) := by decide +kernel
theorem dX4_addLine_25 : decode cX4_addLine 25 = .ok (.getfield 37, 3) := by decide +kernel
theorem dX4_addLine_28 : decode cX4_addLine 28 = .ok (.iload_n 3, 1) := by decide +kernel
theorem dX4_addLine_29 : decode cX4_addLine 29 = .ok (.iastore, 1) := by decide +kernel
theorem dX4_addLine_30 : decode cX4_addLine 30 = .ok (.aload_n 0, 1) := by decide +kernel
theorem dX4_addLine_31 : decode cX4_addLine 31 = .ok (.getfield 21, 3) := by decide +kernel
theorem dX4_addLine_34 : decode cX4_addLine 34 = .ok (.aload_n 0, 1) := by decide +kernel
theorem dX4_addLine_35 : decode cX4_addLine 35 = .ok (.getfield 37, 3) := by decide +kernel
theorem dX4_addLine_38 : decode cX4_addLine 38 = .ok (.iload 4, 2) := by decide +kernel
theorem dX4_addLine_40 : decode cX4_addLine 40 = .ok (.iastore, 1) := by decide +kernel
theorem dX4_addLine_41 : decode cX4_addLine 41 = .ok (.aload_n 0, 1) := by decide +kernel
theorem dX4_addLine_42 : decode cX4_addLine 42 = .ok (.dup, 1) := by decide +kernel
theorem dX4_addLine_43 : decode cX4_addLine 43 = .ok (.getfield 37, 3) := by decide +kernel
theorem dX4_addLine_46 : decode cX4_addLine 46 = .ok (.iconst 1, 1) := by decide +kernel
theorem dX4_addLine_47 : decode cX4_addLine 47 = .ok (.iadd, 1) := by decide +kernel
theorem dX4_addLine_48 : decode cX4_addLine 48 = .ok (.putfield 37, 3) := by decide +kernel
theorem dX4_addLine_51 : decode cX4_addLine 51 = .ok (.aload_n 0, 1) := by decide +kernel
theorem dX4_addLine_52 : decode cX4_addLine 52 = .ok (.getfield 37, 3) := by decide +kernel
theorem dX4_addLine_55 : decode cX4_addLine 55 = .ok (.iconst 1, 1) := by decide +kernel
theorem dX4_addLine_56 : decode cX4_addLine 56 = .ok (.isub, 1) := by decide +kernel
theorem dX4_addLine_57 : decode cX4_addLine 57 = .ok (.ireturn, 1) := by decide +kernel
set_option maxRecDepth 20000 in
theorem ggX4_findHeights_X4_knowOnlyFirst : GoodIn wsX4_findHeights wsX4_knowOnlyFirst := goodIn_r _ [7] (by decide +kernel) (by decide +kernel)
set_option maxRecDepth 20000 in
theorem gX4_findHeights_X4_knowOnlyFirst : GoodIn wsX4_findHeights (va_wsS RX4 40 yX4_knowOnlyFirst wsX4_knowOnlyFirst) := goodIn_app (goodIn_of _ (by decide +kernel)) ggX4_findHeights_X4_knowOnlyFirst
set_option maxRecDepth 20000 in
theorem ggX4_findHeights_X4_surestLine : GoodIn wsX4_findHeights wsX4_surestLine := goodIn_r _ [11, 12, 13, 14, 15, 6, 16, 1, 17, 18, 19, 25, 26, 27, 28, 29, 30, 31, 32, 33] (by decide +kernel) (by decide +kernel)
set_option maxRecDepth 20000 in
theorem gX4_findHeights_X4_surestLine : GoodIn wsX4_findHeights (wsV RX4 44 RX4 yX4_surestLine wsX4_surestLine) := goodIn_app (goodIn_of _ (by decide +kernel)) ggX4_findHeights_X4_surestLine
set_option maxRecDepth 20000 in
theorem ggX4_findHeights_X4_goAlong : GoodIn wsX4_findHeights wsX4_goAlong := goodIn_r _ [23, 17, 18, 1, 19, 2, 24, 25, 26, 27, 28, 29, 30, 31, 32, 33] (by decide +kernel) (by decide +kernel)
set_option maxRecDepth 20000 in
theorem gX4_findHeights_X4_goAlong : GoodIn wsX4_findHeights (wsV RX4 48 RX4 yX4_goAlong wsX4_goAlong) := goodIn_app (goodIn_of _ (by decide +kernel)) ggX4_findHeights_X4_goAlong
theorem dX4_findHeights_0 : decode cX4_findHeights 0 = .ok (.aload_n 0, 1) := by decide +kernel
theorem dX4_findHeights_1 : decode cX4_findHeights 1 = .ok (.getfield 27, 3) := by decide +kernel
theorem dX4_findHeights_4 : decode cX4_findHeights 4 = .ok (.invokestatic 40, 3) := by decide +kernel
theorem dX4_findHeights_7 : decode cX4_findHeights 7 = .ok (.aload_n 0, 1) := by decide +kernel
theorem dX4_findHeights_8 : decode cX4_findHeights 8 = .ok (.getfield 24, 3) := by decide +kernel
theorem dX4_findHeights_11 : decode cX4_findHeights 11 = .ok (.iconst 0, 1) := by decide +kernel
theorem dX4_findHeights_12 : decode cX4_findHeights 12 = .ok (.iconst 0, 1) := by decide +kernel
theorem dX4_findHeights_13 : decode cX4_findHeights 13 = .ok (.iastore, 1) := by decide +kernel
theorem dX4_findHeights_14 : decode cX4_findHeights 14 = .ok (.iconst 1, 1) := by decide +kernel
theorem dX4_findHeights_15 : decode cX4_findHeights 15 = .ok (.istore_n 1, 1) := by decide +kernel
theorem dX4_findHeights_16 : decode cX4_findHeights 16 = .ok (.iload_n 1, 1) := by decide +kernel
theorem dX4_findHeights_17 : decode cX4_findHeights 17 = .ok (.aload_n 0, 1) := by decide +kernel
theorem dX4_findHeights_18 : decode cX4_findHeights 18 = .ok (.getfield 33, 3) := by decide +kernel
theorem dX4_findHeights_21 : decode cX4_findHeights 21 = .ok (.if_icmp .ge 25, 3) := by decide +kernel
theorem dX4_findHeights_24 : decode cX4_findHeights 24 = .ok (.aload_n 0, 1) := by decide +kernel
theorem dX4_findHeights_25 : decode cX4_findHeights 25 = .ok (.invokevirtual 44, 3) := by decide +kernel
theorem dX4_findHeights_28 : decode cX4_findHeights 28 = .ok (.istore_n 2, 1) := by decide +kernel
theorem dX4_findHeights_29 : decode cX4_findHeights 29 = .ok (.iload_n 2, 1) := by decide +kernel
theorem dX4_findHeights_30 : decode cX4_findHeights 30 = .ok (.iconst (-1), 1) := by decide +kernel
theorem dX4_findHeights_31 : decode cX4_findHeights 31 = .ok (.if_icmp .ne 4, 3) := by decide +kernel
theorem dX4_findHeights_34 : decode cX4_findHeights 34 = .ok (.return_, 1) := by decide +kernel
theorem dX4_findHeights_35 : decode cX4_findHeights 35 = .ok (.aload_n 0, 1) := by decide +kernel
theorem dX4_findHeights_36 : decode cX4_findHeights 36 = .ok (.iload_n 2, 1) := by decide +kernel
theorem dX4_findHeights_37 : decode cX4_findHeights 37 = .ok (.invokevirtual 48, 3) := by decide +kernel
theorem dX4_findHeights_40 : decode cX4_findHeights 40 = .ok (.iinc 1 1, 3) := by decide +kernel
theorem dX4_findHeights_43 : decode cX4_findHeights 43 = .ok (.goto (-27), 3) := by decide +kernel
theorem dX4_findHeights_46 : decode cX4_findHeights 46 = .ok (.return_, 1) := by decide +kernel
theorem dX4_knowOnlyFirst_0 : decode cX4_knowOnlyFirst 0 = .ok (.aload_n 0, 1) := by decide +kernel
theorem dX4_knowOnlyFirst_1 : decode cX4_knowOnlyFirst 1 = .ok (.iconst 0, 1) := by decide +kernel
theorem dX4_knowOnlyFirst_2 : decode cX4_knowOnlyFirst 2 = .ok (.iconst 0, 1) := by decide +kernel
theorem dX4_knowOnlyFirst_3 : decode cX4_knowOnlyFirst 3 = .ok (.iastore, 1) := by decide +kernel
theorem dX4_knowOnlyFirst_4 : decode cX4_knowOnlyFirst 4 = .ok (.iconst 1, 1) := by decide +kernel
theorem dX4_knowOnlyFirst_5 : decode cX4_knowOnlyFirst 5 = .ok (.istore_n 1, 1) := by decide +kernel
theorem dX4_knowOnlyFirst_6 : decode cX4_knowOnlyFirst 6 = .ok (.iload_n 1, 1) := by decide +kernel
theorem dX4_knowOnlyFirst_7 : decode cX4_knowOnlyFirst 7 = .ok (.bipush 10, 2) := by decide +kernel
theorem dX4_knowOnlyFirst_9 : decode cX4_knowOnlyFirst 9 = .ok (.if_icmp .ge 13, 3) := by decide +kernel
theorem dX4_knowOnlyFirst_12 : decode cX4_knowOnlyFirst 12 = .ok (.aload_n 0, 1) := by decide +kernel
theorem dX4_knowOnlyFirst_13 : decode cX4_knowOnlyFirst 13 = .ok (.iload_n 1, 1) := by decide +kernel
theorem dX4_knowOnlyFirst_14 : decode cX4_knowOnlyFirst 14 = .ok (.iconst (-1), 1) := by decide +kernel
theorem dX4_knowOnlyFirst_15 : decode cX4_knowOnlyFirst 15 = .ok (.iastore, 1) := by decide +kernel
theorem dX4_knowOnlyFirst_16 : decode cX4_knowOnlyFirst 16 = .ok (.iinc 1 1, 3) := by decide +kernel
theorem dX4_knowOnlyFirst_19 : decode cX4_knowOnlyFirst 19 = .ok (.goto (-13), 3) := by decide +kernel
theorem dX4_knowOnlyFirst_22 : decode cX4_knowOnlyFirst 22 = .ok (.return_, 1) := by decide +kernel
set_option maxRecDepth 20000 in
theorem ggX4_surestLine_X4_doubtBeyond : GoodIn wsX4_surestLine wsX4_doubtBeyond := goodIn_r _ [6, 7, 8, 9, 10, 11, 12, 13, 14, 15, 16, 17, 18, 19] (by decide +kernel) (by decide +kernel)
set_option maxRecDepth 20000 in
theorem gX4_surestLine_X4_doubtBeyond : GoodIn wsX4_surestLine (wsV RX4 52 RX4 yX4_doubtBeyond wsX4_doubtBeyond) := goodIn_app (goodIn_of _ (by decide +kernel)) ggX4_surestLine_X4_doubtBeyond
theorem dX4_surestLine_0 : decode cX4_surestLine 0 = .ok (.iconst (-1), 1) := by decide +kernel
theorem dX4_surestLine_1 : decode cX4_surestLine 1 = .ok (.istore_n 1, 1) := by decide +kernel
theorem dX4_surestLine_2 : decode cX4_surestLine 2 = .ok (.iconst (-1), 1) := by decide +kernel
theorem dX4_surestLine_3 : decode cX4_surestLine 3 = .ok (.istore_n 2, 1) := by decide +kernel
theorem dX4_surestLine_4 : decode cX4_surestLine 4 = .ok (.iconst 0, 1) := by decide +kernel
theorem dX4_surestLine_5 : decode cX4_surestLine 5 = .ok (.istore_n 3, 1) := by decide +kernel
theorem dX4_surestLine_6 : decode cX4_surestLine 6 = .ok (.iload_n 3, 1) := by decide +kernel
theorem dX4_surestLine_7 : decode cX4_surestLine 7 = .ok (.aload_n 0, 1) := by decide +kernel
theorem dX4_surestLine_8 : decode cX4_surestLine 8 = .ok (.getfield 37, 3) := by decide +kernel
theorem dX4_surestLine_11 : decode cX4_surestLine 11 = .ok (.if_icmp .ge 38, 3) := by decide +kernel
theorem dX4_surestLine_14 : decode cX4_surestLine 14 = .ok (.aload_n 0, 1) := by decide +kernel
theorem dX4_surestLine_15 : decode cX4_surestLine 15 = .ok (.iload_n 3, 1) := by decide +kernel
theorem dX4_surestLine_16 : decode cX4_surestLine 16 = .ok (.invokevirtual 52, 3) := by decide +kernel
theorem dX4_surestLine_19 : decode cX4_surestLine 19 = .ok (.istore 4, 2) := by decide +kernel
theorem dX4_surestLine_21 : decode cX4_surestLine 21 = .ok (.iload 4, 2) := by decide +kernel
theorem dX4_surestLine_23 : decode cX4_surestLine 23 = .ok (.iconst (-1), 1) := by decide +kernel
theorem dX4_surestLine_24 : decode cX4_surestLine 24 = .ok (.if_icmp .eq 19, 3) := by decide +kernel
theorem dX4_surestLine_27 : decode cX4_surestLine 27 = .ok (.iload_n 1, 1) := by decide +kernel
theorem dX4_surestLine_28 : decode cX4_surestLine 28 = .ok (.iconst (-1), 1) := by decide +kernel
theorem dX4_surestLine_29 : decode cX4_surestLine 29 = .ok (.if_icmp .eq 9, 3) := by decide +kernel
theorem dX4_surestLine_32 : decode cX4_surestLine 32 = .ok (.iload 4, 2) := by decide +kernel
theorem dX4_surestLine_34 : decode cX4_surestLine 34 = .ok (.iload_n 2, 1) := by decide +kernel
theorem dX4_surestLine_35 : decode cX4_surestLine 35 = .ok (.if_icmp .ge 8, 3) := by decide +kernel
theorem dX4_surestLine_38 : decode cX4_surestLine 38 = .ok (.iload_n 3, 1) := by decide +kernel
theorem dX4_surestLine_39 : decode cX4_surestLine 39 = .ok (.istore_n 1, 1) := by decide +kernel
theorem dX4_surestLine_40 : decode cX4_surestLine 40 = .ok (.iload 4, 2) := by decide +kernel
theorem dX4_surestLine_42 : decode cX4_surestLine 42 = .ok (.istore_n 2, 1) := by decide +kernel
theorem dX4_surestLine_43 : decode cX4_surestLine 43 = .ok (.iinc 3 1, 3) := by decide +kernel
theorem dX4_surestLine_46 : decode cX4_surestLine 46 = .ok (.goto (-40), 3) := by decide +kernel
theorem dX4_surestLine_49 : decode cX4_surestLine 49 = .ok (.iload_n 1, 1) := by decide +kernel
theorem dX4_surestLine_50 : decode cX4_surestLine 50 = .ok (.ireturn, 1) := by decide +kernel
theorem dX4_doubtBeyond_0 : decode cX4_doubtBeyond 0 = .ok (.aload_n 0, 1) := by decide +kernel
theorem dX4_doubtBeyond_1 : decode cX4_doubtBeyond 1 = .ok (.getfield 27, 3) := by decide +kernel
theorem dX4_doubtBeyond_4 : decode cX4_doubtBeyond 4 = .ok (.aload_n 0, 1) := by decide +kernel
theorem dX4_doubtBeyond_5 : decode cX4_doubtBeyond 5 = .ok (.getfield 9, 3) := by decide +kernel
theorem dX4_doubtBeyond_8 : decode cX4_doubtBeyond 8 = .ok (.iload_n 1, 1) := by decide +kernel
theorem dX4_doubtBeyond_9 : decode cX4_doubtBeyond 9 = .ok (.iaload, 1) := by decide +kernel
theorem dX4_doubtBeyond_10 : decode cX4_doubtBeyond 10 = .ok (.iaload, 1) := by decide +kernel
theorem dX4_doubtBeyond_11 : decode cX4_doubtBeyond 11 = .ok (.istore_n 2, 1) := by decide +kernel
theorem dX4_doubtBeyond_12 : decode cX4_doubtBeyond 12 = .ok (.aload_n 0, 1) := by decide +kernel
theorem dX4_doubtBeyond_13 : decode cX4_doubtBeyond 13 = .ok (.getfield 27, 3) := by decide +kernel
theorem dX4_doubtBeyond_16 : decode cX4_doubtBeyond 16 = .ok (.aload_n 0, 1) := by decide +kernel
theorem dX4_doubtBeyond_17 : decode cX4_doubtBeyond 17 = .ok (.getfield 15, 3) := by decide +kernel
theorem dX4_doubtBeyond_20 : decode cX4_doubtBeyond 20 = .ok (.iload_n 1, 1) := by decide +kernel
theorem dX4_doubtBeyond_21 : decode cX4_doubtBeyond 21 = .ok (.iaload, 1) := by decide +kernel
theorem dX4_doubtBeyond_22 : decode cX4_doubtBeyond 22 = .ok (.iaload, 1) := by decide +kernel
theorem dX4_doubtBeyond_23 : decode cX4_doubtBeyond 23 = .ok (.istore_n 3, 1) := by decide +kernel
theorem dX4_doubtBeyond_24 : decode cX4_doubtBeyond 24 = .ok (.iload_n 2, 1) := by decide +kernel
theorem dX4_doubtBeyond_25 : decode cX4_doubtBeyond 25 = .ok (.iconst (-1), 1) := by decide +kernel
theorem dX4_doubtBeyond_26 : decode cX4_doubtBeyond 26 = .ok (.if_icmp .ne 7, 3) := by decide +kernel
theorem dX4_doubtBeyond_29 : decode cX4_doubtBeyond 29 = .ok (.iconst 1, 1) := by decide +kernel
theorem dX4_doubtBeyond_30 : decode cX4_doubtBeyond 30 = .ok (.goto 4, 3) := by decide +kernel
theorem dX4_doubtBeyond_33 : decode cX4_doubtBeyond 33 = .ok (.iconst 0, 1) := by decide +kernel
theorem dX4_doubtBeyond_34 : decode cX4_doubtBeyond 34 = .ok (.iload_n 3, 1) := by decide +kernel
theorem dX4_doubtBeyond_35 : decode cX4_doubtBeyond 35 = .ok (.iconst (-1), 1) := by decide +kernel
theorem dX4_doubtBeyond_36 : decode cX4_doubtBeyond 36 = .ok (.if_icmp .ne 7, 3) := by decide +kernel
theorem dX4_doubtBeyond_39 : decode cX4_doubtBeyond 39 = .ok (.iconst 1, 1) := by decide +kernel
theorem dX4_doubtBeyond_40 : decode cX4_doubtBeyond 40 = .ok (.goto 4, 3) := by decide +kernel
theorem dX4_doubtBeyond_43 : decode cX4_doubtBeyond 43 = .ok (.iconst 0, 1) := by decide +kernel
theorem dX4_doubtBeyond_44 : decode cX4_doubtBeyond 44 = .ok (.if_icmp .ne 5, 3) := by decide +kernel
theorem dX4_doubtBeyond_47 : decode cX4_doubtBeyond 47 = .ok (.iconst (-1), 1) := by decide +kernel
theorem dX4_doubtBeyond_48 : decode cX4_doubtBeyond 48 = .ok (.ireturn, 1) := by decide +kernel
theorem dX4_doubtBeyond_49 : decode cX4_doubtBeyond 49 = .ok (.iload_n 2, 1) := by decide +kernel
theorem dX4_doubtBeyond_50 : decode cX4_doubtBeyond 50 = .ok (.iconst (-1), 1) := by decide +kernel
theorem dX4_doubtBeyond_51 : decode cX4_doubtBeyond 51 = .ok (.if_icmp .ne 7, 3) := by decide +kernel
theorem dX4_doubtBeyond_54 : decode cX4_doubtBeyond 54 = .ok (.iload_n 3, 1) := by decide +kernel
theorem dX4_doubtBeyond_55 : decode cX4_doubtBeyond 55 = .ok (.goto 4, 3) := by decide +kernel
theorem dX4_doubtBeyond_58 : decode cX4_doubtBeyond 58 = .ok (.iload_n 2, 1) := by decide +kernel
theorem dX4_doubtBeyond_59 : decode cX4_doubtBeyond 59 = .ok (.aload_n 0, 1) := by decide +kernel
theorem dX4_doubtBeyond_60 : decode cX4_doubtBeyond 60 = .ok (.getfield 21, 3) := by decide +kernel
theorem dX4_doubtBeyond_63 : decode cX4_doubtBeyond 63 = .ok (.iload_n 1, 1) := by decide +kernel
theorem dX4_doubtBeyond_64 : decode cX4_doubtBeyond 64 = .ok (.iaload, 1) := by decide +kernel
theorem dX4_doubtBeyond_65 : decode cX4_doubtBeyond 65 = .ok (.iadd, 1) := by decide +kernel
theorem dX4_doubtBeyond_66 : decode cX4_doubtBeyond 66 = .ok (.ireturn, 1) := by decide +kernel
theorem dX4_goAlong_0 : decode cX4_goAlong 0 = .ok (.aload_n 0, 1) := by decide +kernel
theorem dX4_goAlong_1 : decode cX4_goAlong 1 = .ok (.getfield 9, 3) := by decide +kernel
theorem dX4_goAlong_4 : decode cX4_goAlong 4 = .ok (.iload_n 1, 1) := by decide +kernel
theorem dX4_goAlong_5 : decode cX4_goAlong 5 = .ok (.iaload, 1) := by decide +kernel
theorem dX4_goAlong_6 : decode cX4_goAlong 6 = .ok (.istore_n 2, 1) := by decide +kernel
theorem dX4_goAlong_7 : decode cX4_goAlong 7 = .ok (.aload_n 0, 1) := by decide +kernel
theorem dX4_goAlong_8 : decode cX4_goAlong 8 = .ok (.getfield 15, 3) := by decide +kernel
theorem dX4_goAlong_11 : decode cX4_goAlong 11 = .ok (.iload_n 1, 1) := by decide +kernel
theorem dX4_goAlong_12 : decode cX4_goAlong 12 = .ok (.iaload, 1) := by decide +kernel
theorem dX4_goAlong_13 : decode cX4_goAlong 13 = .ok (.istore_n 3, 1) := by decide +kernel
theorem dX4_goAlong_14 : decode cX4_goAlong 14 = .ok (.aload_n 0, 1) := by decide +kernel
theorem dX4_goAlong_15 : decode cX4_goAlong 15 = .ok (.getfield 27, 3) := by decide +kernel
theorem dX4_goAlong_18 : decode cX4_goAlong 18 = .ok (.iload_n 3, 1) := by decide +kernel
theorem dX4_goAlong_19 : decode cX4_goAlong 19 = .ok (.iaload, 1) := by decide +kernel
theorem dX4_goAlong_20 : decode cX4_goAlong 20 = .ok (.iconst (-1), 1) := by decide +kernel
theorem dX4_goAlong_21 : decode cX4_goAlong 21 = .ok (.if_icmp .ne 44, 3) := by decide +kernel
theorem dX4_goAlong_24 : decode cX4_goAlong 24 = .ok (.aload_n 0, 1) := by decide +kernel
theorem dX4_goAlong_25 : decode cX4_goAlong 25 = .ok (.getfield 27, 3) := by decide +kernel
theorem dX4_goAlong_28 : decode cX4_goAlong 28 = .ok (.iload_n 3, 1) := by decide +kernel
theorem dX4_goAlong_29 : decode cX4_goAlong 29 = .ok (.aload_n 0, 1) := by decide +kernel
theorem dX4_goAlong_30 : decode cX4_goAlong 30 = .ok (.getfield 27, 3) := by decide +kernel
theorem dX4_goAlong_33 : decode cX4_goAlong 33 = .ok (.iload_n 2, 1) := by decide +kernel
theorem dX4_goAlong_34 : decode cX4_goAlong 34 = .ok (.iaload, 1) := by decide +kernel
theorem dX4_goAlong_35 : decode cX4_goAlong 35 = .ok (.aload_n 0, 1) := by decide +kernel
theorem dX4_goAlong_36 : decode cX4_goAlong 36 = .ok (.getfield 21, 3) := by decide +kernel
theorem dX4_goAlong_39 : decode cX4_goAlong 39 = .ok (.iload_n 1, 1) := by decide +kernel
theorem dX4_goAlong_40 : decode cX4_goAlong 40 = .ok (.iaload, 1) := by decide +kernel
theorem dX4_goAlong_41 : decode cX4_goAlong 41 = .ok (.iadd, 1) := by decide +kernel
theorem dX4_goAlong_42 : decode cX4_goAlong 42 = .ok (.iastore, 1) := by decide +kernel
theorem dX4_goAlong_43 : decode cX4_goAlong 43 = .ok (.aload_n 0, 1) := by decide +kernel
theorem dX4_goAlong_44 : decode cX4_goAlong 44 = .ok (.getfield 24, 3) := by decide +kernel
theorem dX4_goAlong_47 : decode cX4_goAlong 47 = .ok (.iload_n 3, 1) := by decide +kernel
theorem dX4_goAlong_48 : decode cX4_goAlong 48 = .ok (.aload_n 0, 1) := by decide +kernel
theorem dX4_goAlong_49 : decode cX4_goAlong 49 = .ok (.getfield 24, 3) := by decide +kernel
theorem dX4_goAlong_52 : decode cX4_goAlong 52 = .ok (.iload_n 2, 1) := by decide +kernel
theorem dX4_goAlong_53 : decode cX4_goAlong 53 = .ok (.iaload, 1) := by decide +kernel
theorem dX4_goAlong_54 : decode cX4_goAlong 54 = .ok (.aload_n 0, 1) := by decide +kernel
theorem dX4_goAlong_55 : decode cX4_goAlong 55 = .ok (.getfield 18, 3) := by decide +kernel
theorem dX4_goAlong_58 : decode cX4_goAlong 58 = .ok (.iload_n 1, 1) := by decide +kernel
theorem dX4_goAlong_59 : decode cX4_goAlong 59 = .ok (.iaload, 1) := by decide +kernel
theorem dX4_goAlong_60 : decode cX4_goAlong 60 = .ok (.iadd, 1) := by decide +kernel
theorem dX4_goAlong_61 : decode cX4_goAlong 61 = .ok (.iastore, 1) := by decide +kernel
theorem dX4_goAlong_62 : decode cX4_goAlong 62 = .ok (.goto 41, 3) := by decide +kernel
theorem dX4_goAlong_65 : decode cX4_goAlong 65 = .ok (.aload_n 0, 1) := by decide +kernel
theorem dX4_goAlong_66 : decode cX4_goAlong 66 = .ok (.getfield 27, 3) := by decide +kernel
theorem dX4_goAlong_69 : decode cX4_goAlong 69 = .ok (.iload_n 2, 1) := by decide +kernel
theorem dX4_goAlong_70 : decode cX4_goAlong 70 = .ok (.aload_n 0, 1) := by decide +kernel
theorem dX4_goAlong_71 : decode cX4_goAlong 71 = .ok (.getfield 27, 3) := by decide +kernel
theorem dX4_goAlong_74 : decode cX4_goAlong 74 = .ok (.iload_n 3, 1) := by decide +kernel
theorem dX4_goAlong_75 : decode cX4_goAlong 75 = .ok (.iaload, 1) := by decide +kernel
theorem dX4_goAlong_76 : decode cX4_goAlong 76 = .ok (.aload_n 0, 1) := by decide +kernel
theorem dX4_goAlong_77 : decode cX4_goAlong 77 = .ok (.getfield 21, 3) := by decide +kernel
theorem dX4_goAlong_80 : decode cX4_goAlong 80 = .ok (.iload_n 1, 1) := by decide +kernel
theorem dX4_goAlong_81 : decode cX4_goAlong 81 = .ok (.iaload, 1) := by decide +kernel
theorem dX4_goAlong_82 : decode cX4_goAlong 82 = .ok (.iadd, 1) := by decide +kernel
theorem dX4_goAlong_83 : decode cX4_goAlong 83 = .ok (.iastore, 1) := by decide +kernel
theorem dX4_goAlong_84 : decode cX4_goAlong 84 = .ok (.aload_n 0, 1) := by decide +kernel
theorem dX4_goAlong_85 : decode cX4_goAlong 85 = .ok (.getfield 24, 3) := by decide +kernel
theorem dX4_goAlong_88 : decode cX4_goAlong 88 = .ok (.iload_n 2, 1) := by decide +kernel
theorem dX4_goAlong_89 : decode cX4_goAlong 89 = .ok (.aload_n 0, 1) := by decide +kernel
theorem dX4_goAlong_90 : decode cX4_goAlong 90 = .ok (.getfield 24, 3) := by decide +kernel
theorem dX4_goAlong_93 : decode cX4_goAlong 93 = .ok (.iload_n 3, 1) := by decide +kernel
theorem dX4_goAlong_94 : decode cX4_goAlong 94 = .ok (.iaload, 1) := by decide +kernel
theorem dX4_goAlong_95 : decode cX4_goAlong 95 = .ok (.aload_n 0, 1) := by decide +kernel
theorem dX4_goAlong_96 : decode cX4_goAlong 96 = .ok (.getfield 18, 3) := by decide +kernel
theorem dX4_goAlong_99 : decode cX4_goAlong 99 = .ok (.iload_n 1, 1) := by decide +kernel
theorem dX4_goAlong_100 : decode cX4_goAlong 100 = .ok (.iaload, 1) := by decide +kernel
theorem dX4_goAlong_101 : decode cX4_goAlong 101 = .ok (.isub, 1) := by decide +kernel
theorem dX4_goAlong_102 : decode cX4_goAlong 102 = .ok (.iastore, 1) := by decide +kernel
theorem dX4_goAlong_103 : decode cX4_goAlong 103 = .ok (.return_, 1) := by decide +kernel
theorem dX4_contradicts_0 : decode cX4_contradicts 0 = .ok (.aload_n 0, 1) := by decide +kernel
theorem dX4_contradicts_1 : decode cX4_contradicts 1 = .ok (.getfield 9, 3) := by decide +kernel
theorem dX4_contradicts_4 : decode cX4_contradicts 4 = .ok (.iload_n 1, 1) := by decide +kernel
theorem dX4_contradicts_5 : decode cX4_contradicts 5 = .ok (.iaload, 1) := by decide +kernel
theorem dX4_contradicts_6 : decode cX4_contradicts 6 = .ok (.istore_n 2, 1) := by decide +kernel
theorem dX4_contradicts_7 : decode cX4_contradicts 7 = .ok (.aload_n 0, 1) := by decide +kernel
theorem dX4_contradicts_8 : decode cX4_contradicts 8 = .ok (.getfield 15, 3) := by decide +kernel
theorem dX4_contradicts_11 : decode cX4_contradicts 11 = .ok (.iload_n 1, 1) := by decide +kernel
theorem dX4_contradicts_12 : decode cX4_contradicts 12 = .ok (.iaload, 1) := by decide +kernel
theorem dX4_contradicts_13 : decode cX4_contradicts 13 = .ok (.istore_n 3, 1) := by decide +kernel
theorem dX4_contradicts_14 : decode cX4_contradicts 14 = .ok (.aload_n 0, 1) := by decide +kernel
theorem dX4_contradicts_15 : decode cX4_contradicts 15 = .ok (.getfield 27, 3) := by decide +kernel
theorem dX4_contradicts_18 : decode cX4_contradicts 18 = .ok (.iload_n 2, 1) := by decide +kernel
theorem dX4_contradicts_19 : decode cX4_contradicts 19 = .ok (.iaload, 1) := by decide +kernel
theorem dX4_contradicts_20 : decode cX4_contradicts 20 = .ok (.iconst (-1), 1) := by decide +kernel
theorem dX4_contradicts_21 : decode cX4_contradicts 21 = .ok (.if_icmp .eq 13, 3) := by decide +kernel
theorem dX4_contradicts_24 : decode cX4_contradicts 24 = .ok (.aload_n 0, 1) := by decide +kernel
theorem dX4_contradicts_25 : decode cX4_contradicts 25 = .ok (.getfield 27, 3) := by decide +kernel
theorem dX4_contradicts_28 : decode cX4_contradicts 28 = .ok (.iload_n 3, 1) := by decide +kernel
theorem dX4_contradicts_29 : decode cX4_contradicts 29 = .ok (.iaload, 1) := by decide +kernel
theorem dX4_contradicts_30 : decode cX4_contradicts 30 = .ok (.iconst (-1), 1) := by decide +kernel
theorem dX4_contradicts_31 : decode cX4_contradicts 31 = .ok (.if_icmp .ne 5, 3) := by decide +kernel
theorem dX4_contradicts_34 : decode cX4_contradicts 34 = .ok (.iconst 0, 1) := by decide +kernel
theorem dX4_contradicts_35 : decode cX4_contradicts 35 = .ok (.ireturn, 1) := by decide +kernel
theorem dX4_contradicts_36 : decode cX4_contradicts 36 = .ok (.aload_n 0, 1) := by decide +kernel
theorem dX4_contradicts_37 : decode cX4_contradicts 37 = .ok (.getfield 18, 3) := by decide +kernel
theorem dX4_contradicts_40 : decode cX4_contradicts 40 = .ok (.iload_n 1, 1) := by decide +kernel
theorem dX4_contradicts_41 : decode cX4_contradicts 41 = .ok (.iaload, 1) := by decide +kernel
theorem dX4_contradicts_42 : decode cX4_contradicts 42 = .ok (.aload_n 0, 1) := by decide +kernel
theorem dX4_contradicts_43 : decode cX4_contradicts 43 = .ok (.getfield 24, 3) := by decide +kernel
theorem dX4_contradicts_46 : decode cX4_contradicts 46 = .ok (.iload_n 3, 1) := by decide +kernel
theorem dX4_contradicts_47 : decode cX4_contradicts 47 = .ok (.iaload, 1) := by decide +kernel
theorem dX4_contradicts_48 : decode cX4_contradicts 48 = .ok (.aload_n 0, 1) := by decide +kernel
theorem dX4_contradicts_49 : decode cX4_contradicts 49 = .ok (.getfield 24, 3) := by decide +kernel
theorem dX4_contradicts_52 : decode cX4_contradicts 52 = .ok (.iload_n 2, 1) := by decide +kernel
theorem dX4_contradicts_53 : decode cX4_contradicts 53 = .ok (.iaload, 1) := by decide +kernel
theorem dX4_contradicts_54 : decode cX4_contradicts 54 = .ok (.isub, 1) := by decide +kernel
theorem dX4_contradicts_55 : decode cX4_contradicts 55 = .ok (.isub, 1) := by decide +kernel
theorem dX4_contradicts_56 : decode cX4_contradicts 56 = .ok (.invokestatic 56, 3) := by decide +kernel
theorem dX4_contradicts_59 : decode cX4_contradicts 59 = .ok (.istore 4, 2) := by decide +kernel
theorem dX4_contradicts_61 : decode cX4_contradicts 61 = .ok (.iload 4, 2) := by decide +kernel
theorem dX4_contradicts_63 : decode cX4_contradicts 63 = .ok (.aload_n 0, 1) := by decide +kernel
theorem dX4_contradicts_64 : decode cX4_contradicts 64 = .ok (.getfield 21, 3) := by decide +kernel
theorem dX4_contradicts_67 : decode cX4_contradicts 67 = .ok (.iload_n 1, 1) := by decide +kernel
theorem dX4_contradicts_68 : decode cX4_contradicts 68 = .ok (.iaload, 1) := by decide +kernel
theorem dX4_contradicts_69 : decode cX4_contradicts 69 = .ok (.aload_n 0, 1) := by decide +kernel
theorem dX4_contradicts_70 : decode cX4_contradicts 70 = .ok (.getfield 27, 3) := by decide +kernel
theorem dX4_contradicts_73 : decode cX4_contradicts 73 = .ok (.iload_n 2, 1) := by decide +kernel
theorem dX4_contradicts_74 : decode cX4_contradicts 74 = .ok (.iaload, 1) := by decide +kernel
theorem dX4_contradicts_75 : decode cX4_contradicts 75 = .ok (.iadd, 1) := by decide +kernel
theorem dX4_contradicts_76 : decode cX4_contradicts 76 = .ok (.aload_n 0, 1) := by decide +kernel
theorem dX4_contradicts_77 : decode cX4_contradicts 77 = .ok (.getfield 27, 3) := by decide +kernel
theorem dX4_contradicts_80 : decode cX4_contradicts 80 = .ok (.iload_n 3, 1) := by decide +kernel
theorem dX4_contradicts_81 : decode cX4_contradicts 81 = .ok (.iaload, 1) := by decide +kernel
theorem dX4_contradicts_82 : decode cX4_contradicts 82 = .ok (.iadd, 1) := by decide +kernel
theorem dX4_contradicts_83 : decode cX4_contradicts 83 = .ok (.if_icmp .le 7, 3) := by decide +kernel
theorem dX4_contradicts_86 : decode cX4_contradicts 86 = .ok (.iconst 1, 1) := by decide +kernel
theorem dX4_contradicts_87 : decode cX4_contradicts 87 = .ok (.goto 4, 3) := by decide +kernel
theorem dX4_contradicts_90 : decode cX4_contradicts 90 = .ok (.iconst 0, 1) := by decide +kernel
theorem dX4_contradicts_91 : decode cX4_contradicts 91 = .ok (.ireturn, 1) := by decide +kernel
set_option maxRecDepth 20000 in
theorem ggX4_tryAllLines_X4_knowOnlyFirst : GoodIn wsX4_tryAllLines wsX4_knowOnlyFirst := goodIn_r _ [6] (by decide +kernel) (by decide +kernel)
set_option maxRecDepth 20000 in
theorem gX4_tryAllLines_X4_knowOnlyFirst : GoodIn wsX4_tryAllLines (va_wsS RX4 40 yX4_knowOnlyFirst wsX4_knowOnlyFirst) := goodIn_app (goodIn_of _ (by decide +kernel)) ggX4_tryAllLines_X4_knowOnlyFirst
set_option maxRecDepth 20000 in
theorem ggX4_tryAllLines_X4_tryEachLine : GoodIn wsX4_tryAllLines wsX4_tryEachLine := goodIn_r _ [10, 11, 12, 13, 14, 15, 16, 17, 5, 18, 1, 19, 20, 21, 22, 23, 24, 25, 26, 27] (by decide +kernel) (by decide +kernel)
set_option maxRecDepth 20000 in
theorem gX4_tryAllLines_X4_tryEachLine : GoodIn wsX4_tryAllLines (wsV RX4 61 RX4 yX4_tryEachLine wsX4_tryEachLine) := goodIn_app (goodIn_of _ (by decide +kernel)) ggX4_tryAllLines_X4_tryEachLine
theorem dX4_tryAllLines_0 : decode cX4_tryAllLines 0 = .ok (.aload_n 0, 1) := by decide +kernel
theorem dX4_tryAllLines_1 : decode cX4_tryAllLines 1 = .ok (.getfield 30, 3) := by decide +kernel
theorem dX4_tryAllLines_4 : decode cX4_tryAllLines 4 = .ok (.invokestatic 40, 3) := by decide +kernel
theorem dX4_tryAllLines_7 : decode cX4_tryAllLines 7 = .ok (.iconst 1, 1) := by decide +kernel
theorem dX4_tryAllLines_8 : decode cX4_tryAllLines 8 = .ok (.istore_n 1, 1) := by decide +kernel
theorem dX4_tryAllLines_9 : decode cX4_tryAllLines 9 = .ok (.iconst 0, 1) := by decide +kernel
theorem dX4_tryAllLines_10 : decode cX4_tryAllLines 10 = .ok (.istore_n 2, 1) := by decide +kernel
theorem dX4_tryAllLines_11 : decode cX4_tryAllLines 11 = .ok (.iload_n 2, 1) := by decide +kernel
theorem dX4_tryAllLines_12 : decode cX4_tryAllLines 12 = .ok (.aload_n 0, 1) := by decide +kernel
theorem dX4_tryAllLines_13 : decode cX4_tryAllLines 13 = .ok (.getfield 33, 3) := by decide +kernel
theorem dX4_tryAllLines_16 : decode cX4_tryAllLines 16 = .ok (.if_icmp .ge 18, 3) := by decide +kernel
theorem dX4_tryAllLines_19 : decode cX4_tryAllLines 19 = .ok (.iload_n 1, 1) := by decide +kernel
theorem dX4_tryAllLines_20 : decode cX4_tryAllLines 20 = .ok (.ifCond .eq 14, 3) := by decide +kernel
theorem dX4_tryAllLines_23 : decode cX4_tryAllLines 23 = .ok (.aload_n 0, 1) := by decide +kernel
theorem dX4_tryAllLines_24 : decode cX4_tryAllLines 24 = .ok (.invokevirtual 61, 3) := by decide +kernel
theorem dX4_tryAllLines_27 : decode cX4_tryAllLines 27 = .ok (.istore_n 1, 1) := by decide +kernel
theorem dX4_tryAllLines_28 : decode cX4_tryAllLines 28 = .ok (.iinc 2 1, 3) := by decide +kernel
theorem dX4_tryAllLines_31 : decode cX4_tryAllLines 31 = .ok (.goto (-20), 3) := by decide +kernel
theorem dX4_tryAllLines_34 : decode cX4_tryAllLines 34 = .ok (.return_, 1) := by decide +kernel
set_option maxRecDepth 20000 in
theorem ggX4_tryEachLine_X4_makesLess : GoodIn wsX4_tryEachLine wsX4_makesLess := goodIn_r _ [9, 10, 11, 12, 13, 14, 15, 16, 17, 18, 19] (by decide +kernel) (by decide +kernel)
set_option maxRecDepth 20000 in
theorem gX4_tryEachLine_X4_makesLess : GoodIn wsX4_tryEachLine (wsV RX4 65 RX4 yX4_makesLess wsX4_makesLess) := goodIn_app (goodIn_of _ (by decide +kernel)) ggX4_tryEachLine_X4_makesLess
theorem dX4_tryEachLine_0 : decode cX4_tryEachLine 0 = .ok (.iconst 0, 1) := by decide +kernel
theorem dX4_tryEachLine_1 : decode cX4_tryEachLine 1 = .ok (.istore_n 1, 1) := by decide +kernel
theorem dX4_tryEachLine_2 : decode cX4_tryEachLine 2 = .ok (.iconst 0, 1) := by decide +kernel
theorem dX4_tryEachLine_3 : decode cX4_tryEachLine 3 = .ok (.istore_n 2, 1) := by decide +kernel
theorem dX4_tryEachLine_4 : decode cX4_tryEachLine 4 = .ok (.iload_n 2, 1) := by decide +kernel
theorem dX4_tryEachLine_5 : decode cX4_tryEachLine 5 = .ok (.aload_n 0, 1) := by decide +kernel
theorem dX4_tryEachLine_6 : decode cX4_tryEachLine 6 = .ok (.getfield 37, 3) := by decide +kernel
theorem dX4_tryEachLine_9 : decode cX4_tryEachLine 9 = .ok (.if_icmp .ge 61, 3) := by decide +kernel
theorem dX4_tryEachLine_12 : decode cX4_tryEachLine 12 = .ok (.aload_n 0, 1) := by decide +kernel
theorem dX4_tryEachLine_13 : decode cX4_tryEachLine 13 = .ok (.aload_n 0, 1) := by decide +kernel
theorem dX4_tryEachLine_14 : decode cX4_tryEachLine 14 = .ok (.getfield 9, 3) := by decide +kernel
theorem dX4_tryEachLine_17 : decode cX4_tryEachLine 17 = .ok (.iload_n 2, 1) := by decide +kernel
theorem dX4_tryEachLine_18 : decode cX4_tryEachLine 18 = .ok (.iaload, 1) := by decide +kernel
theorem dX4_tryEachLine_19 : decode cX4_tryEachLine 19 = .ok (.aload_n 0, 1) := by decide +kernel
theorem dX4_tryEachLine_20 : decode cX4_tryEachLine 20 = .ok (.getfield 15, 3) := by decide +kernel
theorem dX4_tryEachLine_23 : decode cX4_tryEachLine 23 = .ok (.iload_n 2, 1) := by decide +kernel
theorem dX4_tryEachLine_24 : decode cX4_tryEachLine 24 = .ok (.iaload, 1) := by decide +kernel
theorem dX4_tryEachLine_25 : decode cX4_tryEachLine 25 = .ok (.aload_n 0, 1) := by decide +kernel
theorem dX4_tryEachLine_26 : decode cX4_tryEachLine 26 = .ok (.getfield 21, 3) := by decide +kernel
theorem dX4_tryEachLine_29 : decode cX4_tryEachLine 29 = .ok (.iload_n 2, 1) := by decide +kernel
theorem dX4_tryEachLine_30 : decode cX4_tryEachLine 30 = .ok (.iaload, 1) := by decide +kernel
theorem dX4_tryEachLine_31 : decode cX4_tryEachLine 31 = .ok (.invokevirtual 65, 3) := by decide +kernel
theorem dX4_tryEachLine_34 : decode cX4_tryEachLine 34 = .ok (.ifCond .ne 28, 3) := by decide +kernel
theorem dX4_tryEachLine_37 : decode cX4_tryEachLine 37 = .ok (.aload_n 0, 1) := by decide +kernel
theorem dX4_tryEachLine_38 : decode cX4_tryEachLine 38 = .ok (.aload_n 0, 1) := by decide +kernel
theorem dX4_tryEachLine_39 : decode cX4_tryEachLine 39 = .ok (.getfield 15, 3) := by decide +kernel
theorem dX4_tryEachLine_42 : decode cX4_tryEachLine 42 = .ok (.iload_n 2, 1) := by decide +kernel
theorem dX4_tryEachLine_43 : decode cX4_tryEachLine 43 = .ok (.iaload, 1) := by decide +kernel
theorem dX4_tryEachLine_44 : decode cX4_tryEachLine 44 = .ok (.aload_n 0, 1) := by decide +kernel
theorem dX4_tryEachLine_45 : decode cX4_tryEachLine 45 = .ok (.getfield 9, 3) := by decide +kernel
theorem dX4_tryEachLine_48 : decode cX4_tryEachLine 48 = .ok (.iload_n 2, 1) := by decide +kernel
theorem dX4_tryEachLine_49 : decode cX4_tryEachLine 49 = .ok (.iaload, 1) := by decide +kernel
theorem dX4_tryEachLine_50 : decode cX4_tryEachLine 50 = .ok (.aload_n 0, 1) := by decide +kernel
theorem dX4_tryEachLine_51 : decode cX4_tryEachLine 51 = .ok (.getfield 21, 3) := by decide +kernel
theorem dX4_tryEachLine_54 : decode cX4_tryEachLine 54 = .ok (.iload_n 2, 1) := by decide +kernel
theorem dX4_tryEachLine_55 : decode cX4_tryEachLine 55 = .ok (.iaload, 1) := by decide +kernel
theorem dX4_tryEachLine_56 : decode cX4_tryEachLine 56 = .ok (.invokevirtual 65, 3) := by decide +kernel
theorem dX4_tryEachLine_59 : decode cX4_tryEachLine 59 = .ok (.ifCond .eq 5, 3) := by decide +kernel
theorem dX4_tryEachLine_62 : decode cX4_tryEachLine 62 = .ok (.iconst 1, 1) := by decide +kernel
theorem dX4_tryEachLine_63 : decode cX4_tryEachLine 63 = .ok (.istore_n 1, 1) := by decide +kernel
theorem dX4_tryEachLine_64 : decode cX4_tryEachLine 64 = .ok (.iinc 2 1, 3) := by decide +kernel
theorem dX4_tryEachLine_67 : decode cX4_tryEachLine 67 = .ok (.goto (-63), 3) := by decide +kernel
theorem dX4_tryEachLine_70 : decode cX4_tryEachLine 70 = .ok (.iload_n 1, 1) := by decide +kernel
theorem dX4_tryEachLine_71 : decode cX4_tryEachLine 71 = .ok (.ireturn, 1) := by decide +kernel
theorem dX4_makesLess_0 : decode cX4_makesLess 0 = .ok (.aload_n 0, 1) := by decide +kernel
theorem dX4_makesLess_1 : decode cX4_makesLess 1 = .ok (.getfield 30, 3) := by decide +kernel
