theorem dX4_makesLess_4 : decode cX4_makesLess 4 = .ok (.iload_n 1, 1) := by decide +kernel
theorem dX4_makesLess_5 : decode cX4_makesLess 5 = .ok (.iaload, 1) := by decide +kernel
theorem dX4_makesLess_6 : decode cX4_makesLess 6 = .ok (.iconst (-1), 1) := by decide +kernel
theorem dX4_makesLess_7 : decode cX4_makesLess 7 = .ok (.if_icmp .ne 5, 3) := by decide +kernel
theorem dX4_makesLess_10 : decode cX4_makesLess 10 = .ok (.iconst 0, 1) := by decide +kernel
theorem dX4_makesLess_11 : decode cX4_makesLess 11 = .ok (.ireturn, 1) := by decide +kernel
theorem dX4_makesLess_12 : decode cX4_makesLess 12 = .ok (.aload_n 0, 1) := by decide +kernel
theorem dX4_makesLess_13 : decode cX4_makesLess 13 = .ok (.getfield 30, 3) := by decide +kernel
theorem dX4_makesLess_16 : decode cX4_makesLess 16 = .ok (.iload_n 1, 1) := by decide +kernel
theorem dX4_makesLess_17 : decode cX4_makesLess 17 = .ok (.iaload, 1) := by decide +kernel
theorem dX4_makesLess_18 : decode cX4_makesLess 18 = .ok (.iload_n 3, 1) := by decide +kernel
theorem dX4_makesLess_19 : decode cX4_makesLess 19 = .ok (.iadd, 1) := by decide +kernel
theorem dX4_makesLess_20 : decode cX4_makesLess 20 = .ok (.istore 4, 2) := by decide +kernel
theorem dX4_makesLess_22 : decode cX4_makesLess 22 = .ok (.aload_n 0, 1) := by decide +kernel
theorem dX4_makesLess_23 : decode cX4_makesLess 23 = .ok (.getfield 30, 3) := by decide +kernel
theorem dX4_makesLess_26 : decode cX4_makesLess 26 = .ok (.iload_n 2, 1) := by decide +kernel
theorem dX4_makesLess_27 : decode cX4_makesLess 27 = .ok (.iaload, 1) := by decide +kernel
theorem dX4_makesLess_28 : decode cX4_makesLess 28 = .ok (.iconst (-1), 1) := by decide +kernel
theorem dX4_makesLess_29 : decode cX4_makesLess 29 = .ok (.if_icmp .eq 16, 3) := by decide +kernel
theorem dX4_makesLess_32 : decode cX4_makesLess 32 = .ok (.aload_n 0, 1) := by decide +kernel
theorem dX4_makesLess_33 : decode cX4_makesLess 33 = .ok (.getfield 30, 3) := by decide +kernel
theorem dX4_makesLess_36 : decode cX4_makesLess 36 = .ok (.iload_n 2, 1) := by decide +kernel
theorem dX4_makesLess_37 : decode cX4_makesLess 37 = .ok (.iaload, 1) := by decide +kernel
theorem dX4_makesLess_38 : decode cX4_makesLess 38 = .ok (.iload 4, 2) := by decide +kernel
theorem dX4_makesLess_40 : decode cX4_makesLess 40 = .ok (.if_icmp .gt 5, 3) := by decide +kernel
theorem dX4_makesLess_43 : decode cX4_makesLess 43 = .ok (.iconst 0, 1) := by decide +kernel
theorem dX4_makesLess_44 : decode cX4_makesLess 44 = .ok (.ireturn, 1) := by decide +kernel
theorem dX4_makesLess_45 : decode cX4_makesLess 45 = .ok (.aload_n 0, 1) := by decide +kernel
theorem dX4_makesLess_46 : decode cX4_makesLess 46 = .ok (.getfield 30, 3) := by decide +kernel
theorem dX4_makesLess_49 : decode cX4_makesLess 49 = .ok (.iload_n 2, 1) := by decide +kernel
theorem dX4_makesLess_50 : decode cX4_makesLess 50 = .ok (.iload 4, 2) := by decide +kernel
theorem dX4_makesLess_52 : decode cX4_makesLess 52 = .ok (.iastore, 1) := by decide +kernel
theorem dX4_makesLess_53 : decode cX4_makesLess 53 = .ok (.iconst 1, 1) := by decide +kernel
theorem dX4_makesLess_54 : decode cX4_makesLess 54 = .ok (.ireturn, 1) := by decide +kernel
set_option maxRecDepth 20000 in
theorem ggX5_init_X1_init : GoodIn wsX5_init wsX1_init := goodIn_r _ [26, 27, 2, 3, 28, 29, 30, 31, 63, 64, 65] (by decide +kernel) (by decide +kernel)
set_option maxRecDepth 20000 in
theorem gX5_init_X1_init_n11 : GoodIn wsX5_init (wsX1_init) := ggX5_init_X1_init
set_option maxRecDepth 20000 in
theorem ggX5_init_X2_init : GoodIn wsX5_init wsX2_init := goodIn_r _ [33, 34, 2, 3, 35, 36, 72, 73] (by decide +kernel) (by decide +kernel)
set_option maxRecDepth 20000 in
theorem gX5_init_X2_init_n18 : GoodIn wsX5_init (wsX2_init) := ggX5_init_X2_init
set_option maxRecDepth 20000 in
theorem ggX5_init_X3_init : GoodIn wsX5_init wsX3_init := goodIn_r _ [38, 39, 2, 3, 40, 41, 42, 43, 44, 74, 75, 76, 77] (by decide +kernel) (by decide +kernel)
set_option maxRecDepth 20000 in
theorem gX5_init_X3_init_n25 : GoodIn wsX5_init (wsX3_init) := ggX5_init_X3_init
set_option maxRecDepth 20000 in
theorem ggX5_init_X4_init : GoodIn wsX5_init wsX4_init := goodIn_r _ [46, 47, 2, 3, 40, 48, 49, 50, 51, 52, 53, 54, 55, 56, 78, 79, 80, 81, 82, 83, 84, 85, 86] (by decide +kernel) (by decide +kernel)
set_option maxRecDepth 20000 in
theorem gX5_init_X4_init_n32 : GoodIn wsX5_init (wsX4_init) := ggX5_init_X4_init
set_option maxRecDepth 20000 in
theorem ggX5_init_X0_init : GoodIn wsX5_init wsX0_init := goodIn_r _ [58, 59, 2, 3, 28, 60, 40, 61, 62, 87, 88, 89] (by decide +kernel) (by decide +kernel)
set_option maxRecDepth 20000 in
theorem gX5_init_X0_init_n39 : GoodIn wsX5_init (wsX0_init) := ggX5_init_X0_init
theorem dX5_init_0 : decode cX5_init 0 = .ok (.aload_n 0, 1) := by decide +kernel
theorem dX5_init_1 : decode cX5_init 1 = .ok (.invokespecial 3, 3) := by decide +kernel
theorem dX5_init_4 : decode cX5_init 4 = .ok (.aload_n 0, 1) := by decide +kernel
theorem dX5_init_5 : decode cX5_init 5 = .ok (.new 9, 3) := by decide +kernel
theorem dX5_init_8 : decode cX5_init 8 = .ok (.dup, 1) := by decide +kernel
theorem dX5_init_9 : decode cX5_init 9 = .ok (.invokespecial 11, 3) := by decide +kernel
theorem dX5_init_12 : decode cX5_init 12 = .ok (.putfield 12, 3) := by decide +kernel
theorem dX5_init_15 : decode cX5_init 15 = .ok (.aload_n 0, 1) := by decide +kernel
theorem dX5_init_16 : decode cX5_init 16 = .ok (.new 16, 3) := by decide +kernel
theorem dX5_init_19 : decode cX5_init 19 = .ok (.dup, 1) := by decide +kernel
theorem dX5_init_20 : decode cX5_init 20 = .ok (.invokespecial 18, 3) := by decide +kernel
theorem dX5_init_23 : decode cX5_init 23 = .ok (.putfield 19, 3) := by decide +kernel
theorem dX5_init_26 : decode cX5_init 26 = .ok (.aload_n 0, 1) := by decide +kernel
theorem dX5_init_27 : decode cX5_init 27 = .ok (.new 23, 3) := by decide +kernel
theorem dX5_init_30 : decode cX5_init 30 = .ok (.dup, 1) := by decide +kernel
theorem dX5_init_31 : decode cX5_init 31 = .ok (.invokespecial 25, 3) := by decide +kernel
theorem dX5_init_34 : decode cX5_init 34 = .ok (.putfield 26, 3) := by decide +kernel
theorem dX5_init_37 : decode cX5_init 37 = .ok (.aload_n 0, 1) := by decide +kernel
theorem dX5_init_38 : decode cX5_init 38 = .ok (.new 30, 3) := by decide +kernel
theorem dX5_init_41 : decode cX5_init 41 = .ok (.dup, 1) := by decide +kernel
theorem dX5_init_42 : decode cX5_init 42 = .ok (.invokespecial 32, 3) := by decide +kernel
theorem dX5_init_45 : decode cX5_init 45 = .ok (.putfield 33, 3) := by decide +kernel
theorem dX5_init_48 : decode cX5_init 48 = .ok (.aload_n 0, 1) := by decide +kernel
theorem dX5_init_49 : decode cX5_init 49 = .ok (.new 37, 3) := by decide +kernel
theorem dX5_init_52 : decode cX5_init 52 = .ok (.dup, 1) := by decide +kernel
theorem dX5_init_53 : decode cX5_init 53 = .ok (.invokespecial 39, 3) := by decide +kernel
theorem dX5_init_56 : decode cX5_init 56 = .ok (.putfield 40, 3) := by decide +kernel
theorem dX5_init_59 : decode cX5_init 59 = .ok (.aload_n 0, 1) := by decide +kernel
theorem dX5_init_60 : decode cX5_init 60 = .ok (.iconst 0, 1) := by decide +kernel
theorem dX5_init_61 : decode cX5_init 61 = .ok (.putfield 44, 3) := by decide +kernel
theorem dX5_init_64 : decode cX5_init 64 = .ok (.return_, 1) := by decide +kernel
set_option maxRecDepth 20000 in
theorem ggX5_mass_X5_requireCell : GoodIn wsX5_mass wsX5_requireCell := goodIn_ca (goodIn_r _ [6, 7, 8] (by decide +kernel) (by decide +kernel)) (goodIn_sub (fun _ h => List.mem_cons_of_mem _ (List.mem_append_left _ (List.mem_append_right _ h))) (by decide +kernel))
set_option maxRecDepth 20000 in
theorem gX5_mass_X5_requireCell : GoodIn wsX5_mass (va_wsS RX5 48 yX5_requireCell wsX5_requireCell) := goodIn_app (goodIn_of _ (by decide +kernel)) ggX5_mass_X5_requireCell
set_option maxRecDepth 20000 in
theorem ggX5_mass_X5_requireNumber : GoodIn wsX5_mass wsX5_requireNumber := goodIn_ca (goodIn_r _ [11, 7, 8] (by decide +kernel) (by decide +kernel)) (goodIn_sub (fun _ h => List.mem_cons_of_mem _ (List.mem_append_left _ (List.mem_append_right _ h))) (by decide +kernel))
set_option maxRecDepth 20000 in
theorem gX5_mass_X5_requireNumber : GoodIn wsX5_mass (va_wsS RX5 52 yX5_requireNumber wsX5_requireNumber) := goodIn_app (goodIn_of _ (by decide +kernel)) ggX5_mass_X5_requireNumber
set_option maxRecDepth 20000 in
theorem ggX5_mass_X5_requireRange : GoodIn wsX5_mass wsX5_requireRange := goodIn_ca (goodIn_r _ [14, 15, 16] (by decide +kernel) (by decide +kernel)) (goodIn_sub (fun _ h => List.mem_cons_of_mem _ (List.mem_append_right _ h)) (by decide +kernel))
set_option maxRecDepth 20000 in
theorem gX5_mass_X5_requireRange : GoodIn wsX5_mass (va_wsS RX5 57 yX5_requireRange wsX5_requireRange) := goodIn_app (goodIn_of _ (by decide +kernel)) ggX5_mass_X5_requireRange
set_option maxRecDepth 20000 in
theorem ggX5_mass_X1_putMass : GoodIn wsX5_mass wsX1_putMass := goodIn_r _ [20, 21, 22, 5, 23, 24, 25, 26, 18, 27, 28, 29, 30, 31, 32, 33, 34, 35, 42, 43, 44] (by decide +kernel) (by decide +kernel)
set_option maxRecDepth 20000 in
theorem gX5_mass_X1_putMass_n61 : GoodIn wsX5_mass (wsX1_putMass) := ggX5_mass_X1_putMass
theorem dX5_mass_0 : decode cX5_mass 0 = .ok (.iload_n 1, 1) := by decide +kernel
theorem dX5_mass_1 : decode cX5_mass 1 = .ok (.iload_n 2, 1) := by decide +kernel
theorem dX5_mass_2 : decode cX5_mass 2 = .ok (.invokestatic 48, 3) := by decide +kernel
theorem dX5_mass_5 : decode cX5_mass 5 = .ok (.iload_n 3, 1) := by decide +kernel
theorem dX5_mass_6 : decode cX5_mass 6 = .ok (.iconst 3, 1) := by decide +kernel
theorem dX5_mass_7 : decode cX5_mass 7 = .ok (.invokestatic 52, 3) := by decide +kernel
theorem dX5_mass_10 : decode cX5_mass 10 = .ok (.lload 4, 2) := by decide +kernel
theorem dX5_mass_12 : decode cX5_mass 12 = .ok (.lconst 0, 1) := by decide +kernel
theorem dX5_mass_13 : decode cX5_mass 13 = .ok (.ldc2_w 55, 3) := by decide +kernel
theorem dX5_mass_16 : decode cX5_mass 16 = .ok (.invokestatic 57, 3) := by decide +kernel
theorem dX5_mass_19 : decode cX5_mass 19 = .ok (.aload_n 0, 1) := by decide +kernel
theorem dX5_mass_20 : decode cX5_mass 20 = .ok (.getfield 12, 3) := by decide +kernel
theorem dX5_mass_23 : decode cX5_mass 23 = .ok (.iload_n 1, 1) := by decide +kernel
theorem dX5_mass_24 : decode cX5_mass 24 = .ok (.iload_n 2, 1) := by decide +kernel
theorem dX5_mass_25 : decode cX5_mass 25 = .ok (.iload_n 3, 1) := by decide +kernel
theorem dX5_mass_26 : decode cX5_mass 26 = .ok (.lload 4, 2) := by decide +kernel
theorem dX5_mass_28 : decode cX5_mass 28 = .ok (.invokevirtual 61, 3) := by decide +kernel
theorem dX5_mass_31 : decode cX5_mass 31 = .ok (.lreturn, 1) := by decide +kernel
set_option maxRecDepth 20000 in
theorem ggX5_water_X5_requireCell : GoodIn wsX5_water wsX5_requireCell := goodIn_ca (goodIn_r _ [6, 7, 8] (by decide +kernel) (by decide +kernel)) (goodIn_sub (fun _ h => List.mem_cons_of_mem _ (List.mem_append_left _ (List.mem_append_right _ h))) (by decide +kernel))
set_option maxRecDepth 20000 in
theorem gX5_water_X5_requireCell : GoodIn wsX5_water (va_wsS RX5 48 yX5_requireCell wsX5_requireCell) := goodIn_app (goodIn_of _ (by decide +kernel)) ggX5_water_X5_requireCell
set_option maxRecDepth 20000 in
theorem ggX5_water_X5_requireRange : GoodIn wsX5_water wsX5_requireRange := goodIn_ca (goodIn_r _ [11, 12, 13] (by decide +kernel) (by decide +kernel)) (goodIn_sub (fun _ h => List.mem_cons_of_mem _ (List.mem_append_right _ h)) (by decide +kernel))
set_option maxRecDepth 20000 in
theorem gX5_water_X5_requireRange : GoodIn wsX5_water (va_wsS RX5 57 yX5_requireRange wsX5_requireRange) := goodIn_app (goodIn_of _ (by decide +kernel)) ggX5_water_X5_requireRange
set_option maxRecDepth 20000 in
theorem ggX5_water_X1_putWater : GoodIn wsX5_water wsX1_putWater := goodIn_r _ [17, 18, 19, 5, 20, 21, 22, 23, 15, 24, 25, 26, 27, 28, 29, 30, 31, 32, 39, 40, 41] (by decide +kernel) (by decide +kernel)
set_option maxRecDepth 20000 in
theorem gX5_water_X1_putWater_n67 : GoodIn wsX5_water (wsX1_putWater) := ggX5_water_X1_putWater
theorem dX5_water_0 : decode cX5_water 0 = .ok (.iload_n 1, 1) := by decide +kernel
theorem dX5_water_1 : decode cX5_water 1 = .ok (.iload_n 2, 1) := by decide +kernel
theorem dX5_water_2 : decode cX5_water 2 = .ok (.invokestatic 48, 3) := by decide +kernel
theorem dX5_water_5 : decode cX5_water 5 = .ok (.lload_n 3, 1) := by decide +kernel
theorem dX5_water_6 : decode cX5_water 6 = .ok (.lconst 0, 1) := by decide +kernel
theorem dX5_water_7 : decode cX5_water 7 = .ok (.ldc2_w 65, 3) := by decide +kernel
theorem dX5_water_10 : decode cX5_water 10 = .ok (.invokestatic 57, 3) := by decide +kernel
theorem dX5_water_13 : decode cX5_water 13 = .ok (.aload_n 0, 1) := by decide +kernel
theorem dX5_water_14 : decode cX5_water 14 = .ok (.getfield 12, 3) := by decide +kernel
theorem dX5_water_17 : decode cX5_water 17 = .ok (.iload_n 1, 1) := by decide +kernel
theorem dX5_water_18 : decode cX5_water 18 = .ok (.iload_n 2, 1) := by decide +kernel
theorem dX5_water_19 : decode cX5_water 19 = .ok (.lload_n 3, 1) := by decide +kernel
theorem dX5_water_20 : decode cX5_water 20 = .ok (.invokevirtual 67, 3) := by decide +kernel
theorem dX5_water_23 : decode cX5_water 23 = .ok (.lreturn, 1) := by decide +kernel
set_option maxRecDepth 20000 in
theorem ggX5_pull_X5_requireCell : GoodIn wsX5_pull wsX5_requireCell := goodIn_ca (goodIn_r _ [5, 6, 7] (by decide +kernel) (by decide +kernel)) (goodIn_sub (fun _ h => List.mem_cons_of_mem _ (List.mem_append_right _ h)) (by decide +kernel))
set_option maxRecDepth 20000 in
theorem gX5_pull_X5_requireCell : GoodIn wsX5_pull (va_wsS RX5 48 yX5_requireCell wsX5_requireCell) := goodIn_app (goodIn_of _ (by decide +kernel)) ggX5_pull_X5_requireCell
set_option maxRecDepth 20000 in
theorem ggX5_pull_X1_keptPull : GoodIn wsX5_pull wsX1_keptPull := goodIn_r _ [11, 12, 13, 4, 14, 21, 22, 23] (by decide +kernel) (by decide +kernel)
set_option maxRecDepth 20000 in
theorem gX5_pull_X1_keptPull_n71 : GoodIn wsX5_pull (wsX1_keptPull) := ggX5_pull_X1_keptPull
theorem dX5_pull_0 : decode cX5_pull 0 = .ok (.iload_n 1, 1) := by decide +kernel
theorem dX5_pull_1 : decode cX5_pull 1 = .ok (.iload_n 2, 1) := by decide +kernel
theorem dX5_pull_2 : decode cX5_pull 2 = .ok (.invokestatic 48, 3) := by decide +kernel
theorem dX5_pull_5 : decode cX5_pull 5 = .ok (.aload_n 0, 1) := by decide +kernel
theorem dX5_pull_6 : decode cX5_pull 6 = .ok (.getfield 12, 3) := by decide +kernel
theorem dX5_pull_9 : decode cX5_pull 9 = .ok (.iload_n 1, 1) := by decide +kernel
theorem dX5_pull_10 : decode cX5_pull 10 = .ok (.iload_n 2, 1) := by decide +kernel
theorem dX5_pull_11 : decode cX5_pull 11 = .ok (.invokevirtual 71, 3) := by decide +kernel
theorem dX5_pull_14 : decode cX5_pull 14 = .ok (.lreturn, 1) := by decide +kernel
set_option maxRecDepth 20000 in
theorem ggX5_pullAnew_X5_requireCell : GoodIn wsX5_pullAnew wsX5_requireCell := goodIn_ca (goodIn_r _ [5, 6, 7] (by decide +kernel) (by decide +kernel)) (goodIn_sub (fun _ h => List.mem_cons_of_mem _ (List.mem_append_right _ h)) (by decide +kernel))
set_option maxRecDepth 20000 in
theorem gX5_pullAnew_X5_requireCell : GoodIn wsX5_pullAnew (va_wsS RX5 48 yX5_requireCell wsX5_requireCell) := goodIn_app (goodIn_of _ (by decide +kernel)) ggX5_pullAnew_X5_requireCell
set_option maxRecDepth 20000 in
theorem ggX5_pullAnew_X1_summedPull : GoodIn wsX5_pullAnew wsX1_summedPull := goodIn_r _ [11, 12, 13, 14, 4, 15, 16, 17, 9, 18, 19, 20, 21, 22, 29, 30, 31] (by decide +kernel) (by decide +kernel)
set_option maxRecDepth 20000 in
theorem gX5_pullAnew_X1_summedPull_n75 : GoodIn wsX5_pullAnew (wsX1_summedPull) := ggX5_pullAnew_X1_summedPull
theorem dX5_pullAnew_0 : decode cX5_pullAnew 0 = .ok (.iload_n 1, 1) := by decide +kernel
theorem dX5_pullAnew_1 : decode cX5_pullAnew 1 = .ok (.iload_n 2, 1) := by decide +kernel
theorem dX5_pullAnew_2 : decode cX5_pullAnew 2 = .ok (.invokestatic 48, 3) := by decide +kernel
theorem dX5_pullAnew_5 : decode cX5_pullAnew 5 = .ok (.aload_n 0, 1) := by decide +kernel
theorem dX5_pullAnew_6 : decode cX5_pullAnew 6 = .ok (.getfield 12, 3) := by decide +kernel
theorem dX5_pullAnew_9 : decode cX5_pullAnew 9 = .ok (.iload_n 1, 1) := by decide +kernel
theorem dX5_pullAnew_10 : decode cX5_pullAnew 10 = .ok (.iload_n 2, 1) := by decide +kernel
theorem dX5_pullAnew_11 : decode cX5_pullAnew 11 = .ok (.invokevirtual 75, 3) := by decide +kernel
theorem dX5_pullAnew_14 : decode cX5_pullAnew 14 = .ok (.lreturn, 1) := by decide +kernel
set_option maxRecDepth 20000 in
theorem ggX5_gap_X5_requireCell : GoodIn wsX5_gap wsX5_requireCell := goodIn_ca (goodIn_r _ [5, 6, 7] (by decide +kernel) (by decide +kernel)) (goodIn_sub (fun _ h => List.mem_cons_of_mem _ (List.mem_append_right _ h)) (by decide +kernel))
set_option maxRecDepth 20000 in
theorem gX5_gap_X5_requireCell : GoodIn wsX5_gap (va_wsS RX5 48 yX5_requireCell wsX5_requireCell) := goodIn_app (goodIn_of _ (by decide +kernel)) ggX5_gap_X5_requireCell
set_option maxRecDepth 20000 in
theorem ggX5_gap_X5_requireNumber : GoodIn wsX5_gap wsX5_requireNumber := goodIn_ca (goodIn_r _ [10, 6, 7] (by decide +kernel) (by decide +kernel)) (goodIn_sub (fun _ h => List.mem_cons_of_mem _ (List.mem_append_right _ h)) (by decide +kernel))
set_option maxRecDepth 20000 in
theorem gX5_gap_X5_requireNumber : GoodIn wsX5_gap (va_wsS RX5 52 yX5_requireNumber wsX5_requireNumber) := goodIn_app (goodIn_of _ (by decide +kernel)) ggX5_gap_X5_requireNumber
set_option maxRecDepth 20000 in
theorem ggX5_gap_X1_keptPull : GoodIn wsX5_gap wsX1_keptPull := goodIn_r _ [14, 15, 16, 4, 17, 24, 25, 26] (by decide +kernel) (by decide +kernel)
set_option maxRecDepth 20000 in
theorem gX5_gap_X1_keptPull_n71 : GoodIn wsX5_gap (wsX1_keptPull) := ggX5_gap_X1_keptPull
theorem dX5_gap_0 : decode cX5_gap 0 = .ok (.iload_n 1, 1) := by decide +kernel
theorem dX5_gap_1 : decode cX5_gap 1 = .ok (.iload_n 2, 1) := by decide +kernel
theorem dX5_gap_2 : decode cX5_gap 2 = .ok (.invokestatic 48, 3) := by decide +kernel
theorem dX5_gap_5 : decode cX5_gap 5 = .ok (.iload_n 1, 1) := by decide +kernel
theorem dX5_gap_6 : decode cX5_gap 6 = .ok (.bipush 7, 2) := by decide +kernel
theorem dX5_gap_8 : decode cX5_gap 8 = .ok (.invokestatic 52, 3) := by decide +kernel
theorem dX5_gap_11 : decode cX5_gap 11 = .ok (.aload_n 0, 1) := by decide +kernel
theorem dX5_gap_12 : decode cX5_gap 12 = .ok (.getfield 12, 3) := by decide +kernel
theorem dX5_gap_15 : decode cX5_gap 15 = .ok (.iload_n 1, 1) := by decide +kernel
theorem dX5_gap_16 : decode cX5_gap 16 = .ok (.iconst 1, 1) := by decide +kernel
theorem dX5_gap_17 : decode cX5_gap 17 = .ok (.iadd, 1) := by decide +kernel
theorem dX5_gap_18 : decode cX5_gap 18 = .ok (.iload_n 2, 1) := by decide +kernel
theorem dX5_gap_19 : decode cX5_gap 19 = .ok (.invokevirtual 71, 3) := by decide +kernel
theorem dX5_gap_22 : decode cX5_gap 22 = .ok (.aload_n 0, 1) := by decide +kernel
theorem dX5_gap_23 : decode cX5_gap 23 = .ok (.getfield 12, 3) := by decide +kernel
theorem dX5_gap_26 : decode cX5_gap 26 = .ok (.iload_n 1, 1) := by decide +kernel
theorem dX5_gap_27 : decode cX5_gap 27 = .ok (.iload_n 2, 1) := by decide +kernel
theorem dX5_gap_28 : decode cX5_gap 28 = .ok (.invokevirtual 71, 3) := by decide +kernel
theorem dX5_gap_31 : decode cX5_gap 31 = .ok (.lsub, 1) := by decide +kernel
theorem dX5_gap_32 : decode cX5_gap 32 = .ok (.lreturn, 1) := by decide +kernel
set_option maxRecDepth 20000 in
theorem ggX5_tide_X5_requireRange : GoodIn wsX5_tide wsX5_requireRange := goodIn_ca (goodIn_r _ [7, 8, 9] (by decide +kernel) (by decide +kernel)) (goodIn_sub (fun _ h => List.mem_cons_of_mem _ (List.mem_append_right _ h)) (by decide +kernel))
set_option maxRecDepth 20000 in
theorem gX5_tide_X5_requireRange : GoodIn wsX5_tide (va_wsS RX5 57 yX5_requireRange wsX5_requireRange) := goodIn_app (goodIn_of _ (by decide +kernel)) ggX5_tide_X5_requireRange
set_option maxRecDepth 20000 in
theorem ggX5_tide_X2_put : GoodIn wsX5_tide wsX2_put := goodIn_r _ [13, 14, 15, 22, 23] (by decide +kernel) (by decide +kernel)
set_option maxRecDepth 20000 in
theorem gX5_tide_X2_put_n82 : GoodIn wsX5_tide (wsX2_put) := ggX5_tide_X2_put
theorem dX5_tide_0 : decode cX5_tide 0 = .ok (.iload_n 1, 1) := by decide +kernel
theorem dX5_tide_1 : decode cX5_tide 1 = .ok (.i2l, 1) := by decide +kernel
theorem dX5_tide_2 : decode cX5_tide 2 = .ok (.lconst 0, 1) := by decide +kernel
theorem dX5_tide_3 : decode cX5_tide 3 = .ok (.ldc2_w 78, 3) := by decide +kernel
theorem dX5_tide_6 : decode cX5_tide 6 = .ok (.invokestatic 57, 3) := by decide +kernel
theorem dX5_tide_9 : decode cX5_tide 9 = .ok (.iload_n 2, 1) := by decide +kernel
theorem dX5_tide_10 : decode cX5_tide 10 = .ok (.i2l, 1) := by decide +kernel
theorem dX5_tide_11 : decode cX5_tide 11 = .ok (.lconst 1, 1) := by decide +kernel
theorem dX5_tide_12 : decode cX5_tide 12 = .ok (.ldc2_w 80, 3) := by decide +kernel
theorem dX5_tide_15 : decode cX5_tide 15 = .ok (.invokestatic 57, 3) := by decide +kernel
theorem dX5_tide_18 : decode cX5_tide 18 = .ok (.aload_n 0, 1) := by decide +kernel
theorem dX5_tide_19 : decode cX5_tide 19 = .ok (.getfield 19, 3) := by decide +kernel
theorem dX5_tide_22 : decode cX5_tide 22 = .ok (.iload_n 1, 1) := by decide +kernel
theorem dX5_tide_23 : decode cX5_tide 23 = .ok (.iload_n 2, 1) := by decide +kernel
theorem dX5_tide_24 : decode cX5_tide 24 = .ok (.invokevirtual 82, 3) := by decide +kernel
theorem dX5_tide_27 : decode cX5_tide 27 = .ok (.ireturn, 1) := by decide +kernel
set_option maxRecDepth 20000 in
theorem ggX5_pass_X5_requireRange : GoodIn wsX5_pass wsX5_requireRange := goodIn_ca (goodIn_r _ [8, 9, 10] (by decide +kernel) (by decide +kernel)) (goodIn_sub (fun _ h => List.mem_cons_of_mem _ (List.mem_append_right _ h)) (by decide +kernel))
set_option maxRecDepth 20000 in
theorem gX5_pass_X5_requireRange : GoodIn wsX5_pass (va_wsS RX5 57 yX5_requireRange wsX5_requireRange) := goodIn_app (goodIn_of _ (by decide +kernel)) ggX5_pass_X5_requireRange
theorem dX5_pass_0 : decode cX5_pass 0 = .ok (.iload_n 1, 1) := by decide +kernel
theorem dX5_pass_1 : decode cX5_pass 1 = .ok (.i2l, 1) := by decide +kernel
theorem dX5_pass_2 : decode cX5_pass 2 = .ok (.lconst 1, 1) := by decide +kernel
theorem dX5_pass_3 : decode cX5_pass 3 = .ok (.ldc2_w 86, 3) := by decide +kernel
theorem dX5_pass_6 : decode cX5_pass 6 = .ok (.invokestatic 57, 3) := by decide +kernel
theorem dX5_pass_9 : decode cX5_pass 9 = .ok (.iload_n 1, 1) := by decide +kernel
theorem dX5_pass_10 : decode cX5_pass 10 = .ok (.sipush 3000, 3) := by decide +kernel
theorem dX5_pass_13 : decode cX5_pass 13 = .ok (.aload_n 0, 1) := by decide +kernel
theorem dX5_pass_14 : decode cX5_pass 14 = .ok (.getfield 44, 3) := by decide +kernel
theorem dX5_pass_17 : decode cX5_pass 17 = .ok (.isub, 1) := by decide +kernel
theorem dX5_pass_18 : decode cX5_pass 18 = .ok (.if_icmp .le 13, 3) := by decide +kernel
theorem dX5_pass_21 : decode cX5_pass 21 = .ok (.new 88, 3) := by decide +kernel
theorem dX5_pass_24 : decode cX5_pass 24 = .ok (.dup, 1) := by decide +kernel
theorem dX5_pass_25 : decode cX5_pass 25 = .ok (.ldc 90, 2) := by decide +kernel
theorem dX5_pass_27 : decode cX5_pass 27 = .ok (.invokespecial 92, 3) := by decide +kernel
theorem dX5_pass_30 : decode cX5_pass 30 = .ok (.athrow, 1) := by decide +kernel
theorem dX5_pass_31 : decode cX5_pass 31 = .ok (.aload_n 0, 1) := by decide +kernel
theorem dX5_pass_32 : decode cX5_pass 32 = .ok (.dup, 1) := by decide +kernel
theorem dX5_pass_33 : decode cX5_pass 33 = .ok (.getfield 44, 3) := by decide +kernel
theorem dX5_pass_36 : decode cX5_pass 36 = .ok (.iload_n 1, 1) := by decide +kernel
theorem dX5_pass_37 : decode cX5_pass 37 = .ok (.iadd, 1) := by decide +kernel
theorem dX5_pass_38 : decode cX5_pass 38 = .ok (.putfield 44, 3) := by decide +kernel
theorem dX5_pass_41 : decode cX5_pass 41 = .ok (.aload_n 0, 1) := by decide +kernel
theorem dX5_pass_42 : decode cX5_pass 42 = .ok (.getfield 44, 3) := by decide +kernel
theorem dX5_pass_45 : decode cX5_pass 45 = .ok (.ireturn, 1) := by decide +kernel
set_option maxRecDepth 20000 in
theorem ggX5_needle_X5_requireRange : GoodIn wsX5_needle wsX5_requireRange := goodIn_ca (goodIn_r _ [8, 9, 10] (by decide +kernel) (by decide +kernel)) (goodIn_sub (fun _ h => List.mem_cons_of_mem _ (List.mem_append_left _ (List.mem_append_right _ h))) (by decide +kernel))
set_option maxRecDepth 20000 in
theorem gX5_needle_X5_requireRange : GoodIn wsX5_needle (va_wsS RX5 57 yX5_requireRange wsX5_requireRange) := goodIn_app (goodIn_of _ (by decide +kernel)) ggX5_needle_X5_requireRange
set_option maxRecDepth 20000 in
theorem ggX5_needle_X5_requireRoom : GoodIn wsX5_needle wsX5_requireRoom := goodIn_ca (goodIn_r _ [13, 14, 15] (by decide +kernel) (by decide +kernel)) (goodIn_sub (fun _ h => List.mem_cons_of_mem _ (List.mem_append_right _ h)) (by decide +kernel))
set_option maxRecDepth 20000 in
theorem gX5_needle_X5_requireRoom : GoodIn wsX5_needle (va_wsS RX5 102 yX5_requireRoom wsX5_requireRoom) := goodIn_app (goodIn_of _ (by decide +kernel)) ggX5_needle_X5_requireRoom
set_option maxRecDepth 20000 in
theorem ggX5_needle_X3_add : GoodIn wsX5_needle wsX3_add := goodIn_r _ [19, 20, 21, 22, 23, 30, 31, 32, 33] (by decide +kernel) (by decide +kernel)
set_option maxRecDepth 20000 in
theorem gX5_needle_X3_add_n105 : GoodIn wsX5_needle (wsX3_add) := ggX5_needle_X3_add
theorem dX5_needle_0 : decode cX5_needle 0 = .ok (.iload_n 1, 1) := by decide +kernel
theorem dX5_needle_1 : decode cX5_needle 1 = .ok (.i2l, 1) := by decide +kernel
theorem dX5_needle_2 : decode cX5_needle 2 = .ok (.lconst 0, 1) := by decide +kernel
theorem dX5_needle_3 : decode cX5_needle 3 = .ok (.lconst 1, 1) := by decide +kernel
theorem dX5_needle_4 : decode cX5_needle 4 = .ok (.invokestatic 57, 3) := by decide +kernel
theorem dX5_needle_7 : decode cX5_needle 7 = .ok (.iload_n 2, 1) := by decide +kernel
theorem dX5_needle_8 : decode cX5_needle 8 = .ok (.i2l, 1) := by decide +kernel
theorem dX5_needle_9 : decode cX5_needle 9 = .ok (.ldc2_w 95, 3) := by decide +kernel
theorem dX5_needle_12 : decode cX5_needle 12 = .ok (.ldc2_w 97, 3) := by decide +kernel
theorem dX5_needle_15 : decode cX5_needle 15 = .ok (.invokestatic 57, 3) := by decide +kernel
theorem dX5_needle_18 : decode cX5_needle 18 = .ok (.aload_n 0, 1) := by decide +kernel
theorem dX5_needle_19 : decode cX5_needle 19 = .ok (.getfield 26, 3) := by decide +kernel
theorem dX5_needle_22 : decode cX5_needle 22 = .ok (.getfield 99, 3) := by decide +kernel
theorem dX5_needle_25 : decode cX5_needle 25 = .ok (.bipush 6, 2) := by decide +kernel
theorem dX5_needle_27 : decode cX5_needle 27 = .ok (.invokestatic 102, 3) := by decide +kernel
theorem dX5_needle_30 : decode cX5_needle 30 = .ok (.aload_n 0, 1) := by decide +kernel
theorem dX5_needle_31 : decode cX5_needle 31 = .ok (.getfield 26, 3) := by decide +kernel
theorem dX5_needle_34 : decode cX5_needle 34 = .ok (.iload_n 1, 1) := by decide +kernel
theorem dX5_needle_35 : decode cX5_needle 35 = .ok (.iload_n 2, 1) := by decide +kernel
theorem dX5_needle_36 : decode cX5_needle 36 = .ok (.aload_n 0, 1) := by decide +kernel
theorem dX5_needle_37 : decode cX5_needle 37 = .ok (.getfield 44, 3) := by decide +kernel
theorem dX5_needle_40 : decode cX5_needle 40 = .ok (.invokevirtual 105, 3) := by decide +kernel
theorem dX5_needle_43 : decode cX5_needle 43 = .ok (.ireturn, 1) := by decide +kernel
set_option maxRecDepth 20000 in
theorem ggX5_tie_X5_requireNumber : GoodIn wsX5_tie wsX5_requireNumber := goodIn_ca (goodIn_r _ [8, 9, 10] (by decide +kernel) (by decide +kernel)) (goodIn_sub (fun _ h => List.mem_cons_of_mem _ (List.mem_append_right _ h)) (by decide +kernel))
set_option maxRecDepth 20000 in
theorem gX5_tie_X5_requireNumber : GoodIn wsX5_tie (va_wsS RX5 52 yX5_requireNumber wsX5_requireNumber) := goodIn_app (goodIn_of _ (by decide +kernel)) ggX5_tie_X5_requireNumber
set_option maxRecDepth 20000 in
theorem ggX5_tie_X3_offIn : GoodIn wsX5_tie wsX3_offIn := goodIn_r _ [14, 15, 16, 17, 24, 25, 26, 27] (by decide +kernel) (by decide +kernel)
set_option maxRecDepth 20000 in
theorem gX5_tie_X3_offIn_n115 : GoodIn wsX5_tie (wsX3_offIn) := ggX5_tie_X3_offIn
theorem dX5_tie_0 : decode cX5_tie 0 = .ok (.iload_n 1, 1) := by decide +kernel
theorem dX5_tie_1 : decode cX5_tie 1 = .ok (.aload_n 0, 1) := by decide +kernel
theorem dX5_tie_2 : decode cX5_tie 2 = .ok (.getfield 26, 3) := by decide +kernel
theorem dX5_tie_5 : decode cX5_tie 5 = .ok (.getfield 99, 3) := by decide +kernel
theorem dX5_tie_8 : decode cX5_tie 8 = .ok (.invokestatic 52, 3) := by decide +kernel
theorem dX5_tie_11 : decode cX5_tie 11 = .ok (.aload_n 0, 1) := by decide +kernel
theorem dX5_tie_12 : decode cX5_tie 12 = .ok (.getfield 26, 3) := by decide +kernel
theorem dX5_tie_15 : decode cX5_tie 15 = .ok (.getfield 109, 3) := by decide +kernel
theorem dX5_tie_18 : decode cX5_tie 18 = .ok (.iload_n 1, 1) := by decide +kernel
theorem dX5_tie_19 : decode cX5_tie 19 = .ok (.iaload, 1) := by decide +kernel
theorem dX5_tie_20 : decode cX5_tie 20 = .ok (.ifCond .ne 13, 3) := by decide +kernel
theorem dX5_tie_23 : decode cX5_tie 23 = .ok (.new 88, 3) := by decide +kernel
theorem dX5_tie_26 : decode cX5_tie 26 = .ok (.dup, 1) := by decide +kernel
theorem dX5_tie_27 : decode cX5_tie 27 = .ok (.ldc 113, 2) := by decide +kernel
theorem dX5_tie_29 : decode cX5_tie 29 = .ok (.invokespecial 92, 3) := by decide +kernel
theorem dX5_tie_32 : decode cX5_tie 32 = .ok (.athrow, 1) := by decide +kernel
theorem dX5_tie_33 : decode cX5_tie 33 = .ok (.aload_n 0, 1) := by decide +kernel
theorem dX5_tie_34 : decode cX5_tie 34 = .ok (.getfield 26, 3) := by decide +kernel
theorem dX5_tie_37 : decode cX5_tie 37 = .ok (.iload_n 1, 1) := by decide +kernel
theorem dX5_tie_38 : decode cX5_tie 38 = .ok (.aload_n 0, 1) := by decide +kernel
theorem dX5_tie_39 : decode cX5_tie 39 = .ok (.getfield 44, 3) := by decide +kernel
theorem dX5_tie_42 : decode cX5_tie 42 = .ok (.invokevirtual 115, 3) := by decide +kernel
theorem dX5_tie_45 : decode cX5_tie 45 = .ok (.lstore_n 2, 1) := by decide +kernel
theorem dX5_tie_46 : decode cX5_tie 46 = .ok (.aload_n 0, 1) := by decide +kernel
theorem dX5_tie_47 : decode cX5_tie 47 = .ok (.getfield 26, 3) := by decide +kernel
theorem dX5_tie_50 : decode cX5_tie 50 = .ok (.getfield 118, 3) := by decide +kernel
theorem dX5_tie_53 : decode cX5_tie 53 = .ok (.iload_n 1, 1) := by decide +kernel
theorem dX5_tie_54 : decode cX5_tie 54 = .ok (.aload_n 0, 1) := by decide +kernel
theorem dX5_tie_55 : decode cX5_tie 55 = .ok (.getfield 44, 3) := by decide +kernel
theorem dX5_tie_58 : decode cX5_tie 58 = .ok (.iastore, 1) := by decide +kernel
theorem dX5_tie_59 : decode cX5_tie 59 = .ok (.lload_n 2, 1) := by decide +kernel
theorem dX5_tie_60 : decode cX5_tie 60 = .ok (.lreturn, 1) := by decide +kernel
set_option maxRecDepth 20000 in
theorem ggX5_read_X5_requireNumber : GoodIn wsX5_read wsX5_requireNumber := goodIn_ca (goodIn_r _ [8, 9, 10] (by decide +kernel) (by decide +kernel)) (goodIn_sub (fun _ h => List.mem_cons_of_mem _ (List.mem_append_right _ h)) (by decide +kernel))
set_option maxRecDepth 20000 in
theorem gX5_read_X5_requireNumber : GoodIn wsX5_read (va_wsS RX5 52 yX5_requireNumber wsX5_requireNumber) := goodIn_app (goodIn_of _ (by decide +kernel)) ggX5_read_X5_requireNumber
set_option maxRecDepth 20000 in
theorem ggX5_read_X5_requireCell : GoodIn wsX5_read wsX5_requireCell := goodIn_ca (goodIn_r _ [13, 9, 10] (by decide +kernel) (by decide +kernel)) (goodIn_sub (fun _ h => List.mem_cons_of_mem _ (List.mem_append_right _ h)) (by decide +kernel))
set_option maxRecDepth 20000 in
theorem gX5_read_X5_requireCell : GoodIn wsX5_read (va_wsS RX5 48 yX5_requireCell wsX5_requireCell) := goodIn_app (goodIn_of _ (by decide +kernel)) ggX5_read_X5_requireCell
set_option maxRecDepth 20000 in
theorem ggX5_read_X1_keptPull : GoodIn wsX5_read wsX1_keptPull := goodIn_r _ [17, 18, 19, 7, 20, 44, 45, 46] (by decide +kernel) (by decide +kernel)
set_option maxRecDepth 20000 in
theorem gX5_read_X1_keptPull_n71 : GoodIn wsX5_read (wsX1_keptPull) := ggX5_read_X1_keptPull
set_option maxRecDepth 20000 in
theorem ggX5_read_X2_tideIn : GoodIn wsX5_read wsX2_tideIn := goodIn_r _ [24, 25, 26, 47, 48] (by decide +kernel) (by decide +kernel)
set_option maxRecDepth 20000 in
theorem gX5_read_X2_tideIn_n121 : GoodIn wsX5_read (wsX2_tideIn) := ggX5_read_X2_tideIn
set_option maxRecDepth 20000 in
theorem ggX5_read_X3_offIn : GoodIn wsX5_read wsX3_offIn := goodIn_r _ [30, 31, 32, 33, 40, 41, 42, 43] (by decide +kernel) (by decide +kernel)
set_option maxRecDepth 20000 in
theorem gX5_read_X3_offIn_n115 : GoodIn wsX5_read (wsX3_offIn) := ggX5_read_X3_offIn
theorem dX5_read_0 : decode cX5_read 0 = .ok (.iload_n 1, 1) := by decide +kernel
theorem dX5_read_1 : decode cX5_read 1 = .ok (.aload_n 0, 1) := by decide +kernel
theorem dX5_read_2 : decode cX5_read 2 = .ok (.getfield 26, 3) := by decide +kernel
theorem dX5_read_5 : decode cX5_read 5 = .ok (.getfield 99, 3) := by decide +kernel
theorem dX5_read_8 : decode cX5_read 8 = .ok (.invokestatic 52, 3) := by decide +kernel
theorem dX5_read_11 : decode cX5_read 11 = .ok (.iload_n 2, 1) := by decide +kernel
theorem dX5_read_12 : decode cX5_read 12 = .ok (.iload_n 3, 1) := by decide +kernel
theorem dX5_read_13 : decode cX5_read 13 = .ok (.invokestatic 48, 3) := by decide +kernel
theorem dX5_read_16 : decode cX5_read 16 = .ok (.aload_n 0, 1) := by decide +kernel
theorem dX5_read_17 : decode cX5_read 17 = .ok (.getfield 12, 3) := by decide +kernel
theorem dX5_read_20 : decode cX5_read 20 = .ok (.iload_n 2, 1) := by decide +kernel
theorem dX5_read_21 : decode cX5_read 21 = .ok (.iload_n 3, 1) := by decide +kernel
theorem dX5_read_22 : decode cX5_read 22 = .ok (.invokevirtual 71, 3) := by decide +kernel
theorem dX5_read_25 : decode cX5_read 25 = .ok (.aload_n 0, 1) := by decide +kernel
theorem dX5_read_26 : decode cX5_read 26 = .ok (.getfield 19, 3) := by decide +kernel
theorem dX5_read_29 : decode cX5_read 29 = .ok (.aload_n 0, 1) := by decide +kernel
theorem dX5_read_30 : decode cX5_read 30 = .ok (.getfield 44, 3) := by decide +kernel
theorem dX5_read_33 : decode cX5_read 33 = .ok (.invokevirtual 121, 3) := by decide +kernel
theorem dX5_read_36 : decode cX5_read 36 = .ok (.ladd, 1) := by decide +kernel
theorem dX5_read_37 : decode cX5_read 37 = .ok (.aload_n 0, 1) := by decide +kernel
theorem dX5_read_38 : decode cX5_read 38 = .ok (.getfield 26, 3) := by decide +kernel
theorem dX5_read_41 : decode cX5_read 41 = .ok (.iload_n 1, 1) := by decide +kernel
theorem dX5_read_42 : decode cX5_read 42 = .ok (.aload_n 0, 1) := by decide +kernel
theorem dX5_read_43 : decode cX5_read 43 = .ok (.getfield 44, 3) := by decide +kernel
theorem dX5_read_46 : decode cX5_read 46 = .ok (.invokevirtual 115, 3) := by decide +kernel
theorem dX5_read_49 : decode cX5_read 49 = .ok (.ladd, 1) := by decide +kernel
theorem dX5_read_50 : decode cX5_read 50 = .ok (.lreturn, 1) := by decide +kernel
set_option maxRecDepth 20000 in
theorem ggX5_benchmark_X5_requireRoom : GoodIn wsX5_benchmark wsX5_requireRoom := goodIn_ca (goodIn_r _ [5, 6, 7] (by decide +kernel) (by decide +kernel)) (goodIn_sub (fun _ h => List.mem_cons_of_mem _ (List.mem_append_right _ h)) (by decide +kernel))
set_option maxRecDepth 20000 in
theorem gX5_benchmark_X5_requireRoom : GoodIn wsX5_benchmark (va_wsS RX5 102 yX5_requireRoom wsX5_requireRoom) := goodIn_app (goodIn_of _ (by decide +kernel)) ggX5_benchmark_X5_requireRoom
set_option maxRecDepth 20000 in
theorem ggX5_benchmark_X4_addBenchmark : GoodIn wsX5_benchmark wsX4_addBenchmark := goodIn_r _ [11, 12, 19, 20, 21, 22, 23, 24, 25, 26, 27] (by decide +kernel) (by decide +kernel)
set_option maxRecDepth 20000 in
theorem gX5_benchmark_X4_addBenchmark_n128 : GoodIn wsX5_benchmark (wsX4_addBenchmark) := ggX5_benchmark_X4_addBenchmark
theorem dX5_benchmark_0 : decode cX5_benchmark 0 = .ok (.aload_n 0, 1) := by decide +kernel
theorem dX5_benchmark_1 : decode cX5_benchmark 1 = .ok (.getfield 33, 3) := by decide +kernel
theorem dX5_benchmark_4 : decode cX5_benchmark 4 = .ok (.getfield 125, 3) := by decide +kernel
theorem dX5_benchmark_7 : decode cX5_benchmark 7 = .ok (.bipush 10, 2) := by decide +kernel
theorem dX5_benchmark_9 : decode cX5_benchmark 9 = .ok (.invokestatic 102, 3) := by decide +kernel
theorem dX5_benchmark_12 : decode cX5_benchmark 12 = .ok (.aload_n 0, 1) := by decide +kernel
theorem dX5_benchmark_13 : decode cX5_benchmark 13 = .ok (.getfield 33, 3) := by decide +kernel
theorem dX5_benchmark_16 : decode cX5_benchmark 16 = .ok (.invokevirtual 128, 3) := by decide +kernel
theorem dX5_benchmark_19 : decode cX5_benchmark 19 = .ok (.ireturn, 1) := by decide +kernel
set_option maxRecDepth 20000 in
theorem ggX5_line_X5_requireNumber : GoodIn wsX5_line wsX5_requireNumber := goodIn_ca (goodIn_r _ [10, 11, 12] (by decide +kernel) (by decide +kernel)) (goodIn_sub (fun _ h => List.mem_cons_of_mem _ (List.mem_append_left _ (List.mem_append_right _ h))) (by decide +kernel))
set_option maxRecDepth 20000 in
theorem gX5_line_X5_requireNumber : GoodIn wsX5_line (va_wsS RX5 52 yX5_requireNumber wsX5_requireNumber) := goodIn_app (goodIn_of _ (by decide +kernel)) ggX5_line_X5_requireNumber
set_option maxRecDepth 20000 in
theorem ggX5_line_X5_requireRange : GoodIn wsX5_line wsX5_requireRange := goodIn_ca (goodIn_r _ [15, 1, 2] (by decide +kernel) (by decide +kernel)) (goodIn_sub (fun _ h => List.mem_cons_of_mem _ (List.mem_append_left _ (List.mem_append_left _ (List.mem_append_right _ h)))) (by decide +kernel))
set_option maxRecDepth 20000 in
theorem gX5_line_X5_requireRange : GoodIn wsX5_line (va_wsS RX5 57 yX5_requireRange wsX5_requireRange) := goodIn_app (goodIn_of _ (by decide +kernel)) ggX5_line_X5_requireRange
set_option maxRecDepth 20000 in
theorem ggX5_line_X5_requireRoom : GoodIn wsX5_line wsX5_requireRoom := goodIn_ca (goodIn_r _ [18, 19, 20] (by decide +kernel) (by decide +kernel)) (goodIn_sub (fun _ h => List.mem_cons_of_mem _ (List.mem_append_right _ h)) (by decide +kernel))
set_option maxRecDepth 20000 in
theorem gX5_line_X5_requireRoom : GoodIn wsX5_line (va_wsS RX5 102 yX5_requireRoom wsX5_requireRoom) := goodIn_app (goodIn_of _ (by decide +kernel)) ggX5_line_X5_requireRoom
set_option maxRecDepth 20000 in
theorem ggX5_line_X4_addLine : GoodIn wsX5_line wsX4_addLine := goodIn_r _ [24, 25, 26, 27, 28, 29, 36, 37, 38, 39, 40, 41, 42, 43, 44] (by decide +kernel) (by decide +kernel)
set_option maxRecDepth 20000 in
theorem gX5_line_X4_addLine_n142 : GoodIn wsX5_line (wsX4_addLine) := ggX5_line_X4_addLine
theorem dX5_line_0 : decode cX5_line 0 = .ok (.iload_n 1, 1) := by decide +kernel
theorem dX5_line_1 : decode cX5_line 1 = .ok (.aload_n 0, 1) := by decide +kernel
theorem dX5_line_2 : decode cX5_line 2 = .ok (.getfield 33, 3) := by decide +kernel
theorem dX5_line_5 : decode cX5_line 5 = .ok (.getfield 125, 3) := by decide +kernel
theorem dX5_line_8 : decode cX5_line 8 = .ok (.invokestatic 52, 3) := by decide +kernel
theorem dX5_line_11 : decode cX5_line 11 = .ok (.iload_n 2, 1) := by decide +kernel
theorem dX5_line_12 : decode cX5_line 12 = .ok (.aload_n 0, 1) := by decide +kernel
theorem dX5_line_13 : decode cX5_line 13 = .ok (.getfield 33, 3) := by decide +kernel
theorem dX5_line_16 : decode cX5_line 16 = .ok (.getfield 125, 3) := by decide +kernel
theorem dX5_line_19 : decode cX5_line 19 = .ok (.invokestatic 52, 3) := by decide +kernel
theorem dX5_line_22 : decode cX5_line 22 = .ok (.iload_n 1, 1) := by decide +kernel
theorem dX5_line_23 : decode cX5_line 23 = .ok (.iload_n 2, 1) := by decide +kernel
theorem dX5_line_24 : decode cX5_line 24 = .ok (.if_icmp .ne 13, 3) := by decide +kernel
theorem dX5_line_27 : decode cX5_line 27 = .ok (.new 132, 3) := by decide +kernel
theorem dX5_line_30 : decode cX5_line 30 = .ok (.dup, 1) := by decide +kernel
theorem dX5_line_31 : decode cX5_line 31 = .ok (.ldc 134, 2) := by decide +kernel
theorem dX5_line_33 : decode cX5_line 33 = .ok (.invokespecial 136, 3) := by decide +kernel
theorem dX5_line_36 : decode cX5_line 36 = .ok (.athrow, 1) := by decide +kernel
theorem dX5_line_37 : decode cX5_line 37 = .ok (.iload_n 3, 1) := by decide +kernel
theorem dX5_line_38 : decode cX5_line 38 = .ok (.i2l, 1) := by decide +kernel
theorem dX5_line_39 : decode cX5_line 39 = .ok (.ldc2_w 137, 3) := by decide +kernel
theorem dX5_line_42 : decode cX5_line 42 = .ok (.ldc2_w 78, 3) := by decide +kernel
theorem dX5_line_45 : decode cX5_line 45 = .ok (.invokestatic 57, 3) := by decide +kernel
theorem dX5_line_48 : decode cX5_line 48 = .ok (.iload 4, 2) := by decide +kernel
theorem dX5_line_50 : decode cX5_line 50 = .ok (.i2l, 1) := by decide +kernel
theorem dX5_line_51 : decode cX5_line 51 = .ok (.lconst 0, 1) := by decide +kernel
theorem dX5_line_52 : decode cX5_line 52 = .ok (.ldc2_w 97, 3) := by decide +kernel
theorem dX5_line_55 : decode cX5_line 55 = .ok (.invokestatic 57, 3) := by decide +kernel
theorem dX5_line_58 : decode cX5_line 58 = .ok (.aload_n 0, 1) := by decide +kernel
theorem dX5_line_59 : decode cX5_line 59 = .ok (.getfield 33, 3) := by decide +kernel
theorem dX5_line_62 : decode cX5_line 62 = .ok (.getfield 139, 3) := by decide +kernel
theorem dX5_line_65 : decode cX5_line 65 = .ok (.bipush 24, 2) := by decide +kernel
theorem dX5_line_67 : decode cX5_line 67 = .ok (.invokestatic 102, 3) := by decide +kernel
theorem dX5_line_70 : decode cX5_line 70 = .ok (.aload_n 0, 1) := by decide +kernel
theorem dX5_line_71 : decode cX5_line 71 = .ok (.getfield 33, 3) := by decide +kernel
theorem dX5_line_74 : decode cX5_line 74 = .ok (.iload_n 1, 1) := by decide +kernel
theorem dX5_line_75 : decode cX5_line 75 = .ok (.iload_n 2, 1) := by decide +kernel
theorem dX5_line_76 : decode cX5_line 76 = .ok (.iload_n 3, 1) := by decide +kernel
theorem dX5_line_77 : decode cX5_line 77 = .ok (.iload 4, 2) := by decide +kernel
theorem dX5_line_79 : decode cX5_line 79 = .ok (.invokevirtual 142, 3) := by decide +kernel
theorem dX5_line_82 : decode cX5_line 82 = .ok (.ireturn, 1) := by decide +kernel
set_option maxRecDepth 20000 in
theorem ggX5_height_X5_requireNumber : GoodIn wsX5_height wsX5_requireNumber := goodIn_ca (goodIn_r _ [7, 8, 9] (by decide +kernel) (by decide +kernel)) (goodIn_sub (fun _ h => List.mem_cons_of_mem _ (List.mem_append_right _ h)) (by decide +kernel))
set_option maxRecDepth 20000 in
theorem gX5_height_X5_requireNumber : GoodIn wsX5_height (va_wsS RX5 52 yX5_requireNumber wsX5_requireNumber) := goodIn_app (goodIn_of _ (by decide +kernel)) ggX5_height_X5_requireNumber
set_option maxRecDepth 20000 in
theorem ggX5_height_X4_findHeights : GoodIn wsX5_height wsX4_findHeights := goodIn_r _ [13, 14, 15, 16, 17, 18, 11, 19, 20, 21, 22, 23, 24, 25, 26, 27, 28, 29, 30, 31, 32, 33, 34, 35, 36, 43, 44, 45, 46, 47, 48, 49, 50, 51] (by decide +kernel) (by decide +kernel)
set_option maxRecDepth 20000 in
theorem gX5_height_X4_findHeights_n146 : GoodIn wsX5_height (wsX4_findHeights) := ggX5_height_X4_findHeights
theorem dX5_height_0 : decode cX5_height 0 = .ok (.iload_n 1, 1) := by decide +kernel
theorem dX5_height_1 : decode cX5_height 1 = .ok (.aload_n 0, 1) := by decide +kernel
theorem dX5_height_2 : decode cX5_height 2 = .ok (.getfield 33, 3) := by decide +kernel
theorem dX5_height_5 : decode cX5_height 5 = .ok (.getfield 125, 3) := by decide +kernel
theorem dX5_height_8 : decode cX5_height 8 = .ok (.invokestatic 52, 3) := by decide +kernel
theorem dX5_height_11 : decode cX5_height 11 = .ok (.aload_n 0, 1) := by decide +kernel
theorem dX5_height_12 : decode cX5_height 12 = .ok (.getfield 33, 3) := by decide +kernel
theorem dX5_height_15 : decode cX5_height 15 = .ok (.invokevirtual 146, 3) := by decide +kernel
theorem dX5_height_18 : decode cX5_height 18 = .ok (.aload_n 0, 1) := by decide +kernel
theorem dX5_height_19 : decode cX5_height 19 = .ok (.getfield 33, 3) := by decide +kernel
theorem dX5_height_22 : decode cX5_height 22 = .ok (.getfield 149, 3) := by decide +kernel
theorem dX5_height_25 : decode cX5_height 25 = .ok (.iload_n 1, 1) := by decide +kernel
theorem dX5_height_26 : decode cX5_height 26 = .ok (.iaload, 1) := by decide +kernel
theorem dX5_height_27 : decode cX5_height 27 = .ok (.iconst (-1), 1) := by decide +kernel
theorem dX5_height_28 : decode cX5_height 28 = .ok (.if_icmp .ne 13, 3) := by decide +kernel
theorem dX5_height_31 : decode cX5_height 31 = .ok (.new 88, 3) := by decide +kernel
theorem dX5_height_34 : decode cX5_height 34 = .ok (.dup, 1) := by decide +kernel
theorem dX5_height_35 : decode cX5_height 35 = .ok (.ldc 152, 2) := by decide +kernel
theorem dX5_height_37 : decode cX5_height 37 = .ok (.invokespecial 92, 3) := by decide +kernel
theorem dX5_height_40 : decode cX5_height 40 = .ok (.athrow, 1) := by decide +kernel
theorem dX5_height_41 : decode cX5_height 41 = .ok (.aload_n 0, 1) := by decide +kernel
theorem dX5_height_42 : decode cX5_height 42 = .ok (.getfield 33, 3) := by decide +kernel
theorem dX5_height_45 : decode cX5_height 45 = .ok (.getfield 154, 3) := by decide +kernel
theorem dX5_height_48 : decode cX5_height 48 = .ok (.iload_n 1, 1) := by decide +kernel
theorem dX5_height_49 : decode cX5_height 49 = .ok (.iaload, 1) := by decide +kernel
theorem dX5_height_50 : decode cX5_height 50 = .ok (.ireturn, 1) := by decide +kernel
set_option maxRecDepth 20000 in
theorem ggX5_doubt_X5_requireNumber : GoodIn wsX5_doubt wsX5_requireNumber := goodIn_ca (goodIn_r _ [5, 6, 7] (by decide +kernel) (by decide +kernel)) (goodIn_sub (fun _ h => List.mem_cons_of_mem _ (List.mem_append_right _ h)) (by decide +kernel))
set_option maxRecDepth 20000 in
theorem gX5_doubt_X5_requireNumber : GoodIn wsX5_doubt (va_wsS RX5 52 yX5_requireNumber wsX5_requireNumber) := goodIn_app (goodIn_of _ (by decide +kernel)) ggX5_doubt_X5_requireNumber
set_option maxRecDepth 20000 in
theorem ggX5_doubt_X4_findHeights : GoodIn wsX5_doubt wsX4_findHeights := goodIn_r _ [11, 12, 13, 14, 15, 16, 9, 17, 18, 19, 20, 21, 22, 23, 24, 25, 26, 27, 28, 29, 30, 31, 32, 33, 34, 41, 42, 43, 44, 45, 46, 47, 48, 49] (by decide +kernel) (by decide +kernel)
set_option maxRecDepth 20000 in
theorem gX5_doubt_X4_findHeights_n146 : GoodIn wsX5_doubt (wsX4_findHeights) := ggX5_doubt_X4_findHeights
theorem dX5_doubt_0 : decode cX5_doubt 0 = .ok (.iload_n 1, 1) := by decide +kernel
theorem dX5_doubt_1 : decode cX5_doubt 1 = .ok (.aload_n 0, 1) := by decide +kernel
theorem dX5_doubt_2 : decode cX5_doubt 2 = .ok (.getfield 33, 3) := by decide +kernel
theorem dX5_doubt_5 : decode cX5_doubt 5 = .ok (.getfield 125, 3) := by decide +kernel
theorem dX5_doubt_8 : decode cX5_doubt 8 = .ok (.invokestatic 52, 3) := by decide +kernel
theorem dX5_doubt_11 : decode cX5_doubt 11 = .ok (.aload_n 0, 1) := by decide +kernel
theorem dX5_doubt_12 : decode cX5_doubt 12 = .ok (.getfield 33, 3) := by decide +kernel
theorem dX5_doubt_15 : decode cX5_doubt 15 = .ok (.invokevirtual 146, 3) := by decide +kernel
theorem dX5_doubt_18 : decode cX5_doubt 18 = .ok (.aload_n 0, 1) := by decide +kernel
theorem dX5_doubt_19 : decode cX5_doubt 19 = .ok (.getfield 33, 3) := by decide +kernel
theorem dX5_doubt_22 : decode cX5_doubt 22 = .ok (.getfield 149, 3) := by decide +kernel
theorem dX5_doubt_25 : decode cX5_doubt 25 = .ok (.iload_n 1, 1) := by decide +kernel
theorem dX5_doubt_26 : decode cX5_doubt 26 = .ok (.iaload, 1) := by decide +kernel
theorem dX5_doubt_27 : decode cX5_doubt 27 = .ok (.ireturn, 1) := by decide +kernel
set_option maxRecDepth 20000 in
theorem ggX5_doubtAnew_X5_requireNumber : GoodIn wsX5_doubtAnew wsX5_requireNumber := goodIn_ca (goodIn_r _ [5, 6, 7] (by decide +kernel) (by decide +kernel)) (goodIn_sub (fun _ h => List.mem_cons_of_mem _ (List.mem_append_right _ h)) (by decide +kernel))
set_option maxRecDepth 20000 in
theorem gX5_doubtAnew_X5_requireNumber : GoodIn wsX5_doubtAnew (va_wsS RX5 52 yX5_requireNumber wsX5_requireNumber) := goodIn_app (goodIn_of _ (by decide +kernel)) ggX5_doubtAnew_X5_requireNumber
set_option maxRecDepth 20000 in
theorem ggX5_doubtAnew_X4_tryAllLines : GoodIn wsX5_doubtAnew wsX4_tryAllLines := goodIn_r _ [11, 12, 13, 14, 15, 9, 16, 17, 18, 19, 20, 21, 22, 23, 24, 25, 26, 27, 28, 35, 36, 37, 38, 39, 40, 41, 42, 43] (by decide +kernel) (by decide +kernel)
set_option maxRecDepth 20000 in
theorem gX5_doubtAnew_X4_tryAllLines_n157 : GoodIn wsX5_doubtAnew (wsX4_tryAllLines) := ggX5_doubtAnew_X4_tryAllLines
theorem dX5_doubtAnew_0 : decode cX5_doubtAnew 0 = .ok (.iload_n 1, 1) := by decide +kernel
theorem dX5_doubtAnew_1 : decode cX5_doubtAnew 1 = .ok (.aload_n 0, 1) := by decide +kernel
theorem dX5_doubtAnew_2 : decode cX5_doubtAnew 2 = .ok (.getfield 33, 3) := by decide +kernel
theorem dX5_doubtAnew_5 : decode cX5_doubtAnew 5 = .ok (.getfield 125, 3) := by decide +kernel
theorem dX5_doubtAnew_8 : decode cX5_doubtAnew 8 = .ok (.invokestatic 52, 3) := by decide +kernel
theorem dX5_doubtAnew_11 : decode cX5_doubtAnew 11 = .ok (.aload_n 0, 1) := by decide +kernel
theorem dX5_doubtAnew_12 : decode cX5_doubtAnew 12 = .ok (.getfield 33, 3) := by decide +kernel
theorem dX5_doubtAnew_15 : decode cX5_doubtAnew 15 = .ok (.invokevirtual 157, 3) := by decide +kernel
theorem dX5_doubtAnew_18 : decode cX5_doubtAnew 18 = .ok (.aload_n 0, 1) := by decide +kernel
theorem dX5_doubtAnew_19 : decode cX5_doubtAnew 19 = .ok (.getfield 33, 3) := by decide +kernel
theorem dX5_doubtAnew_22 : decode cX5_doubtAnew 22 = .ok (.getfield 160, 3) := by decide +kernel
theorem dX5_doubtAnew_25 : decode cX5_doubtAnew 25 = .ok (.iload_n 1, 1) := by decide +kernel
theorem dX5_doubtAnew_26 : decode cX5_doubtAnew 26 = .ok (.iaload, 1) := by decide +kernel
theorem dX5_doubtAnew_27 : decode cX5_doubtAnew 27 = .ok (.ireturn, 1) := by decide +kernel
set_option maxRecDepth 20000 in
theorem ggX5_isInConflict_X5_requireNumber : GoodIn wsX5_isInConflict wsX5_requireNumber := goodIn_ca (goodIn_r _ [5, 6, 7] (by decide +kernel) (by decide +kernel)) (goodIn_sub (fun _ h => List.mem_cons_of_mem _ (List.mem_append_right _ h)) (by decide +kernel))
set_option maxRecDepth 20000 in
theorem gX5_isInConflict_X5_requireNumber : GoodIn wsX5_isInConflict (va_wsS RX5 52 yX5_requireNumber wsX5_requireNumber) := goodIn_app (goodIn_of _ (by decide +kernel)) ggX5_isInConflict_X5_requireNumber
set_option maxRecDepth 20000 in
theorem ggX5_isInConflict_X4_findHeights : GoodIn wsX5_isInConflict wsX4_findHeights := goodIn_r _ [11, 12, 13, 14, 15, 16, 9, 17, 18, 19, 20, 21, 22, 23, 24, 25, 26, 27, 28, 29, 30, 31, 32, 33, 34, 48, 49, 50, 51, 52, 53, 54, 55, 56] (by decide +kernel) (by decide +kernel)
set_option maxRecDepth 20000 in
theorem gX5_isInConflict_X4_findHeights_n146 : GoodIn wsX5_isInConflict (wsX4_findHeights) := ggX5_isInConflict_X4_findHeights
set_option maxRecDepth 20000 in
theorem ggX5_isInConflict_X4_contradicts : GoodIn wsX5_isInConflict wsX4_contradicts := goodIn_r _ [37, 27, 28, 12, 34, 13, 38, 39, 40, 41, 29, 48, 49, 50, 51, 52, 53, 54, 55, 56] (by decide +kernel) (by decide +kernel)
set_option maxRecDepth 20000 in
theorem gX5_isInConflict_X4_contradicts_n163 : GoodIn wsX5_isInConflict (wsX4_contradicts) := ggX5_isInConflict_X4_contradicts
theorem dX5_isInConflict_0 : decode cX5_isInConflict 0 = .ok (.iload_n 1, 1) := by decide +kernel
theorem dX5_isInConflict_1 : decode cX5_isInConflict 1 = .ok (.aload_n 0, 1) := by decide +kernel
theorem dX5_isInConflict_2 : decode cX5_isInConflict 2 = .ok (.getfield 33, 3) := by decide +kernel
theorem dX5_isInConflict_5 : decode cX5_isInConflict 5 = .ok (.getfield 139, 3) := by decide +kernel
theorem dX5_isInConflict_8 : decode cX5_isInConflict 8 = .ok (.invokestatic 52, 3) := by decide +kernel
theorem dX5_isInConflict_11 : decode cX5_isInConflict 11 = .ok (.aload_n 0, 1) := by decide +kernel
theorem dX5_isInConflict_12 : decode cX5_isInConflict 12 = .ok (.getfield 33, 3) := by decide +kernel
theorem dX5_isInConflict_15 : decode cX5_isInConflict 15 = .ok (.invokevirtual 146, 3) := by decide +kernel
theorem dX5_isInConflict_18 : decode cX5_isInConflict 18 = .ok (.aload_n 0, 1) := by decide +kernel
theorem dX5_isInConflict_19 : decode cX5_isInConflict 19 = .ok (.getfield 33, 3) := by decide +kernel
theorem dX5_isInConflict_22 : decode cX5_isInConflict 22 = .ok (.iload_n 1, 1) := by decide +kernel
theorem dX5_isInConflict_23 : decode cX5_isInConflict 23 = .ok (.invokevirtual 163, 3) := by decide +kernel
theorem dX5_isInConflict_26 : decode cX5_isInConflict 26 = .ok (.ireturn, 1) := by decide +kernel
set_option maxRecDepth 20000 in
theorem ggX5_release_X5_requireRoom : GoodIn wsX5_release wsX5_requireRoom := goodIn_ca (goodIn_r _ [7, 8, 9] (by decide +kernel) (by decide +kernel)) (goodIn_sub (fun _ h => List.mem_cons_of_mem _ (List.mem_append_right _ h)) (by decide +kernel))
set_option maxRecDepth 20000 in
theorem gX5_release_X5_requireRoom : GoodIn wsX5_release (va_wsS RX5 102 yX5_requireRoom wsX5_requireRoom) := goodIn_app (goodIn_of _ (by decide +kernel)) ggX5_release_X5_requireRoom
set_option maxRecDepth 20000 in
theorem ggX5_release_X0_keep : GoodIn wsX5_release wsX0_keep := goodIn_r _ [13, 14, 15, 16, 17, 18, 19, 20, 27, 28, 29] (by decide +kernel) (by decide +kernel)
set_option maxRecDepth 20000 in
theorem gX5_release_X0_keep_n172 : GoodIn wsX5_release (wsX0_keep) := ggX5_release_X0_keep
theorem dX5_release_0 : decode cX5_release 0 = .ok (.aload_n 0, 1) := by decide +kernel
theorem dX5_release_1 : decode cX5_release 1 = .ok (.getfield 40, 3) := by decide +kernel
theorem dX5_release_4 : decode cX5_release 4 = .ok (.getfield 167, 3) := by decide +kernel
theorem dX5_release_7 : decode cX5_release 7 = .ok (.bipush 12, 2) := by decide +kernel
theorem dX5_release_9 : decode cX5_release 9 = .ok (.invokestatic 102, 3) := by decide +kernel
theorem dX5_release_12 : decode cX5_release 12 = .ok (.aload_n 0, 1) := by decide +kernel
theorem dX5_release_13 : decode cX5_release 13 = .ok (.getfield 40, 3) := by decide +kernel
theorem dX5_release_16 : decode cX5_release 16 = .ok (.aload_n 0, 1) := by decide +kernel
theorem dX5_release_17 : decode cX5_release 17 = .ok (.getfield 12, 3) := by decide +kernel
theorem dX5_release_20 : decode cX5_release 20 = .ok (.getfield 168, 3) := by decide +kernel
theorem dX5_release_23 : decode cX5_release 23 = .ok (.aload_n 0, 1) := by decide +kernel
theorem dX5_release_24 : decode cX5_release 24 = .ok (.getfield 44, 3) := by decide +kernel
theorem dX5_release_27 : decode cX5_release 27 = .ok (.invokevirtual 172, 3) := by decide +kernel
theorem dX5_release_30 : decode cX5_release 30 = .ok (.ireturn, 1) := by decide +kernel
set_option maxRecDepth 20000 in
theorem ggX5_trend_X5_requireNumber : GoodIn wsX5_trend wsX5_requireNumber := goodIn_ca (goodIn_r _ [7, 8, 9] (by decide +kernel) (by decide +kernel)) (goodIn_sub (fun _ h => List.mem_cons_of_mem _ (List.mem_append_right _ h)) (by decide +kernel))
set_option maxRecDepth 20000 in
theorem gX5_trend_X5_requireNumber : GoodIn wsX5_trend (va_wsS RX5 52 yX5_requireNumber wsX5_requireNumber) := goodIn_app (goodIn_of _ (by decide +kernel)) ggX5_trend_X5_requireNumber
set_option maxRecDepth 20000 in
theorem ggX5_trend_X5_requireCell : GoodIn wsX5_trend wsX5_requireCell := goodIn_ca (goodIn_r _ [12, 8, 9] (by decide +kernel) (by decide +kernel)) (goodIn_sub (fun _ h => List.mem_cons_of_mem _ (List.mem_append_right _ h)) (by decide +kernel))
set_option maxRecDepth 20000 in
theorem gX5_trend_X5_requireCell : GoodIn wsX5_trend (va_wsS RX5 48 yX5_requireCell wsX5_requireCell) := goodIn_app (goodIn_of _ (by decide +kernel)) ggX5_trend_X5_requireCell
set_option maxRecDepth 20000 in
theorem ggX5_trend_X0_trendFrom : GoodIn wsX5_trend wsX0_trendFrom := goodIn_r _ [16, 17, 18, 19, 6, 20, 21, 22, 23, 24, 31, 32, 33] (by decide +kernel) (by decide +kernel)
set_option maxRecDepth 20000 in
theorem gX5_trend_X0_trendFrom_n181 : GoodIn wsX5_trend (wsX0_trendFrom) := ggX5_trend_X0_trendFrom
theorem dX5_trend_0 : decode cX5_trend 0 = .ok (.iload_n 1, 1) := by decide +kernel
theorem dX5_trend_1 : decode cX5_trend 1 = .ok (.aload_n 0, 1) := by decide +kernel
theorem dX5_trend_2 : decode cX5_trend 2 = .ok (.getfield 40, 3) := by decide +kernel
theorem dX5_trend_5 : decode cX5_trend 5 = .ok (.getfield 167, 3) := by decide +kernel
theorem dX5_trend_8 : decode cX5_trend 8 = .ok (.invokestatic 52, 3) := by decide +kernel
theorem dX5_trend_11 : decode cX5_trend 11 = .ok (.iload_n 2, 1) := by decide +kernel
theorem dX5_trend_12 : decode cX5_trend 12 = .ok (.aload_n 0, 1) := by decide +kernel
theorem dX5_trend_13 : decode cX5_trend 13 = .ok (.getfield 40, 3) := by decide +kernel
theorem dX5_trend_16 : decode cX5_trend 16 = .ok (.getfield 167, 3) := by decide +kernel
theorem dX5_trend_19 : decode cX5_trend 19 = .ok (.invokestatic 52, 3) := by decide +kernel
theorem dX5_trend_22 : decode cX5_trend 22 = .ok (.iload_n 3, 1) := by decide +kernel
theorem dX5_trend_23 : decode cX5_trend 23 = .ok (.iload 4, 2) := by decide +kernel
theorem dX5_trend_25 : decode cX5_trend 25 = .ok (.invokestatic 48, 3) := by decide +kernel
theorem dX5_trend_28 : decode cX5_trend 28 = .ok (.aload_n 0, 1) := by decide +kernel
theorem dX5_trend_29 : decode cX5_trend 29 = .ok (.getfield 40, 3) := by decide +kernel
theorem dX5_trend_32 : decode cX5_trend 32 = .ok (.getfield 176, 3) := by decide +kernel
theorem dX5_trend_35 : decode cX5_trend 35 = .ok (.iload_n 1, 1) := by decide +kernel
theorem dX5_trend_36 : decode cX5_trend 36 = .ok (.iaload, 1) := by decide +kernel
theorem dX5_trend_37 : decode cX5_trend 37 = .ok (.aload_n 0, 1) := by decide +kernel
theorem dX5_trend_38 : decode cX5_trend 38 = .ok (.getfield 40, 3) := by decide +kernel
theorem dX5_trend_41 : decode cX5_trend 41 = .ok (.getfield 176, 3) := by decide +kernel
theorem dX5_trend_44 : decode cX5_trend 44 = .ok (.iload_n 2, 1) := by decide +kernel
theorem dX5_trend_45 : decode cX5_trend 45 = .ok (.iaload, 1) := by decide +kernel
theorem dX5_trend_46 : decode cX5_trend 46 = .ok (.if_icmp .ne 13, 3) := by decide +kernel
theorem dX5_trend_49 : decode cX5_trend 49 = .ok (.new 88, 3) := by decide +kernel
theorem dX5_trend_52 : decode cX5_trend 52 = .ok (.dup, 1) := by decide +kernel
theorem dX5_trend_53 : decode cX5_trend 53 = .ok (.ldc 179, 2) := by decide +kernel
theorem dX5_trend_55 : decode cX5_trend 55 = .ok (.invokespecial 92, 3) := by decide +kernel
theorem dX5_trend_58 : decode cX5_trend 58 = .ok (.athrow, 1) := by decide +kernel
theorem dX5_trend_59 : decode cX5_trend 59 = .ok (.aload_n 0, 1) := by decide +kernel
theorem dX5_trend_60 : decode cX5_trend 60 = .ok (.getfield 40, 3) := by decide +kernel
theorem dX5_trend_63 : decode cX5_trend 63 = .ok (.getfield 176, 3) := by decide +kernel
theorem dX5_trend_66 : decode cX5_trend 66 = .ok (.iload_n 1, 1) := by decide +kernel
theorem dX5_trend_67 : decode cX5_trend 67 = .ok (.iaload, 1) := by decide +kernel
theorem dX5_trend_68 : decode cX5_trend 68 = .ok (.aload_n 0, 1) := by decide +kernel
theorem dX5_trend_69 : decode cX5_trend 69 = .ok (.getfield 40, 3) := by decide +kernel
theorem dX5_trend_72 : decode cX5_trend 72 = .ok (.getfield 176, 3) := by decide +kernel
theorem dX5_trend_75 : decode cX5_trend 75 = .ok (.iload_n 2, 1) := by decide +kernel
theorem dX5_trend_76 : decode cX5_trend 76 = .ok (.iaload, 1) := by decide +kernel
theorem dX5_trend_77 : decode cX5_trend 77 = .ok (.if_icmp .le 7, 3) := by decide +kernel
theorem dX5_trend_80 : decode cX5_trend 80 = .ok (.iconst 1, 1) := by decide +kernel
theorem dX5_trend_81 : decode cX5_trend 81 = .ok (.goto 4, 3) := by decide +kernel
theorem dX5_trend_84 : decode cX5_trend 84 = .ok (.iconst 0, 1) := by decide +kernel
theorem dX5_trend_85 : decode cX5_trend 85 = .ok (.istore 5, 2) := by decide +kernel
theorem dX5_trend_87 : decode cX5_trend 87 = .ok (.iload 5, 2) := by decide +kernel
theorem dX5_trend_89 : decode cX5_trend 89 = .ok (.ifCond .eq 18, 3) := by decide +kernel
theorem dX5_trend_92 : decode cX5_trend 92 = .ok (.aload_n 0, 1) := by decide +kernel
theorem dX5_trend_93 : decode cX5_trend 93 = .ok (.getfield 40, 3) := by decide +kernel
theorem dX5_trend_96 : decode cX5_trend 96 = .ok (.iload_n 2, 1) := by decide +kernel
theorem dX5_trend_97 : decode cX5_trend 97 = .ok (.iload_n 1, 1) := by decide +kernel
theorem dX5_trend_98 : decode cX5_trend 98 = .ok (.iload_n 3, 1) := by decide +kernel
theorem dX5_trend_99 : decode cX5_trend 99 = .ok (.iload 4, 2) := by decide +kernel
theorem dX5_trend_101 : decode cX5_trend 101 = .ok (.invokevirtual 181, 3) := by decide +kernel
theorem dX5_trend_104 : decode cX5_trend 104 = .ok (.goto 15, 3) := by decide +kernel
theorem dX5_trend_107 : decode cX5_trend 107 = .ok (.aload_n 0, 1) := by decide +kernel
theorem dX5_trend_108 : decode cX5_trend 108 = .ok (.getfield 40, 3) := by decide +kernel
theorem dX5_trend_111 : decode cX5_trend 111 = .ok (.iload_n 1, 1) := by decide +kernel
theorem dX5_trend_112 : decode cX5_trend 112 = .ok (.iload_n 2, 1) := by decide +kernel
theorem dX5_trend_113 : decode cX5_trend 113 = .ok (.iload_n 3, 1) := by decide +kernel
theorem dX5_trend_114 : decode cX5_trend 114 = .ok (.iload 4, 2) := by decide +kernel
theorem dX5_trend_116 : decode cX5_trend 116 = .ok (.invokevirtual 181, 3) := by decide +kernel
theorem dX5_trend_119 : decode cX5_trend 119 = .ok (.lreturn, 1) := by decide +kernel
theorem dX5_requireCell_0 : decode cX5_requireCell 0 = .ok (.iload_n 0, 1) := by decide +kernel
theorem dX5_requireCell_1 : decode cX5_requireCell 1 = .ok (.ifCond .lt 19, 3) := by decide +kernel
theorem dX5_requireCell_4 : decode cX5_requireCell 4 = .ok (.iload_n 0, 1) := by decide +kernel
theorem dX5_requireCell_5 : decode cX5_requireCell 5 = .ok (.bipush 8, 2) := by decide +kernel
theorem dX5_requireCell_7 : decode cX5_requireCell 7 = .ok (.if_icmp .ge 13, 3) := by decide +kernel
theorem dX5_requireCell_10 : decode cX5_requireCell 10 = .ok (.iload_n 1, 1) := by decide +kernel
theorem dX5_requireCell_11 : decode cX5_requireCell 11 = .ok (.ifCond .lt 9, 3) := by decide +kernel
theorem dX5_requireCell_14 : decode cX5_requireCell 14 = .ok (.iload_n 1, 1) := by decide +kernel
theorem dX5_requireCell_15 : decode cX5_requireCell 15 = .ok (.bipush 8, 2) := by decide +kernel
theorem dX5_requireCell_17 : decode cX5_requireCell 17 = .ok (.if_icmp .lt 13, 3) := by decide +kernel
theorem dX5_requireCell_20 : decode cX5_requireCell 20 = .ok (.new 185, 3) := by decide +kernel
theorem dX5_requireCell_23 : decode cX5_requireCell 23 = .ok (.dup, 1) := by decide +kernel
theorem dX5_requireCell_24 : decode cX5_requireCell 24 = .ok (.ldc 187, 2) := by decide +kernel
theorem dX5_requireCell_26 : decode cX5_requireCell 26 = .ok (.invokespecial 189, 3) := by decide +kernel
theorem dX5_requireCell_29 : decode cX5_requireCell 29 = .ok (.athrow, 1) := by decide +kernel
theorem dX5_requireCell_30 : decode cX5_requireCell 30 = .ok (.return_, 1) := by decide +kernel
theorem dX5_requireNumber_0 : decode cX5_requireNumber 0 = .ok (.iload_n 0, 1) := by decide +kernel
theorem dX5_requireNumber_1 : decode cX5_requireNumber 1 = .ok (.ifCond .lt 8, 3) := by decide +kernel
theorem dX5_requireNumber_4 : decode cX5_requireNumber 4 = .ok (.iload_n 0, 1) := by decide +kernel
theorem dX5_requireNumber_5 : decode cX5_requireNumber 5 = .ok (.iload_n 1, 1) := by decide +kernel
theorem dX5_requireNumber_6 : decode cX5_requireNumber 6 = .ok (.if_icmp .lt 13, 3) := by decide +kernel
theorem dX5_requireNumber_9 : decode cX5_requireNumber 9 = .ok (.new 185, 3) := by decide +kernel
theorem dX5_requireNumber_12 : decode cX5_requireNumber 12 = .ok (.dup, 1) := by decide +kernel
theorem dX5_requireNumber_13 : decode cX5_requireNumber 13 = .ok (.ldc 190, 2) := by decide +kernel
theorem dX5_requireNumber_15 : decode cX5_requireNumber 15 = .ok (.invokespecial 189, 3) := by decide +kernel
theorem dX5_requireNumber_18 : decode cX5_requireNumber 18 = .ok (.athrow, 1) := by decide +kernel
theorem dX5_requireNumber_19 : decode cX5_requireNumber 19 = .ok (.return_, 1) := by decide +kernel
theorem dX5_requireRange_0 : decode cX5_requireRange 0 = .ok (.lload_n 0, 1) := by decide +kernel
theorem dX5_requireRange_1 : decode cX5_requireRange 1 = .ok (.lload_n 2, 1) := by decide +kernel
theorem dX5_requireRange_2 : decode cX5_requireRange 2 = .ok (.lcmp, 1) := by decide +kernel
theorem dX5_requireRange_3 : decode cX5_requireRange 3 = .ok (.ifCond .lt 10, 3) := by decide +kernel
theorem dX5_requireRange_6 : decode cX5_requireRange 6 = .ok (.lload_n 0, 1) := by decide +kernel
theorem dX5_requireRange_7 : decode cX5_requireRange 7 = .ok (.lload 4, 2) := by decide +kernel
theorem dX5_requireRange_9 : decode cX5_requireRange 9 = .ok (.lcmp, 1) := by decide +kernel
theorem dX5_requireRange_10 : decode cX5_requireRange 10 = .ok (.ifCond .le 13, 3) := by decide +kernel
theorem dX5_requireRange_13 : decode cX5_requireRange 13 = .ok (.new 132, 3) := by decide +kernel
theorem dX5_requireRange_16 : decode cX5_requireRange 16 = .ok (.dup, 1) := by decide +kernel
theorem dX5_requireRange_17 : decode cX5_requireRange 17 = .ok (.ldc 192, 2) := by decide +kernel
theorem dX5_requireRange_19 : decode cX5_requireRange 19 = .ok (.invokespecial 136, 3) := by decide +kernel
theorem dX5_requireRange_22 : decode cX5_requireRange 22 = .ok (.athrow, 1) := by decide +kernel
theorem dX5_requireRange_23 : decode cX5_requireRange 23 = .ok (.return_, 1) := by decide +kernel
theorem dX5_requireRoom_0 : decode cX5_requireRoom 0 = .ok (.iload_n 0, 1) := by decide +kernel
theorem dX5_requireRoom_1 : decode cX5_requireRoom 1 = .ok (.iload_n 1, 1) := by decide +kernel
theorem dX5_requireRoom_2 : decode cX5_requireRoom 2 = .ok (.if_icmp .lt 13, 3) := by decide +kernel
theorem dX5_requireRoom_5 : decode cX5_requireRoom 5 = .ok (.new 88, 3) := by decide +kernel
theorem dX5_requireRoom_8 : decode cX5_requireRoom 8 = .ok (.dup, 1) := by decide +kernel
theorem dX5_requireRoom_9 : decode cX5_requireRoom 9 = .ok (.ldc 194, 2) := by decide +kernel
theorem dX5_requireRoom_11 : decode cX5_requireRoom 11 = .ok (.invokespecial 92, 3) := by decide +kernel
theorem dX5_requireRoom_14 : decode cX5_requireRoom 14 = .ok (.athrow, 1) := by decide +kernel
theorem dX5_requireRoom_15 : decode cX5_requireRoom 15 = .ok (.return_, 1) := by decide +kernel
theorem dX5_cellNumber_0 : decode cX5_cellNumber 0 = .ok (.iload_n 1, 1) := by decide +kernel
theorem dX5_cellNumber_1 : decode cX5_cellNumber 1 = .ok (.bipush 8, 2) := by decide +kernel
theorem dX5_cellNumber_3 : decode cX5_cellNumber 3 = .ok (.imul, 1) := by decide +kernel
theorem dX5_cellNumber_4 : decode cX5_cellNumber 4 = .ok (.iload_n 0, 1) := by decide +kernel
theorem dX5_cellNumber_5 : decode cX5_cellNumber 5 = .ok (.iadd, 1) := by decide +kernel
theorem dX5_cellNumber_6 : decode cX5_cellNumber 6 = .ok (.ireturn, 1) := by decide +kernel
theorem dX6_init_0 : decode cX6_init 0 = .ok (.aload_n 0, 1) := by decide +kernel
theorem dX6_init_1 : decode cX6_init 1 = .ok (.invokespecial 1, 3) := by decide +kernel
theorem dX6_init_4 : decode cX6_init 4 = .ok (.aload_n 0, 1) := by decide +kernel
theorem dX6_init_5 : decode cX6_init 5 = .ok (.sipush 256, 3) := by decide +kernel
theorem dX6_init_8 : decode cX6_init 8 = .ok (.newarray .long, 2) := by decide +kernel
theorem dX6_init_10 : decode cX6_init 10 = .ok (.putfield 7, 3) := by decide +kernel
theorem dX6_init_13 : decode cX6_init 13 = .ok (.aload_n 0, 1) := by decide +kernel
theorem dX6_init_14 : decode cX6_init 14 = .ok (.iconst 1, 1) := by decide +kernel
theorem dX6_init_15 : decode cX6_init 15 = .ok (.putfield 13, 3) := by decide +kernel
theorem dX6_init_18 : decode cX6_init 18 = .ok (.aload_n 0, 1) := by decide +kernel
theorem dX6_init_19 : decode cX6_init 19 = .ok (.bipush 6, 2) := by decide +kernel
theorem dX6_init_21 : decode cX6_init 21 = .ok (.newarray .int, 2) := by decide +kernel
theorem dX6_init_23 : decode cX6_init 23 = .ok (.putfield 17, 3) := by decide +kernel
theorem dX6_init_26 : decode cX6_init 26 = .ok (.aload_n 0, 1) := by decide +kernel
theorem dX6_init_27 : decode cX6_init 27 = .ok (.bipush 6, 2) := by decide +kernel
theorem dX6_init_29 : decode cX6_init 29 = .ok (.newarray .int, 2) := by decide +kernel
theorem dX6_init_31 : decode cX6_init 31 = .ok (.putfield 21, 3) := by decide +kernel
theorem dX6_init_34 : decode cX6_init 34 = .ok (.aload_n 0, 1) := by decide +kernel
theorem dX6_init_35 : decode cX6_init 35 = .ok (.bipush 6, 2) := by decide +kernel
theorem dX6_init_37 : decode cX6_init 37 = .ok (.newarray .int, 2) := by decide +kernel
theorem dX6_init_39 : decode cX6_init 39 = .ok (.putfield 24, 3) := by decide +kernel
theorem dX6_init_42 : decode cX6_init 42 = .ok (.aload_n 0, 1) := by decide +kernel
theorem dX6_init_43 : decode cX6_init 43 = .ok (.bipush 24, 2) := by decide +kernel
theorem dX6_init_45 : decode cX6_init 45 = .ok (.newarray .int, 2) := by decide +kernel
theorem dX6_init_47 : decode cX6_init 47 = .ok (.putfield 27, 3) := by decide +kernel
theorem dX6_init_50 : decode cX6_init 50 = .ok (.aload_n 0, 1) := by decide +kernel
theorem dX6_init_51 : decode cX6_init 51 = .ok (.bipush 24, 2) := by decide +kernel
theorem dX6_init_53 : decode cX6_init 53 = .ok (.newarray .int, 2) := by decide +kernel
theorem dX6_init_55 : decode cX6_init 55 = .ok (.putfield 30, 3) := by decide +kernel
theorem dX6_init_58 : decode cX6_init 58 = .ok (.aload_n 0, 1) := by decide +kernel
theorem dX6_init_59 : decode cX6_init 59 = .ok (.bipush 24, 2) := by decide +kernel
theorem dX6_init_61 : decode cX6_init 61 = .ok (.newarray .int, 2) := by decide +kernel
theorem dX6_init_63 : decode cX6_init 63 = .ok (.putfield 33, 3) := by decide +kernel
theorem dX6_init_66 : decode cX6_init 66 = .ok (.aload_n 0, 1) := by decide +kernel
theorem dX6_init_67 : decode cX6_init 67 = .ok (.bipush 24, 2) := by decide +kernel
theorem dX6_init_69 : decode cX6_init 69 = .ok (.newarray .int, 2) := by decide +kernel
theorem dX6_init_71 : decode cX6_init 71 = .ok (.putfield 36, 3) := by decide +kernel
theorem dX6_init_74 : decode cX6_init 74 = .ok (.aload_n 0, 1) := by decide +kernel
theorem dX6_init_75 : decode cX6_init 75 = .ok (.bipush 10, 2) := by decide +kernel
theorem dX6_init_77 : decode cX6_init 77 = .ok (.newarray .int, 2) := by decide +kernel
theorem dX6_init_79 : decode cX6_init 79 = .ok (.putfield 39, 3) := by decide +kernel
theorem dX6_init_82 : decode cX6_init 82 = .ok (.aload_n 0, 1) := by decide +kernel
theorem dX6_init_83 : decode cX6_init 83 = .ok (.bipush 10, 2) := by decide +kernel
theorem dX6_init_85 : decode cX6_init 85 = .ok (.newarray .int, 2) := by decide +kernel
theorem dX6_init_87 : decode cX6_init 87 = .ok (.putfield 42, 3) := by decide +kernel
theorem dX6_init_90 : decode cX6_init 90 = .ok (.aload_n 0, 1) := by decide +kernel
theorem dX6_init_91 : decode cX6_init 91 = .ok (.sipush 768, 3) := by decide +kernel
theorem dX6_init_94 : decode cX6_init 94 = .ok (.newarray .long, 2) := by decide +kernel
theorem dX6_init_96 : decode cX6_init 96 = .ok (.putfield 45, 3) := by decide +kernel
theorem dX6_init_99 : decode cX6_init 99 = .ok (.aload_n 0, 1) := by decide +kernel
theorem dX6_init_100 : decode cX6_init 100 = .ok (.bipush 12, 2) := by decide +kernel
theorem dX6_init_102 : decode cX6_init 102 = .ok (.newarray .int, 2) := by decide +kernel
theorem dX6_init_104 : decode cX6_init 104 = .ok (.putfield 48, 3) := by decide +kernel
theorem dX6_init_107 : decode cX6_init 107 = .ok (.aload_n 0, 1) := by decide +kernel
theorem dX6_init_108 : decode cX6_init 108 = .ok (.iconst 0, 1) := by decide +kernel
theorem dX6_init_109 : decode cX6_init 109 = .ok (.putfield 51, 3) := by decide +kernel
theorem dX6_init_112 : decode cX6_init 112 = .ok (.return_, 1) := by decide +kernel
theorem dX6_thrown_0 : decode cX6_thrown 0 = .ok (.aload_n 0, 1) := by decide +kernel
theorem dX6_thrown_1 : decode cX6_thrown 1 = .ok (.getfield 54, 3) := by decide +kernel
theorem dX6_thrown_4 : decode cX6_thrown 4 = .ok (.ireturn, 1) := by decide +kernel
theorem dX6_holds_0 : decode cX6_holds 0 = .ok (.aload_n 0, 1) := by decide +kernel
theorem dX6_holds_1 : decode cX6_holds 1 = .ok (.iload_n 1, 1) := by decide +kernel
theorem dX6_holds_2 : decode cX6_holds 2 = .ok (.putfield 54, 3) := by decide +kernel
theorem dX6_holds_5 : decode cX6_holds 5 = .ok (.iload_n 1, 1) := by decide +kernel
theorem dX6_holds_6 : decode cX6_holds 6 = .ok (.ifCond .ne 7, 3) := by decide +kernel
theorem dX6_holds_9 : decode cX6_holds 9 = .ok (.iconst 1, 1) := by decide +kernel
theorem dX6_holds_10 : decode cX6_holds 10 = .ok (.goto 4, 3) := by decide +kernel
theorem dX6_holds_13 : decode cX6_holds 13 = .ok (.iconst 0, 1) := by decide +kernel
theorem dX6_holds_14 : decode cX6_holds 14 = .ok (.ireturn, 1) := by decide +kernel
theorem dX6_isIn_0 : decode cX6_isIn 0 = .ok (.lload_n 0, 1) := by decide +kernel
theorem dX6_isIn_1 : decode cX6_isIn 1 = .ok (.lload_n 2, 1) := by decide +kernel
theorem dX6_isIn_2 : decode cX6_isIn 2 = .ok (.lcmp, 1) := by decide +kernel
theorem dX6_isIn_3 : decode cX6_isIn 3 = .ok (.ifCond .lt 14, 3) := by decide +kernel
theorem dX6_isIn_6 : decode cX6_isIn 6 = .ok (.lload_n 0, 1) := by decide +kernel
theorem dX6_isIn_7 : decode cX6_isIn 7 = .ok (.lload 4, 2) := by decide +kernel
theorem dX6_isIn_9 : decode cX6_isIn 9 = .ok (.lcmp, 1) := by decide +kernel
theorem dX6_isIn_10 : decode cX6_isIn 10 = .ok (.ifCond .gt 7, 3) := by decide +kernel
theorem dX6_isIn_13 : decode cX6_isIn 13 = .ok (.iconst 1, 1) := by decide +kernel
theorem dX6_isIn_14 : decode cX6_isIn 14 = .ok (.goto 4, 3) := by decide +kernel
theorem dX6_isIn_17 : decode cX6_isIn 17 = .ok (.iconst 0, 1) := by decide +kernel
theorem dX6_isIn_18 : decode cX6_isIn 18 = .ok (.ireturn, 1) := by decide +kernel
set_option maxRecDepth 20000 in
theorem ggX6_isCell_X6_isIn : GoodIn wsX6_isCell wsX6_isIn := goodIn_r _ [5] (by decide +kernel) (by decide +kernel)
set_option maxRecDepth 20000 in
theorem gX6_isCell_X6_isIn : GoodIn wsX6_isCell (va_wsS RX6 59 yX6_isIn wsX6_isIn) := goodIn_app (goodIn_of _ (by decide +kernel)) ggX6_isCell_X6_isIn
theorem dX6_isCell_0 : decode cX6_isCell 0 = .ok (.iload_n 0, 1) := by decide +kernel
theorem dX6_isCell_1 : decode cX6_isCell 1 = .ok (.i2l, 1) := by decide +kernel
theorem dX6_isCell_2 : decode cX6_isCell 2 = .ok (.lconst 0, 1) := by decide +kernel
theorem dX6_isCell_3 : decode cX6_isCell 3 = .ok (.ldc2_w 57, 3) := by decide +kernel
theorem dX6_isCell_6 : decode cX6_isCell 6 = .ok (.invokestatic 59, 3) := by decide +kernel
theorem dX6_isCell_9 : decode cX6_isCell 9 = .ok (.ifCond .eq 19, 3) := by decide +kernel
theorem dX6_isCell_12 : decode cX6_isCell 12 = .ok (.iload_n 1, 1) := by decide +kernel
theorem dX6_isCell_13 : decode cX6_isCell 13 = .ok (.i2l, 1) := by decide +kernel
theorem dX6_isCell_14 : decode cX6_isCell 14 = .ok (.lconst 0, 1) := by decide +kernel
theorem dX6_isCell_15 : decode cX6_isCell 15 = .ok (.ldc2_w 57, 3) := by decide +kernel
theorem dX6_isCell_18 : decode cX6_isCell 18 = .ok (.invokestatic 59, 3) := by decide +kernel
theorem dX6_isCell_21 : decode cX6_isCell 21 = .ok (.ifCond .eq 7, 3) := by decide +kernel
theorem dX6_isCell_24 : decode cX6_isCell 24 = .ok (.iconst 1, 1) := by decide +kernel
theorem dX6_isCell_25 : decode cX6_isCell 25 = .ok (.goto 4, 3) := by decide +kernel
theorem dX6_isCell_28 : decode cX6_isCell 28 = .ok (.iconst 0, 1) := by decide +kernel
theorem dX6_isCell_29 : decode cX6_isCell 29 = .ok (.ireturn, 1) := by decide +kernel
set_option maxRecDepth 20000 in
theorem ggX6_isNeedle_X6_isIn : GoodIn wsX6_isNeedle wsX6_isIn := goodIn_r _ [5] (by decide +kernel) (by decide +kernel)
set_option maxRecDepth 20000 in
theorem gX6_isNeedle_X6_isIn : GoodIn wsX6_isNeedle (va_wsS RX6 59 yX6_isIn wsX6_isIn) := goodIn_app (goodIn_of _ (by decide +kernel)) ggX6_isNeedle_X6_isIn
theorem dX6_isNeedle_0 : decode cX6_isNeedle 0 = .ok (.iload_n 1, 1) := by decide +kernel
theorem dX6_isNeedle_1 : decode cX6_isNeedle 1 = .ok (.i2l, 1) := by decide +kernel
theorem dX6_isNeedle_2 : decode cX6_isNeedle 2 = .ok (.lconst 0, 1) := by decide +kernel
theorem dX6_isNeedle_3 : decode cX6_isNeedle 3 = .ok (.aload_n 0, 1) := by decide +kernel
theorem dX6_isNeedle_4 : decode cX6_isNeedle 4 = .ok (.getfield 63, 3) := by decide +kernel
theorem dX6_isNeedle_7 : decode cX6_isNeedle 7 = .ok (.iconst 1, 1) := by decide +kernel
theorem dX6_isNeedle_8 : decode cX6_isNeedle 8 = .ok (.isub, 1) := by decide +kernel
theorem dX6_isNeedle_9 : decode cX6_isNeedle 9 = .ok (.i2l, 1) := by decide +kernel
theorem dX6_isNeedle_10 : decode cX6_isNeedle 10 = .ok (.invokestatic 59, 3) := by decide +kernel
theorem dX6_isNeedle_13 : decode cX6_isNeedle 13 = .ok (.ireturn, 1) := by decide +kernel
set_option maxRecDepth 20000 in
theorem ggX6_isBenchmark_X6_isIn : GoodIn wsX6_isBenchmark wsX6_isIn := goodIn_r _ [5] (by decide +kernel) (by decide +kernel)
set_option maxRecDepth 20000 in
theorem gX6_isBenchmark_X6_isIn : GoodIn wsX6_isBenchmark (va_wsS RX6 59 yX6_isIn wsX6_isIn) := goodIn_app (goodIn_of _ (by decide +kernel)) ggX6_isBenchmark_X6_isIn
theorem dX6_isBenchmark_0 : decode cX6_isBenchmark 0 = .ok (.iload_n 1, 1) := by decide +kernel
theorem dX6_isBenchmark_1 : decode cX6_isBenchmark 1 = .ok (.i2l, 1) := by decide +kernel
theorem dX6_isBenchmark_2 : decode cX6_isBenchmark 2 = .ok (.lconst 0, 1) := by decide +kernel
theorem dX6_isBenchmark_3 : decode cX6_isBenchmark 3 = .ok (.aload_n 0, 1) := by decide +kernel
theorem dX6_isBenchmark_4 : decode cX6_isBenchmark 4 = .ok (.getfield 66, 3) := by decide +kernel
theorem dX6_isBenchmark_7 : decode cX6_isBenchmark 7 = .ok (.iconst 1, 1) := by decide +kernel
theorem dX6_isBenchmark_8 : decode cX6_isBenchmark 8 = .ok (.isub, 1) := by decide +kernel
theorem dX6_isBenchmark_9 : decode cX6_isBenchmark 9 = .ok (.i2l, 1) := by decide +kernel
theorem dX6_isBenchmark_10 : decode cX6_isBenchmark 10 = .ok (.invokestatic 59, 3) := by decide +kernel
theorem dX6_isBenchmark_13 : decode cX6_isBenchmark 13 = .ok (.ireturn, 1) := by decide +kernel
set_option maxRecDepth 20000 in
theorem ggX6_isRelease_X6_isIn : GoodIn wsX6_isRelease wsX6_isIn := goodIn_r _ [5] (by decide +kernel) (by decide +kernel)
set_option maxRecDepth 20000 in
theorem gX6_isRelease_X6_isIn : GoodIn wsX6_isRelease (va_wsS RX6 59 yX6_isIn wsX6_isIn) := goodIn_app (goodIn_of _ (by decide +kernel)) ggX6_isRelease_X6_isIn
theorem dX6_isRelease_0 : decode cX6_isRelease 0 = .ok (.iload_n 1, 1) := by decide +kernel
theorem dX6_isRelease_1 : decode cX6_isRelease 1 = .ok (.i2l, 1) := by decide +kernel
theorem dX6_isRelease_2 : decode cX6_isRelease 2 = .ok (.lconst 0, 1) := by decide +kernel
theorem dX6_isRelease_3 : decode cX6_isRelease 3 = .ok (.aload_n 0, 1) := by decide +kernel
theorem dX6_isRelease_4 : decode cX6_isRelease 4 = .ok (.getfield 69, 3) := by decide +kernel
theorem dX6_isRelease_7 : decode cX6_isRelease 7 = .ok (.iconst 1, 1) := by decide +kernel
theorem dX6_isRelease_8 : decode cX6_isRelease 8 = .ok (.isub, 1) := by decide +kernel
theorem dX6_isRelease_9 : decode cX6_isRelease 9 = .ok (.i2l, 1) := by decide +kernel
theorem dX6_isRelease_10 : decode cX6_isRelease 10 = .ok (.invokestatic 59, 3) := by decide +kernel
theorem dX6_isRelease_13 : decode cX6_isRelease 13 = .ok (.ireturn, 1) := by decide +kernel
theorem dX6_changed_0 : decode cX6_changed 0 = .ok (.aload_n 0, 1) := by decide +kernel
theorem dX6_changed_1 : decode cX6_changed 1 = .ok (.getfield 7, 3) := by decide +kernel
theorem dX6_changed_4 : decode cX6_changed 4 = .ok (.iload_n 1, 1) := by decide +kernel
theorem dX6_changed_5 : decode cX6_changed 5 = .ok (.laload, 1) := by decide +kernel
theorem dX6_changed_6 : decode cX6_changed 6 = .ok (.lstore 4, 2) := by decide +kernel
theorem dX6_changed_8 : decode cX6_changed 8 = .ok (.aload_n 0, 1) := by decide +kernel
theorem dX6_changed_9 : decode cX6_changed 9 = .ok (.getfield 7, 3) := by decide +kernel
theorem dX6_changed_12 : decode cX6_changed 12 = .ok (.iload_n 1, 1) := by decide +kernel
theorem dX6_changed_13 : decode cX6_changed 13 = .ok (.lload_n 2, 1) := by decide +kernel
theorem dX6_changed_14 : decode cX6_changed 14 = .ok (.lastore, 1) := by decide +kernel
theorem dX6_changed_15 : decode cX6_changed 15 = .ok (.lload 4, 2) := by decide +kernel
theorem dX6_changed_17 : decode cX6_changed 17 = .ok (.lreturn, 1) := by decide +kernel
set_option maxRecDepth 20000 in
theorem ggX6_mass_X6_isCell : GoodIn wsX6_mass wsX6_isCell := goodIn_r _ [6, 7, 8, 9, 5, 10] (by decide +kernel) (by decide +kernel)
set_option maxRecDepth 20000 in
theorem gX6_mass_X6_isCell : GoodIn wsX6_mass (va_wsS RX6 72 yX6_isCell wsX6_isCell) := goodIn_app (goodIn_of _ (by decide +kernel)) ggX6_mass_X6_isCell
set_option maxRecDepth 20000 in
theorem ggX6_mass_X6_isIn : GoodIn wsX6_mass wsX6_isIn := goodIn_r _ [10] (by decide +kernel) (by decide +kernel)
set_option maxRecDepth 20000 in
theorem gX6_mass_X6_isIn : GoodIn wsX6_mass (va_wsS RX6 59 yX6_isIn wsX6_isIn) := goodIn_app (goodIn_of _ (by decide +kernel)) ggX6_mass_X6_isIn
set_option maxRecDepth 20000 in
theorem ggX6_mass_X6_holds : GoodIn wsX6_mass wsX6_holds := goodIn_r _ [14, 15, 21, 22, 23, 24, 25, 26, 27, 28, 29, 30, 31, 32, 33, 34, 35, 36, 37, 38, 39, 40] (by decide +kernel) (by decide +kernel)
set_option maxRecDepth 20000 in
theorem gX6_mass_X6_holds : GoodIn wsX6_mass (wsV RX6 80 RX6 yX6_holds wsX6_holds) := goodIn_app (goodIn_of _ (by decide +kernel)) ggX6_mass_X6_holds
set_option maxRecDepth 20000 in
theorem ggX6_mass_X6_changed : GoodIn wsX6_mass wsX6_changed := goodIn_r _ [19, 20, 21, 22, 23, 24, 25, 26, 27, 28, 29, 30, 31, 32, 33, 34, 35, 36, 37, 38, 39, 40] (by decide +kernel) (by decide +kernel)
