set_option maxRecDepth 20000 in
theorem ggX6_init_X1_init : GoodIn wsX6_init wsX1_init := goodIn_r _ [32, 33, 2, 3, 34, 35, 36, 37, 38, 72, 73, 74, 75, 76, 77] (by decide +kernel) (by decide +kernel)
set_option maxRecDepth 20000 in
theorem gX6_init_X1_init : GoodIn wsX6_init (wsX1_init) := ggX6_init_X1_init
set_option maxRecDepth 20000 in
theorem ggX6_init_X3_init : GoodIn wsX6_init wsX3_init := goodIn_r _ [40, 41, 2, 3, 42, 43, 86, 87, 88] (by decide +kernel) (by decide +kernel)
set_option maxRecDepth 20000 in
theorem gX6_init_X3_init_n25 : GoodIn wsX6_init (wsX3_init) := ggX6_init_X3_init
set_option maxRecDepth 20000 in
theorem ggX6_init_X4_init : GoodIn wsX6_init wsX4_init := goodIn_r _ [45, 46, 2, 3, 34, 47, 89, 90] (by decide +kernel) (by decide +kernel)
set_option maxRecDepth 20000 in
theorem gX6_init_X4_init_n32 : GoodIn wsX6_init (wsX4_init) := ggX6_init_X4_init
set_option maxRecDepth 20000 in
theorem ggX6_init_X0_init : GoodIn wsX6_init wsX0_init := goodIn_r _ [49, 50, 2, 3, 34, 51, 52, 53, 91, 92, 93, 94] (by decide +kernel) (by decide +kernel)
set_option maxRecDepth 20000 in
theorem gX6_init_X0_init_n39 : GoodIn wsX6_init (wsX0_init) := ggX6_init_X0_init
set_option maxRecDepth 20000 in
theorem ggX6_init_X2_init : GoodIn wsX6_init wsX2_init := goodIn_r _ [55, 56, 2, 3, 34, 57, 58, 59, 60, 61, 95, 96, 97, 98, 99] (by decide +kernel) (by decide +kernel)
set_option maxRecDepth 20000 in
theorem gX6_init_X2_init_n46 : GoodIn wsX6_init (wsX2_init) := ggX6_init_X2_init
set_option maxRecDepth 20000 in
theorem ggX6_init_X5_init : GoodIn wsX6_init wsX5_init := goodIn_r _ [63, 64, 2, 3, 34, 65, 66, 67, 68, 69, 70, 71, 100, 101, 102, 103, 104, 105, 106, 107] (by decide +kernel) (by decide +kernel)
set_option maxRecDepth 20000 in
theorem gX6_init_X5_init_n53 : GoodIn wsX6_init (wsX5_init) := ggX6_init_X5_init
theorem dX6_init_0 : decode cX6_init 0 = .ok (.aload_n 0, 1) := by decide +kernel
theorem dX6_init_1 : decode cX6_init 1 = .ok (.invokespecial 1, 3) := by decide +kernel
theorem dX6_init_4 : decode cX6_init 4 = .ok (.aload_n 0, 1) := by decide +kernel
theorem dX6_init_5 : decode cX6_init 5 = .ok (.new 7, 3) := by decide +kernel
theorem dX6_init_8 : decode cX6_init 8 = .ok (.dup, 1) := by decide +kernel
theorem dX6_init_9 : decode cX6_init 9 = .ok (.invokespecial 9, 3) := by decide +kernel
theorem dX6_init_12 : decode cX6_init 12 = .ok (.putfield 10, 3) := by decide +kernel
theorem dX6_init_15 : decode cX6_init 15 = .ok (.aload_n 0, 1) := by decide +kernel
theorem dX6_init_16 : decode cX6_init 16 = .ok (.new 7, 3) := by decide +kernel
theorem dX6_init_19 : decode cX6_init 19 = .ok (.dup, 1) := by decide +kernel
theorem dX6_init_20 : decode cX6_init 20 = .ok (.invokespecial 9, 3) := by decide +kernel
theorem dX6_init_23 : decode cX6_init 23 = .ok (.putfield 16, 3) := by decide +kernel
theorem dX6_init_26 : decode cX6_init 26 = .ok (.aload_n 0, 1) := by decide +kernel
theorem dX6_init_27 : decode cX6_init 27 = .ok (.iconst 2, 1) := by decide +kernel
theorem dX6_init_28 : decode cX6_init 28 = .ok (.anewarray 7, 3) := by decide +kernel
theorem dX6_init_31 : decode cX6_init 31 = .ok (.putfield 19, 3) := by decide +kernel
theorem dX6_init_34 : decode cX6_init 34 = .ok (.aload_n 0, 1) := by decide +kernel
theorem dX6_init_35 : decode cX6_init 35 = .ok (.new 23, 3) := by decide +kernel
theorem dX6_init_38 : decode cX6_init 38 = .ok (.dup, 1) := by decide +kernel
theorem dX6_init_39 : decode cX6_init 39 = .ok (.invokespecial 25, 3) := by decide +kernel
theorem dX6_init_42 : decode cX6_init 42 = .ok (.putfield 26, 3) := by decide +kernel
theorem dX6_init_45 : decode cX6_init 45 = .ok (.aload_n 0, 1) := by decide +kernel
theorem dX6_init_46 : decode cX6_init 46 = .ok (.new 30, 3) := by decide +kernel
theorem dX6_init_49 : decode cX6_init 49 = .ok (.dup, 1) := by decide +kernel
theorem dX6_init_50 : decode cX6_init 50 = .ok (.invokespecial 32, 3) := by decide +kernel
theorem dX6_init_53 : decode cX6_init 53 = .ok (.putfield 33, 3) := by decide +kernel
theorem dX6_init_56 : decode cX6_init 56 = .ok (.aload_n 0, 1) := by decide +kernel
theorem dX6_init_57 : decode cX6_init 57 = .ok (.new 37, 3) := by decide +kernel
theorem dX6_init_60 : decode cX6_init 60 = .ok (.dup, 1) := by decide +kernel
theorem dX6_init_61 : decode cX6_init 61 = .ok (.invokespecial 39, 3) := by decide +kernel
theorem dX6_init_64 : decode cX6_init 64 = .ok (.putfield 40, 3) := by decide +kernel
theorem dX6_init_67 : decode cX6_init 67 = .ok (.aload_n 0, 1) := by decide +kernel
theorem dX6_init_68 : decode cX6_init 68 = .ok (.new 44, 3) := by decide +kernel
theorem dX6_init_71 : decode cX6_init 71 = .ok (.dup, 1) := by decide +kernel
theorem dX6_init_72 : decode cX6_init 72 = .ok (.invokespecial 46, 3) := by decide +kernel
theorem dX6_init_75 : decode cX6_init 75 = .ok (.putfield 47, 3) := by decide +kernel
theorem dX6_init_78 : decode cX6_init 78 = .ok (.aload_n 0, 1) := by decide +kernel
theorem dX6_init_79 : decode cX6_init 79 = .ok (.new 51, 3) := by decide +kernel
theorem dX6_init_82 : decode cX6_init 82 = .ok (.dup, 1) := by decide +kernel
theorem dX6_init_83 : decode cX6_init 83 = .ok (.invokespecial 53, 3) := by decide +kernel
theorem dX6_init_86 : decode cX6_init 86 = .ok (.putfield 54, 3) := by decide +kernel
theorem dX6_init_89 : decode cX6_init 89 = .ok (.return_, 1) := by decide +kernel
set_option maxRecDepth 20000 in
theorem ggX6_ribbon_X6_checkPost : GoodIn wsX6_ribbon wsX6_checkPost := goodIn_ca (goodIn_r _ [10, 11, 12, 13, 14, 9, 15] (by decide +kernel) (by decide +kernel)) (goodIn_sub (fun _ h => List.mem_cons_of_mem _ (List.mem_append_right _ h)) (by decide +kernel))
set_option maxRecDepth 20000 in
theorem gX6_ribbon_X6_checkPost : GoodIn wsX6_ribbon (va_wsS RX6 58 yX6_checkPost wsX6_checkPost) := goodIn_app (goodIn_of _ (by decide +kernel)) ggX6_ribbon_X6_checkPost
set_option maxRecDepth 20000 in
theorem ggX6_ribbon_X6_columnOf : GoodIn wsX6_ribbon wsX6_columnOf := goodIn_r _ [18] (by decide +kernel) (by decide +kernel)
set_option maxRecDepth 20000 in
theorem gX6_ribbon_X6_columnOf : GoodIn wsX6_ribbon (va_wsS RX6 62 yX6_columnOf wsX6_columnOf) := goodIn_app (goodIn_of _ (by decide +kernel)) ggX6_ribbon_X6_columnOf
set_option maxRecDepth 20000 in
theorem ggX6_ribbon_X3_save : GoodIn wsX6_ribbon wsX3_save := goodIn_r _ [23, 24, 25, 26, 27, 28, 29, 30, 31, 32, 33, 34, 35, 36, 37, 38, 39, 40, 41, 42, 43, 44, 45, 46, 47, 48, 49, 50, 69, 70, 71, 63, 64, 65, 66, 67, 68] (by decide +kernel) (by decide +kernel)
set_option maxRecDepth 20000 in
theorem gX6_ribbon_X3_save : GoodIn wsX6_ribbon (wsV RX6 84 RX3 yX3_save wsX3_save) := goodIn_app (goodIn_of _ (by decide +kernel)) ggX6_ribbon_X3_save
set_option maxRecDepth 20000 in
theorem ggX6_ribbon_X1_addRibbon : GoodIn wsX6_ribbon wsX1_addRibbon := goodIn_r _ [54, 49, 38, 39, 40, 63, 64, 65, 66, 67, 68] (by decide +kernel) (by decide +kernel)
set_option maxRecDepth 20000 in
theorem gX6_ribbon_X1_addRibbon : GoodIn wsX6_ribbon (wsV RX6 88 RX1 yX1_addRibbon wsX1_addRibbon) := goodIn_app (goodIn_of _ (by decide +kernel)) ggX6_ribbon_X1_addRibbon
theorem dX6_ribbon_0 : decode cX6_ribbon 0 = .ok (.iload_n 1, 1) := by decide +kernel
theorem dX6_ribbon_1 : decode cX6_ribbon 1 = .ok (.invokestatic 58, 3) := by decide +kernel
theorem dX6_ribbon_4 : decode cX6_ribbon 4 = .ok (.iload_n 2, 1) := by decide +kernel
theorem dX6_ribbon_5 : decode cX6_ribbon 5 = .ok (.invokestatic 58, 3) := by decide +kernel
theorem dX6_ribbon_8 : decode cX6_ribbon 8 = .ok (.iload_n 1, 1) := by decide +kernel
theorem dX6_ribbon_9 : decode cX6_ribbon 9 = .ok (.invokestatic 62, 3) := by decide +kernel
theorem dX6_ribbon_12 : decode cX6_ribbon 12 = .ok (.iload_n 2, 1) := by decide +kernel
theorem dX6_ribbon_13 : decode cX6_ribbon 13 = .ok (.invokestatic 62, 3) := by decide +kernel
theorem dX6_ribbon_16 : decode cX6_ribbon 16 = .ok (.if_icmp .ne 13, 3) := by decide +kernel
theorem dX6_ribbon_19 : decode cX6_ribbon 19 = .ok (.new 66, 3) := by decide +kernel
theorem dX6_ribbon_22 : decode cX6_ribbon 22 = .ok (.dup, 1) := by decide +kernel
theorem dX6_ribbon_23 : decode cX6_ribbon 23 = .ok (.ldc 68, 2) := by decide +kernel
theorem dX6_ribbon_25 : decode cX6_ribbon 25 = .ok (.invokespecial 70, 3) := by decide +kernel
theorem dX6_ribbon_28 : decode cX6_ribbon 28 = .ok (.athrow, 1) := by decide +kernel
theorem dX6_ribbon_29 : decode cX6_ribbon 29 = .ok (.iload_n 3, 1) := by decide +kernel
theorem dX6_ribbon_30 : decode cX6_ribbon 30 = .ok (.iconst 1, 1) := by decide +kernel
theorem dX6_ribbon_31 : decode cX6_ribbon 31 = .ok (.if_icmp .lt 9, 3) := by decide +kernel
theorem dX6_ribbon_34 : decode cX6_ribbon 34 = .ok (.iload_n 3, 1) := by decide +kernel
theorem dX6_ribbon_35 : decode cX6_ribbon 35 = .ok (.bipush 50, 2) := by decide +kernel
theorem dX6_ribbon_37 : decode cX6_ribbon 37 = .ok (.if_icmp .le 13, 3) := by decide +kernel
theorem dX6_ribbon_40 : decode cX6_ribbon 40 = .ok (.new 66, 3) := by decide +kernel
theorem dX6_ribbon_43 : decode cX6_ribbon 43 = .ok (.dup, 1) := by decide +kernel
theorem dX6_ribbon_44 : decode cX6_ribbon 44 = .ok (.ldc 73, 2) := by decide +kernel
theorem dX6_ribbon_46 : decode cX6_ribbon 46 = .ok (.invokespecial 70, 3) := by decide +kernel
theorem dX6_ribbon_49 : decode cX6_ribbon 49 = .ok (.athrow, 1) := by decide +kernel
theorem dX6_ribbon_50 : decode cX6_ribbon 50 = .ok (.aload_n 0, 1) := by decide +kernel
theorem dX6_ribbon_51 : decode cX6_ribbon 51 = .ok (.getfield 10, 3) := by decide +kernel
theorem dX6_ribbon_54 : decode cX6_ribbon 54 = .ok (.getfield 75, 3) := by decide +kernel
theorem dX6_ribbon_57 : decode cX6_ribbon 57 = .ok (.bipush 20, 2) := by decide +kernel
theorem dX6_ribbon_59 : decode cX6_ribbon 59 = .ok (.if_icmp .lt 13, 3) := by decide +kernel
theorem dX6_ribbon_62 : decode cX6_ribbon 62 = .ok (.new 79, 3) := by decide +kernel
theorem dX6_ribbon_65 : decode cX6_ribbon 65 = .ok (.dup, 1) := by decide +kernel
theorem dX6_ribbon_66 : decode cX6_ribbon 66 = .ok (.ldc 81, 2) := by decide +kernel
theorem dX6_ribbon_68 : decode cX6_ribbon 68 = .ok (.invokespecial 83, 3) := by decide +kernel
theorem dX6_ribbon_71 : decode cX6_ribbon 71 = .ok (.athrow, 1) := by decide +kernel
theorem dX6_ribbon_72 : decode cX6_ribbon 72 = .ok (.aload_n 0, 1) := by decide +kernel
theorem dX6_ribbon_73 : decode cX6_ribbon 73 = .ok (.getfield 26, 3) := by decide +kernel
theorem dX6_ribbon_76 : decode cX6_ribbon 76 = .ok (.aload_n 0, 1) := by decide +kernel
theorem dX6_ribbon_77 : decode cX6_ribbon 77 = .ok (.getfield 10, 3) := by decide +kernel
theorem dX6_ribbon_80 : decode cX6_ribbon 80 = .ok (.invokevirtual 84, 3) := by decide +kernel
theorem dX6_ribbon_83 : decode cX6_ribbon 83 = .ok (.aload_n 0, 1) := by decide +kernel
theorem dX6_ribbon_84 : decode cX6_ribbon 84 = .ok (.getfield 10, 3) := by decide +kernel
theorem dX6_ribbon_87 : decode cX6_ribbon 87 = .ok (.iload_n 1, 1) := by decide +kernel
theorem dX6_ribbon_88 : decode cX6_ribbon 88 = .ok (.iload_n 2, 1) := by decide +kernel
theorem dX6_ribbon_89 : decode cX6_ribbon 89 = .ok (.iload_n 3, 1) := by decide +kernel
theorem dX6_ribbon_90 : decode cX6_ribbon 90 = .ok (.invokevirtual 88, 3) := by decide +kernel
theorem dX6_ribbon_93 : decode cX6_ribbon 93 = .ok (.aload_n 0, 1) := by decide +kernel
theorem dX6_ribbon_94 : decode cX6_ribbon 94 = .ok (.getfield 10, 3) := by decide +kernel
theorem dX6_ribbon_97 : decode cX6_ribbon 97 = .ok (.getfield 75, 3) := by decide +kernel
theorem dX6_ribbon_100 : decode cX6_ribbon 100 = .ok (.iconst 1, 1) := by decide +kernel
theorem dX6_ribbon_101 : decode cX6_ribbon 101 = .ok (.isub, 1) := by decide +kernel
theorem dX6_ribbon_102 : decode cX6_ribbon 102 = .ok (.ireturn, 1) := by decide +kernel
set_option maxRecDepth 20000 in
theorem ggX6_widen_X6_checkRibbon : GoodIn wsX6_widen wsX6_checkRibbon := goodIn_ca (goodIn_r _ [9, 10, 11, 4, 12, 13, 14, 15, 16, 17, 57, 58, 59, 60, 61, 62, 63, 64, 65, 66, 67, 68, 69, 70] (by decide +kernel) (by decide +kernel)) (goodIn_sub (fun _ h => List.mem_cons_of_mem _ (List.mem_append_right _ h)) (by decide +kernel))
set_option maxRecDepth 20000 in
theorem gX6_widen_X6_checkRibbon : GoodIn wsX6_widen (wsV RX6 92 RX6 yX6_checkRibbon wsX6_checkRibbon) := goodIn_app (goodIn_of _ (by decide +kernel)) ggX6_widen_X6_checkRibbon
set_option maxRecDepth 20000 in
theorem ggX6_widen_X3_save : GoodIn wsX6_widen wsX3_save := goodIn_r _ [22, 23, 24, 25, 26, 27, 15, 28, 29, 30, 31, 32, 33, 34, 35, 36, 37, 38, 39, 40, 41, 42, 43, 44, 45, 46, 17, 47, 71, 72, 73, 65, 66, 67, 68, 69, 70] (by decide +kernel) (by decide +kernel)
set_option maxRecDepth 20000 in
theorem gX6_widen_X3_save : GoodIn wsX6_widen (wsV RX6 84 RX3 yX3_save wsX3_save) := goodIn_app (goodIn_of _ (by decide +kernel)) ggX6_widen_X3_save
set_option maxRecDepth 20000 in
theorem ggX6_widen_X1_widthOf : GoodIn wsX6_widen wsX1_widthOf := goodIn_r _ [51, 38, 65, 66, 67, 68, 69, 70] (by decide +kernel) (by decide +kernel)
set_option maxRecDepth 20000 in
theorem gX6_widen_X1_widthOf : GoodIn wsX6_widen (wsV RX6 97 RX1 yX1_widthOf wsX1_widthOf) := goodIn_app (goodIn_of _ (by decide +kernel)) ggX6_widen_X1_widthOf
set_option maxRecDepth 20000 in
theorem ggX6_widen_X1_setWidth : GoodIn wsX6_widen wsX1_setWidth := goodIn_r _ [55, 38, 56, 13, 14, 15, 16, 17, 65, 66, 67, 68, 69, 70] (by decide +kernel) (by decide +kernel)
set_option maxRecDepth 20000 in
theorem gX6_widen_X1_setWidth : GoodIn wsX6_widen (wsV RX6 100 RX1 yX1_setWidth wsX1_setWidth) := goodIn_app (goodIn_of _ (by decide +kernel)) ggX6_widen_X1_setWidth
theorem dX6_widen_0 : decode cX6_widen 0 = .ok (.aload_n 0, 1) := by decide +kernel
theorem dX6_widen_1 : decode cX6_widen 1 = .ok (.iload_n 1, 1) := by decide +kernel
theorem dX6_widen_2 : decode cX6_widen 2 = .ok (.invokevirtual 92, 3) := by decide +kernel
theorem dX6_widen_5 : decode cX6_widen 5 = .ok (.iload_n 2, 1) := by decide +kernel
theorem dX6_widen_6 : decode cX6_widen 6 = .ok (.ifCond .lt 9, 3) := by decide +kernel
theorem dX6_widen_9 : decode cX6_widen 9 = .ok (.iload_n 2, 1) := by decide +kernel
theorem dX6_widen_10 : decode cX6_widen 10 = .ok (.bipush 50, 2) := by decide +kernel
theorem dX6_widen_12 : decode cX6_widen 12 = .ok (.if_icmp .le 13, 3) := by decide +kernel
theorem dX6_widen_15 : decode cX6_widen 15 = .ok (.new 66, 3) := by decide +kernel
theorem dX6_widen_18 : decode cX6_widen 18 = .ok (.dup, 1) := by decide +kernel
theorem dX6_widen_19 : decode cX6_widen 19 = .ok (.ldc 95, 2) := by decide +kernel
theorem dX6_widen_21 : decode cX6_widen 21 = .ok (.invokespecial 70, 3) := by decide +kernel
theorem dX6_widen_24 : decode cX6_widen 24 = .ok (.athrow, 1) := by decide +kernel
theorem dX6_widen_25 : decode cX6_widen 25 = .ok (.aload_n 0, 1) := by decide +kernel
theorem dX6_widen_26 : decode cX6_widen 26 = .ok (.getfield 26, 3) := by decide +kernel
theorem dX6_widen_29 : decode cX6_widen 29 = .ok (.aload_n 0, 1) := by decide +kernel
theorem dX6_widen_30 : decode cX6_widen 30 = .ok (.getfield 10, 3) := by decide +kernel
theorem dX6_widen_33 : decode cX6_widen 33 = .ok (.invokevirtual 84, 3) := by decide +kernel
theorem dX6_widen_36 : decode cX6_widen 36 = .ok (.aload_n 0, 1) := by decide +kernel
theorem dX6_widen_37 : decode cX6_widen 37 = .ok (.getfield 10, 3) := by decide +kernel
theorem dX6_widen_40 : decode cX6_widen 40 = .ok (.iload_n 1, 1) := by decide +kernel
theorem dX6_widen_41 : decode cX6_widen 41 = .ok (.invokevirtual 97, 3) := by decide +kernel
theorem dX6_widen_44 : decode cX6_widen 44 = .ok (.istore_n 3, 1) := by decide +kernel
theorem dX6_widen_45 : decode cX6_widen 45 = .ok (.aload_n 0, 1) := by decide +kernel
theorem dX6_widen_46 : decode cX6_widen 46 = .ok (.getfield 10, 3) := by decide +kernel
theorem dX6_widen_49 : decode cX6_widen 49 = .ok (.iload_n 1, 1) := by decide +kernel
theorem dX6_widen_50 : decode cX6_widen 50 = .ok (.iload_n 2, 1) := by decide +kernel
theorem dX6_widen_51 : decode cX6_widen 51 = .ok (.invokevirtual 100, 3) := by decide +kernel
theorem dX6_widen_54 : decode cX6_widen 54 = .ok (.iload_n 3, 1) := by decide +kernel
theorem dX6_widen_55 : decode cX6_widen 55 = .ok (.ireturn, 1) := by decide +kernel
set_option maxRecDepth 20000 in
theorem ggX6_remove_X6_checkRibbon : GoodIn wsX6_remove wsX6_checkRibbon := goodIn_ca (goodIn_r _ [7, 8, 9, 2, 10, 11, 12, 13, 14, 15, 55, 56, 57, 58, 59, 60, 61, 62, 63, 64, 65, 66, 67, 68] (by decide +kernel) (by decide +kernel)) (goodIn_sub (fun _ h => List.mem_cons_of_mem _ (List.mem_append_right _ h)) (by decide +kernel))
set_option maxRecDepth 20000 in
theorem gX6_remove_X6_checkRibbon : GoodIn wsX6_remove (wsV RX6 92 RX6 yX6_checkRibbon wsX6_checkRibbon) := goodIn_app (goodIn_of _ (by decide +kernel)) ggX6_remove_X6_checkRibbon
set_option maxRecDepth 20000 in
theorem ggX6_remove_X3_save : GoodIn wsX6_remove wsX3_save := goodIn_r _ [20, 21, 22, 23, 24, 25, 13, 26, 27, 28, 29, 30, 31, 32, 33, 34, 35, 36, 37, 38, 39, 40, 41, 42, 43, 44, 15, 45, 69, 70, 71, 63, 64, 65, 66, 67, 68] (by decide +kernel) (by decide +kernel)
set_option maxRecDepth 20000 in
theorem gX6_remove_X3_save : GoodIn wsX6_remove (wsV RX6 84 RX3 yX3_save wsX3_save) := goodIn_app (goodIn_of _ (by decide +kernel)) ggX6_remove_X3_save
set_option maxRecDepth 20000 in
theorem ggX6_remove_X1_widthOf : GoodIn wsX6_remove wsX1_widthOf := goodIn_r _ [49, 36, 63, 64, 65, 66, 67, 68] (by decide +kernel) (by decide +kernel)
set_option maxRecDepth 20000 in
theorem gX6_remove_X1_widthOf : GoodIn wsX6_remove (wsV RX6 97 RX1 yX1_widthOf wsX1_widthOf) := goodIn_app (goodIn_of _ (by decide +kernel)) ggX6_remove_X1_widthOf
set_option maxRecDepth 20000 in
theorem ggX6_remove_X1_dropRibbon : GoodIn wsX6_remove wsX1_dropRibbon := goodIn_r _ [53, 15, 34, 35, 36, 54, 11, 12, 13, 14, 63, 64, 65, 66, 67, 68] (by decide +kernel) (by decide +kernel)
set_option maxRecDepth 20000 in
theorem gX6_remove_X1_dropRibbon : GoodIn wsX6_remove (wsV RX6 104 RX1 yX1_dropRibbon wsX1_dropRibbon) := goodIn_app (goodIn_of _ (by decide +kernel)) ggX6_remove_X1_dropRibbon
theorem dX6_remove_0 : decode cX6_remove 0 = .ok (.aload_n 0, 1) := by decide +kernel
theorem dX6_remove_1 : decode cX6_remove 1 = .ok (.iload_n 1, 1) := by decide +kernel
theorem dX6_remove_2 : decode cX6_remove 2 = .ok (.invokevirtual 92, 3) := by decide +kernel
theorem dX6_remove_5 : decode cX6_remove 5 = .ok (.aload_n 0, 1) := by decide +kernel
theorem dX6_remove_6 : decode cX6_remove 6 = .ok (.getfield 26, 3) := by decide +kernel
theorem dX6_remove_9 : decode cX6_remove 9 = .ok (.aload_n 0, 1) := by decide +kernel
theorem dX6_remove_10 : decode cX6_remove 10 = .ok (.getfield 10, 3) := by decide +kernel
theorem dX6_remove_13 : decode cX6_remove 13 = .ok (.invokevirtual 84, 3) := by decide +kernel
theorem dX6_remove_16 : decode cX6_remove 16 = .ok (.aload_n 0, 1) := by decide +kernel
theorem dX6_remove_17 : decode cX6_remove 17 = .ok (.getfield 10, 3) := by decide +kernel
theorem dX6_remove_20 : decode cX6_remove 20 = .ok (.iload_n 1, 1) := by decide +kernel
theorem dX6_remove_21 : decode cX6_remove 21 = .ok (.invokevirtual 97, 3) := by decide +kernel
theorem dX6_remove_24 : decode cX6_remove 24 = .ok (.istore_n 2, 1) := by decide +kernel
theorem dX6_remove_25 : decode cX6_remove 25 = .ok (.aload_n 0, 1) := by decide +kernel
theorem dX6_remove_26 : decode cX6_remove 26 = .ok (.getfield 10, 3) := by decide +kernel
theorem dX6_remove_29 : decode cX6_remove 29 = .ok (.iload_n 1, 1) := by decide +kernel
theorem dX6_remove_30 : decode cX6_remove 30 = .ok (.invokevirtual 104, 3) := by decide +kernel
theorem dX6_remove_33 : decode cX6_remove 33 = .ok (.iload_n 2, 1) := by decide +kernel
theorem dX6_remove_34 : decode cX6_remove 34 = .ok (.ireturn, 1) := by decide +kernel
set_option maxRecDepth 20000 in
theorem ggX6_swap_X6_checkPair : GoodIn wsX6_swap wsX6_checkPair := goodIn_ca (goodIn_ca (goodIn_r _ [6, 7, 8, 9, 10, 5, 11, 12, 13, 14, 15, 16, 17, 18, 19] (by decide +kernel) (by decide +kernel)) (goodIn_sub (fun _ h => List.mem_cons_of_mem _ (List.mem_append_left _ (List.mem_append_right _ h))) (by decide +kernel))) (goodIn_sub (fun _ h => List.mem_cons_of_mem _ (List.mem_append_right _ h)) (by decide +kernel))
set_option maxRecDepth 20000 in
theorem gX6_swap_X6_checkPair : GoodIn wsX6_swap (va_wsS RX6 107 yX6_checkPair wsX6_checkPair) := goodIn_app (goodIn_of _ (by decide +kernel)) ggX6_swap_X6_checkPair
set_option maxRecDepth 20000 in
theorem ggX6_swap_X3_save : GoodIn wsX6_swap wsX3_save := goodIn_r _ [24, 25, 26, 27, 28, 29, 30, 31, 32, 33, 34, 35, 36, 37, 38, 39, 40, 41, 42, 43, 44, 45, 46, 47, 48, 49, 50, 51, 100, 101, 102, 103, 104, 105, 106, 107, 108] (by decide +kernel) (by decide +kernel)
set_option maxRecDepth 20000 in
theorem gX6_swap_X3_save : GoodIn wsX6_swap (wsV RX6 84 RX3 yX3_save wsX3_save) := goodIn_app (goodIn_of _ (by decide +kernel)) ggX6_swap_X3_save
set_option maxRecDepth 20000 in
theorem ggX6_swap_X1_exchangePlaces : GoodIn wsX6_swap wsX1_exchangePlaces := goodIn_r _ [55, 56, 57, 58, 30, 59, 38, 60, 61, 62, 63, 15, 5, 16, 103, 104, 105, 106, 107, 108] (by decide +kernel) (by decide +kernel)
set_option maxRecDepth 20000 in
theorem gX6_swap_X1_exchangePlaces : GoodIn wsX6_swap (wsV RX6 110 RX1 yX1_exchangePlaces wsX1_exchangePlaces) := goodIn_app (goodIn_of _ (by decide +kernel)) ggX6_swap_X1_exchangePlaces
set_option maxRecDepth 20000 in
theorem ggX6_swap_X1_allCrossings : GoodIn wsX6_swap wsX1_allCrossings := goodIn_r _ [67, 50, 68, 69, 70, 71, 72, 73, 74, 30, 75, 76, 77, 78, 79, 39, 80, 81, 82, 83, 40, 18, 5, 19, 84, 85, 86, 87, 56, 57, 58, 59, 38, 88, 89, 90, 91, 41, 103, 104, 105, 106, 107, 108] (by decide +kernel) (by decide +kernel)
set_option maxRecDepth 20000 in
theorem gX6_swap_X1_allCrossings : GoodIn wsX6_swap (wsV RX6 113 RX1 yX1_allCrossings wsX1_allCrossings) := goodIn_app (goodIn_of _ (by decide +kernel)) ggX6_swap_X1_allCrossings
theorem dX6_swap_0 : decode cX6_swap 0 = .ok (.iload_n 1, 1) := by decide +kernel
theorem dX6_swap_1 : decode cX6_swap 1 = .ok (.iload_n 2, 1) := by decide +kernel
theorem dX6_swap_2 : decode cX6_swap 2 = .ok (.invokestatic 107, 3) := by decide +kernel
theorem dX6_swap_5 : decode cX6_swap 5 = .ok (.aload_n 0, 1) := by decide +kernel
theorem dX6_swap_6 : decode cX6_swap 6 = .ok (.getfield 26, 3) := by decide +kernel
theorem dX6_swap_9 : decode cX6_swap 9 = .ok (.aload_n 0, 1) := by decide +kernel
theorem dX6_swap_10 : decode cX6_swap 10 = .ok (.getfield 10, 3) := by decide +kernel
theorem dX6_swap_13 : decode cX6_swap 13 = .ok (.invokevirtual 84, 3) := by decide +kernel
theorem dX6_swap_16 : decode cX6_swap 16 = .ok (.aload_n 0, 1) := by decide +kernel
theorem dX6_swap_17 : decode cX6_swap 17 = .ok (.getfield 10, 3) := by decide +kernel
theorem dX6_swap_20 : decode cX6_swap 20 = .ok (.iload_n 1, 1) := by decide +kernel
theorem dX6_swap_21 : decode cX6_swap 21 = .ok (.iload_n 2, 1) := by decide +kernel
theorem dX6_swap_22 : decode cX6_swap 22 = .ok (.invokevirtual 110, 3) := by decide +kernel
theorem dX6_swap_25 : decode cX6_swap 25 = .ok (.aload_n 0, 1) := by decide +kernel
theorem dX6_swap_26 : decode cX6_swap 26 = .ok (.getfield 10, 3) := by decide +kernel
theorem dX6_swap_29 : decode cX6_swap 29 = .ok (.invokevirtual 113, 3) := by decide +kernel
theorem dX6_swap_32 : decode cX6_swap 32 = .ok (.ireturn, 1) := by decide +kernel
set_option maxRecDepth 20000 in
theorem ggX6_sweep_X3_save : GoodIn wsX6_sweep wsX3_save := goodIn_r _ [8, 9, 10, 11, 12, 13, 14, 15, 16, 17, 18, 19, 20, 21, 22, 23, 24, 25, 26, 27, 28, 29, 30, 31, 32, 33, 34, 35, 127, 128, 129, 130, 131, 132, 133, 134, 135] (by decide +kernel) (by decide +kernel)
set_option maxRecDepth 20000 in
theorem gX6_sweep_X3_save : GoodIn wsX6_sweep (wsV RX6 84 RX3 yX3_save wsX3_save) := goodIn_app (goodIn_of _ (by decide +kernel)) ggX6_sweep_X3_save
set_option maxRecDepth 20000 in
theorem ggX6_sweep_X2_sweepColumns : GoodIn wsX6_sweep wsX2_sweepColumns := goodIn_r _ [40, 41, 42, 43, 44, 39, 45, 46, 47, 48, 49, 50, 51, 52, 53, 54, 14, 55, 24, 56, 57, 58, 59, 60, 61, 62, 23, 63, 64, 65, 66, 67, 68, 69, 70, 22, 71, 72, 73, 74, 75, 76, 77, 78, 79, 80, 81, 82, 83, 84, 85, 86, 87, 88, 89, 90, 91, 92, 93, 94, 136, 137, 138, 139, 140, 130, 131, 132, 133, 134, 135] (by decide +kernel) (by decide +kernel)
set_option maxRecDepth 20000 in
theorem gX6_sweep_X2_sweepColumns : GoodIn wsX6_sweep (wsV RX6 117 RX2 yX2_sweepColumns wsX2_sweepColumns) := goodIn_app (goodIn_of _ (by decide +kernel)) ggX6_sweep_X2_sweepColumns
set_option maxRecDepth 20000 in
theorem ggX6_sweep_X1_allCrossings : GoodIn wsX6_sweep wsX1_allCrossings := goodIn_r _ [98, 34, 99, 100, 101, 102, 103, 104, 105, 14, 106, 107, 64, 65, 66, 23, 108, 53, 54, 55, 24, 109, 93, 110, 111, 112, 113, 114, 79, 68, 69, 70, 22, 115, 116, 117, 118, 25, 130, 131, 132, 133, 134, 135] (by decide +kernel) (by decide +kernel)
set_option maxRecDepth 20000 in
theorem gX6_sweep_X1_allCrossings : GoodIn wsX6_sweep (wsV RX6 113 RX1 yX1_allCrossings wsX1_allCrossings) := goodIn_app (goodIn_of _ (by decide +kernel)) ggX6_sweep_X1_allCrossings
theorem dX6_sweep_0 : decode cX6_sweep 0 = .ok (.aload_n 0, 1) := by decide +kernel
theorem dX6_sweep_1 : decode cX6_sweep 1 = .ok (.getfield 26, 3) := by decide +kernel
theorem dX6_sweep_4 : decode cX6_sweep 4 = .ok (.aload_n 0, 1) := by decide +kernel
theorem dX6_sweep_5 : decode cX6_sweep 5 = .ok (.getfield 10, 3) := by decide +kernel
theorem dX6_sweep_8 : decode cX6_sweep 8 = .ok (.invokevirtual 84, 3) := by decide +kernel
theorem dX6_sweep_11 : decode cX6_sweep 11 = .ok (.aload_n 0, 1) := by decide +kernel
theorem dX6_sweep_12 : decode cX6_sweep 12 = .ok (.getfield 47, 3) := by decide +kernel
theorem dX6_sweep_15 : decode cX6_sweep 15 = .ok (.aload_n 0, 1) := by decide +kernel
theorem dX6_sweep_16 : decode cX6_sweep 16 = .ok (.getfield 10, 3) := by decide +kernel
theorem dX6_sweep_19 : decode cX6_sweep 19 = .ok (.invokevirtual 117, 3) := by decide +kernel
theorem dX6_sweep_22 : decode cX6_sweep 22 = .ok (.aload_n 0, 1) := by decide +kernel
theorem dX6_sweep_23 : decode cX6_sweep 23 = .ok (.getfield 10, 3) := by decide +kernel
theorem dX6_sweep_26 : decode cX6_sweep 26 = .ok (.invokevirtual 113, 3) := by decide +kernel
theorem dX6_sweep_29 : decode cX6_sweep 29 = .ok (.ireturn, 1) := by decide +kernel
set_option maxRecDepth 20000 in
theorem ggX6_order_X6_checkColumn : GoodIn wsX6_order wsX6_checkColumn := goodIn_ca (goodIn_r _ [7, 8, 9] (by decide +kernel) (by decide +kernel)) (goodIn_sub (fun _ h => List.mem_cons_of_mem _ (List.mem_append_right _ h)) (by decide +kernel))
set_option maxRecDepth 20000 in
theorem gX6_order_X6_checkColumn : GoodIn wsX6_order (va_wsS RX6 120 yX6_checkColumn wsX6_checkColumn) := goodIn_app (goodIn_of _ (by decide +kernel)) ggX6_order_X6_checkColumn
set_option maxRecDepth 20000 in
theorem ggX6_order_X3_save : GoodIn wsX6_order wsX3_save := goodIn_r _ [14, 15, 16, 17, 18, 19, 20, 21, 22, 23, 24, 25, 26, 27, 28, 29, 30, 31, 32, 33, 34, 35, 36, 37, 38, 39, 40, 41, 133, 134, 135, 136, 137, 138, 139, 140, 141] (by decide +kernel) (by decide +kernel)
set_option maxRecDepth 20000 in
theorem gX6_order_X3_save : GoodIn wsX6_order (wsV RX6 84 RX3 yX3_save wsX3_save) := goodIn_app (goodIn_of _ (by decide +kernel)) ggX6_order_X3_save
set_option maxRecDepth 20000 in
theorem ggX6_order_X2_findBest : GoodIn wsX6_order wsX2_findBest := goodIn_r _ [46, 47, 48, 49, 50, 37, 38, 39, 51, 52, 53, 45, 54, 55, 56, 57, 58, 59, 60, 61, 62, 63, 64, 65, 66, 67, 68, 69, 70, 20, 71, 29, 72, 73, 74, 75, 30, 76, 6, 77, 78, 79, 80, 81, 82, 83, 84, 85, 86, 87, 31, 88, 89, 90, 91, 28, 92, 93, 94, 95, 96, 97, 98, 99, 100, 101, 102, 142, 143, 144, 145, 146, 136, 137, 138, 139, 140, 141] (by decide +kernel) (by decide +kernel)
set_option maxRecDepth 20000 in
theorem gX6_order_X2_findBest : GoodIn wsX6_order (wsV RX6 123 RX2 yX2_findBest wsX2_findBest) := goodIn_app (goodIn_of _ (by decide +kernel)) ggX6_order_X2_findBest
set_option maxRecDepth 20000 in
theorem ggX6_order_X2_putBest : GoodIn wsX6_order wsX2_putBest := goodIn_r _ [106, 49, 107, 108, 109, 20, 110, 28, 111, 6, 112, 142, 143, 144, 145, 146, 136, 137, 138, 139, 140, 141] (by decide +kernel) (by decide +kernel)
set_option maxRecDepth 20000 in
theorem gX6_order_X2_putBest : GoodIn wsX6_order (wsV RX6 127 RX2 yX2_putBest wsX2_putBest) := goodIn_app (goodIn_of _ (by decide +kernel)) ggX6_order_X2_putBest
set_option maxRecDepth 20000 in
theorem ggX6_order_X1_allCrossings : GoodIn wsX6_order wsX1_allCrossings := goodIn_r _ [116, 40, 117, 65, 66, 67, 118, 119, 120, 20, 121, 82, 69, 70, 71, 29, 83, 73, 74, 75, 30, 76, 6, 77, 122, 79, 80, 81, 123, 89, 90, 91, 28, 124, 85, 86, 87, 31, 136, 137, 138, 139, 140, 141] (by decide +kernel) (by decide +kernel)
set_option maxRecDepth 20000 in
theorem gX6_order_X1_allCrossings : GoodIn wsX6_order (wsV RX6 113 RX1 yX1_allCrossings wsX1_allCrossings) := goodIn_app (goodIn_of _ (by decide +kernel)) ggX6_order_X1_allCrossings
theorem dX6_order_0 : decode cX6_order 0 = .ok (.iload_n 1, 1) := by decide +kernel
theorem dX6_order_1 : decode cX6_order 1 = .ok (.invokestatic 120, 3) := by decide +kernel
theorem dX6_order_4 : decode cX6_order 4 = .ok (.aload_n 0, 1) := by decide +kernel
theorem dX6_order_5 : decode cX6_order 5 = .ok (.getfield 26, 3) := by decide +kernel
theorem dX6_order_8 : decode cX6_order 8 = .ok (.aload_n 0, 1) := by decide +kernel
theorem dX6_order_9 : decode cX6_order 9 = .ok (.getfield 10, 3) := by decide +kernel
theorem dX6_order_12 : decode cX6_order 12 = .ok (.invokevirtual 84, 3) := by decide +kernel
theorem dX6_order_15 : decode cX6_order 15 = .ok (.aload_n 0, 1) := by decide +kernel
theorem dX6_order_16 : decode cX6_order 16 = .ok (.getfield 47, 3) := by decide +kernel
theorem dX6_order_19 : decode cX6_order 19 = .ok (.aload_n 0, 1) := by decide +kernel
theorem dX6_order_20 : decode cX6_order 20 = .ok (.getfield 10, 3) := by decide +kernel
theorem dX6_order_23 : decode cX6_order 23 = .ok (.iload_n 1, 1) := by decide +kernel
theorem dX6_order_24 : decode cX6_order 24 = .ok (.invokevirtual 123, 3) := by decide +kernel
theorem dX6_order_27 : decode cX6_order 27 = .ok (.aload_n 0, 1) := by decide +kernel
theorem dX6_order_28 : decode cX6_order 28 = .ok (.getfield 47, 3) := by decide +kernel
theorem dX6_order_31 : decode cX6_order 31 = .ok (.aload_n 0, 1) := by decide +kernel
theorem dX6_order_32 : decode cX6_order 32 = .ok (.getfield 10, 3) := by decide +kernel
theorem dX6_order_35 : decode cX6_order 35 = .ok (.iload_n 1, 1) := by decide +kernel
theorem dX6_order_36 : decode cX6_order 36 = .ok (.invokevirtual 127, 3) := by decide +kernel
theorem dX6_order_39 : decode cX6_order 39 = .ok (.aload_n 0, 1) := by decide +kernel
theorem dX6_order_40 : decode cX6_order 40 = .ok (.getfield 10, 3) := by decide +kernel
theorem dX6_order_43 : decode cX6_order 43 = .ok (.invokevirtual 113, 3) := by decide +kernel
theorem dX6_order_46 : decode cX6_order 46 = .ok (.ireturn, 1) := by decide +kernel
set_option maxRecDepth 20000 in
theorem ggX6_trim_X6_isInner : GoodIn wsX6_trim wsX6_isInner := goodIn_r _ [8] (by decide +kernel) (by decide +kernel)
set_option maxRecDepth 20000 in
theorem gX6_trim_X6_isInner : GoodIn wsX6_trim (va_wsS RX6 130 yX6_isInner wsX6_isInner) := goodIn_app (goodIn_of _ (by decide +kernel)) ggX6_trim_X6_isInner
set_option maxRecDepth 20000 in
theorem ggX6_trim_X3_save : GoodIn wsX6_trim wsX3_save := goodIn_r _ [13, 14, 15, 16, 17, 18, 19, 20, 21, 22, 23, 24, 25, 26, 27, 28, 29, 30, 31, 32, 33, 34, 35, 36, 37, 38, 39, 40, 97, 98, 99, 100, 101, 102, 103, 104, 105] (by decide +kernel) (by decide +kernel)
set_option maxRecDepth 20000 in
theorem gX6_trim_X3_save : GoodIn wsX6_trim (wsV RX6 84 RX3 yX3_save wsX3_save) := goodIn_app (goodIn_of _ (by decide +kernel)) ggX6_trim_X3_save
set_option maxRecDepth 20000 in
theorem ggX6_trim_X1_trimPost : GoodIn wsX6_trim wsX1_trimPost := goodIn_r _ [44, 45, 46, 47, 48, 40, 49, 50, 51, 19, 52, 53, 54, 55, 56, 39, 57, 58, 59, 60, 29, 61, 62, 63, 64, 28, 65, 66, 67, 68, 30, 69, 70, 71, 72, 73, 74, 75, 76, 77, 78, 79, 80, 81, 82, 83, 84, 85, 86, 87, 88, 100, 101, 102, 103, 104, 105] (by decide +kernel) (by decide +kernel)
set_option maxRecDepth 20000 in
theorem gX6_trim_X1_trimPost : GoodIn wsX6_trim (wsV RX6 139 RX1 yX1_trimPost wsX1_trimPost) := goodIn_app (goodIn_of _ (by decide +kernel)) ggX6_trim_X1_trimPost
theorem dX6_trim_0 : decode cX6_trim 0 = .ok (.iload_n 1, 1) := by decide +kernel
theorem dX6_trim_1 : decode cX6_trim 1 = .ok (.invokestatic 130, 3) := by decide +kernel
theorem dX6_trim_4 : decode cX6_trim 4 = .ok (.ifCond .ne 13, 3) := by decide +kernel
theorem dX6_trim_7 : decode cX6_trim 7 = .ok (.new 134, 3) := by decide +kernel
theorem dX6_trim_10 : decode cX6_trim 10 = .ok (.dup, 1) := by decide +kernel
theorem dX6_trim_11 : decode cX6_trim 11 = .ok (.ldc 136, 2) := by decide +kernel
theorem dX6_trim_13 : decode cX6_trim 13 = .ok (.invokespecial 138, 3) := by decide +kernel
theorem dX6_trim_16 : decode cX6_trim 16 = .ok (.athrow, 1) := by decide +kernel
theorem dX6_trim_17 : decode cX6_trim 17 = .ok (.aload_n 0, 1) := by decide +kernel
theorem dX6_trim_18 : decode cX6_trim 18 = .ok (.getfield 26, 3) := by decide +kernel
theorem dX6_trim_21 : decode cX6_trim 21 = .ok (.aload_n 0, 1) := by decide +kernel
theorem dX6_trim_22 : decode cX6_trim 22 = .ok (.getfield 10, 3) := by decide +kernel
theorem dX6_trim_25 : decode cX6_trim 25 = .ok (.invokevirtual 84, 3) := by decide +kernel
theorem dX6_trim_28 : decode cX6_trim 28 = .ok (.aload_n 0, 1) := by decide +kernel
theorem dX6_trim_29 : decode cX6_trim 29 = .ok (.getfield 10, 3) := by decide +kernel
theorem dX6_trim_32 : decode cX6_trim 32 = .ok (.iload_n 1, 1) := by decide +kernel
theorem dX6_trim_33 : decode cX6_trim 33 = .ok (.invokevirtual 139, 3) := by decide +kernel
theorem dX6_trim_36 : decode cX6_trim 36 = .ok (.ireturn, 1) := by decide +kernel
set_option maxRecDepth 20000 in
theorem ggX6_settle_X3_save : GoodIn wsX6_settle wsX3_save := goodIn_r _ [7, 8, 9, 10, 11, 12, 13, 14, 15, 16, 17, 18, 19, 20, 21, 22, 23, 24, 25, 26, 27, 28, 29, 30, 31, 32, 33, 34, 96, 97, 98, 99, 100, 101, 102, 103, 104] (by decide +kernel) (by decide +kernel)
set_option maxRecDepth 20000 in
theorem gX6_settle_X3_save : GoodIn wsX6_settle (wsV RX6 84 RX3 yX3_save wsX3_save) := goodIn_app (goodIn_of _ (by decide +kernel)) ggX6_settle_X3_save
set_option maxRecDepth 20000 in
theorem ggX6_settle_X1_trimAll : GoodIn wsX6_settle wsX1_trimAll := goodIn_r _ [38, 39, 40, 41, 42, 13, 43, 44, 45, 46, 47, 34, 48, 49, 50, 51, 52, 53, 54, 55, 33, 56, 57, 58, 59, 23, 60, 61, 62, 63, 22, 64, 65, 66, 67, 24, 68, 69, 70, 71, 72, 73, 74, 75, 76, 77, 78, 79, 80, 81, 82, 83, 84, 85, 86, 87, 99, 100, 101, 102, 103, 104] (by decide +kernel) (by decide +kernel)
set_option maxRecDepth 20000 in
theorem gX6_settle_X1_trimAll : GoodIn wsX6_settle (wsV RX6 142 RX1 yX1_trimAll wsX1_trimAll) := goodIn_app (goodIn_of _ (by decide +kernel)) ggX6_settle_X1_trimAll
theorem dX6_settle_0 : decode cX6_settle 0 = .ok (.aload_n 0, 1) := by decide +kernel
theorem dX6_settle_1 : decode cX6_settle 1 = .ok (.getfield 26, 3) := by decide +kernel
theorem dX6_settle_4 : decode cX6_settle 4 = .ok (.aload_n 0, 1) := by decide +kernel
theorem dX6_settle_5 : decode cX6_settle 5 = .ok (.getfield 10, 3) := by decide +kernel
theorem dX6_settle_8 : decode cX6_settle 8 = .ok (.invokevirtual 84, 3) := by decide +kernel
theorem dX6_settle_11 : decode cX6_settle 11 = .ok (.aload_n 0, 1) := by decide +kernel
theorem dX6_settle_12 : decode cX6_settle 12 = .ok (.getfield 10, 3) := by decide +kernel
theorem dX6_settle_15 : decode cX6_settle 15 = .ok (.invokevirtual 142, 3) := by decide +kernel
theorem dX6_settle_18 : decode cX6_settle 18 = .ok (.ireturn, 1) := by decide +kernel
set_option maxRecDepth 20000 in
theorem ggX6_append_X4_addCode : GoodIn wsX6_append wsX4_addCode := goodIn_r _ [10, 11, 12, 21, 22] (by decide +kernel) (by decide +kernel)
set_option maxRecDepth 20000 in
theorem gX6_append_X4_addCode : GoodIn wsX6_append (wsV RX6 152 RX4 yX4_addCode wsX4_addCode) := goodIn_app (goodIn_of _ (by decide +kernel)) ggX6_append_X4_addCode
theorem dX6_append_0 : decode cX6_append 0 = .ok (.iload_n 1, 1) := by decide +kernel
theorem dX6_append_1 : decode cX6_append 1 = .ok (.bipush 33, 2) := by decide +kernel
theorem dX6_append_3 : decode cX6_append 3 = .ok (.if_icmp .lt 9, 3) := by decide +kernel
theorem dX6_append_6 : decode cX6_append 6 = .ok (.iload_n 1, 1) := by decide +kernel
theorem dX6_append_7 : decode cX6_append 7 = .ok (.bipush 126, 2) := by decide +kernel
theorem dX6_append_9 : decode cX6_append 9 = .ok (.if_icmp .le 13, 3) := by decide +kernel
theorem dX6_append_12 : decode cX6_append 12 = .ok (.new 66, 3) := by decide +kernel
theorem dX6_append_15 : decode cX6_append 15 = .ok (.dup, 1) := by decide +kernel
theorem dX6_append_16 : decode cX6_append 16 = .ok (.ldc 145, 2) := by decide +kernel
theorem dX6_append_18 : decode cX6_append 18 = .ok (.invokespecial 70, 3) := by decide +kernel
theorem dX6_append_21 : decode cX6_append 21 = .ok (.athrow, 1) := by decide +kernel
theorem dX6_append_22 : decode cX6_append 22 = .ok (.aload_n 0, 1) := by decide +kernel
theorem dX6_append_23 : decode cX6_append 23 = .ok (.getfield 33, 3) := by decide +kernel
theorem dX6_append_26 : decode cX6_append 26 = .ok (.getfield 147, 3) := by decide +kernel
theorem dX6_append_29 : decode cX6_append 29 = .ok (.bipush 60, 2) := by decide +kernel
theorem dX6_append_31 : decode cX6_append 31 = .ok (.if_icmp .lt 13, 3) := by decide +kernel
theorem dX6_append_34 : decode cX6_append 34 = .ok (.new 79, 3) := by decide +kernel
theorem dX6_append_37 : decode cX6_append 37 = .ok (.dup, 1) := by decide +kernel
theorem dX6_append_38 : decode cX6_append 38 = .ok (.ldc 150, 2) := by decide +kernel
theorem dX6_append_40 : decode cX6_append 40 = .ok (.invokespecial 83, 3) := by decide +kernel
theorem dX6_append_43 : decode cX6_append 43 = .ok (.athrow, 1) := by decide +kernel
theorem dX6_append_44 : decode cX6_append 44 = .ok (.aload_n 0, 1) := by decide +kernel
theorem dX6_append_45 : decode cX6_append 45 = .ok (.getfield 33, 3) := by decide +kernel
theorem dX6_append_48 : decode cX6_append 48 = .ok (.iload_n 1, 1) := by decide +kernel
theorem dX6_append_49 : decode cX6_append 49 = .ok (.invokevirtual 152, 3) := by decide +kernel
theorem dX6_append_52 : decode cX6_append 52 = .ok (.aload_n 0, 1) := by decide +kernel
theorem dX6_append_53 : decode cX6_append 53 = .ok (.getfield 33, 3) := by decide +kernel
theorem dX6_append_56 : decode cX6_append 56 = .ok (.getfield 147, 3) := by decide +kernel
theorem dX6_append_59 : decode cX6_append 59 = .ok (.ireturn, 1) := by decide +kernel
set_option maxRecDepth 20000 in
theorem ggX6_clearBuffer_X4_empty : GoodIn wsX6_clearBuffer wsX4_empty := goodIn_r _ [6, 7, 16, 17] (by decide +kernel) (by decide +kernel)
set_option maxRecDepth 20000 in
theorem gX6_clearBuffer_X4_empty : GoodIn wsX6_clearBuffer (wsV RX6 155 RX4 yX4_empty wsX4_empty) := goodIn_app (goodIn_of _ (by decide +kernel)) ggX6_clearBuffer_X4_empty
theorem dX6_clearBuffer_0 : decode cX6_clearBuffer 0 = .ok (.aload_n 0, 1) := by decide +kernel
theorem dX6_clearBuffer_1 : decode cX6_clearBuffer 1 = .ok (.getfield 33, 3) := by decide +kernel
theorem dX6_clearBuffer_4 : decode cX6_clearBuffer 4 = .ok (.getfield 147, 3) := by decide +kernel
theorem dX6_clearBuffer_7 : decode cX6_clearBuffer 7 = .ok (.istore_n 1, 1) := by decide +kernel
theorem dX6_clearBuffer_8 : decode cX6_clearBuffer 8 = .ok (.aload_n 0, 1) := by decide +kernel
theorem dX6_clearBuffer_9 : decode cX6_clearBuffer 9 = .ok (.getfield 33, 3) := by decide +kernel
theorem dX6_clearBuffer_12 : decode cX6_clearBuffer 12 = .ok (.invokevirtual 155, 3) := by decide +kernel
theorem dX6_clearBuffer_15 : decode cX6_clearBuffer 15 = .ok (.iload_n 1, 1) := by decide +kernel
theorem dX6_clearBuffer_16 : decode cX6_clearBuffer 16 = .ok (.ireturn, 1) := by decide +kernel
set_option maxRecDepth 20000 in
theorem ggX6_firstError_X4_firstWrong : GoodIn wsX6_firstError wsX4_firstWrong := goodIn_r _ [6, 7, 8, 9, 10, 5, 11, 12, 13, 14, 15, 16, 17, 18, 19, 20, 21, 22, 23, 24, 25, 26, 27, 28, 29, 30, 31, 32, 33, 34, 43, 44] (by decide +kernel) (by decide +kernel)
set_option maxRecDepth 20000 in
theorem gX6_firstError_X4_firstWrong : GoodIn wsX6_firstError (wsV RX6 158 RX4 yX4_firstWrong wsX4_firstWrong) := goodIn_app (goodIn_of _ (by decide +kernel)) ggX6_firstError_X4_firstWrong
theorem dX6_firstError_0 : decode cX6_firstError 0 = .ok (.aload_n 0, 1) := by decide +kernel
theorem dX6_firstError_1 : decode cX6_firstError 1 = .ok (.getfield 33, 3) := by decide +kernel
theorem dX6_firstError_4 : decode cX6_firstError 4 = .ok (.invokevirtual 158, 3) := by decide +kernel
theorem dX6_firstError_7 : decode cX6_firstError 7 = .ok (.ireturn, 1) := by decide +kernel
set_option maxRecDepth 20000 in
theorem ggX6_load_X4_tellsDrawing : GoodIn wsX6_load wsX4_tellsDrawing := goodIn_r _ [10, 11, 12, 13, 14, 9, 15, 16, 17, 18, 19, 20, 21, 22, 23, 24, 25, 26, 27, 28, 29, 30, 31, 32, 33, 34, 35, 36, 37, 38, 39, 40, 41, 42, 101, 102] (by decide +kernel) (by decide +kernel)
set_option maxRecDepth 20000 in
theorem gX6_load_X4_tellsDrawing : GoodIn wsX6_load (wsV RX6 161 RX4 yX4_tellsDrawing wsX4_tellsDrawing) := goodIn_app (goodIn_of _ (by decide +kernel)) ggX6_load_X4_tellsDrawing
set_option maxRecDepth 20000 in
theorem ggX6_load_X3_save : GoodIn wsX6_load wsX3_save := goodIn_r _ [47, 48, 49, 50, 51, 52, 53, 54, 55, 56, 57, 58, 59, 60, 61, 62, 63, 64, 65, 66, 67, 68, 69, 70, 71, 72, 73, 74, 103, 104, 105, 95, 96, 97, 98, 99, 100] (by decide +kernel) (by decide +kernel)
set_option maxRecDepth 20000 in
theorem gX6_load_X3_save : GoodIn wsX6_load (wsV RX6 84 RX3 yX3_save wsX3_save) := goodIn_app (goodIn_of _ (by decide +kernel)) ggX6_load_X3_save
set_option maxRecDepth 20000 in
theorem ggX6_load_X4_drawInto : GoodIn wsX6_load wsX4_drawInto := goodIn_r _ [78, 11, 12, 13, 14, 9, 15, 16, 79, 80, 81, 53, 82, 73, 62, 63, 64, 17, 18, 19, 95, 96, 97, 98, 99, 100, 101, 102] (by decide +kernel) (by decide +kernel)
set_option maxRecDepth 20000 in
theorem gX6_load_X4_drawInto : GoodIn wsX6_load (wsV RX6 167 RX4 yX4_drawInto wsX4_drawInto) := goodIn_app (goodIn_of _ (by decide +kernel)) ggX6_load_X4_drawInto
set_option maxRecDepth 20000 in
theorem ggX6_load_X4_empty : GoodIn wsX6_load wsX4_empty := goodIn_r _ [86, 11, 101, 102] (by decide +kernel) (by decide +kernel)
set_option maxRecDepth 20000 in
theorem gX6_load_X4_empty : GoodIn wsX6_load (wsV RX6 155 RX4 yX4_empty wsX4_empty) := goodIn_app (goodIn_of _ (by decide +kernel)) ggX6_load_X4_empty
theorem dX6_load_0 : decode cX6_load 0 = .ok (.aload_n 0, 1) := by decide +kernel
theorem dX6_load_1 : decode cX6_load 1 = .ok (.getfield 33, 3) := by decide +kernel
theorem dX6_load_4 : decode cX6_load 4 = .ok (.invokevirtual 161, 3) := by decide +kernel
theorem dX6_load_7 : decode cX6_load 7 = .ok (.ifCond .ne 13, 3) := by decide +kernel
theorem dX6_load_10 : decode cX6_load 10 = .ok (.new 66, 3) := by decide +kernel
theorem dX6_load_13 : decode cX6_load 13 = .ok (.dup, 1) := by decide +kernel
theorem dX6_load_14 : decode cX6_load 14 = .ok (.ldc 165, 2) := by decide +kernel
theorem dX6_load_16 : decode cX6_load 16 = .ok (.invokespecial 70, 3) := by decide +kernel
theorem dX6_load_19 : decode cX6_load 19 = .ok (.athrow, 1) := by decide +kernel
theorem dX6_load_20 : decode cX6_load 20 = .ok (.aload_n 0, 1) := by decide +kernel
theorem dX6_load_21 : decode cX6_load 21 = .ok (.getfield 26, 3) := by decide +kernel
theorem dX6_load_24 : decode cX6_load 24 = .ok (.aload_n 0, 1) := by decide +kernel
theorem dX6_load_25 : decode cX6_load 25 = .ok (.getfield 10, 3) := by decide +kernel
theorem dX6_load_28 : decode cX6_load 28 = .ok (.invokevirtual 84, 3) := by decide +kernel
theorem dX6_load_31 : decode cX6_load 31 = .ok (.aload_n 0, 1) := by decide +kernel
theorem dX6_load_32 : decode cX6_load 32 = .ok (.getfield 33, 3) := by decide +kernel
theorem dX6_load_35 : decode cX6_load 35 = .ok (.aload_n 0, 1) := by decide +kernel
theorem dX6_load_36 : decode cX6_load 36 = .ok (.getfield 10, 3) := by decide +kernel
theorem dX6_load_39 : decode cX6_load 39 = .ok (.invokevirtual 167, 3) := by decide +kernel
theorem dX6_load_42 : decode cX6_load 42 = .ok (.aload_n 0, 1) := by decide +kernel
theorem dX6_load_43 : decode cX6_load 43 = .ok (.getfield 33, 3) := by decide +kernel
theorem dX6_load_46 : decode cX6_load 46 = .ok (.invokevirtual 155, 3) := by decide +kernel
theorem dX6_load_49 : decode cX6_load 49 = .ok (.aload_n 0, 1) := by decide +kernel
theorem dX6_load_50 : decode cX6_load 50 = .ok (.getfield 10, 3) := by decide +kernel
theorem dX6_load_53 : decode cX6_load 53 = .ok (.getfield 75, 3) := by decide +kernel
theorem dX6_load_56 : decode cX6_load 56 = .ok (.ireturn, 1) := by decide +kernel
set_option maxRecDepth 20000 in
theorem ggX6_keep_X6_checkSlot : GoodIn wsX6_keep wsX6_checkSlot := goodIn_ca (goodIn_r _ [9, 10, 11] (by decide +kernel) (by decide +kernel)) (goodIn_sub (fun _ h => List.mem_cons_of_mem _ (List.mem_append_right _ h)) (by decide +kernel))
set_option maxRecDepth 20000 in
theorem gX6_keep_X6_checkSlot : GoodIn wsX6_keep (va_wsS RX6 170 yX6_checkSlot wsX6_checkSlot) := goodIn_app (goodIn_of _ (by decide +kernel)) ggX6_keep_X6_checkSlot
set_option maxRecDepth 20000 in
theorem ggX6_keep_X1_init : GoodIn wsX6_keep wsX1_init := goodIn_r _ [14, 15, 16, 17, 18, 19, 20, 21, 22, 41, 42, 43, 44, 45, 46] (by decide +kernel) (by decide +kernel)
set_option maxRecDepth 20000 in
theorem gX6_keep_X1_init : GoodIn wsX6_keep (wsX1_init) := ggX6_keep_X1_init
set_option maxRecDepth 20000 in
theorem ggX6_keep_X1_copyFrom : GoodIn wsX6_keep wsX1_copyFrom := goodIn_r _ [26, 19, 27, 28, 29, 30, 20, 21, 22, 31, 32, 41, 42, 43, 44, 45, 46] (by decide +kernel) (by decide +kernel)
set_option maxRecDepth 20000 in
theorem gX6_keep_X1_copyFrom : GoodIn wsX6_keep (wsV RX6 173 RX1 yX1_copyFrom wsX1_copyFrom) := goodIn_app (goodIn_of _ (by decide +kernel)) ggX6_keep_X1_copyFrom
theorem dX6_keep_0 : decode cX6_keep 0 = .ok (.iload_n 1, 1) := by decide +kernel
theorem dX6_keep_1 : decode cX6_keep 1 = .ok (.invokestatic 170, 3) := by decide +kernel
theorem dX6_keep_4 : decode cX6_keep 4 = .ok (.aload_n 0, 1) := by decide +kernel
theorem dX6_keep_5 : decode cX6_keep 5 = .ok (.getfield 19, 3) := by decide +kernel
theorem dX6_keep_8 : decode cX6_keep 8 = .ok (.iload_n 1, 1) := by decide +kernel
theorem dX6_keep_9 : decode cX6_keep 9 = .ok (.aaload, 1) := by decide +kernel
theorem dX6_keep_10 : decode cX6_keep 10 = .ok (.astore_n 2, 1) := by decide +kernel
theorem dX6_keep_11 : decode cX6_keep 11 = .ok (.aload_n 2, 1) := by decide +kernel
theorem dX6_keep_12 : decode cX6_keep 12 = .ok (.ifnonnull 18, 3) := by decide +kernel
theorem dX6_keep_15 : decode cX6_keep 15 = .ok (.new 7, 3) := by decide +kernel
theorem dX6_keep_18 : decode cX6_keep 18 = .ok (.dup, 1) := by decide +kernel
theorem dX6_keep_19 : decode cX6_keep 19 = .ok (.invokespecial 9, 3) := by decide +kernel
theorem dX6_keep_22 : decode cX6_keep 22 = .ok (.astore_n 2, 1) := by decide +kernel
theorem dX6_keep_23 : decode cX6_keep 23 = .ok (.aload_n 0, 1) := by decide +kernel
theorem dX6_keep_24 : decode cX6_keep 24 = .ok (.getfield 19, 3) := by decide +kernel
theorem dX6_keep_27 : decode cX6_keep 27 = .ok (.iload_n 1, 1) := by decide +kernel
theorem dX6_keep_28 : decode cX6_keep 28 = .ok (.aload_n 2, 1) := by decide +kernel
theorem dX6_keep_29 : decode cX6_keep 29 = .ok (.aastore, 1) := by decide +kernel
theorem dX6_keep_30 : decode cX6_keep 30 = .ok (.aload_n 2, 1) := by decide +kernel
theorem dX6_keep_31 : decode cX6_keep 31 = .ok (.aload_n 0, 1) := by decide +kernel
theorem dX6_keep_32 : decode cX6_keep 32 = .ok (.getfield 10, 3) := by decide +kernel
theorem dX6_keep_35 : decode cX6_keep 35 = .ok (.invokevirtual 173, 3) := by decide +kernel
theorem dX6_keep_38 : decode cX6_keep 38 = .ok (.aload_n 0, 1) := by decide +kernel
theorem dX6_keep_39 : decode cX6_keep 39 = .ok (.getfield 10, 3) := by decide +kernel
theorem dX6_keep_42 : decode cX6_keep 42 = .ok (.getfield 75, 3) := by decide +kernel
theorem dX6_keep_45 : decode cX6_keep 45 = .ok (.ireturn, 1) := by decide +kernel
set_option maxRecDepth 20000 in
theorem ggX6_goBack_X6_checkSlot : GoodIn wsX6_goBack wsX6_checkSlot := goodIn_ca (goodIn_r _ [9, 10, 11] (by decide +kernel) (by decide +kernel)) (goodIn_sub (fun _ h => List.mem_cons_of_mem _ (List.mem_append_right _ h)) (by decide +kernel))
set_option maxRecDepth 20000 in
theorem gX6_goBack_X6_checkSlot : GoodIn wsX6_goBack (va_wsS RX6 170 yX6_checkSlot wsX6_checkSlot) := goodIn_app (goodIn_of _ (by decide +kernel)) ggX6_goBack_X6_checkSlot
set_option maxRecDepth 20000 in
theorem ggX6_goBack_X3_save : GoodIn wsX6_goBack wsX3_save := goodIn_r _ [16, 17, 18, 19, 20, 21, 22, 23, 24, 25, 26, 27, 28, 29, 30, 31, 32, 33, 34, 35, 36, 37, 38, 39, 40, 41, 42, 43, 59, 60, 61, 53, 54, 55, 56, 57, 58] (by decide +kernel) (by decide +kernel)
set_option maxRecDepth 20000 in
theorem gX6_goBack_X3_save : GoodIn wsX6_goBack (wsV RX6 84 RX3 yX3_save wsX3_save) := goodIn_app (goodIn_of _ (by decide +kernel)) ggX6_goBack_X3_save
set_option maxRecDepth 20000 in
theorem ggX6_goBack_X1_copyFrom : GoodIn wsX6_goBack wsX1_copyFrom := goodIn_r _ [37, 30, 38, 39, 40, 41, 31, 32, 33, 42, 43, 53, 54, 55, 56, 57, 58] (by decide +kernel) (by decide +kernel)
set_option maxRecDepth 20000 in
theorem gX6_goBack_X1_copyFrom : GoodIn wsX6_goBack (wsV RX6 173 RX1 yX1_copyFrom wsX1_copyFrom) := goodIn_app (goodIn_of _ (by decide +kernel)) ggX6_goBack_X1_copyFrom
theorem dX6_goBack_0 : decode cX6_goBack 0 = .ok (.iload_n 1, 1) := by decide +kernel
theorem dX6_goBack_1 : decode cX6_goBack 1 = .ok (.invokestatic 170, 3) := by decide +kernel
theorem dX6_goBack_4 : decode cX6_goBack 4 = .ok (.aload_n 0, 1) := by decide +kernel
theorem dX6_goBack_5 : decode cX6_goBack 5 = .ok (.getfield 19, 3) := by decide +kernel
theorem dX6_goBack_8 : decode cX6_goBack 8 = .ok (.iload_n 1, 1) := by decide +kernel
theorem dX6_goBack_9 : decode cX6_goBack 9 = .ok (.aaload, 1) := by decide +kernel
theorem dX6_goBack_10 : decode cX6_goBack 10 = .ok (.astore_n 2, 1) := by decide +kernel
theorem dX6_goBack_11 : decode cX6_goBack 11 = .ok (.aload_n 2, 1) := by decide +kernel
theorem dX6_goBack_12 : decode cX6_goBack 12 = .ok (.ifnonnull 13, 3) := by decide +kernel
theorem dX6_goBack_15 : decode cX6_goBack 15 = .ok (.new 79, 3) := by decide +kernel
theorem dX6_goBack_18 : decode cX6_goBack 18 = .ok (.dup, 1) := by decide +kernel
theorem dX6_goBack_19 : decode cX6_goBack 19 = .ok (.ldc 176, 2) := by decide +kernel
theorem dX6_goBack_21 : decode cX6_goBack 21 = .ok (.invokespecial 83, 3) := by decide +kernel
theorem dX6_goBack_24 : decode cX6_goBack 24 = .ok (.athrow, 1) := by decide +kernel
theorem dX6_goBack_25 : decode cX6_goBack 25 = .ok (.aload_n 0, 1) := by decide +kernel
theorem dX6_goBack_26 : decode cX6_goBack 26 = .ok (.getfield 26, 3) := by decide +kernel
theorem dX6_goBack_29 : decode cX6_goBack 29 = .ok (.aload_n 0, 1) := by decide +kernel
theorem dX6_goBack_30 : decode cX6_goBack 30 = .ok (.getfield 10, 3) := by decide +kernel
theorem dX6_goBack_33 : decode cX6_goBack 33 = .ok (.invokevirtual 84, 3) := by decide +kernel
theorem dX6_goBack_36 : decode cX6_goBack 36 = .ok (.aload_n 0, 1) := by decide +kernel
theorem dX6_goBack_37 : decode cX6_goBack 37 = .ok (.getfield 10, 3) := by decide +kernel
theorem dX6_goBack_40 : decode cX6_goBack 40 = .ok (.aload_n 2, 1) := by decide +kernel
theorem dX6_goBack_41 : decode cX6_goBack 41 = .ok (.invokevirtual 173, 3) := by decide +kernel
theorem dX6_goBack_44 : decode cX6_goBack 44 = .ok (.aload_n 0, 1) := by decide +kernel
theorem dX6_goBack_45 : decode cX6_goBack 45 = .ok (.getfield 10, 3) := by decide +kernel
theorem dX6_goBack_48 : decode cX6_goBack 48 = .ok (.getfield 75, 3) := by decide +kernel
theorem dX6_goBack_51 : decode cX6_goBack 51 = .ok (.ireturn, 1) := by decide +kernel
set_option maxRecDepth 20000 in
theorem ggX6_undo_X3_restore : GoodIn wsX6_undo wsX3_restore := goodIn_r _ [9, 10, 11, 12, 13, 14, 15, 16, 17, 18, 19, 20, 21, 22, 23, 24, 25, 26, 27, 36, 37, 38, 39, 40, 41, 42, 43, 44] (by decide +kernel) (by decide +kernel)
set_option maxRecDepth 20000 in
theorem gX6_undo_X3_restore : GoodIn wsX6_undo (wsV RX6 183 RX3 yX3_restore wsX3_restore) := goodIn_app (goodIn_of _ (by decide +kernel)) ggX6_undo_X3_restore
theorem dX6_undo_0 : decode cX6_undo 0 = .ok (.aload_n 0, 1) := by decide +kernel
theorem dX6_undo_1 : decode cX6_undo 1 = .ok (.getfield 26, 3) := by decide +kernel
theorem dX6_undo_4 : decode cX6_undo 4 = .ok (.getfield 178, 3) := by decide +kernel
theorem dX6_undo_7 : decode cX6_undo 7 = .ok (.ifCond .ne 13, 3) := by decide +kernel
theorem dX6_undo_10 : decode cX6_undo 10 = .ok (.new 79, 3) := by decide +kernel
theorem dX6_undo_13 : decode cX6_undo 13 = .ok (.dup, 1) := by decide +kernel
theorem dX6_undo_14 : decode cX6_undo 14 = .ok (.ldc 181, 2) := by decide +kernel
theorem dX6_undo_16 : decode cX6_undo 16 = .ok (.invokespecial 83, 3) := by decide +kernel
theorem dX6_undo_19 : decode cX6_undo 19 = .ok (.athrow, 1) := by decide +kernel
theorem dX6_undo_20 : decode cX6_undo 20 = .ok (.aload_n 0, 1) := by decide +kernel
theorem dX6_undo_21 : decode cX6_undo 21 = .ok (.getfield 26, 3) := by decide +kernel
theorem dX6_undo_24 : decode cX6_undo 24 = .ok (.aload_n 0, 1) := by decide +kernel
theorem dX6_undo_25 : decode cX6_undo 25 = .ok (.getfield 10, 3) := by decide +kernel
theorem dX6_undo_28 : decode cX6_undo 28 = .ok (.invokevirtual 183, 3) := by decide +kernel
theorem dX6_undo_31 : decode cX6_undo 31 = .ok (.aload_n 0, 1) := by decide +kernel
theorem dX6_undo_32 : decode cX6_undo 32 = .ok (.getfield 26, 3) := by decide +kernel
theorem dX6_undo_35 : decode cX6_undo 35 = .ok (.getfield 178, 3) := by decide +kernel
theorem dX6_undo_38 : decode cX6_undo 38 = .ok (.ireturn, 1) := by decide +kernel
set_option maxRecDepth 20000 in
theorem ggX6_postOf_X6_checkPost : GoodIn wsX6_postOf wsX6_checkPost := goodIn_ca (goodIn_r _ [11, 12, 13, 14, 15, 10, 16] (by decide +kernel) (by decide +kernel)) (goodIn_sub (fun _ h => List.mem_cons_of_mem _ (List.mem_append_right _ h)) (by decide +kernel))
set_option maxRecDepth 20000 in
theorem gX6_postOf_X6_checkPost : GoodIn wsX6_postOf (va_wsS RX6 58 yX6_checkPost wsX6_checkPost) := goodIn_app (goodIn_of _ (by decide +kernel)) ggX6_postOf_X6_checkPost
set_option maxRecDepth 20000 in
theorem ggX6_postOf_X1_placeOf : GoodIn wsX6_postOf wsX1_placeOf := goodIn_r _ [21, 22, 80, 81, 82, 83, 84, 85] (by decide +kernel) (by decide +kernel)
set_option maxRecDepth 20000 in
theorem gX6_postOf_X1_placeOf : GoodIn wsX6_postOf (wsV RX6 186 RX1 yX1_placeOf wsX1_placeOf) := goodIn_app (goodIn_of _ (by decide +kernel)) ggX6_postOf_X1_placeOf
set_option maxRecDepth 20000 in
theorem ggX6_postOf_X1_comesIn : GoodIn wsX6_postOf wsX1_comesIn := goodIn_r _ [26, 27, 28, 29, 30, 20, 31, 32, 33, 34, 35, 36, 37, 38, 39, 40, 41, 42, 80, 81, 82, 83, 84, 85] (by decide +kernel) (by decide +kernel)
set_option maxRecDepth 20000 in
theorem gX6_postOf_X1_comesIn : GoodIn wsX6_postOf (wsV RX6 189 RX1 yX1_comesIn wsX1_comesIn) := goodIn_app (goodIn_of _ (by decide +kernel)) ggX6_postOf_X1_comesIn
set_option maxRecDepth 20000 in
theorem ggX6_postOf_X1_leaves : GoodIn wsX6_postOf wsX1_leaves := goodIn_r _ [46, 27, 47, 48, 49, 20, 50, 37, 33, 34, 35, 36, 32, 38, 39, 40, 41, 42, 80, 81, 82, 83, 84, 85] (by decide +kernel) (by decide +kernel)
set_option maxRecDepth 20000 in
theorem gX6_postOf_X1_leaves : GoodIn wsX6_postOf (wsV RX6 192 RX1 yX1_leaves wsX1_leaves) := goodIn_app (goodIn_of _ (by decide +kernel)) ggX6_postOf_X1_leaves
set_option maxRecDepth 20000 in
theorem ggX6_postOf_X1_ribbonsTo : GoodIn wsX6_postOf wsX1_ribbonsTo := goodIn_r _ [54, 27, 28, 29, 30, 20, 31, 32, 33, 34, 35, 36, 37, 80, 81, 82, 83, 84, 85] (by decide +kernel) (by decide +kernel)
set_option maxRecDepth 20000 in
theorem gX6_postOf_X1_ribbonsTo : GoodIn wsX6_postOf (wsV RX6 195 RX1 yX1_ribbonsTo wsX1_ribbonsTo) := goodIn_app (goodIn_of _ (by decide +kernel)) ggX6_postOf_X1_ribbonsTo
set_option maxRecDepth 20000 in
theorem ggX6_postOf_X1_ribbonsFrom : GoodIn wsX6_postOf wsX1_ribbonsFrom := goodIn_r _ [58, 27, 47, 48, 49, 20, 50, 37, 33, 34, 35, 36, 32, 80, 81, 82, 83, 84, 85] (by decide +kernel) (by decide +kernel)
set_option maxRecDepth 20000 in
theorem gX6_postOf_X1_ribbonsFrom : GoodIn wsX6_postOf (wsV RX6 198 RX1 yX1_ribbonsFrom wsX1_ribbonsFrom) := goodIn_app (goodIn_of _ (by decide +kernel)) ggX6_postOf_X1_ribbonsFrom
set_option maxRecDepth 20000 in
theorem ggX6_postOf_X1_ribbonsBack : GoodIn wsX6_postOf wsX1_ribbonsBack := goodIn_r _ [62, 27, 47, 48, 49, 20, 50, 37, 28, 29, 30, 31, 32, 33, 34, 35, 36, 80, 81, 82, 83, 84, 85] (by decide +kernel) (by decide +kernel)
set_option maxRecDepth 20000 in
theorem gX6_postOf_X1_ribbonsBack : GoodIn wsX6_postOf (wsV RX6 201 RX1 yX1_ribbonsBack wsX1_ribbonsBack) := goodIn_app (goodIn_of _ (by decide +kernel)) ggX6_postOf_X1_ribbonsBack
set_option maxRecDepth 20000 in
theorem ggX6_postOf_X6_isInner : GoodIn wsX6_postOf wsX6_isInner := goodIn_r _ [65] (by decide +kernel) (by decide +kernel)
set_option maxRecDepth 20000 in
theorem gX6_postOf_X6_isInner : GoodIn wsX6_postOf (va_wsS RX6 130 yX6_isInner wsX6_isInner) := goodIn_app (goodIn_of _ (by decide +kernel)) ggX6_postOf_X6_isInner
set_option maxRecDepth 20000 in
theorem ggX6_postOf_X1_surplusOf : GoodIn wsX6_postOf wsX1_surplusOf := goodIn_r _ [69, 70, 24, 25, 20, 26, 27, 28, 29, 30, 31, 32, 33, 34, 35, 36, 37, 38, 39, 40, 41, 42, 71, 44, 45, 46, 47, 48, 49, 50, 80, 81, 82, 83, 84, 85] (by decide +kernel) (by decide +kernel)
set_option maxRecDepth 20000 in
theorem gX6_postOf_X1_surplusOf : GoodIn wsX6_postOf (wsV RX6 204 RX1 yX1_surplusOf wsX1_surplusOf) := goodIn_app (goodIn_of _ (by decide +kernel)) ggX6_postOf_X1_surplusOf
theorem dX6_postOf_0 : decode cX6_postOf 0 = .ok (.iload_n 1, 1) := by decide +kernel
theorem dX6_postOf_1 : decode cX6_postOf 1 = .ok (.invokestatic 58, 3) := by decide +kernel
theorem dX6_postOf_4 : decode cX6_postOf 4 = .ok (.iload_n 2, 1) := by decide +kernel
theorem dX6_postOf_5 : decode cX6_postOf 5 = .ok (.tableswitch 145 0 7 #[47, 56, 65, 74, 83, 92, 101, 125], 47) := by decide +kernel
theorem dX6_postOf_52 : decode cX6_postOf 52 = .ok (.aload_n 0, 1) := by decide +kernel
theorem dX6_postOf_53 : decode cX6_postOf 53 = .ok (.getfield 10, 3) := by decide +kernel
theorem dX6_postOf_56 : decode cX6_postOf 56 = .ok (.iload_n 1, 1) := by decide +kernel
theorem dX6_postOf_57 : decode cX6_postOf 57 = .ok (.invokevirtual 186, 3) := by decide +kernel
theorem dX6_postOf_60 : decode cX6_postOf 60 = .ok (.ireturn, 1) := by decide +kernel
theorem dX6_postOf_61 : decode cX6_postOf 61 = .ok (.aload_n 0, 1) := by decide +kernel
theorem dX6_postOf_62 : decode cX6_postOf 62 = .ok (.getfield 10, 3) := by decide +kernel
theorem dX6_postOf_65 : decode cX6_postOf 65 = .ok (.iload_n 1, 1) := by decide +kernel
theorem dX6_postOf_66 : decode cX6_postOf 66 = .ok (.invokevirtual 189, 3) := by decide +kernel
theorem dX6_postOf_69 : decode cX6_postOf 69 = .ok (.ireturn, 1) := by decide +kernel
theorem dX6_postOf_70 : decode cX6_postOf 70 = .ok (.aload_n 0, 1) := by decide +kernel
theorem dX6_postOf_71 : decode cX6_postOf 71 = .ok (.getfield 10, 3) := by decide +kernel
theorem dX6_postOf_74 : decode cX6_postOf 74 = .ok (.iload_n 1, 1) := by decide +kernel
theorem dX6_postOf_75 : decode cX6_postOf 75 = .ok (.invokevirtual 192, 3) := by decide +kernel
theorem dX6_postOf_78 : decode cX6_postOf 78 = .ok (.ireturn, 1) := by decide +kernel
theorem dX6_postOf_79 : decode cX6_postOf 79 = .ok (.aload_n 0, 1) := by decide +kernel
theorem dX6_postOf_80 : decode cX6_postOf 80 = .ok (.getfield 10, 3) := by decide +kernel
theorem dX6_postOf_83 : decode cX6_postOf 83 = .ok (.iload_n 1, 1) := by decide +kernel
theorem dX6_postOf_84 : decode cX6_postOf 84 = .ok (.invokevirtual 195, 3) := by decide +kernel
theorem dX6_postOf_87 : decode cX6_postOf 87 = .ok (.ireturn, 1) := by decide +kernel
theorem dX6_postOf_88 : decode cX6_postOf 88 = .ok (.aload_n 0, 1) := by decide +kernel
theorem dX6_postOf_89 : decode cX6_postOf 89 = .ok (.getfield 10, 3) := by decide +kernel
theorem dX6_postOf_92 : decode cX6_postOf 92 = .ok (.iload_n 1, 1) := by decide +kernel
theorem dX6_postOf_93 : decode cX6_postOf 93 = .ok (.invokevirtual 198, 3) := by decide +kernel
theorem dX6_postOf_96 : decode cX6_postOf 96 = .ok (.ireturn, 1) := by decide +kernel
theorem dX6_postOf_97 : decode cX6_postOf 97 = .ok (.aload_n 0, 1) := by decide +kernel
theorem dX6_postOf_98 : decode cX6_postOf 98 = .ok (.getfield 10, 3) := by decide +kernel
theorem dX6_postOf_101 : decode cX6_postOf 101 = .ok (.iload_n 1, 1) := by decide +kernel
theorem dX6_postOf_102 : decode cX6_postOf 102 = .ok (.invokevirtual 201, 3) := by decide +kernel
theorem dX6_postOf_105 : decode cX6_postOf 105 = .ok (.ireturn, 1) := by decide +kernel
theorem dX6_postOf_106 : decode cX6_postOf 106 = .ok (.iload_n 1, 1) := by decide +kernel
theorem dX6_postOf_107 : decode cX6_postOf 107 = .ok (.invokestatic 130, 3) := by decide +kernel
theorem dX6_postOf_110 : decode cX6_postOf 110 = .ok (.ifCond .eq 18, 3) := by decide +kernel
theorem dX6_postOf_113 : decode cX6_postOf 113 = .ok (.aload_n 0, 1) := by decide +kernel
theorem dX6_postOf_114 : decode cX6_postOf 114 = .ok (.getfield 10, 3) := by decide +kernel
theorem dX6_postOf_117 : decode cX6_postOf 117 = .ok (.iload_n 1, 1) := by decide +kernel
theorem dX6_postOf_118 : decode cX6_postOf 118 = .ok (.invokevirtual 204, 3) := by decide +kernel
theorem dX6_postOf_121 : decode cX6_postOf 121 = .ok (.ifCond .eq 7, 3) := by decide +kernel
theorem dX6_postOf_124 : decode cX6_postOf 124 = .ok (.iconst 0, 1) := by decide +kernel
theorem dX6_postOf_125 : decode cX6_postOf 125 = .ok (.goto 4, 3) := by decide +kernel
theorem dX6_postOf_128 : decode cX6_postOf 128 = .ok (.iconst 1, 1) := by decide +kernel
theorem dX6_postOf_129 : decode cX6_postOf 129 = .ok (.ireturn, 1) := by decide +kernel
theorem dX6_postOf_130 : decode cX6_postOf 130 = .ok (.aload_n 0, 1) := by decide +kernel
theorem dX6_postOf_131 : decode cX6_postOf 131 = .ok (.getfield 10, 3) := by decide +kernel
theorem dX6_postOf_134 : decode cX6_postOf 134 = .ok (.iload_n 1, 1) := by decide +kernel
theorem dX6_postOf_135 : decode cX6_postOf 135 = .ok (.invokevirtual 189, 3) := by decide +kernel
theorem dX6_postOf_138 : decode cX6_postOf 138 = .ok (.aload_n 0, 1) := by decide +kernel
theorem dX6_postOf_139 : decode cX6_postOf 139 = .ok (.getfield 10, 3) := by decide +kernel
theorem dX6_postOf_142 : decode cX6_postOf 142 = .ok (.iload_n 1, 1) := by decide +kernel
theorem dX6_postOf_143 : decode cX6_postOf 143 = .ok (.invokevirtual 192, 3) := by decide +kernel
theorem dX6_postOf_146 : decode cX6_postOf 146 = .ok (.invokestatic 207, 3) := by decide +kernel
theorem dX6_postOf_149 : decode cX6_postOf 149 = .ok (.ireturn, 1) := by decide +kernel
theorem dX6_postOf_150 : decode cX6_postOf 150 = .ok (.new 66, 3) := by decide +kernel
theorem dX6_postOf_153 : decode cX6_postOf 153 = .ok (.dup, 1) := by decide +kernel
theorem dX6_postOf_154 : decode cX6_postOf 154 = .ok (.ldc 213, 2) := by decide +kernel
theorem dX6_postOf_156 : decode cX6_postOf 156 = .ok (.invokespecial 70, 3) := by decide +kernel
theorem dX6_postOf_159 : decode cX6_postOf 159 = .ok (.athrow, 1) := by decide +kernel
set_option maxRecDepth 20000 in
theorem ggX6_ribbonOf_X6_checkRibbon : GoodIn wsX6_ribbonOf wsX6_checkRibbon := goodIn_ca (goodIn_r _ [8, 9, 10, 3, 11, 12, 13, 14, 15, 16, 57, 58, 59, 60, 61, 62, 63, 64, 65, 66, 67, 68, 69, 70] (by decide +kernel) (by decide +kernel)) (goodIn_sub (fun _ h => List.mem_cons_of_mem _ (List.mem_append_right _ h)) (by decide +kernel))
set_option maxRecDepth 20000 in
theorem gX6_ribbonOf_X6_checkRibbon : GoodIn wsX6_ribbonOf (wsV RX6 92 RX6 yX6_checkRibbon wsX6_checkRibbon) := goodIn_app (goodIn_of _ (by decide +kernel)) ggX6_ribbonOf_X6_checkRibbon
set_option maxRecDepth 20000 in
theorem ggX6_ribbonOf_X1_fromOf : GoodIn wsX6_ribbonOf wsX1_fromOf := goodIn_r _ [20, 21, 65, 66, 67, 68, 69, 70] (by decide +kernel) (by decide +kernel)
set_option maxRecDepth 20000 in
theorem gX6_ribbonOf_X1_fromOf : GoodIn wsX6_ribbonOf (wsV RX6 215 RX1 yX1_fromOf wsX1_fromOf) := goodIn_app (goodIn_of _ (by decide +kernel)) ggX6_ribbonOf_X1_fromOf
set_option maxRecDepth 20000 in
theorem ggX6_ribbonOf_X1_toOf : GoodIn wsX6_ribbonOf wsX1_toOf := goodIn_r _ [25, 26, 65, 66, 67, 68, 69, 70] (by decide +kernel) (by decide +kernel)
set_option maxRecDepth 20000 in
theorem gX6_ribbonOf_X1_toOf : GoodIn wsX6_ribbonOf (wsV RX6 218 RX1 yX1_toOf wsX1_toOf) := goodIn_app (goodIn_of _ (by decide +kernel)) ggX6_ribbonOf_X1_toOf
set_option maxRecDepth 20000 in
theorem ggX6_ribbonOf_X1_widthOf : GoodIn wsX6_ribbonOf wsX1_widthOf := goodIn_r _ [30, 31, 65, 66, 67, 68, 69, 70] (by decide +kernel) (by decide +kernel)
set_option maxRecDepth 20000 in
theorem gX6_ribbonOf_X1_widthOf : GoodIn wsX6_ribbonOf (wsV RX6 97 RX1 yX1_widthOf wsX1_widthOf) := goodIn_app (goodIn_of _ (by decide +kernel)) ggX6_ribbonOf_X1_widthOf
set_option maxRecDepth 20000 in
theorem ggX6_ribbonOf_X1_goesOn : GoodIn wsX6_ribbonOf wsX1_goesOn := goodIn_r _ [35, 26, 21, 65, 66, 67, 68, 69, 70] (by decide +kernel) (by decide +kernel)
set_option maxRecDepth 20000 in
theorem gX6_ribbonOf_X1_goesOn : GoodIn wsX6_ribbonOf (wsV RX6 221 RX1 yX1_goesOn wsX1_goesOn) := goodIn_app (goodIn_of _ (by decide +kernel)) ggX6_ribbonOf_X1_goesOn
set_option maxRecDepth 20000 in
theorem ggX6_ribbonOf_X1_ribbonsAcross : GoodIn wsX6_ribbonOf wsX1_ribbonsAcross := goodIn_r _ [39, 16, 40, 41, 42, 14, 43, 44, 18, 19, 20, 21, 45, 23, 24, 25, 26, 46, 7, 47, 48, 49, 50, 51, 52, 53, 54, 55, 56, 65, 66, 67, 68, 69, 70] (by decide +kernel) (by decide +kernel)
set_option maxRecDepth 20000 in
theorem gX6_ribbonOf_X1_ribbonsAcross : GoodIn wsX6_ribbonOf (wsV RX6 224 RX1 yX1_ribbonsAcross wsX1_ribbonsAcross) := goodIn_app (goodIn_of _ (by decide +kernel)) ggX6_ribbonOf_X1_ribbonsAcross
theorem dX6_ribbonOf_0 : decode cX6_ribbonOf 0 = .ok (.aload_n 0, 1) := by decide +kernel
theorem dX6_ribbonOf_1 : decode cX6_ribbonOf 1 = .ok (.iload_n 1, 1) := by decide +kernel
theorem dX6_ribbonOf_2 : decode cX6_ribbonOf 2 = .ok (.invokevirtual 92, 3) := by decide +kernel
theorem dX6_ribbonOf_5 : decode cX6_ribbonOf 5 = .ok (.iload_n 2, 1) := by decide +kernel
theorem dX6_ribbonOf_6 : decode cX6_ribbonOf 6 = .ok (.tableswitch 87 0 4 #[34, 43, 52, 61, 78], 34) := by decide +kernel
theorem dX6_ribbonOf_40 : decode cX6_ribbonOf 40 = .ok (.aload_n 0, 1) := by decide +kernel
theorem dX6_ribbonOf_41 : decode cX6_ribbonOf 41 = .ok (.getfield 10, 3) := by decide +kernel
theorem dX6_ribbonOf_44 : decode cX6_ribbonOf 44 = .ok (.iload_n 1, 1) := by decide +kernel
theorem dX6_ribbonOf_45 : decode cX6_ribbonOf 45 = .ok (.invokevirtual 215, 3) := by decide +kernel
theorem dX6_ribbonOf_48 : decode cX6_ribbonOf 48 = .ok (.ireturn, 1) := by decide +kernel
theorem dX6_ribbonOf_49 : decode cX6_ribbonOf 49 = .ok (.aload_n 0, 1) := by decide +kernel
theorem dX6_ribbonOf_50 : decode cX6_ribbonOf 50 = .ok (.getfield 10, 3) := by decide +kernel
theorem dX6_ribbonOf_53 : decode cX6_ribbonOf 53 = .ok (.iload_n 1, 1) := by decide +kernel
theorem dX6_ribbonOf_54 : decode cX6_ribbonOf 54 = .ok (.invokevirtual 218, 3) := by decide +kernel
theorem dX6_ribbonOf_57 : decode cX6_ribbonOf 57 = .ok (.ireturn, 1) := by decide +kernel
theorem dX6_ribbonOf_58 : decode cX6_ribbonOf 58 = .ok (.aload_n 0, 1) := by decide +kernel
theorem dX6_ribbonOf_59 : decode cX6_ribbonOf 59 = .ok (.getfield 10, 3) := by decide +kernel
theorem dX6_ribbonOf_62 : decode cX6_ribbonOf 62 = .ok (.iload_n 1, 1) := by decide +kernel
theorem dX6_ribbonOf_63 : decode cX6_ribbonOf 63 = .ok (.invokevirtual 97, 3) := by decide +kernel
theorem dX6_ribbonOf_66 : decode cX6_ribbonOf 66 = .ok (.ireturn, 1) := by decide +kernel
theorem dX6_ribbonOf_67 : decode cX6_ribbonOf 67 = .ok (.aload_n 0, 1) := by decide +kernel
theorem dX6_ribbonOf_68 : decode cX6_ribbonOf 68 = .ok (.getfield 10, 3) := by decide +kernel
theorem dX6_ribbonOf_71 : decode cX6_ribbonOf 71 = .ok (.iload_n 1, 1) := by decide +kernel
theorem dX6_ribbonOf_72 : decode cX6_ribbonOf 72 = .ok (.invokevirtual 221, 3) := by decide +kernel
theorem dX6_ribbonOf_75 : decode cX6_ribbonOf 75 = .ok (.ifCond .eq 7, 3) := by decide +kernel
theorem dX6_ribbonOf_78 : decode cX6_ribbonOf 78 = .ok (.iconst 1, 1) := by decide +kernel
theorem dX6_ribbonOf_79 : decode cX6_ribbonOf 79 = .ok (.goto 4, 3) := by decide +kernel
theorem dX6_ribbonOf_82 : decode cX6_ribbonOf 82 = .ok (.iconst 0, 1) := by decide +kernel
theorem dX6_ribbonOf_83 : decode cX6_ribbonOf 83 = .ok (.ireturn, 1) := by decide +kernel
theorem dX6_ribbonOf_84 : decode cX6_ribbonOf 84 = .ok (.aload_n 0, 1) := by decide +kernel
theorem dX6_ribbonOf_85 : decode cX6_ribbonOf 85 = .ok (.getfield 10, 3) := by decide +kernel
theorem dX6_ribbonOf_88 : decode cX6_ribbonOf 88 = .ok (.iload_n 1, 1) := by decide +kernel
theorem dX6_ribbonOf_89 : decode cX6_ribbonOf 89 = .ok (.invokevirtual 224, 3) := by decide +kernel
theorem dX6_ribbonOf_92 : decode cX6_ribbonOf 92 = .ok (.ireturn, 1) := by decide +kernel
theorem dX6_ribbonOf_93 : decode cX6_ribbonOf 93 = .ok (.new 66, 3) := by decide +kernel
theorem dX6_ribbonOf_96 : decode cX6_ribbonOf 96 = .ok (.dup, 1) := by decide +kernel
theorem dX6_ribbonOf_97 : decode cX6_ribbonOf 97 = .ok (.ldc 227, 2) := by decide +kernel
theorem dX6_ribbonOf_99 : decode cX6_ribbonOf 99 = .ok (.invokespecial 70, 3) := by decide +kernel
theorem dX6_ribbonOf_102 : decode cX6_ribbonOf 102 = .ok (.athrow, 1) := by decide +kernel
set_option maxRecDepth 20000 in
theorem ggX6_count_X1_allWidths : GoodIn wsX6_count wsX1_allWidths := goodIn_r _ [11, 12, 13, 14, 15, 10, 16, 17, 182, 183, 184, 185, 186, 187] (by decide +kernel) (by decide +kernel)
set_option maxRecDepth 20000 in
theorem gX6_count_X1_allWidths : GoodIn wsX6_count (wsV RX6 229 RX1 yX1_allWidths wsX1_allWidths) := goodIn_app (goodIn_of _ (by decide +kernel)) ggX6_count_X1_allWidths
set_option maxRecDepth 20000 in
theorem ggX6_count_X1_allCrossings : GoodIn wsX6_count wsX1_allCrossings := goodIn_r _ [21, 12, 22, 23, 24, 25, 26, 27, 28, 10, 29, 30, 31, 32, 33, 34, 35, 36, 37, 38, 39, 40, 41, 42, 43, 44, 45, 46, 47, 48, 49, 50, 51, 13, 14, 15, 16, 17, 182, 183, 184, 185, 186, 187] (by decide +kernel) (by decide +kernel)
set_option maxRecDepth 20000 in
theorem gX6_count_X1_allCrossings : GoodIn wsX6_count (wsV RX6 113 RX1 yX1_allCrossings wsX1_allCrossings) := goodIn_app (goodIn_of _ (by decide +kernel)) ggX6_count_X1_allCrossings
set_option maxRecDepth 20000 in
theorem ggX6_count_X0_allCrossings : GoodIn wsX6_count wsX0_allCrossings := goodIn_r _ [56, 57, 58, 59, 60, 55, 61, 62, 44, 45, 10, 46, 30, 31, 32, 33, 34, 40, 41, 42, 35, 36, 37, 38, 39, 63, 64, 48, 49, 50, 51, 65, 66, 14, 15, 16, 17, 67, 68, 69, 70, 71, 72, 73, 74, 75, 76, 77, 78, 79, 80, 81, 191, 192, 193, 194, 182, 183, 184, 185, 186, 187] (by decide +kernel) (by decide +kernel)
set_option maxRecDepth 20000 in
theorem gX6_count_X0_allCrossings : GoodIn wsX6_count (wsV RX6 232 RX0 yX0_allCrossings wsX0_allCrossings) := goodIn_app (goodIn_of _ (by decide +kernel)) ggX6_count_X0_allCrossings
set_option maxRecDepth 20000 in
theorem ggX6_count_X1_crossingPairs : GoodIn wsX6_count wsX1_crossingPairs := goodIn_r _ [85, 12, 86, 87, 88, 10, 89, 26, 27, 28, 29, 30, 31, 32, 33, 34, 35, 36, 37, 38, 39, 40, 41, 42, 43, 44, 45, 46, 47, 48, 49, 50, 51, 182, 183, 184, 185, 186, 187] (by decide +kernel) (by decide +kernel)
set_option maxRecDepth 20000 in
theorem gX6_count_X1_crossingPairs : GoodIn wsX6_count (wsV RX6 235 RX1 yX1_crossingPairs wsX1_crossingPairs) := goodIn_app (goodIn_of _ (by decide +kernel)) ggX6_count_X1_crossingPairs
set_option maxRecDepth 20000 in
theorem ggX6_count_X1_unevenPosts : GoodIn wsX6_count wsX1_unevenPosts := goodIn_r _ [93, 94, 95, 96, 10, 97, 98, 99, 100, 101, 12, 35, 36, 37, 38, 39, 102, 103, 104, 105, 34, 13, 14, 15, 16, 17, 106, 107, 108, 109, 30, 31, 32, 33, 182, 183, 184, 185, 186, 187] (by decide +kernel) (by decide +kernel)
set_option maxRecDepth 20000 in
theorem gX6_count_X1_unevenPosts : GoodIn wsX6_count (wsV RX6 238 RX1 yX1_unevenPosts wsX1_unevenPosts) := goodIn_app (goodIn_of _ (by decide +kernel)) ggX6_count_X1_unevenPosts
set_option maxRecDepth 20000 in
theorem ggX6_count_X5_mostByWays : GoodIn wsX6_count wsX5_mostByWays := goodIn_r _ [114, 115, 116, 117, 79, 80, 81, 118, 119, 120, 113, 121, 122, 123, 124, 125, 126, 127, 128, 103, 104, 10, 105, 39, 34, 129, 31, 32, 33, 130, 131, 132, 133, 134, 14, 15, 16, 17, 135, 36, 37, 38, 136, 41, 137, 138, 139, 140, 141, 142, 23, 24, 25, 143, 144, 145, 146, 147, 148, 149, 150, 151, 152, 153, 154, 12, 195, 196, 197, 198, 199, 200, 201, 202, 182, 183, 184, 185, 186, 187] (by decide +kernel) (by decide +kernel)
set_option maxRecDepth 20000 in
theorem gX6_count_X5_mostByWays : GoodIn wsX6_count (wsV RX6 241 RX5 yX5_mostByWays wsX5_mostByWays) := goodIn_app (goodIn_of _ (by decide +kernel)) ggX6_count_X5_mostByWays
set_option maxRecDepth 20000 in
theorem ggX6_count_X5_mostByCuts : GoodIn wsX6_count wsX5_mostByCuts := goodIn_r _ [158, 116, 142, 23, 24, 25, 159, 160, 161, 113, 162, 163, 164, 165, 166, 128, 103, 104, 10, 105, 39, 34, 129, 31, 32, 33, 135, 36, 37, 38, 134, 14, 15, 16, 17, 167, 168, 169, 170, 171, 172, 173, 195, 196, 197, 198, 199, 200, 201, 202, 182, 183, 184, 185, 186, 187] (by decide +kernel) (by decide +kernel)
set_option maxRecDepth 20000 in
theorem gX6_count_X5_mostByCuts : GoodIn wsX6_count (wsV RX6 244 RX5 yX5_mostByCuts wsX5_mostByCuts) := goodIn_app (goodIn_of _ (by decide +kernel)) ggX6_count_X5_mostByCuts
theorem dX6_count_0 : decode cX6_count 0 = .ok (.iload_n 1, 1) := by decide +kernel
theorem dX6_count_1 : decode cX6_count 1 = .ok (.tableswitch 147 0 9 #[55, 63, 71, 79, 91, 99, 107, 119, 131, 139], 55) := by decide +kernel
theorem dX6_count_56 : decode cX6_count 56 = .ok (.aload_n 0, 1) := by decide +kernel
theorem dX6_count_57 : decode cX6_count 57 = .ok (.getfield 10, 3) := by decide +kernel
theorem dX6_count_60 : decode cX6_count 60 = .ok (.getfield 75, 3) := by decide +kernel
theorem dX6_count_63 : decode cX6_count 63 = .ok (.ireturn, 1) := by decide +kernel
theorem dX6_count_64 : decode cX6_count 64 = .ok (.aload_n 0, 1) := by decide +kernel
theorem dX6_count_65 : decode cX6_count 65 = .ok (.getfield 10, 3) := by decide +kernel
theorem dX6_count_68 : decode cX6_count 68 = .ok (.invokevirtual 229, 3) := by decide +kernel
theorem dX6_count_71 : decode cX6_count 71 = .ok (.ireturn, 1) := by decide +kernel
theorem dX6_count_72 : decode cX6_count 72 = .ok (.aload_n 0, 1) := by decide +kernel
theorem dX6_count_73 : decode cX6_count 73 = .ok (.getfield 10, 3) := by decide +kernel
theorem dX6_count_76 : decode cX6_count 76 = .ok (.invokevirtual 113, 3) := by decide +kernel
theorem dX6_count_79 : decode cX6_count 79 = .ok (.ireturn, 1) := by decide +kernel
theorem dX6_count_80 : decode cX6_count 80 = .ok (.aload_n 0, 1) := by decide +kernel
theorem dX6_count_81 : decode cX6_count 81 = .ok (.getfield 40, 3) := by decide +kernel
theorem dX6_count_84 : decode cX6_count 84 = .ok (.aload_n 0, 1) := by decide +kernel
theorem dX6_count_85 : decode cX6_count 85 = .ok (.getfield 10, 3) := by decide +kernel
theorem dX6_count_88 : decode cX6_count 88 = .ok (.invokevirtual 232, 3) := by decide +kernel
theorem dX6_count_91 : decode cX6_count 91 = .ok (.ireturn, 1) := by decide +kernel
theorem dX6_count_92 : decode cX6_count 92 = .ok (.aload_n 0, 1) := by decide +kernel
theorem dX6_count_93 : decode cX6_count 93 = .ok (.getfield 10, 3) := by decide +kernel
theorem dX6_count_96 : decode cX6_count 96 = .ok (.invokevirtual 235, 3) := by decide +kernel
theorem dX6_count_99 : decode cX6_count 99 = .ok (.ireturn, 1) := by decide +kernel
theorem dX6_count_100 : decode cX6_count 100 = .ok (.aload_n 0, 1) := by decide +kernel
theorem dX6_count_101 : decode cX6_count 101 = .ok (.getfield 10, 3) := by decide +kernel
theorem dX6_count_104 : decode cX6_count 104 = .ok (.invokevirtual 238, 3) := by decide +kernel
theorem dX6_count_107 : decode cX6_count 107 = .ok (.ireturn, 1) := by decide +kernel
theorem dX6_count_108 : decode cX6_count 108 = .ok (.aload_n 0, 1) := by decide +kernel
theorem dX6_count_109 : decode cX6_count 109 = .ok (.getfield 54, 3) := by decide +kernel
theorem dX6_count_112 : decode cX6_count 112 = .ok (.aload_n 0, 1) := by decide +kernel
theorem dX6_count_113 : decode cX6_count 113 = .ok (.getfield 10, 3) := by decide +kernel
theorem dX6_count_116 : decode cX6_count 116 = .ok (.invokevirtual 241, 3) := by decide +kernel
theorem dX6_count_119 : decode cX6_count 119 = .ok (.ireturn, 1) := by decide +kernel
theorem dX6_count_120 : decode cX6_count 120 = .ok (.aload_n 0, 1) := by decide +kernel
theorem dX6_count_121 : decode cX6_count 121 = .ok (.getfield 54, 3) := by decide +kernel
theorem dX6_count_124 : decode cX6_count 124 = .ok (.aload_n 0, 1) := by decide +kernel
theorem dX6_count_125 : decode cX6_count 125 = .ok (.getfield 10, 3) := by decide +kernel
theorem dX6_count_128 : decode cX6_count 128 = .ok (.invokevirtual 244, 3) := by decide +kernel
theorem dX6_count_131 : decode cX6_count 131 = .ok (.ireturn, 1) := by decide +kernel
theorem dX6_count_132 : decode cX6_count 132 = .ok (.aload_n 0, 1) := by decide +kernel
theorem dX6_count_133 : decode cX6_count 133 = .ok (.getfield 10, 3) := by decide +kernel
theorem dX6_count_136 : decode cX6_count 136 = .ok (.getfield 247, 3) := by decide +kernel
theorem dX6_count_139 : decode cX6_count 139 = .ok (.ireturn, 1) := by decide +kernel
theorem dX6_count_140 : decode cX6_count 140 = .ok (.aload_n 0, 1) := by decide +kernel
theorem dX6_count_141 : decode cX6_count 141 = .ok (.getfield 26, 3) := by decide +kernel
theorem dX6_count_144 : decode cX6_count 144 = .ok (.getfield 178, 3) := by decide +kernel
theorem dX6_count_147 : decode cX6_count 147 = .ok (.ireturn, 1) := by decide +kernel
theorem dX6_count_148 : decode cX6_count 148 = .ok (.new 66, 3) := by decide +kernel
theorem dX6_count_151 : decode cX6_count 151 = .ok (.dup, 1) := by decide +kernel
theorem dX6_count_152 : decode cX6_count 152 = .ok (.ldc 250, 2) := by decide +kernel
theorem dX6_count_154 : decode cX6_count 154 = .ok (.invokespecial 70, 3) := by decide +kernel
theorem dX6_count_157 : decode cX6_count 157 = .ok (.athrow, 1) := by decide +kernel
set_option maxRecDepth 20000 in
theorem ggX6_ifSwapped_X6_checkPair : GoodIn wsX6_ifSwapped wsX6_checkPair := goodIn_ca (goodIn_ca (goodIn_r _ [6, 7, 8, 9, 10, 5, 11, 12, 13, 14, 15, 16, 17, 18, 19] (by decide +kernel) (by decide +kernel)) (goodIn_sub (fun _ h => List.mem_cons_of_mem _ (List.mem_append_left _ (List.mem_append_right _ h))) (by decide +kernel))) (goodIn_sub (fun _ h => List.mem_cons_of_mem _ (List.mem_append_right _ h)) (by decide +kernel))
set_option maxRecDepth 20000 in
theorem gX6_ifSwapped_X6_checkPair : GoodIn wsX6_ifSwapped (va_wsS RX6 107 yX6_checkPair wsX6_checkPair) := goodIn_app (goodIn_of _ (by decide +kernel)) ggX6_ifSwapped_X6_checkPair
set_option maxRecDepth 20000 in
theorem ggX6_ifSwapped_X1_copyFrom : GoodIn wsX6_ifSwapped wsX1_copyFrom := goodIn_r _ [24, 25, 26, 27, 28, 29, 30, 31, 32, 33, 34, 83, 84, 85, 86, 87, 88] (by decide +kernel) (by decide +kernel)
set_option maxRecDepth 20000 in
theorem gX6_ifSwapped_X1_copyFrom : GoodIn wsX6_ifSwapped (wsV RX6 173 RX1 yX1_copyFrom wsX1_copyFrom) := goodIn_app (goodIn_of _ (by decide +kernel)) ggX6_ifSwapped_X1_copyFrom
set_option maxRecDepth 20000 in
theorem ggX6_ifSwapped_X1_exchangePlaces : GoodIn wsX6_ifSwapped wsX1_exchangePlaces := goodIn_r _ [38, 39, 40, 41, 23, 42, 25, 43, 44, 45, 46, 15, 5, 16, 83, 84, 85, 86, 87, 88] (by decide +kernel) (by decide +kernel)
set_option maxRecDepth 20000 in
theorem gX6_ifSwapped_X1_exchangePlaces : GoodIn wsX6_ifSwapped (wsV RX6 110 RX1 yX1_exchangePlaces wsX1_exchangePlaces) := goodIn_app (goodIn_of _ (by decide +kernel)) ggX6_ifSwapped_X1_exchangePlaces
set_option maxRecDepth 20000 in
theorem ggX6_ifSwapped_X1_allCrossings : GoodIn wsX6_ifSwapped wsX1_allCrossings := goodIn_r _ [50, 33, 51, 52, 53, 54, 55, 56, 57, 23, 58, 59, 60, 61, 62, 30, 63, 64, 65, 66, 31, 18, 5, 19, 67, 68, 69, 70, 39, 40, 41, 42, 25, 71, 72, 73, 74, 32, 83, 84, 85, 86, 87, 88] (by decide +kernel) (by decide +kernel)
set_option maxRecDepth 20000 in
theorem gX6_ifSwapped_X1_allCrossings : GoodIn wsX6_ifSwapped (wsV RX6 113 RX1 yX1_allCrossings wsX1_allCrossings) := goodIn_app (goodIn_of _ (by decide +kernel)) ggX6_ifSwapped_X1_allCrossings
theorem dX6_ifSwapped_0 : decode cX6_ifSwapped 0 = .ok (.iload_n 1, 1) := by decide +kernel
theorem dX6_ifSwapped_1 : decode cX6_ifSwapped 1 = .ok (.iload_n 2, 1) := by decide +kernel
theorem dX6_ifSwapped_2 : decode cX6_ifSwapped 2 = .ok (.invokestatic 107, 3) := by decide +kernel
theorem dX6_ifSwapped_5 : decode cX6_ifSwapped 5 = .ok (.aload_n 0, 1) := by decide +kernel
theorem dX6_ifSwapped_6 : decode cX6_ifSwapped 6 = .ok (.getfield 16, 3) := by decide +kernel
theorem dX6_ifSwapped_9 : decode cX6_ifSwapped 9 = .ok (.aload_n 0, 1) := by decide +kernel
theorem dX6_ifSwapped_10 : decode cX6_ifSwapped 10 = .ok (.getfield 10, 3) := by decide +kernel
theorem dX6_ifSwapped_13 : decode cX6_ifSwapped 13 = .ok (.invokevirtual 173, 3) := by decide +kernel
theorem dX6_ifSwapped_16 : decode cX6_ifSwapped 16 = .ok (.aload_n 0, 1) := by decide +kernel
theorem dX6_ifSwapped_17 : decode cX6_ifSwapped 17 = .ok (.getfield 16, 3) := by decide +kernel
theorem dX6_ifSwapped_20 : decode cX6_ifSwapped 20 = .ok (.iload_n 1, 1) := by decide +kernel
theorem dX6_ifSwapped_21 : decode cX6_ifSwapped 21 = .ok (.iload_n 2, 1) := by decide +kernel
theorem dX6_ifSwapped_22 : decode cX6_ifSwapped 22 = .ok (.invokevirtual 110, 3) := by decide +kernel
theorem dX6_ifSwapped_25 : decode cX6_ifSwapped 25 = .ok (.aload_n 0, 1) := by decide +kernel
theorem dX6_ifSwapped_26 : decode cX6_ifSwapped 26 = .ok (.getfield 16, 3) := by decide +kernel
theorem dX6_ifSwapped_29 : decode cX6_ifSwapped 29 = .ok (.invokevirtual 113, 3) := by decide +kernel
theorem dX6_ifSwapped_32 : decode cX6_ifSwapped 32 = .ok (.ireturn, 1) := by decide +kernel
set_option maxRecDepth 20000 in
theorem ggX6_bestOrder_X6_checkColumn : GoodIn wsX6_bestOrder wsX6_checkColumn := goodIn_ca (goodIn_r _ [6, 7, 8] (by decide +kernel) (by decide +kernel)) (goodIn_sub (fun _ h => List.mem_cons_of_mem _ (List.mem_append_right _ h)) (by decide +kernel))
set_option maxRecDepth 20000 in
theorem gX6_bestOrder_X6_checkColumn : GoodIn wsX6_bestOrder (va_wsS RX6 120 yX6_checkColumn wsX6_checkColumn) := goodIn_app (goodIn_of _ (by decide +kernel)) ggX6_bestOrder_X6_checkColumn
set_option maxRecDepth 20000 in
theorem ggX6_bestOrder_X2_findBest : GoodIn wsX6_bestOrder wsX2_findBest := goodIn_r _ [13, 14, 15, 16, 17, 18, 19, 20, 21, 22, 23, 12, 24, 25, 26, 27, 28, 29, 30, 31, 32, 33, 34, 35, 36, 37, 38, 39, 40, 41, 42, 43, 44, 45, 46, 47, 48, 49, 5, 50, 51, 52, 53, 54, 55, 56, 57, 58, 59, 60, 61, 62, 63, 64, 65, 66, 67, 68, 69, 70, 71, 72, 73, 74, 75, 76, 77, 90, 91, 92, 93, 94, 95, 96, 97, 98, 99, 100] (by decide +kernel) (by decide +kernel)
set_option maxRecDepth 20000 in
theorem gX6_bestOrder_X2_findBest : GoodIn wsX6_bestOrder (wsV RX6 123 RX2 yX2_findBest wsX2_findBest) := goodIn_app (goodIn_of _ (by decide +kernel)) ggX6_bestOrder_X2_findBest
set_option maxRecDepth 20000 in
theorem ggX6_bestOrder_X2_tellBest : GoodIn wsX6_bestOrder wsX2_tellBest := goodIn_r _ [81, 16, 90, 91, 92, 93, 94] (by decide +kernel) (by decide +kernel)
set_option maxRecDepth 20000 in
theorem gX6_bestOrder_X2_tellBest : GoodIn wsX6_bestOrder (wsV RX6 252 RX2 yX2_tellBest wsX2_tellBest) := goodIn_app (goodIn_of _ (by decide +kernel)) ggX6_bestOrder_X2_tellBest
theorem dX6_bestOrder_0 : decode cX6_bestOrder 0 = .ok (.iload_n 1, 1) := by decide +kernel
theorem dX6_bestOrder_1 : decode cX6_bestOrder 1 = .ok (.invokestatic 120, 3) := by decide +kernel
theorem dX6_bestOrder_4 : decode cX6_bestOrder 4 = .ok (.aload_n 0, 1) := by decide +kernel
theorem dX6_bestOrder_5 : decode cX6_bestOrder 5 = .ok (.getfield 47, 3) := by decide +kernel
theorem dX6_bestOrder_8 : decode cX6_bestOrder 8 = .ok (.aload_n 0, 1) := by decide +kernel
theorem dX6_bestOrder_9 : decode cX6_bestOrder 9 = .ok (.getfield 10, 3) := by decide +kernel
theorem dX6_bestOrder_12 : decode cX6_bestOrder 12 = .ok (.iload_n 1, 1) := by decide +kernel
theorem dX6_bestOrder_13 : decode cX6_bestOrder 13 = .ok (.invokevirtual 123, 3) := by decide +kernel
theorem dX6_bestOrder_16 : decode cX6_bestOrder 16 = .ok (.aload_n 0, 1) := by decide +kernel
theorem dX6_bestOrder_17 : decode cX6_bestOrder 17 = .ok (.getfield 47, 3) := by decide +kernel
theorem dX6_bestOrder_20 : decode cX6_bestOrder 20 = .ok (.invokevirtual 252, 3) := by decide +kernel
theorem dX6_bestOrder_23 : decode cX6_bestOrder 23 = .ok (.ireturn, 1) := by decide +kernel
set_option maxRecDepth 20000 in
theorem ggX6_ifSettled_X1_copyFrom : GoodIn wsX6_ifSettled wsX1_copyFrom := goodIn_r _ [7, 8, 9, 10, 11, 12, 13, 14, 15, 16, 17, 79, 80, 81, 82, 83, 84] (by decide +kernel) (by decide +kernel)
set_option maxRecDepth 20000 in
theorem gX6_ifSettled_X1_copyFrom : GoodIn wsX6_ifSettled (wsV RX6 173 RX1 yX1_copyFrom wsX1_copyFrom) := goodIn_app (goodIn_of _ (by decide +kernel)) ggX6_ifSettled_X1_copyFrom
set_option maxRecDepth 20000 in
theorem ggX6_ifSettled_X1_trimAll : GoodIn wsX6_ifSettled wsX1_trimAll := goodIn_r _ [21, 22, 23, 24, 25, 6, 26, 27, 28, 29, 30, 17, 31, 32, 33, 34, 35, 36, 37, 38, 16, 39, 40, 41, 42, 14, 43, 44, 45, 46, 13, 47, 48, 49, 50, 15, 51, 52, 53, 54, 55, 56, 57, 58, 59, 60, 61, 62, 63, 64, 65, 66, 67, 68, 69, 70, 79, 80, 81, 82, 83, 84] (by decide +kernel) (by decide +kernel)
set_option maxRecDepth 20000 in
theorem gX6_ifSettled_X1_trimAll : GoodIn wsX6_ifSettled (wsV RX6 142 RX1 yX1_trimAll wsX1_trimAll) := goodIn_app (goodIn_of _ (by decide +kernel)) ggX6_ifSettled_X1_trimAll
theorem dX6_ifSettled_0 : decode cX6_ifSettled 0 = .ok (.aload_n 0, 1) := by decide +kernel
theorem dX6_ifSettled_1 : decode cX6_ifSettled 1 = .ok (.getfield 16, 3) := by decide +kernel
theorem dX6_ifSettled_4 : decode cX6_ifSettled 4 = .ok (.aload_n 0, 1) := by decide +kernel
theorem dX6_ifSettled_5 : decode cX6_ifSettled 5 = .ok (.getfield 10, 3) := by decide +kernel
theorem dX6_ifSettled_8 : decode cX6_ifSettled 8 = .ok (.invokevirtual 173, 3) := by decide +kernel
theorem dX6_ifSettled_11 : decode cX6_ifSettled 11 = .ok (.aload_n 0, 1) := by decide +kernel
theorem dX6_ifSettled_12 : decode cX6_ifSettled 12 = .ok (.getfield 16, 3) := by decide +kernel
theorem dX6_ifSettled_15 : decode cX6_ifSettled 15 = .ok (.invokevirtual 142, 3) := by decide +kernel
theorem dX6_ifSettled_18 : decode cX6_ifSettled 18 = .ok (.ireturn, 1) := by decide +kernel
set_option maxRecDepth 20000 in
theorem ggX6_mainRibbon_X5_ribbonThatMatters : GoodIn wsX6_mainRibbon wsX5_ribbonThatMatters := goodIn_r _ [7, 8, 9, 10, 11, 12, 13, 14, 15, 16, 17, 18, 19, 20, 6, 21, 22, 23, 24, 25, 26, 27, 28, 29, 30, 31, 32, 33, 34, 35, 36, 37, 38, 39, 40, 41, 42, 43, 44, 45, 46, 47, 48, 49, 50, 51, 52, 53, 54, 55, 56, 65, 66, 67, 68, 69, 70, 71, 72, 73, 74, 75, 76, 77, 78] (by decide +kernel) (by decide +kernel)
set_option maxRecDepth 20000 in
theorem gX6_mainRibbon_X5_ribbonThatMatters : GoodIn wsX6_mainRibbon (wsV RX6 255 RX5 yX5_ribbonThatMatters wsX5_ribbonThatMatters) := goodIn_app (goodIn_of _ (by decide +kernel)) ggX6_mainRibbon_X5_ribbonThatMatters
theorem dX6_mainRibbon_0 : decode cX6_mainRibbon 0 = .ok (.aload_n 0, 1) := by decide +kernel
theorem dX6_mainRibbon_1 : decode cX6_mainRibbon 1 = .ok (.getfield 54, 3) := by decide +kernel
theorem dX6_mainRibbon_4 : decode cX6_mainRibbon 4 = .ok (.aload_n 0, 1) := by decide +kernel
theorem dX6_mainRibbon_5 : decode cX6_mainRibbon 5 = .ok (.getfield 10, 3) := by decide +kernel
theorem dX6_mainRibbon_8 : decode cX6_mainRibbon 8 = .ok (.invokevirtual 255, 3) := by decide +kernel
theorem dX6_mainRibbon_11 : decode cX6_mainRibbon 11 = .ok (.ireturn, 1) := by decide +kernel
set_option maxRecDepth 20000 in
theorem ggX6_height_X6_checkColumn : GoodIn wsX6_height wsX6_checkColumn := goodIn_ca (goodIn_r _ [4, 5, 6] (by decide +kernel) (by decide +kernel)) (goodIn_sub (fun _ h => List.mem_cons_of_mem _ (List.mem_append_left _ (List.mem_append_right _ h))) (by decide +kernel))
set_option maxRecDepth 20000 in
theorem gX6_height_X6_checkColumn : GoodIn wsX6_height (va_wsS RX6 120 yX6_checkColumn wsX6_checkColumn) := goodIn_app (goodIn_of _ (by decide +kernel)) ggX6_height_X6_checkColumn
set_option maxRecDepth 20000 in
theorem ggX6_height_X6_postOf : GoodIn wsX6_height wsX6_postOf := goodIn_ca (goodIn_ca (goodIn_r _ [10, 11, 12, 13, 14, 15, 16, 17, 18, 19, 3, 20, 5, 6, 21, 22, 23, 24, 25, 26, 27, 28, 29, 30, 31, 32, 33, 34, 35, 36, 37, 38, 39, 40, 41, 42, 43, 44, 45, 46, 47, 48, 49, 50, 51, 52, 53, 54, 55, 56, 57, 58, 59, 60, 61, 62, 63, 64, 65, 66, 67, 68, 69, 70, 71, 72, 73, 74, 75, 76, 77, 78, 79, 80, 81, 82, 83, 84, 85, 86, 87, 88, 89, 90, 91, 92] (by decide +kernel) (by decide +kernel)) (goodIn_sub (fun _ h => List.mem_cons_of_mem _ (List.mem_append_right _ h)) (by decide +kernel))) (goodIn_sub (fun _ h => List.mem_cons_of_mem _ (List.mem_append_left _ (List.mem_append_right _ h))) (by decide +kernel))
set_option maxRecDepth 20000 in
theorem gX6_height_X6_postOf : GoodIn wsX6_height (wsV RX6 258 RX6 yX6_postOf wsX6_postOf) := goodIn_app (goodIn_of _ (by decide +kernel)) ggX6_height_X6_postOf
theorem dX6_height_0 : decode cX6_height 0 = .ok (.iload_n 1, 1) := by decide +kernel
theorem dX6_height_1 : decode cX6_height 1 = .ok (.invokestatic 120, 3) := by decide +kernel
theorem dX6_height_4 : decode cX6_height 4 = .ok (.iconst 0, 1) := by decide +kernel
theorem dX6_height_5 : decode cX6_height 5 = .ok (.istore_n 2, 1) := by decide +kernel
theorem dX6_height_6 : decode cX6_height 6 = .ok (.iconst 0, 1) := by decide +kernel
theorem dX6_height_7 : decode cX6_height 7 = .ok (.istore_n 3, 1) := by decide +kernel
theorem dX6_height_8 : decode cX6_height 8 = .ok (.iload_n 3, 1) := by decide +kernel
theorem dX6_height_9 : decode cX6_height 9 = .ok (.iconst 4, 1) := by decide +kernel
theorem dX6_height_10 : decode cX6_height 10 = .ok (.if_icmp .ge 23, 3) := by decide +kernel
theorem dX6_height_13 : decode cX6_height 13 = .ok (.iload_n 2, 1) := by decide +kernel
theorem dX6_height_14 : decode cX6_height 14 = .ok (.aload_n 0, 1) := by decide +kernel
theorem dX6_height_15 : decode cX6_height 15 = .ok (.iload_n 1, 1) := by decide +kernel
theorem dX6_height_16 : decode cX6_height 16 = .ok (.iconst 4, 1) := by decide +kernel
theorem dX6_height_17 : decode cX6_height 17 = .ok (.imul, 1) := by decide +kernel
theorem dX6_height_18 : decode cX6_height 18 = .ok (.iload_n 3, 1) := by decide +kernel
theorem dX6_height_19 : decode cX6_height 19 = .ok (.iadd, 1) := by decide +kernel
theorem dX6_height_20 : decode cX6_height 20 = .ok (.bipush 7, 2) := by decide +kernel
theorem dX6_height_22 : decode cX6_height 22 = .ok (.invokevirtual 258, 3) := by decide +kernel
theorem dX6_height_25 : decode cX6_height 25 = .ok (.iadd, 1) := by decide +kernel
theorem dX6_height_26 : decode cX6_height 26 = .ok (.istore_n 2, 1) := by decide +kernel
theorem dX6_height_27 : decode cX6_height 27 = .ok (.iinc 3 1, 3) := by decide +kernel
theorem dX6_height_30 : decode cX6_height 30 = .ok (.goto (-22), 3) := by decide +kernel
theorem dX6_height_33 : decode cX6_height 33 = .ok (.iload_n 2, 1) := by decide +kernel
theorem dX6_height_34 : decode cX6_height 34 = .ok (.ireturn, 1) := by decide +kernel
set_option maxRecDepth 20000 in
theorem ggX6_throughShare_X1_leaves : GoodIn wsX6_throughShare wsX1_leaves := goodIn_r _ [7, 8, 9, 10, 11, 6, 12, 13, 14, 15, 16, 17, 18, 19, 20, 21, 22, 23, 87, 88, 89, 90, 91, 92] (by decide +kernel) (by decide +kernel)
set_option maxRecDepth 20000 in
theorem gX6_throughShare_X1_leaves : GoodIn wsX6_throughShare (wsV RX6 192 RX1 yX1_leaves wsX1_leaves) := goodIn_app (goodIn_of _ (by decide +kernel)) ggX6_throughShare_X1_leaves
set_option maxRecDepth 20000 in
theorem ggX6_throughShare_X5_mostByWays : GoodIn wsX6_throughShare wsX5_mostByWays := goodIn_r _ [28, 29, 30, 31, 32, 33, 34, 35, 36, 37, 27, 38, 39, 40, 41, 42, 43, 44, 45, 15, 16, 6, 17, 18, 13, 46, 10, 11, 12, 47, 48, 49, 50, 51, 20, 21, 22, 23, 52, 53, 54, 55, 56, 57, 58, 59, 60, 61, 62, 63, 64, 65, 66, 67, 68, 69, 70, 71, 72, 73, 74, 75, 76, 77, 78, 8, 93, 94, 95, 96, 97, 98, 99, 100, 87, 88, 89, 90, 91, 92] (by decide +kernel) (by decide +kernel)
set_option maxRecDepth 20000 in
theorem gX6_throughShare_X5_mostByWays : GoodIn wsX6_throughShare (wsV RX6 241 RX5 yX5_mostByWays wsX5_mostByWays) := goodIn_app (goodIn_of _ (by decide +kernel)) ggX6_throughShare_X5_mostByWays
theorem dX6_throughShare_0 : decode cX6_throughShare 0 = .ok (.iconst 0, 1) := by decide +kernel
theorem dX6_throughShare_1 : decode cX6_throughShare 1 = .ok (.istore_n 1, 1) := by decide +kernel
theorem dX6_throughShare_2 : decode cX6_throughShare 2 = .ok (.iconst 0, 1) := by decide +kernel
theorem dX6_throughShare_3 : decode cX6_throughShare 3 = .ok (.istore_n 2, 1) := by decide +kernel
theorem dX6_throughShare_4 : decode cX6_throughShare 4 = .ok (.iload_n 2, 1) := by decide +kernel
theorem dX6_throughShare_5 : decode cX6_throughShare 5 = .ok (.iconst 4, 1) := by decide +kernel
theorem dX6_throughShare_6 : decode cX6_throughShare 6 = .ok (.if_icmp .ge 20, 3) := by decide +kernel
theorem dX6_throughShare_9 : decode cX6_throughShare 9 = .ok (.iload_n 1, 1) := by decide +kernel
theorem dX6_throughShare_10 : decode cX6_throughShare 10 = .ok (.aload_n 0, 1) := by decide +kernel
theorem dX6_throughShare_11 : decode cX6_throughShare 11 = .ok (.getfield 10, 3) := by decide +kernel
theorem dX6_throughShare_14 : decode cX6_throughShare 14 = .ok (.iload_n 2, 1) := by decide +kernel
theorem dX6_throughShare_15 : decode cX6_throughShare 15 = .ok (.invokevirtual 192, 3) := by decide +kernel
theorem dX6_throughShare_18 : decode cX6_throughShare 18 = .ok (.iadd, 1) := by decide +kernel
theorem dX6_throughShare_19 : decode cX6_throughShare 19 = .ok (.istore_n 1, 1) := by decide +kernel
theorem dX6_throughShare_20 : decode cX6_throughShare 20 = .ok (.iinc 2 1, 3) := by decide +kernel
theorem dX6_throughShare_23 : decode cX6_throughShare 23 = .ok (.goto (-19), 3) := by decide +kernel
theorem dX6_throughShare_26 : decode cX6_throughShare 26 = .ok (.iload_n 1, 1) := by decide +kernel
theorem dX6_throughShare_27 : decode cX6_throughShare 27 = .ok (.ifCond .ne 5, 3) := by decide +kernel
theorem dX6_throughShare_30 : decode cX6_throughShare 30 = .ok (.dconst 1, 1) := by decide +kernel
theorem dX6_throughShare_31 : decode cX6_throughShare 31 = .ok (.dreturn, 1) := by decide +kernel
theorem dX6_throughShare_32 : decode cX6_throughShare 32 = .ok (.aload_n 0, 1) := by decide +kernel
theorem dX6_throughShare_33 : decode cX6_throughShare 33 = .ok (.getfield 54, 3) := by decide +kernel
theorem dX6_throughShare_36 : decode cX6_throughShare 36 = .ok (.aload_n 0, 1) := by decide +kernel
theorem dX6_throughShare_37 : decode cX6_throughShare 37 = .ok (.getfield 10, 3) := by decide +kernel
theorem dX6_throughShare_40 : decode cX6_throughShare 40 = .ok (.invokevirtual 241, 3) := by decide +kernel
theorem dX6_throughShare_43 : decode cX6_throughShare 43 = .ok (.i2d, 1) := by decide +kernel
theorem dX6_throughShare_44 : decode cX6_throughShare 44 = .ok (.iload_n 1, 1) := by decide +kernel
theorem dX6_throughShare_45 : decode cX6_throughShare 45 = .ok (.i2d, 1) := by decide +kernel
theorem dX6_throughShare_46 : decode cX6_throughShare 46 = .ok (.ddiv, 1) := by decide +kernel
theorem dX6_throughShare_47 : decode cX6_throughShare 47 = .ok (.dreturn, 1) := by decide +kernel
set_option maxRecDepth 20000 in
theorem ggX6_digest_X6_count : GoodIn wsX6_digest wsX6_count := goodIn_ca (goodIn_r _ [7, 8, 9, 10, 11, 12, 13, 14, 15, 16, 17, 18, 19, 20, 21, 22, 23, 24, 25, 26, 27, 28, 29, 30, 31, 32, 33, 34, 35, 36, 37, 38, 39, 40, 41, 42, 43, 44, 45, 46, 47, 6, 48, 49, 50, 51, 52, 53, 54, 55, 56, 57, 58, 59, 60, 61, 62, 63, 64, 65, 66, 67, 68, 69, 70, 71, 72, 73, 74, 75, 76, 77, 78, 79, 80, 81, 82, 83, 84, 85, 86, 87, 88, 89, 90, 91, 92, 93, 94, 95, 96, 97, 98, 99, 100, 101, 102, 103, 104, 105, 106, 107, 108, 109, 110, 111, 112, 113, 114, 115, 116, 117, 118, 119, 120, 121, 122, 123, 124, 125, 126, 127, 128, 129, 130, 131, 132, 133, 134, 135, 136, 137, 138, 139, 140, 141, 142, 143, 144, 145, 146, 147, 148, 149, 150, 151, 152, 153, 154, 155, 156, 157, 158, 159, 160, 161, 162, 163, 164, 165, 166, 167, 168, 169, 170, 171, 172, 173, 174, 175, 176, 177, 178, 179, 376, 377, 378, 379, 380, 381, 382, 383, 384, 385, 386, 387, 388, 389, 390, 391, 392, 393, 394, 395, 396, 397, 398, 399, 400, 401, 402, 403, 404] (by decide +kernel) (by decide +kernel)) (goodIn_sub (fun _ h => List.mem_cons_of_mem _ (List.mem_append_left _ (List.mem_append_right _ h))) (by decide +kernel))
set_option maxRecDepth 20000 in
theorem gX6_digest_X6_count : GoodIn wsX6_digest (wsV RX6 263 RX6 yX6_count wsX6_count) := goodIn_app (goodIn_of _ (by decide +kernel)) ggX6_digest_X6_count
set_option maxRecDepth 20000 in
theorem ggX6_digest_X6_mixed : GoodIn wsX6_digest wsX6_mixed := goodIn_r _ [182, 183] (by decide +kernel) (by decide +kernel)
set_option maxRecDepth 20000 in
theorem gX6_digest_X6_mixed : GoodIn wsX6_digest (va_wsS RX6 266 yX6_mixed wsX6_mixed) := goodIn_app (goodIn_of _ (by decide +kernel)) ggX6_digest_X6_mixed
set_option maxRecDepth 20000 in
theorem ggX6_digest_X6_withPosts : GoodIn wsX6_digest wsX6_withPosts := goodIn_ca (goodIn_ca (goodIn_r _ [187, 188, 189, 190, 6, 191, 8, 9, 10, 192, 193, 31, 194, 195, 196, 197, 198, 199, 200, 142, 143, 201, 54, 55, 17, 56, 57, 202, 105, 106, 107, 19, 42, 43, 44, 45, 46, 108, 109, 110, 111, 41, 20, 21, 22, 23, 24, 203, 113, 114, 115, 37, 38, 39, 40, 204, 205, 206, 207, 208, 209, 210, 211, 212, 213, 214, 215, 216, 217, 218, 219, 101, 102, 103, 104, 112, 180, 181, 182, 183, 376, 377, 378, 379, 380, 381, 382, 383, 384, 385, 386, 387, 388, 389] (by decide +kernel) (by decide +kernel)) (goodIn_sub (fun _ h => List.mem_cons_of_mem _ (List.mem_append_left _ (List.mem_append_right _ h))) (by decide +kernel))) (goodIn_sub (fun _ h => List.mem_cons_of_mem _ (List.mem_append_right _ h)) (by decide +kernel))
set_option maxRecDepth 20000 in
theorem gX6_digest_X6_withPosts : GoodIn wsX6_digest (wsV RX6 270 RX6 yX6_withPosts wsX6_withPosts) := goodIn_app (goodIn_of _ (by decide +kernel)) ggX6_digest_X6_withPosts
set_option maxRecDepth 20000 in
theorem ggX6_digest_X6_withRibbons : GoodIn wsX6_digest wsX6_withRibbons := goodIn_ca (goodIn_ca (goodIn_r _ [223, 10, 224, 225, 226, 6, 227, 8, 9, 228, 229, 230, 231, 198, 199, 232, 158, 159, 17, 160, 19, 233, 38, 39, 40, 41, 234, 43, 44, 45, 46, 235, 21, 22, 23, 24, 236, 109, 110, 111, 237, 93, 94, 95, 33, 34, 35, 36, 37, 42, 47, 48, 49, 50, 51, 52, 53, 54, 55, 56, 57, 180, 181, 182, 183, 376, 377, 378, 379, 380, 381, 382, 383, 384, 385, 386, 387, 388, 389] (by decide +kernel) (by decide +kernel)) (goodIn_sub (fun _ h => List.mem_cons_of_mem _ (List.mem_append_left _ (List.mem_append_right _ h))) (by decide +kernel))) (goodIn_sub (fun _ h => List.mem_cons_of_mem _ (List.mem_append_right _ h)) (by decide +kernel))
set_option maxRecDepth 20000 in
theorem gX6_digest_X6_withRibbons : GoodIn wsX6_digest (wsV RX6 274 RX6 yX6_withRibbons wsX6_withRibbons) := goodIn_app (goodIn_of _ (by decide +kernel)) ggX6_digest_X6_withRibbons
set_option maxRecDepth 20000 in
theorem ggX6_digest_X6_bestOrder : GoodIn wsX6_digest wsX6_bestOrder := goodIn_ca (goodIn_r _ [241, 242, 10, 243, 244, 6, 245, 198, 199, 246, 247, 248, 249, 250, 251, 252, 253, 254, 255, 256, 257, 258, 259, 260, 261, 262, 263, 85, 86, 87, 264, 265, 266, 267, 268, 30, 31, 32, 269, 38, 39, 17, 40, 41, 270, 43, 44, 45, 46, 47, 48, 271, 50, 51, 52, 37, 42, 272, 21, 22, 23, 24, 273, 54, 55, 56, 57, 274, 275, 276, 277, 278, 279, 280, 281, 282, 283, 284, 285, 286, 287, 288, 376, 377, 378, 379, 380, 381, 382, 383, 405, 406, 407, 408, 409, 384, 385, 386, 387, 388, 389] (by decide +kernel) (by decide +kernel)) (goodIn_sub (fun _ h => List.mem_cons_of_mem _ (List.mem_append_right _ h)) (by decide +kernel))
set_option maxRecDepth 20000 in
theorem gX6_digest_X6_bestOrder : GoodIn wsX6_digest (wsV RX6 277 RX6 yX6_bestOrder wsX6_bestOrder) := goodIn_app (goodIn_of _ (by decide +kernel)) ggX6_digest_X6_bestOrder
set_option maxRecDepth 20000 in
theorem ggX6_digest_X6_height : GoodIn wsX6_digest wsX6_height := goodIn_ca (goodIn_ca (goodIn_r _ [292, 243, 244, 6, 245, 198, 199, 188, 189, 190, 191, 8, 9, 10, 192, 193, 31, 194, 195, 196, 197, 200, 142, 143, 201, 54, 55, 17, 56, 57, 202, 105, 106, 107, 19, 42, 43, 44, 45, 46, 108, 109, 110, 111, 41, 20, 21, 22, 23, 24, 203, 113, 114, 115, 37, 38, 39, 40, 204, 205, 206, 207, 208, 209, 210, 211, 212, 213, 214, 215, 216, 217, 218, 219, 101, 102, 103, 104, 112, 376, 377, 378, 379, 380, 381, 382, 383, 384, 385, 386, 387, 388, 389] (by decide +kernel) (by decide +kernel)) (goodIn_sub (fun _ h => List.mem_cons_of_mem _ (List.mem_append_right _ h)) (by decide +kernel))) (goodIn_sub (fun _ h => List.mem_cons_of_mem _ (List.mem_append_left _ (List.mem_append_right _ h))) (by decide +kernel))
set_option maxRecDepth 20000 in
theorem gX6_digest_X6_height : GoodIn wsX6_digest (wsV RX6 280 RX6 yX6_height wsX6_height) := goodIn_app (goodIn_of _ (by decide +kernel)) ggX6_digest_X6_height
set_option maxRecDepth 20000 in
theorem ggX6_digest_X6_ifSwapped : GoodIn wsX6_digest wsX6_ifSwapped := goodIn_ca (goodIn_ca (goodIn_r _ [296, 297, 10, 298, 299, 6, 300, 8, 9, 195, 196, 197, 198, 199, 200, 142, 143, 301, 47, 48, 302, 303, 304, 17, 305, 57, 306, 255, 256, 257, 41, 46, 24, 19, 307, 308, 309, 310, 311, 53, 54, 55, 56, 312, 313, 314, 315, 25, 26, 27, 28, 29, 30, 31, 32, 33, 34, 35, 36, 37, 38, 39, 40, 42, 43, 44, 45, 49, 50, 51, 52, 20, 21, 22, 23, 376, 377, 378, 379, 380, 381, 382, 383, 384, 385, 386, 387, 388, 389] (by decide +kernel) (by decide +kernel)) (goodIn_sub (fun _ h => List.mem_cons_of_mem _ (List.mem_append_left _ (List.mem_append_right _ h))) (by decide +kernel))) (goodIn_sub (fun _ h => List.mem_cons_of_mem _ (List.mem_append_right _ h)) (by decide +kernel))
set_option maxRecDepth 20000 in
theorem gX6_digest_X6_ifSwapped : GoodIn wsX6_digest (wsV RX6 283 RX6 yX6_ifSwapped wsX6_ifSwapped) := goodIn_app (goodIn_of _ (by decide +kernel)) ggX6_digest_X6_ifSwapped
set_option maxRecDepth 20000 in
theorem ggX6_digest_X6_ifSettled : GoodIn wsX6_digest wsX6_ifSettled := goodIn_r _ [319, 297, 10, 302, 303, 304, 17, 305, 57, 306, 255, 256, 257, 41, 46, 24, 19, 307, 320, 321, 322, 323, 324, 325, 326, 327, 328, 329, 330, 31, 331, 100, 101, 102, 103, 104, 105, 106, 107, 42, 43, 44, 45, 108, 109, 110, 111, 20, 21, 22, 23, 112, 113, 114, 115, 37, 38, 39, 40, 332, 333, 334, 335, 336, 337, 338, 339, 340, 158, 159, 160, 376, 377, 378, 379, 380, 381, 382, 383, 384, 385, 386, 387, 388, 389] (by decide +kernel) (by decide +kernel)
set_option maxRecDepth 20000 in
theorem gX6_digest_X6_ifSettled : GoodIn wsX6_digest (wsV RX6 286 RX6 yX6_ifSettled wsX6_ifSettled) := goodIn_app (goodIn_of _ (by decide +kernel)) ggX6_digest_X6_ifSettled
set_option maxRecDepth 20000 in
theorem ggX6_digest_X6_mainRibbon : GoodIn wsX6_digest wsX6_mainRibbon := goodIn_r _ [344, 12, 10, 345, 346, 347, 119, 348, 349, 122, 169, 170, 171, 172, 148, 30, 31, 32, 165, 166, 167, 168, 134, 109, 110, 17, 111, 46, 41, 135, 38, 39, 40, 141, 43, 44, 45, 140, 21, 22, 23, 24, 123, 85, 86, 87, 173, 174, 175, 176, 177, 178, 179, 350, 351, 352, 353, 376, 377, 378, 379, 380, 381, 382, 383, 397, 398, 399, 400, 401, 402, 403, 404, 384, 385, 386, 387, 388, 389] (by decide +kernel) (by decide +kernel)
set_option maxRecDepth 20000 in
theorem gX6_digest_X6_mainRibbon : GoodIn wsX6_digest (wsV RX6 289 RX6 yX6_mainRibbon wsX6_mainRibbon) := goodIn_app (goodIn_of _ (by decide +kernel)) ggX6_digest_X6_mainRibbon
set_option maxRecDepth 20000 in
theorem ggX6_digest_X6_throughShare : GoodIn wsX6_digest wsX6_throughShare := goodIn_r _ [357, 10, 12, 203, 113, 114, 17, 115, 19, 37, 38, 39, 40, 41, 108, 109, 110, 111, 46, 20, 21, 22, 23, 24, 116, 117, 118, 119, 120, 121, 122, 123, 85, 86, 87, 124, 125, 126, 127, 128, 129, 130, 131, 132, 133, 134, 135, 136, 137, 138, 139, 140, 141, 43, 44, 45, 142, 6, 143, 144, 145, 146, 147, 148, 30, 31, 32, 149, 150, 151, 152, 153, 154, 155, 156, 157, 158, 159, 160, 376, 377, 378, 379, 380, 381, 382, 383, 384, 385, 386, 387, 388, 389, 397, 398, 399, 400, 401, 402, 403, 404] (by decide +kernel) (by decide +kernel)
set_option maxRecDepth 20000 in
theorem gX6_digest_X6_throughShare : GoodIn wsX6_digest (wsV RX6 292 RX6 yX6_throughShare wsX6_throughShare) := goodIn_app (goodIn_of _ (by decide +kernel)) ggX6_digest_X6_throughShare
set_option maxRecDepth 20000 in
theorem ggX6_digest_X6_bitsOfShare : GoodIn wsX6_digest wsX6_bitsOfShare := goodIn_r _ [360, 361, 362, 363] (by decide +kernel) (by decide +kernel)
set_option maxRecDepth 20000 in
theorem gX6_digest_X6_bitsOfShare : GoodIn wsX6_digest (va_wsS RX6 296 yX6_bitsOfShare wsX6_bitsOfShare) := goodIn_app (goodIn_of _ (by decide +kernel)) ggX6_digest_X6_bitsOfShare
set_option maxRecDepth 20000 in
theorem ggX6_digest_X6_withText : GoodIn wsX6_digest wsX6_withText := goodIn_r _ [367, 368, 180, 181, 6, 182, 183, 369, 370, 371, 372, 373, 374, 375, 376, 377, 378, 379, 380, 381, 382, 383, 410, 411] (by decide +kernel) (by decide +kernel)
set_option maxRecDepth 20000 in
theorem gX6_digest_X6_withText : GoodIn wsX6_digest (wsV RX6 300 RX6 yX6_withText wsX6_withText) := goodIn_app (goodIn_of _ (by decide +kernel)) ggX6_digest_X6_withText
theorem dX6_digest_0 : decode cX6_digest 0 = .ok (.ldc2_w 261, 3) := by decide +kernel
theorem dX6_digest_3 : decode cX6_digest 3 = .ok (.lstore_n 1, 1) := by decide +kernel
theorem dX6_digest_4 : decode cX6_digest 4 = .ok (.iconst 0, 1) := by decide +kernel
theorem dX6_digest_5 : decode cX6_digest 5 = .ok (.istore_n 3, 1) := by decide +kernel
theorem dX6_digest_6 : decode cX6_digest 6 = .ok (.iload_n 3, 1) := by decide +kernel
theorem dX6_digest_7 : decode cX6_digest 7 = .ok (.bipush 9, 2) := by decide +kernel
theorem dX6_digest_9 : decode cX6_digest 9 = .ok (.if_icmp .gt 20, 3) := by decide +kernel
theorem dX6_digest_12 : decode cX6_digest 12 = .ok (.lload_n 1, 1) := by decide +kernel
theorem dX6_digest_13 : decode cX6_digest 13 = .ok (.aload_n 0, 1) := by decide +kernel
theorem dX6_digest_14 : decode cX6_digest 14 = .ok (.iload_n 3, 1) := by decide +kernel
theorem dX6_digest_15 : decode cX6_digest 15 = .ok (.invokevirtual 263, 3) := by decide +kernel
theorem dX6_digest_18 : decode cX6_digest 18 = .ok (.i2l, 1) := by decide +kernel
theorem dX6_digest_19 : decode cX6_digest 19 = .ok (.invokestatic 266, 3) := by decide +kernel
theorem dX6_digest_22 : decode cX6_digest 22 = .ok (.lstore_n 1, 1) := by decide +kernel
theorem dX6_digest_23 : decode cX6_digest 23 = .ok (.iinc 3 1, 3) := by decide +kernel
theorem dX6_digest_26 : decode cX6_digest 26 = .ok (.goto (-20), 3) := by decide +kernel
theorem dX6_digest_29 : decode cX6_digest 29 = .ok (.aload_n 0, 1) := by decide +kernel
theorem dX6_digest_30 : decode cX6_digest 30 = .ok (.lload_n 1, 1) := by decide +kernel
theorem dX6_digest_31 : decode cX6_digest 31 = .ok (.invokevirtual 270, 3) := by decide +kernel
theorem dX6_digest_34 : decode cX6_digest 34 = .ok (.lstore_n 1, 1) := by decide +kernel
theorem dX6_digest_35 : decode cX6_digest 35 = .ok (.aload_n 0, 1) := by decide +kernel
theorem dX6_digest_36 : decode cX6_digest 36 = .ok (.lload_n 1, 1) := by decide +kernel
theorem dX6_digest_37 : decode cX6_digest 37 = .ok (.invokevirtual 274, 3) := by decide +kernel
theorem dX6_digest_40 : decode cX6_digest 40 = .ok (.lstore_n 1, 1) := by decide +kernel
theorem dX6_digest_41 : decode cX6_digest 41 = .ok (.iconst 0, 1) := by decide +kernel
theorem dX6_digest_42 : decode cX6_digest 42 = .ok (.istore_n 3, 1) := by decide +kernel
theorem dX6_digest_43 : decode cX6_digest 43 = .ok (.iload_n 3, 1) := by decide +kernel
theorem dX6_digest_44 : decode cX6_digest 44 = .ok (.iconst 4, 1) := by decide +kernel
theorem dX6_digest_45 : decode cX6_digest 45 = .ok (.if_icmp .ge 31, 3) := by decide +kernel
theorem dX6_digest_48 : decode cX6_digest 48 = .ok (.lload_n 1, 1) := by decide +kernel
theorem dX6_digest_49 : decode cX6_digest 49 = .ok (.aload_n 0, 1) := by decide +kernel
theorem dX6_digest_50 : decode cX6_digest 50 = .ok (.iload_n 3, 1) := by decide +kernel
theorem dX6_digest_51 : decode cX6_digest 51 = .ok (.invokevirtual 277, 3) := by decide +kernel
theorem dX6_digest_54 : decode cX6_digest 54 = .ok (.i2l, 1) := by decide +kernel
theorem dX6_digest_55 : decode cX6_digest 55 = .ok (.invokestatic 266, 3) := by decide +kernel
theorem dX6_digest_58 : decode cX6_digest 58 = .ok (.lstore_n 1, 1) := by decide +kernel
theorem dX6_digest_59 : decode cX6_digest 59 = .ok (.lload_n 1, 1) := by decide +kernel
theorem dX6_digest_60 : decode cX6_digest 60 = .ok (.aload_n 0, 1) := by decide +kernel
theorem dX6_digest_61 : decode cX6_digest 61 = .ok (.iload_n 3, 1) := by decide +kernel
theorem dX6_digest_62 : decode cX6_digest 62 = .ok (.invokevirtual 280, 3) := by decide +kernel
theorem dX6_digest_65 : decode cX6_digest 65 = .ok (.i2l, 1) := by decide +kernel
theorem dX6_digest_66 : decode cX6_digest 66 = .ok (.invokestatic 266, 3) := by decide +kernel
theorem dX6_digest_69 : decode cX6_digest 69 = .ok (.lstore_n 1, 1) := by decide +kernel
theorem dX6_digest_70 : decode cX6_digest 70 = .ok (.iinc 3 1, 3) := by decide +kernel
theorem dX6_digest_73 : decode cX6_digest 73 = .ok (.goto (-30), 3) := by decide +kernel
theorem dX6_digest_76 : decode cX6_digest 76 = .ok (.lload_n 1, 1) := by decide +kernel
theorem dX6_digest_77 : decode cX6_digest 77 = .ok (.aload_n 0, 1) := by decide +kernel
theorem dX6_digest_78 : decode cX6_digest 78 = .ok (.iconst 0, 1) := by decide +kernel
theorem dX6_digest_79 : decode cX6_digest 79 = .ok (.iconst 1, 1) := by decide +kernel
theorem dX6_digest_80 : decode cX6_digest 80 = .ok (.invokevirtual 283, 3) := by decide +kernel
theorem dX6_digest_83 : decode cX6_digest 83 = .ok (.i2l, 1) := by decide +kernel
theorem dX6_digest_84 : decode cX6_digest 84 = .ok (.invokestatic 266, 3) := by decide +kernel
theorem dX6_digest_87 : decode cX6_digest 87 = .ok (.lstore_n 1, 1) := by decide +kernel
theorem dX6_digest_88 : decode cX6_digest 88 = .ok (.lload_n 1, 1) := by decide +kernel
theorem dX6_digest_89 : decode cX6_digest 89 = .ok (.aload_n 0, 1) := by decide +kernel
theorem dX6_digest_90 : decode cX6_digest 90 = .ok (.iconst 5, 1) := by decide +kernel
theorem dX6_digest_91 : decode cX6_digest 91 = .ok (.bipush 6, 2) := by decide +kernel
theorem dX6_digest_93 : decode cX6_digest 93 = .ok (.invokevirtual 283, 3) := by decide +kernel
theorem dX6_digest_96 : decode cX6_digest 96 = .ok (.i2l, 1) := by decide +kernel
theorem dX6_digest_97 : decode cX6_digest 97 = .ok (.invokestatic 266, 3) := by decide +kernel
theorem dX6_digest_100 : decode cX6_digest 100 = .ok (.lstore_n 1, 1) := by decide +kernel
theorem dX6_digest_101 : decode cX6_digest 101 = .ok (.lload_n 1, 1) := by decide +kernel
theorem dX6_digest_102 : decode cX6_digest 102 = .ok (.aload_n 0, 1) := by decide +kernel
theorem dX6_digest_103 : decode cX6_digest 103 = .ok (.bipush 8, 2) := by decide +kernel
theorem dX6_digest_105 : decode cX6_digest 105 = .ok (.bipush 11, 2) := by decide +kernel
theorem dX6_digest_107 : decode cX6_digest 107 = .ok (.invokevirtual 283, 3) := by decide +kernel
theorem dX6_digest_110 : decode cX6_digest 110 = .ok (.i2l, 1) := by decide +kernel
theorem dX6_digest_111 : decode cX6_digest 111 = .ok (.invokestatic 266, 3) := by decide +kernel
theorem dX6_digest_114 : decode cX6_digest 114 = .ok (.lstore_n 1, 1) := by decide +kernel
theorem dX6_digest_115 : decode cX6_digest 115 = .ok (.lload_n 1, 1) := by decide +kernel
theorem dX6_digest_116 : decode cX6_digest 116 = .ok (.aload_n 0, 1) := by decide +kernel
theorem dX6_digest_117 : decode cX6_digest 117 = .ok (.invokevirtual 286, 3) := by decide +kernel
theorem dX6_digest_120 : decode cX6_digest 120 = .ok (.i2l, 1) := by decide +kernel
theorem dX6_digest_121 : decode cX6_digest 121 = .ok (.invokestatic 266, 3) := by decide +kernel
theorem dX6_digest_124 : decode cX6_digest 124 = .ok (.lstore_n 1, 1) := by decide +kernel
theorem dX6_digest_125 : decode cX6_digest 125 = .ok (.lload_n 1, 1) := by decide +kernel
theorem dX6_digest_126 : decode cX6_digest 126 = .ok (.aload_n 0, 1) := by decide +kernel
theorem dX6_digest_127 : decode cX6_digest 127 = .ok (.invokevirtual 289, 3) := by decide +kernel
theorem dX6_digest_130 : decode cX6_digest 130 = .ok (.i2l, 1) := by decide +kernel
theorem dX6_digest_131 : decode cX6_digest 131 = .ok (.invokestatic 266, 3) := by decide +kernel
theorem dX6_digest_134 : decode cX6_digest 134 = .ok (.lstore_n 1, 1) := by decide +kernel
theorem dX6_digest_135 : decode cX6_digest 135 = .ok (.lload_n 1, 1) := by decide +kernel
theorem dX6_digest_136 : decode cX6_digest 136 = .ok (.aload_n 0, 1) := by decide +kernel
theorem dX6_digest_137 : decode cX6_digest 137 = .ok (.invokevirtual 292, 3) := by decide +kernel
theorem dX6_digest_140 : decode cX6_digest 140 = .ok (.invokestatic 296, 3) := by decide +kernel
theorem dX6_digest_143 : decode cX6_digest 143 = .ok (.invokestatic 266, 3) := by decide +kernel
theorem dX6_digest_146 : decode cX6_digest 146 = .ok (.lstore_n 1, 1) := by decide +kernel
theorem dX6_digest_147 : decode cX6_digest 147 = .ok (.iconst 0, 1) := by decide +kernel
theorem dX6_digest_148 : decode cX6_digest 148 = .ok (.istore_n 3, 1) := by decide +kernel
theorem dX6_digest_149 : decode cX6_digest 149 = .ok (.iload_n 3, 1) := by decide +kernel
theorem dX6_digest_150 : decode cX6_digest 150 = .ok (.iconst 2, 1) := by decide +kernel
theorem dX6_digest_151 : decode cX6_digest 151 = .ok (.if_icmp .ge 28, 3) := by decide +kernel
theorem dX6_digest_154 : decode cX6_digest 154 = .ok (.lload_n 1, 1) := by decide +kernel
theorem dX6_digest_155 : decode cX6_digest 155 = .ok (.aload_n 0, 1) := by decide +kernel
theorem dX6_digest_156 : decode cX6_digest 156 = .ok (.getfield 19, 3) := by decide +kernel
theorem dX6_digest_159 : decode cX6_digest 159 = .ok (.iload_n 3, 1) := by decide +kernel
theorem dX6_digest_160 : decode cX6_digest 160 = .ok (.aaload, 1) := by decide +kernel
theorem dX6_digest_161 : decode cX6_digest 161 = .ok (.ifnonnull 7, 3) := by decide +kernel
theorem dX6_digest_164 : decode cX6_digest 164 = .ok (.lconst 0, 1) := by decide +kernel
theorem dX6_digest_165 : decode cX6_digest 165 = .ok (.goto 4, 3) := by decide +kernel
theorem dX6_digest_168 : decode cX6_digest 168 = .ok (.lconst 1, 1) := by decide +kernel
theorem dX6_digest_169 : decode cX6_digest 169 = .ok (.invokestatic 266, 3) := by decide +kernel
theorem dX6_digest_172 : decode cX6_digest 172 = .ok (.lstore_n 1, 1) := by decide +kernel
theorem dX6_digest_173 : decode cX6_digest 173 = .ok (.iinc 3 1, 3) := by decide +kernel
theorem dX6_digest_176 : decode cX6_digest 176 = .ok (.goto (-27), 3) := by decide +kernel
theorem dX6_digest_179 : decode cX6_digest 179 = .ok (.aload_n 0, 1) := by decide +kernel
theorem dX6_digest_180 : decode cX6_digest 180 = .ok (.lload_n 1, 1) := by decide +kernel
theorem dX6_digest_181 : decode cX6_digest 181 = .ok (.invokevirtual 300, 3) := by decide +kernel
theorem dX6_digest_184 : decode cX6_digest 184 = .ok (.lreturn, 1) := by decide +kernel
set_option maxRecDepth 20000 in
theorem ggX6_withPosts_X6_postOf : GoodIn wsX6_withPosts wsX6_postOf := goodIn_ca (goodIn_ca (goodIn_r _ [5, 6, 7, 8, 9, 10, 11, 12, 13, 14, 4, 15, 16, 17, 18, 19, 20, 21, 22, 23, 24, 25, 26, 27, 28, 29, 30, 31, 32, 33, 34, 35, 36, 37, 38, 39, 40, 41, 42, 43, 44, 45, 46, 47, 48, 49, 50, 51, 52, 53, 54, 55, 56, 57, 58, 59, 60, 61, 62, 63, 64, 65, 66, 67, 68, 69, 70, 71, 72, 73, 74, 75, 80, 81, 82, 83, 84, 85, 86, 87, 88, 89, 90, 91, 92, 93] (by decide +kernel) (by decide +kernel)) (goodIn_sub (fun _ h => List.mem_cons_of_mem _ (List.mem_append_left _ (List.mem_append_right _ h))) (by decide +kernel))) (goodIn_sub (fun _ h => List.mem_cons_of_mem _ (List.mem_append_right _ h)) (by decide +kernel))
set_option maxRecDepth 20000 in
theorem gX6_withPosts_X6_postOf : GoodIn wsX6_withPosts (wsV RX6 258 RX6 yX6_postOf wsX6_postOf) := goodIn_app (goodIn_of _ (by decide +kernel)) ggX6_withPosts_X6_postOf
set_option maxRecDepth 20000 in
theorem ggX6_withPosts_X6_mixed : GoodIn wsX6_withPosts wsX6_mixed := goodIn_r _ [78, 79] (by decide +kernel) (by decide +kernel)
set_option maxRecDepth 20000 in
theorem gX6_withPosts_X6_mixed : GoodIn wsX6_withPosts (va_wsS RX6 266 yX6_mixed wsX6_mixed) := goodIn_app (goodIn_of _ (by decide +kernel)) ggX6_withPosts_X6_mixed
theorem dX6_withPosts_0 : decode cX6_withPosts 0 = .ok (.lload_n 1, 1) := by decide +kernel
theorem dX6_withPosts_1 : decode cX6_withPosts 1 = .ok (.lstore_n 3, 1) := by decide +kernel
theorem dX6_withPosts_2 : decode cX6_withPosts 2 = .ok (.iconst 0, 1) := by decide +kernel
theorem dX6_withPosts_3 : decode cX6_withPosts 3 = .ok (.istore 5, 2) := by decide +kernel
theorem dX6_withPosts_5 : decode cX6_withPosts 5 = .ok (.iload 5, 2) := by decide +kernel
theorem dX6_withPosts_7 : decode cX6_withPosts 7 = .ok (.bipush 16, 2) := by decide +kernel
theorem dX6_withPosts_9 : decode cX6_withPosts 9 = .ok (.if_icmp .ge 39, 3) := by decide +kernel
theorem dX6_withPosts_12 : decode cX6_withPosts 12 = .ok (.iconst 0, 1) := by decide +kernel
theorem dX6_withPosts_13 : decode cX6_withPosts 13 = .ok (.istore 6, 2) := by decide +kernel
theorem dX6_withPosts_15 : decode cX6_withPosts 15 = .ok (.iload 6, 2) := by decide +kernel
theorem dX6_withPosts_17 : decode cX6_withPosts 17 = .ok (.bipush 7, 2) := by decide +kernel
theorem dX6_withPosts_19 : decode cX6_withPosts 19 = .ok (.if_icmp .gt 23, 3) := by decide +kernel
theorem dX6_withPosts_22 : decode cX6_withPosts 22 = .ok (.lload_n 3, 1) := by decide +kernel
theorem dX6_withPosts_23 : decode cX6_withPosts 23 = .ok (.aload_n 0, 1) := by decide +kernel
theorem dX6_withPosts_24 : decode cX6_withPosts 24 = .ok (.iload 5, 2) := by decide +kernel
theorem dX6_withPosts_26 : decode cX6_withPosts 26 = .ok (.iload 6, 2) := by decide +kernel
theorem dX6_withPosts_28 : decode cX6_withPosts 28 = .ok (.invokevirtual 258, 3) := by decide +kernel
theorem dX6_withPosts_31 : decode cX6_withPosts 31 = .ok (.i2l, 1) := by decide +kernel
theorem dX6_withPosts_32 : decode cX6_withPosts 32 = .ok (.invokestatic 266, 3) := by decide +kernel
theorem dX6_withPosts_35 : decode cX6_withPosts 35 = .ok (.lstore_n 3, 1) := by decide +kernel
theorem dX6_withPosts_36 : decode cX6_withPosts 36 = .ok (.iinc 6 1, 3) := by decide +kernel
theorem dX6_withPosts_39 : decode cX6_withPosts 39 = .ok (.goto (-24), 3) := by decide +kernel
theorem dX6_withPosts_42 : decode cX6_withPosts 42 = .ok (.iinc 5 1, 3) := by decide +kernel
theorem dX6_withPosts_45 : decode cX6_withPosts 45 = .ok (.goto (-40), 3) := by decide +kernel
theorem dX6_withPosts_48 : decode cX6_withPosts 48 = .ok (.lload_n 3, 1) := by decide +kernel
theorem dX6_withPosts_49 : decode cX6_withPosts 49 = .ok (.lreturn, 1) := by decide +kernel
set_option maxRecDepth 20000 in
theorem ggX6_withRibbons_X6_ribbonOf : GoodIn wsX6_withRibbons wsX6_ribbonOf := goodIn_ca (goodIn_ca (goodIn_r _ [6, 7, 8, 1, 9, 10, 11, 5, 12, 13, 14, 15, 16, 17, 18, 19, 20, 21, 22, 23, 24, 25, 26, 27, 28, 29, 30, 31, 32, 33, 34, 35, 36, 37, 38, 39, 40, 41, 42, 43, 44, 45, 46, 47, 48, 49, 50, 51, 52, 53, 54, 55, 56, 57, 58, 59, 60, 65, 66, 67, 68, 69, 70, 71, 72, 73, 74, 75, 76, 77, 78] (by decide +kernel) (by decide +kernel)) (goodIn_sub (fun _ h => List.mem_cons_of_mem _ (List.mem_append_left _ (List.mem_append_right _ h))) (by decide +kernel))) (goodIn_sub (fun _ h => List.mem_cons_of_mem _ (List.mem_append_right _ h)) (by decide +kernel))
set_option maxRecDepth 20000 in
theorem gX6_withRibbons_X6_ribbonOf : GoodIn wsX6_withRibbons (wsV RX6 303 RX6 yX6_ribbonOf wsX6_ribbonOf) := goodIn_app (goodIn_of _ (by decide +kernel)) ggX6_withRibbons_X6_ribbonOf
set_option maxRecDepth 20000 in
theorem ggX6_withRibbons_X6_mixed : GoodIn wsX6_withRibbons wsX6_mixed := goodIn_r _ [63, 64] (by decide +kernel) (by decide +kernel)
set_option maxRecDepth 20000 in
theorem gX6_withRibbons_X6_mixed : GoodIn wsX6_withRibbons (va_wsS RX6 266 yX6_mixed wsX6_mixed) := goodIn_app (goodIn_of _ (by decide +kernel)) ggX6_withRibbons_X6_mixed
theorem dX6_withRibbons_0 : decode cX6_withRibbons 0 = .ok (.lload_n 1, 1) := by decide +kernel
theorem dX6_withRibbons_1 : decode cX6_withRibbons 1 = .ok (.lstore_n 3, 1) := by decide +kernel
theorem dX6_withRibbons_2 : decode cX6_withRibbons 2 = .ok (.iconst 0, 1) := by decide +kernel
theorem dX6_withRibbons_3 : decode cX6_withRibbons 3 = .ok (.istore 5, 2) := by decide +kernel
theorem dX6_withRibbons_5 : decode cX6_withRibbons 5 = .ok (.iload 5, 2) := by decide +kernel
theorem dX6_withRibbons_7 : decode cX6_withRibbons 7 = .ok (.aload_n 0, 1) := by decide +kernel
theorem dX6_withRibbons_8 : decode cX6_withRibbons 8 = .ok (.getfield 10, 3) := by decide +kernel
theorem dX6_withRibbons_11 : decode cX6_withRibbons 11 = .ok (.getfield 75, 3) := by decide +kernel
theorem dX6_withRibbons_14 : decode cX6_withRibbons 14 = .ok (.if_icmp .ge 38, 3) := by decide +kernel
theorem dX6_withRibbons_17 : decode cX6_withRibbons 17 = .ok (.iconst 0, 1) := by decide +kernel
theorem dX6_withRibbons_18 : decode cX6_withRibbons 18 = .ok (.istore 6, 2) := by decide +kernel
theorem dX6_withRibbons_20 : decode cX6_withRibbons 20 = .ok (.iload 6, 2) := by decide +kernel
theorem dX6_withRibbons_22 : decode cX6_withRibbons 22 = .ok (.iconst 4, 1) := by decide +kernel
theorem dX6_withRibbons_23 : decode cX6_withRibbons 23 = .ok (.if_icmp .gt 23, 3) := by decide +kernel
theorem dX6_withRibbons_26 : decode cX6_withRibbons 26 = .ok (.lload_n 3, 1) := by decide +kernel
theorem dX6_withRibbons_27 : decode cX6_withRibbons 27 = .ok (.aload_n 0, 1) := by decide +kernel
theorem dX6_withRibbons_28 : decode cX6_withRibbons 28 = .ok (.iload 5, 2) := by decide +kernel
theorem dX6_withRibbons_30 : decode cX6_withRibbons 30 = .ok (.iload 6, 2) := by decide +kernel
theorem dX6_withRibbons_32 : decode cX6_withRibbons 32 = .ok (.invokevirtual 303, 3) := by decide +kernel
theorem dX6_withRibbons_35 : decode cX6_withRibbons 35 = .ok (.i2l, 1) := by decide +kernel
theorem dX6_withRibbons_36 : decode cX6_withRibbons 36 = .ok (.invokestatic 266, 3) := by decide +kernel
theorem dX6_withRibbons_39 : decode cX6_withRibbons 39 = .ok (.lstore_n 3, 1) := by decide +kernel
theorem dX6_withRibbons_40 : decode cX6_withRibbons 40 = .ok (.iinc 6 1, 3) := by decide +kernel
theorem dX6_withRibbons_43 : decode cX6_withRibbons 43 = .ok (.goto (-23), 3) := by decide +kernel
theorem dX6_withRibbons_46 : decode cX6_withRibbons 46 = .ok (.iinc 5 1, 3) := by decide +kernel
theorem dX6_withRibbons_49 : decode cX6_withRibbons 49 = .ok (.goto (-44), 3) := by decide +kernel
theorem dX6_withRibbons_52 : decode cX6_withRibbons 52 = .ok (.lload_n 3, 1) := by decide +kernel
theorem dX6_withRibbons_53 : decode cX6_withRibbons 53 = .ok (.lreturn, 1) := by decide +kernel
set_option maxRecDepth 20000 in
theorem ggX6_withText_X6_mixed : GoodIn wsX6_withText wsX6_mixed := goodIn_r _ [5, 6] (by decide +kernel) (by decide +kernel)
set_option maxRecDepth 20000 in
theorem gX6_withText_X6_mixed : GoodIn wsX6_withText (va_wsS RX6 266 yX6_mixed wsX6_mixed) := goodIn_app (goodIn_of _ (by decide +kernel)) ggX6_withText_X6_mixed
set_option maxRecDepth 20000 in
theorem ggX6_withText_X4_codeAt : GoodIn wsX6_withText wsX4_codeAt := goodIn_r _ [11, 12, 13, 22, 23] (by decide +kernel) (by decide +kernel)
set_option maxRecDepth 20000 in
theorem gX6_withText_X4_codeAt : GoodIn wsX6_withText (wsV RX6 306 RX4 yX4_codeAt wsX4_codeAt) := goodIn_app (goodIn_of _ (by decide +kernel)) ggX6_withText_X4_codeAt
theorem dX6_withText_0 : decode cX6_withText 0 = .ok (.lload_n 1, 1) := by decide +kernel
theorem dX6_withText_1 : decode cX6_withText 1 = .ok (.aload_n 0, 1) := by decide +kernel
theorem dX6_withText_2 : decode cX6_withText 2 = .ok (.getfield 33, 3) := by decide +kernel
theorem dX6_withText_5 : decode cX6_withText 5 = .ok (.getfield 147, 3) := by decide +kernel
theorem dX6_withText_8 : decode cX6_withText 8 = .ok (.i2l, 1) := by decide +kernel
theorem dX6_withText_9 : decode cX6_withText 9 = .ok (.invokestatic 266, 3) := by decide +kernel
theorem dX6_withText_12 : decode cX6_withText 12 = .ok (.lstore_n 3, 1) := by decide +kernel
theorem dX6_withText_13 : decode cX6_withText 13 = .ok (.iconst 0, 1) := by decide +kernel
theorem dX6_withText_14 : decode cX6_withText 14 = .ok (.istore 5, 2) := by decide +kernel
theorem dX6_withText_16 : decode cX6_withText 16 = .ok (.iload 5, 2) := by decide +kernel
theorem dX6_withText_18 : decode cX6_withText 18 = .ok (.aload_n 0, 1) := by decide +kernel
theorem dX6_withText_19 : decode cX6_withText 19 = .ok (.getfield 33, 3) := by decide +kernel
theorem dX6_withText_22 : decode cX6_withText 22 = .ok (.getfield 147, 3) := by decide +kernel
theorem dX6_withText_25 : decode cX6_withText 25 = .ok (.if_icmp .ge 24, 3) := by decide +kernel
theorem dX6_withText_28 : decode cX6_withText 28 = .ok (.lload_n 3, 1) := by decide +kernel
theorem dX6_withText_29 : decode cX6_withText 29 = .ok (.aload_n 0, 1) := by decide +kernel
theorem dX6_withText_30 : decode cX6_withText 30 = .ok (.getfield 33, 3) := by decide +kernel
theorem dX6_withText_33 : decode cX6_withText 33 = .ok (.iload 5, 2) := by decide +kernel
theorem dX6_withText_35 : decode cX6_withText 35 = .ok (.invokevirtual 306, 3) := by decide +kernel
theorem dX6_withText_38 : decode cX6_withText 38 = .ok (.i2l, 1) := by decide +kernel
theorem dX6_withText_39 : decode cX6_withText 39 = .ok (.invokestatic 266, 3) := by decide +kernel
theorem dX6_withText_42 : decode cX6_withText 42 = .ok (.lstore_n 3, 1) := by decide +kernel
theorem dX6_withText_43 : decode cX6_withText 43 = .ok (.iinc 5 1, 3) := by decide +kernel
theorem dX6_withText_46 : decode cX6_withText 46 = .ok (.goto (-30), 3) := by decide +kernel
theorem dX6_withText_49 : decode cX6_withText 49 = .ok (.lload_n 3, 1) := by decide +kernel
theorem dX6_withText_50 : decode cX6_withText 50 = .ok (.lreturn, 1) := by decide +kernel
theorem dX6_mixed_0 : decode cX6_mixed 0 = .ok (.ldc2_w 309, 3) := by decide +kernel
theorem dX6_mixed_3 : decode cX6_mixed 3 = .ok (.lload_n 0, 1) := by decide +kernel
theorem dX6_mixed_4 : decode cX6_mixed 4 = .ok (.lmul, 1) := by decide +kernel
theorem dX6_mixed_5 : decode cX6_mixed 5 = .ok (.lload_n 2, 1) := by decide +kernel
theorem dX6_mixed_6 : decode cX6_mixed 6 = .ok (.ladd, 1) := by decide +kernel
theorem dX6_mixed_7 : decode cX6_mixed 7 = .ok (.lreturn, 1) := by decide +kernel
theorem dX6_bitsOfShare_0 : decode cX6_bitsOfShare 0 = .ok (.dload_n 0, 1) := by decide +kernel
theorem dX6_bitsOfShare_1 : decode cX6_bitsOfShare 1 = .ok (.dconst 0, 1) := by decide +kernel
theorem dX6_bitsOfShare_2 : decode cX6_bitsOfShare 2 = .ok (.dcmp .g, 1) := by decide +kernel
theorem dX6_bitsOfShare_3 : decode cX6_bitsOfShare 3 = .ok (.ifCond .gt 5, 3) := by decide +kernel
theorem dX6_bitsOfShare_6 : decode cX6_bitsOfShare 6 = .ok (.lconst 0, 1) := by decide +kernel
theorem dX6_bitsOfShare_7 : decode cX6_bitsOfShare 7 = .ok (.lreturn, 1) := by decide +kernel
theorem dX6_bitsOfShare_8 : decode cX6_bitsOfShare 8 = .ok (.dload_n 0, 1) := by decide +kernel
theorem dX6_bitsOfShare_9 : decode cX6_bitsOfShare 9 = .ok (.dstore_n 2, 1) := by decide +kernel
theorem dX6_bitsOfShare_10 : decode cX6_bitsOfShare 10 = .ok (.ldc2_w 311, 3) := by decide +kernel
theorem dX6_bitsOfShare_13 : decode cX6_bitsOfShare 13 = .ok (.lstore 4, 2) := by decide +kernel
theorem dX6_bitsOfShare_15 : decode cX6_bitsOfShare 15 = .ok (.iconst 1, 1) := by decide +kernel
theorem dX6_bitsOfShare_16 : decode cX6_bitsOfShare 16 = .ok (.istore 6, 2) := by decide +kernel
theorem dX6_bitsOfShare_18 : decode cX6_bitsOfShare 18 = .ok (.iload 6, 2) := by decide +kernel
theorem dX6_bitsOfShare_20 : decode cX6_bitsOfShare 20 = .ok (.sipush 1023, 3) := by decide +kernel
theorem dX6_bitsOfShare_23 : decode cX6_bitsOfShare 23 = .ok (.if_icmp .ge 27, 3) := by decide +kernel
theorem dX6_bitsOfShare_26 : decode cX6_bitsOfShare 26 = .ok (.dload_n 2, 1) := by decide +kernel
theorem dX6_bitsOfShare_27 : decode cX6_bitsOfShare 27 = .ok (.dconst 1, 1) := by decide +kernel
theorem dX6_bitsOfShare_28 : decode cX6_bitsOfShare 28 = .ok (.dcmp .g, 1) := by decide +kernel
theorem dX6_bitsOfShare_29 : decode cX6_bitsOfShare 29 = .ok (.ifCond .ge 21, 3) := by decide +kernel
theorem dX6_bitsOfShare_32 : decode cX6_bitsOfShare 32 = .ok (.dload_n 2, 1) := by decide +kernel
theorem dX6_bitsOfShare_33 : decode cX6_bitsOfShare 33 = .ok (.ldc2_w 313, 3) := by decide +kernel
theorem dX6_bitsOfShare_36 : decode cX6_bitsOfShare 36 = .ok (.dmul, 1) := by decide +kernel
theorem dX6_bitsOfShare_37 : decode cX6_bitsOfShare 37 = .ok (.dstore_n 2, 1) := by decide +kernel
theorem dX6_bitsOfShare_38 : decode cX6_bitsOfShare 38 = .ok (.lload 4, 2) := by decide +kernel
theorem dX6_bitsOfShare_40 : decode cX6_bitsOfShare 40 = .ok (.lconst 1, 1) := by decide +kernel
theorem dX6_bitsOfShare_41 : decode cX6_bitsOfShare 41 = .ok (.lsub, 1) := by decide +kernel
theorem dX6_bitsOfShare_42 : decode cX6_bitsOfShare 42 = .ok (.lstore 4, 2) := by decide +kernel
theorem dX6_bitsOfShare_44 : decode cX6_bitsOfShare 44 = .ok (.iinc 6 1, 3) := by decide +kernel
theorem dX6_bitsOfShare_47 : decode cX6_bitsOfShare 47 = .ok (.goto (-29), 3) := by decide +kernel
theorem dX6_bitsOfShare_50 : decode cX6_bitsOfShare 50 = .ok (.lload 4, 2) := by decide +kernel
theorem dX6_bitsOfShare_52 : decode cX6_bitsOfShare 52 = .ok (.bipush 52, 2) := by decide +kernel
theorem dX6_bitsOfShare_54 : decode cX6_bitsOfShare 54 = .ok (.lshl, 1) := by decide +kernel
theorem dX6_bitsOfShare_55 : decode cX6_bitsOfShare 55 = .ok (.dload_n 2, 1) := by decide +kernel
theorem dX6_bitsOfShare_56 : decode cX6_bitsOfShare 56 = .ok (.dconst 1, 1) := by decide +kernel
theorem dX6_bitsOfShare_57 : decode cX6_bitsOfShare 57 = .ok (.dsub, 1) := by decide +kernel
theorem dX6_bitsOfShare_58 : decode cX6_bitsOfShare 58 = .ok (.ldc2_w 315, 3) := by decide +kernel
theorem dX6_bitsOfShare_61 : decode cX6_bitsOfShare 61 = .ok (.dmul, 1) := by decide +kernel
theorem dX6_bitsOfShare_62 : decode cX6_bitsOfShare 62 = .ok (.d2l, 1) := by decide +kernel
theorem dX6_bitsOfShare_63 : decode cX6_bitsOfShare 63 = .ok (.ladd, 1) := by decide +kernel
theorem dX6_bitsOfShare_64 : decode cX6_bitsOfShare 64 = .ok (.lreturn, 1) := by decide +kernel
theorem dX6_columnOf_0 : decode cX6_columnOf 0 = .ok (.iload_n 0, 1) := by decide +kernel
theorem dX6_columnOf_1 : decode cX6_columnOf 1 = .ok (.iconst 4, 1) := by decide +kernel
theorem dX6_columnOf_2 : decode cX6_columnOf 2 = .ok (.idiv, 1) := by decide +kernel
theorem dX6_columnOf_3 : decode cX6_columnOf 3 = .ok (.ireturn, 1) := by decide +kernel
theorem dX6_isPost_0 : decode cX6_isPost 0 = .ok (.iload_n 0, 1) := by decide +kernel
theorem dX6_isPost_1 : decode cX6_isPost 1 = .ok (.ifCond .lt 13, 3) := by decide +kernel
theorem dX6_isPost_4 : decode cX6_isPost 4 = .ok (.iload_n 0, 1) := by decide +kernel
theorem dX6_isPost_5 : decode cX6_isPost 5 = .ok (.bipush 16, 2) := by decide +kernel
theorem dX6_isPost_7 : decode cX6_isPost 7 = .ok (.if_icmp .ge 7, 3) := by decide +kernel
theorem dX6_isPost_10 : decode cX6_isPost 10 = .ok (.iconst 1, 1) := by decide +kernel
theorem dX6_isPost_11 : decode cX6_isPost 11 = .ok (.goto 4, 3) := by decide +kernel
theorem dX6_isPost_14 : decode cX6_isPost 14 = .ok (.iconst 0, 1) := by decide +kernel
theorem dX6_isPost_15 : decode cX6_isPost 15 = .ok (.ireturn, 1) := by decide +kernel
theorem dX6_isInner_0 : decode cX6_isInner 0 = .ok (.iload_n 0, 1) := by decide +kernel
theorem dX6_isInner_1 : decode cX6_isInner 1 = .ok (.iconst 4, 1) := by decide +kernel
theorem dX6_isInner_2 : decode cX6_isInner 2 = .ok (.if_icmp .lt 13, 3) := by decide +kernel
theorem dX6_isInner_5 : decode cX6_isInner 5 = .ok (.iload_n 0, 1) := by decide +kernel
theorem dX6_isInner_6 : decode cX6_isInner 6 = .ok (.bipush 12, 2) := by decide +kernel
theorem dX6_isInner_8 : decode cX6_isInner 8 = .ok (.if_icmp .ge 7, 3) := by decide +kernel
theorem dX6_isInner_11 : decode cX6_isInner 11 = .ok (.iconst 1, 1) := by decide +kernel
theorem dX6_isInner_12 : decode cX6_isInner 12 = .ok (.goto 4, 3) := by decide +kernel
theorem dX6_isInner_15 : decode cX6_isInner 15 = .ok (.iconst 0, 1) := by decide +kernel
theorem dX6_isInner_16 : decode cX6_isInner 16 = .ok (.ireturn, 1) := by decide +kernel
set_option maxRecDepth 20000 in
theorem ggX6_checkPost_X6_isPost : GoodIn wsX6_checkPost wsX6_isPost := goodIn_r _ [6] (by decide +kernel) (by decide +kernel)
set_option maxRecDepth 20000 in
theorem gX6_checkPost_X6_isPost : GoodIn wsX6_checkPost (va_wsS RX6 317 yX6_isPost wsX6_isPost) := goodIn_app (goodIn_of _ (by decide +kernel)) ggX6_checkPost_X6_isPost
theorem dX6_checkPost_0 : decode cX6_checkPost 0 = .ok (.iload_n 0, 1) := by decide +kernel
theorem dX6_checkPost_1 : decode cX6_checkPost 1 = .ok (.invokestatic 317, 3) := by decide +kernel
theorem dX6_checkPost_4 : decode cX6_checkPost 4 = .ok (.ifCond .ne 14, 3) := by decide +kernel
theorem dX6_checkPost_7 : decode cX6_checkPost 7 = .ok (.new 134, 3) := by decide +kernel
theorem dX6_checkPost_10 : decode cX6_checkPost 10 = .ok (.dup, 1) := by decide +kernel
theorem dX6_checkPost_11 : decode cX6_checkPost 11 = .ok (.ldc_w 320, 3) := by decide +kernel
theorem dX6_checkPost_14 : decode cX6_checkPost 14 = .ok (.invokespecial 138, 3) := by decide +kernel
theorem dX6_checkPost_17 : decode cX6_checkPost 17 = .ok (.athrow, 1) := by decide +kernel
theorem dX6_checkPost_18 : decode cX6_checkPost 18 = .ok (.return_, 1) := by decide +kernel
set_option maxRecDepth 20000 in
theorem ggX6_checkPair_X6_checkPost : GoodIn wsX6_checkPair wsX6_checkPost := goodIn_ca (goodIn_r _ [6, 7, 8, 9, 10, 5, 11] (by decide +kernel) (by decide +kernel)) (goodIn_sub (fun _ h => List.mem_cons_of_mem _ (List.mem_append_right _ h)) (by decide +kernel))
set_option maxRecDepth 20000 in
theorem gX6_checkPair_X6_checkPost : GoodIn wsX6_checkPair (va_wsS RX6 58 yX6_checkPost wsX6_checkPost) := goodIn_app (goodIn_of _ (by decide +kernel)) ggX6_checkPair_X6_checkPost
set_option maxRecDepth 20000 in
theorem ggX6_checkPair_X6_columnOf : GoodIn wsX6_checkPair wsX6_columnOf := goodIn_r _ [14] (by decide +kernel) (by decide +kernel)
set_option maxRecDepth 20000 in
theorem gX6_checkPair_X6_columnOf : GoodIn wsX6_checkPair (va_wsS RX6 62 yX6_columnOf wsX6_columnOf) := goodIn_app (goodIn_of _ (by decide +kernel)) ggX6_checkPair_X6_columnOf
theorem dX6_checkPair_0 : decode cX6_checkPair 0 = .ok (.iload_n 0, 1) := by decide +kernel
theorem dX6_checkPair_1 : decode cX6_checkPair 1 = .ok (.invokestatic 58, 3) := by decide +kernel
theorem dX6_checkPair_4 : decode cX6_checkPair 4 = .ok (.iload_n 1, 1) := by decide +kernel
theorem dX6_checkPair_5 : decode cX6_checkPair 5 = .ok (.invokestatic 58, 3) := by decide +kernel
theorem dX6_checkPair_8 : decode cX6_checkPair 8 = .ok (.iload_n 0, 1) := by decide +kernel
theorem dX6_checkPair_9 : decode cX6_checkPair 9 = .ok (.iload_n 1, 1) := by decide +kernel
theorem dX6_checkPair_10 : decode cX6_checkPair 10 = .ok (.if_icmp .ne 14, 3) := by decide +kernel
theorem dX6_checkPair_13 : decode cX6_checkPair 13 = .ok (.new 66, 3) := by decide +kernel
theorem dX6_checkPair_16 : decode cX6_checkPair 16 = .ok (.dup, 1) := by decide +kernel
theorem dX6_checkPair_17 : decode cX6_checkPair 17 = .ok (.ldc_w 322, 3) := by decide +kernel
theorem dX6_checkPair_20 : decode cX6_checkPair 20 = .ok (.invokespecial 70, 3) := by decide +kernel
theorem dX6_checkPair_23 : decode cX6_checkPair 23 = .ok (.athrow, 1) := by decide +kernel
theorem dX6_checkPair_24 : decode cX6_checkPair 24 = .ok (.iload_n 0, 1) := by decide +kernel
theorem dX6_checkPair_25 : decode cX6_checkPair 25 = .ok (.invokestatic 62, 3) := by decide +kernel
theorem dX6_checkPair_28 : decode cX6_checkPair 28 = .ok (.iload_n 1, 1) := by decide +kernel
theorem dX6_checkPair_29 : decode cX6_checkPair 29 = .ok (.invokestatic 62, 3) := by decide +kernel
theorem dX6_checkPair_32 : decode cX6_checkPair 32 = .ok (.if_icmp .eq 14, 3) := by decide +kernel
theorem dX6_checkPair_35 : decode cX6_checkPair 35 = .ok (.new 66, 3) := by decide +kernel
theorem dX6_checkPair_38 : decode cX6_checkPair 38 = .ok (.dup, 1) := by decide +kernel
theorem dX6_checkPair_39 : decode cX6_checkPair 39 = .ok (.ldc_w 324, 3) := by decide +kernel
theorem dX6_checkPair_42 : decode cX6_checkPair 42 = .ok (.invokespecial 70, 3) := by decide +kernel
theorem dX6_checkPair_45 : decode cX6_checkPair 45 = .ok (.athrow, 1) := by decide +kernel
theorem dX6_checkPair_46 : decode cX6_checkPair 46 = .ok (.return_, 1) := by decide +kernel
theorem dX6_checkColumn_0 : decode cX6_checkColumn 0 = .ok (.iload_n 0, 1) := by decide +kernel
theorem dX6_checkColumn_1 : decode cX6_checkColumn 1 = .ok (.ifCond .lt 8, 3) := by decide +kernel
theorem dX6_checkColumn_4 : decode cX6_checkColumn 4 = .ok (.iload_n 0, 1) := by decide +kernel
theorem dX6_checkColumn_5 : decode cX6_checkColumn 5 = .ok (.iconst 4, 1) := by decide +kernel
theorem dX6_checkColumn_6 : decode cX6_checkColumn 6 = .ok (.if_icmp .lt 14, 3) := by decide +kernel
theorem dX6_checkColumn_9 : decode cX6_checkColumn 9 = .ok (.new 134, 3) := by decide +kernel
theorem dX6_checkColumn_12 : decode cX6_checkColumn 12 = .ok (.dup, 1) := by decide +kernel
theorem dX6_checkColumn_13 : decode cX6_checkColumn 13 = .ok (.ldc_w 326, 3) := by decide +kernel
theorem dX6_checkColumn_16 : decode cX6_checkColumn 16 = .ok (.invokespecial 138, 3) := by decide +kernel
theorem dX6_checkColumn_19 : decode cX6_checkColumn 19 = .ok (.athrow, 1) := by decide +kernel
theorem dX6_checkColumn_20 : decode cX6_checkColumn 20 = .ok (.return_, 1) := by decide +kernel
theorem dX6_checkSlot_0 : decode cX6_checkSlot 0 = .ok (.iload_n 0, 1) := by decide +kernel
theorem dX6_checkSlot_1 : decode cX6_checkSlot 1 = .ok (.ifCond .lt 8, 3) := by decide +kernel
theorem dX6_checkSlot_4 : decode cX6_checkSlot 4 = .ok (.iload_n 0, 1) := by decide +kernel
theorem dX6_checkSlot_5 : decode cX6_checkSlot 5 = .ok (.iconst 2, 1) := by decide +kernel
theorem dX6_checkSlot_6 : decode cX6_checkSlot 6 = .ok (.if_icmp .lt 14, 3) := by decide +kernel
theorem dX6_checkSlot_9 : decode cX6_checkSlot 9 = .ok (.new 66, 3) := by decide +kernel
theorem dX6_checkSlot_12 : decode cX6_checkSlot 12 = .ok (.dup, 1) := by decide +kernel
theorem dX6_checkSlot_13 : decode cX6_checkSlot 13 = .ok (.ldc_w 328, 3) := by decide +kernel
theorem dX6_checkSlot_16 : decode cX6_checkSlot 16 = .ok (.invokespecial 70, 3) := by decide +kernel
theorem dX6_checkSlot_19 : decode cX6_checkSlot 19 = .ok (.athrow, 1) := by decide +kernel
theorem dX6_checkSlot_20 : decode cX6_checkSlot 20 = .ok (.return_, 1) := by decide +kernel
set_option maxRecDepth 20000 in
theorem ggX6_checkRibbon_X1_hasRibbon : GoodIn wsX6_checkRibbon wsX1_hasRibbon := goodIn_r _ [8, 9, 18, 19, 20, 21, 22, 23] (by decide +kernel) (by decide +kernel)
set_option maxRecDepth 20000 in
theorem gX6_checkRibbon_X1_hasRibbon : GoodIn wsX6_checkRibbon (wsV RX6 330 RX1 yX1_hasRibbon wsX1_hasRibbon) := goodIn_app (goodIn_of _ (by decide +kernel)) ggX6_checkRibbon_X1_hasRibbon
theorem dX6_checkRibbon_0 : decode cX6_checkRibbon 0 = .ok (.aload_n 0, 1) := by decide +kernel
theorem dX6_checkRibbon_1 : decode cX6_checkRibbon 1 = .ok (.getfield 10, 3) := by decide +kernel
theorem dX6_checkRibbon_4 : decode cX6_checkRibbon 4 = .ok (.iload_n 1, 1) := by decide +kernel
theorem dX6_checkRibbon_5 : decode cX6_checkRibbon 5 = .ok (.invokevirtual 330, 3) := by decide +kernel
theorem dX6_checkRibbon_8 : decode cX6_checkRibbon 8 = .ok (.ifCond .ne 14, 3) := by decide +kernel
theorem dX6_checkRibbon_11 : decode cX6_checkRibbon 11 = .ok (.new 134, 3) := by decide +kernel
theorem dX6_checkRibbon_14 : decode cX6_checkRibbon 14 = .ok (.dup, 1) := by decide +kernel
theorem dX6_checkRibbon_15 : decode cX6_checkRibbon 15 = .ok (.ldc_w 333, 3) := by decide +kernel
theorem dX6_checkRibbon_18 : decode cX6_checkRibbon 18 = .ok (.invokespecial 138, 3) := by decide +kernel
theorem dX6_checkRibbon_21 : decode cX6_checkRibbon 21 = .ok (.athrow, 1) := by decide +kernel
theorem dX6_checkRibbon_22 : decode cX6_checkRibbon 22 = .ok (.return_, 1) := by decide +kernel
