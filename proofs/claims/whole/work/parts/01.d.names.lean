theorem dX7_init_0 : decode cX7_init 0 = .ok (.aload_n 0, 1) := by decide +kernel
theorem dX7_init_1 : decode cX7_init 1 = .ok (.invokespecial 1, 3) := by decide +kernel
theorem dX7_init_4 : decode cX7_init 4 = .ok (.aload_n 0, 1) := by decide +kernel
theorem dX7_init_5 : decode cX7_init 5 = .ok (.bipush 78, 2) := by decide +kernel
theorem dX7_init_7 : decode cX7_init 7 = .ok (.newarray .int, 2) := by decide +kernel
theorem dX7_init_9 : decode cX7_init 9 = .ok (.putfield 7, 3) := by decide +kernel
theorem dX7_init_12 : decode cX7_init 12 = .ok (.aload_n 0, 1) := by decide +kernel
theorem dX7_init_13 : decode cX7_init 13 = .ok (.bipush 78, 2) := by decide +kernel
theorem dX7_init_15 : decode cX7_init 15 = .ok (.newarray .int, 2) := by decide +kernel
theorem dX7_init_17 : decode cX7_init 17 = .ok (.putfield 13, 3) := by decide +kernel
theorem dX7_init_20 : decode cX7_init 20 = .ok (.aload_n 0, 1) := by decide +kernel
theorem dX7_init_21 : decode cX7_init 21 = .ok (.sipush 468, 3) := by decide +kernel
theorem dX7_init_24 : decode cX7_init 24 = .ok (.newarray .int, 2) := by decide +kernel
theorem dX7_init_26 : decode cX7_init 26 = .ok (.putfield 16, 3) := by decide +kernel
theorem dX7_init_29 : decode cX7_init 29 = .ok (.aload_n 0, 1) := by decide +kernel
theorem dX7_init_30 : decode cX7_init 30 = .ok (.sipush 156, 3) := by decide +kernel
theorem dX7_init_33 : decode cX7_init 33 = .ok (.newarray .int, 2) := by decide +kernel
theorem dX7_init_35 : decode cX7_init 35 = .ok (.putfield 19, 3) := by decide +kernel
theorem dX7_init_38 : decode cX7_init 38 = .ok (.aload_n 0, 1) := by decide +kernel
theorem dX7_init_39 : decode cX7_init 39 = .ok (.iconst 2, 1) := by decide +kernel
theorem dX7_init_40 : decode cX7_init 40 = .ok (.newarray .boolean, 2) := by decide +kernel
theorem dX7_init_42 : decode cX7_init 42 = .ok (.putfield 22, 3) := by decide +kernel
theorem dX7_init_45 : decode cX7_init 45 = .ok (.aload_n 0, 1) := by decide +kernel
theorem dX7_init_46 : decode cX7_init 46 = .ok (.bipush 60, 2) := by decide +kernel
theorem dX7_init_48 : decode cX7_init 48 = .ok (.newarray .int, 2) := by decide +kernel
theorem dX7_init_50 : decode cX7_init 50 = .ok (.putfield 26, 3) := by decide +kernel
theorem dX7_init_53 : decode cX7_init 53 = .ok (.aload_n 0, 1) := by decide +kernel
theorem dX7_init_54 : decode cX7_init 54 = .ok (.iconst 4, 1) := by decide +kernel
theorem dX7_init_55 : decode cX7_init 55 = .ok (.newarray .int, 2) := by decide +kernel
theorem dX7_init_57 : decode cX7_init 57 = .ok (.putfield 29, 3) := by decide +kernel
theorem dX7_init_60 : decode cX7_init 60 = .ok (.aload_n 0, 1) := by decide +kernel
theorem dX7_init_61 : decode cX7_init 61 = .ok (.iconst 4, 1) := by decide +kernel
theorem dX7_init_62 : decode cX7_init 62 = .ok (.newarray .int, 2) := by decide +kernel
theorem dX7_init_64 : decode cX7_init 64 = .ok (.putfield 32, 3) := by decide +kernel
theorem dX7_init_67 : decode cX7_init 67 = .ok (.aload_n 0, 1) := by decide +kernel
theorem dX7_init_68 : decode cX7_init 68 = .ok (.bipush 60, 2) := by decide +kernel
theorem dX7_init_70 : decode cX7_init 70 = .ok (.newarray .int, 2) := by decide +kernel
theorem dX7_init_72 : decode cX7_init 72 = .ok (.putfield 35, 3) := by decide +kernel
theorem dX7_init_75 : decode cX7_init 75 = .ok (.iconst 0, 1) := by decide +kernel
theorem dX7_init_76 : decode cX7_init 76 = .ok (.istore_n 1, 1) := by decide +kernel
theorem dX7_init_77 : decode cX7_init 77 = .ok (.iload_n 1, 1) := by decide +kernel
theorem dX7_init_78 : decode cX7_init 78 = .ok (.bipush 16, 2) := by decide +kernel
theorem dX7_init_80 : decode cX7_init 80 = .ok (.if_icmp .ge 20, 3) := by decide +kernel
theorem dX7_init_83 : decode cX7_init 83 = .ok (.aload_n 0, 1) := by decide +kernel
theorem dX7_init_84 : decode cX7_init 84 = .ok (.getfield 7, 3) := by decide +kernel
theorem dX7_init_87 : decode cX7_init 87 = .ok (.iconst 2, 1) := by decide +kernel
theorem dX7_init_88 : decode cX7_init 88 = .ok (.iload_n 1, 1) := by decide +kernel
theorem dX7_init_89 : decode cX7_init 89 = .ok (.iadd, 1) := by decide +kernel
theorem dX7_init_90 : decode cX7_init 90 = .ok (.iload_n 1, 1) := by decide +kernel
theorem dX7_init_91 : decode cX7_init 91 = .ok (.iconst 4, 1) := by decide +kernel
theorem dX7_init_92 : decode cX7_init 92 = .ok (.irem, 1) := by decide +kernel
theorem dX7_init_93 : decode cX7_init 93 = .ok (.iastore, 1) := by decide +kernel
theorem dX7_init_94 : decode cX7_init 94 = .ok (.iinc 1 1, 3) := by decide +kernel
theorem dX7_init_97 : decode cX7_init 97 = .ok (.goto (-20), 3) := by decide +kernel
theorem dX7_init_100 : decode cX7_init 100 = .ok (.return_, 1) := by decide +kernel
theorem dX7_thrown_0 : decode cX7_thrown 0 = .ok (.aload_n 0, 1) := by decide +kernel
theorem dX7_thrown_1 : decode cX7_thrown 1 = .ok (.getfield 38, 3) := by decide +kernel
theorem dX7_thrown_4 : decode cX7_thrown 4 = .ok (.ireturn, 1) := by decide +kernel
theorem dX7_in_0 : decode cX7_in 0 = .ok (.iload_n 0, 1) := by decide +kernel
theorem dX7_in_1 : decode cX7_in 1 = .ok (.iload_n 1, 1) := by decide +kernel
theorem dX7_in_2 : decode cX7_in 2 = .ok (.if_icmp .lt 12, 3) := by decide +kernel
theorem dX7_in_5 : decode cX7_in 5 = .ok (.iload_n 0, 1) := by decide +kernel
theorem dX7_in_6 : decode cX7_in 6 = .ok (.iload_n 2, 1) := by decide +kernel
theorem dX7_in_7 : decode cX7_in 7 = .ok (.if_icmp .gt 7, 3) := by decide +kernel
theorem dX7_in_10 : decode cX7_in 10 = .ok (.iconst 1, 1) := by decide +kernel
theorem dX7_in_11 : decode cX7_in 11 = .ok (.goto 4, 3) := by decide +kernel
theorem dX7_in_14 : decode cX7_in 14 = .ok (.iconst 0, 1) := by decide +kernel
theorem dX7_in_15 : decode cX7_in 15 = .ok (.ireturn, 1) := by decide +kernel
set_option maxRecDepth 20000 in
theorem ggX7_isPost_X7_in : GoodIn wsX7_isPost wsX7_in := goodIn_r _ [4] (by decide +kernel) (by decide +kernel)
set_option maxRecDepth 20000 in
theorem gX7_isPost_X7_in : GoodIn wsX7_isPost (va_wsS RX7 42 yX7_in wsX7_in) := goodIn_app (goodIn_of _ (by decide +kernel)) ggX7_isPost_X7_in
theorem dX7_isPost_0 : decode cX7_isPost 0 = .ok (.iload_n 0, 1) := by decide +kernel
theorem dX7_isPost_1 : decode cX7_isPost 1 = .ok (.iconst 0, 1) := by decide +kernel
theorem dX7_isPost_2 : decode cX7_isPost 2 = .ok (.bipush 15, 2) := by decide +kernel
theorem dX7_isPost_4 : decode cX7_isPost 4 = .ok (.invokestatic 42, 3) := by decide +kernel
theorem dX7_isPost_7 : decode cX7_isPost 7 = .ok (.ireturn, 1) := by decide +kernel
set_option maxRecDepth 20000 in
theorem ggX7_isColumn_X7_in : GoodIn wsX7_isColumn wsX7_in := goodIn_r _ [4] (by decide +kernel) (by decide +kernel)
set_option maxRecDepth 20000 in
theorem gX7_isColumn_X7_in : GoodIn wsX7_isColumn (va_wsS RX7 42 yX7_in wsX7_in) := goodIn_app (goodIn_of _ (by decide +kernel)) ggX7_isColumn_X7_in
theorem dX7_isColumn_0 : decode cX7_isColumn 0 = .ok (.iload_n 0, 1) := by decide +kernel
theorem dX7_isColumn_1 : decode cX7_isColumn 1 = .ok (.iconst 0, 1) := by decide +kernel
theorem dX7_isColumn_2 : decode cX7_isColumn 2 = .ok (.iconst 3, 1) := by decide +kernel
theorem dX7_isColumn_3 : decode cX7_isColumn 3 = .ok (.invokestatic 42, 3) := by decide +kernel
theorem dX7_isColumn_6 : decode cX7_isColumn 6 = .ok (.ireturn, 1) := by decide +kernel
set_option maxRecDepth 20000 in
theorem ggX7_isRibbon_X7_in : GoodIn wsX7_isRibbon wsX7_in := goodIn_r _ [5] (by decide +kernel) (by decide +kernel)
set_option maxRecDepth 20000 in
theorem gX7_isRibbon_X7_in : GoodIn wsX7_isRibbon (va_wsS RX7 42 yX7_in wsX7_in) := goodIn_app (goodIn_of _ (by decide +kernel)) ggX7_isRibbon_X7_in
theorem dX7_isRibbon_0 : decode cX7_isRibbon 0 = .ok (.iload_n 1, 1) := by decide +kernel
theorem dX7_isRibbon_1 : decode cX7_isRibbon 1 = .ok (.iconst 0, 1) := by decide +kernel
theorem dX7_isRibbon_2 : decode cX7_isRibbon 2 = .ok (.aload_n 0, 1) := by decide +kernel
theorem dX7_isRibbon_3 : decode cX7_isRibbon 3 = .ok (.getfield 7, 3) := by decide +kernel
theorem dX7_isRibbon_6 : decode cX7_isRibbon 6 = .ok (.iconst 0, 1) := by decide +kernel
theorem dX7_isRibbon_7 : decode cX7_isRibbon 7 = .ok (.iaload, 1) := by decide +kernel
theorem dX7_isRibbon_8 : decode cX7_isRibbon 8 = .ok (.iconst 1, 1) := by decide +kernel
theorem dX7_isRibbon_9 : decode cX7_isRibbon 9 = .ok (.isub, 1) := by decide +kernel
theorem dX7_isRibbon_10 : decode cX7_isRibbon 10 = .ok (.invokestatic 42, 3) := by decide +kernel
theorem dX7_isRibbon_13 : decode cX7_isRibbon 13 = .ok (.ireturn, 1) := by decide +kernel
theorem dX7_of_0 : decode cX7_of 0 = .ok (.aload_n 0, 1) := by decide +kernel
theorem dX7_of_1 : decode cX7_of 1 = .ok (.getfield 7, 3) := by decide +kernel
theorem dX7_of_4 : decode cX7_of 4 = .ok (.bipush 18, 2) := by decide +kernel
theorem dX7_of_6 : decode cX7_of 6 = .ok (.iconst 3, 1) := by decide +kernel
theorem dX7_of_7 : decode cX7_of 7 = .ok (.iload_n 1, 1) := by decide +kernel
theorem dX7_of_8 : decode cX7_of 8 = .ok (.imul, 1) := by decide +kernel
theorem dX7_of_9 : decode cX7_of 9 = .ok (.iadd, 1) := by decide +kernel
theorem dX7_of_10 : decode cX7_of 10 = .ok (.iload_n 2, 1) := by decide +kernel
theorem dX7_of_11 : decode cX7_of 11 = .ok (.iadd, 1) := by decide +kernel
theorem dX7_of_12 : decode cX7_of 12 = .ok (.iaload, 1) := by decide +kernel
theorem dX7_of_13 : decode cX7_of 13 = .ok (.ireturn, 1) := by decide +kernel
theorem dX7_place_0 : decode cX7_place 0 = .ok (.aload_n 0, 1) := by decide +kernel
theorem dX7_place_1 : decode cX7_place 1 = .ok (.getfield 7, 3) := by decide +kernel
theorem dX7_place_4 : decode cX7_place 4 = .ok (.iconst 2, 1) := by decide +kernel
theorem dX7_place_5 : decode cX7_place 5 = .ok (.iload_n 1, 1) := by decide +kernel
theorem dX7_place_6 : decode cX7_place 6 = .ok (.iadd, 1) := by decide +kernel
theorem dX7_place_7 : decode cX7_place 7 = .ok (.iaload, 1) := by decide +kernel
theorem dX7_place_8 : decode cX7_place 8 = .ok (.ireturn, 1) := by decide +kernel
set_option maxRecDepth 20000 in
theorem ggX7_goesOn_X7_of : GoodIn wsX7_goesOn wsX7_of := goodIn_r _ [5, 6, 7, 8, 9, 10, 11, 12, 13, 14, 15, 16, 17, 18, 19] (by decide +kernel) (by decide +kernel)
set_option maxRecDepth 20000 in
theorem gX7_goesOn_X7_of : GoodIn wsX7_goesOn (wsV RX7 46 RX7 yX7_of wsX7_of) := goodIn_app (goodIn_of _ (by decide +kernel)) ggX7_goesOn_X7_of
theorem dX7_goesOn_0 : decode cX7_goesOn 0 = .ok (.aload_n 0, 1) := by decide +kernel
theorem dX7_goesOn_1 : decode cX7_goesOn 1 = .ok (.iload_n 1, 1) := by decide +kernel
theorem dX7_goesOn_2 : decode cX7_goesOn 2 = .ok (.iconst 1, 1) := by decide +kernel
theorem dX7_goesOn_3 : decode cX7_goesOn 3 = .ok (.invokevirtual 46, 3) := by decide +kernel
theorem dX7_goesOn_6 : decode cX7_goesOn 6 = .ok (.iconst 4, 1) := by decide +kernel
theorem dX7_goesOn_7 : decode cX7_goesOn 7 = .ok (.idiv, 1) := by decide +kernel
theorem dX7_goesOn_8 : decode cX7_goesOn 8 = .ok (.aload_n 0, 1) := by decide +kernel
theorem dX7_goesOn_9 : decode cX7_goesOn 9 = .ok (.iload_n 1, 1) := by decide +kernel
theorem dX7_goesOn_10 : decode cX7_goesOn 10 = .ok (.iconst 0, 1) := by decide +kernel
theorem dX7_goesOn_11 : decode cX7_goesOn 11 = .ok (.invokevirtual 46, 3) := by decide +kernel
theorem dX7_goesOn_14 : decode cX7_goesOn 14 = .ok (.iconst 4, 1) := by decide +kernel
theorem dX7_goesOn_15 : decode cX7_goesOn 15 = .ok (.idiv, 1) := by decide +kernel
theorem dX7_goesOn_16 : decode cX7_goesOn 16 = .ok (.if_icmp .le 7, 3) := by decide +kernel
theorem dX7_goesOn_19 : decode cX7_goesOn 19 = .ok (.iconst 1, 1) := by decide +kernel
theorem dX7_goesOn_20 : decode cX7_goesOn 20 = .ok (.goto 4, 3) := by decide +kernel
theorem dX7_goesOn_23 : decode cX7_goesOn 23 = .ok (.iconst 0, 1) := by decide +kernel
theorem dX7_goesOn_24 : decode cX7_goesOn 24 = .ok (.ireturn, 1) := by decide +kernel
theorem dX7_record_0 : decode cX7_record 0 = .ok (.aload_n 0, 1) := by decide +kernel
theorem dX7_record_1 : decode cX7_record 1 = .ok (.getfield 50, 3) := by decide +kernel
theorem dX7_record_4 : decode cX7_record 4 = .ok (.bipush 6, 2) := by decide +kernel
theorem dX7_record_6 : decode cX7_record 6 = .ok (.if_icmp .ne 43, 3) := by decide +kernel
theorem dX7_record_9 : decode cX7_record 9 = .ok (.iconst 0, 1) := by decide +kernel
theorem dX7_record_10 : decode cX7_record 10 = .ok (.istore_n 1, 1) := by decide +kernel
theorem dX7_record_11 : decode cX7_record 11 = .ok (.iload_n 1, 1) := by decide +kernel
theorem dX7_record_12 : decode cX7_record 12 = .ok (.sipush 390, 3) := by decide +kernel
theorem dX7_record_15 : decode cX7_record 15 = .ok (.if_icmp .ge 24, 3) := by decide +kernel
theorem dX7_record_18 : decode cX7_record 18 = .ok (.aload_n 0, 1) := by decide +kernel
theorem dX7_record_19 : decode cX7_record 19 = .ok (.getfield 16, 3) := by decide +kernel
theorem dX7_record_22 : decode cX7_record 22 = .ok (.iload_n 1, 1) := by decide +kernel
theorem dX7_record_23 : decode cX7_record 23 = .ok (.aload_n 0, 1) := by decide +kernel
theorem dX7_record_24 : decode cX7_record 24 = .ok (.getfield 16, 3) := by decide +kernel
theorem dX7_record_27 : decode cX7_record 27 = .ok (.bipush 78, 2) := by decide +kernel
theorem dX7_record_29 : decode cX7_record 29 = .ok (.iload_n 1, 1) := by decide +kernel
theorem dX7_record_30 : decode cX7_record 30 = .ok (.iadd, 1) := by decide +kernel
theorem dX7_record_31 : decode cX7_record 31 = .ok (.iaload, 1) := by decide +kernel
theorem dX7_record_32 : decode cX7_record 32 = .ok (.iastore, 1) := by decide +kernel
theorem dX7_record_33 : decode cX7_record 33 = .ok (.iinc 1 1, 3) := by decide +kernel
theorem dX7_record_36 : decode cX7_record 36 = .ok (.goto (-25), 3) := by decide +kernel
theorem dX7_record_39 : decode cX7_record 39 = .ok (.aload_n 0, 1) := by decide +kernel
theorem dX7_record_40 : decode cX7_record 40 = .ok (.dup, 1) := by decide +kernel
theorem dX7_record_41 : decode cX7_record 41 = .ok (.getfield 50, 3) := by decide +kernel
theorem dX7_record_44 : decode cX7_record 44 = .ok (.iconst 1, 1) := by decide +kernel
theorem dX7_record_45 : decode cX7_record 45 = .ok (.isub, 1) := by decide +kernel
theorem dX7_record_46 : decode cX7_record 46 = .ok (.putfield 50, 3) := by decide +kernel
theorem dX7_record_49 : decode cX7_record 49 = .ok (.iconst 0, 1) := by decide +kernel
theorem dX7_record_50 : decode cX7_record 50 = .ok (.istore_n 1, 1) := by decide +kernel
theorem dX7_record_51 : decode cX7_record 51 = .ok (.iload_n 1, 1) := by decide +kernel
theorem dX7_record_52 : decode cX7_record 52 = .ok (.bipush 78, 2) := by decide +kernel
theorem dX7_record_54 : decode cX7_record 54 = .ok (.if_icmp .ge 29, 3) := by decide +kernel
theorem dX7_record_57 : decode cX7_record 57 = .ok (.aload_n 0, 1) := by decide +kernel
theorem dX7_record_58 : decode cX7_record 58 = .ok (.getfield 16, 3) := by decide +kernel
theorem dX7_record_61 : decode cX7_record 61 = .ok (.bipush 78, 2) := by decide +kernel
theorem dX7_record_63 : decode cX7_record 63 = .ok (.aload_n 0, 1) := by decide +kernel
theorem dX7_record_64 : decode cX7_record 64 = .ok (.getfield 50, 3) := by decide +kernel
theorem dX7_record_67 : decode cX7_record 67 = .ok (.imul, 1) := by decide +kernel
theorem dX7_record_68 : decode cX7_record 68 = .ok (.iload_n 1, 1) := by decide +kernel
theorem dX7_record_69 : decode cX7_record 69 = .ok (.iadd, 1) := by decide +kernel
theorem dX7_record_70 : decode cX7_record 70 = .ok (.aload_n 0, 1) := by decide +kernel
theorem dX7_record_71 : decode cX7_record 71 = .ok (.getfield 7, 3) := by decide +kernel
theorem dX7_record_74 : decode cX7_record 74 = .ok (.iload_n 1, 1) := by decide +kernel
theorem dX7_record_75 : decode cX7_record 75 = .ok (.iaload, 1) := by decide +kernel
theorem dX7_record_76 : decode cX7_record 76 = .ok (.iastore, 1) := by decide +kernel
theorem dX7_record_77 : decode cX7_record 77 = .ok (.iinc 1 1, 3) := by decide +kernel
theorem dX7_record_80 : decode cX7_record 80 = .ok (.goto (-29), 3) := by decide +kernel
theorem dX7_record_83 : decode cX7_record 83 = .ok (.aload_n 0, 1) := by decide +kernel
theorem dX7_record_84 : decode cX7_record 84 = .ok (.dup, 1) := by decide +kernel
theorem dX7_record_85 : decode cX7_record 85 = .ok (.getfield 50, 3) := by decide +kernel
theorem dX7_record_88 : decode cX7_record 88 = .ok (.iconst 1, 1) := by decide +kernel
theorem dX7_record_89 : decode cX7_record 89 = .ok (.iadd, 1) := by decide +kernel
theorem dX7_record_90 : decode cX7_record 90 = .ok (.putfield 50, 3) := by decide +kernel
theorem dX7_record_93 : decode cX7_record 93 = .ok (.return_, 1) := by decide +kernel
theorem dX7_undo_0 : decode cX7_undo 0 = .ok (.aload_n 0, 1) := by decide +kernel
theorem dX7_undo_1 : decode cX7_undo 1 = .ok (.aload_n 0, 1) := by decide +kernel
theorem dX7_undo_2 : decode cX7_undo 2 = .ok (.getfield 50, 3) := by decide +kernel
theorem dX7_undo_5 : decode cX7_undo 5 = .ok (.ifCond .ne 7, 3) := by decide +kernel
theorem dX7_undo_8 : decode cX7_undo 8 = .ok (.iconst 1, 1) := by decide +kernel
theorem dX7_undo_9 : decode cX7_undo 9 = .ok (.goto 4, 3) := by decide +kernel
theorem dX7_undo_12 : decode cX7_undo 12 = .ok (.iconst 0, 1) := by decide +kernel
theorem dX7_undo_13 : decode cX7_undo 13 = .ok (.putfield 38, 3) := by decide +kernel
theorem dX7_undo_16 : decode cX7_undo 16 = .ok (.aload_n 0, 1) := by decide +kernel
theorem dX7_undo_17 : decode cX7_undo 17 = .ok (.getfield 38, 3) := by decide +kernel
theorem dX7_undo_20 : decode cX7_undo 20 = .ok (.ifCond .le 5, 3) := by decide +kernel
theorem dX7_undo_23 : decode cX7_undo 23 = .ok (.iconst 0, 1) := by decide +kernel
theorem dX7_undo_24 : decode cX7_undo 24 = .ok (.ireturn, 1) := by decide +kernel
theorem dX7_undo_25 : decode cX7_undo 25 = .ok (.aload_n 0, 1) := by decide +kernel
theorem dX7_undo_26 : decode cX7_undo 26 = .ok (.dup, 1) := by decide +kernel
theorem dX7_undo_27 : decode cX7_undo 27 = .ok (.getfield 50, 3) := by decide +kernel
theorem dX7_undo_30 : decode cX7_undo 30 = .ok (.iconst 1, 1) := by decide +kernel
theorem dX7_undo_31 : decode cX7_undo 31 = .ok (.isub, 1) := by decide +kernel
theorem dX7_undo_32 : decode cX7_undo 32 = .ok (.putfield 50, 3) := by decide +kernel
theorem dX7_undo_35 : decode cX7_undo 35 = .ok (.iconst 0, 1) := by decide +kernel
theorem dX7_undo_36 : decode cX7_undo 36 = .ok (.istore_n 1, 1) := by decide +kernel
theorem dX7_undo_37 : decode cX7_undo 37 = .ok (.iload_n 1, 1) := by decide +kernel
theorem dX7_undo_38 : decode cX7_undo 38 = .ok (.bipush 78, 2) := by decide +kernel
theorem dX7_undo_40 : decode cX7_undo 40 = .ok (.if_icmp .ge 29, 3) := by decide +kernel
theorem dX7_undo_43 : decode cX7_undo 43 = .ok (.aload_n 0, 1) := by decide +kernel
theorem dX7_undo_44 : decode cX7_undo 44 = .ok (.getfield 7, 3) := by decide +kernel
theorem dX7_undo_47 : decode cX7_undo 47 = .ok (.iload_n 1, 1) := by decide +kernel
theorem dX7_undo_48 : decode cX7_undo 48 = .ok (.aload_n 0, 1) := by decide +kernel
theorem dX7_undo_49 : decode cX7_undo 49 = .ok (.getfield 16, 3) := by decide +kernel
theorem dX7_undo_52 : decode cX7_undo 52 = .ok (.bipush 78, 2) := by decide +kernel
theorem dX7_undo_54 : decode cX7_undo 54 = .ok (.aload_n 0, 1) := by decide +kernel
theorem dX7_undo_55 : decode cX7_undo 55 = .ok (.getfield 50, 3) := by decide +kernel
theorem dX7_undo_58 : decode cX7_undo 58 = .ok (.imul, 1) := by decide +kernel
theorem dX7_undo_59 : decode cX7_undo 59 = .ok (.iload_n 1, 1) := by decide +kernel
theorem dX7_undo_60 : decode cX7_undo 60 = .ok (.iadd, 1) := by decide +kernel
theorem dX7_undo_61 : decode cX7_undo 61 = .ok (.iaload, 1) := by decide +kernel
theorem dX7_undo_62 : decode cX7_undo 62 = .ok (.iastore, 1) := by decide +kernel
theorem dX7_undo_63 : decode cX7_undo 63 = .ok (.iinc 1 1, 3) := by decide +kernel
theorem dX7_undo_66 : decode cX7_undo 66 = .ok (.goto (-29), 3) := by decide +kernel
theorem dX7_undo_69 : decode cX7_undo 69 = .ok (.aload_n 0, 1) := by decide +kernel
theorem dX7_undo_70 : decode cX7_undo 70 = .ok (.getfield 50, 3) := by decide +kernel
theorem dX7_undo_73 : decode cX7_undo 73 = .ok (.ireturn, 1) := by decide +kernel
set_option maxRecDepth 20000 in
theorem ggX7_keep_X7_in : GoodIn wsX7_keep wsX7_in := goodIn_r _ [8] (by decide +kernel) (by decide +kernel)
set_option maxRecDepth 20000 in
theorem gX7_keep_X7_in : GoodIn wsX7_keep (va_wsS RX7 42 yX7_in wsX7_in) := goodIn_app (goodIn_of _ (by decide +kernel)) ggX7_keep_X7_in
theorem dX7_keep_0 : decode cX7_keep 0 = .ok (.aload_n 0, 1) := by decide +kernel
theorem dX7_keep_1 : decode cX7_keep 1 = .ok (.iload_n 1, 1) := by decide +kernel
theorem dX7_keep_2 : decode cX7_keep 2 = .ok (.iconst 0, 1) := by decide +kernel
theorem dX7_keep_3 : decode cX7_keep 3 = .ok (.iconst 1, 1) := by decide +kernel
theorem dX7_keep_4 : decode cX7_keep 4 = .ok (.invokestatic 42, 3) := by decide +kernel
theorem dX7_keep_7 : decode cX7_keep 7 = .ok (.ifCond .eq 7, 3) := by decide +kernel
theorem dX7_keep_10 : decode cX7_keep 10 = .ok (.iconst 0, 1) := by decide +kernel
theorem dX7_keep_11 : decode cX7_keep 11 = .ok (.goto 4, 3) := by decide +kernel
theorem dX7_keep_14 : decode cX7_keep 14 = .ok (.iconst 1, 1) := by decide +kernel
theorem dX7_keep_15 : decode cX7_keep 15 = .ok (.putfield 38, 3) := by decide +kernel
theorem dX7_keep_18 : decode cX7_keep 18 = .ok (.aload_n 0, 1) := by decide +kernel
theorem dX7_keep_19 : decode cX7_keep 19 = .ok (.getfield 38, 3) := by decide +kernel
theorem dX7_keep_22 : decode cX7_keep 22 = .ok (.ifCond .le 5, 3) := by decide +kernel
theorem dX7_keep_25 : decode cX7_keep 25 = .ok (.iconst 0, 1) := by decide +kernel
theorem dX7_keep_26 : decode cX7_keep 26 = .ok (.ireturn, 1) := by decide +kernel
theorem dX7_keep_27 : decode cX7_keep 27 = .ok (.iconst 0, 1) := by decide +kernel
theorem dX7_keep_28 : decode cX7_keep 28 = .ok (.istore_n 2, 1) := by decide +kernel
theorem dX7_keep_29 : decode cX7_keep 29 = .ok (.iload_n 2, 1) := by decide +kernel
theorem dX7_keep_30 : decode cX7_keep 30 = .ok (.bipush 78, 2) := by decide +kernel
theorem dX7_keep_32 : decode cX7_keep 32 = .ok (.if_icmp .ge 26, 3) := by decide +kernel
theorem dX7_keep_35 : decode cX7_keep 35 = .ok (.aload_n 0, 1) := by decide +kernel
theorem dX7_keep_36 : decode cX7_keep 36 = .ok (.getfield 19, 3) := by decide +kernel
theorem dX7_keep_39 : decode cX7_keep 39 = .ok (.bipush 78, 2) := by decide +kernel
theorem dX7_keep_41 : decode cX7_keep 41 = .ok (.iload_n 1, 1) := by decide +kernel
theorem dX7_keep_42 : decode cX7_keep 42 = .ok (.imul, 1) := by decide +kernel
theorem dX7_keep_43 : decode cX7_keep 43 = .ok (.iload_n 2, 1) := by decide +kernel
theorem dX7_keep_44 : decode cX7_keep 44 = .ok (.iadd, 1) := by decide +kernel
theorem dX7_keep_45 : decode cX7_keep 45 = .ok (.aload_n 0, 1) := by decide +kernel
theorem dX7_keep_46 : decode cX7_keep 46 = .ok (.getfield 7, 3) := by decide +kernel
theorem dX7_keep_49 : decode cX7_keep 49 = .ok (.iload_n 2, 1) := by decide +kernel
theorem dX7_keep_50 : decode cX7_keep 50 = .ok (.iaload, 1) := by decide +kernel
theorem dX7_keep_51 : decode cX7_keep 51 = .ok (.iastore, 1) := by decide +kernel
theorem dX7_keep_52 : decode cX7_keep 52 = .ok (.iinc 2 1, 3) := by decide +kernel
theorem dX7_keep_55 : decode cX7_keep 55 = .ok (.goto (-26), 3) := by decide +kernel
theorem dX7_keep_58 : decode cX7_keep 58 = .ok (.aload_n 0, 1) := by decide +kernel
theorem dX7_keep_59 : decode cX7_keep 59 = .ok (.getfield 22, 3) := by decide +kernel
theorem dX7_keep_62 : decode cX7_keep 62 = .ok (.iload_n 1, 1) := by decide +kernel
theorem dX7_keep_63 : decode cX7_keep 63 = .ok (.iconst 1, 1) := by decide +kernel
theorem dX7_keep_64 : decode cX7_keep 64 = .ok (.bastore, 1) := by decide +kernel
theorem dX7_keep_65 : decode cX7_keep 65 = .ok (.aload_n 0, 1) := by decide +kernel
theorem dX7_keep_66 : decode cX7_keep 66 = .ok (.getfield 7, 3) := by decide +kernel
theorem dX7_keep_69 : decode cX7_keep 69 = .ok (.iconst 0, 1) := by decide +kernel
theorem dX7_keep_70 : decode cX7_keep 70 = .ok (.iaload, 1) := by decide +kernel
theorem dX7_keep_71 : decode cX7_keep 71 = .ok (.ireturn, 1) := by decide +kernel
set_option maxRecDepth 20000 in
theorem ggX7_goBack_X7_in : GoodIn wsX7_goBack wsX7_in := goodIn_r _ [8] (by decide +kernel) (by decide +kernel)
set_option maxRecDepth 20000 in
theorem gX7_goBack_X7_in : GoodIn wsX7_goBack (va_wsS RX7 42 yX7_in wsX7_in) := goodIn_app (goodIn_of _ (by decide +kernel)) ggX7_goBack_X7_in
set_option maxRecDepth 20000 in
theorem ggX7_goBack_X7_record : GoodIn wsX7_goBack wsX7_record := goodIn_r _ [12, 13, 14, 3, 15, 16, 17, 18, 19, 20, 21, 22, 23, 24, 25, 26, 27] (by decide +kernel) (by decide +kernel)
set_option maxRecDepth 20000 in
theorem gX7_goBack_X7_record : GoodIn wsX7_goBack (wsV RX7 53 RX7 yX7_record wsX7_record) := goodIn_app (goodIn_of _ (by decide +kernel)) ggX7_goBack_X7_record
theorem dX7_goBack_0 : decode cX7_goBack 0 = .ok (.aload_n 0, 1) := by decide +kernel
theorem dX7_goBack_1 : decode cX7_goBack 1 = .ok (.iload_n 1, 1) := by decide +kernel
theorem dX7_goBack_2 : decode cX7_goBack 2 = .ok (.iconst 0, 1) := by decide +kernel
theorem dX7_goBack_3 : decode cX7_goBack 3 = .ok (.iconst 1, 1) := by decide +kernel
theorem dX7_goBack_4 : decode cX7_goBack 4 = .ok (.invokestatic 42, 3) := by decide +kernel
theorem dX7_goBack_7 : decode cX7_goBack 7 = .ok (.ifCond .ne 7, 3) := by decide +kernel
theorem dX7_goBack_10 : decode cX7_goBack 10 = .ok (.iconst 1, 1) := by decide +kernel
theorem dX7_goBack_11 : decode cX7_goBack 11 = .ok (.goto 17, 3) := by decide +kernel
theorem dX7_goBack_14 : decode cX7_goBack 14 = .ok (.aload_n 0, 1) := by decide +kernel
theorem dX7_goBack_15 : decode cX7_goBack 15 = .ok (.getfield 22, 3) := by decide +kernel
theorem dX7_goBack_18 : decode cX7_goBack 18 = .ok (.iload_n 1, 1) := by decide +kernel
theorem dX7_goBack_19 : decode cX7_goBack 19 = .ok (.baload, 1) := by decide +kernel
theorem dX7_goBack_20 : decode cX7_goBack 20 = .ok (.ifCond .eq 7, 3) := by decide +kernel
theorem dX7_goBack_23 : decode cX7_goBack 23 = .ok (.iconst 0, 1) := by decide +kernel
theorem dX7_goBack_24 : decode cX7_goBack 24 = .ok (.goto 4, 3) := by decide +kernel
theorem dX7_goBack_27 : decode cX7_goBack 27 = .ok (.iconst 2, 1) := by decide +kernel
theorem dX7_goBack_28 : decode cX7_goBack 28 = .ok (.putfield 38, 3) := by decide +kernel
theorem dX7_goBack_31 : decode cX7_goBack 31 = .ok (.aload_n 0, 1) := by decide +kernel
theorem dX7_goBack_32 : decode cX7_goBack 32 = .ok (.getfield 38, 3) := by decide +kernel
theorem dX7_goBack_35 : decode cX7_goBack 35 = .ok (.ifCond .le 5, 3) := by decide +kernel
theorem dX7_goBack_38 : decode cX7_goBack 38 = .ok (.iconst 0, 1) := by decide +kernel
theorem dX7_goBack_39 : decode cX7_goBack 39 = .ok (.ireturn, 1) := by decide +kernel
theorem dX7_goBack_40 : decode cX7_goBack 40 = .ok (.aload_n 0, 1) := by decide +kernel
theorem dX7_goBack_41 : decode cX7_goBack 41 = .ok (.invokevirtual 53, 3) := by decide +kernel
theorem dX7_goBack_44 : decode cX7_goBack 44 = .ok (.iconst 0, 1) := by decide +kernel
theorem dX7_goBack_45 : decode cX7_goBack 45 = .ok (.istore_n 2, 1) := by decide +kernel
theorem dX7_goBack_46 : decode cX7_goBack 46 = .ok (.iload_n 2, 1) := by decide +kernel
theorem dX7_goBack_47 : decode cX7_goBack 47 = .ok (.bipush 78, 2) := by decide +kernel
theorem dX7_goBack_49 : decode cX7_goBack 49 = .ok (.if_icmp .ge 26, 3) := by decide +kernel
theorem dX7_goBack_52 : decode cX7_goBack 52 = .ok (.aload_n 0, 1) := by decide +kernel
theorem dX7_goBack_53 : decode cX7_goBack 53 = .ok (.getfield 7, 3) := by decide +kernel
theorem dX7_goBack_56 : decode cX7_goBack 56 = .ok (.iload_n 2, 1) := by decide +kernel
theorem dX7_goBack_57 : decode cX7_goBack 57 = .ok (.aload_n 0, 1) := by decide +kernel
theorem dX7_goBack_58 : decode cX7_goBack 58 = .ok (.getfield 19, 3) := by decide +kernel
theorem dX7_goBack_61 : decode cX7_goBack 61 = .ok (.bipush 78, 2) := by decide +kernel
theorem dX7_goBack_63 : decode cX7_goBack 63 = .ok (.iload_n 1, 1) := by decide +kernel
theorem dX7_goBack_64 : decode cX7_goBack 64 = .ok (.imul, 1) := by decide +kernel
theorem dX7_goBack_65 : decode cX7_goBack 65 = .ok (.iload_n 2, 1) := by decide +kernel
theorem dX7_goBack_66 : decode cX7_goBack 66 = .ok (.iadd, 1) := by decide +kernel
theorem dX7_goBack_67 : decode cX7_goBack 67 = .ok (.iaload, 1) := by decide +kernel
theorem dX7_goBack_68 : decode cX7_goBack 68 = .ok (.iastore, 1) := by decide +kernel
theorem dX7_goBack_69 : decode cX7_goBack 69 = .ok (.iinc 2 1, 3) := by decide +kernel
theorem dX7_goBack_72 : decode cX7_goBack 72 = .ok (.goto (-26), 3) := by decide +kernel
theorem dX7_goBack_75 : decode cX7_goBack 75 = .ok (.aload_n 0, 1) := by decide +kernel
theorem dX7_goBack_76 : decode cX7_goBack 76 = .ok (.getfield 7, 3) := by decide +kernel
theorem dX7_goBack_79 : decode cX7_goBack 79 = .ok (.iconst 0, 1) := by decide +kernel
theorem dX7_goBack_80 : decode cX7_goBack 80 = .ok (.iaload, 1) := by decide +kernel
theorem dX7_goBack_81 : decode cX7_goBack 81 = .ok (.ireturn, 1) := by decide +kernel
theorem dX7_putAside_0 : decode cX7_putAside 0 = .ok (.iconst 0, 1) := by decide +kernel
theorem dX7_putAside_1 : decode cX7_putAside 1 = .ok (.istore_n 1, 1) := by decide +kernel
theorem dX7_putAside_2 : decode cX7_putAside 2 = .ok (.iload_n 1, 1) := by decide +kernel
theorem dX7_putAside_3 : decode cX7_putAside 3 = .ok (.bipush 78, 2) := by decide +kernel
theorem dX7_putAside_5 : decode cX7_putAside 5 = .ok (.if_icmp .ge 21, 3) := by decide +kernel
theorem dX7_putAside_8 : decode cX7_putAside 8 = .ok (.aload_n 0, 1) := by decide +kernel
theorem dX7_putAside_9 : decode cX7_putAside 9 = .ok (.getfield 13, 3) := by decide +kernel
theorem dX7_putAside_12 : decode cX7_putAside 12 = .ok (.iload_n 1, 1) := by decide +kernel
theorem dX7_putAside_13 : decode cX7_putAside 13 = .ok (.aload_n 0, 1) := by decide +kernel
theorem dX7_putAside_14 : decode cX7_putAside 14 = .ok (.getfield 7, 3) := by decide +kernel
theorem dX7_putAside_17 : decode cX7_putAside 17 = .ok (.iload_n 1, 1) := by decide +kernel
theorem dX7_putAside_18 : decode cX7_putAside 18 = .ok (.iaload, 1) := by decide +kernel
theorem dX7_putAside_19 : decode cX7_putAside 19 = .ok (.iastore, 1) := by decide +kernel
theorem dX7_putAside_20 : decode cX7_putAside 20 = .ok (.iinc 1 1, 3) := by decide +kernel
theorem dX7_putAside_23 : decode cX7_putAside 23 = .ok (.goto (-21), 3) := by decide +kernel
theorem dX7_putAside_26 : decode cX7_putAside 26 = .ok (.return_, 1) := by decide +kernel
theorem dX7_putBack_0 : decode cX7_putBack 0 = .ok (.iconst 0, 1) := by decide +kernel
theorem dX7_putBack_1 : decode cX7_putBack 1 = .ok (.istore_n 1, 1) := by decide +kernel
theorem dX7_putBack_2 : decode cX7_putBack 2 = .ok (.iload_n 1, 1) := by decide +kernel
theorem dX7_putBack_3 : decode cX7_putBack 3 = .ok (.bipush 78, 2) := by decide +kernel
theorem dX7_putBack_5 : decode cX7_putBack 5 = .ok (.if_icmp .ge 21, 3) := by decide +kernel
theorem dX7_putBack_8 : decode cX7_putBack 8 = .ok (.aload_n 0, 1) := by decide +kernel
theorem dX7_putBack_9 : decode cX7_putBack 9 = .ok (.getfield 7, 3) := by decide +kernel
theorem dX7_putBack_12 : decode cX7_putBack 12 = .ok (.iload_n 1, 1) := by decide +kernel
theorem dX7_putBack_13 : decode cX7_putBack 13 = .ok (.aload_n 0, 1) := by decide +kernel
theorem dX7_putBack_14 : decode cX7_putBack 14 = .ok (.getfield 13, 3) := by decide +kernel
theorem dX7_putBack_17 : decode cX7_putBack 17 = .ok (.iload_n 1, 1) := by decide +kernel
theorem dX7_putBack_18 : decode cX7_putBack 18 = .ok (.iaload, 1) := by decide +kernel
theorem dX7_putBack_19 : decode cX7_putBack 19 = .ok (.iastore, 1) := by decide +kernel
theorem dX7_putBack_20 : decode cX7_putBack 20 = .ok (.iinc 1 1, 3) := by decide +kernel
theorem dX7_putBack_23 : decode cX7_putBack 23 = .ok (.goto (-21), 3) := by decide +kernel
theorem dX7_putBack_26 : decode cX7_putBack 26 = .ok (.return_, 1) := by decide +kernel
set_option maxRecDepth 20000 in
theorem ggX7_cross_X7_of : GoodIn wsX7_cross wsX7_of := goodIn_r _ [5, 6, 15, 16, 17, 18, 19, 20, 21, 22, 23, 24, 25, 26, 27] (by decide +kernel) (by decide +kernel)
set_option maxRecDepth 20000 in
theorem gX7_cross_X7_of : GoodIn wsX7_cross (wsV RX7 46 RX7 yX7_of wsX7_of) := goodIn_app (goodIn_of _ (by decide +kernel)) ggX7_cross_X7_of
set_option maxRecDepth 20000 in
theorem ggX7_cross_X7_goesOn : GoodIn wsX7_cross wsX7_goesOn := goodIn_r _ [10, 1, 2, 3, 4, 5, 6, 15, 16, 17, 18, 19, 20, 21, 22, 23, 24, 25, 26, 27] (by decide +kernel) (by decide +kernel)
set_option maxRecDepth 20000 in
theorem gX7_cross_X7_goesOn : GoodIn wsX7_cross (wsV RX7 56 RX7 yX7_goesOn wsX7_goesOn) := goodIn_app (goodIn_of _ (by decide +kernel)) ggX7_cross_X7_goesOn
set_option maxRecDepth 20000 in
theorem ggX7_cross_X7_place : GoodIn wsX7_cross wsX7_place := goodIn_r _ [14, 6, 15, 16, 17, 18, 19, 20, 21, 22, 23, 24, 25, 26, 27] (by decide +kernel) (by decide +kernel)
set_option maxRecDepth 20000 in
theorem gX7_cross_X7_place : GoodIn wsX7_cross (wsV RX7 60 RX7 yX7_place wsX7_place) := goodIn_app (goodIn_of _ (by decide +kernel)) ggX7_cross_X7_place
theorem dX7_cross_0 : decode cX7_cross 0 = .ok (.aload_n 0, 1) := by decide +kernel
theorem dX7_cross_1 : decode cX7_cross 1 = .ok (.iload_n 1, 1) := by decide +kernel
theorem dX7_cross_2 : decode cX7_cross 2 = .ok (.iconst 0, 1) := by decide +kernel
theorem dX7_cross_3 : decode cX7_cross 3 = .ok (.invokevirtual 46, 3) := by decide +kernel
theorem dX7_cross_6 : decode cX7_cross 6 = .ok (.istore_n 3, 1) := by decide +kernel
theorem dX7_cross_7 : decode cX7_cross 7 = .ok (.aload_n 0, 1) := by decide +kernel
theorem dX7_cross_8 : decode cX7_cross 8 = .ok (.iload_n 1, 1) := by decide +kernel
theorem dX7_cross_9 : decode cX7_cross 9 = .ok (.iconst 1, 1) := by decide +kernel
theorem dX7_cross_10 : decode cX7_cross 10 = .ok (.invokevirtual 46, 3) := by decide +kernel
theorem dX7_cross_13 : decode cX7_cross 13 = .ok (.istore 4, 2) := by decide +kernel
theorem dX7_cross_15 : decode cX7_cross 15 = .ok (.aload_n 0, 1) := by decide +kernel
theorem dX7_cross_16 : decode cX7_cross 16 = .ok (.iload_n 2, 1) := by decide +kernel
theorem dX7_cross_17 : decode cX7_cross 17 = .ok (.iconst 0, 1) := by decide +kernel
theorem dX7_cross_18 : decode cX7_cross 18 = .ok (.invokevirtual 46, 3) := by decide +kernel
theorem dX7_cross_21 : decode cX7_cross 21 = .ok (.istore 5, 2) := by decide +kernel
theorem dX7_cross_23 : decode cX7_cross 23 = .ok (.aload_n 0, 1) := by decide +kernel
theorem dX7_cross_24 : decode cX7_cross 24 = .ok (.iload_n 2, 1) := by decide +kernel
theorem dX7_cross_25 : decode cX7_cross 25 = .ok (.iconst 1, 1) := by decide +kernel
theorem dX7_cross_26 : decode cX7_cross 26 = .ok (.invokevirtual 46, 3) := by decide +kernel
theorem dX7_cross_29 : decode cX7_cross 29 = .ok (.istore 6, 2) := by decide +kernel
theorem dX7_cross_31 : decode cX7_cross 31 = .ok (.aload_n 0, 1) := by decide +kernel
theorem dX7_cross_32 : decode cX7_cross 32 = .ok (.iload_n 1, 1) := by decide +kernel
theorem dX7_cross_33 : decode cX7_cross 33 = .ok (.invokevirtual 56, 3) := by decide +kernel
theorem dX7_cross_36 : decode cX7_cross 36 = .ok (.ifCond .eq 28, 3) := by decide +kernel
theorem dX7_cross_39 : decode cX7_cross 39 = .ok (.iload_n 3, 1) := by decide +kernel
theorem dX7_cross_40 : decode cX7_cross 40 = .ok (.iconst 4, 1) := by decide +kernel
theorem dX7_cross_41 : decode cX7_cross 41 = .ok (.idiv, 1) := by decide +kernel
theorem dX7_cross_42 : decode cX7_cross 42 = .ok (.iload 5, 2) := by decide +kernel
theorem dX7_cross_44 : decode cX7_cross 44 = .ok (.iconst 4, 1) := by decide +kernel
theorem dX7_cross_45 : decode cX7_cross 45 = .ok (.idiv, 1) := by decide +kernel
theorem dX7_cross_46 : decode cX7_cross 46 = .ok (.if_icmp .ne 18, 3) := by decide +kernel
theorem dX7_cross_49 : decode cX7_cross 49 = .ok (.iload 4, 2) := by decide +kernel
theorem dX7_cross_51 : decode cX7_cross 51 = .ok (.iconst 4, 1) := by decide +kernel
theorem dX7_cross_52 : decode cX7_cross 52 = .ok (.idiv, 1) := by decide +kernel
theorem dX7_cross_53 : decode cX7_cross 53 = .ok (.iload 6, 2) := by decide +kernel
theorem dX7_cross_55 : decode cX7_cross 55 = .ok (.iconst 4, 1) := by decide +kernel
theorem dX7_cross_56 : decode cX7_cross 56 = .ok (.idiv, 1) := by decide +kernel
theorem dX7_cross_57 : decode cX7_cross 57 = .ok (.if_icmp .ne 7, 3) := by decide +kernel
theorem dX7_cross_60 : decode cX7_cross 60 = .ok (.iconst 1, 1) := by decide +kernel
theorem dX7_cross_61 : decode cX7_cross 61 = .ok (.goto 4, 3) := by decide +kernel
theorem dX7_cross_64 : decode cX7_cross 64 = .ok (.iconst 0, 1) := by decide +kernel
theorem dX7_cross_65 : decode cX7_cross 65 = .ok (.istore 7, 2) := by decide +kernel
theorem dX7_cross_67 : decode cX7_cross 67 = .ok (.aload_n 0, 1) := by decide +kernel
theorem dX7_cross_68 : decode cX7_cross 68 = .ok (.iload_n 3, 1) := by decide +kernel
theorem dX7_cross_69 : decode cX7_cross 69 = .ok (.invokevirtual 60, 3) := by decide +kernel
theorem dX7_cross_72 : decode cX7_cross 72 = .ok (.aload_n 0, 1) := by decide +kernel
theorem dX7_cross_73 : decode cX7_cross 73 = .ok (.iload 5, 2) := by decide +kernel
theorem dX7_cross_75 : decode cX7_cross 75 = .ok (.invokevirtual 60, 3) := by decide +kernel
theorem dX7_cross_78 : decode cX7_cross 78 = .ok (.isub, 1) := by decide +kernel
theorem dX7_cross_79 : decode cX7_cross 79 = .ok (.istore 8, 2) := by decide +kernel
theorem dX7_cross_81 : decode cX7_cross 81 = .ok (.aload_n 0, 1) := by decide +kernel
theorem dX7_cross_82 : decode cX7_cross 82 = .ok (.iload 4, 2) := by decide +kernel
theorem dX7_cross_84 : decode cX7_cross 84 = .ok (.invokevirtual 60, 3) := by decide +kernel
theorem dX7_cross_87 : decode cX7_cross 87 = .ok (.aload_n 0, 1) := by decide +kernel
theorem dX7_cross_88 : decode cX7_cross 88 = .ok (.iload 6, 2) := by decide +kernel
theorem dX7_cross_90 : decode cX7_cross 90 = .ok (.invokevirtual 60, 3) := by decide +kernel
theorem dX7_cross_93 : decode cX7_cross 93 = .ok (.isub, 1) := by decide +kernel
theorem dX7_cross_94 : decode cX7_cross 94 = .ok (.istore 9, 2) := by decide +kernel
theorem dX7_cross_96 : decode cX7_cross 96 = .ok (.iload 7, 2) := by decide +kernel
theorem dX7_cross_98 : decode cX7_cross 98 = .ok (.ifCond .eq 27, 3) := by decide +kernel
theorem dX7_cross_101 : decode cX7_cross 101 = .ok (.iload 8, 2) := by decide +kernel
theorem dX7_cross_103 : decode cX7_cross 103 = .ok (.ifCond .ge 8, 3) := by decide +kernel
theorem dX7_cross_106 : decode cX7_cross 106 = .ok (.iload 9, 2) := by decide +kernel
theorem dX7_cross_108 : decode cX7_cross 108 = .ok (.ifCond .gt 13, 3) := by decide +kernel
theorem dX7_cross_111 : decode cX7_cross 111 = .ok (.iload 8, 2) := by decide +kernel
theorem dX7_cross_113 : decode cX7_cross 113 = .ok (.ifCond .le 12, 3) := by decide +kernel
theorem dX7_cross_116 : decode cX7_cross 116 = .ok (.iload 9, 2) := by decide +kernel
theorem dX7_cross_118 : decode cX7_cross 118 = .ok (.ifCond .ge 7, 3) := by decide +kernel
theorem dX7_cross_121 : decode cX7_cross 121 = .ok (.iconst 1, 1) := by decide +kernel
theorem dX7_cross_122 : decode cX7_cross 122 = .ok (.goto 4, 3) := by decide +kernel
theorem dX7_cross_125 : decode cX7_cross 125 = .ok (.iconst 0, 1) := by decide +kernel
theorem dX7_cross_126 : decode cX7_cross 126 = .ok (.ireturn, 1) := by decide +kernel
set_option maxRecDepth 20000 in
theorem ggX7_crossings_X7_of : GoodIn wsX7_crossings wsX7_of := goodIn_r _ [6, 1, 19, 20, 21, 22, 23, 24, 25, 26, 27, 28, 29, 30, 31] (by decide +kernel) (by decide +kernel)
set_option maxRecDepth 20000 in
theorem gX7_crossings_X7_of : GoodIn wsX7_crossings (wsV RX7 46 RX7 yX7_of wsX7_of) := goodIn_app (goodIn_of _ (by decide +kernel)) ggX7_crossings_X7_of
set_option maxRecDepth 20000 in
theorem ggX7_crossings_X7_cross : GoodIn wsX7_crossings wsX7_cross := goodIn_r _ [10, 2, 3, 4, 5, 6, 1, 11, 12, 13, 14, 15, 16, 17, 18, 19, 20, 21, 22, 23, 24, 25, 26, 27, 28, 29, 30, 31] (by decide +kernel) (by decide +kernel)
set_option maxRecDepth 20000 in
theorem gX7_crossings_X7_cross : GoodIn wsX7_crossings (wsV RX7 64 RX7 yX7_cross wsX7_cross) := goodIn_app (goodIn_of _ (by decide +kernel)) ggX7_crossings_X7_cross
theorem dX7_crossings_0 : decode cX7_crossings 0 = .ok (.iconst 0, 1) := by decide +kernel
theorem dX7_crossings_1 : decode cX7_crossings 1 = .ok (.istore_n 1, 1) := by decide +kernel
theorem dX7_crossings_2 : decode cX7_crossings 2 = .ok (.iconst 0, 1) := by decide +kernel
theorem dX7_crossings_3 : decode cX7_crossings 3 = .ok (.istore_n 2, 1) := by decide +kernel
theorem dX7_crossings_4 : decode cX7_crossings 4 = .ok (.iload_n 2, 1) := by decide +kernel
theorem dX7_crossings_5 : decode cX7_crossings 5 = .ok (.aload_n 0, 1) := by decide +kernel
theorem dX7_crossings_6 : decode cX7_crossings 6 = .ok (.getfield 7, 3) := by decide +kernel
theorem dX7_crossings_9 : decode cX7_crossings 9 = .ok (.iconst 0, 1) := by decide +kernel
theorem dX7_crossings_10 : decode cX7_crossings 10 = .ok (.iaload, 1) := by decide +kernel
theorem dX7_crossings_11 : decode cX7_crossings 11 = .ok (.if_icmp .ge 79, 3) := by decide +kernel
theorem dX7_crossings_14 : decode cX7_crossings 14 = .ok (.iload_n 2, 1) := by decide +kernel
theorem dX7_crossings_15 : decode cX7_crossings 15 = .ok (.iconst 1, 1) := by decide +kernel
theorem dX7_crossings_16 : decode cX7_crossings 16 = .ok (.iadd, 1) := by decide +kernel
theorem dX7_crossings_17 : decode cX7_crossings 17 = .ok (.istore_n 3, 1) := by decide +kernel
theorem dX7_crossings_18 : decode cX7_crossings 18 = .ok (.iload_n 3, 1) := by decide +kernel
theorem dX7_crossings_19 : decode cX7_crossings 19 = .ok (.aload_n 0, 1) := by decide +kernel
theorem dX7_crossings_20 : decode cX7_crossings 20 = .ok (.getfield 7, 3) := by decide +kernel
theorem dX7_crossings_23 : decode cX7_crossings 23 = .ok (.iconst 0, 1) := by decide +kernel
theorem dX7_crossings_24 : decode cX7_crossings 24 = .ok (.iaload, 1) := by decide +kernel
theorem dX7_crossings_25 : decode cX7_crossings 25 = .ok (.if_icmp .ge 59, 3) := by decide +kernel
theorem dX7_crossings_28 : decode cX7_crossings 28 = .ok (.aload_n 0, 1) := by decide +kernel
theorem dX7_crossings_29 : decode cX7_crossings 29 = .ok (.iload_n 2, 1) := by decide +kernel
theorem dX7_crossings_30 : decode cX7_crossings 30 = .ok (.iconst 2, 1) := by decide +kernel
theorem dX7_crossings_31 : decode cX7_crossings 31 = .ok (.invokevirtual 46, 3) := by decide +kernel
theorem dX7_crossings_34 : decode cX7_crossings 34 = .ok (.aload_n 0, 1) := by decide +kernel
theorem dX7_crossings_35 : decode cX7_crossings 35 = .ok (.iload_n 3, 1) := by decide +kernel
theorem dX7_crossings_36 : decode cX7_crossings 36 = .ok (.iconst 2, 1) := by decide +kernel
theorem dX7_crossings_37 : decode cX7_crossings 37 = .ok (.invokevirtual 46, 3) := by decide +kernel
theorem dX7_crossings_40 : decode cX7_crossings 40 = .ok (.if_icmp .ge 12, 3) := by decide +kernel
theorem dX7_crossings_43 : decode cX7_crossings 43 = .ok (.aload_n 0, 1) := by decide +kernel
theorem dX7_crossings_44 : decode cX7_crossings 44 = .ok (.iload_n 2, 1) := by decide +kernel
theorem dX7_crossings_45 : decode cX7_crossings 45 = .ok (.iconst 2, 1) := by decide +kernel
theorem dX7_crossings_46 : decode cX7_crossings 46 = .ok (.invokevirtual 46, 3) := by decide +kernel
theorem dX7_crossings_49 : decode cX7_crossings 49 = .ok (.goto 9, 3) := by decide +kernel
theorem dX7_crossings_52 : decode cX7_crossings 52 = .ok (.aload_n 0, 1) := by decide +kernel
theorem dX7_crossings_53 : decode cX7_crossings 53 = .ok (.iload_n 3, 1) := by decide +kernel
theorem dX7_crossings_54 : decode cX7_crossings 54 = .ok (.iconst 2, 1) := by decide +kernel
theorem dX7_crossings_55 : decode cX7_crossings 55 = .ok (.invokevirtual 46, 3) := by decide +kernel
theorem dX7_crossings_58 : decode cX7_crossings 58 = .ok (.istore 4, 2) := by decide +kernel
theorem dX7_crossings_60 : decode cX7_crossings 60 = .ok (.iload_n 1, 1) := by decide +kernel
theorem dX7_crossings_61 : decode cX7_crossings 61 = .ok (.aload_n 0, 1) := by decide +kernel
theorem dX7_crossings_62 : decode cX7_crossings 62 = .ok (.iload_n 2, 1) := by decide +kernel
theorem dX7_crossings_63 : decode cX7_crossings 63 = .ok (.iload_n 3, 1) := by decide +kernel
theorem dX7_crossings_64 : decode cX7_crossings 64 = .ok (.invokevirtual 64, 3) := by decide +kernel
theorem dX7_crossings_67 : decode cX7_crossings 67 = .ok (.ifCond .eq 8, 3) := by decide +kernel
theorem dX7_crossings_70 : decode cX7_crossings 70 = .ok (.iload 4, 2) := by decide +kernel
theorem dX7_crossings_72 : decode cX7_crossings 72 = .ok (.goto 4, 3) := by decide +kernel
theorem dX7_crossings_75 : decode cX7_crossings 75 = .ok (.iconst 0, 1) := by decide +kernel
theorem dX7_crossings_76 : decode cX7_crossings 76 = .ok (.iadd, 1) := by decide +kernel
theorem dX7_crossings_77 : decode cX7_crossings 77 = .ok (.istore_n 1, 1) := by decide +kernel
theorem dX7_crossings_78 : decode cX7_crossings 78 = .ok (.iinc 3 1, 3) := by decide +kernel
theorem dX7_crossings_81 : decode cX7_crossings 81 = .ok (.goto (-63), 3) := by decide +kernel
theorem dX7_crossings_84 : decode cX7_crossings 84 = .ok (.iinc 2 1, 3) := by decide +kernel
theorem dX7_crossings_87 : decode cX7_crossings 87 = .ok (.goto (-83), 3) := by decide +kernel
theorem dX7_crossings_90 : decode cX7_crossings 90 = .ok (.iload_n 1, 1) := by decide +kernel
theorem dX7_crossings_91 : decode cX7_crossings 91 = .ok (.ireturn, 1) := by decide +kernel
set_option maxRecDepth 20000 in
theorem ggX7_crossedBy_X7_cross : GoodIn wsX7_crossedBy wsX7_cross := goodIn_r _ [6, 7, 8, 9, 5, 10, 1, 11, 12, 13, 14, 15, 16, 17, 18, 19, 20, 21, 22, 23, 24, 25, 26, 27, 28, 29, 30, 31] (by decide +kernel) (by decide +kernel)
set_option maxRecDepth 20000 in
theorem gX7_crossedBy_X7_cross : GoodIn wsX7_crossedBy (wsV RX7 64 RX7 yX7_cross wsX7_cross) := goodIn_app (goodIn_of _ (by decide +kernel)) ggX7_crossedBy_X7_cross
theorem dX7_crossedBy_0 : decode cX7_crossedBy 0 = .ok (.iconst 0, 1) := by decide +kernel
theorem dX7_crossedBy_1 : decode cX7_crossedBy 1 = .ok (.istore_n 2, 1) := by decide +kernel
theorem dX7_crossedBy_2 : decode cX7_crossedBy 2 = .ok (.iconst 0, 1) := by decide +kernel
theorem dX7_crossedBy_3 : decode cX7_crossedBy 3 = .ok (.istore_n 3, 1) := by decide +kernel
theorem dX7_crossedBy_4 : decode cX7_crossedBy 4 = .ok (.iload_n 3, 1) := by decide +kernel
theorem dX7_crossedBy_5 : decode cX7_crossedBy 5 = .ok (.aload_n 0, 1) := by decide +kernel
theorem dX7_crossedBy_6 : decode cX7_crossedBy 6 = .ok (.getfield 7, 3) := by decide +kernel
theorem dX7_crossedBy_9 : decode cX7_crossedBy 9 = .ok (.iconst 0, 1) := by decide +kernel
theorem dX7_crossedBy_10 : decode cX7_crossedBy 10 = .ok (.iaload, 1) := by decide +kernel
theorem dX7_crossedBy_11 : decode cX7_crossedBy 11 = .ok (.if_icmp .ge 26, 3) := by decide +kernel
theorem dX7_crossedBy_14 : decode cX7_crossedBy 14 = .ok (.iload_n 2, 1) := by decide +kernel
theorem dX7_crossedBy_15 : decode cX7_crossedBy 15 = .ok (.aload_n 0, 1) := by decide +kernel
theorem dX7_crossedBy_16 : decode cX7_crossedBy 16 = .ok (.iload_n 1, 1) := by decide +kernel
theorem dX7_crossedBy_17 : decode cX7_crossedBy 17 = .ok (.iload_n 3, 1) := by decide +kernel
theorem dX7_crossedBy_18 : decode cX7_crossedBy 18 = .ok (.invokevirtual 64, 3) := by decide +kernel
theorem dX7_crossedBy_21 : decode cX7_crossedBy 21 = .ok (.ifCond .eq 7, 3) := by decide +kernel
theorem dX7_crossedBy_24 : decode cX7_crossedBy 24 = .ok (.iconst 1, 1) := by decide +kernel
theorem dX7_crossedBy_25 : decode cX7_crossedBy 25 = .ok (.goto 4, 3) := by decide +kernel
theorem dX7_crossedBy_28 : decode cX7_crossedBy 28 = .ok (.iconst 0, 1) := by decide +kernel
theorem dX7_crossedBy_29 : decode cX7_crossedBy 29 = .ok (.iadd, 1) := by decide +kernel
theorem dX7_crossedBy_30 : decode cX7_crossedBy 30 = .ok (.istore_n 2, 1) := by decide +kernel
theorem dX7_crossedBy_31 : decode cX7_crossedBy 31 = .ok (.iinc 3 1, 3) := by decide +kernel
theorem dX7_crossedBy_34 : decode cX7_crossedBy 34 = .ok (.goto (-30), 3) := by decide +kernel
theorem dX7_crossedBy_37 : decode cX7_crossedBy 37 = .ok (.iload_n 2, 1) := by decide +kernel
theorem dX7_crossedBy_38 : decode cX7_crossedBy 38 = .ok (.ireturn, 1) := by decide +kernel
theorem dX7_putRibbon_0 : decode cX7_putRibbon 0 = .ok (.bipush 18, 2) := by decide +kernel
theorem dX7_putRibbon_2 : decode cX7_putRibbon 2 = .ok (.iconst 3, 1) := by decide +kernel
theorem dX7_putRibbon_3 : decode cX7_putRibbon 3 = .ok (.aload_n 0, 1) := by decide +kernel
theorem dX7_putRibbon_4 : decode cX7_putRibbon 4 = .ok (.getfield 7, 3) := by decide +kernel
theorem dX7_putRibbon_7 : decode cX7_putRibbon 7 = .ok (.iconst 0, 1) := by decide +kernel
theorem dX7_putRibbon_8 : decode cX7_putRibbon 8 = .ok (.iaload, 1) := by decide +kernel
theorem dX7_putRibbon_9 : decode cX7_putRibbon 9 = .ok (.imul, 1) := by decide +kernel
theorem dX7_putRibbon_10 : decode cX7_putRibbon 10 = .ok (.iadd, 1) := by decide +kernel
theorem dX7_putRibbon_11 : decode cX7_putRibbon 11 = .ok (.istore 4, 2) := by decide +kernel
theorem dX7_putRibbon_13 : decode cX7_putRibbon 13 = .ok (.aload_n 0, 1) := by decide +kernel
theorem dX7_putRibbon_14 : decode cX7_putRibbon 14 = .ok (.getfield 7, 3) := by decide +kernel
theorem dX7_putRibbon_17 : decode cX7_putRibbon 17 = .ok (.iload 4, 2) := by decide +kernel
theorem dX7_putRibbon_19 : decode cX7_putRibbon 19 = .ok (.iconst 0, 1) := by decide +kernel
theorem dX7_putRibbon_20 : decode cX7_putRibbon 20 = .ok (.iadd, 1) := by decide +kernel
theorem dX7_putRibbon_21 : decode cX7_putRibbon 21 = .ok (.iload_n 1, 1) := by decide +kernel
theorem dX7_putRibbon_22 : decode cX7_putRibbon 22 = .ok (.iastore, 1) := by decide +kernel
theorem dX7_putRibbon_23 : decode cX7_putRibbon 23 = .ok (.aload_n 0, 1) := by decide +kernel
theorem dX7_putRibbon_24 : decode cX7_putRibbon 24 = .ok (.getfield 7, 3) := by decide +kernel
theorem dX7_putRibbon_27 : decode cX7_putRibbon 27 = .ok (.iload 4, 2) := by decide +kernel
theorem dX7_putRibbon_29 : decode cX7_putRibbon 29 = .ok (.iconst 1, 1) := by decide +kernel
theorem dX7_putRibbon_30 : decode cX7_putRibbon 30 = .ok (.iadd, 1) := by decide +kernel
theorem dX7_putRibbon_31 : decode cX7_putRibbon 31 = .ok (.iload_n 2, 1) := by decide +kernel
theorem dX7_putRibbon_32 : decode cX7_putRibbon 32 = .ok (.iastore, 1) := by decide +kernel
theorem dX7_putRibbon_33 : decode cX7_putRibbon 33 = .ok (.aload_n 0, 1) := by decide +kernel
theorem dX7_putRibbon_34 : decode cX7_putRibbon 34 = .ok (.getfield 7, 3) := by decide +kernel
theorem dX7_putRibbon_37 : decode cX7_putRibbon 37 = .ok (.iload 4, 2) := by decide +kernel
theorem dX7_putRibbon_39 : decode cX7_putRibbon 39 = .ok (.iconst 2, 1) := by decide +kernel
theorem dX7_putRibbon_40 : decode cX7_putRibbon 40 = .ok (.iadd, 1) := by decide +kernel
theorem dX7_putRibbon_41 : decode cX7_putRibbon 41 = .ok (.iload_n 3, 1) := by decide +kernel
theorem dX7_putRibbon_42 : decode cX7_putRibbon 42 = .ok (.iastore, 1) := by decide +kernel
theorem dX7_putRibbon_43 : decode cX7_putRibbon 43 = .ok (.aload_n 0, 1) := by decide +kernel
theorem dX7_putRibbon_44 : decode cX7_putRibbon 44 = .ok (.getfield 7, 3) := by decide +kernel
theorem dX7_putRibbon_47 : decode cX7_putRibbon 47 = .ok (.iconst 0, 1) := by decide +kernel
theorem dX7_putRibbon_48 : decode cX7_putRibbon 48 = .ok (.dup2, 1) := by decide +kernel
theorem dX7_putRibbon_49 : decode cX7_putRibbon 49 = .ok (.iaload, 1) := by decide +kernel
theorem dX7_putRibbon_50 : decode cX7_putRibbon 50 = .ok (.iconst 1, 1) := by decide +kernel
theorem dX7_putRibbon_51 : decode cX7_putRibbon 51 = .ok (.iadd, 1) := by decide +kernel
theorem dX7_putRibbon_52 : decode cX7_putRibbon 52 = .ok (.iastore, 1) := by decide +kernel
theorem dX7_putRibbon_53 : decode cX7_putRibbon 53 = .ok (.return_, 1) := by decide +kernel
set_option maxRecDepth 20000 in
theorem ggX7_ribbon_X7_in : GoodIn wsX7_ribbon wsX7_in := goodIn_r _ [6] (by decide +kernel) (by decide +kernel)
set_option maxRecDepth 20000 in
theorem gX7_ribbon_X7_in : GoodIn wsX7_ribbon (va_wsS RX7 42 yX7_in wsX7_in) := goodIn_app (goodIn_of _ (by decide +kernel)) ggX7_ribbon_X7_in
set_option maxRecDepth 20000 in
theorem ggX7_ribbon_X7_isPost : GoodIn wsX7_ribbon wsX7_isPost := goodIn_r _ [9, 3, 4, 5, 6] (by decide +kernel) (by decide +kernel)
set_option maxRecDepth 20000 in
theorem gX7_ribbon_X7_isPost : GoodIn wsX7_ribbon (va_wsS RX7 68 yX7_isPost wsX7_isPost) := goodIn_app (goodIn_of _ (by decide +kernel)) ggX7_ribbon_X7_isPost
set_option maxRecDepth 20000 in
theorem ggX7_ribbon_X7_record : GoodIn wsX7_ribbon wsX7_record := goodIn_r _ [13, 14, 15, 1, 20, 21, 22, 23, 24, 25, 26, 27, 28, 29, 30, 31, 32] (by decide +kernel) (by decide +kernel)
set_option maxRecDepth 20000 in
theorem gX7_ribbon_X7_record : GoodIn wsX7_ribbon (wsV RX7 53 RX7 yX7_record wsX7_record) := goodIn_app (goodIn_of _ (by decide +kernel)) ggX7_ribbon_X7_record
set_option maxRecDepth 20000 in
theorem ggX7_ribbon_X7_putRibbon : GoodIn wsX7_ribbon wsX7_putRibbon := goodIn_r _ [19, 1, 20, 21, 22, 23, 24, 25, 26, 27, 28, 29, 30, 31, 32] (by decide +kernel) (by decide +kernel)
set_option maxRecDepth 20000 in
theorem gX7_ribbon_X7_putRibbon : GoodIn wsX7_ribbon (wsV RX7 71 RX7 yX7_putRibbon wsX7_putRibbon) := goodIn_app (goodIn_of _ (by decide +kernel)) ggX7_ribbon_X7_putRibbon
theorem dX7_ribbon_0 : decode cX7_ribbon 0 = .ok (.iload_n 1, 1) := by decide +kernel
theorem dX7_ribbon_1 : decode cX7_ribbon 1 = .ok (.iconst 4, 1) := by decide +kernel
theorem dX7_ribbon_2 : decode cX7_ribbon 2 = .ok (.idiv, 1) := by decide +kernel
theorem dX7_ribbon_3 : decode cX7_ribbon 3 = .ok (.iload_n 2, 1) := by decide +kernel
theorem dX7_ribbon_4 : decode cX7_ribbon 4 = .ok (.iconst 4, 1) := by decide +kernel
theorem dX7_ribbon_5 : decode cX7_ribbon 5 = .ok (.idiv, 1) := by decide +kernel
theorem dX7_ribbon_6 : decode cX7_ribbon 6 = .ok (.if_icmp .eq 17, 3) := by decide +kernel
theorem dX7_ribbon_9 : decode cX7_ribbon 9 = .ok (.iload_n 3, 1) := by decide +kernel
theorem dX7_ribbon_10 : decode cX7_ribbon 10 = .ok (.iconst 1, 1) := by decide +kernel
theorem dX7_ribbon_11 : decode cX7_ribbon 11 = .ok (.bipush 50, 2) := by decide +kernel
theorem dX7_ribbon_13 : decode cX7_ribbon 13 = .ok (.invokestatic 42, 3) := by decide +kernel
theorem dX7_ribbon_16 : decode cX7_ribbon 16 = .ok (.ifCond .eq 7, 3) := by decide +kernel
theorem dX7_ribbon_19 : decode cX7_ribbon 19 = .ok (.iconst 1, 1) := by decide +kernel
theorem dX7_ribbon_20 : decode cX7_ribbon 20 = .ok (.goto 4, 3) := by decide +kernel
theorem dX7_ribbon_23 : decode cX7_ribbon 23 = .ok (.iconst 0, 1) := by decide +kernel
theorem dX7_ribbon_24 : decode cX7_ribbon 24 = .ok (.istore 4, 2) := by decide +kernel
theorem dX7_ribbon_26 : decode cX7_ribbon 26 = .ok (.aload_n 0, 1) := by decide +kernel
theorem dX7_ribbon_27 : decode cX7_ribbon 27 = .ok (.iload_n 1, 1) := by decide +kernel
theorem dX7_ribbon_28 : decode cX7_ribbon 28 = .ok (.invokestatic 68, 3) := by decide +kernel
theorem dX7_ribbon_31 : decode cX7_ribbon 31 = .ok (.ifCond .eq 10, 3) := by decide +kernel
theorem dX7_ribbon_34 : decode cX7_ribbon 34 = .ok (.iload_n 2, 1) := by decide +kernel
theorem dX7_ribbon_35 : decode cX7_ribbon 35 = .ok (.invokestatic 68, 3) := by decide +kernel
theorem dX7_ribbon_38 : decode cX7_ribbon 38 = .ok (.ifCond .ne 7, 3) := by decide +kernel
theorem dX7_ribbon_41 : decode cX7_ribbon 41 = .ok (.iconst 1, 1) := by decide +kernel
theorem dX7_ribbon_42 : decode cX7_ribbon 42 = .ok (.goto 28, 3) := by decide +kernel
theorem dX7_ribbon_45 : decode cX7_ribbon 45 = .ok (.iload 4, 2) := by decide +kernel
theorem dX7_ribbon_47 : decode cX7_ribbon 47 = .ok (.ifCond .ne 7, 3) := by decide +kernel
theorem dX7_ribbon_50 : decode cX7_ribbon 50 = .ok (.iconst 2, 1) := by decide +kernel
theorem dX7_ribbon_51 : decode cX7_ribbon 51 = .ok (.goto 19, 3) := by decide +kernel
theorem dX7_ribbon_54 : decode cX7_ribbon 54 = .ok (.aload_n 0, 1) := by decide +kernel
theorem dX7_ribbon_55 : decode cX7_ribbon 55 = .ok (.getfield 7, 3) := by decide +kernel
theorem dX7_ribbon_58 : decode cX7_ribbon 58 = .ok (.iconst 0, 1) := by decide +kernel
theorem dX7_ribbon_59 : decode cX7_ribbon 59 = .ok (.iaload, 1) := by decide +kernel
theorem dX7_ribbon_60 : decode cX7_ribbon 60 = .ok (.bipush 20, 2) := by decide +kernel
theorem dX7_ribbon_62 : decode cX7_ribbon 62 = .ok (.if_icmp .ne 7, 3) := by decide +kernel
theorem dX7_ribbon_65 : decode cX7_ribbon 65 = .ok (.iconst 3, 1) := by decide +kernel
theorem dX7_ribbon_66 : decode cX7_ribbon 66 = .ok (.goto 4, 3) := by decide +kernel
theorem dX7_ribbon_69 : decode cX7_ribbon 69 = .ok (.iconst 0, 1) := by decide +kernel
theorem dX7_ribbon_70 : decode cX7_ribbon 70 = .ok (.putfield 38, 3) := by decide +kernel
theorem dX7_ribbon_73 : decode cX7_ribbon 73 = .ok (.aload_n 0, 1) := by decide +kernel
theorem dX7_ribbon_74 : decode cX7_ribbon 74 = .ok (.getfield 38, 3) := by decide +kernel
theorem dX7_ribbon_77 : decode cX7_ribbon 77 = .ok (.ifCond .le 5, 3) := by decide +kernel
theorem dX7_ribbon_80 : decode cX7_ribbon 80 = .ok (.iconst 0, 1) := by decide +kernel
theorem dX7_ribbon_81 : decode cX7_ribbon 81 = .ok (.ireturn, 1) := by decide +kernel
theorem dX7_ribbon_82 : decode cX7_ribbon 82 = .ok (.aload_n 0, 1) := by decide +kernel
theorem dX7_ribbon_83 : decode cX7_ribbon 83 = .ok (.invokevirtual 53, 3) := by decide +kernel
theorem dX7_ribbon_86 : decode cX7_ribbon 86 = .ok (.aload_n 0, 1) := by decide +kernel
theorem dX7_ribbon_87 : decode cX7_ribbon 87 = .ok (.iload_n 1, 1) := by decide +kernel
theorem dX7_ribbon_88 : decode cX7_ribbon 88 = .ok (.iload_n 2, 1) := by decide +kernel
theorem dX7_ribbon_89 : decode cX7_ribbon 89 = .ok (.iload_n 3, 1) := by decide +kernel
theorem dX7_ribbon_90 : decode cX7_ribbon 90 = .ok (.invokevirtual 71, 3) := by decide +kernel
theorem dX7_ribbon_93 : decode cX7_ribbon 93 = .ok (.aload_n 0, 1) := by decide +kernel
theorem dX7_ribbon_94 : decode cX7_ribbon 94 = .ok (.getfield 7, 3) := by decide +kernel
theorem dX7_ribbon_97 : decode cX7_ribbon 97 = .ok (.iconst 0, 1) := by decide +kernel
theorem dX7_ribbon_98 : decode cX7_ribbon 98 = .ok (.iaload, 1) := by decide +kernel
theorem dX7_ribbon_99 : decode cX7_ribbon 99 = .ok (.iconst 1, 1) := by decide +kernel
theorem dX7_ribbon_100 : decode cX7_ribbon 100 = .ok (.isub, 1) := by decide +kernel
theorem dX7_ribbon_101 : decode cX7_ribbon 101 = .ok (.ireturn, 1) := by decide +kernel
set_option maxRecDepth 20000 in
theorem ggX7_widen_X7_isRibbon : GoodIn wsX7_widen wsX7_isRibbon := goodIn_r _ [7, 2, 8, 9, 6, 10, 21, 22, 23, 24, 25, 26, 27, 28, 29, 30, 31, 32, 33] (by decide +kernel) (by decide +kernel)
set_option maxRecDepth 20000 in
theorem gX7_widen_X7_isRibbon : GoodIn wsX7_widen (wsV RX7 75 RX7 yX7_isRibbon wsX7_isRibbon) := goodIn_app (goodIn_of _ (by decide +kernel)) ggX7_widen_X7_isRibbon
set_option maxRecDepth 20000 in
theorem ggX7_widen_X7_in : GoodIn wsX7_widen wsX7_in := goodIn_r _ [10] (by decide +kernel) (by decide +kernel)
set_option maxRecDepth 20000 in
theorem gX7_widen_X7_in : GoodIn wsX7_widen (va_wsS RX7 42 yX7_in wsX7_in) := goodIn_app (goodIn_of _ (by decide +kernel)) ggX7_widen_X7_in
set_option maxRecDepth 20000 in
theorem ggX7_widen_X7_record : GoodIn wsX7_widen wsX7_record := goodIn_r _ [14, 15, 16, 2, 21, 22, 23, 24, 25, 26, 27, 28, 29, 30, 31, 32, 33] (by decide +kernel) (by decide +kernel)
set_option maxRecDepth 20000 in
theorem gX7_widen_X7_record : GoodIn wsX7_widen (wsV RX7 53 RX7 yX7_record wsX7_record) := goodIn_app (goodIn_of _ (by decide +kernel)) ggX7_widen_X7_record
set_option maxRecDepth 20000 in
theorem ggX7_widen_X7_of : GoodIn wsX7_widen wsX7_of := goodIn_r _ [20, 2, 21, 22, 23, 24, 25, 26, 27, 28, 29, 30, 31, 32, 33] (by decide +kernel) (by decide +kernel)
set_option maxRecDepth 20000 in
theorem gX7_widen_X7_of : GoodIn wsX7_widen (wsV RX7 46 RX7 yX7_of wsX7_of) := goodIn_app (goodIn_of _ (by decide +kernel)) ggX7_widen_X7_of
theorem dX7_widen_0 : decode cX7_widen 0 = .ok (.aload_n 0, 1) := by decide +kernel
theorem dX7_widen_1 : decode cX7_widen 1 = .ok (.aload_n 0, 1) := by decide +kernel
theorem dX7_widen_2 : decode cX7_widen 2 = .ok (.iload_n 1, 1) := by decide +kernel
theorem dX7_widen_3 : decode cX7_widen 3 = .ok (.invokevirtual 75, 3) := by decide +kernel
theorem dX7_widen_6 : decode cX7_widen 6 = .ok (.ifCond .ne 7, 3) := by decide +kernel
theorem dX7_widen_9 : decode cX7_widen 9 = .ok (.iconst 1, 1) := by decide +kernel
theorem dX7_widen_10 : decode cX7_widen 10 = .ok (.goto 18, 3) := by decide +kernel
theorem dX7_widen_13 : decode cX7_widen 13 = .ok (.iload_n 2, 1) := by decide +kernel
theorem dX7_widen_14 : decode cX7_widen 14 = .ok (.iconst 0, 1) := by decide +kernel
theorem dX7_widen_15 : decode cX7_widen 15 = .ok (.bipush 50, 2) := by decide +kernel
theorem dX7_widen_17 : decode cX7_widen 17 = .ok (.invokestatic 42, 3) := by decide +kernel
theorem dX7_widen_20 : decode cX7_widen 20 = .ok (.ifCond .eq 7, 3) := by decide +kernel
theorem dX7_widen_23 : decode cX7_widen 23 = .ok (.iconst 0, 1) := by decide +kernel
theorem dX7_widen_24 : decode cX7_widen 24 = .ok (.goto 4, 3) := by decide +kernel
theorem dX7_widen_27 : decode cX7_widen 27 = .ok (.iconst 2, 1) := by decide +kernel
theorem dX7_widen_28 : decode cX7_widen 28 = .ok (.putfield 38, 3) := by decide +kernel
theorem dX7_widen_31 : decode cX7_widen 31 = .ok (.aload_n 0, 1) := by decide +kernel
theorem dX7_widen_32 : decode cX7_widen 32 = .ok (.getfield 38, 3) := by decide +kernel
theorem dX7_widen_35 : decode cX7_widen 35 = .ok (.ifCond .le 5, 3) := by decide +kernel
theorem dX7_widen_38 : decode cX7_widen 38 = .ok (.iconst 0, 1) := by decide +kernel
theorem dX7_widen_39 : decode cX7_widen 39 = .ok (.ireturn, 1) := by decide +kernel
theorem dX7_widen_40 : decode cX7_widen 40 = .ok (.aload_n 0, 1) := by decide +kernel
theorem dX7_widen_41 : decode cX7_widen 41 = .ok (.invokevirtual 53, 3) := by decide +kernel
theorem dX7_widen_44 : decode cX7_widen 44 = .ok (.aload_n 0, 1) := by decide +kernel
theorem dX7_widen_45 : decode cX7_widen 45 = .ok (.iload_n 1, 1) := by decide +kernel
theorem dX7_widen_46 : decode cX7_widen 46 = .ok (.iconst 2, 1) := by decide +kernel
theorem dX7_widen_47 : decode cX7_widen 47 = .ok (.invokevirtual 46, 3) := by decide +kernel
theorem dX7_widen_50 : decode cX7_widen 50 = .ok (.istore_n 3, 1) := by decide +kernel
theorem dX7_widen_51 : decode cX7_widen 51 = .ok (.aload_n 0, 1) := by decide +kernel
theorem dX7_widen_52 : decode cX7_widen 52 = .ok (.getfield 7, 3) := by decide +kernel
theorem dX7_widen_55 : decode cX7_widen 55 = .ok (.bipush 18, 2) := by decide +kernel
theorem dX7_widen_57 : decode cX7_widen 57 = .ok (.iconst 3, 1) := by decide +kernel
theorem dX7_widen_58 : decode cX7_widen 58 = .ok (.iload_n 1, 1) := by decide +kernel
theorem dX7_widen_59 : decode cX7_widen 59 = .ok (.imul, 1) := by decide +kernel
theorem dX7_widen_60 : decode cX7_widen 60 = .ok (.iadd, 1) := by decide +kernel
theorem dX7_widen_61 : decode cX7_widen 61 = .ok (.iconst 2, 1) := by decide +kernel
theorem dX7_widen_62 : decode cX7_widen 62 = .ok (.iadd, 1) := by decide +kernel
theorem dX7_widen_63 : decode cX7_widen 63 = .ok (.iload_n 2, 1) := by decide +kernel
theorem dX7_widen_64 : decode cX7_widen 64 = .ok (.iastore, 1) := by decide +kernel
theorem dX7_widen_65 : decode cX7_widen 65 = .ok (.iload_n 3, 1) := by decide +kernel
theorem dX7_widen_66 : decode cX7_widen 66 = .ok (.ireturn, 1) := by decide +kernel
set_option maxRecDepth 20000 in
theorem ggX7_remove_X7_isRibbon : GoodIn wsX7_remove wsX7_isRibbon := goodIn_r _ [7, 2, 8, 9, 6, 10, 21, 22, 23, 24, 25, 26, 27, 28, 29, 30, 31, 32, 33] (by decide +kernel) (by decide +kernel)
set_option maxRecDepth 20000 in
theorem gX7_remove_X7_isRibbon : GoodIn wsX7_remove (wsV RX7 75 RX7 yX7_isRibbon wsX7_isRibbon) := goodIn_app (goodIn_of _ (by decide +kernel)) ggX7_remove_X7_isRibbon
set_option maxRecDepth 20000 in
theorem ggX7_remove_X7_record : GoodIn wsX7_remove wsX7_record := goodIn_r _ [14, 15, 16, 2, 21, 22, 23, 24, 25, 26, 27, 28, 29, 30, 31, 32, 33] (by decide +kernel) (by decide +kernel)
set_option maxRecDepth 20000 in
theorem gX7_remove_X7_record : GoodIn wsX7_remove (wsV RX7 53 RX7 yX7_record wsX7_record) := goodIn_app (goodIn_of _ (by decide +kernel)) ggX7_remove_X7_record
set_option maxRecDepth 20000 in
theorem ggX7_remove_X7_of : GoodIn wsX7_remove wsX7_of := goodIn_r _ [20, 2, 21, 22, 23, 24, 25, 26, 27, 28, 29, 30, 31, 32, 33] (by decide +kernel) (by decide +kernel)
set_option maxRecDepth 20000 in
theorem gX7_remove_X7_of : GoodIn wsX7_remove (wsV RX7 46 RX7 yX7_of wsX7_of) := goodIn_app (goodIn_of _ (by decide +kernel)) ggX7_remove_X7_of
theorem dX7_remove_0 : decode cX7_remove 0 = .ok (.aload_n 0, 1) := by decide +kernel
theorem dX7_remove_1 : decode cX7_remove 1 = .ok (.aload_n 0, 1) := by decide +kernel
theorem dX7_remove_2 : decode cX7_remove 2 = .ok (.iload_n 1, 1) := by decide +kernel
theorem dX7_remove_3 : decode cX7_remove 3 = .ok (.invokevirtual 75, 3) := by decide +kernel
theorem dX7_remove_6 : decode cX7_remove 6 = .ok (.ifCond .eq 7, 3) := by decide +kernel
theorem dX7_remove_9 : decode cX7_remove 9 = .ok (.iconst 0, 1) := by decide +kernel
theorem dX7_remove_10 : decode cX7_remove 10 = .ok (.goto 4, 3) := by decide +kernel
theorem dX7_remove_13 : decode cX7_remove 13 = .ok (.iconst 1, 1) := by decide +kernel
theorem dX7_remove_14 : decode cX7_remove 14 = .ok (.putfield 38, 3) := by decide +kernel
theorem dX7_remove_17 : decode cX7_remove 17 = .ok (.aload_n 0, 1) := by decide +kernel
theorem dX7_remove_18 : decode cX7_remove 18 = .ok (.getfield 38, 3) := by decide +kernel
theorem dX7_remove_21 : decode cX7_remove 21 = .ok (.ifCond .le 5, 3) := by decide +kernel
theorem dX7_remove_24 : decode cX7_remove 24 = .ok (.iconst 0, 1) := by decide +kernel
theorem dX7_remove_25 : decode cX7_remove 25 = .ok (.ireturn, 1) := by decide +kernel
theorem dX7_remove_26 : decode cX7_remove 26 = .ok (.aload_n 0, 1) := by decide +kernel
theorem dX7_remove_27 : decode cX7_remove 27 = .ok (.invokevirtual 53, 3) := by decide +kernel
theorem dX7_remove_30 : decode cX7_remove 30 = .ok (.aload_n 0, 1) := by decide +kernel
theorem dX7_remove_31 : decode cX7_remove 31 = .ok (.iload_n 1, 1) := by decide +kernel
theorem dX7_remove_32 : decode cX7_remove 32 = .ok (.iconst 2, 1) := by decide +kernel
theorem dX7_remove_33 : decode cX7_remove 33 = .ok (.invokevirtual 46, 3) := by decide +kernel
theorem dX7_remove_36 : decode cX7_remove 36 = .ok (.istore_n 2, 1) := by decide +kernel
theorem dX7_remove_37 : decode cX7_remove 37 = .ok (.aload_n 0, 1) := by decide +kernel
theorem dX7_remove_38 : decode cX7_remove 38 = .ok (.getfield 7, 3) := by decide +kernel
theorem dX7_remove_41 : decode cX7_remove 41 = .ok (.iconst 0, 1) := by decide +kernel
theorem dX7_remove_42 : decode cX7_remove 42 = .ok (.dup2, 1) := by decide +kernel
theorem dX7_remove_43 : decode cX7_remove 43 = .ok (.iaload, 1) := by decide +kernel
theorem dX7_remove_44 : decode cX7_remove 44 = .ok (.iconst 1, 1) := by decide +kernel
theorem dX7_remove_45 : decode cX7_remove 45 = .ok (.isub, 1) := by decide +kernel
theorem dX7_remove_46 : decode cX7_remove 46 = .ok (.iastore, 1) := by decide +kernel
theorem dX7_remove_47 : decode cX7_remove 47 = .ok (.bipush 18, 2) := by decide +kernel
theorem dX7_remove_49 : decode cX7_remove 49 = .ok (.iconst 3, 1) := by decide +kernel
theorem dX7_remove_50 : decode cX7_remove 50 = .ok (.iload_n 1, 1) := by decide +kernel
theorem dX7_remove_51 : decode cX7_remove 51 = .ok (.imul, 1) := by decide +kernel
theorem dX7_remove_52 : decode cX7_remove 52 = .ok (.iadd, 1) := by decide +kernel
theorem dX7_remove_53 : decode cX7_remove 53 = .ok (.istore_n 3, 1) := by decide +kernel
theorem dX7_remove_54 : decode cX7_remove 54 = .ok (.iload_n 3, 1) := by decide +kernel
theorem dX7_remove_55 : decode cX7_remove 55 = .ok (.bipush 18, 2) := by decide +kernel
theorem dX7_remove_57 : decode cX7_remove 57 = .ok (.iconst 3, 1) := by decide +kernel
theorem dX7_remove_58 : decode cX7_remove 58 = .ok (.aload_n 0, 1) := by decide +kernel
theorem dX7_remove_59 : decode cX7_remove 59 = .ok (.getfield 7, 3) := by decide +kernel
theorem dX7_remove_62 : decode cX7_remove 62 = .ok (.iconst 0, 1) := by decide +kernel
theorem dX7_remove_63 : decode cX7_remove 63 = .ok (.iaload, 1) := by decide +kernel
theorem dX7_remove_64 : decode cX7_remove 64 = .ok (.imul, 1) := by decide +kernel
theorem dX7_remove_65 : decode cX7_remove 65 = .ok (.iadd, 1) := by decide +kernel
theorem dX7_remove_66 : decode cX7_remove 66 = .ok (.if_icmp .ge 23, 3) := by decide +kernel
theorem dX7_remove_69 : decode cX7_remove 69 = .ok (.aload_n 0, 1) := by decide +kernel
theorem dX7_remove_70 : decode cX7_remove 70 = .ok (.getfield 7, 3) := by decide +kernel
theorem dX7_remove_73 : decode cX7_remove 73 = .ok (.iload_n 3, 1) := by decide +kernel
theorem dX7_remove_74 : decode cX7_remove 74 = .ok (.aload_n 0, 1) := by decide +kernel
theorem dX7_remove_75 : decode cX7_remove 75 = .ok (.getfield 7, 3) := by decide +kernel
theorem dX7_remove_78 : decode cX7_remove 78 = .ok (.iload_n 3, 1) := by decide +kernel
theorem dX7_remove_79 : decode cX7_remove 79 = .ok (.iconst 3, 1) := by decide +kernel
theorem dX7_remove_80 : decode cX7_remove 80 = .ok (.iadd, 1) := by decide +kernel
theorem dX7_remove_81 : decode cX7_remove 81 = .ok (.iaload, 1) := by decide +kernel
theorem dX7_remove_82 : decode cX7_remove 82 = .ok (.iastore, 1) := by decide +kernel
theorem dX7_remove_83 : decode cX7_remove 83 = .ok (.iinc 3 1, 3) := by decide +kernel
theorem dX7_remove_86 : decode cX7_remove 86 = .ok (.goto (-32), 3) := by decide +kernel
theorem dX7_remove_89 : decode cX7_remove 89 = .ok (.iload_n 2, 1) := by decide +kernel
theorem dX7_remove_90 : decode cX7_remove 90 = .ok (.ireturn, 1) := by decide +kernel
set_option maxRecDepth 20000 in
theorem ggX7_exchange_X7_place : GoodIn wsX7_exchange wsX7_place := goodIn_r _ [6, 1, 7, 8, 9, 10, 11, 12, 13, 14, 15, 16, 17, 18, 19] (by decide +kernel) (by decide +kernel)
set_option maxRecDepth 20000 in
theorem gX7_exchange_X7_place : GoodIn wsX7_exchange (wsV RX7 60 RX7 yX7_place wsX7_place) := goodIn_app (goodIn_of _ (by decide +kernel)) ggX7_exchange_X7_place
theorem dX7_exchange_0 : decode cX7_exchange 0 = .ok (.aload_n 0, 1) := by decide +kernel
theorem dX7_exchange_1 : decode cX7_exchange 1 = .ok (.iload_n 1, 1) := by decide +kernel
theorem dX7_exchange_2 : decode cX7_exchange 2 = .ok (.invokevirtual 60, 3) := by decide +kernel
theorem dX7_exchange_5 : decode cX7_exchange 5 = .ok (.istore_n 3, 1) := by decide +kernel
theorem dX7_exchange_6 : decode cX7_exchange 6 = .ok (.aload_n 0, 1) := by decide +kernel
theorem dX7_exchange_7 : decode cX7_exchange 7 = .ok (.getfield 7, 3) := by decide +kernel
theorem dX7_exchange_10 : decode cX7_exchange 10 = .ok (.iconst 2, 1) := by decide +kernel
theorem dX7_exchange_11 : decode cX7_exchange 11 = .ok (.iload_n 1, 1) := by decide +kernel
theorem dX7_exchange_12 : decode cX7_exchange 12 = .ok (.iadd, 1) := by decide +kernel
theorem dX7_exchange_13 : decode cX7_exchange 13 = .ok (.aload_n 0, 1) := by decide +kernel
theorem dX7_exchange_14 : decode cX7_exchange 14 = .ok (.iload_n 2, 1) := by decide +kernel
theorem dX7_exchange_15 : decode cX7_exchange 15 = .ok (.invokevirtual 60, 3) := by decide +kernel
theorem dX7_exchange_18 : decode cX7_exchange 18 = .ok (.iastore, 1) := by decide +kernel
theorem dX7_exchange_19 : decode cX7_exchange 19 = .ok (.aload_n 0, 1) := by decide +kernel
theorem dX7_exchange_20 : decode cX7_exchange 20 = .ok (.getfield 7, 3) := by decide +kernel
theorem dX7_exchange_23 : decode cX7_exchange 23 = .ok (.iconst 2, 1) := by decide +kernel
theorem dX7_exchange_24 : decode cX7_exchange 24 = .ok (.iload_n 2, 1) := by decide +kernel
theorem dX7_exchange_25 : decode cX7_exchange 25 = .ok (.iadd, 1) := by decide +kernel
theorem dX7_exchange_26 : decode cX7_exchange 26 = .ok (.iload_n 3, 1) := by decide +kernel
theorem dX7_exchange_27 : decode cX7_exchange 27 = .ok (.iastore, 1) := by decide +kernel
theorem dX7_exchange_28 : decode cX7_exchange 28 = .ok (.return_, 1) := by decide +kernel
set_option maxRecDepth 20000 in
theorem ggX7_whyNoPair_X7_isPost : GoodIn wsX7_whyNoPair wsX7_isPost := goodIn_r _ [4, 5, 6, 3, 7] (by decide +kernel) (by decide +kernel)
set_option maxRecDepth 20000 in
theorem gX7_whyNoPair_X7_isPost : GoodIn wsX7_whyNoPair (va_wsS RX7 68 yX7_isPost wsX7_isPost) := goodIn_app (goodIn_of _ (by decide +kernel)) ggX7_whyNoPair_X7_isPost
theorem dX7_whyNoPair_0 : decode cX7_whyNoPair 0 = .ok (.iload_n 0, 1) := by decide +kernel
theorem dX7_whyNoPair_1 : decode cX7_whyNoPair 1 = .ok (.invokestatic 68, 3) := by decide +kernel
theorem dX7_whyNoPair_4 : decode cX7_whyNoPair 4 = .ok (.ifCond .eq 10, 3) := by decide +kernel
theorem dX7_whyNoPair_7 : decode cX7_whyNoPair 7 = .ok (.iload_n 1, 1) := by decide +kernel
theorem dX7_whyNoPair_8 : decode cX7_whyNoPair 8 = .ok (.invokestatic 68, 3) := by decide +kernel
theorem dX7_whyNoPair_11 : decode cX7_whyNoPair 11 = .ok (.ifCond .ne 5, 3) := by decide +kernel
theorem dX7_whyNoPair_14 : decode cX7_whyNoPair 14 = .ok (.iconst 1, 1) := by decide +kernel
theorem dX7_whyNoPair_15 : decode cX7_whyNoPair 15 = .ok (.ireturn, 1) := by decide +kernel
theorem dX7_whyNoPair_16 : decode cX7_whyNoPair 16 = .ok (.iload_n 0, 1) := by decide +kernel
theorem dX7_whyNoPair_17 : decode cX7_whyNoPair 17 = .ok (.iload_n 1, 1) := by decide +kernel
theorem dX7_whyNoPair_18 : decode cX7_whyNoPair 18 = .ok (.if_icmp .eq 12, 3) := by decide +kernel
theorem dX7_whyNoPair_21 : decode cX7_whyNoPair 21 = .ok (.iload_n 0, 1) := by decide +kernel
theorem dX7_whyNoPair_22 : decode cX7_whyNoPair 22 = .ok (.iconst 4, 1) := by decide +kernel
theorem dX7_whyNoPair_23 : decode cX7_whyNoPair 23 = .ok (.idiv, 1) := by decide +kernel
theorem dX7_whyNoPair_24 : decode cX7_whyNoPair 24 = .ok (.iload_n 1, 1) := by decide +kernel
theorem dX7_whyNoPair_25 : decode cX7_whyNoPair 25 = .ok (.iconst 4, 1) := by decide +kernel
theorem dX7_whyNoPair_26 : decode cX7_whyNoPair 26 = .ok (.idiv, 1) := by decide +kernel
theorem dX7_whyNoPair_27 : decode cX7_whyNoPair 27 = .ok (.if_icmp .eq 7, 3) := by decide +kernel
theorem dX7_whyNoPair_30 : decode cX7_whyNoPair 30 = .ok (.iconst 2, 1) := by decide +kernel
theorem dX7_whyNoPair_31 : decode cX7_whyNoPair 31 = .ok (.goto 4, 3) := by decide +kernel
theorem dX7_whyNoPair_34 : decode cX7_whyNoPair 34 = .ok (.iconst 0, 1) := by decide +kernel
theorem dX7_whyNoPair_35 : decode cX7_whyNoPair 35 = .ok (.ireturn, 1) := by decide +kernel
set_option maxRecDepth 20000 in
theorem ggX7_swap_X7_whyNoPair : GoodIn wsX7_swap wsX7_whyNoPair := goodIn_r _ [5, 6, 7, 4, 8, 9, 10, 11] (by decide +kernel) (by decide +kernel)
set_option maxRecDepth 20000 in
theorem gX7_swap_X7_whyNoPair : GoodIn wsX7_swap (va_wsS RX7 78 yX7_whyNoPair wsX7_whyNoPair) := goodIn_app (goodIn_of _ (by decide +kernel)) ggX7_swap_X7_whyNoPair
set_option maxRecDepth 20000 in
theorem ggX7_swap_X7_record : GoodIn wsX7_swap wsX7_record := goodIn_r _ [15, 16, 17, 18, 43, 44, 45, 46, 47, 48, 49, 50, 51, 52, 53, 54, 55] (by decide +kernel) (by decide +kernel)
set_option maxRecDepth 20000 in
theorem gX7_swap_X7_record : GoodIn wsX7_swap (wsV RX7 53 RX7 yX7_record wsX7_record) := goodIn_app (goodIn_of _ (by decide +kernel)) ggX7_swap_X7_record
set_option maxRecDepth 20000 in
theorem ggX7_swap_X7_exchange : GoodIn wsX7_swap wsX7_exchange := goodIn_r _ [22, 18, 23, 24, 25, 4, 26, 43, 44, 45, 46, 47, 48, 49, 50, 51, 52, 53, 54, 55] (by decide +kernel) (by decide +kernel)
set_option maxRecDepth 20000 in
theorem gX7_swap_X7_exchange : GoodIn wsX7_swap (wsV RX7 81 RX7 yX7_exchange wsX7_exchange) := goodIn_app (goodIn_of _ (by decide +kernel)) ggX7_swap_X7_exchange
set_option maxRecDepth 20000 in
theorem ggX7_swap_X7_crossings : GoodIn wsX7_swap wsX7_crossings := goodIn_r _ [30, 18, 31, 32, 33, 4, 34, 35, 36, 37, 38, 39, 40, 41, 42, 23, 24, 25, 26, 43, 44, 45, 46, 47, 48, 49, 50, 51, 52, 53, 54, 55] (by decide +kernel) (by decide +kernel)
set_option maxRecDepth 20000 in
theorem gX7_swap_X7_crossings : GoodIn wsX7_swap (wsV RX7 85 RX7 yX7_crossings wsX7_crossings) := goodIn_app (goodIn_of _ (by decide +kernel)) ggX7_swap_X7_crossings
theorem dX7_swap_0 : decode cX7_swap 0 = .ok (.aload_n 0, 1) := by decide +kernel
theorem dX7_swap_1 : decode cX7_swap 1 = .ok (.iload_n 1, 1) := by decide +kernel
theorem dX7_swap_2 : decode cX7_swap 2 = .ok (.iload_n 2, 1) := by decide +kernel
theorem dX7_swap_3 : decode cX7_swap 3 = .ok (.invokestatic 78, 3) := by decide +kernel
theorem dX7_swap_6 : decode cX7_swap 6 = .ok (.putfield 38, 3) := by decide +kernel
theorem dX7_swap_9 : decode cX7_swap 9 = .ok (.aload_n 0, 1) := by decide +kernel
theorem dX7_swap_10 : decode cX7_swap 10 = .ok (.getfield 38, 3) := by decide +kernel
theorem dX7_swap_13 : decode cX7_swap 13 = .ok (.ifCond .le 5, 3) := by decide +kernel
theorem dX7_swap_16 : decode cX7_swap 16 = .ok (.iconst 0, 1) := by decide +kernel
theorem dX7_swap_17 : decode cX7_swap 17 = .ok (.ireturn, 1) := by decide +kernel
theorem dX7_swap_18 : decode cX7_swap 18 = .ok (.aload_n 0, 1) := by decide +kernel
theorem dX7_swap_19 : decode cX7_swap 19 = .ok (.invokevirtual 53, 3) := by decide +kernel
theorem dX7_swap_22 : decode cX7_swap 22 = .ok (.aload_n 0, 1) := by decide +kernel
theorem dX7_swap_23 : decode cX7_swap 23 = .ok (.iload_n 1, 1) := by decide +kernel
theorem dX7_swap_24 : decode cX7_swap 24 = .ok (.iload_n 2, 1) := by decide +kernel
theorem dX7_swap_25 : decode cX7_swap 25 = .ok (.invokevirtual 81, 3) := by decide +kernel
theorem dX7_swap_28 : decode cX7_swap 28 = .ok (.aload_n 0, 1) := by decide +kernel
theorem dX7_swap_29 : decode cX7_swap 29 = .ok (.invokevirtual 85, 3) := by decide +kernel
theorem dX7_swap_32 : decode cX7_swap 32 = .ok (.ireturn, 1) := by decide +kernel
set_option maxRecDepth 20000 in
theorem ggX7_isAhead_X7_place : GoodIn wsX7_isAhead wsX7_place := goodIn_r _ [7, 8, 9, 10, 11, 12, 13, 14, 15, 16, 17, 18, 19, 20, 21] (by decide +kernel) (by decide +kernel)
set_option maxRecDepth 20000 in
theorem gX7_isAhead_X7_place : GoodIn wsX7_isAhead (wsV RX7 60 RX7 yX7_place wsX7_place) := goodIn_app (goodIn_of _ (by decide +kernel)) ggX7_isAhead_X7_place
theorem dX7_isAhead_0 : decode cX7_isAhead 0 = .ok (.aload_n 0, 1) := by decide +kernel
theorem dX7_isAhead_1 : decode cX7_isAhead 1 = .ok (.getfield 29, 3) := by decide +kernel
theorem dX7_isAhead_4 : decode cX7_isAhead 4 = .ok (.iload_n 2, 1) := by decide +kernel
theorem dX7_isAhead_5 : decode cX7_isAhead 5 = .ok (.iaload, 1) := by decide +kernel
theorem dX7_isAhead_6 : decode cX7_isAhead 6 = .ok (.aload_n 0, 1) := by decide +kernel
theorem dX7_isAhead_7 : decode cX7_isAhead 7 = .ok (.getfield 32, 3) := by decide +kernel
theorem dX7_isAhead_10 : decode cX7_isAhead 10 = .ok (.iload_n 3, 1) := by decide +kernel
theorem dX7_isAhead_11 : decode cX7_isAhead 11 = .ok (.iaload, 1) := by decide +kernel
theorem dX7_isAhead_12 : decode cX7_isAhead 12 = .ok (.imul, 1) := by decide +kernel
theorem dX7_isAhead_13 : decode cX7_isAhead 13 = .ok (.istore 4, 2) := by decide +kernel
theorem dX7_isAhead_15 : decode cX7_isAhead 15 = .ok (.aload_n 0, 1) := by decide +kernel
theorem dX7_isAhead_16 : decode cX7_isAhead 16 = .ok (.getfield 29, 3) := by decide +kernel
theorem dX7_isAhead_19 : decode cX7_isAhead 19 = .ok (.iload_n 3, 1) := by decide +kernel
theorem dX7_isAhead_20 : decode cX7_isAhead 20 = .ok (.iaload, 1) := by decide +kernel
theorem dX7_isAhead_21 : decode cX7_isAhead 21 = .ok (.aload_n 0, 1) := by decide +kernel
theorem dX7_isAhead_22 : decode cX7_isAhead 22 = .ok (.getfield 32, 3) := by decide +kernel
theorem dX7_isAhead_25 : decode cX7_isAhead 25 = .ok (.iload_n 2, 1) := by decide +kernel
theorem dX7_isAhead_26 : decode cX7_isAhead 26 = .ok (.iaload, 1) := by decide +kernel
theorem dX7_isAhead_27 : decode cX7_isAhead 27 = .ok (.imul, 1) := by decide +kernel
theorem dX7_isAhead_28 : decode cX7_isAhead 28 = .ok (.istore 5, 2) := by decide +kernel
theorem dX7_isAhead_30 : decode cX7_isAhead 30 = .ok (.iload 4, 2) := by decide +kernel
theorem dX7_isAhead_32 : decode cX7_isAhead 32 = .ok (.iload 5, 2) := by decide +kernel
theorem dX7_isAhead_34 : decode cX7_isAhead 34 = .ok (.if_icmp .lt 31, 3) := by decide +kernel
theorem dX7_isAhead_37 : decode cX7_isAhead 37 = .ok (.iload 4, 2) := by decide +kernel
theorem dX7_isAhead_39 : decode cX7_isAhead 39 = .ok (.iload 5, 2) := by decide +kernel
theorem dX7_isAhead_41 : decode cX7_isAhead 41 = .ok (.if_icmp .ne 28, 3) := by decide +kernel
theorem dX7_isAhead_44 : decode cX7_isAhead 44 = .ok (.aload_n 0, 1) := by decide +kernel
theorem dX7_isAhead_45 : decode cX7_isAhead 45 = .ok (.iconst 4, 1) := by decide +kernel
theorem dX7_isAhead_46 : decode cX7_isAhead 46 = .ok (.iload_n 1, 1) := by decide +kernel
theorem dX7_isAhead_47 : decode cX7_isAhead 47 = .ok (.imul, 1) := by decide +kernel
theorem dX7_isAhead_48 : decode cX7_isAhead 48 = .ok (.iload_n 2, 1) := by decide +kernel
theorem dX7_isAhead_49 : decode cX7_isAhead 49 = .ok (.iadd, 1) := by decide +kernel
theorem dX7_isAhead_50 : decode cX7_isAhead 50 = .ok (.invokevirtual 60, 3) := by decide +kernel
theorem dX7_isAhead_53 : decode cX7_isAhead 53 = .ok (.aload_n 0, 1) := by decide +kernel
theorem dX7_isAhead_54 : decode cX7_isAhead 54 = .ok (.iconst 4, 1) := by decide +kernel
theorem dX7_isAhead_55 : decode cX7_isAhead 55 = .ok (.iload_n 1, 1) := by decide +kernel
theorem dX7_isAhead_56 : decode cX7_isAhead 56 = .ok (.imul, 1) := by decide +kernel
theorem dX7_isAhead_57 : decode cX7_isAhead 57 = .ok (.iload_n 3, 1) := by decide +kernel
theorem dX7_isAhead_58 : decode cX7_isAhead 58 = .ok (.iadd, 1) := by decide +kernel
theorem dX7_isAhead_59 : decode cX7_isAhead 59 = .ok (.invokevirtual 60, 3) := by decide +kernel
theorem dX7_isAhead_62 : decode cX7_isAhead 62 = .ok (.if_icmp .ge 7, 3) := by decide +kernel
theorem dX7_isAhead_65 : decode cX7_isAhead 65 = .ok (.iconst 1, 1) := by decide +kernel
theorem dX7_isAhead_66 : decode cX7_isAhead 66 = .ok (.goto 4, 3) := by decide +kernel
theorem dX7_isAhead_69 : decode cX7_isAhead 69 = .ok (.iconst 0, 1) := by decide +kernel
theorem dX7_isAhead_70 : decode cX7_isAhead 70 = .ok (.ireturn, 1) := by decide +kernel
set_option maxRecDepth 20000 in
theorem ggX7_sweepColumn_X7_goesOn : GoodIn wsX7_sweepColumn wsX7_goesOn := goodIn_r _ [8, 9, 10, 11, 7, 12, 3, 21, 22, 23, 24, 25, 26, 27, 28, 29, 30, 31, 32, 33] (by decide +kernel) (by decide +kernel)
set_option maxRecDepth 20000 in
theorem gX7_sweepColumn_X7_goesOn : GoodIn wsX7_sweepColumn (wsV RX7 56 RX7 yX7_goesOn wsX7_goesOn) := goodIn_app (goodIn_of _ (by decide +kernel)) ggX7_sweepColumn_X7_goesOn
set_option maxRecDepth 20000 in
theorem ggX7_sweepColumn_X7_of : GoodIn wsX7_sweepColumn wsX7_of := goodIn_r _ [12, 3, 21, 22, 23, 24, 25, 26, 27, 28, 29, 30, 31, 32, 33] (by decide +kernel) (by decide +kernel)
set_option maxRecDepth 20000 in
theorem gX7_sweepColumn_X7_of : GoodIn wsX7_sweepColumn (wsV RX7 46 RX7 yX7_of wsX7_of) := goodIn_app (goodIn_of _ (by decide +kernel)) ggX7_sweepColumn_X7_of
set_option maxRecDepth 20000 in
theorem ggX7_sweepColumn_X7_place : GoodIn wsX7_sweepColumn wsX7_place := goodIn_r _ [16, 3, 21, 22, 23, 24, 25, 26, 27, 28, 29, 30, 31, 32, 33] (by decide +kernel) (by decide +kernel)
set_option maxRecDepth 20000 in
theorem gX7_sweepColumn_X7_place : GoodIn wsX7_sweepColumn (wsV RX7 60 RX7 yX7_place wsX7_place) := goodIn_app (goodIn_of _ (by decide +kernel)) ggX7_sweepColumn_X7_place
set_option maxRecDepth 20000 in
theorem ggX7_sweepColumn_X7_isAhead : GoodIn wsX7_sweepColumn wsX7_isAhead := goodIn_r _ [20, 1, 2, 13, 14, 15, 7, 16, 3, 21, 22, 23, 24, 25, 26, 27, 28, 29, 30, 31, 32, 33] (by decide +kernel) (by decide +kernel)
set_option maxRecDepth 20000 in
theorem gX7_sweepColumn_X7_isAhead : GoodIn wsX7_sweepColumn (wsV RX7 89 RX7 yX7_isAhead wsX7_isAhead) := goodIn_app (goodIn_of _ (by decide +kernel)) ggX7_sweepColumn_X7_isAhead
theorem dX7_sweepColumn_0 : decode cX7_sweepColumn 0 = .ok (.iconst 0, 1) := by decide +kernel
theorem dX7_sweepColumn_1 : decode cX7_sweepColumn 1 = .ok (.istore_n 2, 1) := by decide +kernel
theorem dX7_sweepColumn_2 : decode cX7_sweepColumn 2 = .ok (.iload_n 2, 1) := by decide +kernel
theorem dX7_sweepColumn_3 : decode cX7_sweepColumn 3 = .ok (.iconst 4, 1) := by decide +kernel
theorem dX7_sweepColumn_4 : decode cX7_sweepColumn 4 = .ok (.if_icmp .ge 23, 3) := by decide +kernel
theorem dX7_sweepColumn_7 : decode cX7_sweepColumn 7 = .ok (.aload_n 0, 1) := by decide +kernel
theorem dX7_sweepColumn_8 : decode cX7_sweepColumn 8 = .ok (.getfield 29, 3) := by decide +kernel
theorem dX7_sweepColumn_11 : decode cX7_sweepColumn 11 = .ok (.iload_n 2, 1) := by decide +kernel
theorem dX7_sweepColumn_12 : decode cX7_sweepColumn 12 = .ok (.iconst 0, 1) := by decide +kernel
theorem dX7_sweepColumn_13 : decode cX7_sweepColumn 13 = .ok (.iastore, 1) := by decide +kernel
theorem dX7_sweepColumn_14 : decode cX7_sweepColumn 14 = .ok (.aload_n 0, 1) := by decide +kernel
theorem dX7_sweepColumn_15 : decode cX7_sweepColumn 15 = .ok (.getfield 32, 3) := by decide +kernel
theorem dX7_sweepColumn_18 : decode cX7_sweepColumn 18 = .ok (.iload_n 2, 1) := by decide +kernel
theorem dX7_sweepColumn_19 : decode cX7_sweepColumn 19 = .ok (.iconst 0, 1) := by decide +kernel
theorem dX7_sweepColumn_20 : decode cX7_sweepColumn 20 = .ok (.iastore, 1) := by decide +kernel
theorem dX7_sweepColumn_21 : decode cX7_sweepColumn 21 = .ok (.iinc 2 1, 3) := by decide +kernel
theorem dX7_sweepColumn_24 : decode cX7_sweepColumn 24 = .ok (.goto (-22), 3) := by decide +kernel
theorem dX7_sweepColumn_27 : decode cX7_sweepColumn 27 = .ok (.iconst 0, 1) := by decide +kernel
theorem dX7_sweepColumn_28 : decode cX7_sweepColumn 28 = .ok (.istore_n 2, 1) := by decide +kernel
theorem dX7_sweepColumn_29 : decode cX7_sweepColumn 29 = .ok (.iload_n 2, 1) := by decide +kernel
theorem dX7_sweepColumn_30 : decode cX7_sweepColumn 30 = .ok (.aload_n 0, 1) := by decide +kernel
theorem dX7_sweepColumn_31 : decode cX7_sweepColumn 31 = .ok (.getfield 7, 3) := by decide +kernel
theorem dX7_sweepColumn_34 : decode cX7_sweepColumn 34 = .ok (.iconst 0, 1) := by decide +kernel
theorem dX7_sweepColumn_35 : decode cX7_sweepColumn 35 = .ok (.iaload, 1) := by decide +kernel
theorem dX7_sweepColumn_36 : decode cX7_sweepColumn 36 = .ok (.if_icmp .ge 72, 3) := by decide +kernel
theorem dX7_sweepColumn_39 : decode cX7_sweepColumn 39 = .ok (.aload_n 0, 1) := by decide +kernel
theorem dX7_sweepColumn_40 : decode cX7_sweepColumn 40 = .ok (.iload_n 2, 1) := by decide +kernel
theorem dX7_sweepColumn_41 : decode cX7_sweepColumn 41 = .ok (.invokevirtual 56, 3) := by decide +kernel
theorem dX7_sweepColumn_44 : decode cX7_sweepColumn 44 = .ok (.ifCond .eq 58, 3) := by decide +kernel
theorem dX7_sweepColumn_47 : decode cX7_sweepColumn 47 = .ok (.aload_n 0, 1) := by decide +kernel
theorem dX7_sweepColumn_48 : decode cX7_sweepColumn 48 = .ok (.iload_n 2, 1) := by decide +kernel
theorem dX7_sweepColumn_49 : decode cX7_sweepColumn 49 = .ok (.iconst 1, 1) := by decide +kernel
theorem dX7_sweepColumn_50 : decode cX7_sweepColumn 50 = .ok (.invokevirtual 46, 3) := by decide +kernel
theorem dX7_sweepColumn_53 : decode cX7_sweepColumn 53 = .ok (.iconst 4, 1) := by decide +kernel
theorem dX7_sweepColumn_54 : decode cX7_sweepColumn 54 = .ok (.idiv, 1) := by decide +kernel
theorem dX7_sweepColumn_55 : decode cX7_sweepColumn 55 = .ok (.iload_n 1, 1) := by decide +kernel
theorem dX7_sweepColumn_56 : decode cX7_sweepColumn 56 = .ok (.if_icmp .ne 46, 3) := by decide +kernel
theorem dX7_sweepColumn_59 : decode cX7_sweepColumn 59 = .ok (.aload_n 0, 1) := by decide +kernel
theorem dX7_sweepColumn_60 : decode cX7_sweepColumn 60 = .ok (.getfield 29, 3) := by decide +kernel
theorem dX7_sweepColumn_63 : decode cX7_sweepColumn 63 = .ok (.aload_n 0, 1) := by decide +kernel
theorem dX7_sweepColumn_64 : decode cX7_sweepColumn 64 = .ok (.iload_n 2, 1) := by decide +kernel
theorem dX7_sweepColumn_65 : decode cX7_sweepColumn 65 = .ok (.iconst 1, 1) := by decide +kernel
theorem dX7_sweepColumn_66 : decode cX7_sweepColumn 66 = .ok (.invokevirtual 46, 3) := by decide +kernel
theorem dX7_sweepColumn_69 : decode cX7_sweepColumn 69 = .ok (.iconst 4, 1) := by decide +kernel
theorem dX7_sweepColumn_70 : decode cX7_sweepColumn 70 = .ok (.irem, 1) := by decide +kernel
theorem dX7_sweepColumn_71 : decode cX7_sweepColumn 71 = .ok (.dup2, 1) := by decide +kernel
theorem dX7_sweepColumn_72 : decode cX7_sweepColumn 72 = .ok (.iaload, 1) := by decide +kernel
theorem dX7_sweepColumn_73 : decode cX7_sweepColumn 73 = .ok (.aload_n 0, 1) := by decide +kernel
theorem dX7_sweepColumn_74 : decode cX7_sweepColumn 74 = .ok (.aload_n 0, 1) := by decide +kernel
theorem dX7_sweepColumn_75 : decode cX7_sweepColumn 75 = .ok (.iload_n 2, 1) := by decide +kernel
theorem dX7_sweepColumn_76 : decode cX7_sweepColumn 76 = .ok (.iconst 0, 1) := by decide +kernel
theorem dX7_sweepColumn_77 : decode cX7_sweepColumn 77 = .ok (.invokevirtual 46, 3) := by decide +kernel
theorem dX7_sweepColumn_80 : decode cX7_sweepColumn 80 = .ok (.invokevirtual 60, 3) := by decide +kernel
theorem dX7_sweepColumn_83 : decode cX7_sweepColumn 83 = .ok (.iadd, 1) := by decide +kernel
theorem dX7_sweepColumn_84 : decode cX7_sweepColumn 84 = .ok (.iastore, 1) := by decide +kernel
theorem dX7_sweepColumn_85 : decode cX7_sweepColumn 85 = .ok (.aload_n 0, 1) := by decide +kernel
theorem dX7_sweepColumn_86 : decode cX7_sweepColumn 86 = .ok (.getfield 32, 3) := by decide +kernel
theorem dX7_sweepColumn_89 : decode cX7_sweepColumn 89 = .ok (.aload_n 0, 1) := by decide +kernel
theorem dX7_sweepColumn_90 : decode cX7_sweepColumn 90 = .ok (.iload_n 2, 1) := by decide +kernel
theorem dX7_sweepColumn_91 : decode cX7_sweepColumn 91 = .ok (.iconst 1, 1) := by decide +kernel
theorem dX7_sweepColumn_92 : decode cX7_sweepColumn 92 = .ok (.invokevirtual 46, 3) := by decide +kernel
theorem dX7_sweepColumn_95 : decode cX7_sweepColumn 95 = .ok (.iconst 4, 1) := by decide +kernel
theorem dX7_sweepColumn_96 : decode cX7_sweepColumn 96 = .ok (.irem, 1) := by decide +kernel
theorem dX7_sweepColumn_97 : decode cX7_sweepColumn 97 = .ok (.dup2, 1) := by decide +kernel
theorem dX7_sweepColumn_98 : decode cX7_sweepColumn 98 = .ok (.iaload, 1) := by decide +kernel
theorem dX7_sweepColumn_99 : decode cX7_sweepColumn 99 = .ok (.iconst 1, 1) := by decide +kernel
theorem dX7_sweepColumn_100 : decode cX7_sweepColumn 100 = .ok (.iadd, 1) := by decide +kernel
theorem dX7_sweepColumn_101 : decode cX7_sweepColumn 101 = .ok (.iastore, 1) := by decide +kernel
theorem dX7_sweepColumn_102 : decode cX7_sweepColumn 102 = .ok (.iinc 2 1, 3) := by decide +kernel
theorem dX7_sweepColumn_105 : decode cX7_sweepColumn 105 = .ok (.goto (-76), 3) := by decide +kernel
theorem dX7_sweepColumn_108 : decode cX7_sweepColumn 108 = .ok (.iconst 0, 1) := by decide +kernel
theorem dX7_sweepColumn_109 : decode cX7_sweepColumn 109 = .ok (.istore_n 2, 1) := by decide +kernel
theorem dX7_sweepColumn_110 : decode cX7_sweepColumn 110 = .ok (.iload_n 2, 1) := by decide +kernel
theorem dX7_sweepColumn_111 : decode cX7_sweepColumn 111 = .ok (.iconst 4, 1) := by decide +kernel
theorem dX7_sweepColumn_112 : decode cX7_sweepColumn 112 = .ok (.if_icmp .ge 67, 3) := by decide +kernel
theorem dX7_sweepColumn_115 : decode cX7_sweepColumn 115 = .ok (.aload_n 0, 1) := by decide +kernel
theorem dX7_sweepColumn_116 : decode cX7_sweepColumn 116 = .ok (.getfield 29, 3) := by decide +kernel
theorem dX7_sweepColumn_119 : decode cX7_sweepColumn 119 = .ok (.iload_n 2, 1) := by decide +kernel
theorem dX7_sweepColumn_120 : decode cX7_sweepColumn 120 = .ok (.aload_n 0, 1) := by decide +kernel
theorem dX7_sweepColumn_121 : decode cX7_sweepColumn 121 = .ok (.getfield 32, 3) := by decide +kernel
theorem dX7_sweepColumn_124 : decode cX7_sweepColumn 124 = .ok (.iload_n 2, 1) := by decide +kernel
theorem dX7_sweepColumn_125 : decode cX7_sweepColumn 125 = .ok (.iaload, 1) := by decide +kernel
theorem dX7_sweepColumn_126 : decode cX7_sweepColumn 126 = .ok (.ifCond .ne 15, 3) := by decide +kernel
theorem dX7_sweepColumn_129 : decode cX7_sweepColumn 129 = .ok (.aload_n 0, 1) := by decide +kernel
theorem dX7_sweepColumn_130 : decode cX7_sweepColumn 130 = .ok (.iconst 4, 1) := by decide +kernel
theorem dX7_sweepColumn_131 : decode cX7_sweepColumn 131 = .ok (.iload_n 1, 1) := by decide +kernel
theorem dX7_sweepColumn_132 : decode cX7_sweepColumn 132 = .ok (.imul, 1) := by decide +kernel
theorem dX7_sweepColumn_133 : decode cX7_sweepColumn 133 = .ok (.iload_n 2, 1) := by decide +kernel
theorem dX7_sweepColumn_134 : decode cX7_sweepColumn 134 = .ok (.iadd, 1) := by decide +kernel
theorem dX7_sweepColumn_135 : decode cX7_sweepColumn 135 = .ok (.invokevirtual 60, 3) := by decide +kernel
theorem dX7_sweepColumn_138 : decode cX7_sweepColumn 138 = .ok (.goto 9, 3) := by decide +kernel
theorem dX7_sweepColumn_141 : decode cX7_sweepColumn 141 = .ok (.aload_n 0, 1) := by decide +kernel
theorem dX7_sweepColumn_142 : decode cX7_sweepColumn 142 = .ok (.getfield 29, 3) := by decide +kernel
theorem dX7_sweepColumn_145 : decode cX7_sweepColumn 145 = .ok (.iload_n 2, 1) := by decide +kernel
theorem dX7_sweepColumn_146 : decode cX7_sweepColumn 146 = .ok (.iaload, 1) := by decide +kernel
theorem dX7_sweepColumn_147 : decode cX7_sweepColumn 147 = .ok (.iastore, 1) := by decide +kernel
theorem dX7_sweepColumn_148 : decode cX7_sweepColumn 148 = .ok (.aload_n 0, 1) := by decide +kernel
theorem dX7_sweepColumn_149 : decode cX7_sweepColumn 149 = .ok (.getfield 32, 3) := by decide +kernel
theorem dX7_sweepColumn_152 : decode cX7_sweepColumn 152 = .ok (.iload_n 2, 1) := by decide +kernel
theorem dX7_sweepColumn_153 : decode cX7_sweepColumn 153 = .ok (.aload_n 0, 1) := by decide +kernel
theorem dX7_sweepColumn_154 : decode cX7_sweepColumn 154 = .ok (.getfield 32, 3) := by decide +kernel
theorem dX7_sweepColumn_157 : decode cX7_sweepColumn 157 = .ok (.iload_n 2, 1) := by decide +kernel
theorem dX7_sweepColumn_158 : decode cX7_sweepColumn 158 = .ok (.iaload, 1) := by decide +kernel
theorem dX7_sweepColumn_159 : decode cX7_sweepColumn 159 = .ok (.ifCond .ne 7, 3) := by decide +kernel
theorem dX7_sweepColumn_162 : decode cX7_sweepColumn 162 = .ok (.iconst 1, 1) := by decide +kernel
theorem dX7_sweepColumn_163 : decode cX7_sweepColumn 163 = .ok (.goto 9, 3) := by decide +kernel
theorem dX7_sweepColumn_166 : decode cX7_sweepColumn 166 = .ok (.aload_n 0, 1) := by decide +kernel
theorem dX7_sweepColumn_167 : decode cX7_sweepColumn 167 = .ok (.getfield 32, 3) := by decide +kernel
theorem dX7_sweepColumn_170 : decode cX7_sweepColumn 170 = .ok (.iload_n 2, 1) := by decide +kernel
theorem dX7_sweepColumn_171 : decode cX7_sweepColumn 171 = .ok (.iaload, 1) := by decide +kernel
theorem dX7_sweepColumn_172 : decode cX7_sweepColumn 172 = .ok (.iastore, 1) := by decide +kernel
theorem dX7_sweepColumn_173 : decode cX7_sweepColumn 173 = .ok (.iinc 2 1, 3) := by decide +kernel
theorem dX7_sweepColumn_176 : decode cX7_sweepColumn 176 = .ok (.goto (-66), 3) := by decide +kernel
theorem dX7_sweepColumn_179 : decode cX7_sweepColumn 179 = .ok (.iconst 0, 1) := by decide +kernel
theorem dX7_sweepColumn_180 : decode cX7_sweepColumn 180 = .ok (.istore_n 2, 1) := by decide +kernel
theorem dX7_sweepColumn_181 : decode cX7_sweepColumn 181 = .ok (.iconst 3, 1) := by decide +kernel
theorem dX7_sweepColumn_182 : decode cX7_sweepColumn 182 = .ok (.istore_n 3, 1) := by decide +kernel
theorem dX7_sweepColumn_183 : decode cX7_sweepColumn 183 = .ok (.iload_n 3, 1) := by decide +kernel
theorem dX7_sweepColumn_184 : decode cX7_sweepColumn 184 = .ok (.ifCond .lt 61, 3) := by decide +kernel
theorem dX7_sweepColumn_187 : decode cX7_sweepColumn 187 = .ok (.iconst 0, 1) := by decide +kernel
theorem dX7_sweepColumn_188 : decode cX7_sweepColumn 188 = .ok (.istore 4, 2) := by decide +kernel
theorem dX7_sweepColumn_190 : decode cX7_sweepColumn 190 = .ok (.iconst 0, 1) := by decide +kernel
theorem dX7_sweepColumn_191 : decode cX7_sweepColumn 191 = .ok (.istore 5, 2) := by decide +kernel
theorem dX7_sweepColumn_193 : decode cX7_sweepColumn 193 = .ok (.iload 5, 2) := by decide +kernel
theorem dX7_sweepColumn_195 : decode cX7_sweepColumn 195 = .ok (.iconst 4, 1) := by decide +kernel
theorem dX7_sweepColumn_196 : decode cX7_sweepColumn 196 = .ok (.if_icmp .ge 36, 3) := by decide +kernel
theorem dX7_sweepColumn_199 : decode cX7_sweepColumn 199 = .ok (.iload 4, 2) := by decide +kernel
theorem dX7_sweepColumn_201 : decode cX7_sweepColumn 201 = .ok (.iload 5, 2) := by decide +kernel
theorem dX7_sweepColumn_203 : decode cX7_sweepColumn 203 = .ok (.iload_n 3, 1) := by decide +kernel
theorem dX7_sweepColumn_204 : decode cX7_sweepColumn 204 = .ok (.if_icmp .eq 18, 3) := by decide +kernel
theorem dX7_sweepColumn_207 : decode cX7_sweepColumn 207 = .ok (.aload_n 0, 1) := by decide +kernel
theorem dX7_sweepColumn_208 : decode cX7_sweepColumn 208 = .ok (.iload_n 1, 1) := by decide +kernel
theorem dX7_sweepColumn_209 : decode cX7_sweepColumn 209 = .ok (.iload 5, 2) := by decide +kernel
theorem dX7_sweepColumn_211 : decode cX7_sweepColumn 211 = .ok (.iload_n 3, 1) := by decide +kernel
theorem dX7_sweepColumn_212 : decode cX7_sweepColumn 212 = .ok (.invokevirtual 89, 3) := by decide +kernel
theorem dX7_sweepColumn_215 : decode cX7_sweepColumn 215 = .ok (.ifCond .eq 7, 3) := by decide +kernel
theorem dX7_sweepColumn_218 : decode cX7_sweepColumn 218 = .ok (.iconst 1, 1) := by decide +kernel
theorem dX7_sweepColumn_219 : decode cX7_sweepColumn 219 = .ok (.goto 4, 3) := by decide +kernel
theorem dX7_sweepColumn_222 : decode cX7_sweepColumn 222 = .ok (.iconst 0, 1) := by decide +kernel
theorem dX7_sweepColumn_223 : decode cX7_sweepColumn 223 = .ok (.iadd, 1) := by decide +kernel
theorem dX7_sweepColumn_224 : decode cX7_sweepColumn 224 = .ok (.istore 4, 2) := by decide +kernel
theorem dX7_sweepColumn_226 : decode cX7_sweepColumn 226 = .ok (.iinc 5 1, 3) := by decide +kernel
theorem dX7_sweepColumn_229 : decode cX7_sweepColumn 229 = .ok (.goto (-36), 3) := by decide +kernel
theorem dX7_sweepColumn_232 : decode cX7_sweepColumn 232 = .ok (.iconst 4, 1) := by decide +kernel
theorem dX7_sweepColumn_233 : decode cX7_sweepColumn 233 = .ok (.iload_n 2, 1) := by decide +kernel
theorem dX7_sweepColumn_234 : decode cX7_sweepColumn 234 = .ok (.imul, 1) := by decide +kernel
theorem dX7_sweepColumn_235 : decode cX7_sweepColumn 235 = .ok (.iload 4, 2) := by decide +kernel
theorem dX7_sweepColumn_237 : decode cX7_sweepColumn 237 = .ok (.iadd, 1) := by decide +kernel
theorem dX7_sweepColumn_238 : decode cX7_sweepColumn 238 = .ok (.istore_n 2, 1) := by decide +kernel
theorem dX7_sweepColumn_239 : decode cX7_sweepColumn 239 = .ok (.iinc 3 (-1), 3) := by decide +kernel
theorem dX7_sweepColumn_242 : decode cX7_sweepColumn 242 = .ok (.goto (-59), 3) := by decide +kernel
theorem dX7_sweepColumn_245 : decode cX7_sweepColumn 245 = .ok (.iconst 0, 1) := by decide +kernel
theorem dX7_sweepColumn_246 : decode cX7_sweepColumn 246 = .ok (.istore_n 3, 1) := by decide +kernel
theorem dX7_sweepColumn_247 : decode cX7_sweepColumn 247 = .ok (.iload_n 3, 1) := by decide +kernel
theorem dX7_sweepColumn_248 : decode cX7_sweepColumn 248 = .ok (.iconst 4, 1) := by decide +kernel
theorem dX7_sweepColumn_249 : decode cX7_sweepColumn 249 = .ok (.if_icmp .ge 28, 3) := by decide +kernel
theorem dX7_sweepColumn_252 : decode cX7_sweepColumn 252 = .ok (.aload_n 0, 1) := by decide +kernel
theorem dX7_sweepColumn_253 : decode cX7_sweepColumn 253 = .ok (.getfield 7, 3) := by decide +kernel
theorem dX7_sweepColumn_256 : decode cX7_sweepColumn 256 = .ok (.iconst 2, 1) := by decide +kernel
theorem dX7_sweepColumn_257 : decode cX7_sweepColumn 257 = .ok (.iconst 4, 1) := by decide +kernel
theorem dX7_sweepColumn_258 : decode cX7_sweepColumn 258 = .ok (.iload_n 1, 1) := by decide +kernel
theorem dX7_sweepColumn_259 : decode cX7_sweepColumn 259 = .ok (.imul, 1) := by decide +kernel
theorem dX7_sweepColumn_260 : decode cX7_sweepColumn 260 = .ok (.iadd, 1) := by decide +kernel
theorem dX7_sweepColumn_261 : decode cX7_sweepColumn 261 = .ok (.iload_n 3, 1) := by decide +kernel
theorem dX7_sweepColumn_262 : decode cX7_sweepColumn 262 = .ok (.iadd, 1) := by decide +kernel
theorem dX7_sweepColumn_263 : decode cX7_sweepColumn 263 = .ok (.iload_n 2, 1) := by decide +kernel
theorem dX7_sweepColumn_264 : decode cX7_sweepColumn 264 = .ok (.iconst 2, 1) := by decide +kernel
theorem dX7_sweepColumn_265 : decode cX7_sweepColumn 265 = .ok (.iload_n 3, 1) := by decide +kernel
theorem dX7_sweepColumn_266 : decode cX7_sweepColumn 266 = .ok (.imul, 1) := by decide +kernel
theorem dX7_sweepColumn_267 : decode cX7_sweepColumn 267 = .ok (.ishr, 1) := by decide +kernel
theorem dX7_sweepColumn_268 : decode cX7_sweepColumn 268 = .ok (.iconst 3, 1) := by decide +kernel
theorem dX7_sweepColumn_269 : decode cX7_sweepColumn 269 = .ok (.iand, 1) := by decide +kernel
theorem dX7_sweepColumn_270 : decode cX7_sweepColumn 270 = .ok (.iastore, 1) := by decide +kernel
theorem dX7_sweepColumn_271 : decode cX7_sweepColumn 271 = .ok (.iinc 3 1, 3) := by decide +kernel
theorem dX7_sweepColumn_274 : decode cX7_sweepColumn 274 = .ok (.goto (-27), 3) := by decide +kernel
theorem dX7_sweepColumn_277 : decode cX7_sweepColumn 277 = .ok (.return_, 1) := by decide +kernel
set_option maxRecDepth 20000 in
theorem ggX7_sweep_X7_record : GoodIn wsX7_sweep wsX7_record := goodIn_r _ [6, 7, 8, 9, 40, 41, 42, 43, 44, 45, 46, 47, 48, 49, 50, 51, 52] (by decide +kernel) (by decide +kernel)
set_option maxRecDepth 20000 in
theorem gX7_sweep_X7_record : GoodIn wsX7_sweep (wsV RX7 53 RX7 yX7_record wsX7_record) := goodIn_app (goodIn_of _ (by decide +kernel)) ggX7_sweep_X7_record
set_option maxRecDepth 20000 in
theorem ggX7_sweep_X7_sweepColumn : GoodIn wsX7_sweep wsX7_sweepColumn := goodIn_r _ [13, 14, 15, 9, 16, 17, 18, 5, 19, 20, 21, 22, 23, 24, 25, 26, 27, 28, 29, 30, 31, 40, 41, 42, 43, 44, 45, 46, 47, 48, 49, 50, 51, 52] (by decide +kernel) (by decide +kernel)
set_option maxRecDepth 20000 in
theorem gX7_sweep_X7_sweepColumn : GoodIn wsX7_sweep (wsV RX7 92 RX7 yX7_sweepColumn wsX7_sweepColumn) := goodIn_app (goodIn_of _ (by decide +kernel)) ggX7_sweep_X7_sweepColumn
set_option maxRecDepth 20000 in
theorem ggX7_sweep_X7_crossings : GoodIn wsX7_sweep wsX7_crossings := goodIn_r _ [35, 9, 20, 21, 22, 5, 23, 36, 37, 38, 39, 16, 17, 18, 19, 24, 25, 26, 27, 40, 41, 42, 43, 44, 45, 46, 47, 48, 49, 50, 51, 52] (by decide +kernel) (by decide +kernel)
set_option maxRecDepth 20000 in
theorem gX7_sweep_X7_crossings : GoodIn wsX7_sweep (wsV RX7 85 RX7 yX7_crossings wsX7_crossings) := goodIn_app (goodIn_of _ (by decide +kernel)) ggX7_sweep_X7_crossings
theorem dX7_sweep_0 : decode cX7_sweep 0 = .ok (.aload_n 0, 1) := by decide +kernel
theorem dX7_sweep_1 : decode cX7_sweep 1 = .ok (.iconst 0, 1) := by decide +kernel
theorem dX7_sweep_2 : decode cX7_sweep 2 = .ok (.putfield 38, 3) := by decide +kernel
theorem dX7_sweep_5 : decode cX7_sweep 5 = .ok (.aload_n 0, 1) := by decide +kernel
theorem dX7_sweep_6 : decode cX7_sweep 6 = .ok (.invokevirtual 53, 3) := by decide +kernel
theorem dX7_sweep_9 : decode cX7_sweep 9 = .ok (.iconst 1, 1) := by decide +kernel
theorem dX7_sweep_10 : decode cX7_sweep 10 = .ok (.istore_n 1, 1) := by decide +kernel
theorem dX7_sweep_11 : decode cX7_sweep 11 = .ok (.iload_n 1, 1) := by decide +kernel
theorem dX7_sweep_12 : decode cX7_sweep 12 = .ok (.iconst 4, 1) := by decide +kernel
theorem dX7_sweep_13 : decode cX7_sweep 13 = .ok (.if_icmp .ge 14, 3) := by decide +kernel
theorem dX7_sweep_16 : decode cX7_sweep 16 = .ok (.aload_n 0, 1) := by decide +kernel
theorem dX7_sweep_17 : decode cX7_sweep 17 = .ok (.iload_n 1, 1) := by decide +kernel
theorem dX7_sweep_18 : decode cX7_sweep 18 = .ok (.invokevirtual 92, 3) := by decide +kernel
theorem dX7_sweep_21 : decode cX7_sweep 21 = .ok (.iinc 1 1, 3) := by decide +kernel
theorem dX7_sweep_24 : decode cX7_sweep 24 = .ok (.goto (-13), 3) := by decide +kernel
theorem dX7_sweep_27 : decode cX7_sweep 27 = .ok (.aload_n 0, 1) := by decide +kernel
theorem dX7_sweep_28 : decode cX7_sweep 28 = .ok (.invokevirtual 85, 3) := by decide +kernel
theorem dX7_sweep_31 : decode cX7_sweep 31 = .ok (.ireturn, 1) := by decide +kernel
theorem dX7_areUnlike_0 : decode cX7_areUnlike 0 = .ok (.iload_n 0, 1) := by decide +kernel
theorem dX7_areUnlike_1 : decode cX7_areUnlike 1 = .ok (.iload_n 1, 1) := by decide +kernel
theorem dX7_areUnlike_2 : decode cX7_areUnlike 2 = .ok (.if_icmp .eq 32, 3) := by decide +kernel
theorem dX7_areUnlike_5 : decode cX7_areUnlike 5 = .ok (.iload_n 0, 1) := by decide +kernel
theorem dX7_areUnlike_6 : decode cX7_areUnlike 6 = .ok (.iload_n 2, 1) := by decide +kernel
theorem dX7_areUnlike_7 : decode cX7_areUnlike 7 = .ok (.if_icmp .eq 27, 3) := by decide +kernel
theorem dX7_areUnlike_10 : decode cX7_areUnlike 10 = .ok (.iload_n 0, 1) := by decide +kernel
theorem dX7_areUnlike_11 : decode cX7_areUnlike 11 = .ok (.iload_n 3, 1) := by decide +kernel
theorem dX7_areUnlike_12 : decode cX7_areUnlike 12 = .ok (.if_icmp .eq 22, 3) := by decide +kernel
theorem dX7_areUnlike_15 : decode cX7_areUnlike 15 = .ok (.iload_n 1, 1) := by decide +kernel
theorem dX7_areUnlike_16 : decode cX7_areUnlike 16 = .ok (.iload_n 2, 1) := by decide +kernel
theorem dX7_areUnlike_17 : decode cX7_areUnlike 17 = .ok (.if_icmp .eq 17, 3) := by decide +kernel
theorem dX7_areUnlike_20 : decode cX7_areUnlike 20 = .ok (.iload_n 1, 1) := by decide +kernel
theorem dX7_areUnlike_21 : decode cX7_areUnlike 21 = .ok (.iload_n 3, 1) := by decide +kernel
theorem dX7_areUnlike_22 : decode cX7_areUnlike 22 = .ok (.if_icmp .eq 12, 3) := by decide +kernel
theorem dX7_areUnlike_25 : decode cX7_areUnlike 25 = .ok (.iload_n 2, 1) := by decide +kernel
theorem dX7_areUnlike_26 : decode cX7_areUnlike 26 = .ok (.iload_n 3, 1) := by decide +kernel
theorem dX7_areUnlike_27 : decode cX7_areUnlike 27 = .ok (.if_icmp .eq 7, 3) := by decide +kernel
theorem dX7_areUnlike_30 : decode cX7_areUnlike 30 = .ok (.iconst 1, 1) := by decide +kernel
theorem dX7_areUnlike_31 : decode cX7_areUnlike 31 = .ok (.goto 4, 3) := by decide +kernel
theorem dX7_areUnlike_34 : decode cX7_areUnlike 34 = .ok (.iconst 0, 1) := by decide +kernel
theorem dX7_areUnlike_35 : decode cX7_areUnlike 35 = .ok (.ireturn, 1) := by decide +kernel
theorem dX7_putOrder_0 : decode cX7_putOrder 0 = .ok (.aload_n 0, 1) := by decide +kernel
theorem dX7_putOrder_1 : decode cX7_putOrder 1 = .ok (.getfield 7, 3) := by decide +kernel
theorem dX7_putOrder_4 : decode cX7_putOrder 4 = .ok (.iconst 2, 1) := by decide +kernel
theorem dX7_putOrder_5 : decode cX7_putOrder 5 = .ok (.iconst 4, 1) := by decide +kernel
theorem dX7_putOrder_6 : decode cX7_putOrder 6 = .ok (.iload_n 1, 1) := by decide +kernel
theorem dX7_putOrder_7 : decode cX7_putOrder 7 = .ok (.imul, 1) := by decide +kernel
theorem dX7_putOrder_8 : decode cX7_putOrder 8 = .ok (.iadd, 1) := by decide +kernel
theorem dX7_putOrder_9 : decode cX7_putOrder 9 = .ok (.iload_n 2, 1) := by decide +kernel
theorem dX7_putOrder_10 : decode cX7_putOrder 10 = .ok (.sipush 1000, 3) := by decide +kernel
theorem dX7_putOrder_13 : decode cX7_putOrder 13 = .ok (.idiv, 1) := by decide +kernel
theorem dX7_putOrder_14 : decode cX7_putOrder 14 = .ok (.iadd, 1) := by decide +kernel
theorem dX7_putOrder_15 : decode cX7_putOrder 15 = .ok (.iconst 0, 1) := by decide +kernel
theorem dX7_putOrder_16 : decode cX7_putOrder 16 = .ok (.iastore, 1) := by decide +kernel
theorem dX7_putOrder_17 : decode cX7_putOrder 17 = .ok (.aload_n 0, 1) := by decide +kernel
theorem dX7_putOrder_18 : decode cX7_putOrder 18 = .ok (.getfield 7, 3) := by decide +kernel
theorem dX7_putOrder_21 : decode cX7_putOrder 21 = .ok (.iconst 2, 1) := by decide +kernel
theorem dX7_putOrder_22 : decode cX7_putOrder 22 = .ok (.iconst 4, 1) := by decide +kernel
theorem dX7_putOrder_23 : decode cX7_putOrder 23 = .ok (.iload_n 1, 1) := by decide +kernel
theorem dX7_putOrder_24 : decode cX7_putOrder 24 = .ok (.imul, 1) := by decide +kernel
theorem dX7_putOrder_25 : decode cX7_putOrder 25 = .ok (.iadd, 1) := by decide +kernel
theorem dX7_putOrder_26 : decode cX7_putOrder 26 = .ok (.iload_n 2, 1) := by decide +kernel
theorem dX7_putOrder_27 : decode cX7_putOrder 27 = .ok (.bipush 100, 2) := by decide +kernel
theorem dX7_putOrder_29 : decode cX7_putOrder 29 = .ok (.idiv, 1) := by decide +kernel
theorem dX7_putOrder_30 : decode cX7_putOrder 30 = .ok (.bipush 10, 2) := by decide +kernel
theorem dX7_putOrder_32 : decode cX7_putOrder 32 = .ok (.irem, 1) := by decide +kernel
theorem dX7_putOrder_33 : decode cX7_putOrder 33 = .ok (.iadd, 1) := by decide +kernel
theorem dX7_putOrder_34 : decode cX7_putOrder 34 = .ok (.iconst 1, 1) := by decide +kernel
theorem dX7_putOrder_35 : decode cX7_putOrder 35 = .ok (.iastore, 1) := by decide +kernel
theorem dX7_putOrder_36 : decode cX7_putOrder 36 = .ok (.aload_n 0, 1) := by decide +kernel
theorem dX7_putOrder_37 : decode cX7_putOrder 37 = .ok (.getfield 7, 3) := by decide +kernel
theorem dX7_putOrder_40 : decode cX7_putOrder 40 = .ok (.iconst 2, 1) := by decide +kernel
theorem dX7_putOrder_41 : decode cX7_putOrder 41 = .ok (.iconst 4, 1) := by decide +kernel
theorem dX7_putOrder_42 : decode cX7_putOrder 42 = .ok (.iload_n 1, 1) := by decide +kernel
theorem dX7_putOrder_43 : decode cX7_putOrder 43 = .ok (.imul, 1) := by decide +kernel
theorem dX7_putOrder_44 : decode cX7_putOrder 44 = .ok (.iadd, 1) := by decide +kernel
theorem dX7_putOrder_45 : decode cX7_putOrder 45 = .ok (.iload_n 2, 1) := by decide +kernel
theorem dX7_putOrder_46 : decode cX7_putOrder 46 = .ok (.bipush 10, 2) := by decide +kernel
theorem dX7_putOrder_48 : decode cX7_putOrder 48 = .ok (.idiv, 1) := by decide +kernel
theorem dX7_putOrder_49 : decode cX7_putOrder 49 = .ok (.bipush 10, 2) := by decide +kernel
theorem dX7_putOrder_51 : decode cX7_putOrder 51 = .ok (.irem, 1) := by decide +kernel
theorem dX7_putOrder_52 : decode cX7_putOrder 52 = .ok (.iadd, 1) := by decide +kernel
theorem dX7_putOrder_53 : decode cX7_putOrder 53 = .ok (.iconst 2, 1) := by decide +kernel
theorem dX7_putOrder_54 : decode cX7_putOrder 54 = .ok (.iastore, 1) := by decide +kernel
theorem dX7_putOrder_55 : decode cX7_putOrder 55 = .ok (.aload_n 0, 1) := by decide +kernel
theorem dX7_putOrder_56 : decode cX7_putOrder 56 = .ok (.getfield 7, 3) := by decide +kernel
theorem dX7_putOrder_59 : decode cX7_putOrder 59 = .ok (.iconst 2, 1) := by decide +kernel
theorem dX7_putOrder_60 : decode cX7_putOrder 60 = .ok (.iconst 4, 1) := by decide +kernel
theorem dX7_putOrder_61 : decode cX7_putOrder 61 = .ok (.iload_n 1, 1) := by decide +kernel
theorem dX7_putOrder_62 : decode cX7_putOrder 62 = .ok (.imul, 1) := by decide +kernel
theorem dX7_putOrder_63 : decode cX7_putOrder 63 = .ok (.iadd, 1) := by decide +kernel
theorem dX7_putOrder_64 : decode cX7_putOrder 64 = .ok (.iload_n 2, 1) := by decide +kernel
theorem dX7_putOrder_65 : decode cX7_putOrder 65 = .ok (.bipush 10, 2) := by decide +kernel
theorem dX7_putOrder_67 : decode cX7_putOrder 67 = .ok (.irem, 1) := by decide +kernel
theorem dX7_putOrder_68 : decode cX7_putOrder 68 = .ok (.iadd, 1) := by decide +kernel
theorem dX7_putOrder_69 : decode cX7_putOrder 69 = .ok (.iconst 3, 1) := by decide +kernel
theorem dX7_putOrder_70 : decode cX7_putOrder 70 = .ok (.iastore, 1) := by decide +kernel
theorem dX7_putOrder_71 : decode cX7_putOrder 71 = .ok (.return_, 1) := by decide +kernel
set_option maxRecDepth 20000 in
theorem ggX7_findBestOrder_X7_putAside : GoodIn wsX7_findBestOrder wsX7_putAside := goodIn_r _ [5, 6, 7, 39, 40, 41, 42, 43, 44, 45, 46, 47, 48, 49, 50, 51] (by decide +kernel) (by decide +kernel)
set_option maxRecDepth 20000 in
theorem gX7_findBestOrder_X7_putAside : GoodIn wsX7_findBestOrder (wsV RX7 96 RX7 yX7_putAside wsX7_putAside) := goodIn_app (goodIn_of _ (by decide +kernel)) ggX7_findBestOrder_X7_putAside
set_option maxRecDepth 20000 in
theorem ggX7_findBestOrder_X7_areUnlike : GoodIn wsX7_findBestOrder wsX7_areUnlike := goodIn_r _ [10] (by decide +kernel) (by decide +kernel)
set_option maxRecDepth 20000 in
theorem gX7_findBestOrder_X7_areUnlike : GoodIn wsX7_findBestOrder (va_wsS RX7 99 yX7_areUnlike wsX7_areUnlike) := goodIn_app (goodIn_of _ (by decide +kernel)) ggX7_findBestOrder_X7_areUnlike
set_option maxRecDepth 20000 in
theorem ggX7_findBestOrder_X7_putOrder : GoodIn wsX7_findBestOrder wsX7_putOrder := goodIn_r _ [14, 7, 39, 40, 41, 42, 43, 44, 45, 46, 47, 48, 49, 50, 51] (by decide +kernel) (by decide +kernel)
set_option maxRecDepth 20000 in
theorem gX7_findBestOrder_X7_putOrder : GoodIn wsX7_findBestOrder (wsV RX7 103 RX7 yX7_putOrder wsX7_putOrder) := goodIn_app (goodIn_of _ (by decide +kernel)) ggX7_findBestOrder_X7_putOrder
set_option maxRecDepth 20000 in
theorem ggX7_findBestOrder_X7_crossings : GoodIn wsX7_findBestOrder wsX7_crossings := goodIn_r _ [18, 7, 19, 20, 21, 4, 22, 23, 24, 25, 26, 27, 28, 29, 30, 31, 32, 33, 34, 39, 40, 41, 42, 43, 44, 45, 46, 47, 48, 49, 50, 51] (by decide +kernel) (by decide +kernel)
set_option maxRecDepth 20000 in
theorem gX7_findBestOrder_X7_crossings : GoodIn wsX7_findBestOrder (wsV RX7 85 RX7 yX7_crossings wsX7_crossings) := goodIn_app (goodIn_of _ (by decide +kernel)) ggX7_findBestOrder_X7_crossings
set_option maxRecDepth 20000 in
theorem ggX7_findBestOrder_X7_putBack : GoodIn wsX7_findBestOrder wsX7_putBack := goodIn_r _ [38, 7, 6, 39, 40, 41, 42, 43, 44, 45, 46, 47, 48, 49, 50, 51] (by decide +kernel) (by decide +kernel)
set_option maxRecDepth 20000 in
theorem gX7_findBestOrder_X7_putBack : GoodIn wsX7_findBestOrder (wsV RX7 106 RX7 yX7_putBack wsX7_putBack) := goodIn_app (goodIn_of _ (by decide +kernel)) ggX7_findBestOrder_X7_putBack
theorem dX7_findBestOrder_0 : decode cX7_findBestOrder 0 = .ok (.aload_n 0, 1) := by decide +kernel
theorem dX7_findBestOrder_1 : decode cX7_findBestOrder 1 = .ok (.invokevirtual 96, 3) := by decide +kernel
theorem dX7_findBestOrder_4 : decode cX7_findBestOrder 4 = .ok (.iconst (-1), 1) := by decide +kernel
theorem dX7_findBestOrder_5 : decode cX7_findBestOrder 5 = .ok (.istore_n 2, 1) := by decide +kernel
theorem dX7_findBestOrder_6 : decode cX7_findBestOrder 6 = .ok (.iconst 0, 1) := by decide +kernel
theorem dX7_findBestOrder_7 : decode cX7_findBestOrder 7 = .ok (.istore_n 3, 1) := by decide +kernel
theorem dX7_findBestOrder_8 : decode cX7_findBestOrder 8 = .ok (.iconst 0, 1) := by decide +kernel
theorem dX7_findBestOrder_9 : decode cX7_findBestOrder 9 = .ok (.istore 4, 2) := by decide +kernel
theorem dX7_findBestOrder_11 : decode cX7_findBestOrder 11 = .ok (.iload 4, 2) := by decide +kernel
theorem dX7_findBestOrder_13 : decode cX7_findBestOrder 13 = .ok (.sipush 256, 3) := by decide +kernel
theorem dX7_findBestOrder_16 : decode cX7_findBestOrder 16 = .ok (.if_icmp .ge 105, 3) := by decide +kernel
theorem dX7_findBestOrder_19 : decode cX7_findBestOrder 19 = .ok (.iload 4, 2) := by decide +kernel
theorem dX7_findBestOrder_21 : decode cX7_findBestOrder 21 = .ok (.bipush 64, 2) := by decide +kernel
theorem dX7_findBestOrder_23 : decode cX7_findBestOrder 23 = .ok (.idiv, 1) := by decide +kernel
theorem dX7_findBestOrder_24 : decode cX7_findBestOrder 24 = .ok (.istore 5, 2) := by decide +kernel
theorem dX7_findBestOrder_26 : decode cX7_findBestOrder 26 = .ok (.iload 4, 2) := by decide +kernel
theorem dX7_findBestOrder_28 : decode cX7_findBestOrder 28 = .ok (.bipush 16, 2) := by decide +kernel
theorem dX7_findBestOrder_30 : decode cX7_findBestOrder 30 = .ok (.idiv, 1) := by decide +kernel
theorem dX7_findBestOrder_31 : decode cX7_findBestOrder 31 = .ok (.iconst 4, 1) := by decide +kernel
theorem dX7_findBestOrder_32 : decode cX7_findBestOrder 32 = .ok (.irem, 1) := by decide +kernel
theorem dX7_findBestOrder_33 : decode cX7_findBestOrder 33 = .ok (.istore 6, 2) := by decide +kernel
theorem dX7_findBestOrder_35 : decode cX7_findBestOrder 35 = .ok (.iload 4, 2) := by decide +kernel
theorem dX7_findBestOrder_37 : decode cX7_findBestOrder 37 = .ok (.iconst 4, 1) := by decide +kernel
theorem dX7_findBestOrder_38 : decode cX7_findBestOrder 38 = .ok (.idiv, 1) := by decide +kernel
theorem dX7_findBestOrder_39 : decode cX7_findBestOrder 39 = .ok (.iconst 4, 1) := by decide +kernel
theorem dX7_findBestOrder_40 : decode cX7_findBestOrder 40 = .ok (.irem, 1) := by decide +kernel
theorem dX7_findBestOrder_41 : decode cX7_findBestOrder 41 = .ok (.istore 7, 2) := by decide +kernel
theorem dX7_findBestOrder_43 : decode cX7_findBestOrder 43 = .ok (.iload 4, 2) := by decide +kernel
theorem dX7_findBestOrder_45 : decode cX7_findBestOrder 45 = .ok (.iconst 4, 1) := by decide +kernel
theorem dX7_findBestOrder_46 : decode cX7_findBestOrder 46 = .ok (.irem, 1) := by decide +kernel
theorem dX7_findBestOrder_47 : decode cX7_findBestOrder 47 = .ok (.istore 8, 2) := by decide +kernel
theorem dX7_findBestOrder_49 : decode cX7_findBestOrder 49 = .ok (.iload 5, 2) := by decide +kernel
theorem dX7_findBestOrder_51 : decode cX7_findBestOrder 51 = .ok (.iload 6, 2) := by decide +kernel
theorem dX7_findBestOrder_53 : decode cX7_findBestOrder 53 = .ok (.iload 7, 2) := by decide +kernel
theorem dX7_findBestOrder_55 : decode cX7_findBestOrder 55 = .ok (.iload 8, 2) := by decide +kernel
theorem dX7_findBestOrder_57 : decode cX7_findBestOrder 57 = .ok (.invokestatic 99, 3) := by decide +kernel
theorem dX7_findBestOrder_60 : decode cX7_findBestOrder 60 = .ok (.ifCond .eq 55, 3) := by decide +kernel
theorem dX7_findBestOrder_63 : decode cX7_findBestOrder 63 = .ok (.sipush 1000, 3) := by decide +kernel
theorem dX7_findBestOrder_66 : decode cX7_findBestOrder 66 = .ok (.iload 5, 2) := by decide +kernel
theorem dX7_findBestOrder_68 : decode cX7_findBestOrder 68 = .ok (.imul, 1) := by decide +kernel
theorem dX7_findBestOrder_69 : decode cX7_findBestOrder 69 = .ok (.bipush 100, 2) := by decide +kernel
theorem dX7_findBestOrder_71 : decode cX7_findBestOrder 71 = .ok (.iload 6, 2) := by decide +kernel
theorem dX7_findBestOrder_73 : decode cX7_findBestOrder 73 = .ok (.imul, 1) := by decide +kernel
theorem dX7_findBestOrder_74 : decode cX7_findBestOrder 74 = .ok (.iadd, 1) := by decide +kernel
theorem dX7_findBestOrder_75 : decode cX7_findBestOrder 75 = .ok (.bipush 10, 2) := by decide +kernel
theorem dX7_findBestOrder_77 : decode cX7_findBestOrder 77 = .ok (.iload 7, 2) := by decide +kernel
theorem dX7_findBestOrder_79 : decode cX7_findBestOrder 79 = .ok (.imul, 1) := by decide +kernel
theorem dX7_findBestOrder_80 : decode cX7_findBestOrder 80 = .ok (.iadd, 1) := by decide +kernel
theorem dX7_findBestOrder_81 : decode cX7_findBestOrder 81 = .ok (.iload 8, 2) := by decide +kernel
theorem dX7_findBestOrder_83 : decode cX7_findBestOrder 83 = .ok (.iadd, 1) := by decide +kernel
theorem dX7_findBestOrder_84 : decode cX7_findBestOrder 84 = .ok (.istore 9, 2) := by decide +kernel
theorem dX7_findBestOrder_86 : decode cX7_findBestOrder 86 = .ok (.aload_n 0, 1) := by decide +kernel
theorem dX7_findBestOrder_87 : decode cX7_findBestOrder 87 = .ok (.iload_n 1, 1) := by decide +kernel
theorem dX7_findBestOrder_88 : decode cX7_findBestOrder 88 = .ok (.iload 9, 2) := by decide +kernel
theorem dX7_findBestOrder_90 : decode cX7_findBestOrder 90 = .ok (.invokevirtual 103, 3) := by decide +kernel
theorem dX7_findBestOrder_93 : decode cX7_findBestOrder 93 = .ok (.aload_n 0, 1) := by decide +kernel
theorem dX7_findBestOrder_94 : decode cX7_findBestOrder 94 = .ok (.invokevirtual 85, 3) := by decide +kernel
theorem dX7_findBestOrder_97 : decode cX7_findBestOrder 97 = .ok (.istore 10, 2) := by decide +kernel
theorem dX7_findBestOrder_99 : decode cX7_findBestOrder 99 = .ok (.iload_n 2, 1) := by decide +kernel
theorem dX7_findBestOrder_100 : decode cX7_findBestOrder 100 = .ok (.ifCond .lt 9, 3) := by decide +kernel
theorem dX7_findBestOrder_103 : decode cX7_findBestOrder 103 = .ok (.iload 10, 2) := by decide +kernel
theorem dX7_findBestOrder_105 : decode cX7_findBestOrder 105 = .ok (.iload_n 3, 1) := by decide +kernel
theorem dX7_findBestOrder_106 : decode cX7_findBestOrder 106 = .ok (.if_icmp .ge 9, 3) := by decide +kernel
theorem dX7_findBestOrder_109 : decode cX7_findBestOrder 109 = .ok (.iload 9, 2) := by decide +kernel
theorem dX7_findBestOrder_111 : decode cX7_findBestOrder 111 = .ok (.istore_n 2, 1) := by decide +kernel
theorem dX7_findBestOrder_112 : decode cX7_findBestOrder 112 = .ok (.iload 10, 2) := by decide +kernel
theorem dX7_findBestOrder_114 : decode cX7_findBestOrder 114 = .ok (.istore_n 3, 1) := by decide +kernel
theorem dX7_findBestOrder_115 : decode cX7_findBestOrder 115 = .ok (.iinc 4 1, 3) := by decide +kernel
theorem dX7_findBestOrder_118 : decode cX7_findBestOrder 118 = .ok (.goto (-107), 3) := by decide +kernel
theorem dX7_findBestOrder_121 : decode cX7_findBestOrder 121 = .ok (.aload_n 0, 1) := by decide +kernel
theorem dX7_findBestOrder_122 : decode cX7_findBestOrder 122 = .ok (.invokevirtual 106, 3) := by decide +kernel
theorem dX7_findBestOrder_125 : decode cX7_findBestOrder 125 = .ok (.iload_n 2, 1) := by decide +kernel
theorem dX7_findBestOrder_126 : decode cX7_findBestOrder 126 = .ok (.ireturn, 1) := by decide +kernel
set_option maxRecDepth 20000 in
theorem ggX7_order_X7_isColumn : GoodIn wsX7_order wsX7_isColumn := goodIn_r _ [5, 6, 7, 4, 8] (by decide +kernel) (by decide +kernel)
set_option maxRecDepth 20000 in
theorem gX7_order_X7_isColumn : GoodIn wsX7_order (va_wsS RX7 109 yX7_isColumn wsX7_isColumn) := goodIn_app (goodIn_of _ (by decide +kernel)) ggX7_order_X7_isColumn
set_option maxRecDepth 20000 in
theorem ggX7_order_X7_record : GoodIn wsX7_order wsX7_record := goodIn_r _ [12, 13, 14, 15, 56, 57, 58, 59, 60, 61, 62, 63, 64, 65, 66, 67, 68] (by decide +kernel) (by decide +kernel)
set_option maxRecDepth 20000 in
theorem gX7_order_X7_record : GoodIn wsX7_order (wsV RX7 53 RX7 yX7_record wsX7_record) := goodIn_app (goodIn_of _ (by decide +kernel)) ggX7_order_X7_record
set_option maxRecDepth 20000 in
theorem ggX7_order_X7_findBestOrder : GoodIn wsX7_order wsX7_findBestOrder := goodIn_r _ [19, 20, 21, 22, 4, 23, 24, 15, 25, 26, 27, 28, 29, 30, 31, 32, 33, 34, 35, 36, 37, 38, 39, 40, 41, 42, 43, 44, 45, 46, 47, 48, 49, 50, 51, 52, 53, 54, 55, 56, 57, 58, 59, 60, 61, 62, 63, 64, 65, 66, 67, 68] (by decide +kernel) (by decide +kernel)
set_option maxRecDepth 20000 in
theorem gX7_order_X7_findBestOrder : GoodIn wsX7_order (wsV RX7 112 RX7 yX7_findBestOrder wsX7_findBestOrder) := goodIn_app (goodIn_of _ (by decide +kernel)) ggX7_order_X7_findBestOrder
set_option maxRecDepth 20000 in
theorem ggX7_order_X7_putOrder : GoodIn wsX7_order wsX7_putOrder := goodIn_r _ [31, 15, 56, 57, 58, 59, 60, 61, 62, 63, 64, 65, 66, 67, 68] (by decide +kernel) (by decide +kernel)
set_option maxRecDepth 20000 in
theorem gX7_order_X7_putOrder : GoodIn wsX7_order (wsV RX7 103 RX7 yX7_putOrder wsX7_putOrder) := goodIn_app (goodIn_of _ (by decide +kernel)) ggX7_order_X7_putOrder
set_option maxRecDepth 20000 in
theorem ggX7_order_X7_crossings : GoodIn wsX7_order wsX7_crossings := goodIn_r _ [35, 15, 36, 37, 38, 4, 39, 40, 41, 42, 43, 44, 45, 46, 47, 48, 49, 50, 51, 56, 57, 58, 59, 60, 61, 62, 63, 64, 65, 66, 67, 68] (by decide +kernel) (by decide +kernel)
set_option maxRecDepth 20000 in
theorem gX7_order_X7_crossings : GoodIn wsX7_order (wsV RX7 85 RX7 yX7_crossings wsX7_crossings) := goodIn_app (goodIn_of _ (by decide +kernel)) ggX7_order_X7_crossings
theorem dX7_order_0 : decode cX7_order 0 = .ok (.aload_n 0, 1) := by decide +kernel
theorem dX7_order_1 : decode cX7_order 1 = .ok (.iload_n 1, 1) := by decide +kernel
theorem dX7_order_2 : decode cX7_order 2 = .ok (.invokestatic 109, 3) := by decide +kernel
theorem dX7_order_5 : decode cX7_order 5 = .ok (.ifCond .eq 7, 3) := by decide +kernel
theorem dX7_order_8 : decode cX7_order 8 = .ok (.iconst 0, 1) := by decide +kernel
theorem dX7_order_9 : decode cX7_order 9 = .ok (.goto 4, 3) := by decide +kernel
theorem dX7_order_12 : decode cX7_order 12 = .ok (.iconst 1, 1) := by decide +kernel
theorem dX7_order_13 : decode cX7_order 13 = .ok (.putfield 38, 3) := by decide +kernel
theorem dX7_order_16 : decode cX7_order 16 = .ok (.aload_n 0, 1) := by decide +kernel
theorem dX7_order_17 : decode cX7_order 17 = .ok (.getfield 38, 3) := by decide +kernel
theorem dX7_order_20 : decode cX7_order 20 = .ok (.ifCond .le 5, 3) := by decide +kernel
theorem dX7_order_23 : decode cX7_order 23 = .ok (.iconst 0, 1) := by decide +kernel
theorem dX7_order_24 : decode cX7_order 24 = .ok (.ireturn, 1) := by decide +kernel
theorem dX7_order_25 : decode cX7_order 25 = .ok (.aload_n 0, 1) := by decide +kernel
theorem dX7_order_26 : decode cX7_order 26 = .ok (.invokevirtual 53, 3) := by decide +kernel
theorem dX7_order_29 : decode cX7_order 29 = .ok (.aload_n 0, 1) := by decide +kernel
theorem dX7_order_30 : decode cX7_order 30 = .ok (.iload_n 1, 1) := by decide +kernel
theorem dX7_order_31 : decode cX7_order 31 = .ok (.aload_n 0, 1) := by decide +kernel
theorem dX7_order_32 : decode cX7_order 32 = .ok (.iload_n 1, 1) := by decide +kernel
theorem dX7_order_33 : decode cX7_order 33 = .ok (.invokevirtual 112, 3) := by decide +kernel
theorem dX7_order_36 : decode cX7_order 36 = .ok (.invokevirtual 103, 3) := by decide +kernel
theorem dX7_order_39 : decode cX7_order 39 = .ok (.aload_n 0, 1) := by decide +kernel
theorem dX7_order_40 : decode cX7_order 40 = .ok (.invokevirtual 85, 3) := by decide +kernel
theorem dX7_order_43 : decode cX7_order 43 = .ok (.ireturn, 1) := by decide +kernel
set_option maxRecDepth 20000 in
theorem ggX7_comesIn_X7_goesOn : GoodIn wsX7_comesIn wsX7_goesOn := goodIn_r _ [6, 7, 8, 9, 5, 10, 1, 11, 12, 13, 14, 15, 16, 17, 18, 19, 20, 21, 22, 23] (by decide +kernel) (by decide +kernel)
set_option maxRecDepth 20000 in
theorem gX7_comesIn_X7_goesOn : GoodIn wsX7_comesIn (wsV RX7 56 RX7 yX7_goesOn wsX7_goesOn) := goodIn_app (goodIn_of _ (by decide +kernel)) ggX7_comesIn_X7_goesOn
set_option maxRecDepth 20000 in
theorem ggX7_comesIn_X7_of : GoodIn wsX7_comesIn wsX7_of := goodIn_r _ [10, 1, 11, 12, 13, 14, 15, 16, 17, 18, 19, 20, 21, 22, 23] (by decide +kernel) (by decide +kernel)
set_option maxRecDepth 20000 in
theorem gX7_comesIn_X7_of : GoodIn wsX7_comesIn (wsV RX7 46 RX7 yX7_of wsX7_of) := goodIn_app (goodIn_of _ (by decide +kernel)) ggX7_comesIn_X7_of
theorem dX7_comesIn_0 : decode cX7_comesIn 0 = .ok (.iconst 0, 1) := by decide +kernel
theorem dX7_comesIn_1 : decode cX7_comesIn 1 = .ok (.istore_n 2, 1) := by decide +kernel
theorem dX7_comesIn_2 : decode cX7_comesIn 2 = .ok (.iconst 0, 1) := by decide +kernel
theorem dX7_comesIn_3 : decode cX7_comesIn 3 = .ok (.istore_n 3, 1) := by decide +kernel
theorem dX7_comesIn_4 : decode cX7_comesIn 4 = .ok (.iload_n 3, 1) := by decide +kernel
theorem dX7_comesIn_5 : decode cX7_comesIn 5 = .ok (.aload_n 0, 1) := by decide +kernel
theorem dX7_comesIn_6 : decode cX7_comesIn 6 = .ok (.getfield 7, 3) := by decide +kernel
theorem dX7_comesIn_9 : decode cX7_comesIn 9 = .ok (.iconst 0, 1) := by decide +kernel
theorem dX7_comesIn_10 : decode cX7_comesIn 10 = .ok (.iaload, 1) := by decide +kernel
theorem dX7_comesIn_11 : decode cX7_comesIn 11 = .ok (.if_icmp .ge 40, 3) := by decide +kernel
theorem dX7_comesIn_14 : decode cX7_comesIn 14 = .ok (.iload_n 2, 1) := by decide +kernel
theorem dX7_comesIn_15 : decode cX7_comesIn 15 = .ok (.aload_n 0, 1) := by decide +kernel
theorem dX7_comesIn_16 : decode cX7_comesIn 16 = .ok (.iload_n 3, 1) := by decide +kernel
theorem dX7_comesIn_17 : decode cX7_comesIn 17 = .ok (.invokevirtual 56, 3) := by decide +kernel
theorem dX7_comesIn_20 : decode cX7_comesIn 20 = .ok (.ifCond .eq 22, 3) := by decide +kernel
theorem dX7_comesIn_23 : decode cX7_comesIn 23 = .ok (.aload_n 0, 1) := by decide +kernel
theorem dX7_comesIn_24 : decode cX7_comesIn 24 = .ok (.iload_n 3, 1) := by decide +kernel
theorem dX7_comesIn_25 : decode cX7_comesIn 25 = .ok (.iconst 1, 1) := by decide +kernel
theorem dX7_comesIn_26 : decode cX7_comesIn 26 = .ok (.invokevirtual 46, 3) := by decide +kernel
theorem dX7_comesIn_29 : decode cX7_comesIn 29 = .ok (.iload_n 1, 1) := by decide +kernel
theorem dX7_comesIn_30 : decode cX7_comesIn 30 = .ok (.if_icmp .ne 12, 3) := by decide +kernel
theorem dX7_comesIn_33 : decode cX7_comesIn 33 = .ok (.aload_n 0, 1) := by decide +kernel
theorem dX7_comesIn_34 : decode cX7_comesIn 34 = .ok (.iload_n 3, 1) := by decide +kernel
theorem dX7_comesIn_35 : decode cX7_comesIn 35 = .ok (.iconst 2, 1) := by decide +kernel
theorem dX7_comesIn_36 : decode cX7_comesIn 36 = .ok (.invokevirtual 46, 3) := by decide +kernel
theorem dX7_comesIn_39 : decode cX7_comesIn 39 = .ok (.goto 4, 3) := by decide +kernel
theorem dX7_comesIn_42 : decode cX7_comesIn 42 = .ok (.iconst 0, 1) := by decide +kernel
theorem dX7_comesIn_43 : decode cX7_comesIn 43 = .ok (.iadd, 1) := by decide +kernel
theorem dX7_comesIn_44 : decode cX7_comesIn 44 = .ok (.istore_n 2, 1) := by decide +kernel
theorem dX7_comesIn_45 : decode cX7_comesIn 45 = .ok (.iinc 3 1, 3) := by decide +kernel
theorem dX7_comesIn_48 : decode cX7_comesIn 48 = .ok (.goto (-44), 3) := by decide +kernel
theorem dX7_comesIn_51 : decode cX7_comesIn 51 = .ok (.iload_n 2, 1) := by decide +kernel
theorem dX7_comesIn_52 : decode cX7_comesIn 52 = .ok (.ireturn, 1) := by decide +kernel
set_option maxRecDepth 20000 in
theorem ggX7_leaves_X7_goesOn : GoodIn wsX7_leaves wsX7_goesOn := goodIn_r _ [6, 7, 8, 9, 5, 10, 1, 11, 12, 13, 14, 15, 16, 17, 18, 19, 20, 21, 22, 23] (by decide +kernel) (by decide +kernel)
set_option maxRecDepth 20000 in
theorem gX7_leaves_X7_goesOn : GoodIn wsX7_leaves (wsV RX7 56 RX7 yX7_goesOn wsX7_goesOn) := goodIn_app (goodIn_of _ (by decide +kernel)) ggX7_leaves_X7_goesOn
set_option maxRecDepth 20000 in
theorem ggX7_leaves_X7_of : GoodIn wsX7_leaves wsX7_of := goodIn_r _ [10, 1, 11, 12, 13, 14, 15, 16, 17, 18, 19, 20, 21, 22, 23] (by decide +kernel) (by decide +kernel)
set_option maxRecDepth 20000 in
theorem gX7_leaves_X7_of : GoodIn wsX7_leaves (wsV RX7 46 RX7 yX7_of wsX7_of) := goodIn_app (goodIn_of _ (by decide +kernel)) ggX7_leaves_X7_of
theorem dX7_leaves_0 : decode cX7_leaves 0 = .ok (.iconst 0, 1) := by decide +kernel
theorem dX7_leaves_1 : decode cX7_leaves 1 = .ok (.istore_n 2, 1) := by decide +kernel
theorem dX7_leaves_2 : decode cX7_leaves 2 = .ok (.iconst 0, 1) := by decide +kernel
theorem dX7_leaves_3 : decode cX7_leaves 3 = .ok (.istore_n 3, 1) := by decide +kernel
theorem dX7_leaves_4 : decode cX7_leaves 4 = .ok (.iload_n 3, 1) := by decide +kernel
theorem dX7_leaves_5 : decode cX7_leaves 5 = .ok (.aload_n 0, 1) := by decide +kernel
theorem dX7_leaves_6 : decode cX7_leaves 6 = .ok (.getfield 7, 3) := by decide +kernel
theorem dX7_leaves_9 : decode cX7_leaves 9 = .ok (.iconst 0, 1) := by decide +kernel
theorem dX7_leaves_10 : decode cX7_leaves 10 = .ok (.iaload, 1) := by decide +kernel
theorem dX7_leaves_11 : decode cX7_leaves 11 = .ok (.if_icmp .ge 40, 3) := by decide +kernel
theorem dX7_leaves_14 : decode cX7_leaves 14 = .ok (.iload_n 2, 1) := by decide +kernel
theorem dX7_leaves_15 : decode cX7_leaves 15 = .ok (.aload_n 0, 1) := by decide +kernel
theorem dX7_leaves_16 : decode cX7_leaves 16 = .ok (.iload_n 3, 1) := by decide +kernel
theorem dX7_leaves_17 : decode cX7_leaves 17 = .ok (.invokevirtual 56, 3) := by decide +kernel
theorem dX7_leaves_20 : decode cX7_leaves 20 = .ok (.ifCond .eq 22, 3) := by decide +kernel
theorem dX7_leaves_23 : decode cX7_leaves 23 = .ok (.aload_n 0, 1) := by decide +kernel
theorem dX7_leaves_24 : decode cX7_leaves 24 = .ok (.iload_n 3, 1) := by decide +kernel
theorem dX7_leaves_25 : decode cX7_leaves 25 = .ok (.iconst 0, 1) := by decide +kernel
theorem dX7_leaves_26 : decode cX7_leaves 26 = .ok (.invokevirtual 46, 3) := by decide +kernel
theorem dX7_leaves_29 : decode cX7_leaves 29 = .ok (.iload_n 1, 1) := by decide +kernel
theorem dX7_leaves_30 : decode cX7_leaves 30 = .ok (.if_icmp .ne 12, 3) := by decide +kernel
theorem dX7_leaves_33 : decode cX7_leaves 33 = .ok (.aload_n 0, 1) := by decide +kernel
theorem dX7_leaves_34 : decode cX7_leaves 34 = .ok (.iload_n 3, 1) := by decide +kernel
theorem dX7_leaves_35 : decode cX7_leaves 35 = .ok (.iconst 2, 1) := by decide +kernel
theorem dX7_leaves_36 : decode cX7_leaves 36 = .ok (.invokevirtual 46, 3) := by decide +kernel
theorem dX7_leaves_39 : decode cX7_leaves 39 = .ok (.goto 4, 3) := by decide +kernel
theorem dX7_leaves_42 : decode cX7_leaves 42 = .ok (.iconst 0, 1) := by decide +kernel
theorem dX7_leaves_43 : decode cX7_leaves 43 = .ok (.iadd, 1) := by decide +kernel
theorem dX7_leaves_44 : decode cX7_leaves 44 = .ok (.istore_n 2, 1) := by decide +kernel
theorem dX7_leaves_45 : decode cX7_leaves 45 = .ok (.iinc 3 1, 3) := by decide +kernel
theorem dX7_leaves_48 : decode cX7_leaves 48 = .ok (.goto (-44), 3) := by decide +kernel
theorem dX7_leaves_51 : decode cX7_leaves 51 = .ok (.iload_n 2, 1) := by decide +kernel
theorem dX7_leaves_52 : decode cX7_leaves 52 = .ok (.ireturn, 1) := by decide +kernel
set_option maxRecDepth 20000 in
theorem ggX7_widest_X7_goesOn : GoodIn wsX7_widest wsX7_goesOn := goodIn_r _ [6, 7, 8, 9, 5, 10, 1, 11, 12, 13, 14, 15, 16, 17, 18, 19, 20, 21, 22, 23] (by decide +kernel) (by decide +kernel)
set_option maxRecDepth 20000 in
theorem gX7_widest_X7_goesOn : GoodIn wsX7_widest (wsV RX7 56 RX7 yX7_goesOn wsX7_goesOn) := goodIn_app (goodIn_of _ (by decide +kernel)) ggX7_widest_X7_goesOn
set_option maxRecDepth 20000 in
theorem ggX7_widest_X7_of : GoodIn wsX7_widest wsX7_of := goodIn_r _ [10, 1, 11, 12, 13, 14, 15, 16, 17, 18, 19, 20, 21, 22, 23] (by decide +kernel) (by decide +kernel)
set_option maxRecDepth 20000 in
theorem gX7_widest_X7_of : GoodIn wsX7_widest (wsV RX7 46 RX7 yX7_of wsX7_of) := goodIn_app (goodIn_of _ (by decide +kernel)) ggX7_widest_X7_of
theorem dX7_widest_0 : decode cX7_widest 0 = .ok (.iconst (-1), 1) := by decide +kernel
theorem dX7_widest_1 : decode cX7_widest 1 = .ok (.istore_n 3, 1) := by decide +kernel
theorem dX7_widest_2 : decode cX7_widest 2 = .ok (.iconst 0, 1) := by decide +kernel
theorem dX7_widest_3 : decode cX7_widest 3 = .ok (.istore 4, 2) := by decide +kernel
theorem dX7_widest_5 : decode cX7_widest 5 = .ok (.iload 4, 2) := by decide +kernel
theorem dX7_widest_7 : decode cX7_widest 7 = .ok (.aload_n 0, 1) := by decide +kernel
theorem dX7_widest_8 : decode cX7_widest 8 = .ok (.getfield 7, 3) := by decide +kernel
theorem dX7_widest_11 : decode cX7_widest 11 = .ok (.iconst 0, 1) := by decide +kernel
theorem dX7_widest_12 : decode cX7_widest 12 = .ok (.iaload, 1) := by decide +kernel
theorem dX7_widest_13 : decode cX7_widest 13 = .ok (.if_icmp .ge 68, 3) := by decide +kernel
theorem dX7_widest_16 : decode cX7_widest 16 = .ok (.aload_n 0, 1) := by decide +kernel
theorem dX7_widest_17 : decode cX7_widest 17 = .ok (.iload 4, 2) := by decide +kernel
theorem dX7_widest_19 : decode cX7_widest 19 = .ok (.invokevirtual 56, 3) := by decide +kernel
theorem dX7_widest_22 : decode cX7_widest 22 = .ok (.ifCond .eq 18, 3) := by decide +kernel
theorem dX7_widest_25 : decode cX7_widest 25 = .ok (.aload_n 0, 1) := by decide +kernel
theorem dX7_widest_26 : decode cX7_widest 26 = .ok (.iload 4, 2) := by decide +kernel
theorem dX7_widest_28 : decode cX7_widest 28 = .ok (.iload_n 2, 1) := by decide +kernel
theorem dX7_widest_29 : decode cX7_widest 29 = .ok (.invokevirtual 46, 3) := by decide +kernel
theorem dX7_widest_32 : decode cX7_widest 32 = .ok (.iload_n 1, 1) := by decide +kernel
theorem dX7_widest_33 : decode cX7_widest 33 = .ok (.if_icmp .ne 7, 3) := by decide +kernel
theorem dX7_widest_36 : decode cX7_widest 36 = .ok (.iconst 1, 1) := by decide +kernel
theorem dX7_widest_37 : decode cX7_widest 37 = .ok (.goto 4, 3) := by decide +kernel
theorem dX7_widest_40 : decode cX7_widest 40 = .ok (.iconst 0, 1) := by decide +kernel
theorem dX7_widest_41 : decode cX7_widest 41 = .ok (.istore 5, 2) := by decide +kernel
theorem dX7_widest_43 : decode cX7_widest 43 = .ok (.iload 5, 2) := by decide +kernel
theorem dX7_widest_45 : decode cX7_widest 45 = .ok (.ifCond .eq 28, 3) := by decide +kernel
theorem dX7_widest_48 : decode cX7_widest 48 = .ok (.iload_n 3, 1) := by decide +kernel
theorem dX7_widest_49 : decode cX7_widest 49 = .ok (.ifCond .lt 19, 3) := by decide +kernel
theorem dX7_widest_52 : decode cX7_widest 52 = .ok (.aload_n 0, 1) := by decide +kernel
theorem dX7_widest_53 : decode cX7_widest 53 = .ok (.iload 4, 2) := by decide +kernel
theorem dX7_widest_55 : decode cX7_widest 55 = .ok (.iconst 2, 1) := by decide +kernel
theorem dX7_widest_56 : decode cX7_widest 56 = .ok (.invokevirtual 46, 3) := by decide +kernel
theorem dX7_widest_59 : decode cX7_widest 59 = .ok (.aload_n 0, 1) := by decide +kernel
theorem dX7_widest_60 : decode cX7_widest 60 = .ok (.iload_n 3, 1) := by decide +kernel
theorem dX7_widest_61 : decode cX7_widest 61 = .ok (.iconst 2, 1) := by decide +kernel
theorem dX7_widest_62 : decode cX7_widest 62 = .ok (.invokevirtual 46, 3) := by decide +kernel
theorem dX7_widest_65 : decode cX7_widest 65 = .ok (.if_icmp .le 8, 3) := by decide +kernel
theorem dX7_widest_68 : decode cX7_widest 68 = .ok (.iload 4, 2) := by decide +kernel
theorem dX7_widest_70 : decode cX7_widest 70 = .ok (.goto 4, 3) := by decide +kernel
theorem dX7_widest_73 : decode cX7_widest 73 = .ok (.iload_n 3, 1) := by decide +kernel
theorem dX7_widest_74 : decode cX7_widest 74 = .ok (.istore_n 3, 1) := by decide +kernel
theorem dX7_widest_75 : decode cX7_widest 75 = .ok (.iinc 4 1, 3) := by decide +kernel
theorem dX7_widest_78 : decode cX7_widest 78 = .ok (.goto (-73), 3) := by decide +kernel
theorem dX7_widest_81 : decode cX7_widest 81 = .ok (.iload_n 3, 1) := by decide +kernel
theorem dX7_widest_82 : decode cX7_widest 82 = .ok (.ireturn, 1) := by decide +kernel
set_option maxRecDepth 20000 in
theorem ggX7_doTrim_X7_comesIn : GoodIn wsX7_doTrim wsX7_comesIn := goodIn_r _ [6, 1, 7, 8, 9, 5, 10, 11, 12, 13, 14, 23, 24, 25, 26, 27, 28, 29, 30, 31, 32, 33, 34, 35] (by decide +kernel) (by decide +kernel)
set_option maxRecDepth 20000 in
theorem gX7_doTrim_X7_comesIn : GoodIn wsX7_doTrim (wsV RX7 115 RX7 yX7_comesIn wsX7_comesIn) := goodIn_app (goodIn_of _ (by decide +kernel)) ggX7_doTrim_X7_comesIn
set_option maxRecDepth 20000 in
theorem ggX7_doTrim_X7_leaves : GoodIn wsX7_doTrim wsX7_leaves := goodIn_r _ [18, 1, 7, 8, 9, 5, 10, 11, 12, 13, 14, 23, 24, 25, 26, 27, 28, 29, 30, 31, 32, 33, 34, 35] (by decide +kernel) (by decide +kernel)
set_option maxRecDepth 20000 in
theorem gX7_doTrim_X7_leaves : GoodIn wsX7_doTrim (wsV RX7 118 RX7 yX7_leaves wsX7_leaves) := goodIn_app (goodIn_of _ (by decide +kernel)) ggX7_doTrim_X7_leaves
set_option maxRecDepth 20000 in
theorem ggX7_doTrim_X7_widest : GoodIn wsX7_doTrim wsX7_widest := goodIn_r _ [22, 1, 7, 8, 9, 5, 10, 11, 12, 13, 14, 23, 24, 25, 26, 27, 28, 29, 30, 31, 32, 33, 34, 35] (by decide +kernel) (by decide +kernel)
set_option maxRecDepth 20000 in
theorem gX7_doTrim_X7_widest : GoodIn wsX7_doTrim (wsV RX7 121 RX7 yX7_widest wsX7_widest) := goodIn_app (goodIn_of _ (by decide +kernel)) ggX7_doTrim_X7_widest
theorem dX7_doTrim_0 : decode cX7_doTrim 0 = .ok (.iconst 0, 1) := by decide +kernel
theorem dX7_doTrim_1 : decode cX7_doTrim 1 = .ok (.istore_n 2, 1) := by decide +kernel
theorem dX7_doTrim_2 : decode cX7_doTrim 2 = .ok (.aload_n 0, 1) := by decide +kernel
theorem dX7_doTrim_3 : decode cX7_doTrim 3 = .ok (.iload_n 1, 1) := by decide +kernel
theorem dX7_doTrim_4 : decode cX7_doTrim 4 = .ok (.invokevirtual 115, 3) := by decide +kernel
theorem dX7_doTrim_7 : decode cX7_doTrim 7 = .ok (.aload_n 0, 1) := by decide +kernel
theorem dX7_doTrim_8 : decode cX7_doTrim 8 = .ok (.iload_n 1, 1) := by decide +kernel
theorem dX7_doTrim_9 : decode cX7_doTrim 9 = .ok (.invokevirtual 118, 3) := by decide +kernel
theorem dX7_doTrim_12 : decode cX7_doTrim 12 = .ok (.isub, 1) := by decide +kernel
theorem dX7_doTrim_13 : decode cX7_doTrim 13 = .ok (.istore_n 3, 1) := by decide +kernel
theorem dX7_doTrim_14 : decode cX7_doTrim 14 = .ok (.iload_n 3, 1) := by decide +kernel
theorem dX7_doTrim_15 : decode cX7_doTrim 15 = .ok (.ifCond .eq 55, 3) := by decide +kernel
theorem dX7_doTrim_18 : decode cX7_doTrim 18 = .ok (.aload_n 0, 1) := by decide +kernel
theorem dX7_doTrim_19 : decode cX7_doTrim 19 = .ok (.iload_n 1, 1) := by decide +kernel
theorem dX7_doTrim_20 : decode cX7_doTrim 20 = .ok (.iload_n 3, 1) := by decide +kernel
theorem dX7_doTrim_21 : decode cX7_doTrim 21 = .ok (.ifCond .le 7, 3) := by decide +kernel
theorem dX7_doTrim_24 : decode cX7_doTrim 24 = .ok (.iconst 1, 1) := by decide +kernel
theorem dX7_doTrim_25 : decode cX7_doTrim 25 = .ok (.goto 4, 3) := by decide +kernel
theorem dX7_doTrim_28 : decode cX7_doTrim 28 = .ok (.iconst 0, 1) := by decide +kernel
theorem dX7_doTrim_29 : decode cX7_doTrim 29 = .ok (.invokevirtual 121, 3) := by decide +kernel
theorem dX7_doTrim_32 : decode cX7_doTrim 32 = .ok (.istore 4, 2) := by decide +kernel
theorem dX7_doTrim_34 : decode cX7_doTrim 34 = .ok (.aload_n 0, 1) := by decide +kernel
theorem dX7_doTrim_35 : decode cX7_doTrim 35 = .ok (.getfield 7, 3) := by decide +kernel
theorem dX7_doTrim_38 : decode cX7_doTrim 38 = .ok (.bipush 18, 2) := by decide +kernel
theorem dX7_doTrim_40 : decode cX7_doTrim 40 = .ok (.iconst 3, 1) := by decide +kernel
theorem dX7_doTrim_41 : decode cX7_doTrim 41 = .ok (.iload 4, 2) := by decide +kernel
theorem dX7_doTrim_43 : decode cX7_doTrim 43 = .ok (.imul, 1) := by decide +kernel
theorem dX7_doTrim_44 : decode cX7_doTrim 44 = .ok (.iadd, 1) := by decide +kernel
theorem dX7_doTrim_45 : decode cX7_doTrim 45 = .ok (.iconst 2, 1) := by decide +kernel
theorem dX7_doTrim_46 : decode cX7_doTrim 46 = .ok (.iadd, 1) := by decide +kernel
theorem dX7_doTrim_47 : decode cX7_doTrim 47 = .ok (.dup2, 1) := by decide +kernel
theorem dX7_doTrim_48 : decode cX7_doTrim 48 = .ok (.iaload, 1) := by decide +kernel
theorem dX7_doTrim_49 : decode cX7_doTrim 49 = .ok (.iconst 1, 1) := by decide +kernel
theorem dX7_doTrim_50 : decode cX7_doTrim 50 = .ok (.isub, 1) := by decide +kernel
theorem dX7_doTrim_51 : decode cX7_doTrim 51 = .ok (.iastore, 1) := by decide +kernel
theorem dX7_doTrim_52 : decode cX7_doTrim 52 = .ok (.iinc 2 1, 3) := by decide +kernel
theorem dX7_doTrim_55 : decode cX7_doTrim 55 = .ok (.aload_n 0, 1) := by decide +kernel
theorem dX7_doTrim_56 : decode cX7_doTrim 56 = .ok (.iload_n 1, 1) := by decide +kernel
theorem dX7_doTrim_57 : decode cX7_doTrim 57 = .ok (.invokevirtual 115, 3) := by decide +kernel
theorem dX7_doTrim_60 : decode cX7_doTrim 60 = .ok (.aload_n 0, 1) := by decide +kernel
theorem dX7_doTrim_61 : decode cX7_doTrim 61 = .ok (.iload_n 1, 1) := by decide +kernel
theorem dX7_doTrim_62 : decode cX7_doTrim 62 = .ok (.invokevirtual 118, 3) := by decide +kernel
theorem dX7_doTrim_65 : decode cX7_doTrim 65 = .ok (.isub, 1) := by decide +kernel
theorem dX7_doTrim_66 : decode cX7_doTrim 66 = .ok (.istore_n 3, 1) := by decide +kernel
theorem dX7_doTrim_67 : decode cX7_doTrim 67 = .ok (.goto (-53), 3) := by decide +kernel
theorem dX7_doTrim_70 : decode cX7_doTrim 70 = .ok (.aload_n 0, 1) := by decide +kernel
theorem dX7_doTrim_71 : decode cX7_doTrim 71 = .ok (.getfield 7, 3) := by decide +kernel
theorem dX7_doTrim_74 : decode cX7_doTrim 74 = .ok (.iconst 1, 1) := by decide +kernel
theorem dX7_doTrim_75 : decode cX7_doTrim 75 = .ok (.dup2, 1) := by decide +kernel
theorem dX7_doTrim_76 : decode cX7_doTrim 76 = .ok (.iaload, 1) := by decide +kernel
theorem dX7_doTrim_77 : decode cX7_doTrim 77 = .ok (.iload_n 2, 1) := by decide +kernel
theorem dX7_doTrim_78 : decode cX7_doTrim 78 = .ok (.iadd, 1) := by decide +kernel
theorem dX7_doTrim_79 : decode cX7_doTrim 79 = .ok (.iastore, 1) := by decide +kernel
theorem dX7_doTrim_80 : decode cX7_doTrim 80 = .ok (.iload_n 2, 1) := by decide +kernel
theorem dX7_doTrim_81 : decode cX7_doTrim 81 = .ok (.ireturn, 1) := by decide +kernel
set_option maxRecDepth 20000 in
theorem ggX7_isInner_X7_in : GoodIn wsX7_isInner wsX7_in := goodIn_r _ [4] (by decide +kernel) (by decide +kernel)
set_option maxRecDepth 20000 in
theorem gX7_isInner_X7_in : GoodIn wsX7_isInner (va_wsS RX7 42 yX7_in wsX7_in) := goodIn_app (goodIn_of _ (by decide +kernel)) ggX7_isInner_X7_in
theorem dX7_isInner_0 : decode cX7_isInner 0 = .ok (.iload_n 0, 1) := by decide +kernel
theorem dX7_isInner_1 : decode cX7_isInner 1 = .ok (.iconst 4, 1) := by decide +kernel
theorem dX7_isInner_2 : decode cX7_isInner 2 = .ok (.bipush 11, 2) := by decide +kernel
theorem dX7_isInner_4 : decode cX7_isInner 4 = .ok (.invokestatic 42, 3) := by decide +kernel
theorem dX7_isInner_7 : decode cX7_isInner 7 = .ok (.ireturn, 1) := by decide +kernel
set_option maxRecDepth 20000 in
theorem ggX7_trim_X7_isInner : GoodIn wsX7_trim wsX7_isInner := goodIn_r _ [5, 6, 7, 4, 8] (by decide +kernel) (by decide +kernel)
set_option maxRecDepth 20000 in
theorem gX7_trim_X7_isInner : GoodIn wsX7_trim (va_wsS RX7 124 yX7_isInner wsX7_isInner) := goodIn_app (goodIn_of _ (by decide +kernel)) ggX7_trim_X7_isInner
set_option maxRecDepth 20000 in
theorem ggX7_trim_X7_record : GoodIn wsX7_trim wsX7_record := goodIn_r _ [12, 13, 14, 15, 40, 41, 42, 43, 44, 45, 46, 47, 48, 49, 50, 51, 52] (by decide +kernel) (by decide +kernel)
set_option maxRecDepth 20000 in
theorem gX7_trim_X7_record : GoodIn wsX7_trim (wsV RX7 53 RX7 yX7_record wsX7_record) := goodIn_app (goodIn_of _ (by decide +kernel)) ggX7_trim_X7_record
set_option maxRecDepth 20000 in
theorem ggX7_trim_X7_doTrim : GoodIn wsX7_trim wsX7_doTrim := goodIn_r _ [19, 15, 20, 21, 22, 4, 23, 24, 25, 26, 27, 28, 29, 30, 31, 32, 33, 34, 35, 36, 37, 38, 39, 40, 41, 42, 43, 44, 45, 46, 47, 48, 49, 50, 51, 52] (by decide +kernel) (by decide +kernel)
set_option maxRecDepth 20000 in
theorem gX7_trim_X7_doTrim : GoodIn wsX7_trim (wsV RX7 127 RX7 yX7_doTrim wsX7_doTrim) := goodIn_app (goodIn_of _ (by decide +kernel)) ggX7_trim_X7_doTrim
theorem dX7_trim_0 : decode cX7_trim 0 = .ok (.aload_n 0, 1) := by decide +kernel
theorem dX7_trim_1 : decode cX7_trim 1 = .ok (.iload_n 1, 1) := by decide +kernel
theorem dX7_trim_2 : decode cX7_trim 2 = .ok (.invokestatic 124, 3) := by decide +kernel
theorem dX7_trim_5 : decode cX7_trim 5 = .ok (.ifCond .eq 7, 3) := by decide +kernel
theorem dX7_trim_8 : decode cX7_trim 8 = .ok (.iconst 0, 1) := by decide +kernel
theorem dX7_trim_9 : decode cX7_trim 9 = .ok (.goto 4, 3) := by decide +kernel
theorem dX7_trim_12 : decode cX7_trim 12 = .ok (.iconst 1, 1) := by decide +kernel
theorem dX7_trim_13 : decode cX7_trim 13 = .ok (.putfield 38, 3) := by decide +kernel
theorem dX7_trim_16 : decode cX7_trim 16 = .ok (.aload_n 0, 1) := by decide +kernel
theorem dX7_trim_17 : decode cX7_trim 17 = .ok (.getfield 38, 3) := by decide +kernel
theorem dX7_trim_20 : decode cX7_trim 20 = .ok (.ifCond .le 5, 3) := by decide +kernel
theorem dX7_trim_23 : decode cX7_trim 23 = .ok (.iconst 0, 1) := by decide +kernel
theorem dX7_trim_24 : decode cX7_trim 24 = .ok (.ireturn, 1) := by decide +kernel
theorem dX7_trim_25 : decode cX7_trim 25 = .ok (.aload_n 0, 1) := by decide +kernel
theorem dX7_trim_26 : decode cX7_trim 26 = .ok (.invokevirtual 53, 3) := by decide +kernel
theorem dX7_trim_29 : decode cX7_trim 29 = .ok (.aload_n 0, 1) := by decide +kernel
theorem dX7_trim_30 : decode cX7_trim 30 = .ok (.iload_n 1, 1) := by decide +kernel
theorem dX7_trim_31 : decode cX7_trim 31 = .ok (.invokevirtual 127, 3) := by decide +kernel
theorem dX7_trim_34 : decode cX7_trim 34 = .ok (.ireturn, 1) := by decide +kernel
set_option maxRecDepth 20000 in
theorem ggX7_doSettle_X7_doTrim : GoodIn wsX7_doSettle wsX7_doTrim := goodIn_r _ [5, 6, 7, 8, 9, 4, 10, 11, 12, 13, 14, 15, 16, 17, 18, 19, 20, 21, 22, 23, 24, 25, 26, 27, 28, 29, 30, 31, 32, 33, 34, 35, 36, 37, 38, 39] (by decide +kernel) (by decide +kernel)
set_option maxRecDepth 20000 in
theorem gX7_doSettle_X7_doTrim : GoodIn wsX7_doSettle (wsV RX7 127 RX7 yX7_doTrim wsX7_doTrim) := goodIn_app (goodIn_of _ (by decide +kernel)) ggX7_doSettle_X7_doTrim
theorem dX7_doSettle_0 : decode cX7_doSettle 0 = .ok (.iconst 0, 1) := by decide +kernel
theorem dX7_doSettle_1 : decode cX7_doSettle 1 = .ok (.istore_n 1, 1) := by decide +kernel
theorem dX7_doSettle_2 : decode cX7_doSettle 2 = .ok (.iconst 1, 1) := by decide +kernel
theorem dX7_doSettle_3 : decode cX7_doSettle 3 = .ok (.istore_n 2, 1) := by decide +kernel
theorem dX7_doSettle_4 : decode cX7_doSettle 4 = .ok (.iload_n 2, 1) := by decide +kernel
theorem dX7_doSettle_5 : decode cX7_doSettle 5 = .ok (.ifCond .le 34, 3) := by decide +kernel
theorem dX7_doSettle_8 : decode cX7_doSettle 8 = .ok (.iconst 0, 1) := by decide +kernel
theorem dX7_doSettle_9 : decode cX7_doSettle 9 = .ok (.istore_n 2, 1) := by decide +kernel
theorem dX7_doSettle_10 : decode cX7_doSettle 10 = .ok (.iconst 4, 1) := by decide +kernel
theorem dX7_doSettle_11 : decode cX7_doSettle 11 = .ok (.istore_n 3, 1) := by decide +kernel
theorem dX7_doSettle_12 : decode cX7_doSettle 12 = .ok (.iload_n 3, 1) := by decide +kernel
theorem dX7_doSettle_13 : decode cX7_doSettle 13 = .ok (.bipush 12, 2) := by decide +kernel
theorem dX7_doSettle_15 : decode cX7_doSettle 15 = .ok (.if_icmp .ge 17, 3) := by decide +kernel
theorem dX7_doSettle_18 : decode cX7_doSettle 18 = .ok (.iload_n 2, 1) := by decide +kernel
theorem dX7_doSettle_19 : decode cX7_doSettle 19 = .ok (.aload_n 0, 1) := by decide +kernel
theorem dX7_doSettle_20 : decode cX7_doSettle 20 = .ok (.iload_n 3, 1) := by decide +kernel
theorem dX7_doSettle_21 : decode cX7_doSettle 21 = .ok (.invokevirtual 127, 3) := by decide +kernel
theorem dX7_doSettle_24 : decode cX7_doSettle 24 = .ok (.iadd, 1) := by decide +kernel
theorem dX7_doSettle_25 : decode cX7_doSettle 25 = .ok (.istore_n 2, 1) := by decide +kernel
theorem dX7_doSettle_26 : decode cX7_doSettle 26 = .ok (.iinc 3 1, 3) := by decide +kernel
theorem dX7_doSettle_29 : decode cX7_doSettle 29 = .ok (.goto (-17), 3) := by decide +kernel
theorem dX7_doSettle_32 : decode cX7_doSettle 32 = .ok (.iload_n 1, 1) := by decide +kernel
theorem dX7_doSettle_33 : decode cX7_doSettle 33 = .ok (.iload_n 2, 1) := by decide +kernel
theorem dX7_doSettle_34 : decode cX7_doSettle 34 = .ok (.iadd, 1) := by decide +kernel
theorem dX7_doSettle_35 : decode cX7_doSettle 35 = .ok (.istore_n 1, 1) := by decide +kernel
theorem dX7_doSettle_36 : decode cX7_doSettle 36 = .ok (.goto (-32), 3) := by decide +kernel
theorem dX7_doSettle_39 : decode cX7_doSettle 39 = .ok (.iload_n 1, 1) := by decide +kernel
theorem dX7_doSettle_40 : decode cX7_doSettle 40 = .ok (.ireturn, 1) := by decide +kernel
set_option maxRecDepth 20000 in
theorem ggX7_settle_X7_record : GoodIn wsX7_settle wsX7_record := goodIn_r _ [6, 7, 8, 9, 38, 39, 40, 41, 42, 43, 44, 45, 46, 47, 48, 49, 50] (by decide +kernel) (by decide +kernel)
set_option maxRecDepth 20000 in
theorem gX7_settle_X7_record : GoodIn wsX7_settle (wsV RX7 53 RX7 yX7_record wsX7_record) := goodIn_app (goodIn_of _ (by decide +kernel)) ggX7_settle_X7_record
set_option maxRecDepth 20000 in
theorem ggX7_settle_X7_doSettle : GoodIn wsX7_settle wsX7_doSettle := goodIn_r _ [13, 14, 15, 16, 5, 17, 9, 18, 19, 20, 21, 22, 23, 24, 25, 26, 27, 28, 29, 30, 31, 32, 33, 34, 35, 36, 37, 38, 39, 40, 41, 42, 43, 44, 45, 46, 47, 48, 49, 50] (by decide +kernel) (by decide +kernel)
set_option maxRecDepth 20000 in
theorem gX7_settle_X7_doSettle : GoodIn wsX7_settle (wsV RX7 130 RX7 yX7_doSettle wsX7_doSettle) := goodIn_app (goodIn_of _ (by decide +kernel)) ggX7_settle_X7_doSettle
theorem dX7_settle_0 : decode cX7_settle 0 = .ok (.aload_n 0, 1) := by decide +kernel
theorem dX7_settle_1 : decode cX7_settle 1 = .ok (.iconst 0, 1) := by decide +kernel
theorem dX7_settle_2 : decode cX7_settle 2 = .ok (.putfield 38, 3) := by decide +kernel
theorem dX7_settle_5 : decode cX7_settle 5 = .ok (.aload_n 0, 1) := by decide +kernel
theorem dX7_settle_6 : decode cX7_settle 6 = .ok (.invokevirtual 53, 3) := by decide +kernel
theorem dX7_settle_9 : decode cX7_settle 9 = .ok (.aload_n 0, 1) := by decide +kernel
theorem dX7_settle_10 : decode cX7_settle 10 = .ok (.invokevirtual 130, 3) := by decide +kernel
theorem dX7_settle_13 : decode cX7_settle 13 = .ok (.ireturn, 1) := by decide +kernel
set_option maxRecDepth 20000 in
theorem ggX7_cut_X7_of : GoodIn wsX7_cut wsX7_of := goodIn_r _ [6, 1, 17, 18, 19, 20, 21, 22, 23, 24, 25, 26, 27, 28, 29] (by decide +kernel) (by decide +kernel)
set_option maxRecDepth 20000 in
theorem gX7_cut_X7_of : GoodIn wsX7_cut (wsV RX7 46 RX7 yX7_of wsX7_of) := goodIn_app (goodIn_of _ (by decide +kernel)) ggX7_cut_X7_of
set_option maxRecDepth 20000 in
theorem ggX7_cut_X7_isInner : GoodIn wsX7_cut wsX7_isInner := goodIn_r _ [9, 10, 11, 5, 12] (by decide +kernel) (by decide +kernel)
set_option maxRecDepth 20000 in
theorem gX7_cut_X7_isInner : GoodIn wsX7_cut (va_wsS RX7 124 yX7_isInner wsX7_isInner) := goodIn_app (goodIn_of _ (by decide +kernel)) ggX7_cut_X7_isInner
set_option maxRecDepth 20000 in
theorem ggX7_cut_X7_goesOn : GoodIn wsX7_cut wsX7_goesOn := goodIn_r _ [16, 2, 3, 4, 5, 6, 1, 17, 18, 19, 20, 21, 22, 23, 24, 25, 26, 27, 28, 29] (by decide +kernel) (by decide +kernel)
set_option maxRecDepth 20000 in
theorem gX7_cut_X7_goesOn : GoodIn wsX7_cut (wsV RX7 56 RX7 yX7_goesOn wsX7_goesOn) := goodIn_app (goodIn_of _ (by decide +kernel)) ggX7_cut_X7_goesOn
theorem dX7_cut_0 : decode cX7_cut 0 = .ok (.iconst 0, 1) := by decide +kernel
theorem dX7_cut_1 : decode cX7_cut 1 = .ok (.istore_n 3, 1) := by decide +kernel
theorem dX7_cut_2 : decode cX7_cut 2 = .ok (.iconst 0, 1) := by decide +kernel
theorem dX7_cut_3 : decode cX7_cut 3 = .ok (.istore 4, 2) := by decide +kernel
theorem dX7_cut_5 : decode cX7_cut 5 = .ok (.iload 4, 2) := by decide +kernel
theorem dX7_cut_7 : decode cX7_cut 7 = .ok (.aload_n 0, 1) := by decide +kernel
theorem dX7_cut_8 : decode cX7_cut 8 = .ok (.getfield 7, 3) := by decide +kernel
theorem dX7_cut_11 : decode cX7_cut 11 = .ok (.iconst 0, 1) := by decide +kernel
theorem dX7_cut_12 : decode cX7_cut 12 = .ok (.iaload, 1) := by decide +kernel
theorem dX7_cut_13 : decode cX7_cut 13 = .ok (.if_icmp .ge 132, 3) := by decide +kernel
theorem dX7_cut_16 : decode cX7_cut 16 = .ok (.aload_n 0, 1) := by decide +kernel
theorem dX7_cut_17 : decode cX7_cut 17 = .ok (.iload 4, 2) := by decide +kernel
theorem dX7_cut_19 : decode cX7_cut 19 = .ok (.iconst 0, 1) := by decide +kernel
theorem dX7_cut_20 : decode cX7_cut 20 = .ok (.invokevirtual 46, 3) := by decide +kernel
theorem dX7_cut_23 : decode cX7_cut 23 = .ok (.istore 5, 2) := by decide +kernel
theorem dX7_cut_25 : decode cX7_cut 25 = .ok (.aload_n 0, 1) := by decide +kernel
theorem dX7_cut_26 : decode cX7_cut 26 = .ok (.iload 4, 2) := by decide +kernel
theorem dX7_cut_28 : decode cX7_cut 28 = .ok (.iconst 1, 1) := by decide +kernel
theorem dX7_cut_29 : decode cX7_cut 29 = .ok (.invokevirtual 46, 3) := by decide +kernel
theorem dX7_cut_32 : decode cX7_cut 32 = .ok (.istore 6, 2) := by decide +kernel
theorem dX7_cut_34 : decode cX7_cut 34 = .ok (.iload 5, 2) := by decide +kernel
theorem dX7_cut_36 : decode cX7_cut 36 = .ok (.iconst 4, 1) := by decide +kernel
theorem dX7_cut_37 : decode cX7_cut 37 = .ok (.if_icmp .lt 23, 3) := by decide +kernel
theorem dX7_cut_40 : decode cX7_cut 40 = .ok (.iload 5, 2) := by decide +kernel
theorem dX7_cut_42 : decode cX7_cut 42 = .ok (.invokestatic 124, 3) := by decide +kernel
theorem dX7_cut_45 : decode cX7_cut 45 = .ok (.ifCond .eq 19, 3) := by decide +kernel
theorem dX7_cut_48 : decode cX7_cut 48 = .ok (.iload_n 1, 1) := by decide +kernel
theorem dX7_cut_49 : decode cX7_cut 49 = .ok (.iload 5, 2) := by decide +kernel
theorem dX7_cut_51 : decode cX7_cut 51 = .ok (.iconst 4, 1) := by decide +kernel
theorem dX7_cut_52 : decode cX7_cut 52 = .ok (.isub, 1) := by decide +kernel
theorem dX7_cut_53 : decode cX7_cut 53 = .ok (.ishr, 1) := by decide +kernel
theorem dX7_cut_54 : decode cX7_cut 54 = .ok (.iconst 1, 1) := by decide +kernel
theorem dX7_cut_55 : decode cX7_cut 55 = .ok (.iand, 1) := by decide +kernel
theorem dX7_cut_56 : decode cX7_cut 56 = .ok (.iconst 1, 1) := by decide +kernel
theorem dX7_cut_57 : decode cX7_cut 57 = .ok (.if_icmp .ne 7, 3) := by decide +kernel
theorem dX7_cut_60 : decode cX7_cut 60 = .ok (.iconst 1, 1) := by decide +kernel
theorem dX7_cut_61 : decode cX7_cut 61 = .ok (.goto 4, 3) := by decide +kernel
theorem dX7_cut_64 : decode cX7_cut 64 = .ok (.iconst 0, 1) := by decide +kernel
theorem dX7_cut_65 : decode cX7_cut 65 = .ok (.istore 7, 2) := by decide +kernel
theorem dX7_cut_67 : decode cX7_cut 67 = .ok (.iload 6, 2) := by decide +kernel
theorem dX7_cut_69 : decode cX7_cut 69 = .ok (.bipush 12, 2) := by decide +kernel
theorem dX7_cut_71 : decode cX7_cut 71 = .ok (.if_icmp .ge 22, 3) := by decide +kernel
theorem dX7_cut_74 : decode cX7_cut 74 = .ok (.iload 6, 2) := by decide +kernel
theorem dX7_cut_76 : decode cX7_cut 76 = .ok (.invokestatic 124, 3) := by decide +kernel
theorem dX7_cut_79 : decode cX7_cut 79 = .ok (.ifCond .eq 18, 3) := by decide +kernel
theorem dX7_cut_82 : decode cX7_cut 82 = .ok (.iload_n 1, 1) := by decide +kernel
theorem dX7_cut_83 : decode cX7_cut 83 = .ok (.iload 6, 2) := by decide +kernel
theorem dX7_cut_85 : decode cX7_cut 85 = .ok (.iconst 4, 1) := by decide +kernel
theorem dX7_cut_86 : decode cX7_cut 86 = .ok (.isub, 1) := by decide +kernel
theorem dX7_cut_87 : decode cX7_cut 87 = .ok (.ishr, 1) := by decide +kernel
theorem dX7_cut_88 : decode cX7_cut 88 = .ok (.iconst 1, 1) := by decide +kernel
theorem dX7_cut_89 : decode cX7_cut 89 = .ok (.iand, 1) := by decide +kernel
theorem dX7_cut_90 : decode cX7_cut 90 = .ok (.ifCond .ne 7, 3) := by decide +kernel
theorem dX7_cut_93 : decode cX7_cut 93 = .ok (.iconst 1, 1) := by decide +kernel
theorem dX7_cut_94 : decode cX7_cut 94 = .ok (.goto 4, 3) := by decide +kernel
theorem dX7_cut_97 : decode cX7_cut 97 = .ok (.iconst 0, 1) := by decide +kernel
theorem dX7_cut_98 : decode cX7_cut 98 = .ok (.istore 8, 2) := by decide +kernel
theorem dX7_cut_100 : decode cX7_cut 100 = .ok (.iload_n 3, 1) := by decide +kernel
theorem dX7_cut_101 : decode cX7_cut 101 = .ok (.iload 4, 2) := by decide +kernel
theorem dX7_cut_103 : decode cX7_cut 103 = .ok (.iload_n 2, 1) := by decide +kernel
theorem dX7_cut_104 : decode cX7_cut 104 = .ok (.if_icmp .eq 32, 3) := by decide +kernel
theorem dX7_cut_107 : decode cX7_cut 107 = .ok (.aload_n 0, 1) := by decide +kernel
theorem dX7_cut_108 : decode cX7_cut 108 = .ok (.iload 4, 2) := by decide +kernel
theorem dX7_cut_110 : decode cX7_cut 110 = .ok (.invokevirtual 56, 3) := by decide +kernel
theorem dX7_cut_113 : decode cX7_cut 113 = .ok (.ifCond .eq 23, 3) := by decide +kernel
theorem dX7_cut_116 : decode cX7_cut 116 = .ok (.iload 7, 2) := by decide +kernel
theorem dX7_cut_118 : decode cX7_cut 118 = .ok (.ifCond .eq 18, 3) := by decide +kernel
theorem dX7_cut_121 : decode cX7_cut 121 = .ok (.iload 8, 2) := by decide +kernel
theorem dX7_cut_123 : decode cX7_cut 123 = .ok (.ifCond .eq 13, 3) := by decide +kernel
theorem dX7_cut_126 : decode cX7_cut 126 = .ok (.aload_n 0, 1) := by decide +kernel
theorem dX7_cut_127 : decode cX7_cut 127 = .ok (.iload 4, 2) := by decide +kernel
theorem dX7_cut_129 : decode cX7_cut 129 = .ok (.iconst 2, 1) := by decide +kernel
theorem dX7_cut_130 : decode cX7_cut 130 = .ok (.invokevirtual 46, 3) := by decide +kernel
theorem dX7_cut_133 : decode cX7_cut 133 = .ok (.goto 4, 3) := by decide +kernel
theorem dX7_cut_136 : decode cX7_cut 136 = .ok (.iconst 0, 1) := by decide +kernel
theorem dX7_cut_137 : decode cX7_cut 137 = .ok (.iadd, 1) := by decide +kernel
theorem dX7_cut_138 : decode cX7_cut 138 = .ok (.istore_n 3, 1) := by decide +kernel
theorem dX7_cut_139 : decode cX7_cut 139 = .ok (.iinc 4 1, 3) := by decide +kernel
theorem dX7_cut_142 : decode cX7_cut 142 = .ok (.goto (-137), 3) := by decide +kernel
theorem dX7_cut_145 : decode cX7_cut 145 = .ok (.iload_n 3, 1) := by decide +kernel
theorem dX7_cut_146 : decode cX7_cut 146 = .ok (.ireturn, 1) := by decide +kernel
set_option maxRecDepth 20000 in
theorem ggX7_through_X7_cut : GoodIn wsX7_through wsX7_cut := goodIn_r _ [5, 6, 7, 8, 9, 4, 10, 11, 12, 13, 14, 15, 16, 17, 18, 19, 20, 21, 22, 23, 24, 25, 26, 27, 28, 29, 30, 31, 32, 33] (by decide +kernel) (by decide +kernel)
set_option maxRecDepth 20000 in
theorem gX7_through_X7_cut : GoodIn wsX7_through (wsV RX7 133 RX7 yX7_cut wsX7_cut) := goodIn_app (goodIn_of _ (by decide +kernel)) ggX7_through_X7_cut
theorem dX7_through_0 : decode cX7_through 0 = .ok (.aload_n 0, 1) := by decide +kernel
theorem dX7_through_1 : decode cX7_through 1 = .ok (.iconst 0, 1) := by decide +kernel
theorem dX7_through_2 : decode cX7_through 2 = .ok (.iload_n 1, 1) := by decide +kernel
theorem dX7_through_3 : decode cX7_through 3 = .ok (.invokevirtual 133, 3) := by decide +kernel
theorem dX7_through_6 : decode cX7_through 6 = .ok (.istore_n 2, 1) := by decide +kernel
theorem dX7_through_7 : decode cX7_through 7 = .ok (.iconst 1, 1) := by decide +kernel
theorem dX7_through_8 : decode cX7_through 8 = .ok (.istore_n 3, 1) := by decide +kernel
theorem dX7_through_9 : decode cX7_through 9 = .ok (.iload_n 3, 1) := by decide +kernel
theorem dX7_through_10 : decode cX7_through 10 = .ok (.sipush 256, 3) := by decide +kernel
theorem dX7_through_13 : decode cX7_through 13 = .ok (.if_icmp .ge 30, 3) := by decide +kernel
theorem dX7_through_16 : decode cX7_through 16 = .ok (.aload_n 0, 1) := by decide +kernel
theorem dX7_through_17 : decode cX7_through 17 = .ok (.iload_n 3, 1) := by decide +kernel
theorem dX7_through_18 : decode cX7_through 18 = .ok (.iload_n 1, 1) := by decide +kernel
theorem dX7_through_19 : decode cX7_through 19 = .ok (.invokevirtual 133, 3) := by decide +kernel
theorem dX7_through_22 : decode cX7_through 22 = .ok (.istore 4, 2) := by decide +kernel
theorem dX7_through_24 : decode cX7_through 24 = .ok (.iload 4, 2) := by decide +kernel
theorem dX7_through_26 : decode cX7_through 26 = .ok (.iload_n 2, 1) := by decide +kernel
theorem dX7_through_27 : decode cX7_through 27 = .ok (.if_icmp .ge 8, 3) := by decide +kernel
theorem dX7_through_30 : decode cX7_through 30 = .ok (.iload 4, 2) := by decide +kernel
theorem dX7_through_32 : decode cX7_through 32 = .ok (.goto 4, 3) := by decide +kernel
theorem dX7_through_35 : decode cX7_through 35 = .ok (.iload_n 2, 1) := by decide +kernel
theorem dX7_through_36 : decode cX7_through 36 = .ok (.istore_n 2, 1) := by decide +kernel
theorem dX7_through_37 : decode cX7_through 37 = .ok (.iinc 3 1, 3) := by decide +kernel
theorem dX7_through_40 : decode cX7_through 40 = .ok (.goto (-31), 3) := by decide +kernel
theorem dX7_through_43 : decode cX7_through 43 = .ok (.iload_n 2, 1) := by decide +kernel
theorem dX7_through_44 : decode cX7_through 44 = .ok (.ireturn, 1) := by decide +kernel
set_option maxRecDepth 20000 in
theorem ggX7_append_X7_in : GoodIn wsX7_append wsX7_in := goodIn_r _ [7] (by decide +kernel) (by decide +kernel)
set_option maxRecDepth 20000 in
theorem gX7_append_X7_in : GoodIn wsX7_append (va_wsS RX7 42 yX7_in wsX7_in) := goodIn_app (goodIn_of _ (by decide +kernel)) ggX7_append_X7_in
theorem dX7_append_0 : decode cX7_append 0 = .ok (.aload_n 0, 1) := by decide +kernel
theorem dX7_append_1 : decode cX7_append 1 = .ok (.iload_n 1, 1) := by decide +kernel
theorem dX7_append_2 : decode cX7_append 2 = .ok (.bipush 33, 2) := by decide +kernel
theorem dX7_append_4 : decode cX7_append 4 = .ok (.bipush 126, 2) := by decide +kernel
theorem dX7_append_6 : decode cX7_append 6 = .ok (.invokestatic 42, 3) := by decide +kernel
theorem dX7_append_9 : decode cX7_append 9 = .ok (.ifCond .ne 7, 3) := by decide +kernel
theorem dX7_append_12 : decode cX7_append 12 = .ok (.iconst 1, 1) := by decide +kernel
theorem dX7_append_13 : decode cX7_append 13 = .ok (.goto 17, 3) := by decide +kernel
theorem dX7_append_16 : decode cX7_append 16 = .ok (.aload_n 0, 1) := by decide +kernel
theorem dX7_append_17 : decode cX7_append 17 = .ok (.getfield 136, 3) := by decide +kernel
theorem dX7_append_20 : decode cX7_append 20 = .ok (.bipush 60, 2) := by decide +kernel
theorem dX7_append_22 : decode cX7_append 22 = .ok (.if_icmp .ne 7, 3) := by decide +kernel
theorem dX7_append_25 : decode cX7_append 25 = .ok (.iconst 2, 1) := by decide +kernel
theorem dX7_append_26 : decode cX7_append 26 = .ok (.goto 4, 3) := by decide +kernel
theorem dX7_append_29 : decode cX7_append 29 = .ok (.iconst 0, 1) := by decide +kernel
theorem dX7_append_30 : decode cX7_append 30 = .ok (.putfield 38, 3) := by decide +kernel
theorem dX7_append_33 : decode cX7_append 33 = .ok (.aload_n 0, 1) := by decide +kernel
theorem dX7_append_34 : decode cX7_append 34 = .ok (.getfield 38, 3) := by decide +kernel
theorem dX7_append_37 : decode cX7_append 37 = .ok (.ifCond .le 5, 3) := by decide +kernel
theorem dX7_append_40 : decode cX7_append 40 = .ok (.iconst 0, 1) := by decide +kernel
theorem dX7_append_41 : decode cX7_append 41 = .ok (.ireturn, 1) := by decide +kernel
theorem dX7_append_42 : decode cX7_append 42 = .ok (.aload_n 0, 1) := by decide +kernel
theorem dX7_append_43 : decode cX7_append 43 = .ok (.getfield 26, 3) := by decide +kernel
theorem dX7_append_46 : decode cX7_append 46 = .ok (.aload_n 0, 1) := by decide +kernel
theorem dX7_append_47 : decode cX7_append 47 = .ok (.getfield 136, 3) := by decide +kernel
theorem dX7_append_50 : decode cX7_append 50 = .ok (.iload_n 1, 1) := by decide +kernel
theorem dX7_append_51 : decode cX7_append 51 = .ok (.iastore, 1) := by decide +kernel
theorem dX7_append_52 : decode cX7_append 52 = .ok (.aload_n 0, 1) := by decide +kernel
theorem dX7_append_53 : decode cX7_append 53 = .ok (.dup, 1) := by decide +kernel
theorem dX7_append_54 : decode cX7_append 54 = .ok (.getfield 136, 3) := by decide +kernel
theorem dX7_append_57 : decode cX7_append 57 = .ok (.iconst 1, 1) := by decide +kernel
theorem dX7_append_58 : decode cX7_append 58 = .ok (.iadd, 1) := by decide +kernel
theorem dX7_append_59 : decode cX7_append 59 = .ok (.putfield 136, 3) := by decide +kernel
theorem dX7_append_62 : decode cX7_append 62 = .ok (.aload_n 0, 1) := by decide +kernel
theorem dX7_append_63 : decode cX7_append 63 = .ok (.getfield 136, 3) := by decide +kernel
theorem dX7_append_66 : decode cX7_append 66 = .ok (.ireturn, 1) := by decide +kernel
theorem dX7_clearBuffer_0 : decode cX7_clearBuffer 0 = .ok (.aload_n 0, 1) := by decide +kernel
theorem dX7_clearBuffer_1 : decode cX7_clearBuffer 1 = .ok (.iconst 0, 1) := by decide +kernel
theorem dX7_clearBuffer_2 : decode cX7_clearBuffer 2 = .ok (.putfield 38, 3) := by decide +kernel
theorem dX7_clearBuffer_5 : decode cX7_clearBuffer 5 = .ok (.aload_n 0, 1) := by decide +kernel
theorem dX7_clearBuffer_6 : decode cX7_clearBuffer 6 = .ok (.getfield 136, 3) := by decide +kernel
theorem dX7_clearBuffer_9 : decode cX7_clearBuffer 9 = .ok (.istore_n 1, 1) := by decide +kernel
theorem dX7_clearBuffer_10 : decode cX7_clearBuffer 10 = .ok (.aload_n 0, 1) := by decide +kernel
theorem dX7_clearBuffer_11 : decode cX7_clearBuffer 11 = .ok (.iconst 0, 1) := by decide +kernel
theorem dX7_clearBuffer_12 : decode cX7_clearBuffer 12 = .ok (.putfield 136, 3) := by decide +kernel
theorem dX7_clearBuffer_15 : decode cX7_clearBuffer 15 = .ok (.iload_n 1, 1) := by decide +kernel
theorem dX7_clearBuffer_16 : decode cX7_clearBuffer 16 = .ok (.ireturn, 1) := by decide +kernel
theorem dX7_at_0 : decode cX7_at 0 = .ok (.iload_n 1, 1) := by decide +kernel
theorem dX7_at_1 : decode cX7_at 1 = .ok (.aload_n 0, 1) := by decide +kernel
theorem dX7_at_2 : decode cX7_at 2 = .ok (.getfield 136, 3) := by decide +kernel
theorem dX7_at_5 : decode cX7_at 5 = .ok (.if_icmp .ge 12, 3) := by decide +kernel
theorem dX7_at_8 : decode cX7_at 8 = .ok (.aload_n 0, 1) := by decide +kernel
theorem dX7_at_9 : decode cX7_at 9 = .ok (.getfield 26, 3) := by decide +kernel
theorem dX7_at_12 : decode cX7_at 12 = .ok (.iload_n 1, 1) := by decide +kernel
theorem dX7_at_13 : decode cX7_at 13 = .ok (.iaload, 1) := by decide +kernel
theorem dX7_at_14 : decode cX7_at 14 = .ok (.goto 4, 3) := by decide +kernel
theorem dX7_at_17 : decode cX7_at 17 = .ok (.iconst 0, 1) := by decide +kernel
theorem dX7_at_18 : decode cX7_at 18 = .ok (.ireturn, 1) := by decide +kernel
set_option maxRecDepth 20000 in
theorem ggX7_readRibbon_X7_at : GoodIn wsX7_readRibbon wsX7_at := goodIn_r _ [7, 8, 9, 16, 17, 18, 19, 20, 21, 22, 23, 24, 25, 26, 27, 28] (by decide +kernel) (by decide +kernel)
set_option maxRecDepth 20000 in
theorem gX7_readRibbon_X7_at : GoodIn wsX7_readRibbon (wsV RX7 139 RX7 yX7_at wsX7_at) := goodIn_app (goodIn_of _ (by decide +kernel)) ggX7_readRibbon_X7_at
set_option maxRecDepth 20000 in
theorem ggX7_readRibbon_X7_isPost : GoodIn wsX7_readRibbon wsX7_isPost := goodIn_r _ [12, 13, 14, 6, 15] (by decide +kernel) (by decide +kernel)
set_option maxRecDepth 20000 in
theorem gX7_readRibbon_X7_isPost : GoodIn wsX7_readRibbon (va_wsS RX7 68 yX7_isPost wsX7_isPost) := goodIn_app (goodIn_of _ (by decide +kernel)) ggX7_readRibbon_X7_isPost
set_option maxRecDepth 20000 in
theorem ggX7_readRibbon_X7_in : GoodIn wsX7_readRibbon wsX7_in := goodIn_r _ [15] (by decide +kernel) (by decide +kernel)
set_option maxRecDepth 20000 in
theorem gX7_readRibbon_X7_in : GoodIn wsX7_readRibbon (va_wsS RX7 42 yX7_in wsX7_in) := goodIn_app (goodIn_of _ (by decide +kernel)) ggX7_readRibbon_X7_in
theorem dX7_readRibbon_0 : decode cX7_readRibbon 0 = .ok (.aload_n 0, 1) := by decide +kernel
theorem dX7_readRibbon_1 : decode cX7_readRibbon 1 = .ok (.iload_n 1, 1) := by decide +kernel
theorem dX7_readRibbon_2 : decode cX7_readRibbon 2 = .ok (.invokevirtual 139, 3) := by decide +kernel
theorem dX7_readRibbon_5 : decode cX7_readRibbon 5 = .ok (.bipush 97, 2) := by decide +kernel
theorem dX7_readRibbon_7 : decode cX7_readRibbon 7 = .ok (.isub, 1) := by decide +kernel
theorem dX7_readRibbon_8 : decode cX7_readRibbon 8 = .ok (.istore_n 2, 1) := by decide +kernel
theorem dX7_readRibbon_9 : decode cX7_readRibbon 9 = .ok (.iload_n 2, 1) := by decide +kernel
theorem dX7_readRibbon_10 : decode cX7_readRibbon 10 = .ok (.invokestatic 68, 3) := by decide +kernel
theorem dX7_readRibbon_13 : decode cX7_readRibbon 13 = .ok (.ifCond .ne 7, 3) := by decide +kernel
theorem dX7_readRibbon_16 : decode cX7_readRibbon 16 = .ok (.iconst (-1), 1) := by decide +kernel
theorem dX7_readRibbon_17 : decode cX7_readRibbon 17 = .ok (.iload_n 1, 1) := by decide +kernel
theorem dX7_readRibbon_18 : decode cX7_readRibbon 18 = .ok (.isub, 1) := by decide +kernel
theorem dX7_readRibbon_19 : decode cX7_readRibbon 19 = .ok (.ireturn, 1) := by decide +kernel
theorem dX7_readRibbon_20 : decode cX7_readRibbon 20 = .ok (.aload_n 0, 1) := by decide +kernel
theorem dX7_readRibbon_21 : decode cX7_readRibbon 21 = .ok (.iload_n 1, 1) := by decide +kernel
theorem dX7_readRibbon_22 : decode cX7_readRibbon 22 = .ok (.iconst 1, 1) := by decide +kernel
theorem dX7_readRibbon_23 : decode cX7_readRibbon 23 = .ok (.iadd, 1) := by decide +kernel
theorem dX7_readRibbon_24 : decode cX7_readRibbon 24 = .ok (.invokevirtual 139, 3) := by decide +kernel
theorem dX7_readRibbon_27 : decode cX7_readRibbon 27 = .ok (.bipush 97, 2) := by decide +kernel
theorem dX7_readRibbon_29 : decode cX7_readRibbon 29 = .ok (.isub, 1) := by decide +kernel
theorem dX7_readRibbon_30 : decode cX7_readRibbon 30 = .ok (.istore_n 3, 1) := by decide +kernel
theorem dX7_readRibbon_31 : decode cX7_readRibbon 31 = .ok (.iload_n 3, 1) := by decide +kernel
theorem dX7_readRibbon_32 : decode cX7_readRibbon 32 = .ok (.invokestatic 68, 3) := by decide +kernel
theorem dX7_readRibbon_35 : decode cX7_readRibbon 35 = .ok (.ifCond .eq 12, 3) := by decide +kernel
theorem dX7_readRibbon_38 : decode cX7_readRibbon 38 = .ok (.iload_n 2, 1) := by decide +kernel
theorem dX7_readRibbon_39 : decode cX7_readRibbon 39 = .ok (.iconst 4, 1) := by decide +kernel
theorem dX7_readRibbon_40 : decode cX7_readRibbon 40 = .ok (.idiv, 1) := by decide +kernel
theorem dX7_readRibbon_41 : decode cX7_readRibbon 41 = .ok (.iload_n 3, 1) := by decide +kernel
theorem dX7_readRibbon_42 : decode cX7_readRibbon 42 = .ok (.iconst 4, 1) := by decide +kernel
theorem dX7_readRibbon_43 : decode cX7_readRibbon 43 = .ok (.idiv, 1) := by decide +kernel
theorem dX7_readRibbon_44 : decode cX7_readRibbon 44 = .ok (.if_icmp .ne 8, 3) := by decide +kernel
theorem dX7_readRibbon_47 : decode cX7_readRibbon 47 = .ok (.bipush (-2), 2) := by decide +kernel
theorem dX7_readRibbon_49 : decode cX7_readRibbon 49 = .ok (.iload_n 1, 1) := by decide +kernel
theorem dX7_readRibbon_50 : decode cX7_readRibbon 50 = .ok (.isub, 1) := by decide +kernel
theorem dX7_readRibbon_51 : decode cX7_readRibbon 51 = .ok (.ireturn, 1) := by decide +kernel
theorem dX7_readRibbon_52 : decode cX7_readRibbon 52 = .ok (.aload_n 0, 1) := by decide +kernel
theorem dX7_readRibbon_53 : decode cX7_readRibbon 53 = .ok (.iload_n 1, 1) := by decide +kernel
theorem dX7_readRibbon_54 : decode cX7_readRibbon 54 = .ok (.iconst 2, 1) := by decide +kernel
theorem dX7_readRibbon_55 : decode cX7_readRibbon 55 = .ok (.iadd, 1) := by decide +kernel
theorem dX7_readRibbon_56 : decode cX7_readRibbon 56 = .ok (.invokevirtual 139, 3) := by decide +kernel
theorem dX7_readRibbon_59 : decode cX7_readRibbon 59 = .ok (.bipush 48, 2) := by decide +kernel
theorem dX7_readRibbon_61 : decode cX7_readRibbon 61 = .ok (.isub, 1) := by decide +kernel
theorem dX7_readRibbon_62 : decode cX7_readRibbon 62 = .ok (.istore 4, 2) := by decide +kernel
theorem dX7_readRibbon_64 : decode cX7_readRibbon 64 = .ok (.iload 4, 2) := by decide +kernel
theorem dX7_readRibbon_66 : decode cX7_readRibbon 66 = .ok (.iconst 1, 1) := by decide +kernel
theorem dX7_readRibbon_67 : decode cX7_readRibbon 67 = .ok (.bipush 9, 2) := by decide +kernel
theorem dX7_readRibbon_69 : decode cX7_readRibbon 69 = .ok (.invokestatic 42, 3) := by decide +kernel
theorem dX7_readRibbon_72 : decode cX7_readRibbon 72 = .ok (.ifCond .ne 8, 3) := by decide +kernel
theorem dX7_readRibbon_75 : decode cX7_readRibbon 75 = .ok (.bipush (-3), 2) := by decide +kernel
theorem dX7_readRibbon_77 : decode cX7_readRibbon 77 = .ok (.iload_n 1, 1) := by decide +kernel
theorem dX7_readRibbon_78 : decode cX7_readRibbon 78 = .ok (.isub, 1) := by decide +kernel
theorem dX7_readRibbon_79 : decode cX7_readRibbon 79 = .ok (.ireturn, 1) := by decide +kernel
theorem dX7_readRibbon_80 : decode cX7_readRibbon 80 = .ok (.iload_n 1, 1) := by decide +kernel
theorem dX7_readRibbon_81 : decode cX7_readRibbon 81 = .ok (.iconst 3, 1) := by decide +kernel
theorem dX7_readRibbon_82 : decode cX7_readRibbon 82 = .ok (.iadd, 1) := by decide +kernel
theorem dX7_readRibbon_83 : decode cX7_readRibbon 83 = .ok (.istore 5, 2) := by decide +kernel
theorem dX7_readRibbon_85 : decode cX7_readRibbon 85 = .ok (.aload_n 0, 1) := by decide +kernel
theorem dX7_readRibbon_86 : decode cX7_readRibbon 86 = .ok (.iload 5, 2) := by decide +kernel
theorem dX7_readRibbon_88 : decode cX7_readRibbon 88 = .ok (.invokevirtual 139, 3) := by decide +kernel
theorem dX7_readRibbon_91 : decode cX7_readRibbon 91 = .ok (.bipush 48, 2) := by decide +kernel
theorem dX7_readRibbon_93 : decode cX7_readRibbon 93 = .ok (.bipush 57, 2) := by decide +kernel
theorem dX7_readRibbon_95 : decode cX7_readRibbon 95 = .ok (.invokestatic 42, 3) := by decide +kernel
theorem dX7_readRibbon_98 : decode cX7_readRibbon 98 = .ok (.ifCond .eq 43, 3) := by decide +kernel
theorem dX7_readRibbon_101 : decode cX7_readRibbon 101 = .ok (.bipush 10, 2) := by decide +kernel
theorem dX7_readRibbon_103 : decode cX7_readRibbon 103 = .ok (.iload 4, 2) := by decide +kernel
theorem dX7_readRibbon_105 : decode cX7_readRibbon 105 = .ok (.imul, 1) := by decide +kernel
theorem dX7_readRibbon_106 : decode cX7_readRibbon 106 = .ok (.aload_n 0, 1) := by decide +kernel
theorem dX7_readRibbon_107 : decode cX7_readRibbon 107 = .ok (.iload 5, 2) := by decide +kernel
theorem dX7_readRibbon_109 : decode cX7_readRibbon 109 = .ok (.invokevirtual 139, 3) := by decide +kernel
theorem dX7_readRibbon_112 : decode cX7_readRibbon 112 = .ok (.iadd, 1) := by decide +kernel
theorem dX7_readRibbon_113 : decode cX7_readRibbon 113 = .ok (.bipush 48, 2) := by decide +kernel
theorem dX7_readRibbon_115 : decode cX7_readRibbon 115 = .ok (.isub, 1) := by decide +kernel
theorem dX7_readRibbon_116 : decode cX7_readRibbon 116 = .ok (.bipush 50, 2) := by decide +kernel
theorem dX7_readRibbon_118 : decode cX7_readRibbon 118 = .ok (.if_icmp .gt 23, 3) := by decide +kernel
theorem dX7_readRibbon_121 : decode cX7_readRibbon 121 = .ok (.bipush 10, 2) := by decide +kernel
theorem dX7_readRibbon_123 : decode cX7_readRibbon 123 = .ok (.iload 4, 2) := by decide +kernel
theorem dX7_readRibbon_125 : decode cX7_readRibbon 125 = .ok (.imul, 1) := by decide +kernel
theorem dX7_readRibbon_126 : decode cX7_readRibbon 126 = .ok (.aload_n 0, 1) := by decide +kernel
theorem dX7_readRibbon_127 : decode cX7_readRibbon 127 = .ok (.iload 5, 2) := by decide +kernel
theorem dX7_readRibbon_129 : decode cX7_readRibbon 129 = .ok (.invokevirtual 139, 3) := by decide +kernel
theorem dX7_readRibbon_132 : decode cX7_readRibbon 132 = .ok (.iadd, 1) := by decide +kernel
theorem dX7_readRibbon_133 : decode cX7_readRibbon 133 = .ok (.bipush 48, 2) := by decide +kernel
theorem dX7_readRibbon_135 : decode cX7_readRibbon 135 = .ok (.isub, 1) := by decide +kernel
theorem dX7_readRibbon_136 : decode cX7_readRibbon 136 = .ok (.istore 4, 2) := by decide +kernel
theorem dX7_readRibbon_138 : decode cX7_readRibbon 138 = .ok (.iinc 5 1, 3) := by decide +kernel
theorem dX7_readRibbon_141 : decode cX7_readRibbon 141 = .ok (.aload_n 0, 1) := by decide +kernel
theorem dX7_readRibbon_142 : decode cX7_readRibbon 142 = .ok (.getfield 35, 3) := by decide +kernel
theorem dX7_readRibbon_145 : decode cX7_readRibbon 145 = .ok (.iconst 3, 1) := by decide +kernel
theorem dX7_readRibbon_146 : decode cX7_readRibbon 146 = .ok (.aload_n 0, 1) := by decide +kernel
theorem dX7_readRibbon_147 : decode cX7_readRibbon 147 = .ok (.getfield 142, 3) := by decide +kernel
theorem dX7_readRibbon_150 : decode cX7_readRibbon 150 = .ok (.imul, 1) := by decide +kernel
theorem dX7_readRibbon_151 : decode cX7_readRibbon 151 = .ok (.iload_n 2, 1) := by decide +kernel
theorem dX7_readRibbon_152 : decode cX7_readRibbon 152 = .ok (.iastore, 1) := by decide +kernel
theorem dX7_readRibbon_153 : decode cX7_readRibbon 153 = .ok (.aload_n 0, 1) := by decide +kernel
theorem dX7_readRibbon_154 : decode cX7_readRibbon 154 = .ok (.getfield 35, 3) := by decide +kernel
theorem dX7_readRibbon_157 : decode cX7_readRibbon 157 = .ok (.iconst 3, 1) := by decide +kernel
theorem dX7_readRibbon_158 : decode cX7_readRibbon 158 = .ok (.aload_n 0, 1) := by decide +kernel
theorem dX7_readRibbon_159 : decode cX7_readRibbon 159 = .ok (.getfield 142, 3) := by decide +kernel
theorem dX7_readRibbon_162 : decode cX7_readRibbon 162 = .ok (.imul, 1) := by decide +kernel
theorem dX7_readRibbon_163 : decode cX7_readRibbon 163 = .ok (.iconst 1, 1) := by decide +kernel
theorem dX7_readRibbon_164 : decode cX7_readRibbon 164 = .ok (.iadd, 1) := by decide +kernel
theorem dX7_readRibbon_165 : decode cX7_readRibbon 165 = .ok (.iload_n 3, 1) := by decide +kernel
theorem dX7_readRibbon_166 : decode cX7_readRibbon 166 = .ok (.iastore, 1) := by decide +kernel
theorem dX7_readRibbon_167 : decode cX7_readRibbon 167 = .ok (.aload_n 0, 1) := by decide +kernel
theorem dX7_readRibbon_168 : decode cX7_readRibbon 168 = .ok (.getfield 35, 3) := by decide +kernel
theorem dX7_readRibbon_171 : decode cX7_readRibbon 171 = .ok (.iconst 3, 1) := by decide +kernel
theorem dX7_readRibbon_172 : decode cX7_readRibbon 172 = .ok (.aload_n 0, 1) := by decide +kernel
theorem dX7_readRibbon_173 : decode cX7_readRibbon 173 = .ok (.getfield 142, 3) := by decide +kernel
theorem dX7_readRibbon_176 : decode cX7_readRibbon 176 = .ok (.imul, 1) := by decide +kernel
theorem dX7_readRibbon_177 : decode cX7_readRibbon 177 = .ok (.iconst 2, 1) := by decide +kernel
theorem dX7_readRibbon_178 : decode cX7_readRibbon 178 = .ok (.iadd, 1) := by decide +kernel
theorem dX7_readRibbon_179 : decode cX7_readRibbon 179 = .ok (.iload 4, 2) := by decide +kernel
theorem dX7_readRibbon_181 : decode cX7_readRibbon 181 = .ok (.iastore, 1) := by decide +kernel
theorem dX7_readRibbon_182 : decode cX7_readRibbon 182 = .ok (.aload_n 0, 1) := by decide +kernel
theorem dX7_readRibbon_183 : decode cX7_readRibbon 183 = .ok (.dup, 1) := by decide +kernel
theorem dX7_readRibbon_184 : decode cX7_readRibbon 184 = .ok (.getfield 142, 3) := by decide +kernel
theorem dX7_readRibbon_187 : decode cX7_readRibbon 187 = .ok (.iconst 1, 1) := by decide +kernel
theorem dX7_readRibbon_188 : decode cX7_readRibbon 188 = .ok (.iadd, 1) := by decide +kernel
theorem dX7_readRibbon_189 : decode cX7_readRibbon 189 = .ok (.putfield 142, 3) := by decide +kernel
theorem dX7_readRibbon_192 : decode cX7_readRibbon 192 = .ok (.iload 5, 2) := by decide +kernel
theorem dX7_readRibbon_194 : decode cX7_readRibbon 194 = .ok (.ireturn, 1) := by decide +kernel
set_option maxRecDepth 20000 in
theorem ggX7_findError_X7_readRibbon : GoodIn wsX7_findError wsX7_readRibbon := goodIn_r _ [8, 9, 1, 10, 11, 12, 7, 13, 2, 3, 14, 15, 16, 17, 18, 19, 20, 21, 22, 23, 24, 25, 26, 27, 28, 29, 30, 31, 32] (by decide +kernel) (by decide +kernel)
set_option maxRecDepth 20000 in
theorem gX7_findError_X7_readRibbon : GoodIn wsX7_findError (wsV RX7 145 RX7 yX7_readRibbon wsX7_readRibbon) := goodIn_app (goodIn_of _ (by decide +kernel)) ggX7_findError_X7_readRibbon
theorem dX7_findError_0 : decode cX7_findError 0 = .ok (.iconst 0, 1) := by decide +kernel
theorem dX7_findError_1 : decode cX7_findError 1 = .ok (.istore_n 1, 1) := by decide +kernel
theorem dX7_findError_2 : decode cX7_findError 2 = .ok (.aload_n 0, 1) := by decide +kernel
theorem dX7_findError_3 : decode cX7_findError 3 = .ok (.iconst 0, 1) := by decide +kernel
theorem dX7_findError_4 : decode cX7_findError 4 = .ok (.putfield 142, 3) := by decide +kernel
theorem dX7_findError_7 : decode cX7_findError 7 = .ok (.aload_n 0, 1) := by decide +kernel
theorem dX7_findError_8 : decode cX7_findError 8 = .ok (.iload_n 1, 1) := by decide +kernel
theorem dX7_findError_9 : decode cX7_findError 9 = .ok (.invokevirtual 145, 3) := by decide +kernel
theorem dX7_findError_12 : decode cX7_findError 12 = .ok (.istore_n 1, 1) := by decide +kernel
theorem dX7_findError_13 : decode cX7_findError 13 = .ok (.iload_n 1, 1) := by decide +kernel
theorem dX7_findError_14 : decode cX7_findError 14 = .ok (.ifCond .ge 7, 3) := by decide +kernel
theorem dX7_findError_17 : decode cX7_findError 17 = .ok (.iconst (-1), 1) := by decide +kernel
theorem dX7_findError_18 : decode cX7_findError 18 = .ok (.iload_n 1, 1) := by decide +kernel
theorem dX7_findError_19 : decode cX7_findError 19 = .ok (.isub, 1) := by decide +kernel
theorem dX7_findError_20 : decode cX7_findError 20 = .ok (.ireturn, 1) := by decide +kernel
theorem dX7_findError_21 : decode cX7_findError 21 = .ok (.iload_n 1, 1) := by decide +kernel
theorem dX7_findError_22 : decode cX7_findError 22 = .ok (.aload_n 0, 1) := by decide +kernel
theorem dX7_findError_23 : decode cX7_findError 23 = .ok (.getfield 136, 3) := by decide +kernel
theorem dX7_findError_26 : decode cX7_findError 26 = .ok (.if_icmp .ne 5, 3) := by decide +kernel
theorem dX7_findError_29 : decode cX7_findError 29 = .ok (.iconst (-1), 1) := by decide +kernel
theorem dX7_findError_30 : decode cX7_findError 30 = .ok (.ireturn, 1) := by decide +kernel
theorem dX7_findError_31 : decode cX7_findError 31 = .ok (.aload_n 0, 1) := by decide +kernel
theorem dX7_findError_32 : decode cX7_findError 32 = .ok (.getfield 26, 3) := by decide +kernel
theorem dX7_findError_35 : decode cX7_findError 35 = .ok (.iload_n 1, 1) := by decide +kernel
theorem dX7_findError_36 : decode cX7_findError 36 = .ok (.iaload, 1) := by decide +kernel
theorem dX7_findError_37 : decode cX7_findError 37 = .ok (.bipush 59, 2) := by decide +kernel
theorem dX7_findError_39 : decode cX7_findError 39 = .ok (.if_icmp .eq 5, 3) := by decide +kernel
theorem dX7_findError_42 : decode cX7_findError 42 = .ok (.iload_n 1, 1) := by decide +kernel
theorem dX7_findError_43 : decode cX7_findError 43 = .ok (.ireturn, 1) := by decide +kernel
theorem dX7_findError_44 : decode cX7_findError 44 = .ok (.iinc 1 1, 3) := by decide +kernel
theorem dX7_findError_47 : decode cX7_findError 47 = .ok (.goto (-40), 3) := by decide +kernel
set_option maxRecDepth 20000 in
theorem ggX7_firstError_X7_findError : GoodIn wsX7_firstError wsX7_findError := goodIn_r _ [7, 8, 2, 9, 10, 11, 12, 6, 13, 14, 15, 16, 17, 18, 19, 20, 21, 22, 23, 24, 25, 26, 27, 28, 29, 30, 31, 32, 33, 34, 35, 36, 37] (by decide +kernel) (by decide +kernel)
set_option maxRecDepth 20000 in
theorem gX7_firstError_X7_findError : GoodIn wsX7_firstError (wsV RX7 148 RX7 yX7_findError wsX7_findError) := goodIn_app (goodIn_of _ (by decide +kernel)) ggX7_firstError_X7_findError
theorem dX7_firstError_0 : decode cX7_firstError 0 = .ok (.aload_n 0, 1) := by decide +kernel
theorem dX7_firstError_1 : decode cX7_firstError 1 = .ok (.iconst 0, 1) := by decide +kernel
theorem dX7_firstError_2 : decode cX7_firstError 2 = .ok (.putfield 38, 3) := by decide +kernel
theorem dX7_firstError_5 : decode cX7_firstError 5 = .ok (.aload_n 0, 1) := by decide +kernel
theorem dX7_firstError_6 : decode cX7_firstError 6 = .ok (.invokevirtual 148, 3) := by decide +kernel
theorem dX7_firstError_9 : decode cX7_firstError 9 = .ok (.istore_n 1, 1) := by decide +kernel
theorem dX7_firstError_10 : decode cX7_firstError 10 = .ok (.iload_n 1, 1) := by decide +kernel
theorem dX7_firstError_11 : decode cX7_firstError 11 = .ok (.ifCond .ge 10, 3) := by decide +kernel
theorem dX7_firstError_14 : decode cX7_firstError 14 = .ok (.aload_n 0, 1) := by decide +kernel
theorem dX7_firstError_15 : decode cX7_firstError 15 = .ok (.getfield 136, 3) := by decide +kernel
theorem dX7_firstError_18 : decode cX7_firstError 18 = .ok (.goto 4, 3) := by decide +kernel
theorem dX7_firstError_21 : decode cX7_firstError 21 = .ok (.iload_n 1, 1) := by decide +kernel
theorem dX7_firstError_22 : decode cX7_firstError 22 = .ok (.ireturn, 1) := by decide +kernel
set_option maxRecDepth 20000 in
theorem ggX7_load_X7_findError : GoodIn wsX7_load wsX7_findError := goodIn_r _ [10, 3, 5, 11, 12, 13, 14, 9, 15, 4, 16, 17, 18, 19, 20, 21, 22, 23, 24, 25, 36, 37, 38, 39, 40, 41, 42, 43, 44, 45, 46, 47, 48] (by decide +kernel) (by decide +kernel)
set_option maxRecDepth 20000 in
theorem gX7_load_X7_findError : GoodIn wsX7_load (wsV RX7 148 RX7 yX7_findError wsX7_findError) := goodIn_app (goodIn_of _ (by decide +kernel)) ggX7_load_X7_findError
set_option maxRecDepth 20000 in
theorem ggX7_load_X7_record : GoodIn wsX7_load wsX7_record := goodIn_r _ [29, 30, 31, 2, 36, 37, 38, 39, 40, 41, 42, 43, 44, 45, 46, 47, 48] (by decide +kernel) (by decide +kernel)
set_option maxRecDepth 20000 in
theorem gX7_load_X7_record : GoodIn wsX7_load (wsV RX7 53 RX7 yX7_record wsX7_record) := goodIn_app (goodIn_of _ (by decide +kernel)) ggX7_load_X7_record
set_option maxRecDepth 20000 in
theorem ggX7_load_X7_putRibbon : GoodIn wsX7_load wsX7_putRibbon := goodIn_r _ [35, 2, 36, 37, 38, 39, 40, 41, 42, 43, 44, 45, 46, 47, 48] (by decide +kernel) (by decide +kernel)
set_option maxRecDepth 20000 in
theorem gX7_load_X7_putRibbon : GoodIn wsX7_load (wsV RX7 71 RX7 yX7_putRibbon wsX7_putRibbon) := goodIn_app (goodIn_of _ (by decide +kernel)) ggX7_load_X7_putRibbon
theorem dX7_load_0 : decode cX7_load 0 = .ok (.aload_n 0, 1) := by decide +kernel
theorem dX7_load_1 : decode cX7_load 1 = .ok (.aload_n 0, 1) := by decide +kernel
theorem dX7_load_2 : decode cX7_load 2 = .ok (.invokevirtual 148, 3) := by decide +kernel
theorem dX7_load_5 : decode cX7_load 5 = .ok (.ifCond .ge 7, 3) := by decide +kernel
theorem dX7_load_8 : decode cX7_load 8 = .ok (.iconst 0, 1) := by decide +kernel
theorem dX7_load_9 : decode cX7_load 9 = .ok (.goto 4, 3) := by decide +kernel
theorem dX7_load_12 : decode cX7_load 12 = .ok (.iconst 1, 1) := by decide +kernel
theorem dX7_load_13 : decode cX7_load 13 = .ok (.putfield 38, 3) := by decide +kernel
theorem dX7_load_16 : decode cX7_load 16 = .ok (.aload_n 0, 1) := by decide +kernel
theorem dX7_load_17 : decode cX7_load 17 = .ok (.getfield 38, 3) := by decide +kernel
theorem dX7_load_20 : decode cX7_load 20 = .ok (.ifCond .le 5, 3) := by decide +kernel
theorem dX7_load_23 : decode cX7_load 23 = .ok (.iconst 0, 1) := by decide +kernel
theorem dX7_load_24 : decode cX7_load 24 = .ok (.ireturn, 1) := by decide +kernel
theorem dX7_load_25 : decode cX7_load 25 = .ok (.aload_n 0, 1) := by decide +kernel
theorem dX7_load_26 : decode cX7_load 26 = .ok (.invokevirtual 53, 3) := by decide +kernel
theorem dX7_load_29 : decode cX7_load 29 = .ok (.aload_n 0, 1) := by decide +kernel
theorem dX7_load_30 : decode cX7_load 30 = .ok (.getfield 7, 3) := by decide +kernel
theorem dX7_load_33 : decode cX7_load 33 = .ok (.iconst 0, 1) := by decide +kernel
theorem dX7_load_34 : decode cX7_load 34 = .ok (.iconst 0, 1) := by decide +kernel
theorem dX7_load_35 : decode cX7_load 35 = .ok (.iastore, 1) := by decide +kernel
theorem dX7_load_36 : decode cX7_load 36 = .ok (.iconst 0, 1) := by decide +kernel
theorem dX7_load_37 : decode cX7_load 37 = .ok (.istore_n 1, 1) := by decide +kernel
theorem dX7_load_38 : decode cX7_load 38 = .ok (.iload_n 1, 1) := by decide +kernel
theorem dX7_load_39 : decode cX7_load 39 = .ok (.aload_n 0, 1) := by decide +kernel
theorem dX7_load_40 : decode cX7_load 40 = .ok (.getfield 142, 3) := by decide +kernel
theorem dX7_load_43 : decode cX7_load 43 = .ok (.if_icmp .ge 41, 3) := by decide +kernel
theorem dX7_load_46 : decode cX7_load 46 = .ok (.aload_n 0, 1) := by decide +kernel
theorem dX7_load_47 : decode cX7_load 47 = .ok (.aload_n 0, 1) := by decide +kernel
theorem dX7_load_48 : decode cX7_load 48 = .ok (.getfield 35, 3) := by decide +kernel
theorem dX7_load_51 : decode cX7_load 51 = .ok (.iconst 3, 1) := by decide +kernel
theorem dX7_load_52 : decode cX7_load 52 = .ok (.iload_n 1, 1) := by decide +kernel
theorem dX7_load_53 : decode cX7_load 53 = .ok (.imul, 1) := by decide +kernel
theorem dX7_load_54 : decode cX7_load 54 = .ok (.iaload, 1) := by decide +kernel
theorem dX7_load_55 : decode cX7_load 55 = .ok (.aload_n 0, 1) := by decide +kernel
theorem dX7_load_56 : decode cX7_load 56 = .ok (.getfield 35, 3) := by decide +kernel
theorem dX7_load_59 : decode cX7_load 59 = .ok (.iconst 3, 1) := by decide +kernel
theorem dX7_load_60 : decode cX7_load 60 = .ok (.iload_n 1, 1) := by decide +kernel
theorem dX7_load_61 : decode cX7_load 61 = .ok (.imul, 1) := by decide +kernel
theorem dX7_load_62 : decode cX7_load 62 = .ok (.iconst 1, 1) := by decide +kernel
theorem dX7_load_63 : decode cX7_load 63 = .ok (.iadd, 1) := by decide +kernel
theorem dX7_load_64 : decode cX7_load 64 = .ok (.iaload, 1) := by decide +kernel
theorem dX7_load_65 : decode cX7_load 65 = .ok (.aload_n 0, 1) := by decide +kernel
theorem dX7_load_66 : decode cX7_load 66 = .ok (.getfield 35, 3) := by decide +kernel
theorem dX7_load_69 : decode cX7_load 69 = .ok (.iconst 3, 1) := by decide +kernel
theorem dX7_load_70 : decode cX7_load 70 = .ok (.iload_n 1, 1) := by decide +kernel
theorem dX7_load_71 : decode cX7_load 71 = .ok (.imul, 1) := by decide +kernel
theorem dX7_load_72 : decode cX7_load 72 = .ok (.iconst 2, 1) := by decide +kernel
theorem dX7_load_73 : decode cX7_load 73 = .ok (.iadd, 1) := by decide +kernel
theorem dX7_load_74 : decode cX7_load 74 = .ok (.iaload, 1) := by decide +kernel
theorem dX7_load_75 : decode cX7_load 75 = .ok (.invokevirtual 71, 3) := by decide +kernel
theorem dX7_load_78 : decode cX7_load 78 = .ok (.iinc 1 1, 3) := by decide +kernel
theorem dX7_load_81 : decode cX7_load 81 = .ok (.goto (-43), 3) := by decide +kernel
theorem dX7_load_84 : decode cX7_load 84 = .ok (.aload_n 0, 1) := by decide +kernel
theorem dX7_load_85 : decode cX7_load 85 = .ok (.iconst 0, 1) := by decide +kernel
theorem dX7_load_86 : decode cX7_load 86 = .ok (.putfield 136, 3) := by decide +kernel
theorem dX7_load_89 : decode cX7_load 89 = .ok (.aload_n 0, 1) := by decide +kernel
theorem dX7_load_90 : decode cX7_load 90 = .ok (.getfield 7, 3) := by decide +kernel
theorem dX7_load_93 : decode cX7_load 93 = .ok (.iconst 0, 1) := by decide +kernel
theorem dX7_load_94 : decode cX7_load 94 = .ok (.iaload, 1) := by decide +kernel
theorem dX7_load_95 : decode cX7_load 95 = .ok (.ireturn, 1) := by decide +kernel
set_option maxRecDepth 20000 in
theorem ggX7_ribbonsAt_X7_goesOn : GoodIn wsX7_ribbonsAt wsX7_goesOn := goodIn_r _ [6, 7, 8, 9, 5, 10, 1, 11, 12, 13, 14, 15, 16, 17, 18, 19, 20, 21, 22, 23] (by decide +kernel) (by decide +kernel)
set_option maxRecDepth 20000 in
theorem gX7_ribbonsAt_X7_goesOn : GoodIn wsX7_ribbonsAt (wsV RX7 56 RX7 yX7_goesOn wsX7_goesOn) := goodIn_app (goodIn_of _ (by decide +kernel)) ggX7_ribbonsAt_X7_goesOn
set_option maxRecDepth 20000 in
theorem ggX7_ribbonsAt_X7_of : GoodIn wsX7_ribbonsAt wsX7_of := goodIn_r _ [10, 1, 11, 12, 13, 14, 15, 16, 17, 18, 19, 20, 21, 22, 23] (by decide +kernel) (by decide +kernel)
set_option maxRecDepth 20000 in
theorem gX7_ribbonsAt_X7_of : GoodIn wsX7_ribbonsAt (wsV RX7 46 RX7 yX7_of wsX7_of) := goodIn_app (goodIn_of _ (by decide +kernel)) ggX7_ribbonsAt_X7_of
theorem dX7_ribbonsAt_0 : decode cX7_ribbonsAt 0 = .ok (.iconst 0, 1) := by decide +kernel
theorem dX7_ribbonsAt_1 : decode cX7_ribbonsAt 1 = .ok (.istore 4, 2) := by decide +kernel
theorem dX7_ribbonsAt_3 : decode cX7_ribbonsAt 3 = .ok (.iconst 0, 1) := by decide +kernel
theorem dX7_ribbonsAt_4 : decode cX7_ribbonsAt 4 = .ok (.istore 5, 2) := by decide +kernel
theorem dX7_ribbonsAt_6 : decode cX7_ribbonsAt 6 = .ok (.iload 5, 2) := by decide +kernel
theorem dX7_ribbonsAt_8 : decode cX7_ribbonsAt 8 = .ok (.aload_n 0, 1) := by decide +kernel
theorem dX7_ribbonsAt_9 : decode cX7_ribbonsAt 9 = .ok (.getfield 7, 3) := by decide +kernel
theorem dX7_ribbonsAt_12 : decode cX7_ribbonsAt 12 = .ok (.iconst 0, 1) := by decide +kernel
theorem dX7_ribbonsAt_13 : decode cX7_ribbonsAt 13 = .ok (.iaload, 1) := by decide +kernel
theorem dX7_ribbonsAt_14 : decode cX7_ribbonsAt 14 = .ok (.if_icmp .ge 40, 3) := by decide +kernel
theorem dX7_ribbonsAt_17 : decode cX7_ribbonsAt 17 = .ok (.iload 4, 2) := by decide +kernel
theorem dX7_ribbonsAt_19 : decode cX7_ribbonsAt 19 = .ok (.aload_n 0, 1) := by decide +kernel
theorem dX7_ribbonsAt_20 : decode cX7_ribbonsAt 20 = .ok (.iload 5, 2) := by decide +kernel
theorem dX7_ribbonsAt_22 : decode cX7_ribbonsAt 22 = .ok (.invokevirtual 56, 3) := by decide +kernel
theorem dX7_ribbonsAt_25 : decode cX7_ribbonsAt 25 = .ok (.iload_n 3, 1) := by decide +kernel
theorem dX7_ribbonsAt_26 : decode cX7_ribbonsAt 26 = .ok (.if_icmp .ne 18, 3) := by decide +kernel
theorem dX7_ribbonsAt_29 : decode cX7_ribbonsAt 29 = .ok (.aload_n 0, 1) := by decide +kernel
theorem dX7_ribbonsAt_30 : decode cX7_ribbonsAt 30 = .ok (.iload 5, 2) := by decide +kernel
theorem dX7_ribbonsAt_32 : decode cX7_ribbonsAt 32 = .ok (.iload_n 2, 1) := by decide +kernel
theorem dX7_ribbonsAt_33 : decode cX7_ribbonsAt 33 = .ok (.invokevirtual 46, 3) := by decide +kernel
theorem dX7_ribbonsAt_36 : decode cX7_ribbonsAt 36 = .ok (.iload_n 1, 1) := by decide +kernel
theorem dX7_ribbonsAt_37 : decode cX7_ribbonsAt 37 = .ok (.if_icmp .ne 7, 3) := by decide +kernel
theorem dX7_ribbonsAt_40 : decode cX7_ribbonsAt 40 = .ok (.iconst 1, 1) := by decide +kernel
theorem dX7_ribbonsAt_41 : decode cX7_ribbonsAt 41 = .ok (.goto 4, 3) := by decide +kernel
theorem dX7_ribbonsAt_44 : decode cX7_ribbonsAt 44 = .ok (.iconst 0, 1) := by decide +kernel
theorem dX7_ribbonsAt_45 : decode cX7_ribbonsAt 45 = .ok (.iadd, 1) := by decide +kernel
theorem dX7_ribbonsAt_46 : decode cX7_ribbonsAt 46 = .ok (.istore 4, 2) := by decide +kernel
theorem dX7_ribbonsAt_48 : decode cX7_ribbonsAt 48 = .ok (.iinc 5 1, 3) := by decide +kernel
theorem dX7_ribbonsAt_51 : decode cX7_ribbonsAt 51 = .ok (.goto (-45), 3) := by decide +kernel
theorem dX7_ribbonsAt_54 : decode cX7_ribbonsAt 54 = .ok (.iload 4, 2) := by decide +kernel
theorem dX7_ribbonsAt_56 : decode cX7_ribbonsAt 56 = .ok (.ireturn, 1) := by decide +kernel
set_option maxRecDepth 20000 in
theorem ggX7_greater_X7_comesIn : GoodIn wsX7_greater wsX7_comesIn := goodIn_r _ [5, 6, 7, 8, 9, 4, 10, 11, 12, 13, 14, 19, 20, 21, 22, 23, 24, 25, 26, 27, 28, 29, 30, 31] (by decide +kernel) (by decide +kernel)
set_option maxRecDepth 20000 in
theorem gX7_greater_X7_comesIn : GoodIn wsX7_greater (wsV RX7 115 RX7 yX7_comesIn wsX7_comesIn) := goodIn_app (goodIn_of _ (by decide +kernel)) ggX7_greater_X7_comesIn
set_option maxRecDepth 20000 in
theorem ggX7_greater_X7_leaves : GoodIn wsX7_greater wsX7_leaves := goodIn_r _ [18, 6, 7, 8, 9, 4, 10, 11, 12, 13, 14, 19, 20, 21, 22, 23, 24, 25, 26, 27, 28, 29, 30, 31] (by decide +kernel) (by decide +kernel)
set_option maxRecDepth 20000 in
theorem gX7_greater_X7_leaves : GoodIn wsX7_greater (wsV RX7 118 RX7 yX7_leaves wsX7_leaves) := goodIn_app (goodIn_of _ (by decide +kernel)) ggX7_greater_X7_leaves
theorem dX7_greater_0 : decode cX7_greater 0 = .ok (.aload_n 0, 1) := by decide +kernel
theorem dX7_greater_1 : decode cX7_greater 1 = .ok (.iload_n 1, 1) := by decide +kernel
theorem dX7_greater_2 : decode cX7_greater 2 = .ok (.invokevirtual 115, 3) := by decide +kernel
theorem dX7_greater_5 : decode cX7_greater 5 = .ok (.aload_n 0, 1) := by decide +kernel
theorem dX7_greater_6 : decode cX7_greater 6 = .ok (.iload_n 1, 1) := by decide +kernel
theorem dX7_greater_7 : decode cX7_greater 7 = .ok (.invokevirtual 118, 3) := by decide +kernel
theorem dX7_greater_10 : decode cX7_greater 10 = .ok (.if_icmp .le 11, 3) := by decide +kernel
theorem dX7_greater_13 : decode cX7_greater 13 = .ok (.aload_n 0, 1) := by decide +kernel
theorem dX7_greater_14 : decode cX7_greater 14 = .ok (.iload_n 1, 1) := by decide +kernel
theorem dX7_greater_15 : decode cX7_greater 15 = .ok (.invokevirtual 115, 3) := by decide +kernel
theorem dX7_greater_18 : decode cX7_greater 18 = .ok (.goto 8, 3) := by decide +kernel
theorem dX7_greater_21 : decode cX7_greater 21 = .ok (.aload_n 0, 1) := by decide +kernel
theorem dX7_greater_22 : decode cX7_greater 22 = .ok (.iload_n 1, 1) := by decide +kernel
theorem dX7_greater_23 : decode cX7_greater 23 = .ok (.invokevirtual 118, 3) := by decide +kernel
theorem dX7_greater_26 : decode cX7_greater 26 = .ok (.ireturn, 1) := by decide +kernel
set_option maxRecDepth 20000 in
theorem ggX7_isEven_X7_isInner : GoodIn wsX7_isEven wsX7_isInner := goodIn_r _ [4, 5, 6, 3, 7] (by decide +kernel) (by decide +kernel)
set_option maxRecDepth 20000 in
theorem gX7_isEven_X7_isInner : GoodIn wsX7_isEven (va_wsS RX7 124 yX7_isInner wsX7_isInner) := goodIn_app (goodIn_of _ (by decide +kernel)) ggX7_isEven_X7_isInner
set_option maxRecDepth 20000 in
theorem ggX7_isEven_X7_comesIn : GoodIn wsX7_isEven wsX7_comesIn := goodIn_r _ [11, 12, 13, 14, 15, 3, 16, 17, 18, 19, 20, 25, 26, 27, 28, 29, 30, 31, 32, 33, 34, 35, 36, 37] (by decide +kernel) (by decide +kernel)
set_option maxRecDepth 20000 in
theorem gX7_isEven_X7_comesIn : GoodIn wsX7_isEven (wsV RX7 115 RX7 yX7_comesIn wsX7_comesIn) := goodIn_app (goodIn_of _ (by decide +kernel)) ggX7_isEven_X7_comesIn
set_option maxRecDepth 20000 in
theorem ggX7_isEven_X7_leaves : GoodIn wsX7_isEven wsX7_leaves := goodIn_r _ [24, 12, 13, 14, 15, 3, 16, 17, 18, 19, 20, 25, 26, 27, 28, 29, 30, 31, 32, 33, 34, 35, 36, 37] (by decide +kernel) (by decide +kernel)
set_option maxRecDepth 20000 in
theorem gX7_isEven_X7_leaves : GoodIn wsX7_isEven (wsV RX7 118 RX7 yX7_leaves wsX7_leaves) := goodIn_app (goodIn_of _ (by decide +kernel)) ggX7_isEven_X7_leaves
theorem dX7_isEven_0 : decode cX7_isEven 0 = .ok (.iload_n 1, 1) := by decide +kernel
theorem dX7_isEven_1 : decode cX7_isEven 1 = .ok (.invokestatic 124, 3) := by decide +kernel
theorem dX7_isEven_4 : decode cX7_isEven 4 = .ok (.ifCond .eq 16, 3) := by decide +kernel
theorem dX7_isEven_7 : decode cX7_isEven 7 = .ok (.aload_n 0, 1) := by decide +kernel
theorem dX7_isEven_8 : decode cX7_isEven 8 = .ok (.iload_n 1, 1) := by decide +kernel
theorem dX7_isEven_9 : decode cX7_isEven 9 = .ok (.invokevirtual 115, 3) := by decide +kernel
theorem dX7_isEven_12 : decode cX7_isEven 12 = .ok (.aload_n 0, 1) := by decide +kernel
theorem dX7_isEven_13 : decode cX7_isEven 13 = .ok (.iload_n 1, 1) := by decide +kernel
theorem dX7_isEven_14 : decode cX7_isEven 14 = .ok (.invokevirtual 118, 3) := by decide +kernel
theorem dX7_isEven_17 : decode cX7_isEven 17 = .ok (.if_icmp .ne 7, 3) := by decide +kernel
theorem dX7_isEven_20 : decode cX7_isEven 20 = .ok (.iconst 1, 1) := by decide +kernel
theorem dX7_isEven_21 : decode cX7_isEven 21 = .ok (.goto 4, 3) := by decide +kernel
theorem dX7_isEven_24 : decode cX7_isEven 24 = .ok (.iconst 0, 1) := by decide +kernel
theorem dX7_isEven_25 : decode cX7_isEven 25 = .ok (.ireturn, 1) := by decide +kernel
set_option maxRecDepth 20000 in
theorem ggX7_postNow_X7_place : GoodIn wsX7_postNow wsX7_place := goodIn_r _ [5, 6, 41, 42, 43, 44, 45, 46, 47, 48, 49, 50, 51, 52, 53] (by decide +kernel) (by decide +kernel)
set_option maxRecDepth 20000 in
theorem gX7_postNow_X7_place : GoodIn wsX7_postNow (wsV RX7 60 RX7 yX7_place wsX7_place) := goodIn_app (goodIn_of _ (by decide +kernel)) ggX7_postNow_X7_place
set_option maxRecDepth 20000 in
theorem ggX7_postNow_X7_comesIn : GoodIn wsX7_postNow wsX7_comesIn := goodIn_r _ [10, 6, 11, 12, 13, 4, 14, 15, 16, 17, 18, 41, 42, 43, 44, 45, 46, 47, 48, 49, 50, 51, 52, 53] (by decide +kernel) (by decide +kernel)
set_option maxRecDepth 20000 in
theorem gX7_postNow_X7_comesIn : GoodIn wsX7_postNow (wsV RX7 115 RX7 yX7_comesIn wsX7_comesIn) := goodIn_app (goodIn_of _ (by decide +kernel)) ggX7_postNow_X7_comesIn
set_option maxRecDepth 20000 in
theorem ggX7_postNow_X7_leaves : GoodIn wsX7_postNow wsX7_leaves := goodIn_r _ [22, 6, 11, 12, 13, 4, 14, 15, 16, 17, 18, 41, 42, 43, 44, 45, 46, 47, 48, 49, 50, 51, 52, 53] (by decide +kernel) (by decide +kernel)
set_option maxRecDepth 20000 in
theorem gX7_postNow_X7_leaves : GoodIn wsX7_postNow (wsV RX7 118 RX7 yX7_leaves wsX7_leaves) := goodIn_app (goodIn_of _ (by decide +kernel)) ggX7_postNow_X7_leaves
set_option maxRecDepth 20000 in
theorem ggX7_postNow_X7_ribbonsAt : GoodIn wsX7_postNow wsX7_ribbonsAt := goodIn_r _ [26, 6, 11, 12, 13, 4, 14, 15, 16, 17, 18, 41, 42, 43, 44, 45, 46, 47, 48, 49, 50, 51, 52, 53] (by decide +kernel) (by decide +kernel)
set_option maxRecDepth 20000 in
theorem gX7_postNow_X7_ribbonsAt : GoodIn wsX7_postNow (wsV RX7 151 RX7 yX7_ribbonsAt wsX7_ribbonsAt) := goodIn_app (goodIn_of _ (by decide +kernel)) ggX7_postNow_X7_ribbonsAt
set_option maxRecDepth 20000 in
theorem ggX7_postNow_X7_isEven : GoodIn wsX7_postNow wsX7_isEven := goodIn_r _ [30, 31, 32, 4, 33, 34, 35, 36, 7, 8, 9, 10, 6, 11, 12, 13, 14, 15, 16, 17, 18, 19, 20, 21, 22, 41, 42, 43, 44, 45, 46, 47, 48, 49, 50, 51, 52, 53] (by decide +kernel) (by decide +kernel)
set_option maxRecDepth 20000 in
theorem gX7_postNow_X7_isEven : GoodIn wsX7_postNow (wsV RX7 155 RX7 yX7_isEven wsX7_isEven) := goodIn_app (goodIn_of _ (by decide +kernel)) ggX7_postNow_X7_isEven
set_option maxRecDepth 20000 in
theorem ggX7_postNow_X7_greater : GoodIn wsX7_postNow wsX7_greater := goodIn_r _ [40, 7, 8, 9, 4, 10, 6, 11, 12, 13, 14, 15, 16, 17, 18, 19, 20, 21, 22, 41, 42, 43, 44, 45, 46, 47, 48, 49, 50, 51, 52, 53] (by decide +kernel) (by decide +kernel)
set_option maxRecDepth 20000 in
theorem gX7_postNow_X7_greater : GoodIn wsX7_postNow (wsV RX7 158 RX7 yX7_greater wsX7_greater) := goodIn_app (goodIn_of _ (by decide +kernel)) ggX7_postNow_X7_greater
theorem dX7_postNow_0 : decode cX7_postNow 0 = .ok (.iload_n 2, 1) := by decide +kernel
theorem dX7_postNow_1 : decode cX7_postNow 1 = .ok (.tableswitch 107 0 6 #[43, 49, 55, 61, 69, 77, 93], 43) := by decide +kernel
theorem dX7_postNow_44 : decode cX7_postNow 44 = .ok (.aload_n 0, 1) := by decide +kernel
theorem dX7_postNow_45 : decode cX7_postNow 45 = .ok (.iload_n 1, 1) := by decide +kernel
theorem dX7_postNow_46 : decode cX7_postNow 46 = .ok (.invokevirtual 60, 3) := by decide +kernel
theorem dX7_postNow_49 : decode cX7_postNow 49 = .ok (.ireturn, 1) := by decide +kernel
theorem dX7_postNow_50 : decode cX7_postNow 50 = .ok (.aload_n 0, 1) := by decide +kernel
theorem dX7_postNow_51 : decode cX7_postNow 51 = .ok (.iload_n 1, 1) := by decide +kernel
theorem dX7_postNow_52 : decode cX7_postNow 52 = .ok (.invokevirtual 115, 3) := by decide +kernel
theorem dX7_postNow_55 : decode cX7_postNow 55 = .ok (.ireturn, 1) := by decide +kernel
theorem dX7_postNow_56 : decode cX7_postNow 56 = .ok (.aload_n 0, 1) := by decide +kernel
theorem dX7_postNow_57 : decode cX7_postNow 57 = .ok (.iload_n 1, 1) := by decide +kernel
theorem dX7_postNow_58 : decode cX7_postNow 58 = .ok (.invokevirtual 118, 3) := by decide +kernel
theorem dX7_postNow_61 : decode cX7_postNow 61 = .ok (.ireturn, 1) := by decide +kernel
theorem dX7_postNow_62 : decode cX7_postNow 62 = .ok (.aload_n 0, 1) := by decide +kernel
theorem dX7_postNow_63 : decode cX7_postNow 63 = .ok (.iload_n 1, 1) := by decide +kernel
theorem dX7_postNow_64 : decode cX7_postNow 64 = .ok (.iconst 1, 1) := by decide +kernel
theorem dX7_postNow_65 : decode cX7_postNow 65 = .ok (.iconst 1, 1) := by decide +kernel
theorem dX7_postNow_66 : decode cX7_postNow 66 = .ok (.invokevirtual 151, 3) := by decide +kernel
theorem dX7_postNow_69 : decode cX7_postNow 69 = .ok (.ireturn, 1) := by decide +kernel
theorem dX7_postNow_70 : decode cX7_postNow 70 = .ok (.aload_n 0, 1) := by decide +kernel
theorem dX7_postNow_71 : decode cX7_postNow 71 = .ok (.iload_n 1, 1) := by decide +kernel
theorem dX7_postNow_72 : decode cX7_postNow 72 = .ok (.iconst 0, 1) := by decide +kernel
theorem dX7_postNow_73 : decode cX7_postNow 73 = .ok (.iconst 1, 1) := by decide +kernel
theorem dX7_postNow_74 : decode cX7_postNow 74 = .ok (.invokevirtual 151, 3) := by decide +kernel
theorem dX7_postNow_77 : decode cX7_postNow 77 = .ok (.ireturn, 1) := by decide +kernel
theorem dX7_postNow_78 : decode cX7_postNow 78 = .ok (.aload_n 0, 1) := by decide +kernel
theorem dX7_postNow_79 : decode cX7_postNow 79 = .ok (.iload_n 1, 1) := by decide +kernel
theorem dX7_postNow_80 : decode cX7_postNow 80 = .ok (.iconst 1, 1) := by decide +kernel
theorem dX7_postNow_81 : decode cX7_postNow 81 = .ok (.iconst 0, 1) := by decide +kernel
theorem dX7_postNow_82 : decode cX7_postNow 82 = .ok (.invokevirtual 151, 3) := by decide +kernel
theorem dX7_postNow_85 : decode cX7_postNow 85 = .ok (.aload_n 0, 1) := by decide +kernel
theorem dX7_postNow_86 : decode cX7_postNow 86 = .ok (.iload_n 1, 1) := by decide +kernel
theorem dX7_postNow_87 : decode cX7_postNow 87 = .ok (.iconst 0, 1) := by decide +kernel
theorem dX7_postNow_88 : decode cX7_postNow 88 = .ok (.iconst 0, 1) := by decide +kernel
theorem dX7_postNow_89 : decode cX7_postNow 89 = .ok (.invokevirtual 151, 3) := by decide +kernel
theorem dX7_postNow_92 : decode cX7_postNow 92 = .ok (.iadd, 1) := by decide +kernel
theorem dX7_postNow_93 : decode cX7_postNow 93 = .ok (.ireturn, 1) := by decide +kernel
theorem dX7_postNow_94 : decode cX7_postNow 94 = .ok (.aload_n 0, 1) := by decide +kernel
theorem dX7_postNow_95 : decode cX7_postNow 95 = .ok (.iload_n 1, 1) := by decide +kernel
theorem dX7_postNow_96 : decode cX7_postNow 96 = .ok (.invokevirtual 155, 3) := by decide +kernel
theorem dX7_postNow_99 : decode cX7_postNow 99 = .ok (.ifCond .eq 7, 3) := by decide +kernel
theorem dX7_postNow_102 : decode cX7_postNow 102 = .ok (.iconst 1, 1) := by decide +kernel
theorem dX7_postNow_103 : decode cX7_postNow 103 = .ok (.goto 4, 3) := by decide +kernel
theorem dX7_postNow_106 : decode cX7_postNow 106 = .ok (.iconst 0, 1) := by decide +kernel
theorem dX7_postNow_107 : decode cX7_postNow 107 = .ok (.ireturn, 1) := by decide +kernel
theorem dX7_postNow_108 : decode cX7_postNow 108 = .ok (.aload_n 0, 1) := by decide +kernel
theorem dX7_postNow_109 : decode cX7_postNow 109 = .ok (.iload_n 1, 1) := by decide +kernel
theorem dX7_postNow_110 : decode cX7_postNow 110 = .ok (.invokevirtual 158, 3) := by decide +kernel
theorem dX7_postNow_113 : decode cX7_postNow 113 = .ok (.ireturn, 1) := by decide +kernel
set_option maxRecDepth 20000 in
theorem ggX7_postOf_X7_isPost : GoodIn wsX7_postOf wsX7_isPost := goodIn_r _ [5, 6, 7, 4, 8] (by decide +kernel) (by decide +kernel)
set_option maxRecDepth 20000 in
theorem gX7_postOf_X7_isPost : GoodIn wsX7_postOf (va_wsS RX7 68 yX7_isPost wsX7_isPost) := goodIn_app (goodIn_of _ (by decide +kernel)) ggX7_postOf_X7_isPost
set_option maxRecDepth 20000 in
theorem ggX7_postOf_X7_in : GoodIn wsX7_postOf wsX7_in := goodIn_r _ [8] (by decide +kernel) (by decide +kernel)
set_option maxRecDepth 20000 in
theorem gX7_postOf_X7_in : GoodIn wsX7_postOf (va_wsS RX7 42 yX7_in wsX7_in) := goodIn_app (goodIn_of _ (by decide +kernel)) ggX7_postOf_X7_in
set_option maxRecDepth 20000 in
theorem ggX7_postOf_X7_postNow : GoodIn wsX7_postOf wsX7_postNow := goodIn_r _ [12, 13, 14, 15, 4, 16, 17, 18, 19, 20, 21, 22, 23, 24, 25, 26, 27, 28, 29, 30, 31, 32, 33, 34, 35, 36, 37, 38, 39, 40, 41, 42, 43, 44, 6, 7, 8, 45, 46, 47, 48, 49, 50, 51, 52, 53, 54, 55, 56, 57, 58, 59, 60, 61] (by decide +kernel) (by decide +kernel)
set_option maxRecDepth 20000 in
theorem gX7_postOf_X7_postNow : GoodIn wsX7_postOf (wsV RX7 161 RX7 yX7_postNow wsX7_postNow) := goodIn_app (goodIn_of _ (by decide +kernel)) ggX7_postOf_X7_postNow
theorem dX7_postOf_0 : decode cX7_postOf 0 = .ok (.aload_n 0, 1) := by decide +kernel
theorem dX7_postOf_1 : decode cX7_postOf 1 = .ok (.iload_n 1, 1) := by decide +kernel
theorem dX7_postOf_2 : decode cX7_postOf 2 = .ok (.invokestatic 68, 3) := by decide +kernel
theorem dX7_postOf_5 : decode cX7_postOf 5 = .ok (.ifCond .ne 7, 3) := by decide +kernel
theorem dX7_postOf_8 : decode cX7_postOf 8 = .ok (.iconst 1, 1) := by decide +kernel
theorem dX7_postOf_9 : decode cX7_postOf 9 = .ok (.goto 18, 3) := by decide +kernel
theorem dX7_postOf_12 : decode cX7_postOf 12 = .ok (.iload_n 2, 1) := by decide +kernel
theorem dX7_postOf_13 : decode cX7_postOf 13 = .ok (.iconst 0, 1) := by decide +kernel
theorem dX7_postOf_14 : decode cX7_postOf 14 = .ok (.bipush 7, 2) := by decide +kernel
theorem dX7_postOf_16 : decode cX7_postOf 16 = .ok (.invokestatic 42, 3) := by decide +kernel
theorem dX7_postOf_19 : decode cX7_postOf 19 = .ok (.ifCond .eq 7, 3) := by decide +kernel
theorem dX7_postOf_22 : decode cX7_postOf 22 = .ok (.iconst 0, 1) := by decide +kernel
theorem dX7_postOf_23 : decode cX7_postOf 23 = .ok (.goto 4, 3) := by decide +kernel
theorem dX7_postOf_26 : decode cX7_postOf 26 = .ok (.iconst 2, 1) := by decide +kernel
theorem dX7_postOf_27 : decode cX7_postOf 27 = .ok (.putfield 38, 3) := by decide +kernel
theorem dX7_postOf_30 : decode cX7_postOf 30 = .ok (.aload_n 0, 1) := by decide +kernel
theorem dX7_postOf_31 : decode cX7_postOf 31 = .ok (.getfield 38, 3) := by decide +kernel
theorem dX7_postOf_34 : decode cX7_postOf 34 = .ok (.ifCond .le 7, 3) := by decide +kernel
theorem dX7_postOf_37 : decode cX7_postOf 37 = .ok (.iconst 0, 1) := by decide +kernel
theorem dX7_postOf_38 : decode cX7_postOf 38 = .ok (.goto 9, 3) := by decide +kernel
theorem dX7_postOf_41 : decode cX7_postOf 41 = .ok (.aload_n 0, 1) := by decide +kernel
theorem dX7_postOf_42 : decode cX7_postOf 42 = .ok (.iload_n 1, 1) := by decide +kernel
theorem dX7_postOf_43 : decode cX7_postOf 43 = .ok (.iload_n 2, 1) := by decide +kernel
theorem dX7_postOf_44 : decode cX7_postOf 44 = .ok (.invokevirtual 161, 3) := by decide +kernel
theorem dX7_postOf_47 : decode cX7_postOf 47 = .ok (.ireturn, 1) := by decide +kernel
set_option maxRecDepth 20000 in
theorem ggX7_ribbonNow_X7_of : GoodIn wsX7_ribbonNow wsX7_of := goodIn_r _ [5, 6, 23, 24, 25, 26, 27, 28, 29, 30, 31, 32, 33, 34, 35] (by decide +kernel) (by decide +kernel)
set_option maxRecDepth 20000 in
theorem gX7_ribbonNow_X7_of : GoodIn wsX7_ribbonNow (wsV RX7 46 RX7 yX7_of wsX7_of) := goodIn_app (goodIn_of _ (by decide +kernel)) ggX7_ribbonNow_X7_of
set_option maxRecDepth 20000 in
theorem ggX7_ribbonNow_X7_goesOn : GoodIn wsX7_ribbonNow wsX7_goesOn := goodIn_r _ [10, 1, 2, 3, 4, 5, 6, 23, 24, 25, 26, 27, 28, 29, 30, 31, 32, 33, 34, 35] (by decide +kernel) (by decide +kernel)
set_option maxRecDepth 20000 in
theorem gX7_ribbonNow_X7_goesOn : GoodIn wsX7_ribbonNow (wsV RX7 56 RX7 yX7_goesOn wsX7_goesOn) := goodIn_app (goodIn_of _ (by decide +kernel)) ggX7_ribbonNow_X7_goesOn
set_option maxRecDepth 20000 in
theorem ggX7_ribbonNow_X7_crossedBy : GoodIn wsX7_ribbonNow wsX7_crossedBy := goodIn_r _ [14, 6, 15, 16, 17, 4, 18, 1, 2, 3, 5, 7, 8, 9, 10, 19, 20, 21, 22, 23, 24, 25, 26, 27, 28, 29, 30, 31, 32, 33, 34, 35] (by decide +kernel) (by decide +kernel)
set_option maxRecDepth 20000 in
theorem gX7_ribbonNow_X7_crossedBy : GoodIn wsX7_ribbonNow (wsV RX7 164 RX7 yX7_crossedBy wsX7_crossedBy) := goodIn_app (goodIn_of _ (by decide +kernel)) ggX7_ribbonNow_X7_crossedBy
theorem dX7_ribbonNow_0 : decode cX7_ribbonNow 0 = .ok (.iload_n 2, 1) := by decide +kernel
theorem dX7_ribbonNow_1 : decode cX7_ribbonNow 1 = .ok (.iconst 3, 1) := by decide +kernel
theorem dX7_ribbonNow_2 : decode cX7_ribbonNow 2 = .ok (.if_icmp .ge 12, 3) := by decide +kernel
theorem dX7_ribbonNow_5 : decode cX7_ribbonNow 5 = .ok (.aload_n 0, 1) := by decide +kernel
theorem dX7_ribbonNow_6 : decode cX7_ribbonNow 6 = .ok (.iload_n 1, 1) := by decide +kernel
theorem dX7_ribbonNow_7 : decode cX7_ribbonNow 7 = .ok (.iload_n 2, 1) := by decide +kernel
theorem dX7_ribbonNow_8 : decode cX7_ribbonNow 8 = .ok (.invokevirtual 46, 3) := by decide +kernel
theorem dX7_ribbonNow_11 : decode cX7_ribbonNow 11 = .ok (.goto 29, 3) := by decide +kernel
theorem dX7_ribbonNow_14 : decode cX7_ribbonNow 14 = .ok (.iload_n 2, 1) := by decide +kernel
theorem dX7_ribbonNow_15 : decode cX7_ribbonNow 15 = .ok (.iconst 3, 1) := by decide +kernel
theorem dX7_ribbonNow_16 : decode cX7_ribbonNow 16 = .ok (.if_icmp .ne 19, 3) := by decide +kernel
theorem dX7_ribbonNow_19 : decode cX7_ribbonNow 19 = .ok (.aload_n 0, 1) := by decide +kernel
theorem dX7_ribbonNow_20 : decode cX7_ribbonNow 20 = .ok (.iload_n 1, 1) := by decide +kernel
theorem dX7_ribbonNow_21 : decode cX7_ribbonNow 21 = .ok (.invokevirtual 56, 3) := by decide +kernel
theorem dX7_ribbonNow_24 : decode cX7_ribbonNow 24 = .ok (.ifCond .eq 7, 3) := by decide +kernel
theorem dX7_ribbonNow_27 : decode cX7_ribbonNow 27 = .ok (.iconst 1, 1) := by decide +kernel
theorem dX7_ribbonNow_28 : decode cX7_ribbonNow 28 = .ok (.goto 12, 3) := by decide +kernel
theorem dX7_ribbonNow_31 : decode cX7_ribbonNow 31 = .ok (.iconst 0, 1) := by decide +kernel
theorem dX7_ribbonNow_32 : decode cX7_ribbonNow 32 = .ok (.goto 8, 3) := by decide +kernel
theorem dX7_ribbonNow_35 : decode cX7_ribbonNow 35 = .ok (.aload_n 0, 1) := by decide +kernel
theorem dX7_ribbonNow_36 : decode cX7_ribbonNow 36 = .ok (.iload_n 1, 1) := by decide +kernel
theorem dX7_ribbonNow_37 : decode cX7_ribbonNow 37 = .ok (.invokevirtual 164, 3) := by decide +kernel
theorem dX7_ribbonNow_40 : decode cX7_ribbonNow 40 = .ok (.ireturn, 1) := by decide +kernel
set_option maxRecDepth 20000 in
theorem ggX7_ribbonOf_X7_isRibbon : GoodIn wsX7_ribbonOf wsX7_isRibbon := goodIn_r _ [6, 7, 8, 9, 5, 10, 35, 36, 37, 38, 39, 40, 41, 42, 43, 44, 45, 46, 47] (by decide +kernel) (by decide +kernel)
set_option maxRecDepth 20000 in
theorem gX7_ribbonOf_X7_isRibbon : GoodIn wsX7_ribbonOf (wsV RX7 75 RX7 yX7_isRibbon wsX7_isRibbon) := goodIn_app (goodIn_of _ (by decide +kernel)) ggX7_ribbonOf_X7_isRibbon
set_option maxRecDepth 20000 in
theorem ggX7_ribbonOf_X7_in : GoodIn wsX7_ribbonOf wsX7_in := goodIn_r _ [10] (by decide +kernel) (by decide +kernel)
set_option maxRecDepth 20000 in
theorem gX7_ribbonOf_X7_in : GoodIn wsX7_ribbonOf (va_wsS RX7 42 yX7_in wsX7_in) := goodIn_app (goodIn_of _ (by decide +kernel)) ggX7_ribbonOf_X7_in
set_option maxRecDepth 20000 in
theorem ggX7_ribbonOf_X7_ribbonNow : GoodIn wsX7_ribbonOf wsX7_ribbonNow := goodIn_r _ [14, 15, 16, 17, 5, 18, 7, 19, 20, 21, 22, 23, 24, 25, 26, 27, 28, 29, 30, 31, 32, 33, 34, 35, 36, 37, 38, 39, 40, 41, 42, 43, 44, 45, 46, 47] (by decide +kernel) (by decide +kernel)
set_option maxRecDepth 20000 in
theorem gX7_ribbonOf_X7_ribbonNow : GoodIn wsX7_ribbonOf (wsV RX7 167 RX7 yX7_ribbonNow wsX7_ribbonNow) := goodIn_app (goodIn_of _ (by decide +kernel)) ggX7_ribbonOf_X7_ribbonNow
theorem dX7_ribbonOf_0 : decode cX7_ribbonOf 0 = .ok (.aload_n 0, 1) := by decide +kernel
theorem dX7_ribbonOf_1 : decode cX7_ribbonOf 1 = .ok (.aload_n 0, 1) := by decide +kernel
theorem dX7_ribbonOf_2 : decode cX7_ribbonOf 2 = .ok (.iload_n 1, 1) := by decide +kernel
theorem dX7_ribbonOf_3 : decode cX7_ribbonOf 3 = .ok (.invokevirtual 75, 3) := by decide +kernel
theorem dX7_ribbonOf_6 : decode cX7_ribbonOf 6 = .ok (.ifCond .ne 7, 3) := by decide +kernel
theorem dX7_ribbonOf_9 : decode cX7_ribbonOf 9 = .ok (.iconst 1, 1) := by decide +kernel
theorem dX7_ribbonOf_10 : decode cX7_ribbonOf 10 = .ok (.goto 17, 3) := by decide +kernel
theorem dX7_ribbonOf_13 : decode cX7_ribbonOf 13 = .ok (.iload_n 2, 1) := by decide +kernel
theorem dX7_ribbonOf_14 : decode cX7_ribbonOf 14 = .ok (.iconst 0, 1) := by decide +kernel
theorem dX7_ribbonOf_15 : decode cX7_ribbonOf 15 = .ok (.iconst 4, 1) := by decide +kernel
theorem dX7_ribbonOf_16 : decode cX7_ribbonOf 16 = .ok (.invokestatic 42, 3) := by decide +kernel
theorem dX7_ribbonOf_19 : decode cX7_ribbonOf 19 = .ok (.ifCond .eq 7, 3) := by decide +kernel
theorem dX7_ribbonOf_22 : decode cX7_ribbonOf 22 = .ok (.iconst 0, 1) := by decide +kernel
theorem dX7_ribbonOf_23 : decode cX7_ribbonOf 23 = .ok (.goto 4, 3) := by decide +kernel
theorem dX7_ribbonOf_26 : decode cX7_ribbonOf 26 = .ok (.iconst 2, 1) := by decide +kernel
theorem dX7_ribbonOf_27 : decode cX7_ribbonOf 27 = .ok (.putfield 38, 3) := by decide +kernel
theorem dX7_ribbonOf_30 : decode cX7_ribbonOf 30 = .ok (.aload_n 0, 1) := by decide +kernel
theorem dX7_ribbonOf_31 : decode cX7_ribbonOf 31 = .ok (.getfield 38, 3) := by decide +kernel
theorem dX7_ribbonOf_34 : decode cX7_ribbonOf 34 = .ok (.ifCond .le 7, 3) := by decide +kernel
theorem dX7_ribbonOf_37 : decode cX7_ribbonOf 37 = .ok (.iconst 0, 1) := by decide +kernel
theorem dX7_ribbonOf_38 : decode cX7_ribbonOf 38 = .ok (.goto 9, 3) := by decide +kernel
theorem dX7_ribbonOf_41 : decode cX7_ribbonOf 41 = .ok (.aload_n 0, 1) := by decide +kernel
theorem dX7_ribbonOf_42 : decode cX7_ribbonOf 42 = .ok (.iload_n 1, 1) := by decide +kernel
theorem dX7_ribbonOf_43 : decode cX7_ribbonOf 43 = .ok (.iload_n 2, 1) := by decide +kernel
theorem dX7_ribbonOf_44 : decode cX7_ribbonOf 44 = .ok (.invokevirtual 167, 3) := by decide +kernel
theorem dX7_ribbonOf_47 : decode cX7_ribbonOf 47 = .ok (.ireturn, 1) := by decide +kernel
set_option maxRecDepth 20000 in
theorem ggX7_countNow_X7_of : GoodIn wsX7_countNow wsX7_of := goodIn_r _ [7, 1, 54, 55, 56, 57, 58, 59, 60, 61, 62, 63, 64, 65, 66] (by decide +kernel) (by decide +kernel)
set_option maxRecDepth 20000 in
theorem gX7_countNow_X7_of : GoodIn wsX7_countNow (wsV RX7 46 RX7 yX7_of wsX7_of) := goodIn_app (goodIn_of _ (by decide +kernel)) ggX7_countNow_X7_of
set_option maxRecDepth 20000 in
theorem ggX7_countNow_X7_crossedBy : GoodIn wsX7_countNow wsX7_crossedBy := goodIn_r _ [11, 1, 12, 13, 14, 6, 15, 3, 4, 5, 7, 16, 17, 18, 19, 20, 21, 22, 23, 54, 55, 56, 57, 58, 59, 60, 61, 62, 63, 64, 65, 66] (by decide +kernel) (by decide +kernel)
set_option maxRecDepth 20000 in
theorem gX7_countNow_X7_crossedBy : GoodIn wsX7_countNow (wsV RX7 164 RX7 yX7_crossedBy wsX7_crossedBy) := goodIn_app (goodIn_of _ (by decide +kernel)) ggX7_countNow_X7_crossedBy
set_option maxRecDepth 20000 in
theorem ggX7_countNow_X7_isEven : GoodIn wsX7_countNow wsX7_isEven := goodIn_r _ [27, 28, 29, 6, 30, 31, 32, 33, 34, 35, 36, 37, 1, 16, 17, 18, 19, 3, 4, 5, 7, 38, 39, 40, 41, 54, 55, 56, 57, 58, 59, 60, 61, 62, 63, 64, 65, 66] (by decide +kernel) (by decide +kernel)
set_option maxRecDepth 20000 in
theorem gX7_countNow_X7_isEven : GoodIn wsX7_countNow (wsV RX7 155 RX7 yX7_isEven wsX7_isEven) := goodIn_app (goodIn_of _ (by decide +kernel)) ggX7_countNow_X7_isEven
set_option maxRecDepth 20000 in
theorem ggX7_countNow_X7_crossings : GoodIn wsX7_countNow wsX7_crossings := goodIn_r _ [45, 1, 3, 4, 5, 6, 7, 12, 13, 14, 15, 16, 17, 18, 19, 20, 21, 22, 23, 54, 55, 56, 57, 58, 59, 60, 61, 62, 63, 64, 65, 66] (by decide +kernel) (by decide +kernel)
set_option maxRecDepth 20000 in
theorem gX7_countNow_X7_crossings : GoodIn wsX7_countNow (wsV RX7 85 RX7 yX7_crossings wsX7_crossings) := goodIn_app (goodIn_of _ (by decide +kernel)) ggX7_countNow_X7_crossings
set_option maxRecDepth 20000 in
theorem ggX7_countNow_X7_through : GoodIn wsX7_countNow wsX7_through := goodIn_r _ [49, 50, 51, 52, 6, 53, 1, 3, 4, 5, 7, 28, 29, 30, 31, 32, 33, 16, 17, 18, 19, 54, 55, 56, 57, 58, 59, 60, 61, 62, 63, 64, 65, 66] (by decide +kernel) (by decide +kernel)
set_option maxRecDepth 20000 in
theorem gX7_countNow_X7_through : GoodIn wsX7_countNow (wsV RX7 170 RX7 yX7_through wsX7_through) := goodIn_app (goodIn_of _ (by decide +kernel)) ggX7_countNow_X7_through
theorem dX7_countNow_0 : decode cX7_countNow 0 = .ok (.iconst 0, 1) := by decide +kernel
theorem dX7_countNow_1 : decode cX7_countNow 1 = .ok (.istore_n 2, 1) := by decide +kernel
theorem dX7_countNow_2 : decode cX7_countNow 2 = .ok (.iconst 0, 1) := by decide +kernel
theorem dX7_countNow_3 : decode cX7_countNow 3 = .ok (.istore_n 3, 1) := by decide +kernel
theorem dX7_countNow_4 : decode cX7_countNow 4 = .ok (.iconst 0, 1) := by decide +kernel
theorem dX7_countNow_5 : decode cX7_countNow 5 = .ok (.istore 4, 2) := by decide +kernel
theorem dX7_countNow_7 : decode cX7_countNow 7 = .ok (.iconst 0, 1) := by decide +kernel
theorem dX7_countNow_8 : decode cX7_countNow 8 = .ok (.istore 5, 2) := by decide +kernel
theorem dX7_countNow_10 : decode cX7_countNow 10 = .ok (.iload 5, 2) := by decide +kernel
theorem dX7_countNow_12 : decode cX7_countNow 12 = .ok (.aload_n 0, 1) := by decide +kernel
theorem dX7_countNow_13 : decode cX7_countNow 13 = .ok (.getfield 7, 3) := by decide +kernel
theorem dX7_countNow_16 : decode cX7_countNow 16 = .ok (.iconst 0, 1) := by decide +kernel
theorem dX7_countNow_17 : decode cX7_countNow 17 = .ok (.iaload, 1) := by decide +kernel
theorem dX7_countNow_18 : decode cX7_countNow 18 = .ok (.if_icmp .ge 28, 3) := by decide +kernel
theorem dX7_countNow_21 : decode cX7_countNow 21 = .ok (.iload_n 2, 1) := by decide +kernel
theorem dX7_countNow_22 : decode cX7_countNow 22 = .ok (.aload_n 0, 1) := by decide +kernel
theorem dX7_countNow_23 : decode cX7_countNow 23 = .ok (.iload 5, 2) := by decide +kernel
theorem dX7_countNow_25 : decode cX7_countNow 25 = .ok (.iconst 2, 1) := by decide +kernel
theorem dX7_countNow_26 : decode cX7_countNow 26 = .ok (.invokevirtual 46, 3) := by decide +kernel
theorem dX7_countNow_29 : decode cX7_countNow 29 = .ok (.iadd, 1) := by decide +kernel
theorem dX7_countNow_30 : decode cX7_countNow 30 = .ok (.istore_n 2, 1) := by decide +kernel
theorem dX7_countNow_31 : decode cX7_countNow 31 = .ok (.iload_n 3, 1) := by decide +kernel
theorem dX7_countNow_32 : decode cX7_countNow 32 = .ok (.aload_n 0, 1) := by decide +kernel
theorem dX7_countNow_33 : decode cX7_countNow 33 = .ok (.iload 5, 2) := by decide +kernel
theorem dX7_countNow_35 : decode cX7_countNow 35 = .ok (.invokevirtual 164, 3) := by decide +kernel
theorem dX7_countNow_38 : decode cX7_countNow 38 = .ok (.iadd, 1) := by decide +kernel
theorem dX7_countNow_39 : decode cX7_countNow 39 = .ok (.istore_n 3, 1) := by decide +kernel
theorem dX7_countNow_40 : decode cX7_countNow 40 = .ok (.iinc 5 1, 3) := by decide +kernel
theorem dX7_countNow_43 : decode cX7_countNow 43 = .ok (.goto (-33), 3) := by decide +kernel
theorem dX7_countNow_46 : decode cX7_countNow 46 = .ok (.iconst 0, 1) := by decide +kernel
theorem dX7_countNow_47 : decode cX7_countNow 47 = .ok (.istore 5, 2) := by decide +kernel
theorem dX7_countNow_49 : decode cX7_countNow 49 = .ok (.iload 5, 2) := by decide +kernel
theorem dX7_countNow_51 : decode cX7_countNow 51 = .ok (.bipush 16, 2) := by decide +kernel
theorem dX7_countNow_53 : decode cX7_countNow 53 = .ok (.if_icmp .ge 28, 3) := by decide +kernel
theorem dX7_countNow_56 : decode cX7_countNow 56 = .ok (.iload 4, 2) := by decide +kernel
theorem dX7_countNow_58 : decode cX7_countNow 58 = .ok (.aload_n 0, 1) := by decide +kernel
theorem dX7_countNow_59 : decode cX7_countNow 59 = .ok (.iload 5, 2) := by decide +kernel
theorem dX7_countNow_61 : decode cX7_countNow 61 = .ok (.invokevirtual 155, 3) := by decide +kernel
theorem dX7_countNow_64 : decode cX7_countNow 64 = .ok (.ifCond .eq 7, 3) := by decide +kernel
theorem dX7_countNow_67 : decode cX7_countNow 67 = .ok (.iconst 0, 1) := by decide +kernel
theorem dX7_countNow_68 : decode cX7_countNow 68 = .ok (.goto 4, 3) := by decide +kernel
theorem dX7_countNow_71 : decode cX7_countNow 71 = .ok (.iconst 1, 1) := by decide +kernel
theorem dX7_countNow_72 : decode cX7_countNow 72 = .ok (.iadd, 1) := by decide +kernel
theorem dX7_countNow_73 : decode cX7_countNow 73 = .ok (.istore 4, 2) := by decide +kernel
theorem dX7_countNow_75 : decode cX7_countNow 75 = .ok (.iinc 5 1, 3) := by decide +kernel
theorem dX7_countNow_78 : decode cX7_countNow 78 = .ok (.goto (-29), 3) := by decide +kernel
theorem dX7_countNow_81 : decode cX7_countNow 81 = .ok (.iload_n 1, 1) := by decide +kernel
theorem dX7_countNow_82 : decode cX7_countNow 82 = .ok (.tableswitch 84 0 8 #[50, 57, 59, 59, 64, 68, 71, 71, 77], 50) := by decide +kernel
theorem dX7_countNow_132 : decode cX7_countNow 132 = .ok (.aload_n 0, 1) := by decide +kernel
theorem dX7_countNow_133 : decode cX7_countNow 133 = .ok (.getfield 7, 3) := by decide +kernel
theorem dX7_countNow_136 : decode cX7_countNow 136 = .ok (.iconst 0, 1) := by decide +kernel
theorem dX7_countNow_137 : decode cX7_countNow 137 = .ok (.iaload, 1) := by decide +kernel
theorem dX7_countNow_138 : decode cX7_countNow 138 = .ok (.ireturn, 1) := by decide +kernel
theorem dX7_countNow_139 : decode cX7_countNow 139 = .ok (.iload_n 2, 1) := by decide +kernel
theorem dX7_countNow_140 : decode cX7_countNow 140 = .ok (.ireturn, 1) := by decide +kernel
theorem dX7_countNow_141 : decode cX7_countNow 141 = .ok (.aload_n 0, 1) := by decide +kernel
theorem dX7_countNow_142 : decode cX7_countNow 142 = .ok (.invokevirtual 85, 3) := by decide +kernel
theorem dX7_countNow_145 : decode cX7_countNow 145 = .ok (.ireturn, 1) := by decide +kernel
theorem dX7_countNow_146 : decode cX7_countNow 146 = .ok (.iload_n 3, 1) := by decide +kernel
theorem dX7_countNow_147 : decode cX7_countNow 147 = .ok (.iconst 2, 1) := by decide +kernel
theorem dX7_countNow_148 : decode cX7_countNow 148 = .ok (.idiv, 1) := by decide +kernel
theorem dX7_countNow_149 : decode cX7_countNow 149 = .ok (.ireturn, 1) := by decide +kernel
theorem dX7_countNow_150 : decode cX7_countNow 150 = .ok (.iload 4, 2) := by decide +kernel
theorem dX7_countNow_152 : decode cX7_countNow 152 = .ok (.ireturn, 1) := by decide +kernel
theorem dX7_countNow_153 : decode cX7_countNow 153 = .ok (.aload_n 0, 1) := by decide +kernel
theorem dX7_countNow_154 : decode cX7_countNow 154 = .ok (.iconst (-1), 1) := by decide +kernel
theorem dX7_countNow_155 : decode cX7_countNow 155 = .ok (.invokevirtual 170, 3) := by decide +kernel
theorem dX7_countNow_158 : decode cX7_countNow 158 = .ok (.ireturn, 1) := by decide +kernel
theorem dX7_countNow_159 : decode cX7_countNow 159 = .ok (.aload_n 0, 1) := by decide +kernel
theorem dX7_countNow_160 : decode cX7_countNow 160 = .ok (.getfield 7, 3) := by decide +kernel
theorem dX7_countNow_163 : decode cX7_countNow 163 = .ok (.iconst 1, 1) := by decide +kernel
theorem dX7_countNow_164 : decode cX7_countNow 164 = .ok (.iaload, 1) := by decide +kernel
theorem dX7_countNow_165 : decode cX7_countNow 165 = .ok (.ireturn, 1) := by decide +kernel
theorem dX7_countNow_166 : decode cX7_countNow 166 = .ok (.aload_n 0, 1) := by decide +kernel
theorem dX7_countNow_167 : decode cX7_countNow 167 = .ok (.getfield 50, 3) := by decide +kernel
theorem dX7_countNow_170 : decode cX7_countNow 170 = .ok (.ireturn, 1) := by decide +kernel
set_option maxRecDepth 20000 in
theorem ggX7_count_X7_in : GoodIn wsX7_count wsX7_in := goodIn_r _ [5] (by decide +kernel) (by decide +kernel)
set_option maxRecDepth 20000 in
theorem gX7_count_X7_in : GoodIn wsX7_count (va_wsS RX7 42 yX7_in wsX7_in) := goodIn_app (goodIn_of _ (by decide +kernel)) ggX7_count_X7_in
set_option maxRecDepth 20000 in
theorem ggX7_count_X7_countNow : GoodIn wsX7_count wsX7_countNow := goodIn_r _ [9, 10, 11, 12, 13, 14, 4, 15, 16, 17, 18, 19, 20, 21, 22, 23, 24, 25, 26, 27, 28, 29, 30, 31, 32, 33, 34, 35, 36, 37, 38, 2, 3, 5, 39, 40, 41, 42, 43, 44, 45, 46, 47, 48, 49, 50, 51, 52, 53, 54, 55, 56, 57, 58, 59, 60, 61, 62, 63, 64, 65, 66, 67, 68, 69, 70, 71] (by decide +kernel) (by decide +kernel)
set_option maxRecDepth 20000 in
theorem gX7_count_X7_countNow : GoodIn wsX7_count (wsV RX7 173 RX7 yX7_countNow wsX7_countNow) := goodIn_app (goodIn_of _ (by decide +kernel)) ggX7_count_X7_countNow
theorem dX7_count_0 : decode cX7_count 0 = .ok (.aload_n 0, 1) := by decide +kernel
theorem dX7_count_1 : decode cX7_count 1 = .ok (.iload_n 1, 1) := by decide +kernel
theorem dX7_count_2 : decode cX7_count 2 = .ok (.iconst 0, 1) := by decide +kernel
theorem dX7_count_3 : decode cX7_count 3 = .ok (.bipush 9, 2) := by decide +kernel
theorem dX7_count_5 : decode cX7_count 5 = .ok (.invokestatic 42, 3) := by decide +kernel
theorem dX7_count_8 : decode cX7_count 8 = .ok (.ifCond .eq 7, 3) := by decide +kernel
theorem dX7_count_11 : decode cX7_count 11 = .ok (.iconst 0, 1) := by decide +kernel
theorem dX7_count_12 : decode cX7_count 12 = .ok (.goto 4, 3) := by decide +kernel
theorem dX7_count_15 : decode cX7_count 15 = .ok (.iconst 1, 1) := by decide +kernel
theorem dX7_count_16 : decode cX7_count 16 = .ok (.putfield 38, 3) := by decide +kernel
theorem dX7_count_19 : decode cX7_count 19 = .ok (.aload_n 0, 1) := by decide +kernel
theorem dX7_count_20 : decode cX7_count 20 = .ok (.getfield 38, 3) := by decide +kernel
theorem dX7_count_23 : decode cX7_count 23 = .ok (.ifCond .le 7, 3) := by decide +kernel
theorem dX7_count_26 : decode cX7_count 26 = .ok (.iconst 0, 1) := by decide +kernel
theorem dX7_count_27 : decode cX7_count 27 = .ok (.goto 8, 3) := by decide +kernel
theorem dX7_count_30 : decode cX7_count 30 = .ok (.aload_n 0, 1) := by decide +kernel
theorem dX7_count_31 : decode cX7_count 31 = .ok (.iload_n 1, 1) := by decide +kernel
theorem dX7_count_32 : decode cX7_count 32 = .ok (.invokevirtual 173, 3) := by decide +kernel
theorem dX7_count_35 : decode cX7_count 35 = .ok (.ireturn, 1) := by decide +kernel
set_option maxRecDepth 20000 in
theorem ggX7_swapped_X7_exchange : GoodIn wsX7_swapped wsX7_exchange := goodIn_r _ [5, 6, 7, 8, 9, 4, 10, 27, 28, 29, 30, 31, 32, 33, 34, 35, 36, 37, 38, 39] (by decide +kernel) (by decide +kernel)
set_option maxRecDepth 20000 in
theorem gX7_swapped_X7_exchange : GoodIn wsX7_swapped (wsV RX7 81 RX7 yX7_exchange wsX7_exchange) := goodIn_app (goodIn_of _ (by decide +kernel)) ggX7_swapped_X7_exchange
set_option maxRecDepth 20000 in
theorem ggX7_swapped_X7_crossings : GoodIn wsX7_swapped wsX7_crossings := goodIn_r _ [14, 6, 15, 16, 17, 4, 18, 19, 20, 21, 22, 23, 24, 25, 26, 7, 8, 9, 10, 27, 28, 29, 30, 31, 32, 33, 34, 35, 36, 37, 38, 39] (by decide +kernel) (by decide +kernel)
set_option maxRecDepth 20000 in
theorem gX7_swapped_X7_crossings : GoodIn wsX7_swapped (wsV RX7 85 RX7 yX7_crossings wsX7_crossings) := goodIn_app (goodIn_of _ (by decide +kernel)) ggX7_swapped_X7_crossings
theorem dX7_swapped_0 : decode cX7_swapped 0 = .ok (.aload_n 0, 1) := by decide +kernel
theorem dX7_swapped_1 : decode cX7_swapped 1 = .ok (.iload_n 1, 1) := by decide +kernel
theorem dX7_swapped_2 : decode cX7_swapped 2 = .ok (.iload_n 2, 1) := by decide +kernel
theorem dX7_swapped_3 : decode cX7_swapped 3 = .ok (.invokevirtual 81, 3) := by decide +kernel
theorem dX7_swapped_6 : decode cX7_swapped 6 = .ok (.aload_n 0, 1) := by decide +kernel
theorem dX7_swapped_7 : decode cX7_swapped 7 = .ok (.invokevirtual 85, 3) := by decide +kernel
theorem dX7_swapped_10 : decode cX7_swapped 10 = .ok (.istore_n 3, 1) := by decide +kernel
theorem dX7_swapped_11 : decode cX7_swapped 11 = .ok (.aload_n 0, 1) := by decide +kernel
theorem dX7_swapped_12 : decode cX7_swapped 12 = .ok (.iload_n 1, 1) := by decide +kernel
theorem dX7_swapped_13 : decode cX7_swapped 13 = .ok (.iload_n 2, 1) := by decide +kernel
theorem dX7_swapped_14 : decode cX7_swapped 14 = .ok (.invokevirtual 81, 3) := by decide +kernel
theorem dX7_swapped_17 : decode cX7_swapped 17 = .ok (.iload_n 3, 1) := by decide +kernel
theorem dX7_swapped_18 : decode cX7_swapped 18 = .ok (.ireturn, 1) := by decide +kernel
set_option maxRecDepth 20000 in
theorem ggX7_ifSwapped_X7_whyNoPair : GoodIn wsX7_ifSwapped wsX7_whyNoPair := goodIn_r _ [5, 6, 7, 4, 8, 9, 10, 11] (by decide +kernel) (by decide +kernel)
set_option maxRecDepth 20000 in
theorem gX7_ifSwapped_X7_whyNoPair : GoodIn wsX7_ifSwapped (va_wsS RX7 78 yX7_whyNoPair wsX7_whyNoPair) := goodIn_app (goodIn_of _ (by decide +kernel)) ggX7_ifSwapped_X7_whyNoPair
set_option maxRecDepth 20000 in
theorem ggX7_ifSwapped_X7_swapped : GoodIn wsX7_ifSwapped wsX7_swapped := goodIn_r _ [15, 16, 17, 18, 4, 19, 20, 21, 22, 23, 24, 25, 26, 27, 28, 29, 30, 31, 32, 33, 34, 35, 36, 37, 38, 39, 40, 41, 42, 43, 44, 45, 46, 47, 48, 49, 50, 51, 52, 53] (by decide +kernel) (by decide +kernel)
set_option maxRecDepth 20000 in
theorem gX7_ifSwapped_X7_swapped : GoodIn wsX7_ifSwapped (wsV RX7 176 RX7 yX7_swapped wsX7_swapped) := goodIn_app (goodIn_of _ (by decide +kernel)) ggX7_ifSwapped_X7_swapped
theorem dX7_ifSwapped_0 : decode cX7_ifSwapped 0 = .ok (.aload_n 0, 1) := by decide +kernel
theorem dX7_ifSwapped_1 : decode cX7_ifSwapped 1 = .ok (.iload_n 1, 1) := by decide +kernel
theorem dX7_ifSwapped_2 : decode cX7_ifSwapped 2 = .ok (.iload_n 2, 1) := by decide +kernel
theorem dX7_ifSwapped_3 : decode cX7_ifSwapped 3 = .ok (.invokestatic 78, 3) := by decide +kernel
theorem dX7_ifSwapped_6 : decode cX7_ifSwapped 6 = .ok (.putfield 38, 3) := by decide +kernel
theorem dX7_ifSwapped_9 : decode cX7_ifSwapped 9 = .ok (.aload_n 0, 1) := by decide +kernel
theorem dX7_ifSwapped_10 : decode cX7_ifSwapped 10 = .ok (.getfield 38, 3) := by decide +kernel
theorem dX7_ifSwapped_13 : decode cX7_ifSwapped 13 = .ok (.ifCond .le 7, 3) := by decide +kernel
theorem dX7_ifSwapped_16 : decode cX7_ifSwapped 16 = .ok (.iconst 0, 1) := by decide +kernel
theorem dX7_ifSwapped_17 : decode cX7_ifSwapped 17 = .ok (.goto 9, 3) := by decide +kernel
theorem dX7_ifSwapped_20 : decode cX7_ifSwapped 20 = .ok (.aload_n 0, 1) := by decide +kernel
theorem dX7_ifSwapped_21 : decode cX7_ifSwapped 21 = .ok (.iload_n 1, 1) := by decide +kernel
theorem dX7_ifSwapped_22 : decode cX7_ifSwapped 22 = .ok (.iload_n 2, 1) := by decide +kernel
theorem dX7_ifSwapped_23 : decode cX7_ifSwapped 23 = .ok (.invokevirtual 176, 3) := by decide +kernel
theorem dX7_ifSwapped_26 : decode cX7_ifSwapped 26 = .ok (.ireturn, 1) := by decide +kernel
set_option maxRecDepth 20000 in
theorem ggX7_bestOrder_X7_isColumn : GoodIn wsX7_bestOrder wsX7_isColumn := goodIn_r _ [5, 6, 7, 4, 8] (by decide +kernel) (by decide +kernel)
set_option maxRecDepth 20000 in
theorem gX7_bestOrder_X7_isColumn : GoodIn wsX7_bestOrder (va_wsS RX7 109 yX7_isColumn wsX7_isColumn) := goodIn_app (goodIn_of _ (by decide +kernel)) ggX7_bestOrder_X7_isColumn
set_option maxRecDepth 20000 in
theorem ggX7_bestOrder_X7_findBestOrder : GoodIn wsX7_bestOrder wsX7_findBestOrder := goodIn_r _ [12, 13, 14, 15, 4, 16, 17, 18, 19, 20, 21, 22, 23, 24, 25, 26, 27, 28, 29, 30, 31, 32, 33, 34, 35, 36, 37, 38, 39, 40, 41, 42, 43, 44, 45, 46, 47, 48, 49, 50, 51, 52, 53, 54, 55, 56, 57, 58, 59, 60, 61, 62] (by decide +kernel) (by decide +kernel)
set_option maxRecDepth 20000 in
theorem gX7_bestOrder_X7_findBestOrder : GoodIn wsX7_bestOrder (wsV RX7 112 RX7 yX7_findBestOrder wsX7_findBestOrder) := goodIn_app (goodIn_of _ (by decide +kernel)) ggX7_bestOrder_X7_findBestOrder
theorem dX7_bestOrder_0 : decode cX7_bestOrder 0 = .ok (.aload_n 0, 1) := by decide +kernel
theorem dX7_bestOrder_1 : decode cX7_bestOrder 1 = .ok (.iload_n 1, 1) := by decide +kernel
theorem dX7_bestOrder_2 : decode cX7_bestOrder 2 = .ok (.invokestatic 109, 3) := by decide +kernel
theorem dX7_bestOrder_5 : decode cX7_bestOrder 5 = .ok (.ifCond .eq 7, 3) := by decide +kernel
theorem dX7_bestOrder_8 : decode cX7_bestOrder 8 = .ok (.iconst 0, 1) := by decide +kernel
theorem dX7_bestOrder_9 : decode cX7_bestOrder 9 = .ok (.goto 4, 3) := by decide +kernel
theorem dX7_bestOrder_12 : decode cX7_bestOrder 12 = .ok (.iconst 1, 1) := by decide +kernel
theorem dX7_bestOrder_13 : decode cX7_bestOrder 13 = .ok (.putfield 38, 3) := by decide +kernel
theorem dX7_bestOrder_16 : decode cX7_bestOrder 16 = .ok (.aload_n 0, 1) := by decide +kernel
theorem dX7_bestOrder_17 : decode cX7_bestOrder 17 = .ok (.getfield 38, 3) := by decide +kernel
theorem dX7_bestOrder_20 : decode cX7_bestOrder 20 = .ok (.ifCond .le 7, 3) := by decide +kernel
theorem dX7_bestOrder_23 : decode cX7_bestOrder 23 = .ok (.iconst 0, 1) := by decide +kernel
theorem dX7_bestOrder_24 : decode cX7_bestOrder 24 = .ok (.goto 8, 3) := by decide +kernel
theorem dX7_bestOrder_27 : decode cX7_bestOrder 27 = .ok (.aload_n 0, 1) := by decide +kernel
theorem dX7_bestOrder_28 : decode cX7_bestOrder 28 = .ok (.iload_n 1, 1) := by decide +kernel
theorem dX7_bestOrder_29 : decode cX7_bestOrder 29 = .ok (.invokevirtual 112, 3) := by decide +kernel
theorem dX7_bestOrder_32 : decode cX7_bestOrder 32 = .ok (.ireturn, 1) := by decide +kernel
set_option maxRecDepth 20000 in
theorem ggX7_settled_X7_putAside : GoodIn wsX7_settled wsX7_putAside := goodIn_r _ [5, 6, 7, 40, 41, 42, 43, 44, 45, 46, 47, 48, 49, 50, 51, 52] (by decide +kernel) (by decide +kernel)
set_option maxRecDepth 20000 in
theorem gX7_settled_X7_putAside : GoodIn wsX7_settled (wsV RX7 96 RX7 yX7_putAside wsX7_putAside) := goodIn_app (goodIn_of _ (by decide +kernel)) ggX7_settled_X7_putAside
set_option maxRecDepth 20000 in
theorem ggX7_settled_X7_doSettle : GoodIn wsX7_settled wsX7_doSettle := goodIn_r _ [11, 12, 13, 14, 4, 15, 7, 16, 17, 18, 19, 20, 21, 22, 23, 24, 25, 26, 27, 28, 29, 30, 31, 32, 33, 34, 35, 40, 41, 42, 43, 44, 45, 46, 47, 48, 49, 50, 51, 52] (by decide +kernel) (by decide +kernel)
set_option maxRecDepth 20000 in
theorem gX7_settled_X7_doSettle : GoodIn wsX7_settled (wsV RX7 130 RX7 yX7_doSettle wsX7_doSettle) := goodIn_app (goodIn_of _ (by decide +kernel)) ggX7_settled_X7_doSettle
set_option maxRecDepth 20000 in
theorem ggX7_settled_X7_putBack : GoodIn wsX7_settled wsX7_putBack := goodIn_r _ [39, 7, 6, 40, 41, 42, 43, 44, 45, 46, 47, 48, 49, 50, 51, 52] (by decide +kernel) (by decide +kernel)
set_option maxRecDepth 20000 in
theorem gX7_settled_X7_putBack : GoodIn wsX7_settled (wsV RX7 106 RX7 yX7_putBack wsX7_putBack) := goodIn_app (goodIn_of _ (by decide +kernel)) ggX7_settled_X7_putBack
theorem dX7_settled_0 : decode cX7_settled 0 = .ok (.aload_n 0, 1) := by decide +kernel
theorem dX7_settled_1 : decode cX7_settled 1 = .ok (.invokevirtual 96, 3) := by decide +kernel
theorem dX7_settled_4 : decode cX7_settled 4 = .ok (.aload_n 0, 1) := by decide +kernel
theorem dX7_settled_5 : decode cX7_settled 5 = .ok (.invokevirtual 130, 3) := by decide +kernel
theorem dX7_settled_8 : decode cX7_settled 8 = .ok (.istore_n 1, 1) := by decide +kernel
theorem dX7_settled_9 : decode cX7_settled 9 = .ok (.aload_n 0, 1) := by decide +kernel
theorem dX7_settled_10 : decode cX7_settled 10 = .ok (.invokevirtual 106, 3) := by decide +kernel
theorem dX7_settled_13 : decode cX7_settled 13 = .ok (.iload_n 1, 1) := by decide +kernel
theorem dX7_settled_14 : decode cX7_settled 14 = .ok (.ireturn, 1) := by decide +kernel
set_option maxRecDepth 20000 in
theorem ggX7_ifSettled_X7_settled : GoodIn wsX7_ifSettled wsX7_settled := goodIn_r _ [6, 7, 8, 9, 5, 10, 11, 12, 13, 14, 15, 16, 17, 18, 19, 20, 21, 22, 23, 24, 25, 26, 27, 28, 29, 30, 31, 32, 33, 34, 35, 36, 37, 38, 39, 40, 41, 42, 43, 44, 45, 46, 47, 48, 49, 50, 51, 52, 53, 54, 55, 56, 57] (by decide +kernel) (by decide +kernel)
set_option maxRecDepth 20000 in
theorem gX7_ifSettled_X7_settled : GoodIn wsX7_ifSettled (wsV RX7 179 RX7 yX7_settled wsX7_settled) := goodIn_app (goodIn_of _ (by decide +kernel)) ggX7_ifSettled_X7_settled
theorem dX7_ifSettled_0 : decode cX7_ifSettled 0 = .ok (.aload_n 0, 1) := by decide +kernel
theorem dX7_ifSettled_1 : decode cX7_ifSettled 1 = .ok (.iconst 0, 1) := by decide +kernel
theorem dX7_ifSettled_2 : decode cX7_ifSettled 2 = .ok (.putfield 38, 3) := by decide +kernel
theorem dX7_ifSettled_5 : decode cX7_ifSettled 5 = .ok (.aload_n 0, 1) := by decide +kernel
theorem dX7_ifSettled_6 : decode cX7_ifSettled 6 = .ok (.invokevirtual 179, 3) := by decide +kernel
theorem dX7_ifSettled_9 : decode cX7_ifSettled 9 = .ok (.ireturn, 1) := by decide +kernel
set_option maxRecDepth 20000 in
theorem ggX7_findMain_X7_goesOn : GoodIn wsX7_findMain wsX7_goesOn := goodIn_r _ [6, 7, 8, 9, 5, 10, 1, 25, 26, 27, 28, 29, 30, 31, 32, 33, 34, 35, 36, 37] (by decide +kernel) (by decide +kernel)
set_option maxRecDepth 20000 in
theorem gX7_findMain_X7_goesOn : GoodIn wsX7_findMain (wsV RX7 56 RX7 yX7_goesOn wsX7_goesOn) := goodIn_app (goodIn_of _ (by decide +kernel)) ggX7_findMain_X7_goesOn
set_option maxRecDepth 20000 in
theorem ggX7_findMain_X7_through : GoodIn wsX7_findMain wsX7_through := goodIn_r _ [14, 15, 16, 17, 5, 18, 1, 7, 8, 9, 10, 19, 20, 21, 22, 23, 24, 2, 3, 4, 6, 25, 26, 27, 28, 29, 30, 31, 32, 33, 34, 35, 36, 37] (by decide +kernel) (by decide +kernel)
set_option maxRecDepth 20000 in
theorem gX7_findMain_X7_through : GoodIn wsX7_findMain (wsV RX7 170 RX7 yX7_through wsX7_through) := goodIn_app (goodIn_of _ (by decide +kernel)) ggX7_findMain_X7_through
theorem dX7_findMain_0 : decode cX7_findMain 0 = .ok (.iconst (-1), 1) := by decide +kernel
theorem dX7_findMain_1 : decode cX7_findMain 1 = .ok (.istore_n 1, 1) := by decide +kernel
theorem dX7_findMain_2 : decode cX7_findMain 2 = .ok (.iconst 0, 1) := by decide +kernel
theorem dX7_findMain_3 : decode cX7_findMain 3 = .ok (.istore_n 2, 1) := by decide +kernel
theorem dX7_findMain_4 : decode cX7_findMain 4 = .ok (.iconst 0, 1) := by decide +kernel
theorem dX7_findMain_5 : decode cX7_findMain 5 = .ok (.istore_n 3, 1) := by decide +kernel
theorem dX7_findMain_6 : decode cX7_findMain 6 = .ok (.iload_n 3, 1) := by decide +kernel
theorem dX7_findMain_7 : decode cX7_findMain 7 = .ok (.aload_n 0, 1) := by decide +kernel
theorem dX7_findMain_8 : decode cX7_findMain 8 = .ok (.getfield 7, 3) := by decide +kernel
theorem dX7_findMain_11 : decode cX7_findMain 11 = .ok (.iconst 0, 1) := by decide +kernel
theorem dX7_findMain_12 : decode cX7_findMain 12 = .ok (.iaload, 1) := by decide +kernel
theorem dX7_findMain_13 : decode cX7_findMain 13 = .ok (.if_icmp .ge 39, 3) := by decide +kernel
theorem dX7_findMain_16 : decode cX7_findMain 16 = .ok (.aload_n 0, 1) := by decide +kernel
theorem dX7_findMain_17 : decode cX7_findMain 17 = .ok (.iload_n 3, 1) := by decide +kernel
theorem dX7_findMain_18 : decode cX7_findMain 18 = .ok (.invokevirtual 56, 3) := by decide +kernel
theorem dX7_findMain_21 : decode cX7_findMain 21 = .ok (.ifCond .eq 25, 3) := by decide +kernel
theorem dX7_findMain_24 : decode cX7_findMain 24 = .ok (.aload_n 0, 1) := by decide +kernel
theorem dX7_findMain_25 : decode cX7_findMain 25 = .ok (.iload_n 3, 1) := by decide +kernel
theorem dX7_findMain_26 : decode cX7_findMain 26 = .ok (.invokevirtual 170, 3) := by decide +kernel
theorem dX7_findMain_29 : decode cX7_findMain 29 = .ok (.istore 4, 2) := by decide +kernel
theorem dX7_findMain_31 : decode cX7_findMain 31 = .ok (.iload_n 1, 1) := by decide +kernel
theorem dX7_findMain_32 : decode cX7_findMain 32 = .ok (.ifCond .lt 9, 3) := by decide +kernel
theorem dX7_findMain_35 : decode cX7_findMain 35 = .ok (.iload 4, 2) := by decide +kernel
theorem dX7_findMain_37 : decode cX7_findMain 37 = .ok (.iload_n 2, 1) := by decide +kernel
theorem dX7_findMain_38 : decode cX7_findMain 38 = .ok (.if_icmp .ge 8, 3) := by decide +kernel
theorem dX7_findMain_41 : decode cX7_findMain 41 = .ok (.iload_n 3, 1) := by decide +kernel
theorem dX7_findMain_42 : decode cX7_findMain 42 = .ok (.istore_n 1, 1) := by decide +kernel
theorem dX7_findMain_43 : decode cX7_findMain 43 = .ok (.iload 4, 2) := by decide +kernel
theorem dX7_findMain_45 : decode cX7_findMain 45 = .ok (.istore_n 2, 1) := by decide +kernel
theorem dX7_findMain_46 : decode cX7_findMain 46 = .ok (.iinc 3 1, 3) := by decide +kernel
theorem dX7_findMain_49 : decode cX7_findMain 49 = .ok (.goto (-43), 3) := by decide +kernel
theorem dX7_findMain_52 : decode cX7_findMain 52 = .ok (.iload_n 1, 1) := by decide +kernel
theorem dX7_findMain_53 : decode cX7_findMain 53 = .ok (.ireturn, 1) := by decide +kernel
set_option maxRecDepth 20000 in
theorem ggX7_mainRibbon_X7_findMain : GoodIn wsX7_mainRibbon wsX7_findMain := goodIn_r _ [6, 7, 8, 9, 10, 5, 11, 12, 13, 14, 15, 16, 17, 18, 19, 20, 21, 22, 23, 24, 25, 26, 27, 28, 29, 30, 31, 32, 33, 34, 35, 36, 37, 38, 39, 40, 41, 42] (by decide +kernel) (by decide +kernel)
set_option maxRecDepth 20000 in
theorem gX7_mainRibbon_X7_findMain : GoodIn wsX7_mainRibbon (wsV RX7 182 RX7 yX7_findMain wsX7_findMain) := goodIn_app (goodIn_of _ (by decide +kernel)) ggX7_mainRibbon_X7_findMain
theorem dX7_mainRibbon_0 : decode cX7_mainRibbon 0 = .ok (.aload_n 0, 1) := by decide +kernel
theorem dX7_mainRibbon_1 : decode cX7_mainRibbon 1 = .ok (.iconst 0, 1) := by decide +kernel
theorem dX7_mainRibbon_2 : decode cX7_mainRibbon 2 = .ok (.putfield 38, 3) := by decide +kernel
theorem dX7_mainRibbon_5 : decode cX7_mainRibbon 5 = .ok (.aload_n 0, 1) := by decide +kernel
theorem dX7_mainRibbon_6 : decode cX7_mainRibbon 6 = .ok (.invokevirtual 182, 3) := by decide +kernel
theorem dX7_mainRibbon_9 : decode cX7_mainRibbon 9 = .ok (.ireturn, 1) := by decide +kernel
set_option maxRecDepth 20000 in
theorem ggX7_heightOf_X7_greater : GoodIn wsX7_heightOf wsX7_greater := goodIn_r _ [5, 6, 7, 8, 4, 9, 10, 11, 12, 13, 14, 15, 16, 17, 18, 19, 20, 21, 22, 23, 24, 25, 26, 27, 28, 29, 30, 31, 32, 33, 34, 35] (by decide +kernel) (by decide +kernel)
set_option maxRecDepth 20000 in
theorem gX7_heightOf_X7_greater : GoodIn wsX7_heightOf (wsV RX7 158 RX7 yX7_greater wsX7_greater) := goodIn_app (goodIn_of _ (by decide +kernel)) ggX7_heightOf_X7_greater
theorem dX7_heightOf_0 : decode cX7_heightOf 0 = .ok (.iconst 0, 1) := by decide +kernel
theorem dX7_heightOf_1 : decode cX7_heightOf 1 = .ok (.istore_n 2, 1) := by decide +kernel
theorem dX7_heightOf_2 : decode cX7_heightOf 2 = .ok (.iconst 4, 1) := by decide +kernel
theorem dX7_heightOf_3 : decode cX7_heightOf 3 = .ok (.iload_n 1, 1) := by decide +kernel
theorem dX7_heightOf_4 : decode cX7_heightOf 4 = .ok (.imul, 1) := by decide +kernel
theorem dX7_heightOf_5 : decode cX7_heightOf 5 = .ok (.istore_n 3, 1) := by decide +kernel
theorem dX7_heightOf_6 : decode cX7_heightOf 6 = .ok (.iload_n 3, 1) := by decide +kernel
theorem dX7_heightOf_7 : decode cX7_heightOf 7 = .ok (.iconst 4, 1) := by decide +kernel
theorem dX7_heightOf_8 : decode cX7_heightOf 8 = .ok (.iload_n 1, 1) := by decide +kernel
theorem dX7_heightOf_9 : decode cX7_heightOf 9 = .ok (.imul, 1) := by decide +kernel
theorem dX7_heightOf_10 : decode cX7_heightOf 10 = .ok (.iconst 4, 1) := by decide +kernel
theorem dX7_heightOf_11 : decode cX7_heightOf 11 = .ok (.iadd, 1) := by decide +kernel
theorem dX7_heightOf_12 : decode cX7_heightOf 12 = .ok (.if_icmp .ge 17, 3) := by decide +kernel
theorem dX7_heightOf_15 : decode cX7_heightOf 15 = .ok (.iload_n 2, 1) := by decide +kernel
theorem dX7_heightOf_16 : decode cX7_heightOf 16 = .ok (.aload_n 0, 1) := by decide +kernel
theorem dX7_heightOf_17 : decode cX7_heightOf 17 = .ok (.iload_n 3, 1) := by decide +kernel
theorem dX7_heightOf_18 : decode cX7_heightOf 18 = .ok (.invokevirtual 158, 3) := by decide +kernel
theorem dX7_heightOf_21 : decode cX7_heightOf 21 = .ok (.iadd, 1) := by decide +kernel
theorem dX7_heightOf_22 : decode cX7_heightOf 22 = .ok (.istore_n 2, 1) := by decide +kernel
theorem dX7_heightOf_23 : decode cX7_heightOf 23 = .ok (.iinc 3 1, 3) := by decide +kernel
theorem dX7_heightOf_26 : decode cX7_heightOf 26 = .ok (.goto (-20), 3) := by decide +kernel
theorem dX7_heightOf_29 : decode cX7_heightOf 29 = .ok (.iload_n 2, 1) := by decide +kernel
theorem dX7_heightOf_30 : decode cX7_heightOf 30 = .ok (.ireturn, 1) := by decide +kernel
set_option maxRecDepth 20000 in
theorem ggX7_height_X7_isColumn : GoodIn wsX7_height wsX7_isColumn := goodIn_r _ [5, 6, 7, 4, 8] (by decide +kernel) (by decide +kernel)
set_option maxRecDepth 20000 in
theorem gX7_height_X7_isColumn : GoodIn wsX7_height (va_wsS RX7 109 yX7_isColumn wsX7_isColumn) := goodIn_app (goodIn_of _ (by decide +kernel)) ggX7_height_X7_isColumn
set_option maxRecDepth 20000 in
theorem ggX7_height_X7_heightOf : GoodIn wsX7_height wsX7_heightOf := goodIn_r _ [12, 13, 14, 15, 4, 16, 17, 18, 19, 20, 21, 22, 23, 24, 25, 26, 27, 28, 29, 30, 31, 32, 33, 34, 35, 36, 37, 38, 39, 40, 41, 42, 43, 44, 45, 46] (by decide +kernel) (by decide +kernel)
set_option maxRecDepth 20000 in
theorem gX7_height_X7_heightOf : GoodIn wsX7_height (wsV RX7 185 RX7 yX7_heightOf wsX7_heightOf) := goodIn_app (goodIn_of _ (by decide +kernel)) ggX7_height_X7_heightOf
theorem dX7_height_0 : decode cX7_height 0 = .ok (.aload_n 0, 1) := by decide +kernel
theorem dX7_height_1 : decode cX7_height 1 = .ok (.iload_n 1, 1) := by decide +kernel
theorem dX7_height_2 : decode cX7_height 2 = .ok (.invokestatic 109, 3) := by decide +kernel
theorem dX7_height_5 : decode cX7_height 5 = .ok (.ifCond .eq 7, 3) := by decide +kernel
theorem dX7_height_8 : decode cX7_height 8 = .ok (.iconst 0, 1) := by decide +kernel
theorem dX7_height_9 : decode cX7_height 9 = .ok (.goto 4, 3) := by decide +kernel
theorem dX7_height_12 : decode cX7_height 12 = .ok (.iconst 1, 1) := by decide +kernel
theorem dX7_height_13 : decode cX7_height 13 = .ok (.putfield 38, 3) := by decide +kernel
theorem dX7_height_16 : decode cX7_height 16 = .ok (.aload_n 0, 1) := by decide +kernel
theorem dX7_height_17 : decode cX7_height 17 = .ok (.getfield 38, 3) := by decide +kernel
theorem dX7_height_20 : decode cX7_height 20 = .ok (.ifCond .le 7, 3) := by decide +kernel
theorem dX7_height_23 : decode cX7_height 23 = .ok (.iconst 0, 1) := by decide +kernel
theorem dX7_height_24 : decode cX7_height 24 = .ok (.goto 8, 3) := by decide +kernel
theorem dX7_height_27 : decode cX7_height 27 = .ok (.aload_n 0, 1) := by decide +kernel
theorem dX7_height_28 : decode cX7_height 28 = .ok (.iload_n 1, 1) := by decide +kernel
theorem dX7_height_29 : decode cX7_height 29 = .ok (.invokevirtual 185, 3) := by decide +kernel
theorem dX7_height_32 : decode cX7_height 32 = .ok (.ireturn, 1) := by decide +kernel
set_option maxRecDepth 20000 in
theorem ggX7_share_X7_leaves : GoodIn wsX7_share wsX7_leaves := goodIn_r _ [5, 6, 7, 8, 9, 4, 10, 11, 12, 13, 14, 29, 30, 31, 32, 33, 34, 35, 36, 37, 38, 39, 40, 41] (by decide +kernel) (by decide +kernel)
set_option maxRecDepth 20000 in
theorem gX7_share_X7_leaves : GoodIn wsX7_share (wsV RX7 118 RX7 yX7_leaves wsX7_leaves) := goodIn_app (goodIn_of _ (by decide +kernel)) ggX7_share_X7_leaves
set_option maxRecDepth 20000 in
theorem ggX7_share_X7_through : GoodIn wsX7_share wsX7_through := goodIn_r _ [18, 19, 20, 21, 4, 22, 6, 11, 12, 13, 14, 23, 24, 25, 26, 27, 28, 7, 8, 9, 10, 29, 30, 31, 32, 33, 34, 35, 36, 37, 38, 39, 40, 41] (by decide +kernel) (by decide +kernel)
set_option maxRecDepth 20000 in
theorem gX7_share_X7_through : GoodIn wsX7_share (wsV RX7 170 RX7 yX7_through wsX7_through) := goodIn_app (goodIn_of _ (by decide +kernel)) ggX7_share_X7_through
theorem dX7_share_0 : decode cX7_share 0 = .ok (.aload_n 0, 1) := by decide +kernel
theorem dX7_share_1 : decode cX7_share 1 = .ok (.iconst 0, 1) := by decide +kernel
theorem dX7_share_2 : decode cX7_share 2 = .ok (.invokevirtual 118, 3) := by decide +kernel
theorem dX7_share_5 : decode cX7_share 5 = .ok (.aload_n 0, 1) := by decide +kernel
theorem dX7_share_6 : decode cX7_share 6 = .ok (.iconst 1, 1) := by decide +kernel
theorem dX7_share_7 : decode cX7_share 7 = .ok (.invokevirtual 118, 3) := by decide +kernel
theorem dX7_share_10 : decode cX7_share 10 = .ok (.iadd, 1) := by decide +kernel
theorem dX7_share_11 : decode cX7_share 11 = .ok (.aload_n 0, 1) := by decide +kernel
theorem dX7_share_12 : decode cX7_share 12 = .ok (.iconst 2, 1) := by decide +kernel
theorem dX7_share_13 : decode cX7_share 13 = .ok (.invokevirtual 118, 3) := by decide +kernel
theorem dX7_share_16 : decode cX7_share 16 = .ok (.iadd, 1) := by decide +kernel
theorem dX7_share_17 : decode cX7_share 17 = .ok (.aload_n 0, 1) := by decide +kernel
theorem dX7_share_18 : decode cX7_share 18 = .ok (.iconst 3, 1) := by decide +kernel
theorem dX7_share_19 : decode cX7_share 19 = .ok (.invokevirtual 118, 3) := by decide +kernel
theorem dX7_share_22 : decode cX7_share 22 = .ok (.iadd, 1) := by decide +kernel
theorem dX7_share_23 : decode cX7_share 23 = .ok (.istore_n 1, 1) := by decide +kernel
theorem dX7_share_24 : decode cX7_share 24 = .ok (.iload_n 1, 1) := by decide +kernel
theorem dX7_share_25 : decode cX7_share 25 = .ok (.ifCond .ne 7, 3) := by decide +kernel
theorem dX7_share_28 : decode cX7_share 28 = .ok (.dconst 1, 1) := by decide +kernel
theorem dX7_share_29 : decode cX7_share 29 = .ok (.goto 12, 3) := by decide +kernel
theorem dX7_share_32 : decode cX7_share 32 = .ok (.aload_n 0, 1) := by decide +kernel
theorem dX7_share_33 : decode cX7_share 33 = .ok (.iconst (-1), 1) := by decide +kernel
theorem dX7_share_34 : decode cX7_share 34 = .ok (.invokevirtual 170, 3) := by decide +kernel
theorem dX7_share_37 : decode cX7_share 37 = .ok (.i2d, 1) := by decide +kernel
theorem dX7_share_38 : decode cX7_share 38 = .ok (.iload_n 1, 1) := by decide +kernel
theorem dX7_share_39 : decode cX7_share 39 = .ok (.i2d, 1) := by decide +kernel
theorem dX7_share_40 : decode cX7_share 40 = .ok (.ddiv, 1) := by decide +kernel
theorem dX7_share_41 : decode cX7_share 41 = .ok (.dreturn, 1) := by decide +kernel
set_option maxRecDepth 20000 in
theorem ggX7_throughShare_X7_share : GoodIn wsX7_throughShare wsX7_share := goodIn_r _ [6, 7, 8, 9, 5, 10, 11, 12, 13, 14, 15, 16, 17, 18, 19, 20, 21, 22, 23, 24, 25, 26, 27, 28, 29, 30, 31, 32, 33, 34, 35, 36, 37, 38, 39, 40, 41, 42, 43, 44, 45, 46] (by decide +kernel) (by decide +kernel)
set_option maxRecDepth 20000 in
theorem gX7_throughShare_X7_share : GoodIn wsX7_throughShare (wsV RX7 188 RX7 yX7_share wsX7_share) := goodIn_app (goodIn_of _ (by decide +kernel)) ggX7_throughShare_X7_share
theorem dX7_throughShare_0 : decode cX7_throughShare 0 = .ok (.aload_n 0, 1) := by decide +kernel
theorem dX7_throughShare_1 : decode cX7_throughShare 1 = .ok (.iconst 0, 1) := by decide +kernel
theorem dX7_throughShare_2 : decode cX7_throughShare 2 = .ok (.putfield 38, 3) := by decide +kernel
theorem dX7_throughShare_5 : decode cX7_throughShare 5 = .ok (.aload_n 0, 1) := by decide +kernel
theorem dX7_throughShare_6 : decode cX7_throughShare 6 = .ok (.invokevirtual 188, 3) := by decide +kernel
theorem dX7_throughShare_9 : decode cX7_throughShare 9 = .ok (.dreturn, 1) := by decide +kernel
set_option maxRecDepth 20000 in
theorem ggX7_digest_X7_countNow : GoodIn wsX7_digest wsX7_countNow := goodIn_r _ [12, 4, 13, 14, 15, 16, 11, 17, 18, 19, 20, 21, 22, 23, 24, 25, 26, 27, 28, 29, 30, 31, 32, 33, 34, 35, 36, 37, 38, 39, 40, 41, 42, 43, 44, 45, 46, 47, 48, 49, 50, 51, 52, 53, 54, 55, 56, 57, 58, 59, 60, 61, 62, 63, 148, 149, 150, 151, 152, 153, 154, 155, 156, 157, 158, 159, 160] (by decide +kernel) (by decide +kernel)
set_option maxRecDepth 20000 in
theorem gX7_digest_X7_countNow : GoodIn wsX7_digest (wsV RX7 173 RX7 yX7_countNow wsX7_countNow) := goodIn_app (goodIn_of _ (by decide +kernel)) ggX7_digest_X7_countNow
set_option maxRecDepth 20000 in
theorem ggX7_digest_X7_postNow : GoodIn wsX7_digest wsX7_postNow := goodIn_r _ [67, 30, 31, 32, 11, 33, 4, 44, 45, 46, 47, 26, 27, 28, 29, 14, 15, 16, 17, 48, 49, 50, 51, 68, 69, 70, 71, 34, 35, 36, 37, 38, 39, 40, 41, 42, 43, 72, 73, 74, 75, 148, 149, 150, 151, 152, 153, 154, 155, 156, 157, 158, 159, 160] (by decide +kernel) (by decide +kernel)
set_option maxRecDepth 20000 in
theorem gX7_digest_X7_postNow : GoodIn wsX7_digest (wsV RX7 161 RX7 yX7_postNow wsX7_postNow) := goodIn_app (goodIn_of _ (by decide +kernel)) ggX7_digest_X7_postNow
set_option maxRecDepth 20000 in
theorem ggX7_digest_X7_ribbonNow : GoodIn wsX7_digest wsX7_ribbonNow := goodIn_r _ [79, 14, 15, 16, 11, 17, 4, 26, 27, 28, 29, 18, 19, 20, 21, 22, 23, 24, 25, 30, 31, 32, 33, 148, 149, 150, 151, 152, 153, 154, 155, 156, 157, 158, 159, 160] (by decide +kernel) (by decide +kernel)
set_option maxRecDepth 20000 in
theorem gX7_digest_X7_ribbonNow : GoodIn wsX7_digest (wsV RX7 167 RX7 yX7_ribbonNow wsX7_ribbonNow) := goodIn_app (goodIn_of _ (by decide +kernel)) ggX7_digest_X7_ribbonNow
set_option maxRecDepth 20000 in
theorem ggX7_digest_X7_findBestOrder : GoodIn wsX7_digest wsX7_findBestOrder := goodIn_r _ [83, 84, 85, 86, 11, 87, 88, 4, 89, 90, 91, 92, 93, 94, 95, 52, 53, 54, 55, 14, 15, 16, 17, 22, 23, 24, 25, 26, 27, 28, 29, 30, 31, 32, 33, 96, 97, 98, 99, 148, 149, 150, 151, 152, 153, 154, 155, 156, 157, 158, 159, 160] (by decide +kernel) (by decide +kernel)
set_option maxRecDepth 20000 in
theorem gX7_digest_X7_findBestOrder : GoodIn wsX7_digest (wsV RX7 112 RX7 yX7_findBestOrder wsX7_findBestOrder) := goodIn_app (goodIn_of _ (by decide +kernel)) ggX7_digest_X7_findBestOrder
set_option maxRecDepth 20000 in
theorem ggX7_digest_X7_heightOf : GoodIn wsX7_digest wsX7_heightOf := goodIn_r _ [103, 72, 73, 74, 11, 75, 44, 45, 46, 47, 4, 26, 27, 28, 29, 14, 15, 16, 17, 48, 49, 50, 51, 148, 149, 150, 151, 152, 153, 154, 155, 156, 157, 158, 159, 160] (by decide +kernel) (by decide +kernel)
set_option maxRecDepth 20000 in
theorem gX7_digest_X7_heightOf : GoodIn wsX7_digest (wsV RX7 185 RX7 yX7_heightOf wsX7_heightOf) := goodIn_app (goodIn_of _ (by decide +kernel)) ggX7_digest_X7_heightOf
set_option maxRecDepth 20000 in
theorem ggX7_digest_X7_swapped : GoodIn wsX7_digest wsX7_swapped := goodIn_r _ [107, 108, 109, 110, 11, 111, 4, 30, 31, 32, 33, 52, 53, 54, 55, 14, 15, 16, 17, 22, 23, 24, 25, 26, 27, 28, 29, 148, 149, 150, 151, 152, 153, 154, 155, 156, 157, 158, 159, 160] (by decide +kernel) (by decide +kernel)
set_option maxRecDepth 20000 in
theorem gX7_digest_X7_swapped : GoodIn wsX7_digest (wsV RX7 176 RX7 yX7_swapped wsX7_swapped) := goodIn_app (goodIn_of _ (by decide +kernel)) ggX7_digest_X7_swapped
set_option maxRecDepth 20000 in
theorem ggX7_digest_X7_settled : GoodIn wsX7_digest wsX7_settled := goodIn_r _ [115, 84, 85, 86, 11, 87, 88, 4, 116, 117, 118, 119, 120, 121, 122, 123, 44, 45, 46, 47, 26, 27, 28, 29, 14, 15, 16, 17, 48, 49, 50, 51, 124, 125, 126, 127, 96, 97, 98, 99, 148, 149, 150, 151, 152, 153, 154, 155, 156, 157, 158, 159, 160] (by decide +kernel) (by decide +kernel)
set_option maxRecDepth 20000 in
theorem gX7_digest_X7_settled : GoodIn wsX7_digest (wsV RX7 179 RX7 yX7_settled wsX7_settled) := goodIn_app (goodIn_of _ (by decide +kernel)) ggX7_digest_X7_settled
set_option maxRecDepth 20000 in
theorem ggX7_digest_X7_findMain : GoodIn wsX7_digest wsX7_findMain := goodIn_r _ [131, 4, 26, 27, 28, 11, 29, 14, 15, 16, 17, 56, 57, 58, 59, 60, 61, 62, 63, 38, 39, 40, 41, 42, 43, 148, 149, 150, 151, 152, 153, 154, 155, 156, 157, 158, 159, 160] (by decide +kernel) (by decide +kernel)
set_option maxRecDepth 20000 in
theorem gX7_digest_X7_findMain : GoodIn wsX7_digest (wsV RX7 182 RX7 yX7_findMain wsX7_findMain) := goodIn_app (goodIn_of _ (by decide +kernel)) ggX7_digest_X7_findMain
set_option maxRecDepth 20000 in
theorem ggX7_digest_X7_share : GoodIn wsX7_digest wsX7_share := goodIn_r _ [135, 48, 49, 50, 11, 51, 4, 26, 27, 28, 29, 14, 15, 16, 17, 56, 57, 58, 59, 60, 61, 62, 63, 38, 39, 40, 41, 42, 43, 148, 149, 150, 151, 152, 153, 154, 155, 156, 157, 158, 159, 160] (by decide +kernel) (by decide +kernel)
set_option maxRecDepth 20000 in
theorem gX7_digest_X7_share : GoodIn wsX7_digest (wsV RX7 188 RX7 yX7_share wsX7_share) := goodIn_app (goodIn_of _ (by decide +kernel)) ggX7_digest_X7_share
set_option maxRecDepth 20000 in
theorem ggX7_digest_Jxe99ae_doubleToLongBits_ccdee : GoodIn wsX7_digest wsJxe99ae_doubleToLongBits_ccdee := goodIn_r _ [139, 140, 141, 142, 143, 144, 145, 146, 138, 147] (by decide +kernel) (by decide +kernel)
set_option maxRecDepth 20000 in
theorem gX7_digest_Jxe99ae_doubleToLongBits_ccdee : GoodIn wsX7_digest (va_wsS RX7 196 yJxe99ae_doubleToLongBits_ccdee wsJxe99ae_doubleToLongBits_ccdee) := goodIn_app (goodIn_of _ (by decide +kernel)) ggX7_digest_Jxe99ae_doubleToLongBits_ccdee
theorem dX7_digest_0 : decode cX7_digest 0 = .ok (.aload_n 0, 1) := by decide +kernel
theorem dX7_digest_1 : decode cX7_digest 1 = .ok (.iconst 0, 1) := by decide +kernel
theorem dX7_digest_2 : decode cX7_digest 2 = .ok (.putfield 38, 3) := by decide +kernel
theorem dX7_digest_5 : decode cX7_digest 5 = .ok (.ldc2_w 192, 3) := by decide +kernel
theorem dX7_digest_8 : decode cX7_digest 8 = .ok (.lstore_n 1, 1) := by decide +kernel
theorem dX7_digest_9 : decode cX7_digest 9 = .ok (.iconst 0, 1) := by decide +kernel
theorem dX7_digest_10 : decode cX7_digest 10 = .ok (.istore_n 3, 1) := by decide +kernel
theorem dX7_digest_11 : decode cX7_digest 11 = .ok (.iload_n 3, 1) := by decide +kernel
theorem dX7_digest_12 : decode cX7_digest 12 = .ok (.bipush 10, 2) := by decide +kernel
theorem dX7_digest_14 : decode cX7_digest 14 = .ok (.if_icmp .ge 22, 3) := by decide +kernel
theorem dX7_digest_17 : decode cX7_digest 17 = .ok (.ldc2_w 194, 3) := by decide +kernel
theorem dX7_digest_20 : decode cX7_digest 20 = .ok (.lload_n 1, 1) := by decide +kernel
theorem dX7_digest_21 : decode cX7_digest 21 = .ok (.lmul, 1) := by decide +kernel
theorem dX7_digest_22 : decode cX7_digest 22 = .ok (.aload_n 0, 1) := by decide +kernel
theorem dX7_digest_23 : decode cX7_digest 23 = .ok (.iload_n 3, 1) := by decide +kernel
theorem dX7_digest_24 : decode cX7_digest 24 = .ok (.invokevirtual 173, 3) := by decide +kernel
theorem dX7_digest_27 : decode cX7_digest 27 = .ok (.i2l, 1) := by decide +kernel
theorem dX7_digest_28 : decode cX7_digest 28 = .ok (.ladd, 1) := by decide +kernel
theorem dX7_digest_29 : decode cX7_digest 29 = .ok (.lstore_n 1, 1) := by decide +kernel
theorem dX7_digest_30 : decode cX7_digest 30 = .ok (.iinc 3 1, 3) := by decide +kernel
theorem dX7_digest_33 : decode cX7_digest 33 = .ok (.goto (-22), 3) := by decide +kernel
theorem dX7_digest_36 : decode cX7_digest 36 = .ok (.iconst 0, 1) := by decide +kernel
theorem dX7_digest_37 : decode cX7_digest 37 = .ok (.istore_n 3, 1) := by decide +kernel
theorem dX7_digest_38 : decode cX7_digest 38 = .ok (.iload_n 3, 1) := by decide +kernel
theorem dX7_digest_39 : decode cX7_digest 39 = .ok (.bipush 16, 2) := by decide +kernel
theorem dX7_digest_41 : decode cX7_digest 41 = .ok (.if_icmp .ge 40, 3) := by decide +kernel
theorem dX7_digest_44 : decode cX7_digest 44 = .ok (.iconst 0, 1) := by decide +kernel
theorem dX7_digest_45 : decode cX7_digest 45 = .ok (.istore 4, 2) := by decide +kernel
theorem dX7_digest_47 : decode cX7_digest 47 = .ok (.iload 4, 2) := by decide +kernel
theorem dX7_digest_49 : decode cX7_digest 49 = .ok (.bipush 8, 2) := by decide +kernel
theorem dX7_digest_51 : decode cX7_digest 51 = .ok (.if_icmp .ge 24, 3) := by decide +kernel
theorem dX7_digest_54 : decode cX7_digest 54 = .ok (.ldc2_w 194, 3) := by decide +kernel
theorem dX7_digest_57 : decode cX7_digest 57 = .ok (.lload_n 1, 1) := by decide +kernel
theorem dX7_digest_58 : decode cX7_digest 58 = .ok (.lmul, 1) := by decide +kernel
theorem dX7_digest_59 : decode cX7_digest 59 = .ok (.aload_n 0, 1) := by decide +kernel
theorem dX7_digest_60 : decode cX7_digest 60 = .ok (.iload_n 3, 1) := by decide +kernel
theorem dX7_digest_61 : decode cX7_digest 61 = .ok (.iload 4, 2) := by decide +kernel
theorem dX7_digest_63 : decode cX7_digest 63 = .ok (.invokevirtual 161, 3) := by decide +kernel
theorem dX7_digest_66 : decode cX7_digest 66 = .ok (.i2l, 1) := by decide +kernel
theorem dX7_digest_67 : decode cX7_digest 67 = .ok (.ladd, 1) := by decide +kernel
theorem dX7_digest_68 : decode cX7_digest 68 = .ok (.lstore_n 1, 1) := by decide +kernel
theorem dX7_digest_69 : decode cX7_digest 69 = .ok (.iinc 4 1, 3) := by decide +kernel
theorem dX7_digest_72 : decode cX7_digest 72 = .ok (.goto (-25), 3) := by decide +kernel
theorem dX7_digest_75 : decode cX7_digest 75 = .ok (.iinc 3 1, 3) := by decide +kernel
theorem dX7_digest_78 : decode cX7_digest 78 = .ok (.goto (-40), 3) := by decide +kernel
theorem dX7_digest_81 : decode cX7_digest 81 = .ok (.iconst 0, 1) := by decide +kernel
theorem dX7_digest_82 : decode cX7_digest 82 = .ok (.istore_n 3, 1) := by decide +kernel
theorem dX7_digest_83 : decode cX7_digest 83 = .ok (.iload_n 3, 1) := by decide +kernel
theorem dX7_digest_84 : decode cX7_digest 84 = .ok (.aload_n 0, 1) := by decide +kernel
theorem dX7_digest_85 : decode cX7_digest 85 = .ok (.getfield 7, 3) := by decide +kernel
theorem dX7_digest_88 : decode cX7_digest 88 = .ok (.iconst 0, 1) := by decide +kernel
theorem dX7_digest_89 : decode cX7_digest 89 = .ok (.iaload, 1) := by decide +kernel
theorem dX7_digest_90 : decode cX7_digest 90 = .ok (.if_icmp .ge 39, 3) := by decide +kernel
theorem dX7_digest_93 : decode cX7_digest 93 = .ok (.iconst 0, 1) := by decide +kernel
theorem dX7_digest_94 : decode cX7_digest 94 = .ok (.istore 4, 2) := by decide +kernel
theorem dX7_digest_96 : decode cX7_digest 96 = .ok (.iload 4, 2) := by decide +kernel
theorem dX7_digest_98 : decode cX7_digest 98 = .ok (.iconst 5, 1) := by decide +kernel
theorem dX7_digest_99 : decode cX7_digest 99 = .ok (.if_icmp .ge 24, 3) := by decide +kernel
theorem dX7_digest_102 : decode cX7_digest 102 = .ok (.ldc2_w 194, 3) := by decide +kernel
theorem dX7_digest_105 : decode cX7_digest 105 = .ok (.lload_n 1, 1) := by decide +kernel
theorem dX7_digest_106 : decode cX7_digest 106 = .ok (.lmul, 1) := by decide +kernel
theorem dX7_digest_107 : decode cX7_digest 107 = .ok (.aload_n 0, 1) := by decide +kernel
theorem dX7_digest_108 : decode cX7_digest 108 = .ok (.iload_n 3, 1) := by decide +kernel
theorem dX7_digest_109 : decode cX7_digest 109 = .ok (.iload 4, 2) := by decide +kernel
theorem dX7_digest_111 : decode cX7_digest 111 = .ok (.invokevirtual 167, 3) := by decide +kernel
theorem dX7_digest_114 : decode cX7_digest 114 = .ok (.i2l, 1) := by decide +kernel
theorem dX7_digest_115 : decode cX7_digest 115 = .ok (.ladd, 1) := by decide +kernel
theorem dX7_digest_116 : decode cX7_digest 116 = .ok (.lstore_n 1, 1) := by decide +kernel
theorem dX7_digest_117 : decode cX7_digest 117 = .ok (.iinc 4 1, 3) := by decide +kernel
theorem dX7_digest_120 : decode cX7_digest 120 = .ok (.goto (-24), 3) := by decide +kernel
theorem dX7_digest_123 : decode cX7_digest 123 = .ok (.iinc 3 1, 3) := by decide +kernel
theorem dX7_digest_126 : decode cX7_digest 126 = .ok (.goto (-43), 3) := by decide +kernel
theorem dX7_digest_129 : decode cX7_digest 129 = .ok (.iconst 0, 1) := by decide +kernel
theorem dX7_digest_130 : decode cX7_digest 130 = .ok (.istore_n 3, 1) := by decide +kernel
theorem dX7_digest_131 : decode cX7_digest 131 = .ok (.iload_n 3, 1) := by decide +kernel
theorem dX7_digest_132 : decode cX7_digest 132 = .ok (.iconst 4, 1) := by decide +kernel
theorem dX7_digest_133 : decode cX7_digest 133 = .ok (.if_icmp .ge 33, 3) := by decide +kernel
theorem dX7_digest_136 : decode cX7_digest 136 = .ok (.ldc2_w 194, 3) := by decide +kernel
theorem dX7_digest_139 : decode cX7_digest 139 = .ok (.ldc2_w 194, 3) := by decide +kernel
theorem dX7_digest_142 : decode cX7_digest 142 = .ok (.lload_n 1, 1) := by decide +kernel
theorem dX7_digest_143 : decode cX7_digest 143 = .ok (.lmul, 1) := by decide +kernel
theorem dX7_digest_144 : decode cX7_digest 144 = .ok (.aload_n 0, 1) := by decide +kernel
theorem dX7_digest_145 : decode cX7_digest 145 = .ok (.iload_n 3, 1) := by decide +kernel
theorem dX7_digest_146 : decode cX7_digest 146 = .ok (.invokevirtual 112, 3) := by decide +kernel
theorem dX7_digest_149 : decode cX7_digest 149 = .ok (.i2l, 1) := by decide +kernel
theorem dX7_digest_150 : decode cX7_digest 150 = .ok (.ladd, 1) := by decide +kernel
theorem dX7_digest_151 : decode cX7_digest 151 = .ok (.lmul, 1) := by decide +kernel
theorem dX7_digest_152 : decode cX7_digest 152 = .ok (.aload_n 0, 1) := by decide +kernel
theorem dX7_digest_153 : decode cX7_digest 153 = .ok (.iload_n 3, 1) := by decide +kernel
theorem dX7_digest_154 : decode cX7_digest 154 = .ok (.invokevirtual 185, 3) := by decide +kernel
theorem dX7_digest_157 : decode cX7_digest 157 = .ok (.i2l, 1) := by decide +kernel
theorem dX7_digest_158 : decode cX7_digest 158 = .ok (.ladd, 1) := by decide +kernel
theorem dX7_digest_159 : decode cX7_digest 159 = .ok (.lstore_n 1, 1) := by decide +kernel
theorem dX7_digest_160 : decode cX7_digest 160 = .ok (.iinc 3 1, 3) := by decide +kernel
theorem dX7_digest_163 : decode cX7_digest 163 = .ok (.goto (-32), 3) := by decide +kernel
theorem dX7_digest_166 : decode cX7_digest 166 = .ok (.ldc2_w 194, 3) := by decide +kernel
theorem dX7_digest_169 : decode cX7_digest 169 = .ok (.ldc2_w 194, 3) := by decide +kernel
theorem dX7_digest_172 : decode cX7_digest 172 = .ok (.ldc2_w 194, 3) := by decide +kernel
theorem dX7_digest_175 : decode cX7_digest 175 = .ok (.lload_n 1, 1) := by decide +kernel
theorem dX7_digest_176 : decode cX7_digest 176 = .ok (.lmul, 1) := by decide +kernel
theorem dX7_digest_177 : decode cX7_digest 177 = .ok (.aload_n 0, 1) := by decide +kernel
theorem dX7_digest_178 : decode cX7_digest 178 = .ok (.iconst 0, 1) := by decide +kernel
theorem dX7_digest_179 : decode cX7_digest 179 = .ok (.iconst 1, 1) := by decide +kernel
theorem dX7_digest_180 : decode cX7_digest 180 = .ok (.invokevirtual 176, 3) := by decide +kernel
theorem dX7_digest_183 : decode cX7_digest 183 = .ok (.i2l, 1) := by decide +kernel
theorem dX7_digest_184 : decode cX7_digest 184 = .ok (.ladd, 1) := by decide +kernel
theorem dX7_digest_185 : decode cX7_digest 185 = .ok (.lmul, 1) := by decide +kernel
theorem dX7_digest_186 : decode cX7_digest 186 = .ok (.aload_n 0, 1) := by decide +kernel
theorem dX7_digest_187 : decode cX7_digest 187 = .ok (.iconst 5, 1) := by decide +kernel
theorem dX7_digest_188 : decode cX7_digest 188 = .ok (.bipush 6, 2) := by decide +kernel
theorem dX7_digest_190 : decode cX7_digest 190 = .ok (.invokevirtual 176, 3) := by decide +kernel
theorem dX7_digest_193 : decode cX7_digest 193 = .ok (.i2l, 1) := by decide +kernel
theorem dX7_digest_194 : decode cX7_digest 194 = .ok (.ladd, 1) := by decide +kernel
theorem dX7_digest_195 : decode cX7_digest 195 = .ok (.lmul, 1) := by decide +kernel
theorem dX7_digest_196 : decode cX7_digest 196 = .ok (.aload_n 0, 1) := by decide +kernel
theorem dX7_digest_197 : decode cX7_digest 197 = .ok (.bipush 8, 2) := by decide +kernel
theorem dX7_digest_199 : decode cX7_digest 199 = .ok (.bipush 11, 2) := by decide +kernel
theorem dX7_digest_201 : decode cX7_digest 201 = .ok (.invokevirtual 176, 3) := by decide +kernel
theorem dX7_digest_204 : decode cX7_digest 204 = .ok (.i2l, 1) := by decide +kernel
theorem dX7_digest_205 : decode cX7_digest 205 = .ok (.ladd, 1) := by decide +kernel
theorem dX7_digest_206 : decode cX7_digest 206 = .ok (.lstore_n 1, 1) := by decide +kernel
theorem dX7_digest_207 : decode cX7_digest 207 = .ok (.ldc2_w 194, 3) := by decide +kernel
theorem dX7_digest_210 : decode cX7_digest 210 = .ok (.ldc2_w 194, 3) := by decide +kernel
theorem dX7_digest_213 : decode cX7_digest 213 = .ok (.lload_n 1, 1) := by decide +kernel
theorem dX7_digest_214 : decode cX7_digest 214 = .ok (.lmul, 1) := by decide +kernel
theorem dX7_digest_215 : decode cX7_digest 215 = .ok (.aload_n 0, 1) := by decide +kernel
theorem dX7_digest_216 : decode cX7_digest 216 = .ok (.invokevirtual 179, 3) := by decide +kernel
theorem dX7_digest_219 : decode cX7_digest 219 = .ok (.i2l, 1) := by decide +kernel
theorem dX7_digest_220 : decode cX7_digest 220 = .ok (.ladd, 1) := by decide +kernel
theorem dX7_digest_221 : decode cX7_digest 221 = .ok (.lmul, 1) := by decide +kernel
theorem dX7_digest_222 : decode cX7_digest 222 = .ok (.aload_n 0, 1) := by decide +kernel
theorem dX7_digest_223 : decode cX7_digest 223 = .ok (.invokevirtual 182, 3) := by decide +kernel
theorem dX7_digest_226 : decode cX7_digest 226 = .ok (.i2l, 1) := by decide +kernel
theorem dX7_digest_227 : decode cX7_digest 227 = .ok (.ladd, 1) := by decide +kernel
theorem dX7_digest_228 : decode cX7_digest 228 = .ok (.lstore_n 1, 1) := by decide +kernel
theorem dX7_digest_229 : decode cX7_digest 229 = .ok (.ldc2_w 194, 3) := by decide +kernel
theorem dX7_digest_232 : decode cX7_digest 232 = .ok (.lload_n 1, 1) := by decide +kernel
theorem dX7_digest_233 : decode cX7_digest 233 = .ok (.lmul, 1) := by decide +kernel
theorem dX7_digest_234 : decode cX7_digest 234 = .ok (.aload_n 0, 1) := by decide +kernel
theorem dX7_digest_235 : decode cX7_digest 235 = .ok (.invokevirtual 188, 3) := by decide +kernel
theorem dX7_digest_238 : decode cX7_digest 238 = .ok (.invokestatic 196, 3) := by decide +kernel
theorem dX7_digest_241 : decode cX7_digest 241 = .ok (.ladd, 1) := by decide +kernel
theorem dX7_digest_242 : decode cX7_digest 242 = .ok (.lstore_n 1, 1) := by decide +kernel
theorem dX7_digest_243 : decode cX7_digest 243 = .ok (.ldc2_w 194, 3) := by decide +kernel
theorem dX7_digest_246 : decode cX7_digest 246 = .ok (.ldc2_w 194, 3) := by decide +kernel
theorem dX7_digest_249 : decode cX7_digest 249 = .ok (.lload_n 1, 1) := by decide +kernel
theorem dX7_digest_250 : decode cX7_digest 250 = .ok (.lmul, 1) := by decide +kernel
theorem dX7_digest_251 : decode cX7_digest 251 = .ok (.aload_n 0, 1) := by decide +kernel
theorem dX7_digest_252 : decode cX7_digest 252 = .ok (.getfield 22, 3) := by decide +kernel
theorem dX7_digest_255 : decode cX7_digest 255 = .ok (.iconst 0, 1) := by decide +kernel
theorem dX7_digest_256 : decode cX7_digest 256 = .ok (.baload, 1) := by decide +kernel
theorem dX7_digest_257 : decode cX7_digest 257 = .ok (.ifCond .eq 7, 3) := by decide +kernel
theorem dX7_digest_260 : decode cX7_digest 260 = .ok (.iconst 1, 1) := by decide +kernel
theorem dX7_digest_261 : decode cX7_digest 261 = .ok (.goto 4, 3) := by decide +kernel
theorem dX7_digest_264 : decode cX7_digest 264 = .ok (.iconst 0, 1) := by decide +kernel
theorem dX7_digest_265 : decode cX7_digest 265 = .ok (.i2l, 1) := by decide +kernel
theorem dX7_digest_266 : decode cX7_digest 266 = .ok (.ladd, 1) := by decide +kernel
theorem dX7_digest_267 : decode cX7_digest 267 = .ok (.lmul, 1) := by decide +kernel
theorem dX7_digest_268 : decode cX7_digest 268 = .ok (.aload_n 0, 1) := by decide +kernel
theorem dX7_digest_269 : decode cX7_digest 269 = .ok (.getfield 22, 3) := by decide +kernel
theorem dX7_digest_272 : decode cX7_digest 272 = .ok (.iconst 1, 1) := by decide +kernel
theorem dX7_digest_273 : decode cX7_digest 273 = .ok (.baload, 1) := by decide +kernel
theorem dX7_digest_274 : decode cX7_digest 274 = .ok (.ifCond .eq 7, 3) := by decide +kernel
theorem dX7_digest_277 : decode cX7_digest 277 = .ok (.iconst 1, 1) := by decide +kernel
theorem dX7_digest_278 : decode cX7_digest 278 = .ok (.goto 4, 3) := by decide +kernel
theorem dX7_digest_281 : decode cX7_digest 281 = .ok (.iconst 0, 1) := by decide +kernel
theorem dX7_digest_282 : decode cX7_digest 282 = .ok (.i2l, 1) := by decide +kernel
theorem dX7_digest_283 : decode cX7_digest 283 = .ok (.ladd, 1) := by decide +kernel
theorem dX7_digest_284 : decode cX7_digest 284 = .ok (.lstore_n 1, 1) := by decide +kernel
theorem dX7_digest_285 : decode cX7_digest 285 = .ok (.ldc2_w 194, 3) := by decide +kernel
theorem dX7_digest_288 : decode cX7_digest 288 = .ok (.lload_n 1, 1) := by decide +kernel
theorem dX7_digest_289 : decode cX7_digest 289 = .ok (.lmul, 1) := by decide +kernel
theorem dX7_digest_290 : decode cX7_digest 290 = .ok (.aload_n 0, 1) := by decide +kernel
theorem dX7_digest_291 : decode cX7_digest 291 = .ok (.getfield 136, 3) := by decide +kernel
theorem dX7_digest_294 : decode cX7_digest 294 = .ok (.i2l, 1) := by decide +kernel
theorem dX7_digest_295 : decode cX7_digest 295 = .ok (.ladd, 1) := by decide +kernel
theorem dX7_digest_296 : decode cX7_digest 296 = .ok (.lstore_n 1, 1) := by decide +kernel
theorem dX7_digest_297 : decode cX7_digest 297 = .ok (.iconst 0, 1) := by decide +kernel
theorem dX7_digest_298 : decode cX7_digest 298 = .ok (.istore_n 3, 1) := by decide +kernel
theorem dX7_digest_299 : decode cX7_digest 299 = .ok (.iload_n 3, 1) := by decide +kernel
theorem dX7_digest_300 : decode cX7_digest 300 = .ok (.aload_n 0, 1) := by decide +kernel
theorem dX7_digest_301 : decode cX7_digest 301 = .ok (.getfield 136, 3) := by decide +kernel
theorem dX7_digest_304 : decode cX7_digest 304 = .ok (.if_icmp .ge 23, 3) := by decide +kernel
theorem dX7_digest_307 : decode cX7_digest 307 = .ok (.ldc2_w 194, 3) := by decide +kernel
theorem dX7_digest_310 : decode cX7_digest 310 = .ok (.lload_n 1, 1) := by decide +kernel
theorem dX7_digest_311 : decode cX7_digest 311 = .ok (.lmul, 1) := by decide +kernel
theorem dX7_digest_312 : decode cX7_digest 312 = .ok (.aload_n 0, 1) := by decide +kernel
theorem dX7_digest_313 : decode cX7_digest 313 = .ok (.getfield 26, 3) := by decide +kernel
theorem dX7_digest_316 : decode cX7_digest 316 = .ok (.iload_n 3, 1) := by decide +kernel
theorem dX7_digest_317 : decode cX7_digest 317 = .ok (.iaload, 1) := by decide +kernel
theorem dX7_digest_318 : decode cX7_digest 318 = .ok (.i2l, 1) := by decide +kernel
theorem dX7_digest_319 : decode cX7_digest 319 = .ok (.ladd, 1) := by decide +kernel
theorem dX7_digest_320 : decode cX7_digest 320 = .ok (.lstore_n 1, 1) := by decide +kernel
theorem dX7_digest_321 : decode cX7_digest 321 = .ok (.iinc 3 1, 3) := by decide +kernel
theorem dX7_digest_324 : decode cX7_digest 324 = .ok (.goto (-25), 3) := by decide +kernel
theorem dX7_digest_327 : decode cX7_digest 327 = .ok (.lload_n 1, 1) := by decide +kernel
theorem dX7_digest_328 : decode cX7_digest 328 = .ok (.lreturn, 1) := by decide +kernel
