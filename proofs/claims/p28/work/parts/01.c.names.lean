theorem dX2_addCost_27 : decode cX2_addCost 27 = .ok (.invokevirtual 99, 3) := by decide +kernel
theorem dX2_addCost_30 : decode cX2_addCost 30 = .ok (.ifCond .ne 4, 3) := by decide +kernel
theorem dX2_addCost_33 : decode cX2_addCost 33 = .ok (.return_, 1) := by decide +kernel
theorem dX2_addCost_34 : decode cX2_addCost 34 = .ok (.aload_n 1, 1) := by decide +kernel
theorem dX2_addCost_35 : decode cX2_addCost 35 = .ok (.iload 4, 2) := by decide +kernel
theorem dX2_addCost_37 : decode cX2_addCost 37 = .ok (.invokevirtual 64, 3) := by decide +kernel
theorem dX2_addCost_40 : decode cX2_addCost 40 = .ok (.istore 7, 2) := by decide +kernel
theorem dX2_addCost_42 : decode cX2_addCost 42 = .ok (.aload_n 1, 1) := by decide +kernel
theorem dX2_addCost_43 : decode cX2_addCost 43 = .ok (.iload 4, 2) := by decide +kernel
theorem dX2_addCost_45 : decode cX2_addCost 45 = .ok (.invokevirtual 53, 3) := by decide +kernel
theorem dX2_addCost_48 : decode cX2_addCost 48 = .ok (.istore 8, 2) := by decide +kernel
theorem dX2_addCost_50 : decode cX2_addCost 50 = .ok (.aload_n 1, 1) := by decide +kernel
theorem dX2_addCost_51 : decode cX2_addCost 51 = .ok (.iload_n 3, 1) := by decide +kernel
theorem dX2_addCost_52 : decode cX2_addCost 52 = .ok (.invokevirtual 103, 3) := by decide +kernel
theorem dX2_addCost_55 : decode cX2_addCost 55 = .ok (.aload_n 1, 1) := by decide +kernel
theorem dX2_addCost_56 : decode cX2_addCost 56 = .ok (.iload 4, 2) := by decide +kernel
theorem dX2_addCost_58 : decode cX2_addCost 58 = .ok (.invokevirtual 103, 3) := by decide +kernel
theorem dX2_addCost_61 : decode cX2_addCost 61 = .ok (.invokestatic 106, 3) := by decide +kernel
theorem dX2_addCost_64 : decode cX2_addCost 64 = .ok (.istore 9, 2) := by decide +kernel
theorem dX2_addCost_66 : decode cX2_addCost 66 = .ok (.iload 5, 2) := by decide +kernel
theorem dX2_addCost_68 : decode cX2_addCost 68 = .ok (.invokestatic 96, 3) := by decide +kernel
theorem dX2_addCost_71 : decode cX2_addCost 71 = .ok (.iload_n 2, 1) := by decide +kernel
theorem dX2_addCost_72 : decode cX2_addCost 72 = .ok (.if_icmp .ne 36, 3) := by decide +kernel
theorem dX2_addCost_75 : decode cX2_addCost 75 = .ok (.aload_n 1, 1) := by decide +kernel
theorem dX2_addCost_76 : decode cX2_addCost 76 = .ok (.iload 6, 2) := by decide +kernel
theorem dX2_addCost_78 : decode cX2_addCost 78 = .ok (.invokevirtual 67, 3) := by decide +kernel
theorem dX2_addCost_81 : decode cX2_addCost 81 = .ok (.aload_n 1, 1) := by decide +kernel
theorem dX2_addCost_82 : decode cX2_addCost 82 = .ok (.iload 8, 2) := by decide +kernel
theorem dX2_addCost_84 : decode cX2_addCost 84 = .ok (.invokevirtual 67, 3) := by decide +kernel
theorem dX2_addCost_87 : decode cX2_addCost 87 = .ok (.if_icmp .le 21, 3) := by decide +kernel
theorem dX2_addCost_90 : decode cX2_addCost 90 = .ok (.aload_n 0, 1) := by decide +kernel
theorem dX2_addCost_91 : decode cX2_addCost 91 = .ok (.iload 5, 2) := by decide +kernel
theorem dX2_addCost_93 : decode cX2_addCost 93 = .ok (.iload_n 2, 1) := by decide +kernel
theorem dX2_addCost_94 : decode cX2_addCost 94 = .ok (.iconst 4, 1) := by decide +kernel
theorem dX2_addCost_95 : decode cX2_addCost 95 = .ok (.imul, 1) := by decide +kernel
theorem dX2_addCost_96 : decode cX2_addCost 96 = .ok (.isub, 1) := by decide +kernel
theorem dX2_addCost_97 : decode cX2_addCost 97 = .ok (.iload 7, 2) := by decide +kernel
theorem dX2_addCost_99 : decode cX2_addCost 99 = .ok (.iload_n 2, 1) := by decide +kernel
theorem dX2_addCost_100 : decode cX2_addCost 100 = .ok (.iconst 4, 1) := by decide +kernel
theorem dX2_addCost_101 : decode cX2_addCost 101 = .ok (.imul, 1) := by decide +kernel
theorem dX2_addCost_102 : decode cX2_addCost 102 = .ok (.isub, 1) := by decide +kernel
theorem dX2_addCost_103 : decode cX2_addCost 103 = .ok (.iload 9, 2) := by decide +kernel
theorem dX2_addCost_105 : decode cX2_addCost 105 = .ok (.invokevirtual 111, 3) := by decide +kernel
theorem dX2_addCost_108 : decode cX2_addCost 108 = .ok (.iload 6, 2) := by decide +kernel
theorem dX2_addCost_110 : decode cX2_addCost 110 = .ok (.invokestatic 96, 3) := by decide +kernel
theorem dX2_addCost_113 : decode cX2_addCost 113 = .ok (.iload_n 2, 1) := by decide +kernel
theorem dX2_addCost_114 : decode cX2_addCost 114 = .ok (.if_icmp .ne 36, 3) := by decide +kernel
theorem dX2_addCost_117 : decode cX2_addCost 117 = .ok (.aload_n 1, 1) := by decide +kernel
theorem dX2_addCost_118 : decode cX2_addCost 118 = .ok (.iload 5, 2) := by decide +kernel
theorem dX2_addCost_120 : decode cX2_addCost 120 = .ok (.invokevirtual 67, 3) := by decide +kernel
theorem dX2_addCost_123 : decode cX2_addCost 123 = .ok (.aload_n 1, 1) := by decide +kernel
theorem dX2_addCost_124 : decode cX2_addCost 124 = .ok (.iload 7, 2) := by decide +kernel
theorem dX2_addCost_126 : decode cX2_addCost 126 = .ok (.invokevirtual 67, 3) := by decide +kernel
theorem dX2_addCost_129 : decode cX2_addCost 129 = .ok (.if_icmp .le 21, 3) := by decide +kernel
theorem dX2_addCost_132 : decode cX2_addCost 132 = .ok (.aload_n 0, 1) := by decide +kernel
theorem dX2_addCost_133 : decode cX2_addCost 133 = .ok (.iload 6, 2) := by decide +kernel
theorem dX2_addCost_135 : decode cX2_addCost 135 = .ok (.iload_n 2, 1) := by decide +kernel
theorem dX2_addCost_136 : decode cX2_addCost 136 = .ok (.iconst 4, 1) := by decide +kernel
theorem dX2_addCost_137 : decode cX2_addCost 137 = .ok (.imul, 1) := by decide +kernel
theorem dX2_addCost_138 : decode cX2_addCost 138 = .ok (.isub, 1) := by decide +kernel
theorem dX2_addCost_139 : decode cX2_addCost 139 = .ok (.iload 8, 2) := by decide +kernel
theorem dX2_addCost_141 : decode cX2_addCost 141 = .ok (.iload_n 2, 1) := by decide +kernel
theorem dX2_addCost_142 : decode cX2_addCost 142 = .ok (.iconst 4, 1) := by decide +kernel
theorem dX2_addCost_143 : decode cX2_addCost 143 = .ok (.imul, 1) := by decide +kernel
theorem dX2_addCost_144 : decode cX2_addCost 144 = .ok (.isub, 1) := by decide +kernel
theorem dX2_addCost_145 : decode cX2_addCost 145 = .ok (.iload 9, 2) := by decide +kernel
theorem dX2_addCost_147 : decode cX2_addCost 147 = .ok (.invokevirtual 111, 3) := by decide +kernel
theorem dX2_addCost_150 : decode cX2_addCost 150 = .ok (.return_, 1) := by decide +kernel
set_option maxRecDepth 20000 in
theorem ggX2_addTo_X2_isNumber : GoodIn wsX2_addTo wsX2_isNumber := goodIn_r _ [5] (by decide +kernel) (by decide +kernel)
set_option maxRecDepth 20000 in
theorem gX2_addTo_X2_isNumber : GoodIn wsX2_addTo (va_wsS RX2 57 yX2_isNumber wsX2_isNumber) := goodIn_app (goodIn_of _ (by decide +kernel)) ggX2_addTo_X2_isNumber
theorem dX2_addTo_0 : decode cX2_addTo 0 = .ok (.iload_n 1, 1) := by decide +kernel
theorem dX2_addTo_1 : decode cX2_addTo 1 = .ok (.invokestatic 57, 3) := by decide +kernel
theorem dX2_addTo_4 : decode cX2_addTo 4 = .ok (.ifCond .eq 24, 3) := by decide +kernel
theorem dX2_addTo_7 : decode cX2_addTo 7 = .ok (.iload_n 2, 1) := by decide +kernel
theorem dX2_addTo_8 : decode cX2_addTo 8 = .ok (.invokestatic 57, 3) := by decide +kernel
theorem dX2_addTo_11 : decode cX2_addTo 11 = .ok (.ifCond .eq 17, 3) := by decide +kernel
theorem dX2_addTo_14 : decode cX2_addTo 14 = .ok (.aload_n 0, 1) := by decide +kernel
theorem dX2_addTo_15 : decode cX2_addTo 15 = .ok (.getfield 24, 3) := by decide +kernel
theorem dX2_addTo_18 : decode cX2_addTo 18 = .ok (.iload_n 1, 1) := by decide +kernel
theorem dX2_addTo_19 : decode cX2_addTo 19 = .ok (.iconst 4, 1) := by decide +kernel
theorem dX2_addTo_20 : decode cX2_addTo 20 = .ok (.imul, 1) := by decide +kernel
theorem dX2_addTo_21 : decode cX2_addTo 21 = .ok (.iload_n 2, 1) := by decide +kernel
theorem dX2_addTo_22 : decode cX2_addTo 22 = .ok (.iadd, 1) := by decide +kernel
theorem dX2_addTo_23 : decode cX2_addTo 23 = .ok (.dup2, 1) := by decide +kernel
theorem dX2_addTo_24 : decode cX2_addTo 24 = .ok (.iaload, 1) := by decide +kernel
theorem dX2_addTo_25 : decode cX2_addTo 25 = .ok (.iload_n 3, 1) := by decide +kernel
theorem dX2_addTo_26 : decode cX2_addTo 26 = .ok (.iadd, 1) := by decide +kernel
theorem dX2_addTo_27 : decode cX2_addTo 27 = .ok (.iastore, 1) := by decide +kernel
theorem dX2_addTo_28 : decode cX2_addTo 28 = .ok (.return_, 1) := by decide +kernel
theorem dX2_tellBest_0 : decode cX2_tellBest 0 = .ok (.iconst 0, 1) := by decide +kernel
theorem dX2_tellBest_1 : decode cX2_tellBest 1 = .ok (.istore_n 1, 1) := by decide +kernel
theorem dX2_tellBest_2 : decode cX2_tellBest 2 = .ok (.iconst 0, 1) := by decide +kernel
theorem dX2_tellBest_3 : decode cX2_tellBest 3 = .ok (.istore_n 2, 1) := by decide +kernel
theorem dX2_tellBest_4 : decode cX2_tellBest 4 = .ok (.iload_n 2, 1) := by decide +kernel
theorem dX2_tellBest_5 : decode cX2_tellBest 5 = .ok (.iconst 4, 1) := by decide +kernel
theorem dX2_tellBest_6 : decode cX2_tellBest 6 = .ok (.if_icmp .ge 21, 3) := by decide +kernel
theorem dX2_tellBest_9 : decode cX2_tellBest 9 = .ok (.iload_n 1, 1) := by decide +kernel
theorem dX2_tellBest_10 : decode cX2_tellBest 10 = .ok (.bipush 10, 2) := by decide +kernel
theorem dX2_tellBest_12 : decode cX2_tellBest 12 = .ok (.imul, 1) := by decide +kernel
theorem dX2_tellBest_13 : decode cX2_tellBest 13 = .ok (.aload_n 0, 1) := by decide +kernel
theorem dX2_tellBest_14 : decode cX2_tellBest 14 = .ok (.getfield 21, 3) := by decide +kernel
theorem dX2_tellBest_17 : decode cX2_tellBest 17 = .ok (.iload_n 2, 1) := by decide +kernel
theorem dX2_tellBest_18 : decode cX2_tellBest 18 = .ok (.iaload, 1) := by decide +kernel
theorem dX2_tellBest_19 : decode cX2_tellBest 19 = .ok (.iadd, 1) := by decide +kernel
theorem dX2_tellBest_20 : decode cX2_tellBest 20 = .ok (.istore_n 1, 1) := by decide +kernel
theorem dX2_tellBest_21 : decode cX2_tellBest 21 = .ok (.iinc 2 1, 3) := by decide +kernel
theorem dX2_tellBest_24 : decode cX2_tellBest 24 = .ok (.goto (-20), 3) := by decide +kernel
theorem dX2_tellBest_27 : decode cX2_tellBest 27 = .ok (.iload_n 1, 1) := by decide +kernel
theorem dX2_tellBest_28 : decode cX2_tellBest 28 = .ok (.ireturn, 1) := by decide +kernel
set_option maxRecDepth 20000 in
theorem ggX2_putBest_X1_setPlace : GoodIn wsX2_putBest wsX1_setPlace := goodIn_r _ [6, 7, 8, 9, 10, 16, 17, 18, 19, 20, 21] (by decide +kernel) (by decide +kernel)
set_option maxRecDepth 20000 in
theorem gX2_putBest_X1_setPlace : GoodIn wsX2_putBest (wsV RX2 37 RX1 yX1_setPlace wsX1_setPlace) := goodIn_app (goodIn_of _ (by decide +kernel)) ggX2_putBest_X1_setPlace
theorem dX2_putBest_0 : decode cX2_putBest 0 = .ok (.iconst 0, 1) := by decide +kernel
theorem dX2_putBest_1 : decode cX2_putBest 1 = .ok (.istore_n 3, 1) := by decide +kernel
theorem dX2_putBest_2 : decode cX2_putBest 2 = .ok (.iload_n 3, 1) := by decide +kernel
theorem dX2_putBest_3 : decode cX2_putBest 3 = .ok (.iconst 4, 1) := by decide +kernel
theorem dX2_putBest_4 : decode cX2_putBest 4 = .ok (.if_icmp .ge 24, 3) := by decide +kernel
theorem dX2_putBest_7 : decode cX2_putBest 7 = .ok (.aload_n 1, 1) := by decide +kernel
theorem dX2_putBest_8 : decode cX2_putBest 8 = .ok (.iload_n 2, 1) := by decide +kernel
theorem dX2_putBest_9 : decode cX2_putBest 9 = .ok (.iconst 4, 1) := by decide +kernel
theorem dX2_putBest_10 : decode cX2_putBest 10 = .ok (.imul, 1) := by decide +kernel
theorem dX2_putBest_11 : decode cX2_putBest 11 = .ok (.aload_n 0, 1) := by decide +kernel
theorem dX2_putBest_12 : decode cX2_putBest 12 = .ok (.getfield 21, 3) := by decide +kernel
theorem dX2_putBest_15 : decode cX2_putBest 15 = .ok (.iload_n 3, 1) := by decide +kernel
theorem dX2_putBest_16 : decode cX2_putBest 16 = .ok (.iaload, 1) := by decide +kernel
theorem dX2_putBest_17 : decode cX2_putBest 17 = .ok (.iadd, 1) := by decide +kernel
theorem dX2_putBest_18 : decode cX2_putBest 18 = .ok (.iload_n 3, 1) := by decide +kernel
theorem dX2_putBest_19 : decode cX2_putBest 19 = .ok (.invokevirtual 37, 3) := by decide +kernel
theorem dX2_putBest_22 : decode cX2_putBest 22 = .ok (.iinc 3 1, 3) := by decide +kernel
theorem dX2_putBest_25 : decode cX2_putBest 25 = .ok (.goto (-23), 3) := by decide +kernel
theorem dX2_putBest_28 : decode cX2_putBest 28 = .ok (.return_, 1) := by decide +kernel
theorem dX3_init_0 : decode cX3_init 0 = .ok (.aload_n 0, 1) := by decide +kernel
theorem dX3_init_1 : decode cX3_init 1 = .ok (.invokespecial 3, 3) := by decide +kernel
theorem dX3_init_4 : decode cX3_init 4 = .ok (.aload_n 0, 1) := by decide +kernel
theorem dX3_init_5 : decode cX3_init 5 = .ok (.bipush 6, 2) := by decide +kernel
theorem dX3_init_7 : decode cX3_init 7 = .ok (.anewarray 9, 3) := by decide +kernel
theorem dX3_init_10 : decode cX3_init 10 = .ok (.putfield 11, 3) := by decide +kernel
theorem dX3_init_13 : decode cX3_init 13 = .ok (.return_, 1) := by decide +kernel
set_option maxRecDepth 20000 in
theorem ggX3_save_X1_init : GoodIn wsX3_save wsX1_init := goodIn_r _ [9, 10, 11, 12, 13, 14, 15, 16, 17, 31, 32, 33, 34, 35, 36] (by decide +kernel) (by decide +kernel)
set_option maxRecDepth 20000 in
theorem gX3_save_X1_init : GoodIn wsX3_save (wsX1_init) := ggX3_save_X1_init
set_option maxRecDepth 20000 in
theorem ggX3_save_X1_copyFrom : GoodIn wsX3_save wsX1_copyFrom := goodIn_r _ [21, 14, 22, 23, 24, 25, 15, 16, 17, 26, 27, 31, 32, 33, 34, 35, 36] (by decide +kernel) (by decide +kernel)
set_option maxRecDepth 20000 in
theorem gX3_save_X1_copyFrom : GoodIn wsX3_save (wsV RX3 25 RX1 yX1_copyFrom wsX1_copyFrom) := goodIn_app (goodIn_of _ (by decide +kernel)) ggX3_save_X1_copyFrom
theorem dX3_save_0 : decode cX3_save 0 = .ok (.aload_n 0, 1) := by decide +kernel
theorem dX3_save_1 : decode cX3_save 1 = .ok (.getfield 17, 3) := by decide +kernel
theorem dX3_save_4 : decode cX3_save 4 = .ok (.aload_n 0, 1) := by decide +kernel
theorem dX3_save_5 : decode cX3_save 5 = .ok (.getfield 21, 3) := by decide +kernel
theorem dX3_save_8 : decode cX3_save 8 = .ok (.iadd, 1) := by decide +kernel
theorem dX3_save_9 : decode cX3_save 9 = .ok (.bipush 6, 2) := by decide +kernel
theorem dX3_save_11 : decode cX3_save 11 = .ok (.irem, 1) := by decide +kernel
theorem dX3_save_12 : decode cX3_save 12 = .ok (.istore_n 2, 1) := by decide +kernel
theorem dX3_save_13 : decode cX3_save 13 = .ok (.iload_n 2, 1) := by decide +kernel
theorem dX3_save_14 : decode cX3_save 14 = .ok (.ifCond .lt 9, 3) := by decide +kernel
theorem dX3_save_17 : decode cX3_save 17 = .ok (.iload_n 2, 1) := by decide +kernel
theorem dX3_save_18 : decode cX3_save 18 = .ok (.bipush 6, 2) := by decide +kernel
theorem dX3_save_20 : decode cX3_save 20 = .ok (.if_icmp .lt 4, 3) := by decide +kernel
theorem dX3_save_23 : decode cX3_save 23 = .ok (.return_, 1) := by decide +kernel
theorem dX3_save_24 : decode cX3_save 24 = .ok (.aload_n 0, 1) := by decide +kernel
theorem dX3_save_25 : decode cX3_save 25 = .ok (.getfield 11, 3) := by decide +kernel
theorem dX3_save_28 : decode cX3_save 28 = .ok (.iload_n 2, 1) := by decide +kernel
theorem dX3_save_29 : decode cX3_save 29 = .ok (.aaload, 1) := by decide +kernel
theorem dX3_save_30 : decode cX3_save 30 = .ok (.astore_n 3, 1) := by decide +kernel
theorem dX3_save_31 : decode cX3_save 31 = .ok (.aload_n 3, 1) := by decide +kernel
theorem dX3_save_32 : decode cX3_save 32 = .ok (.ifnonnull 18, 3) := by decide +kernel
theorem dX3_save_35 : decode cX3_save 35 = .ok (.new 9, 3) := by decide +kernel
theorem dX3_save_38 : decode cX3_save 38 = .ok (.dup, 1) := by decide +kernel
theorem dX3_save_39 : decode cX3_save 39 = .ok (.invokespecial 24, 3) := by decide +kernel
theorem dX3_save_42 : decode cX3_save 42 = .ok (.astore_n 3, 1) := by decide +kernel
theorem dX3_save_43 : decode cX3_save 43 = .ok (.aload_n 0, 1) := by decide +kernel
theorem dX3_save_44 : decode cX3_save 44 = .ok (.getfield 11, 3) := by decide +kernel
theorem dX3_save_47 : decode cX3_save 47 = .ok (.iload_n 2, 1) := by decide +kernel
theorem dX3_save_48 : decode cX3_save 48 = .ok (.aload_n 3, 1) := by decide +kernel
theorem dX3_save_49 : decode cX3_save 49 = .ok (.aastore, 1) := by decide +kernel
theorem dX3_save_50 : decode cX3_save 50 = .ok (.aload_n 3, 1) := by decide +kernel
theorem dX3_save_51 : decode cX3_save 51 = .ok (.aload_n 1, 1) := by decide +kernel
theorem dX3_save_52 : decode cX3_save 52 = .ok (.invokevirtual 25, 3) := by decide +kernel
theorem dX3_save_55 : decode cX3_save 55 = .ok (.aload_n 0, 1) := by decide +kernel
theorem dX3_save_56 : decode cX3_save 56 = .ok (.getfield 21, 3) := by decide +kernel
theorem dX3_save_59 : decode cX3_save 59 = .ok (.bipush 6, 2) := by decide +kernel
theorem dX3_save_61 : decode cX3_save 61 = .ok (.if_icmp .ge 16, 3) := by decide +kernel
theorem dX3_save_64 : decode cX3_save 64 = .ok (.aload_n 0, 1) := by decide +kernel
theorem dX3_save_65 : decode cX3_save 65 = .ok (.dup, 1) := by decide +kernel
theorem dX3_save_66 : decode cX3_save 66 = .ok (.getfield 21, 3) := by decide +kernel
theorem dX3_save_69 : decode cX3_save 69 = .ok (.iconst 1, 1) := by decide +kernel
theorem dX3_save_70 : decode cX3_save 70 = .ok (.iadd, 1) := by decide +kernel
theorem dX3_save_71 : decode cX3_save 71 = .ok (.putfield 21, 3) := by decide +kernel
theorem dX3_save_74 : decode cX3_save 74 = .ok (.goto 16, 3) := by decide +kernel
theorem dX3_save_77 : decode cX3_save 77 = .ok (.aload_n 0, 1) := by decide +kernel
theorem dX3_save_78 : decode cX3_save 78 = .ok (.aload_n 0, 1) := by decide +kernel
theorem dX3_save_79 : decode cX3_save 79 = .ok (.getfield 17, 3) := by decide +kernel
theorem dX3_save_82 : decode cX3_save 82 = .ok (.iconst 1, 1) := by decide +kernel
theorem dX3_save_83 : decode cX3_save 83 = .ok (.iadd, 1) := by decide +kernel
theorem dX3_save_84 : decode cX3_save 84 = .ok (.bipush 6, 2) := by decide +kernel
theorem dX3_save_86 : decode cX3_save 86 = .ok (.irem, 1) := by decide +kernel
theorem dX3_save_87 : decode cX3_save 87 = .ok (.putfield 17, 3) := by decide +kernel
theorem dX3_save_90 : decode cX3_save 90 = .ok (.return_, 1) := by decide +kernel
set_option maxRecDepth 20000 in
theorem ggX3_restore_X1_copyFrom : GoodIn wsX3_restore wsX1_copyFrom := goodIn_r _ [8, 9, 10, 11, 12, 13, 14, 15, 16, 17, 18, 22, 23, 24, 25, 26, 27] (by decide +kernel) (by decide +kernel)
set_option maxRecDepth 20000 in
theorem gX3_restore_X1_copyFrom : GoodIn wsX3_restore (wsV RX3 25 RX1 yX1_copyFrom wsX1_copyFrom) := goodIn_app (goodIn_of _ (by decide +kernel)) ggX3_restore_X1_copyFrom
theorem dX3_restore_0 : decode cX3_restore 0 = .ok (.aload_n 0, 1) := by decide +kernel
theorem dX3_restore_1 : decode cX3_restore 1 = .ok (.getfield 21, 3) := by decide +kernel
theorem dX3_restore_4 : decode cX3_restore 4 = .ok (.ifCond .le 7, 3) := by decide +kernel
theorem dX3_restore_7 : decode cX3_restore 7 = .ok (.aload_n 1, 1) := by decide +kernel
theorem dX3_restore_8 : decode cX3_restore 8 = .ok (.ifnonnull 4, 3) := by decide +kernel
theorem dX3_restore_11 : decode cX3_restore 11 = .ok (.return_, 1) := by decide +kernel
theorem dX3_restore_12 : decode cX3_restore 12 = .ok (.aload_n 0, 1) := by decide +kernel
theorem dX3_restore_13 : decode cX3_restore 13 = .ok (.dup, 1) := by decide +kernel
theorem dX3_restore_14 : decode cX3_restore 14 = .ok (.getfield 21, 3) := by decide +kernel
theorem dX3_restore_17 : decode cX3_restore 17 = .ok (.iconst 1, 1) := by decide +kernel
theorem dX3_restore_18 : decode cX3_restore 18 = .ok (.isub, 1) := by decide +kernel
theorem dX3_restore_19 : decode cX3_restore 19 = .ok (.putfield 21, 3) := by decide +kernel
theorem dX3_restore_22 : decode cX3_restore 22 = .ok (.aload_n 0, 1) := by decide +kernel
theorem dX3_restore_23 : decode cX3_restore 23 = .ok (.getfield 17, 3) := by decide +kernel
theorem dX3_restore_26 : decode cX3_restore 26 = .ok (.aload_n 0, 1) := by decide +kernel
theorem dX3_restore_27 : decode cX3_restore 27 = .ok (.getfield 21, 3) := by decide +kernel
theorem dX3_restore_30 : decode cX3_restore 30 = .ok (.iadd, 1) := by decide +kernel
theorem dX3_restore_31 : decode cX3_restore 31 = .ok (.bipush 6, 2) := by decide +kernel
theorem dX3_restore_33 : decode cX3_restore 33 = .ok (.irem, 1) := by decide +kernel
theorem dX3_restore_34 : decode cX3_restore 34 = .ok (.istore_n 2, 1) := by decide +kernel
theorem dX3_restore_35 : decode cX3_restore 35 = .ok (.iload_n 2, 1) := by decide +kernel
theorem dX3_restore_36 : decode cX3_restore 36 = .ok (.ifCond .lt 19, 3) := by decide +kernel
theorem dX3_restore_39 : decode cX3_restore 39 = .ok (.iload_n 2, 1) := by decide +kernel
theorem dX3_restore_40 : decode cX3_restore 40 = .ok (.bipush 6, 2) := by decide +kernel
theorem dX3_restore_42 : decode cX3_restore 42 = .ok (.if_icmp .ge 13, 3) := by decide +kernel
theorem dX3_restore_45 : decode cX3_restore 45 = .ok (.aload_n 1, 1) := by decide +kernel
theorem dX3_restore_46 : decode cX3_restore 46 = .ok (.aload_n 0, 1) := by decide +kernel
theorem dX3_restore_47 : decode cX3_restore 47 = .ok (.getfield 11, 3) := by decide +kernel
theorem dX3_restore_50 : decode cX3_restore 50 = .ok (.iload_n 2, 1) := by decide +kernel
theorem dX3_restore_51 : decode cX3_restore 51 = .ok (.aaload, 1) := by decide +kernel
theorem dX3_restore_52 : decode cX3_restore 52 = .ok (.invokevirtual 25, 3) := by decide +kernel
theorem dX3_restore_55 : decode cX3_restore 55 = .ok (.return_, 1) := by decide +kernel
theorem dX4_init_0 : decode cX4_init 0 = .ok (.aload_n 0, 1) := by decide +kernel
theorem dX4_init_1 : decode cX4_init 1 = .ok (.invokespecial 3, 3) := by decide +kernel
theorem dX4_init_4 : decode cX4_init 4 = .ok (.aload_n 0, 1) := by decide +kernel
theorem dX4_init_5 : decode cX4_init 5 = .ok (.bipush 60, 2) := by decide +kernel
theorem dX4_init_7 : decode cX4_init 7 = .ok (.newarray .int, 2) := by decide +kernel
theorem dX4_init_9 : decode cX4_init 9 = .ok (.putfield 9, 3) := by decide +kernel
theorem dX4_init_12 : decode cX4_init 12 = .ok (.return_, 1) := by decide +kernel
theorem dX5_init_0 : decode cX5_init 0 = .ok (.aload_n 0, 1) := by decide +kernel
theorem dX5_init_1 : decode cX5_init 1 = .ok (.invokespecial 3, 3) := by decide +kernel
theorem dX5_init_4 : decode cX5_init 4 = .ok (.aload_n 0, 1) := by decide +kernel
theorem dX5_init_5 : decode cX5_init 5 = .ok (.bipush 20, 2) := by decide +kernel
theorem dX5_init_7 : decode cX5_init 7 = .ok (.newarray .int, 2) := by decide +kernel
theorem dX5_init_9 : decode cX5_init 9 = .ok (.putfield 9, 3) := by decide +kernel
theorem dX5_init_12 : decode cX5_init 12 = .ok (.aload_n 0, 1) := by decide +kernel
theorem dX5_init_13 : decode cX5_init 13 = .ok (.bipush 16, 2) := by decide +kernel
theorem dX5_init_15 : decode cX5_init 15 = .ok (.newarray .int, 2) := by decide +kernel
theorem dX5_init_17 : decode cX5_init 17 = .ok (.putfield 15, 3) := by decide +kernel
theorem dX5_init_20 : decode cX5_init 20 = .ok (.aload_n 0, 1) := by decide +kernel
theorem dX5_init_21 : decode cX5_init 21 = .ok (.bipush 16, 2) := by decide +kernel
theorem dX5_init_23 : decode cX5_init 23 = .ok (.newarray .int, 2) := by decide +kernel
theorem dX5_init_25 : decode cX5_init 25 = .ok (.putfield 18, 3) := by decide +kernel
theorem dX5_init_28 : decode cX5_init 28 = .ok (.aload_n 0, 1) := by decide +kernel
theorem dX5_init_29 : decode cX5_init 29 = .ok (.bipush 20, 2) := by decide +kernel
theorem dX5_init_31 : decode cX5_init 31 = .ok (.newarray .int, 2) := by decide +kernel
theorem dX5_init_33 : decode cX5_init 33 = .ok (.putfield 21, 3) := by decide +kernel
theorem dX5_init_36 : decode cX5_init 36 = .ok (.aload_n 0, 1) := by decide +kernel
theorem dX5_init_37 : decode cX5_init 37 = .ok (.bipush 20, 2) := by decide +kernel
theorem dX5_init_39 : decode cX5_init 39 = .ok (.newarray .int, 2) := by decide +kernel
theorem dX5_init_41 : decode cX5_init 41 = .ok (.putfield 24, 3) := by decide +kernel
theorem dX5_init_44 : decode cX5_init 44 = .ok (.aload_n 0, 1) := by decide +kernel
theorem dX5_init_45 : decode cX5_init 45 = .ok (.bipush 20, 2) := by decide +kernel
theorem dX5_init_47 : decode cX5_init 47 = .ok (.newarray .int, 2) := by decide +kernel
theorem dX5_init_49 : decode cX5_init 49 = .ok (.putfield 27, 3) := by decide +kernel
theorem dX5_init_52 : decode cX5_init 52 = .ok (.aload_n 0, 1) := by decide +kernel
theorem dX5_init_53 : decode cX5_init 53 = .ok (.bipush 20, 2) := by decide +kernel
theorem dX5_init_55 : decode cX5_init 55 = .ok (.newarray .int, 2) := by decide +kernel
theorem dX5_init_57 : decode cX5_init 57 = .ok (.putfield 30, 3) := by decide +kernel
theorem dX5_init_60 : decode cX5_init 60 = .ok (.return_, 1) := by decide +kernel
set_option maxRecDepth 20000 in
theorem ggX5_mostByWays_J7_fill_53178 : GoodIn wsX5_mostByWays wsJ7_fill_53178 := goodIn_r _ [6] (by decide +kernel) (by decide +kernel)
set_option maxRecDepth 20000 in
theorem gX5_mostByWays_J7_fill_53178 : GoodIn wsX5_mostByWays (va_wsS RX5 33 yJ7_fill_53178 wsJ7_fill_53178) := goodIn_app (goodIn_of _ (by decide +kernel)) ggX5_mostByWays_J7_fill_53178
set_option maxRecDepth 20000 in
theorem ggX5_mostByWays_X5_findWay : GoodIn wsX5_mostByWays wsX5_findWay := goodIn_r _ [11, 12, 13, 3, 4, 5, 6, 14, 15, 16, 10, 17, 18, 19, 20, 21, 22, 23, 24, 25, 26, 27, 28, 29, 30, 31, 32, 1, 33, 34, 35, 36, 37, 38, 39, 40, 41, 42, 43, 44, 66, 67, 68, 69, 70, 71, 72, 73, 74, 75, 76, 77, 78, 79] (by decide +kernel) (by decide +kernel)
set_option maxRecDepth 20000 in
theorem gX5_mostByWays_X5_findWay : GoodIn wsX5_mostByWays (wsV RX5 40 RX5 yX5_findWay wsX5_findWay) := goodIn_app (goodIn_of _ (by decide +kernel)) ggX5_mostByWays_X5_findWay
set_option maxRecDepth 20000 in
theorem ggX5_mostByWays_X5_roomTo : GoodIn wsX5_mostByWays wsX5_roomTo := goodIn_r _ [48, 2, 49, 50, 51, 52, 53, 54, 55, 10, 56, 12, 42, 43, 44, 38, 39, 40, 21, 41, 23, 33, 34, 35, 36, 37, 29, 30, 31, 32, 1, 25, 26, 27, 28, 24, 66, 67, 68, 69, 70, 71, 72, 73, 74, 75, 76, 77, 78, 79] (by decide +kernel) (by decide +kernel)
set_option maxRecDepth 20000 in
theorem gX5_mostByWays_X5_roomTo : GoodIn wsX5_mostByWays (wsV RX5 44 RX5 yX5_roomTo wsX5_roomTo) := goodIn_app (goodIn_of _ (by decide +kernel)) ggX5_mostByWays_X5_roomTo
set_option maxRecDepth 20000 in
theorem ggX5_mostByWays_X5_addAlong : GoodIn wsX5_mostByWays wsX5_addAlong := goodIn_r _ [60, 1, 53, 54, 55, 10, 56, 12, 42, 43, 44, 38, 39, 40, 21, 41, 23, 61, 62, 63, 64, 65, 25, 26, 27, 28, 24, 66, 67, 68, 69, 70, 71, 72, 73, 74, 75, 76, 77, 78, 79] (by decide +kernel) (by decide +kernel)
set_option maxRecDepth 20000 in
theorem gX5_mostByWays_X5_addAlong : GoodIn wsX5_mostByWays (wsV RX5 48 RX5 yX5_addAlong wsX5_addAlong) := goodIn_app (goodIn_of _ (by decide +kernel)) ggX5_mostByWays_X5_addAlong
theorem dX5_mostByWays_0 : decode cX5_mostByWays 0 = .ok (.aload_n 0, 1) := by decide +kernel
theorem dX5_mostByWays_1 : decode cX5_mostByWays 1 = .ok (.getfield 9, 3) := by decide +kernel
theorem dX5_mostByWays_4 : decode cX5_mostByWays 4 = .ok (.iconst 0, 1) := by decide +kernel
theorem dX5_mostByWays_5 : decode cX5_mostByWays 5 = .ok (.invokestatic 33, 3) := by decide +kernel
theorem dX5_mostByWays_8 : decode cX5_mostByWays 8 = .ok (.iconst 0, 1) := by decide +kernel
theorem dX5_mostByWays_9 : decode cX5_mostByWays 9 = .ok (.istore_n 2, 1) := by decide +kernel
theorem dX5_mostByWays_10 : decode cX5_mostByWays 10 = .ok (.iconst 0, 1) := by decide +kernel
theorem dX5_mostByWays_11 : decode cX5_mostByWays 11 = .ok (.istore_n 3, 1) := by decide +kernel
theorem dX5_mostByWays_12 : decode cX5_mostByWays 12 = .ok (.iload_n 3, 1) := by decide +kernel
theorem dX5_mostByWays_13 : decode cX5_mostByWays 13 = .ok (.ldc 39, 2) := by decide +kernel
theorem dX5_mostByWays_15 : decode cX5_mostByWays 15 = .ok (.if_icmp .ge 48, 3) := by decide +kernel
theorem dX5_mostByWays_18 : decode cX5_mostByWays 18 = .ok (.aload_n 0, 1) := by decide +kernel
theorem dX5_mostByWays_19 : decode cX5_mostByWays 19 = .ok (.aload_n 1, 1) := by decide +kernel
theorem dX5_mostByWays_20 : decode cX5_mostByWays 20 = .ok (.invokevirtual 40, 3) := by decide +kernel
theorem dX5_mostByWays_23 : decode cX5_mostByWays 23 = .ok (.istore 4, 2) := by decide +kernel
theorem dX5_mostByWays_25 : decode cX5_mostByWays 25 = .ok (.iload 4, 2) := by decide +kernel
theorem dX5_mostByWays_27 : decode cX5_mostByWays 27 = .ok (.iconst (-1), 1) := by decide +kernel
theorem dX5_mostByWays_28 : decode cX5_mostByWays 28 = .ok (.if_icmp .ne 6, 3) := by decide +kernel
theorem dX5_mostByWays_31 : decode cX5_mostByWays 31 = .ok (.goto 32, 3) := by decide +kernel
theorem dX5_mostByWays_34 : decode cX5_mostByWays 34 = .ok (.aload_n 0, 1) := by decide +kernel
theorem dX5_mostByWays_35 : decode cX5_mostByWays 35 = .ok (.aload_n 1, 1) := by decide +kernel
theorem dX5_mostByWays_36 : decode cX5_mostByWays 36 = .ok (.iload 4, 2) := by decide +kernel
theorem dX5_mostByWays_38 : decode cX5_mostByWays 38 = .ok (.invokevirtual 44, 3) := by decide +kernel
theorem dX5_mostByWays_41 : decode cX5_mostByWays 41 = .ok (.istore 5, 2) := by decide +kernel
theorem dX5_mostByWays_43 : decode cX5_mostByWays 43 = .ok (.aload_n 0, 1) := by decide +kernel
theorem dX5_mostByWays_44 : decode cX5_mostByWays 44 = .ok (.aload_n 1, 1) := by decide +kernel
theorem dX5_mostByWays_45 : decode cX5_mostByWays 45 = .ok (.iload 4, 2) := by decide +kernel
theorem dX5_mostByWays_47 : decode cX5_mostByWays 47 = .ok (.iload 5, 2) := by decide +kernel
theorem dX5_mostByWays_49 : decode cX5_mostByWays 49 = .ok (.invokevirtual 48, 3) := by decide +kernel
theorem dX5_mostByWays_52 : decode cX5_mostByWays 52 = .ok (.iload_n 2, 1) := by decide +kernel
theorem dX5_mostByWays_53 : decode cX5_mostByWays 53 = .ok (.iload 5, 2) := by decide +kernel
theorem dX5_mostByWays_55 : decode cX5_mostByWays 55 = .ok (.iadd, 1) := by decide +kernel
theorem dX5_mostByWays_56 : decode cX5_mostByWays 56 = .ok (.istore_n 2, 1) := by decide +kernel
theorem dX5_mostByWays_57 : decode cX5_mostByWays 57 = .ok (.iinc 3 1, 3) := by decide +kernel
theorem dX5_mostByWays_60 : decode cX5_mostByWays 60 = .ok (.goto (-48), 3) := by decide +kernel
theorem dX5_mostByWays_63 : decode cX5_mostByWays 63 = .ok (.iload_n 2, 1) := by decide +kernel
theorem dX5_mostByWays_64 : decode cX5_mostByWays 64 = .ok (.ireturn, 1) := by decide +kernel
set_option maxRecDepth 20000 in
theorem ggX5_findWay_J7_fill_53178 : GoodIn wsX5_findWay wsJ7_fill_53178 := goodIn_r _ [6] (by decide +kernel) (by decide +kernel)
set_option maxRecDepth 20000 in
theorem gX5_findWay_J7_fill_53178 : GoodIn wsX5_findWay (va_wsS RX5 33 yJ7_fill_53178 wsJ7_fill_53178) := goodIn_app (goodIn_of _ (by decide +kernel)) ggX5_findWay_J7_fill_53178
set_option maxRecDepth 20000 in
theorem ggX5_findWay_X5_nextPost : GoodIn wsX5_findWay wsX5_nextPost := goodIn_r _ [11, 12, 13, 14, 15, 16, 17, 18, 19, 20, 21, 22, 23, 24, 25, 10, 26, 27, 28, 29, 30, 31, 32, 33, 34, 35, 36, 48, 49, 50, 51, 52, 53, 40, 41, 42, 43, 44, 45, 46, 47] (by decide +kernel) (by decide +kernel)
set_option maxRecDepth 20000 in
theorem gX5_findWay_X5_nextPost : GoodIn wsX5_findWay (wsV RX5 58 RX5 yX5_nextPost wsX5_nextPost) := goodIn_app (goodIn_of _ (by decide +kernel)) ggX5_findWay_X5_nextPost
set_option maxRecDepth 20000 in
theorem ggX5_findWay_X6_isPost : GoodIn wsX5_findWay wsX6_isPost := goodIn_r _ [39] (by decide +kernel) (by decide +kernel)
set_option maxRecDepth 20000 in
theorem gX5_findWay_X6_isPost_n62 : GoodIn wsX5_findWay (wsX6_isPost) := ggX5_findWay_X6_isPost
theorem dX5_findWay_0 : decode cX5_findWay 0 = .ok (.aload_n 0, 1) := by decide +kernel
theorem dX5_findWay_1 : decode cX5_findWay 1 = .ok (.getfield 15, 3) := by decide +kernel
theorem dX5_findWay_4 : decode cX5_findWay 4 = .ok (.bipush (-2), 2) := by decide +kernel
theorem dX5_findWay_6 : decode cX5_findWay 6 = .ok (.invokestatic 33, 3) := by decide +kernel
theorem dX5_findWay_9 : decode cX5_findWay 9 = .ok (.iconst 0, 1) := by decide +kernel
theorem dX5_findWay_10 : decode cX5_findWay 10 = .ok (.istore_n 2, 1) := by decide +kernel
theorem dX5_findWay_11 : decode cX5_findWay 11 = .ok (.iconst 0, 1) := by decide +kernel
theorem dX5_findWay_12 : decode cX5_findWay 12 = .ok (.istore_n 3, 1) := by decide +kernel
theorem dX5_findWay_13 : decode cX5_findWay 13 = .ok (.iload_n 3, 1) := by decide +kernel
theorem dX5_findWay_14 : decode cX5_findWay 14 = .ok (.iconst 4, 1) := by decide +kernel
theorem dX5_findWay_15 : decode cX5_findWay 15 = .ok (.if_icmp .ge 26, 3) := by decide +kernel
theorem dX5_findWay_18 : decode cX5_findWay 18 = .ok (.aload_n 0, 1) := by decide +kernel
theorem dX5_findWay_19 : decode cX5_findWay 19 = .ok (.getfield 15, 3) := by decide +kernel
theorem dX5_findWay_22 : decode cX5_findWay 22 = .ok (.iload_n 3, 1) := by decide +kernel
theorem dX5_findWay_23 : decode cX5_findWay 23 = .ok (.iconst (-1), 1) := by decide +kernel
theorem dX5_findWay_24 : decode cX5_findWay 24 = .ok (.iastore, 1) := by decide +kernel
theorem dX5_findWay_25 : decode cX5_findWay 25 = .ok (.aload_n 0, 1) := by decide +kernel
theorem dX5_findWay_26 : decode cX5_findWay 26 = .ok (.getfield 18, 3) := by decide +kernel
theorem dX5_findWay_29 : decode cX5_findWay 29 = .ok (.iload_n 2, 1) := by decide +kernel
theorem dX5_findWay_30 : decode cX5_findWay 30 = .ok (.iload_n 3, 1) := by decide +kernel
theorem dX5_findWay_31 : decode cX5_findWay 31 = .ok (.iastore, 1) := by decide +kernel
theorem dX5_findWay_32 : decode cX5_findWay 32 = .ok (.iinc 2 1, 3) := by decide +kernel
theorem dX5_findWay_35 : decode cX5_findWay 35 = .ok (.iinc 3 1, 3) := by decide +kernel
theorem dX5_findWay_38 : decode cX5_findWay 38 = .ok (.goto (-25), 3) := by decide +kernel
theorem dX5_findWay_41 : decode cX5_findWay 41 = .ok (.iconst 0, 1) := by decide +kernel
theorem dX5_findWay_42 : decode cX5_findWay 42 = .ok (.istore_n 3, 1) := by decide +kernel
theorem dX5_findWay_43 : decode cX5_findWay 43 = .ok (.iload_n 3, 1) := by decide +kernel
theorem dX5_findWay_44 : decode cX5_findWay 44 = .ok (.iload_n 2, 1) := by decide +kernel
theorem dX5_findWay_45 : decode cX5_findWay 45 = .ok (.if_icmp .ge 104, 3) := by decide +kernel
theorem dX5_findWay_48 : decode cX5_findWay 48 = .ok (.iload_n 3, 1) := by decide +kernel
theorem dX5_findWay_49 : decode cX5_findWay 49 = .ok (.bipush 16, 2) := by decide +kernel
theorem dX5_findWay_51 : decode cX5_findWay 51 = .ok (.if_icmp .ge 98, 3) := by decide +kernel
theorem dX5_findWay_54 : decode cX5_findWay 54 = .ok (.iconst 0, 1) := by decide +kernel
theorem dX5_findWay_55 : decode cX5_findWay 55 = .ok (.istore 4, 2) := by decide +kernel
theorem dX5_findWay_57 : decode cX5_findWay 57 = .ok (.iload 4, 2) := by decide +kernel
theorem dX5_findWay_59 : decode cX5_findWay 59 = .ok (.aload_n 1, 1) := by decide +kernel
theorem dX5_findWay_60 : decode cX5_findWay 60 = .ok (.getfield 52, 3) := by decide +kernel
theorem dX5_findWay_63 : decode cX5_findWay 63 = .ok (.if_icmp .ge 80, 3) := by decide +kernel
theorem dX5_findWay_66 : decode cX5_findWay 66 = .ok (.aload_n 0, 1) := by decide +kernel
theorem dX5_findWay_67 : decode cX5_findWay 67 = .ok (.aload_n 1, 1) := by decide +kernel
theorem dX5_findWay_68 : decode cX5_findWay 68 = .ok (.aload_n 0, 1) := by decide +kernel
theorem dX5_findWay_69 : decode cX5_findWay 69 = .ok (.getfield 18, 3) := by decide +kernel
theorem dX5_findWay_72 : decode cX5_findWay 72 = .ok (.iload_n 3, 1) := by decide +kernel
theorem dX5_findWay_73 : decode cX5_findWay 73 = .ok (.iaload, 1) := by decide +kernel
theorem dX5_findWay_74 : decode cX5_findWay 74 = .ok (.iload 4, 2) := by decide +kernel
theorem dX5_findWay_76 : decode cX5_findWay 76 = .ok (.invokevirtual 58, 3) := by decide +kernel
theorem dX5_findWay_79 : decode cX5_findWay 79 = .ok (.istore 5, 2) := by decide +kernel
theorem dX5_findWay_81 : decode cX5_findWay 81 = .ok (.iload 5, 2) := by decide +kernel
theorem dX5_findWay_83 : decode cX5_findWay 83 = .ok (.invokestatic 62, 3) := by decide +kernel
theorem dX5_findWay_86 : decode cX5_findWay 86 = .ok (.ifCond .eq 51, 3) := by decide +kernel
theorem dX5_findWay_89 : decode cX5_findWay 89 = .ok (.aload_n 0, 1) := by decide +kernel
theorem dX5_findWay_90 : decode cX5_findWay 90 = .ok (.getfield 15, 3) := by decide +kernel
theorem dX5_findWay_93 : decode cX5_findWay 93 = .ok (.iload 5, 2) := by decide +kernel
theorem dX5_findWay_95 : decode cX5_findWay 95 = .ok (.iaload, 1) := by decide +kernel
theorem dX5_findWay_96 : decode cX5_findWay 96 = .ok (.bipush (-2), 2) := by decide +kernel
theorem dX5_findWay_98 : decode cX5_findWay 98 = .ok (.if_icmp .ne 39, 3) := by decide +kernel
theorem dX5_findWay_101 : decode cX5_findWay 101 = .ok (.iload_n 2, 1) := by decide +kernel
theorem dX5_findWay_102 : decode cX5_findWay 102 = .ok (.bipush 16, 2) := by decide +kernel
theorem dX5_findWay_104 : decode cX5_findWay 104 = .ok (.if_icmp .ge 33, 3) := by decide +kernel
theorem dX5_findWay_107 : decode cX5_findWay 107 = .ok (.aload_n 0, 1) := by decide +kernel
theorem dX5_findWay_108 : decode cX5_findWay 108 = .ok (.getfield 15, 3) := by decide +kernel
theorem dX5_findWay_111 : decode cX5_findWay 111 = .ok (.iload 5, 2) := by decide +kernel
theorem dX5_findWay_113 : decode cX5_findWay 113 = .ok (.iload 4, 2) := by decide +kernel
theorem dX5_findWay_115 : decode cX5_findWay 115 = .ok (.iastore, 1) := by decide +kernel
theorem dX5_findWay_116 : decode cX5_findWay 116 = .ok (.iload 5, 2) := by decide +kernel
theorem dX5_findWay_118 : decode cX5_findWay 118 = .ok (.bipush 12, 2) := by decide +kernel
theorem dX5_findWay_120 : decode cX5_findWay 120 = .ok (.if_icmp .lt 6, 3) := by decide +kernel
theorem dX5_findWay_123 : decode cX5_findWay 123 = .ok (.iload 5, 2) := by decide +kernel
theorem dX5_findWay_125 : decode cX5_findWay 125 = .ok (.ireturn, 1) := by decide +kernel
theorem dX5_findWay_126 : decode cX5_findWay 126 = .ok (.aload_n 0, 1) := by decide +kernel
theorem dX5_findWay_127 : decode cX5_findWay 127 = .ok (.getfield 18, 3) := by decide +kernel
theorem dX5_findWay_130 : decode cX5_findWay 130 = .ok (.iload_n 2, 1) := by decide +kernel
theorem dX5_findWay_131 : decode cX5_findWay 131 = .ok (.iload 5, 2) := by decide +kernel
theorem dX5_findWay_133 : decode cX5_findWay 133 = .ok (.iastore, 1) := by decide +kernel
theorem dX5_findWay_134 : decode cX5_findWay 134 = .ok (.iinc 2 1, 3) := by decide +kernel
theorem dX5_findWay_137 : decode cX5_findWay 137 = .ok (.iinc 4 1, 3) := by decide +kernel
theorem dX5_findWay_140 : decode cX5_findWay 140 = .ok (.goto (-83), 3) := by decide +kernel
theorem dX5_findWay_143 : decode cX5_findWay 143 = .ok (.iinc 3 1, 3) := by decide +kernel
theorem dX5_findWay_146 : decode cX5_findWay 146 = .ok (.goto (-103), 3) := by decide +kernel
theorem dX5_findWay_149 : decode cX5_findWay 149 = .ok (.iconst (-1), 1) := by decide +kernel
theorem dX5_findWay_150 : decode cX5_findWay 150 = .ok (.ireturn, 1) := by decide +kernel
set_option maxRecDepth 20000 in
theorem ggX5_nextPost_X1_goesOn : GoodIn wsX5_nextPost wsX1_goesOn := goodIn_r _ [5, 6, 7, 27, 28, 29, 30, 31, 32] (by decide +kernel) (by decide +kernel)
set_option maxRecDepth 20000 in
theorem gX5_nextPost_X1_goesOn : GoodIn wsX5_nextPost (wsV RX5 66 RX1 yX1_goesOn wsX1_goesOn) := goodIn_app (goodIn_of _ (by decide +kernel)) ggX5_nextPost_X1_goesOn
set_option maxRecDepth 20000 in
theorem ggX5_nextPost_X1_fromOf : GoodIn wsX5_nextPost wsX1_fromOf := goodIn_r _ [11, 7, 27, 28, 29, 30, 31, 32] (by decide +kernel) (by decide +kernel)
set_option maxRecDepth 20000 in
theorem gX5_nextPost_X1_fromOf : GoodIn wsX5_nextPost (wsV RX5 69 RX1 yX1_fromOf wsX1_fromOf) := goodIn_app (goodIn_of _ (by decide +kernel)) ggX5_nextPost_X1_fromOf
set_option maxRecDepth 20000 in
theorem ggX5_nextPost_X5_numberOf : GoodIn wsX5_nextPost wsX5_numberOf := goodIn_r _ [16, 17, 33, 34, 35, 36, 37, 38, 39, 40] (by decide +kernel) (by decide +kernel)
set_option maxRecDepth 20000 in
theorem gX5_nextPost_X5_numberOf : GoodIn wsX5_nextPost (wsV RX5 73 RX5 yX5_numberOf wsX5_numberOf) := goodIn_app (goodIn_of _ (by decide +kernel)) ggX5_nextPost_X5_numberOf
set_option maxRecDepth 20000 in
theorem ggX5_nextPost_X1_widthOf : GoodIn wsX5_nextPost wsX1_widthOf := goodIn_r _ [21, 22, 27, 28, 29, 30, 31, 32] (by decide +kernel) (by decide +kernel)
set_option maxRecDepth 20000 in
theorem gX5_nextPost_X1_widthOf : GoodIn wsX5_nextPost (wsV RX5 76 RX1 yX1_widthOf wsX1_widthOf) := goodIn_app (goodIn_of _ (by decide +kernel)) ggX5_nextPost_X1_widthOf
set_option maxRecDepth 20000 in
theorem ggX5_nextPost_X1_toOf : GoodIn wsX5_nextPost wsX1_toOf := goodIn_r _ [26, 6, 27, 28, 29, 30, 31, 32] (by decide +kernel) (by decide +kernel)
set_option maxRecDepth 20000 in
theorem gX5_nextPost_X1_toOf : GoodIn wsX5_nextPost (wsV RX5 79 RX1 yX1_toOf wsX1_toOf) := goodIn_app (goodIn_of _ (by decide +kernel)) ggX5_nextPost_X1_toOf
theorem dX5_nextPost_0 : decode cX5_nextPost 0 = .ok (.aload_n 1, 1) := by decide +kernel
theorem dX5_nextPost_1 : decode cX5_nextPost 1 = .ok (.iload_n 3, 1) := by decide +kernel
theorem dX5_nextPost_2 : decode cX5_nextPost 2 = .ok (.invokevirtual 66, 3) := by decide +kernel
theorem dX5_nextPost_5 : decode cX5_nextPost 5 = .ok (.ifCond .ne 5, 3) := by decide +kernel
theorem dX5_nextPost_8 : decode cX5_nextPost 8 = .ok (.iconst (-1), 1) := by decide +kernel
theorem dX5_nextPost_9 : decode cX5_nextPost 9 = .ok (.ireturn, 1) := by decide +kernel
theorem dX5_nextPost_10 : decode cX5_nextPost 10 = .ok (.aload_n 1, 1) := by decide +kernel
theorem dX5_nextPost_11 : decode cX5_nextPost 11 = .ok (.iload_n 3, 1) := by decide +kernel
theorem dX5_nextPost_12 : decode cX5_nextPost 12 = .ok (.invokevirtual 69, 3) := by decide +kernel
theorem dX5_nextPost_15 : decode cX5_nextPost 15 = .ok (.iload_n 2, 1) := by decide +kernel
theorem dX5_nextPost_16 : decode cX5_nextPost 16 = .ok (.if_icmp .ne 26, 3) := by decide +kernel
theorem dX5_nextPost_19 : decode cX5_nextPost 19 = .ok (.aload_n 0, 1) := by decide +kernel
theorem dX5_nextPost_20 : decode cX5_nextPost 20 = .ok (.iload_n 3, 1) := by decide +kernel
theorem dX5_nextPost_21 : decode cX5_nextPost 21 = .ok (.invokevirtual 73, 3) := by decide +kernel
theorem dX5_nextPost_24 : decode cX5_nextPost 24 = .ok (.aload_n 1, 1) := by decide +kernel
theorem dX5_nextPost_25 : decode cX5_nextPost 25 = .ok (.iload_n 3, 1) := by decide +kernel
theorem dX5_nextPost_26 : decode cX5_nextPost 26 = .ok (.invokevirtual 76, 3) := by decide +kernel
theorem dX5_nextPost_29 : decode cX5_nextPost 29 = .ok (.if_icmp .ge 11, 3) := by decide +kernel
theorem dX5_nextPost_32 : decode cX5_nextPost 32 = .ok (.aload_n 1, 1) := by decide +kernel
theorem dX5_nextPost_33 : decode cX5_nextPost 33 = .ok (.iload_n 3, 1) := by decide +kernel
theorem dX5_nextPost_34 : decode cX5_nextPost 34 = .ok (.invokevirtual 79, 3) := by decide +kernel
theorem dX5_nextPost_37 : decode cX5_nextPost 37 = .ok (.goto 4, 3) := by decide +kernel
theorem dX5_nextPost_40 : decode cX5_nextPost 40 = .ok (.iconst (-1), 1) := by decide +kernel
theorem dX5_nextPost_41 : decode cX5_nextPost 41 = .ok (.ireturn, 1) := by decide +kernel
theorem dX5_nextPost_42 : decode cX5_nextPost 42 = .ok (.aload_n 1, 1) := by decide +kernel
theorem dX5_nextPost_43 : decode cX5_nextPost 43 = .ok (.iload_n 3, 1) := by decide +kernel
theorem dX5_nextPost_44 : decode cX5_nextPost 44 = .ok (.invokevirtual 79, 3) := by decide +kernel
theorem dX5_nextPost_47 : decode cX5_nextPost 47 = .ok (.iload_n 2, 1) := by decide +kernel
theorem dX5_nextPost_48 : decode cX5_nextPost 48 = .ok (.if_icmp .ne 19, 3) := by decide +kernel
theorem dX5_nextPost_51 : decode cX5_nextPost 51 = .ok (.aload_n 0, 1) := by decide +kernel
theorem dX5_nextPost_52 : decode cX5_nextPost 52 = .ok (.iload_n 3, 1) := by decide +kernel
theorem dX5_nextPost_53 : decode cX5_nextPost 53 = .ok (.invokevirtual 73, 3) := by decide +kernel
theorem dX5_nextPost_56 : decode cX5_nextPost 56 = .ok (.ifCond .le 11, 3) := by decide +kernel
theorem dX5_nextPost_59 : decode cX5_nextPost 59 = .ok (.aload_n 1, 1) := by decide +kernel
theorem dX5_nextPost_60 : decode cX5_nextPost 60 = .ok (.iload_n 3, 1) := by decide +kernel
theorem dX5_nextPost_61 : decode cX5_nextPost 61 = .ok (.invokevirtual 69, 3) := by decide +kernel
theorem dX5_nextPost_64 : decode cX5_nextPost 64 = .ok (.goto 4, 3) := by decide +kernel
theorem dX5_nextPost_67 : decode cX5_nextPost 67 = .ok (.iconst (-1), 1) := by decide +kernel
theorem dX5_nextPost_68 : decode cX5_nextPost 68 = .ok (.ireturn, 1) := by decide +kernel
theorem dX5_numberOf_0 : decode cX5_numberOf 0 = .ok (.iload_n 1, 1) := by decide +kernel
theorem dX5_numberOf_1 : decode cX5_numberOf 1 = .ok (.ifCond .lt 18, 3) := by decide +kernel
theorem dX5_numberOf_4 : decode cX5_numberOf 4 = .ok (.iload_n 1, 1) := by decide +kernel
theorem dX5_numberOf_5 : decode cX5_numberOf 5 = .ok (.bipush 20, 2) := by decide +kernel
theorem dX5_numberOf_7 : decode cX5_numberOf 7 = .ok (.if_icmp .ge 12, 3) := by decide +kernel
theorem dX5_numberOf_10 : decode cX5_numberOf 10 = .ok (.aload_n 0, 1) := by decide +kernel
theorem dX5_numberOf_11 : decode cX5_numberOf 11 = .ok (.getfield 9, 3) := by decide +kernel
theorem dX5_numberOf_14 : decode cX5_numberOf 14 = .ok (.iload_n 1, 1) := by decide +kernel
theorem dX5_numberOf_15 : decode cX5_numberOf 15 = .ok (.iaload, 1) := by decide +kernel
theorem dX5_numberOf_16 : decode cX5_numberOf 16 = .ok (.goto 4, 3) := by decide +kernel
theorem dX5_numberOf_19 : decode cX5_numberOf 19 = .ok (.iconst 0, 1) := by decide +kernel
theorem dX5_numberOf_20 : decode cX5_numberOf 20 = .ok (.ireturn, 1) := by decide +kernel
set_option maxRecDepth 20000 in
theorem ggX5_ribbonTo_X6_isPost : GoodIn wsX5_ribbonTo wsX6_isPost := goodIn_r _ [4] (by decide +kernel) (by decide +kernel)
set_option maxRecDepth 20000 in
theorem gX5_ribbonTo_X6_isPost_n62 : GoodIn wsX5_ribbonTo (wsX6_isPost) := ggX5_ribbonTo_X6_isPost
theorem dX5_ribbonTo_0 : decode cX5_ribbonTo 0 = .ok (.iload_n 1, 1) := by decide +kernel
theorem dX5_ribbonTo_1 : decode cX5_ribbonTo 1 = .ok (.invokestatic 62, 3) := by decide +kernel
theorem dX5_ribbonTo_4 : decode cX5_ribbonTo 4 = .ok (.ifCond .eq 12, 3) := by decide +kernel
theorem dX5_ribbonTo_7 : decode cX5_ribbonTo 7 = .ok (.aload_n 0, 1) := by decide +kernel
theorem dX5_ribbonTo_8 : decode cX5_ribbonTo 8 = .ok (.getfield 15, 3) := by decide +kernel
theorem dX5_ribbonTo_11 : decode cX5_ribbonTo 11 = .ok (.iload_n 1, 1) := by decide +kernel
theorem dX5_ribbonTo_12 : decode cX5_ribbonTo 12 = .ok (.iaload, 1) := by decide +kernel
theorem dX5_ribbonTo_13 : decode cX5_ribbonTo 13 = .ok (.goto 4, 3) := by decide +kernel
theorem dX5_ribbonTo_16 : decode cX5_ribbonTo 16 = .ok (.iconst (-1), 1) := by decide +kernel
theorem dX5_ribbonTo_17 : decode cX5_ribbonTo 17 = .ok (.ireturn, 1) := by decide +kernel
set_option maxRecDepth 20000 in
theorem ggX5_roomTo_X5_ribbonTo : GoodIn wsX5_roomTo wsX5_ribbonTo := goodIn_r _ [10, 11, 12, 13, 14, 36, 37, 38, 39, 40, 41, 42, 43] (by decide +kernel) (by decide +kernel)
set_option maxRecDepth 20000 in
theorem gX5_roomTo_X5_ribbonTo : GoodIn wsX5_roomTo (wsV RX5 82 RX5 yX5_ribbonTo wsX5_ribbonTo) := goodIn_app (goodIn_of _ (by decide +kernel)) ggX5_roomTo_X5_ribbonTo
set_option maxRecDepth 20000 in
theorem ggX5_roomTo_X1_toOf : GoodIn wsX5_roomTo wsX1_toOf := goodIn_r _ [19, 20, 44, 45, 46, 47, 48, 49] (by decide +kernel) (by decide +kernel)
set_option maxRecDepth 20000 in
theorem gX5_roomTo_X1_toOf : GoodIn wsX5_roomTo (wsV RX5 79 RX1 yX1_toOf wsX1_toOf) := goodIn_app (goodIn_of _ (by decide +kernel)) ggX5_roomTo_X1_toOf
set_option maxRecDepth 20000 in
theorem ggX5_roomTo_X1_widthOf : GoodIn wsX5_roomTo wsX1_widthOf := goodIn_r _ [24, 25, 44, 45, 46, 47, 48, 49] (by decide +kernel) (by decide +kernel)
set_option maxRecDepth 20000 in
theorem gX5_roomTo_X1_widthOf : GoodIn wsX5_roomTo (wsV RX5 76 RX1 yX1_widthOf wsX1_widthOf) := goodIn_app (goodIn_of _ (by decide +kernel)) ggX5_roomTo_X1_widthOf
set_option maxRecDepth 20000 in
theorem ggX5_roomTo_X5_numberOf : GoodIn wsX5_roomTo wsX5_numberOf := goodIn_r _ [29, 30, 36, 37, 38, 39, 40, 41, 42, 43] (by decide +kernel) (by decide +kernel)
set_option maxRecDepth 20000 in
theorem gX5_roomTo_X5_numberOf : GoodIn wsX5_roomTo (wsV RX5 73 RX5 yX5_numberOf wsX5_numberOf) := goodIn_app (goodIn_of _ (by decide +kernel)) ggX5_roomTo_X5_numberOf
set_option maxRecDepth 20000 in
theorem ggX5_roomTo_X1_fromOf : GoodIn wsX5_roomTo wsX1_fromOf := goodIn_r _ [34, 35, 44, 45, 46, 47, 48, 49] (by decide +kernel) (by decide +kernel)
set_option maxRecDepth 20000 in
theorem gX5_roomTo_X1_fromOf : GoodIn wsX5_roomTo (wsV RX5 69 RX1 yX1_fromOf wsX1_fromOf) := goodIn_app (goodIn_of _ (by decide +kernel)) ggX5_roomTo_X1_fromOf
theorem dX5_roomTo_0 : decode cX5_roomTo 0 = .ok (.ldc 39, 2) := by decide +kernel
theorem dX5_roomTo_2 : decode cX5_roomTo 2 = .ok (.istore_n 3, 1) := by decide +kernel
theorem dX5_roomTo_3 : decode cX5_roomTo 3 = .ok (.iload_n 2, 1) := by decide +kernel
theorem dX5_roomTo_4 : decode cX5_roomTo 4 = .ok (.istore 4, 2) := by decide +kernel
theorem dX5_roomTo_6 : decode cX5_roomTo 6 = .ok (.iconst 0, 1) := by decide +kernel
theorem dX5_roomTo_7 : decode cX5_roomTo 7 = .ok (.istore 5, 2) := by decide +kernel
theorem dX5_roomTo_9 : decode cX5_roomTo 9 = .ok (.iload 5, 2) := by decide +kernel
theorem dX5_roomTo_11 : decode cX5_roomTo 11 = .ok (.bipush 16, 2) := by decide +kernel
theorem dX5_roomTo_13 : decode cX5_roomTo 13 = .ok (.if_icmp .ge 102, 3) := by decide +kernel
theorem dX5_roomTo_16 : decode cX5_roomTo 16 = .ok (.aload_n 0, 1) := by decide +kernel
theorem dX5_roomTo_17 : decode cX5_roomTo 17 = .ok (.iload 4, 2) := by decide +kernel
theorem dX5_roomTo_19 : decode cX5_roomTo 19 = .ok (.invokevirtual 82, 3) := by decide +kernel
theorem dX5_roomTo_22 : decode cX5_roomTo 22 = .ok (.ifCond .lt 93, 3) := by decide +kernel
theorem dX5_roomTo_25 : decode cX5_roomTo 25 = .ok (.aload_n 0, 1) := by decide +kernel
theorem dX5_roomTo_26 : decode cX5_roomTo 26 = .ok (.iload 4, 2) := by decide +kernel
theorem dX5_roomTo_28 : decode cX5_roomTo 28 = .ok (.invokevirtual 82, 3) := by decide +kernel
theorem dX5_roomTo_31 : decode cX5_roomTo 31 = .ok (.istore 6, 2) := by decide +kernel
theorem dX5_roomTo_33 : decode cX5_roomTo 33 = .ok (.aload_n 1, 1) := by decide +kernel
theorem dX5_roomTo_34 : decode cX5_roomTo 34 = .ok (.iload 6, 2) := by decide +kernel
theorem dX5_roomTo_36 : decode cX5_roomTo 36 = .ok (.invokevirtual 79, 3) := by decide +kernel
theorem dX5_roomTo_39 : decode cX5_roomTo 39 = .ok (.iload 4, 2) := by decide +kernel
theorem dX5_roomTo_41 : decode cX5_roomTo 41 = .ok (.if_icmp .ne 7, 3) := by decide +kernel
theorem dX5_roomTo_44 : decode cX5_roomTo 44 = .ok (.iconst 1, 1) := by decide +kernel
theorem dX5_roomTo_45 : decode cX5_roomTo 45 = .ok (.goto 4, 3) := by decide +kernel
theorem dX5_roomTo_48 : decode cX5_roomTo 48 = .ok (.iconst 0, 1) := by decide +kernel
theorem dX5_roomTo_49 : decode cX5_roomTo 49 = .ok (.istore 7, 2) := by decide +kernel
theorem dX5_roomTo_51 : decode cX5_roomTo 51 = .ok (.iload 7, 2) := by decide +kernel
theorem dX5_roomTo_53 : decode cX5_roomTo 53 = .ok (.ifCond .eq 19, 3) := by decide +kernel
theorem dX5_roomTo_56 : decode cX5_roomTo 56 = .ok (.aload_n 1, 1) := by decide +kernel
theorem dX5_roomTo_57 : decode cX5_roomTo 57 = .ok (.iload 6, 2) := by decide +kernel
theorem dX5_roomTo_59 : decode cX5_roomTo 59 = .ok (.invokevirtual 76, 3) := by decide +kernel
theorem dX5_roomTo_62 : decode cX5_roomTo 62 = .ok (.aload_n 0, 1) := by decide +kernel
theorem dX5_roomTo_63 : decode cX5_roomTo 63 = .ok (.iload 6, 2) := by decide +kernel
theorem dX5_roomTo_65 : decode cX5_roomTo 65 = .ok (.invokevirtual 73, 3) := by decide +kernel
theorem dX5_roomTo_68 : decode cX5_roomTo 68 = .ok (.isub, 1) := by decide +kernel
theorem dX5_roomTo_69 : decode cX5_roomTo 69 = .ok (.goto 9, 3) := by decide +kernel
theorem dX5_roomTo_72 : decode cX5_roomTo 72 = .ok (.aload_n 0, 1) := by decide +kernel
theorem dX5_roomTo_73 : decode cX5_roomTo 73 = .ok (.iload 6, 2) := by decide +kernel
theorem dX5_roomTo_75 : decode cX5_roomTo 75 = .ok (.invokevirtual 73, 3) := by decide +kernel
theorem dX5_roomTo_78 : decode cX5_roomTo 78 = .ok (.istore 8, 2) := by decide +kernel
theorem dX5_roomTo_80 : decode cX5_roomTo 80 = .ok (.iload_n 3, 1) := by decide +kernel
theorem dX5_roomTo_81 : decode cX5_roomTo 81 = .ok (.iload 8, 2) := by decide +kernel
theorem dX5_roomTo_83 : decode cX5_roomTo 83 = .ok (.invokestatic 85, 3) := by decide +kernel
theorem dX5_roomTo_86 : decode cX5_roomTo 86 = .ok (.istore_n 3, 1) := by decide +kernel
theorem dX5_roomTo_87 : decode cX5_roomTo 87 = .ok (.iload 7, 2) := by decide +kernel
theorem dX5_roomTo_89 : decode cX5_roomTo 89 = .ok (.ifCond .eq 12, 3) := by decide +kernel
theorem dX5_roomTo_92 : decode cX5_roomTo 92 = .ok (.aload_n 1, 1) := by decide +kernel
theorem dX5_roomTo_93 : decode cX5_roomTo 93 = .ok (.iload 6, 2) := by decide +kernel
theorem dX5_roomTo_95 : decode cX5_roomTo 95 = .ok (.invokevirtual 69, 3) := by decide +kernel
theorem dX5_roomTo_98 : decode cX5_roomTo 98 = .ok (.goto 9, 3) := by decide +kernel
theorem dX5_roomTo_101 : decode cX5_roomTo 101 = .ok (.aload_n 1, 1) := by decide +kernel
theorem dX5_roomTo_102 : decode cX5_roomTo 102 = .ok (.iload 6, 2) := by decide +kernel
theorem dX5_roomTo_104 : decode cX5_roomTo 104 = .ok (.invokevirtual 79, 3) := by decide +kernel
theorem dX5_roomTo_107 : decode cX5_roomTo 107 = .ok (.istore 4, 2) := by decide +kernel
theorem dX5_roomTo_109 : decode cX5_roomTo 109 = .ok (.iinc 5 1, 3) := by decide +kernel
theorem dX5_roomTo_112 : decode cX5_roomTo 112 = .ok (.goto (-103), 3) := by decide +kernel
theorem dX5_roomTo_115 : decode cX5_roomTo 115 = .ok (.iload_n 3, 1) := by decide +kernel
theorem dX5_roomTo_116 : decode cX5_roomTo 116 = .ok (.ireturn, 1) := by decide +kernel
set_option maxRecDepth 20000 in
theorem ggX5_addAlong_X5_ribbonTo : GoodIn wsX5_addAlong wsX5_ribbonTo := goodIn_r _ [6, 7, 8, 9, 10, 27, 28, 29, 30, 31, 32, 33, 34] (by decide +kernel) (by decide +kernel)
set_option maxRecDepth 20000 in
theorem gX5_addAlong_X5_ribbonTo : GoodIn wsX5_addAlong (wsV RX5 82 RX5 yX5_ribbonTo wsX5_ribbonTo) := goodIn_app (goodIn_of _ (by decide +kernel)) ggX5_addAlong_X5_ribbonTo
set_option maxRecDepth 20000 in
theorem ggX5_addAlong_X1_toOf : GoodIn wsX5_addAlong wsX1_toOf := goodIn_r _ [15, 16, 35, 36, 37, 38, 39, 40] (by decide +kernel) (by decide +kernel)
set_option maxRecDepth 20000 in
theorem gX5_addAlong_X1_toOf : GoodIn wsX5_addAlong (wsV RX5 79 RX1 yX1_toOf wsX1_toOf) := goodIn_app (goodIn_of _ (by decide +kernel)) ggX5_addAlong_X1_toOf
set_option maxRecDepth 20000 in
theorem ggX5_addAlong_X1_hasRibbon : GoodIn wsX5_addAlong wsX1_hasRibbon := goodIn_r _ [20, 21, 35, 36, 37, 38, 39, 40] (by decide +kernel) (by decide +kernel)
set_option maxRecDepth 20000 in
theorem gX5_addAlong_X1_hasRibbon : GoodIn wsX5_addAlong (wsV RX5 91 RX1 yX1_hasRibbon wsX1_hasRibbon) := goodIn_app (goodIn_of _ (by decide +kernel)) ggX5_addAlong_X1_hasRibbon
set_option maxRecDepth 20000 in
theorem ggX5_addAlong_X1_fromOf : GoodIn wsX5_addAlong wsX1_fromOf := goodIn_r _ [25, 26, 35, 36, 37, 38, 39, 40] (by decide +kernel) (by decide +kernel)
set_option maxRecDepth 20000 in
theorem gX5_addAlong_X1_fromOf : GoodIn wsX5_addAlong (wsV RX5 69 RX1 yX1_fromOf wsX1_fromOf) := goodIn_app (goodIn_of _ (by decide +kernel)) ggX5_addAlong_X1_fromOf
theorem dX5_addAlong_0 : decode cX5_addAlong 0 = .ok (.iload_n 2, 1) := by decide +kernel
theorem dX5_addAlong_1 : decode cX5_addAlong 1 = .ok (.istore 4, 2) := by decide +kernel
theorem dX5_addAlong_3 : decode cX5_addAlong 3 = .ok (.iconst 0, 1) := by decide +kernel
theorem dX5_addAlong_4 : decode cX5_addAlong 4 = .ok (.istore 5, 2) := by decide +kernel
theorem dX5_addAlong_6 : decode cX5_addAlong 6 = .ok (.iload 5, 2) := by decide +kernel
theorem dX5_addAlong_8 : decode cX5_addAlong 8 = .ok (.bipush 16, 2) := by decide +kernel
theorem dX5_addAlong_10 : decode cX5_addAlong 10 = .ok (.if_icmp .ge 96, 3) := by decide +kernel
theorem dX5_addAlong_13 : decode cX5_addAlong 13 = .ok (.aload_n 0, 1) := by decide +kernel
theorem dX5_addAlong_14 : decode cX5_addAlong 14 = .ok (.iload 4, 2) := by decide +kernel
theorem dX5_addAlong_16 : decode cX5_addAlong 16 = .ok (.invokevirtual 82, 3) := by decide +kernel
theorem dX5_addAlong_19 : decode cX5_addAlong 19 = .ok (.ifCond .lt 87, 3) := by decide +kernel
theorem dX5_addAlong_22 : decode cX5_addAlong 22 = .ok (.aload_n 0, 1) := by decide +kernel
theorem dX5_addAlong_23 : decode cX5_addAlong 23 = .ok (.iload 4, 2) := by decide +kernel
theorem dX5_addAlong_25 : decode cX5_addAlong 25 = .ok (.invokevirtual 82, 3) := by decide +kernel
theorem dX5_addAlong_28 : decode cX5_addAlong 28 = .ok (.istore 6, 2) := by decide +kernel
theorem dX5_addAlong_30 : decode cX5_addAlong 30 = .ok (.aload_n 1, 1) := by decide +kernel
theorem dX5_addAlong_31 : decode cX5_addAlong 31 = .ok (.iload 6, 2) := by decide +kernel
theorem dX5_addAlong_33 : decode cX5_addAlong 33 = .ok (.invokevirtual 79, 3) := by decide +kernel
theorem dX5_addAlong_36 : decode cX5_addAlong 36 = .ok (.iload 4, 2) := by decide +kernel
theorem dX5_addAlong_38 : decode cX5_addAlong 38 = .ok (.if_icmp .ne 7, 3) := by decide +kernel
theorem dX5_addAlong_41 : decode cX5_addAlong 41 = .ok (.iconst 1, 1) := by decide +kernel
theorem dX5_addAlong_42 : decode cX5_addAlong 42 = .ok (.goto 4, 3) := by decide +kernel
theorem dX5_addAlong_45 : decode cX5_addAlong 45 = .ok (.iconst 0, 1) := by decide +kernel
theorem dX5_addAlong_46 : decode cX5_addAlong 46 = .ok (.istore 7, 2) := by decide +kernel
theorem dX5_addAlong_48 : decode cX5_addAlong 48 = .ok (.aload_n 1, 1) := by decide +kernel
theorem dX5_addAlong_49 : decode cX5_addAlong 49 = .ok (.iload 6, 2) := by decide +kernel
theorem dX5_addAlong_51 : decode cX5_addAlong 51 = .ok (.invokevirtual 91, 3) := by decide +kernel
theorem dX5_addAlong_54 : decode cX5_addAlong 54 = .ok (.ifCond .eq 24, 3) := by decide +kernel
theorem dX5_addAlong_57 : decode cX5_addAlong 57 = .ok (.aload_n 0, 1) := by decide +kernel
theorem dX5_addAlong_58 : decode cX5_addAlong 58 = .ok (.getfield 9, 3) := by decide +kernel
theorem dX5_addAlong_61 : decode cX5_addAlong 61 = .ok (.iload 6, 2) := by decide +kernel
theorem dX5_addAlong_63 : decode cX5_addAlong 63 = .ok (.dup2, 1) := by decide +kernel
theorem dX5_addAlong_64 : decode cX5_addAlong 64 = .ok (.iaload, 1) := by decide +kernel
theorem dX5_addAlong_65 : decode cX5_addAlong 65 = .ok (.iload 7, 2) := by decide +kernel
theorem dX5_addAlong_67 : decode cX5_addAlong 67 = .ok (.ifCond .eq 7, 3) := by decide +kernel
theorem dX5_addAlong_70 : decode cX5_addAlong 70 = .ok (.iload_n 3, 1) := by decide +kernel
theorem dX5_addAlong_71 : decode cX5_addAlong 71 = .ok (.goto 5, 3) := by decide +kernel
theorem dX5_addAlong_74 : decode cX5_addAlong 74 = .ok (.iload_n 3, 1) := by decide +kernel
theorem dX5_addAlong_75 : decode cX5_addAlong 75 = .ok (.ineg, 1) := by decide +kernel
theorem dX5_addAlong_76 : decode cX5_addAlong 76 = .ok (.iadd, 1) := by decide +kernel
theorem dX5_addAlong_77 : decode cX5_addAlong 77 = .ok (.iastore, 1) := by decide +kernel
theorem dX5_addAlong_78 : decode cX5_addAlong 78 = .ok (.iload 7, 2) := by decide +kernel
theorem dX5_addAlong_80 : decode cX5_addAlong 80 = .ok (.ifCond .eq 12, 3) := by decide +kernel
theorem dX5_addAlong_83 : decode cX5_addAlong 83 = .ok (.aload_n 1, 1) := by decide +kernel
theorem dX5_addAlong_84 : decode cX5_addAlong 84 = .ok (.iload 6, 2) := by decide +kernel
theorem dX5_addAlong_86 : decode cX5_addAlong 86 = .ok (.invokevirtual 69, 3) := by decide +kernel
theorem dX5_addAlong_89 : decode cX5_addAlong 89 = .ok (.goto 9, 3) := by decide +kernel
theorem dX5_addAlong_92 : decode cX5_addAlong 92 = .ok (.aload_n 1, 1) := by decide +kernel
theorem dX5_addAlong_93 : decode cX5_addAlong 93 = .ok (.iload 6, 2) := by decide +kernel
theorem dX5_addAlong_95 : decode cX5_addAlong 95 = .ok (.invokevirtual 79, 3) := by decide +kernel
theorem dX5_addAlong_98 : decode cX5_addAlong 98 = .ok (.istore 4, 2) := by decide +kernel
theorem dX5_addAlong_100 : decode cX5_addAlong 100 = .ok (.iinc 5 1, 3) := by decide +kernel
theorem dX5_addAlong_103 : decode cX5_addAlong 103 = .ok (.goto (-97), 3) := by decide +kernel
theorem dX5_addAlong_106 : decode cX5_addAlong 106 = .ok (.return_, 1) := by decide +kernel
set_option maxRecDepth 20000 in
theorem ggX5_mostByCuts_X5_readCuttable : GoodIn wsX5_mostByCuts wsX5_readCuttable := goodIn_r _ [10, 11, 12, 13, 14, 15, 16, 17, 18, 19, 20, 21, 22, 23, 24, 25, 26, 27, 28, 29, 30, 31, 32, 33, 34, 42, 43, 44, 45, 46, 47, 48, 49, 50, 51, 52, 53, 54, 55] (by decide +kernel) (by decide +kernel)
set_option maxRecDepth 20000 in
theorem gX5_mostByCuts_X5_readCuttable : GoodIn wsX5_mostByCuts (wsV RX5 94 RX5 yX5_readCuttable wsX5_readCuttable) := goodIn_app (goodIn_of _ (by decide +kernel)) ggX5_mostByCuts_X5_readCuttable
set_option maxRecDepth 20000 in
theorem ggX5_mostByCuts_X5_sideWith : GoodIn wsX5_mostByCuts wsX5_sideWith := goodIn_r _ [37] (by decide +kernel) (by decide +kernel)
set_option maxRecDepth 20000 in
theorem gX5_mostByCuts_X5_sideWith : GoodIn wsX5_mostByCuts (va_wsS RX5 98 yX5_sideWith wsX5_sideWith) := goodIn_app (goodIn_of _ (by decide +kernel)) ggX5_mostByCuts_X5_sideWith
set_option maxRecDepth 20000 in
theorem ggX5_mostByCuts_X5_cutOf : GoodIn wsX5_mostByCuts wsX5_cutOf := goodIn_r _ [41, 11, 12, 13, 14, 42, 43, 44, 45, 46, 47, 48, 49] (by decide +kernel) (by decide +kernel)
set_option maxRecDepth 20000 in
theorem gX5_mostByCuts_X5_cutOf : GoodIn wsX5_mostByCuts (wsV RX5 101 RX5 yX5_cutOf wsX5_cutOf) := goodIn_app (goodIn_of _ (by decide +kernel)) ggX5_mostByCuts_X5_cutOf
theorem dX5_mostByCuts_0 : decode cX5_mostByCuts 0 = .ok (.aload_n 0, 1) := by decide +kernel
theorem dX5_mostByCuts_1 : decode cX5_mostByCuts 1 = .ok (.aload_n 1, 1) := by decide +kernel
theorem dX5_mostByCuts_2 : decode cX5_mostByCuts 2 = .ok (.invokevirtual 94, 3) := by decide +kernel
theorem dX5_mostByCuts_5 : decode cX5_mostByCuts 5 = .ok (.ldc 39, 2) := by decide +kernel
theorem dX5_mostByCuts_7 : decode cX5_mostByCuts 7 = .ok (.istore_n 2, 1) := by decide +kernel
theorem dX5_mostByCuts_8 : decode cX5_mostByCuts 8 = .ok (.iconst 0, 1) := by decide +kernel
theorem dX5_mostByCuts_9 : decode cX5_mostByCuts 9 = .ok (.istore_n 3, 1) := by decide +kernel
theorem dX5_mostByCuts_10 : decode cX5_mostByCuts 10 = .ok (.iload_n 3, 1) := by decide +kernel
theorem dX5_mostByCuts_11 : decode cX5_mostByCuts 11 = .ok (.sipush 256, 3) := by decide +kernel
theorem dX5_mostByCuts_14 : decode cX5_mostByCuts 14 = .ok (.if_icmp .ge 22, 3) := by decide +kernel
theorem dX5_mostByCuts_17 : decode cX5_mostByCuts 17 = .ok (.iload_n 2, 1) := by decide +kernel
theorem dX5_mostByCuts_18 : decode cX5_mostByCuts 18 = .ok (.aload_n 0, 1) := by decide +kernel
theorem dX5_mostByCuts_19 : decode cX5_mostByCuts 19 = .ok (.iload_n 3, 1) := by decide +kernel
theorem dX5_mostByCuts_20 : decode cX5_mostByCuts 20 = .ok (.invokestatic 98, 3) := by decide +kernel
theorem dX5_mostByCuts_23 : decode cX5_mostByCuts 23 = .ok (.invokevirtual 101, 3) := by decide +kernel
theorem dX5_mostByCuts_26 : decode cX5_mostByCuts 26 = .ok (.invokestatic 85, 3) := by decide +kernel
theorem dX5_mostByCuts_29 : decode cX5_mostByCuts 29 = .ok (.istore_n 2, 1) := by decide +kernel
theorem dX5_mostByCuts_30 : decode cX5_mostByCuts 30 = .ok (.iinc 3 1, 3) := by decide +kernel
theorem dX5_mostByCuts_33 : decode cX5_mostByCuts 33 = .ok (.goto (-23), 3) := by decide +kernel
theorem dX5_mostByCuts_36 : decode cX5_mostByCuts 36 = .ok (.iload_n 2, 1) := by decide +kernel
theorem dX5_mostByCuts_37 : decode cX5_mostByCuts 37 = .ok (.ireturn, 1) := by decide +kernel
set_option maxRecDepth 20000 in
theorem ggX5_readCuttable_X1_goesOn : GoodIn wsX5_readCuttable wsX1_goesOn := goodIn_r _ [9, 10, 11, 33, 34, 35, 36, 37, 38] (by decide +kernel) (by decide +kernel)
set_option maxRecDepth 20000 in
theorem gX5_readCuttable_X1_goesOn : GoodIn wsX5_readCuttable (wsV RX5 66 RX1 yX1_goesOn wsX1_goesOn) := goodIn_app (goodIn_of _ (by decide +kernel)) ggX5_readCuttable_X1_goesOn
set_option maxRecDepth 20000 in
theorem ggX5_readCuttable_X1_fromOf : GoodIn wsX5_readCuttable wsX1_fromOf := goodIn_r _ [15, 11, 33, 34, 35, 36, 37, 38] (by decide +kernel) (by decide +kernel)
set_option maxRecDepth 20000 in
theorem gX5_readCuttable_X1_fromOf : GoodIn wsX5_readCuttable (wsV RX5 69 RX1 yX1_fromOf wsX1_fromOf) := goodIn_app (goodIn_of _ (by decide +kernel)) ggX5_readCuttable_X1_fromOf
set_option maxRecDepth 20000 in
theorem ggX5_readCuttable_X1_toOf : GoodIn wsX5_readCuttable wsX1_toOf := goodIn_r _ [19, 10, 33, 34, 35, 36, 37, 38] (by decide +kernel) (by decide +kernel)
set_option maxRecDepth 20000 in
theorem gX5_readCuttable_X1_toOf : GoodIn wsX5_readCuttable (wsV RX5 79 RX1 yX1_toOf wsX1_toOf) := goodIn_app (goodIn_of _ (by decide +kernel)) ggX5_readCuttable_X1_toOf
set_option maxRecDepth 20000 in
theorem ggX5_readCuttable_X1_widthOf : GoodIn wsX5_readCuttable wsX1_widthOf := goodIn_r _ [23, 24, 33, 34, 35, 36, 37, 38] (by decide +kernel) (by decide +kernel)
set_option maxRecDepth 20000 in
theorem gX5_readCuttable_X1_widthOf : GoodIn wsX5_readCuttable (wsV RX5 76 RX1 yX1_widthOf wsX1_widthOf) := goodIn_app (goodIn_of _ (by decide +kernel)) ggX5_readCuttable_X1_widthOf
theorem dX5_readCuttable_0 : decode cX5_readCuttable 0 = .ok (.aload_n 0, 1) := by decide +kernel
theorem dX5_readCuttable_1 : decode cX5_readCuttable 1 = .ok (.iconst 0, 1) := by decide +kernel
theorem dX5_readCuttable_2 : decode cX5_readCuttable 2 = .ok (.putfield 104, 3) := by decide +kernel
theorem dX5_readCuttable_5 : decode cX5_readCuttable 5 = .ok (.iconst 0, 1) := by decide +kernel
theorem dX5_readCuttable_6 : decode cX5_readCuttable 6 = .ok (.istore_n 2, 1) := by decide +kernel
theorem dX5_readCuttable_7 : decode cX5_readCuttable 7 = .ok (.iload_n 2, 1) := by decide +kernel
theorem dX5_readCuttable_8 : decode cX5_readCuttable 8 = .ok (.aload_n 1, 1) := by decide +kernel
theorem dX5_readCuttable_9 : decode cX5_readCuttable 9 = .ok (.getfield 52, 3) := by decide +kernel
theorem dX5_readCuttable_12 : decode cX5_readCuttable 12 = .ok (.if_icmp .ge 74, 3) := by decide +kernel
theorem dX5_readCuttable_15 : decode cX5_readCuttable 15 = .ok (.iload_n 2, 1) := by decide +kernel
theorem dX5_readCuttable_16 : decode cX5_readCuttable 16 = .ok (.bipush 20, 2) := by decide +kernel
theorem dX5_readCuttable_18 : decode cX5_readCuttable 18 = .ok (.if_icmp .ge 68, 3) := by decide +kernel
theorem dX5_readCuttable_21 : decode cX5_readCuttable 21 = .ok (.aload_n 0, 1) := by decide +kernel
theorem dX5_readCuttable_22 : decode cX5_readCuttable 22 = .ok (.getfield 21, 3) := by decide +kernel
theorem dX5_readCuttable_25 : decode cX5_readCuttable 25 = .ok (.iload_n 2, 1) := by decide +kernel
theorem dX5_readCuttable_26 : decode cX5_readCuttable 26 = .ok (.aload_n 1, 1) := by decide +kernel
theorem dX5_readCuttable_27 : decode cX5_readCuttable 27 = .ok (.iload_n 2, 1) := by decide +kernel
theorem dX5_readCuttable_28 : decode cX5_readCuttable 28 = .ok (.invokevirtual 66, 3) := by decide +kernel
theorem dX5_readCuttable_31 : decode cX5_readCuttable 31 = .ok (.ifCond .eq 13, 3) := by decide +kernel
theorem dX5_readCuttable_34 : decode cX5_readCuttable 34 = .ok (.iconst 1, 1) := by decide +kernel
theorem dX5_readCuttable_35 : decode cX5_readCuttable 35 = .ok (.aload_n 1, 1) := by decide +kernel
theorem dX5_readCuttable_36 : decode cX5_readCuttable 36 = .ok (.iload_n 2, 1) := by decide +kernel
theorem dX5_readCuttable_37 : decode cX5_readCuttable 37 = .ok (.invokevirtual 69, 3) := by decide +kernel
theorem dX5_readCuttable_40 : decode cX5_readCuttable 40 = .ok (.ishl, 1) := by decide +kernel
theorem dX5_readCuttable_41 : decode cX5_readCuttable 41 = .ok (.goto 4, 3) := by decide +kernel
theorem dX5_readCuttable_44 : decode cX5_readCuttable 44 = .ok (.iconst 0, 1) := by decide +kernel
theorem dX5_readCuttable_45 : decode cX5_readCuttable 45 = .ok (.iastore, 1) := by decide +kernel
theorem dX5_readCuttable_46 : decode cX5_readCuttable 46 = .ok (.aload_n 0, 1) := by decide +kernel
theorem dX5_readCuttable_47 : decode cX5_readCuttable 47 = .ok (.getfield 24, 3) := by decide +kernel
theorem dX5_readCuttable_50 : decode cX5_readCuttable 50 = .ok (.iload_n 2, 1) := by decide +kernel
theorem dX5_readCuttable_51 : decode cX5_readCuttable 51 = .ok (.iconst 1, 1) := by decide +kernel
theorem dX5_readCuttable_52 : decode cX5_readCuttable 52 = .ok (.aload_n 1, 1) := by decide +kernel
theorem dX5_readCuttable_53 : decode cX5_readCuttable 53 = .ok (.iload_n 2, 1) := by decide +kernel
theorem dX5_readCuttable_54 : decode cX5_readCuttable 54 = .ok (.invokevirtual 79, 3) := by decide +kernel
theorem dX5_readCuttable_57 : decode cX5_readCuttable 57 = .ok (.ishl, 1) := by decide +kernel
theorem dX5_readCuttable_58 : decode cX5_readCuttable 58 = .ok (.iastore, 1) := by decide +kernel
theorem dX5_readCuttable_59 : decode cX5_readCuttable 59 = .ok (.aload_n 0, 1) := by decide +kernel
theorem dX5_readCuttable_60 : decode cX5_readCuttable 60 = .ok (.getfield 27, 3) := by decide +kernel
theorem dX5_readCuttable_63 : decode cX5_readCuttable 63 = .ok (.iload_n 2, 1) := by decide +kernel
theorem dX5_readCuttable_64 : decode cX5_readCuttable 64 = .ok (.aload_n 1, 1) := by decide +kernel
theorem dX5_readCuttable_65 : decode cX5_readCuttable 65 = .ok (.iload_n 2, 1) := by decide +kernel
theorem dX5_readCuttable_66 : decode cX5_readCuttable 66 = .ok (.invokevirtual 76, 3) := by decide +kernel
theorem dX5_readCuttable_69 : decode cX5_readCuttable 69 = .ok (.iastore, 1) := by decide +kernel
theorem dX5_readCuttable_70 : decode cX5_readCuttable 70 = .ok (.aload_n 0, 1) := by decide +kernel
theorem dX5_readCuttable_71 : decode cX5_readCuttable 71 = .ok (.dup, 1) := by decide +kernel
theorem dX5_readCuttable_72 : decode cX5_readCuttable 72 = .ok (.getfield 104, 3) := by decide +kernel
theorem dX5_readCuttable_75 : decode cX5_readCuttable 75 = .ok (.iconst 1, 1) := by decide +kernel
theorem dX5_readCuttable_76 : decode cX5_readCuttable 76 = .ok (.iadd, 1) := by decide +kernel
theorem dX5_readCuttable_77 : decode cX5_readCuttable 77 = .ok (.putfield 104, 3) := by decide +kernel
theorem dX5_readCuttable_80 : decode cX5_readCuttable 80 = .ok (.iinc 2 1, 3) := by decide +kernel
theorem dX5_readCuttable_83 : decode cX5_readCuttable 83 = .ok (.goto (-76), 3) := by decide +kernel
theorem dX5_readCuttable_86 : decode cX5_readCuttable 86 = .ok (.return_, 1) := by decide +kernel
theorem dX5_sideWith_0 : decode cX5_sideWith 0 = .ok (.iload_n 0, 1) := by decide +kernel
theorem dX5_sideWith_1 : decode cX5_sideWith 1 = .ok (.iconst 4, 1) := by decide +kernel
theorem dX5_sideWith_2 : decode cX5_sideWith 2 = .ok (.ishl, 1) := by decide +kernel
theorem dX5_sideWith_3 : decode cX5_sideWith 3 = .ok (.bipush 15, 2) := by decide +kernel
theorem dX5_sideWith_5 : decode cX5_sideWith 5 = .ok (.ior, 1) := by decide +kernel
theorem dX5_sideWith_6 : decode cX5_sideWith 6 = .ok (.ireturn, 1) := by decide +kernel
theorem dX5_cutOf_0 : decode cX5_cutOf 0 = .ok (.iconst 0, 1) := by decide +kernel
theorem dX5_cutOf_1 : decode cX5_cutOf 1 = .ok (.istore_n 2, 1) := by decide +kernel
theorem dX5_cutOf_2 : decode cX5_cutOf 2 = .ok (.iconst 0, 1) := by decide +kernel
theorem dX5_cutOf_3 : decode cX5_cutOf 3 = .ok (.istore_n 3, 1) := by decide +kernel
theorem dX5_cutOf_4 : decode cX5_cutOf 4 = .ok (.iload_n 3, 1) := by decide +kernel
theorem dX5_cutOf_5 : decode cX5_cutOf 5 = .ok (.aload_n 0, 1) := by decide +kernel
theorem dX5_cutOf_6 : decode cX5_cutOf 6 = .ok (.getfield 104, 3) := by decide +kernel
theorem dX5_cutOf_9 : decode cX5_cutOf 9 = .ok (.if_icmp .ge 46, 3) := by decide +kernel
theorem dX5_cutOf_12 : decode cX5_cutOf 12 = .ok (.iload_n 3, 1) := by decide +kernel
theorem dX5_cutOf_13 : decode cX5_cutOf 13 = .ok (.bipush 20, 2) := by decide +kernel
theorem dX5_cutOf_15 : decode cX5_cutOf 15 = .ok (.if_icmp .ge 40, 3) := by decide +kernel
theorem dX5_cutOf_18 : decode cX5_cutOf 18 = .ok (.aload_n 0, 1) := by decide +kernel
theorem dX5_cutOf_19 : decode cX5_cutOf 19 = .ok (.getfield 21, 3) := by decide +kernel
theorem dX5_cutOf_22 : decode cX5_cutOf 22 = .ok (.iload_n 3, 1) := by decide +kernel
theorem dX5_cutOf_23 : decode cX5_cutOf 23 = .ok (.iaload, 1) := by decide +kernel
theorem dX5_cutOf_24 : decode cX5_cutOf 24 = .ok (.iload_n 1, 1) := by decide +kernel
theorem dX5_cutOf_25 : decode cX5_cutOf 25 = .ok (.iand, 1) := by decide +kernel
theorem dX5_cutOf_26 : decode cX5_cutOf 26 = .ok (.ifCond .eq 23, 3) := by decide +kernel
theorem dX5_cutOf_29 : decode cX5_cutOf 29 = .ok (.aload_n 0, 1) := by decide +kernel
theorem dX5_cutOf_30 : decode cX5_cutOf 30 = .ok (.getfield 24, 3) := by decide +kernel
theorem dX5_cutOf_33 : decode cX5_cutOf 33 = .ok (.iload_n 3, 1) := by decide +kernel
theorem dX5_cutOf_34 : decode cX5_cutOf 34 = .ok (.iaload, 1) := by decide +kernel
theorem dX5_cutOf_35 : decode cX5_cutOf 35 = .ok (.iload_n 1, 1) := by decide +kernel
theorem dX5_cutOf_36 : decode cX5_cutOf 36 = .ok (.iand, 1) := by decide +kernel
theorem dX5_cutOf_37 : decode cX5_cutOf 37 = .ok (.ifCond .ne 12, 3) := by decide +kernel
theorem dX5_cutOf_40 : decode cX5_cutOf 40 = .ok (.iload_n 2, 1) := by decide +kernel
theorem dX5_cutOf_41 : decode cX5_cutOf 41 = .ok (.aload_n 0, 1) := by decide +kernel
theorem dX5_cutOf_42 : decode cX5_cutOf 42 = .ok (.getfield 27, 3) := by decide +kernel
theorem dX5_cutOf_45 : decode cX5_cutOf 45 = .ok (.iload_n 3, 1) := by decide +kernel
theorem dX5_cutOf_46 : decode cX5_cutOf 46 = .ok (.iaload, 1) := by decide +kernel
theorem dX5_cutOf_47 : decode cX5_cutOf 47 = .ok (.iadd, 1) := by decide +kernel
theorem dX5_cutOf_48 : decode cX5_cutOf 48 = .ok (.istore_n 2, 1) := by decide +kernel
theorem dX5_cutOf_49 : decode cX5_cutOf 49 = .ok (.iinc 3 1, 3) := by decide +kernel
theorem dX5_cutOf_52 : decode cX5_cutOf 52 = .ok (.goto (-48), 3) := by decide +kernel
theorem dX5_cutOf_55 : decode cX5_cutOf 55 = .ok (.iload_n 2, 1) := by decide +kernel
theorem dX5_cutOf_56 : decode cX5_cutOf 56 = .ok (.ireturn, 1) := by decide +kernel
set_option maxRecDepth 20000 in
theorem ggX5_ribbonThatMatters_X5_readCuttable : GoodIn wsX5_ribbonThatMatters wsX5_readCuttable := goodIn_r _ [15, 3, 4, 5, 6, 16, 17, 18, 19, 20, 21, 22, 23, 24, 25, 26, 27, 28, 29, 30, 31, 32, 33, 34, 35, 51, 52, 53, 54, 55, 56, 57, 58, 59, 60, 61, 62, 63, 64] (by decide +kernel) (by decide +kernel)
set_option maxRecDepth 20000 in
theorem gX5_ribbonThatMatters_X5_readCuttable : GoodIn wsX5_ribbonThatMatters (wsV RX5 94 RX5 yX5_readCuttable wsX5_readCuttable) := goodIn_app (goodIn_of _ (by decide +kernel)) ggX5_ribbonThatMatters_X5_readCuttable
set_option maxRecDepth 20000 in
theorem ggX5_ribbonThatMatters_J7_fill_53178 : GoodIn wsX5_ribbonThatMatters wsJ7_fill_53178 := goodIn_r _ [39] (by decide +kernel) (by decide +kernel)
set_option maxRecDepth 20000 in
theorem gX5_ribbonThatMatters_J7_fill_53178 : GoodIn wsX5_ribbonThatMatters (va_wsS RX5 33 yJ7_fill_53178 wsJ7_fill_53178) := goodIn_app (goodIn_of _ (by decide +kernel)) ggX5_ribbonThatMatters_J7_fill_53178
set_option maxRecDepth 20000 in
theorem ggX5_ribbonThatMatters_X5_sideWith : GoodIn wsX5_ribbonThatMatters wsX5_sideWith := goodIn_r _ [42] (by decide +kernel) (by decide +kernel)
set_option maxRecDepth 20000 in
theorem gX5_ribbonThatMatters_X5_sideWith : GoodIn wsX5_ribbonThatMatters (va_wsS RX5 98 yX5_sideWith wsX5_sideWith) := goodIn_app (goodIn_of _ (by decide +kernel)) ggX5_ribbonThatMatters_X5_sideWith
set_option maxRecDepth 20000 in
theorem ggX5_ribbonThatMatters_X5_cutOf : GoodIn wsX5_ribbonThatMatters wsX5_cutOf := goodIn_r _ [46, 3, 4, 5, 6, 51, 52, 53, 54, 55, 56, 57, 58] (by decide +kernel) (by decide +kernel)
set_option maxRecDepth 20000 in
theorem gX5_ribbonThatMatters_X5_cutOf : GoodIn wsX5_ribbonThatMatters (wsV RX5 101 RX5 yX5_cutOf wsX5_cutOf) := goodIn_app (goodIn_of _ (by decide +kernel)) ggX5_ribbonThatMatters_X5_cutOf
set_option maxRecDepth 20000 in
theorem ggX5_ribbonThatMatters_X5_leastThatGoesOn : GoodIn wsX5_ribbonThatMatters wsX5_leastThatGoesOn := goodIn_r _ [50, 2, 1, 16, 17, 18, 19, 20, 21, 22, 59, 60, 61, 62, 63, 64, 51, 52, 53, 54, 55, 56, 57, 58] (by decide +kernel) (by decide +kernel)
set_option maxRecDepth 20000 in
theorem gX5_ribbonThatMatters_X5_leastThatGoesOn : GoodIn wsX5_ribbonThatMatters (wsV RX5 107 RX5 yX5_leastThatGoesOn wsX5_leastThatGoesOn) := goodIn_app (goodIn_of _ (by decide +kernel)) ggX5_ribbonThatMatters_X5_leastThatGoesOn
theorem dX5_ribbonThatMatters_0 : decode cX5_ribbonThatMatters 0 = .ok (.aload_n 0, 1) := by decide +kernel
theorem dX5_ribbonThatMatters_1 : decode cX5_ribbonThatMatters 1 = .ok (.aload_n 1, 1) := by decide +kernel
theorem dX5_ribbonThatMatters_2 : decode cX5_ribbonThatMatters 2 = .ok (.invokevirtual 94, 3) := by decide +kernel
theorem dX5_ribbonThatMatters_5 : decode cX5_ribbonThatMatters 5 = .ok (.aload_n 0, 1) := by decide +kernel
theorem dX5_ribbonThatMatters_6 : decode cX5_ribbonThatMatters 6 = .ok (.getfield 30, 3) := by decide +kernel
theorem dX5_ribbonThatMatters_9 : decode cX5_ribbonThatMatters 9 = .ok (.ldc 39, 2) := by decide +kernel
theorem dX5_ribbonThatMatters_11 : decode cX5_ribbonThatMatters 11 = .ok (.invokestatic 33, 3) := by decide +kernel
theorem dX5_ribbonThatMatters_14 : decode cX5_ribbonThatMatters 14 = .ok (.iconst 0, 1) := by decide +kernel
theorem dX5_ribbonThatMatters_15 : decode cX5_ribbonThatMatters 15 = .ok (.istore_n 2, 1) := by decide +kernel
theorem dX5_ribbonThatMatters_16 : decode cX5_ribbonThatMatters 16 = .ok (.iload_n 2, 1) := by decide +kernel
theorem dX5_ribbonThatMatters_17 : decode cX5_ribbonThatMatters 17 = .ok (.sipush 256, 3) := by decide +kernel
theorem dX5_ribbonThatMatters_20 : decode cX5_ribbonThatMatters 20 = .ok (.if_icmp .ge 118, 3) := by decide +kernel
theorem dX5_ribbonThatMatters_23 : decode cX5_ribbonThatMatters 23 = .ok (.iload_n 2, 1) := by decide +kernel
theorem dX5_ribbonThatMatters_24 : decode cX5_ribbonThatMatters 24 = .ok (.invokestatic 98, 3) := by decide +kernel
theorem dX5_ribbonThatMatters_27 : decode cX5_ribbonThatMatters 27 = .ok (.istore_n 3, 1) := by decide +kernel
theorem dX5_ribbonThatMatters_28 : decode cX5_ribbonThatMatters 28 = .ok (.aload_n 0, 1) := by decide +kernel
theorem dX5_ribbonThatMatters_29 : decode cX5_ribbonThatMatters 29 = .ok (.iload_n 3, 1) := by decide +kernel
theorem dX5_ribbonThatMatters_30 : decode cX5_ribbonThatMatters 30 = .ok (.invokevirtual 101, 3) := by decide +kernel
theorem dX5_ribbonThatMatters_33 : decode cX5_ribbonThatMatters 33 = .ok (.istore 4, 2) := by decide +kernel
theorem dX5_ribbonThatMatters_35 : decode cX5_ribbonThatMatters 35 = .ok (.iconst 0, 1) := by decide +kernel
theorem dX5_ribbonThatMatters_36 : decode cX5_ribbonThatMatters 36 = .ok (.istore 5, 2) := by decide +kernel
theorem dX5_ribbonThatMatters_38 : decode cX5_ribbonThatMatters 38 = .ok (.iload 5, 2) := by decide +kernel
theorem dX5_ribbonThatMatters_40 : decode cX5_ribbonThatMatters 40 = .ok (.aload_n 0, 1) := by decide +kernel
theorem dX5_ribbonThatMatters_41 : decode cX5_ribbonThatMatters 41 = .ok (.getfield 104, 3) := by decide +kernel
theorem dX5_ribbonThatMatters_44 : decode cX5_ribbonThatMatters 44 = .ok (.if_icmp .ge 88, 3) := by decide +kernel
theorem dX5_ribbonThatMatters_47 : decode cX5_ribbonThatMatters 47 = .ok (.iload 5, 2) := by decide +kernel
theorem dX5_ribbonThatMatters_49 : decode cX5_ribbonThatMatters 49 = .ok (.bipush 20, 2) := by decide +kernel
theorem dX5_ribbonThatMatters_51 : decode cX5_ribbonThatMatters 51 = .ok (.if_icmp .ge 81, 3) := by decide +kernel
theorem dX5_ribbonThatMatters_54 : decode cX5_ribbonThatMatters 54 = .ok (.aload_n 0, 1) := by decide +kernel
theorem dX5_ribbonThatMatters_55 : decode cX5_ribbonThatMatters 55 = .ok (.getfield 21, 3) := by decide +kernel
theorem dX5_ribbonThatMatters_58 : decode cX5_ribbonThatMatters 58 = .ok (.iload 5, 2) := by decide +kernel
theorem dX5_ribbonThatMatters_60 : decode cX5_ribbonThatMatters 60 = .ok (.iaload, 1) := by decide +kernel
theorem dX5_ribbonThatMatters_61 : decode cX5_ribbonThatMatters 61 = .ok (.iload_n 3, 1) := by decide +kernel
theorem dX5_ribbonThatMatters_62 : decode cX5_ribbonThatMatters 62 = .ok (.iand, 1) := by decide +kernel
theorem dX5_ribbonThatMatters_63 : decode cX5_ribbonThatMatters 63 = .ok (.ifCond .eq 19, 3) := by decide +kernel
theorem dX5_ribbonThatMatters_66 : decode cX5_ribbonThatMatters 66 = .ok (.aload_n 0, 1) := by decide +kernel
theorem dX5_ribbonThatMatters_67 : decode cX5_ribbonThatMatters 67 = .ok (.getfield 24, 3) := by decide +kernel
theorem dX5_ribbonThatMatters_70 : decode cX5_ribbonThatMatters 70 = .ok (.iload 5, 2) := by decide +kernel
theorem dX5_ribbonThatMatters_72 : decode cX5_ribbonThatMatters 72 = .ok (.iaload, 1) := by decide +kernel
theorem dX5_ribbonThatMatters_73 : decode cX5_ribbonThatMatters 73 = .ok (.iload_n 3, 1) := by decide +kernel
theorem dX5_ribbonThatMatters_74 : decode cX5_ribbonThatMatters 74 = .ok (.iand, 1) := by decide +kernel
theorem dX5_ribbonThatMatters_75 : decode cX5_ribbonThatMatters 75 = .ok (.ifCond .ne 7, 3) := by decide +kernel
theorem dX5_ribbonThatMatters_78 : decode cX5_ribbonThatMatters 78 = .ok (.iconst 1, 1) := by decide +kernel
theorem dX5_ribbonThatMatters_79 : decode cX5_ribbonThatMatters 79 = .ok (.goto 4, 3) := by decide +kernel
theorem dX5_ribbonThatMatters_82 : decode cX5_ribbonThatMatters 82 = .ok (.iconst 0, 1) := by decide +kernel
theorem dX5_ribbonThatMatters_83 : decode cX5_ribbonThatMatters 83 = .ok (.istore 6, 2) := by decide +kernel
theorem dX5_ribbonThatMatters_85 : decode cX5_ribbonThatMatters 85 = .ok (.iload 6, 2) := by decide +kernel
theorem dX5_ribbonThatMatters_87 : decode cX5_ribbonThatMatters 87 = .ok (.ifCond .eq 16, 3) := by decide +kernel
theorem dX5_ribbonThatMatters_90 : decode cX5_ribbonThatMatters 90 = .ok (.iload 4, 2) := by decide +kernel
theorem dX5_ribbonThatMatters_92 : decode cX5_ribbonThatMatters 92 = .ok (.aload_n 0, 1) := by decide +kernel
theorem dX5_ribbonThatMatters_93 : decode cX5_ribbonThatMatters 93 = .ok (.getfield 27, 3) := by decide +kernel
theorem dX5_ribbonThatMatters_96 : decode cX5_ribbonThatMatters 96 = .ok (.iload 5, 2) := by decide +kernel
theorem dX5_ribbonThatMatters_98 : decode cX5_ribbonThatMatters 98 = .ok (.iaload, 1) := by decide +kernel
theorem dX5_ribbonThatMatters_99 : decode cX5_ribbonThatMatters 99 = .ok (.isub, 1) := by decide +kernel
theorem dX5_ribbonThatMatters_100 : decode cX5_ribbonThatMatters 100 = .ok (.goto 5, 3) := by decide +kernel
theorem dX5_ribbonThatMatters_103 : decode cX5_ribbonThatMatters 103 = .ok (.iload 4, 2) := by decide +kernel
theorem dX5_ribbonThatMatters_105 : decode cX5_ribbonThatMatters 105 = .ok (.istore 7, 2) := by decide +kernel
theorem dX5_ribbonThatMatters_107 : decode cX5_ribbonThatMatters 107 = .ok (.aload_n 0, 1) := by decide +kernel
theorem dX5_ribbonThatMatters_108 : decode cX5_ribbonThatMatters 108 = .ok (.getfield 30, 3) := by decide +kernel
theorem dX5_ribbonThatMatters_111 : decode cX5_ribbonThatMatters 111 = .ok (.iload 5, 2) := by decide +kernel
theorem dX5_ribbonThatMatters_113 : decode cX5_ribbonThatMatters 113 = .ok (.aload_n 0, 1) := by decide +kernel
theorem dX5_ribbonThatMatters_114 : decode cX5_ribbonThatMatters 114 = .ok (.getfield 30, 3) := by decide +kernel
theorem dX5_ribbonThatMatters_117 : decode cX5_ribbonThatMatters 117 = .ok (.iload 5, 2) := by decide +kernel
theorem dX5_ribbonThatMatters_119 : decode cX5_ribbonThatMatters 119 = .ok (.iaload, 1) := by decide +kernel
theorem dX5_ribbonThatMatters_120 : decode cX5_ribbonThatMatters 120 = .ok (.iload 7, 2) := by decide +kernel
theorem dX5_ribbonThatMatters_122 : decode cX5_ribbonThatMatters 122 = .ok (.invokestatic 85, 3) := by decide +kernel
theorem dX5_ribbonThatMatters_125 : decode cX5_ribbonThatMatters 125 = .ok (.iastore, 1) := by decide +kernel
theorem dX5_ribbonThatMatters_126 : decode cX5_ribbonThatMatters 126 = .ok (.iinc 5 1, 3) := by decide +kernel
theorem dX5_ribbonThatMatters_129 : decode cX5_ribbonThatMatters 129 = .ok (.goto (-91), 3) := by decide +kernel
theorem dX5_ribbonThatMatters_132 : decode cX5_ribbonThatMatters 132 = .ok (.iinc 2 1, 3) := by decide +kernel
theorem dX5_ribbonThatMatters_135 : decode cX5_ribbonThatMatters 135 = .ok (.goto (-119), 3) := by decide +kernel
theorem dX5_ribbonThatMatters_138 : decode cX5_ribbonThatMatters 138 = .ok (.aload_n 0, 1) := by decide +kernel
theorem dX5_ribbonThatMatters_139 : decode cX5_ribbonThatMatters 139 = .ok (.aload_n 1, 1) := by decide +kernel
theorem dX5_ribbonThatMatters_140 : decode cX5_ribbonThatMatters 140 = .ok (.invokevirtual 107, 3) := by decide +kernel
theorem dX5_ribbonThatMatters_143 : decode cX5_ribbonThatMatters 143 = .ok (.ireturn, 1) := by decide +kernel
set_option maxRecDepth 20000 in
theorem ggX5_leastThatGoesOn_X1_goesOn : GoodIn wsX5_leastThatGoesOn wsX1_goesOn := goodIn_r _ [7, 8, 9, 10, 11, 12, 13, 14, 15] (by decide +kernel) (by decide +kernel)
set_option maxRecDepth 20000 in
theorem gX5_leastThatGoesOn_X1_goesOn : GoodIn wsX5_leastThatGoesOn (wsV RX5 66 RX1 yX1_goesOn wsX1_goesOn) := goodIn_app (goodIn_of _ (by decide +kernel)) ggX5_leastThatGoesOn_X1_goesOn
theorem dX5_leastThatGoesOn_0 : decode cX5_leastThatGoesOn 0 = .ok (.iconst (-1), 1) := by decide +kernel
theorem dX5_leastThatGoesOn_1 : decode cX5_leastThatGoesOn 1 = .ok (.istore_n 2, 1) := by decide +kernel
theorem dX5_leastThatGoesOn_2 : decode cX5_leastThatGoesOn 2 = .ok (.ldc 39, 2) := by decide +kernel
theorem dX5_leastThatGoesOn_4 : decode cX5_leastThatGoesOn 4 = .ok (.istore_n 3, 1) := by decide +kernel
theorem dX5_leastThatGoesOn_5 : decode cX5_leastThatGoesOn 5 = .ok (.iconst 0, 1) := by decide +kernel
theorem dX5_leastThatGoesOn_6 : decode cX5_leastThatGoesOn 6 = .ok (.istore 4, 2) := by decide +kernel
theorem dX5_leastThatGoesOn_8 : decode cX5_leastThatGoesOn 8 = .ok (.iload 4, 2) := by decide +kernel
theorem dX5_leastThatGoesOn_10 : decode cX5_leastThatGoesOn 10 = .ok (.aload_n 1, 1) := by decide +kernel
theorem dX5_leastThatGoesOn_11 : decode cX5_leastThatGoesOn 11 = .ok (.getfield 52, 3) := by decide +kernel
theorem dX5_leastThatGoesOn_14 : decode cX5_leastThatGoesOn 14 = .ok (.if_icmp .ge 47, 3) := by decide +kernel
theorem dX5_leastThatGoesOn_17 : decode cX5_leastThatGoesOn 17 = .ok (.iload 4, 2) := by decide +kernel
theorem dX5_leastThatGoesOn_19 : decode cX5_leastThatGoesOn 19 = .ok (.bipush 20, 2) := by decide +kernel
theorem dX5_leastThatGoesOn_21 : decode cX5_leastThatGoesOn 21 = .ok (.if_icmp .ge 40, 3) := by decide +kernel
theorem dX5_leastThatGoesOn_24 : decode cX5_leastThatGoesOn 24 = .ok (.aload_n 1, 1) := by decide +kernel
theorem dX5_leastThatGoesOn_25 : decode cX5_leastThatGoesOn 25 = .ok (.iload 4, 2) := by decide +kernel
theorem dX5_leastThatGoesOn_27 : decode cX5_leastThatGoesOn 27 = .ok (.invokevirtual 66, 3) := by decide +kernel
theorem dX5_leastThatGoesOn_30 : decode cX5_leastThatGoesOn 30 = .ok (.ifCond .eq 25, 3) := by decide +kernel
theorem dX5_leastThatGoesOn_33 : decode cX5_leastThatGoesOn 33 = .ok (.aload_n 0, 1) := by decide +kernel
theorem dX5_leastThatGoesOn_34 : decode cX5_leastThatGoesOn 34 = .ok (.getfield 30, 3) := by decide +kernel
theorem dX5_leastThatGoesOn_37 : decode cX5_leastThatGoesOn 37 = .ok (.iload 4, 2) := by decide +kernel
theorem dX5_leastThatGoesOn_39 : decode cX5_leastThatGoesOn 39 = .ok (.iaload, 1) := by decide +kernel
theorem dX5_leastThatGoesOn_40 : decode cX5_leastThatGoesOn 40 = .ok (.iload_n 3, 1) := by decide +kernel
theorem dX5_leastThatGoesOn_41 : decode cX5_leastThatGoesOn 41 = .ok (.if_icmp .ge 14, 3) := by decide +kernel
theorem dX5_leastThatGoesOn_44 : decode cX5_leastThatGoesOn 44 = .ok (.iload 4, 2) := by decide +kernel
theorem dX5_leastThatGoesOn_46 : decode cX5_leastThatGoesOn 46 = .ok (.istore_n 2, 1) := by decide +kernel
theorem dX5_leastThatGoesOn_47 : decode cX5_leastThatGoesOn 47 = .ok (.aload_n 0, 1) := by decide +kernel
theorem dX5_leastThatGoesOn_48 : decode cX5_leastThatGoesOn 48 = .ok (.getfield 30, 3) := by decide +kernel
theorem dX5_leastThatGoesOn_51 : decode cX5_leastThatGoesOn 51 = .ok (.iload 4, 2) := by decide +kernel
theorem dX5_leastThatGoesOn_53 : decode cX5_leastThatGoesOn 53 = .ok (.iaload, 1) := by decide +kernel
theorem dX5_leastThatGoesOn_54 : decode cX5_leastThatGoesOn 54 = .ok (.istore_n 3, 1) := by decide +kernel
theorem dX5_leastThatGoesOn_55 : decode cX5_leastThatGoesOn 55 = .ok (.iinc 4 1, 3) := by decide +kernel
theorem dX5_leastThatGoesOn_58 : decode cX5_leastThatGoesOn 58 = .ok (.goto (-50), 3) := by decide +kernel
theorem dX5_leastThatGoesOn_61 : decode cX5_leastThatGoesOn 61 = .ok (.iload_n 2, 1) := by decide +kernel
theorem dX5_leastThatGoesOn_62 : decode cX5_leastThatGoesOn 62 = .ok (.ireturn, 1) := by decide +kernel
set_option maxRecDepth 20000 in
theorem ggX6_init_X1_init : GoodIn wsX6_init wsX1_init := goodIn_r _ [32, 33, 2, 3, 34, 35, 36, 37, 38, 72, 73, 74, 75, 76, 77] (by decide +kernel) (by decide +kernel)
set_option maxRecDepth 20000 in
theorem gX6_init_X1_init : GoodIn wsX6_init (wsX1_init) := ggX6_init_X1_init
set_option maxRecDepth 20000 in
theorem ggX6_init_X3_init : GoodIn wsX6_init wsX3_init := goodIn_r _ [40, 41, 2, 3, 42, 43, 86, 87, 88] (by decide +kernel) (by decide +kernel)
set_option maxRecDepth 20000 in
theorem gX6_init_X3_init_n25 : GoodIn wsX6_init (wsX3_init) := ggX6_init_X3_init
set_option maxRecDepth 20000 in
theorem ggX6_init_X4_init : GoodIn wsX6_init wsX4_init := goodIn_r _ [45, 46, 2, 3, 34, 47, 89, 90] (by decide +kernel) (by decide +kernel)
set_option maxRecDepth 20000 in
theorem gX6_init_X4_init_n32 : GoodIn wsX6_init (wsX4_init) := ggX6_init_X4_init
set_option maxRecDepth 20000 in
theorem ggX6_init_X0_init : GoodIn wsX6_init wsX0_init := goodIn_r _ [49, 50, 2, 3, 34, 51, 52, 53, 91, 92, 93, 94] (by decide +kernel) (by decide +kernel)
set_option maxRecDepth 20000 in
theorem gX6_init_X0_init_n39 : GoodIn wsX6_init (wsX0_init) := ggX6_init_X0_init
set_option maxRecDepth 20000 in
theorem ggX6_init_X2_init : GoodIn wsX6_init wsX2_init := goodIn_r _ [55, 56, 2, 3, 34, 57, 58, 59, 60, 61, 95, 96, 97, 98, 99] (by decide +kernel) (by decide +kernel)
set_option maxRecDepth 20000 in
theorem gX6_init_X2_init_n46 : GoodIn wsX6_init (wsX2_init) := ggX6_init_X2_init
set_option maxRecDepth 20000 in
theorem ggX6_init_X5_init : GoodIn wsX6_init wsX5_init := goodIn_r _ [63, 64, 2, 3, 34, 65, 66, 67, 68, 69, 70, 71, 100, 101, 102, 103, 104, 105, 106, 107] (by decide +kernel) (by decide +kernel)
set_option maxRecDepth 20000 in
theorem gX6_init_X5_init_n53 : GoodIn wsX6_init (wsX5_init) := ggX6_init_X5_init
theorem dX6_init_0 : decode cX6_init 0 = .ok (.aload_n 0, 1) := by decide +kernel
theorem dX6_init_1 : decode cX6_init 1 = .ok (.invokespecial 1, 3) := by decide +kernel
theorem dX6_init_4 : decode cX6_init 4 = .ok (.aload_n 0, 1) := by decide +kernel
theorem dX6_init_5 : decode cX6_init 5 = .ok (.new 7, 3) := by decide +kernel
theorem dX6_init_8 : decode cX6_init 8 = .ok (.dup, 1) := by decide +kernel
theorem dX6_init_9 : decode cX6_init 9 = .ok (.invokespecial 9, 3) := by decide +kernel
theorem dX6_init_12 : decode cX6_init 12 = .ok (.putfield 10, 3) := by decide +kernel
theorem dX6_init_15 : decode cX6_init 15 = .ok (.aload_n 0, 1) := by decide +kernel
theorem dX6_init_16 : decode cX6_init 16 = .ok (.new 7, 3) := by decide +kernel
theorem dX6_init_19 : decode cX6_init 19 = .ok (.dup, 1) := by decide +kernel
theorem dX6_init_20 : decode cX6_init 20 = .ok (.invokespecial 9, 3) := by decide +kernel
theorem dX6_init_23 : decode cX6_init 23 = .ok (.putfield 16, 3) := by decide +kernel
theorem dX6_init_26 : decode cX6_init 26 = .ok (.aload_n 0, 1) := by decide +kernel
theorem dX6_init_27 : decode cX6_init 27 = .ok (.iconst 2, 1) := by decide +kernel
theorem dX6_init_28 : decode cX6_init 28 = .ok (.anewarray 7, 3) := by decide +kernel
theorem dX6_init_31 : decode cX6_init 31 = .ok (.putfield 19, 3) := by decide +kernel
theorem dX6_init_34 : decode cX6_init 34 = .ok (.aload_n 0, 1) := by decide +kernel
theorem dX6_init_35 : decode cX6_init 35 = .ok (.new 23, 3) := by decide +kernel
theorem dX6_init_38 : decode cX6_init 38 = .ok (.dup, 1) := by decide +kernel
theorem dX6_init_39 : decode cX6_init 39 = .ok (.invokespecial 25, 3) := by decide +kernel
theorem dX6_init_42 : decode cX6_init 42 = .ok (.putfield 26, 3) := by decide +kernel
theorem dX6_init_45 : decode cX6_init 45 = .ok (.aload_n 0, 1) := by decide +kernel
theorem dX6_init_46 : decode cX6_init 46 = .ok (.new 30, 3) := by decide +kernel
theorem dX6_init_49 : decode cX6_init 49 = .ok (.dup, 1) := by decide +kernel
theorem dX6_init_50 : decode cX6_init 50 = .ok (.invokespecial 32, 3) := by decide +kernel
theorem dX6_init_53 : decode cX6_init 53 = .ok (.putfield 33, 3) := by decide +kernel
theorem dX6_init_56 : decode cX6_init 56 = .ok (.aload_n 0, 1) := by decide +kernel
theorem dX6_init_57 : decode cX6_init 57 = .ok (.new 37, 3) := by decide +kernel
theorem dX6_init_60 : decode cX6_init 60 = .ok (.dup, 1) := by decide +kernel
theorem dX6_init_61 : decode cX6_init 61 = .ok (.invokespecial 39, 3) := by decide +kernel
theorem dX6_init_64 : decode cX6_init 64 = .ok (.putfield 40, 3) := by decide +kernel
theorem dX6_init_67 : decode cX6_init 67 = .ok (.aload_n 0, 1) := by decide +kernel
theorem dX6_init_68 : decode cX6_init 68 = .ok (.new 44, 3) := by decide +kernel
theorem dX6_init_71 : decode cX6_init 71 = .ok (.dup, 1) := by decide +kernel
theorem dX6_init_72 : decode cX6_init 72 = .ok (.invokespecial 46, 3) := by decide +kernel
theorem dX6_init_75 : decode cX6_init 75 = .ok (.putfield 47, 3) := by decide +kernel
theorem dX6_init_78 : decode cX6_init 78 = .ok (.aload_n 0, 1) := by decide +kernel
theorem dX6_init_79 : decode cX6_init 79 = .ok (.new 51, 3) := by decide +kernel
theorem dX6_init_82 : decode cX6_init 82 = .ok (.dup, 1) := by decide +kernel
theorem dX6_init_83 : decode cX6_init 83 = .ok (.invokespecial 53, 3) := by decide +kernel
theorem dX6_init_86 : decode cX6_init 86 = .ok (.putfield 54, 3) := by decide +kernel
theorem dX6_init_89 : decode cX6_init 89 = .ok (.return_, 1) := by decide +kernel
set_option maxRecDepth 20000 in
theorem ggX6_ribbon_X6_checkPost : GoodIn wsX6_ribbon wsX6_checkPost := goodIn_ca (goodIn_r _ [10, 11, 12, 13, 14, 9, 15] (by decide +kernel) (by decide +kernel)) (goodIn_sub (fun _ h => List.mem_cons_of_mem _ (List.mem_append_right _ h)) (by decide +kernel))
set_option maxRecDepth 20000 in
theorem gX6_ribbon_X6_checkPost : GoodIn wsX6_ribbon (va_wsS RX6 58 yX6_checkPost wsX6_checkPost) := goodIn_app (goodIn_of _ (by decide +kernel)) ggX6_ribbon_X6_checkPost
set_option maxRecDepth 20000 in
theorem ggX6_ribbon_X6_columnOf : GoodIn wsX6_ribbon wsX6_columnOf := goodIn_r _ [18] (by decide +kernel) (by decide +kernel)
set_option maxRecDepth 20000 in
theorem gX6_ribbon_X6_columnOf : GoodIn wsX6_ribbon (va_wsS RX6 62 yX6_columnOf wsX6_columnOf) := goodIn_app (goodIn_of _ (by decide +kernel)) ggX6_ribbon_X6_columnOf
set_option maxRecDepth 20000 in
theorem ggX6_ribbon_X3_save : GoodIn wsX6_ribbon wsX3_save := goodIn_r _ [23, 24, 25, 26, 27, 28, 29, 30, 31, 32, 33, 34, 35, 36, 37, 38, 39, 40, 41, 42, 43, 44, 45, 46, 47, 48, 49, 50, 69, 70, 71, 63, 64, 65, 66, 67, 68] (by decide +kernel) (by decide +kernel)
set_option maxRecDepth 20000 in
theorem gX6_ribbon_X3_save : GoodIn wsX6_ribbon (wsV RX6 84 RX3 yX3_save wsX3_save) := goodIn_app (goodIn_of _ (by decide +kernel)) ggX6_ribbon_X3_save
set_option maxRecDepth 20000 in
theorem ggX6_ribbon_X1_addRibbon : GoodIn wsX6_ribbon wsX1_addRibbon := goodIn_r _ [54, 49, 38, 39, 40, 63, 64, 65, 66, 67, 68] (by decide +kernel) (by decide +kernel)
set_option maxRecDepth 20000 in
theorem gX6_ribbon_X1_addRibbon : GoodIn wsX6_ribbon (wsV RX6 88 RX1 yX1_addRibbon wsX1_addRibbon) := goodIn_app (goodIn_of _ (by decide +kernel)) ggX6_ribbon_X1_addRibbon
theorem dX6_ribbon_0 : decode cX6_ribbon 0 = .ok (.iload_n 1, 1) := by decide +kernel
theorem dX6_ribbon_1 : decode cX6_ribbon 1 = .ok (.invokestatic 58, 3) := by decide +kernel
theorem dX6_ribbon_4 : decode cX6_ribbon 4 = .ok (.iload_n 2, 1) := by decide +kernel
theorem dX6_ribbon_5 : decode cX6_ribbon 5 = .ok (.invokestatic 58, 3) := by decide +kernel
theorem dX6_ribbon_8 : decode cX6_ribbon 8 = .ok (.iload_n 1, 1) := by decide +kernel
theorem dX6_ribbon_9 : decode cX6_ribbon 9 = .ok (.invokestatic 62, 3) := by decide +kernel
theorem dX6_ribbon_12 : decode cX6_ribbon 12 = .ok (.iload_n 2, 1) := by decide +kernel
theorem dX6_ribbon_13 : decode cX6_ribbon 13 = .ok (.invokestatic 62, 3) := by decide +kernel
theorem dX6_ribbon_16 : decode cX6_ribbon 16 = .ok (.if_icmp .ne 13, 3) := by decide +kernel
theorem dX6_ribbon_19 : decode cX6_ribbon 19 = .ok (.new 66, 3) := by decide +kernel
theorem dX6_ribbon_22 : decode cX6_ribbon 22 = .ok (.dup, 1) := by decide +kernel
theorem dX6_ribbon_23 : decode cX6_ribbon 23 = .ok (.ldc 68, 2) := by decide +kernel
theorem dX6_ribbon_25 : decode cX6_ribbon 25 = .ok (.invokespecial 70, 3) := by decide +kernel
theorem dX6_ribbon_28 : decode cX6_ribbon 28 = .ok (.athrow, 1) := by decide +kernel
theorem dX6_ribbon_29 : decode cX6_ribbon 29 = .ok (.iload_n 3, 1) := by decide +kernel
theorem dX6_ribbon_30 : decode cX6_ribbon 30 = .ok (.iconst 1, 1) := by decide +kernel
theorem dX6_ribbon_31 : decode cX6_ribbon 31 = .ok (.if_icmp .lt 9, 3) := by decide +kernel
theorem dX6_ribbon_34 : decode cX6_ribbon 34 = .ok (.iload_n 3, 1) := by decide +kernel
theorem dX6_ribbon_35 : decode cX6_ribbon 35 = .ok (.bipush 50, 2) := by decide +kernel
theorem dX6_ribbon_37 : decode cX6_ribbon 37 = .ok (.if_icmp .le 13, 3) := by decide +kernel
theorem dX6_ribbon_40 : decode cX6_ribbon 40 = .ok (.new 66, 3) := by decide +kernel
theorem dX6_ribbon_43 : decode cX6_ribbon 43 = .ok (.dup, 1) := by decide +kernel
theorem dX6_ribbon_44 : decode cX6_ribbon 44 = .ok (.ldc 73, 2) := by decide +kernel
theorem dX6_ribbon_46 : decode cX6_ribbon 46 = .ok (.invokespecial 70, 3) := by decide +kernel
theorem dX6_ribbon_49 : decode cX6_ribbon 49 = .ok (.athrow, 1) := by decide +kernel
theorem dX6_ribbon_50 : decode cX6_ribbon 50 = .ok (.aload_n 0, 1) := by decide +kernel
theorem dX6_ribbon_51 : decode cX6_ribbon 51 = .ok (.getfield 10, 3) := by decide +kernel
theorem dX6_ribbon_54 : decode cX6_ribbon 54 = .ok (.getfield 75, 3) := by decide +kernel
theorem dX6_ribbon_57 : decode cX6_ribbon 57 = .ok (.bipush 20, 2) := by decide +kernel
theorem dX6_ribbon_59 : decode cX6_ribbon 59 = .ok (.if_icmp .lt 13, 3) := by decide +kernel
theorem dX6_ribbon_62 : decode cX6_ribbon 62 = .ok (.new 79, 3) := by decide +kernel
theorem dX6_ribbon_65 : decode cX6_ribbon 65 = .ok (.dup, 1) := by decide +kernel
theorem dX6_ribbon_66 : decode cX6_ribbon 66 = .ok (.ldc 81, 2) := by decide +kernel
theorem dX6_ribbon_68 : decode cX6_ribbon 68 = .ok (.invokespecial 83, 3) := by decide +kernel
theorem dX6_ribbon_71 : decode cX6_ribbon 71 = .ok (.athrow, 1) := by decide +kernel
theorem dX6_ribbon_72 : decode cX6_ribbon 72 = .ok (.aload_n 0, 1) := by decide +kernel
theorem dX6_ribbon_73 : decode cX6_ribbon 73 = .ok (.getfield 26, 3) := by decide +kernel
theorem dX6_ribbon_76 : decode cX6_ribbon 76 = .ok (.aload_n 0, 1) := by decide +kernel
theorem dX6_ribbon_77 : decode cX6_ribbon 77 = .ok (.getfield 10, 3) := by decide +kernel
theorem dX6_ribbon_80 : decode cX6_ribbon 80 = .ok (.invokevirtual 84, 3) := by decide +kernel
theorem dX6_ribbon_83 : decode cX6_ribbon 83 = .ok (.aload_n 0, 1) := by decide +kernel
theorem dX6_ribbon_84 : decode cX6_ribbon 84 = .ok (.getfield 10, 3) := by decide +kernel
theorem dX6_ribbon_87 : decode cX6_ribbon 87 = .ok (.iload_n 1, 1) := by decide +kernel
theorem dX6_ribbon_88 : decode cX6_ribbon 88 = .ok (.iload_n 2, 1) := by decide +kernel
theorem dX6_ribbon_89 : decode cX6_ribbon 89 = .ok (.iload_n 3, 1) := by decide +kernel
theorem dX6_ribbon_90 : decode cX6_ribbon 90 = .ok (.invokevirtual 88, 3) := by decide +kernel
theorem dX6_ribbon_93 : decode cX6_ribbon 93 = .ok (.aload_n 0, 1) := by decide +kernel
theorem dX6_ribbon_94 : decode cX6_ribbon 94 = .ok (.getfield 10, 3) := by decide +kernel
theorem dX6_ribbon_97 : decode cX6_ribbon 97 = .ok (.getfield 75, 3) := by decide +kernel
theorem dX6_ribbon_100 : decode cX6_ribbon 100 = .ok (.iconst 1, 1) := by decide +kernel
theorem dX6_ribbon_101 : decode cX6_ribbon 101 = .ok (.isub, 1) := by decide +kernel
theorem dX6_ribbon_102 : decode cX6_ribbon 102 = .ok (.ireturn, 1) := by decide +kernel
set_option maxRecDepth 20000 in
theorem ggX6_widen_X6_checkRibbon : GoodIn wsX6_widen wsX6_checkRibbon := goodIn_ca (goodIn_r _ [9, 10, 11, 4, 12, 13, 14, 15, 16, 17, 57, 58, 59, 60, 61, 62, 63, 64, 65, 66, 67, 68, 69, 70] (by decide +kernel) (by decide +kernel)) (goodIn_sub (fun _ h => List.mem_cons_of_mem _ (List.mem_append_right _ h)) (by decide +kernel))
set_option maxRecDepth 20000 in
theorem gX6_widen_X6_checkRibbon : GoodIn wsX6_widen (wsV RX6 92 RX6 yX6_checkRibbon wsX6_checkRibbon) := goodIn_app (goodIn_of _ (by decide +kernel)) ggX6_widen_X6_checkRibbon
set_option maxRecDepth 20000 in
theorem ggX6_widen_X3_save : GoodIn wsX6_widen wsX3_save := goodIn_r _ [22, 23, 24, 25, 26, 27, 15, 28, 29, 30, 31, 32, 33, 34, 35, 36, 37, 38, 39, 40, 41, 42, 43, 44, 45, 46, 17, 47, 71, 72, 73, 65, 66, 67, 68, 69, 70] (by decide +kernel) (by decide +kernel)
set_option maxRecDepth 20000 in
theorem gX6_widen_X3_save : GoodIn wsX6_widen (wsV RX6 84 RX3 yX3_save wsX3_save) := goodIn_app (goodIn_of _ (by decide +kernel)) ggX6_widen_X3_save
set_option maxRecDepth 20000 in
theorem ggX6_widen_X1_widthOf : GoodIn wsX6_widen wsX1_widthOf := goodIn_r _ [51, 38, 65, 66, 67, 68, 69, 70] (by decide +kernel) (by decide +kernel)
set_option maxRecDepth 20000 in
theorem gX6_widen_X1_widthOf : GoodIn wsX6_widen (wsV RX6 97 RX1 yX1_widthOf wsX1_widthOf) := goodIn_app (goodIn_of _ (by decide +kernel)) ggX6_widen_X1_widthOf
set_option maxRecDepth 20000 in
theorem ggX6_widen_X1_setWidth : GoodIn wsX6_widen wsX1_setWidth := goodIn_r _ [55, 38, 56, 13, 14, 15, 16, 17, 65, 66, 67, 68, 69, 70] (by decide +kernel) (by decide +kernel)
set_option maxRecDepth 20000 in
theorem gX6_widen_X1_setWidth : GoodIn wsX6_widen (wsV RX6 100 RX1 yX1_setWidth wsX1_setWidth) := goodIn_app (goodIn_of _ (by decide +kernel)) ggX6_widen_X1_setWidth
theorem dX6_widen_0 : decode cX6_widen 0 = .ok (.aload_n 0, 1) := by decide +kernel
theorem dX6_widen_1 : decode cX6_widen 1 = .ok (.iload_n 1, 1) := by decide +kernel
theorem dX6_widen_2 : decode cX6_widen 2 = .ok (.invokevirtual 92, 3) := by decide +kernel
theorem dX6_widen_5 : decode cX6_widen 5 = .ok (.iload_n 2, 1) := by decide +kernel
theorem dX6_widen_6 : decode cX6_widen 6 = .ok (.ifCond .lt 9, 3) := by decide +kernel
theorem dX6_widen_9 : decode cX6_widen 9 = .ok (.iload_n 2, 1) := by decide +kernel
theorem dX6_widen_10 : decode cX6_widen 10 = .ok (.bipush 50, 2) := by decide +kernel
theorem dX6_widen_12 : decode cX6_widen 12 = .ok (.if_icmp .le 13, 3) := by decide +kernel
theorem dX6_widen_15 : decode cX6_widen 15 = .ok (.new 66, 3) := by decide +kernel
theorem dX6_widen_18 : decode cX6_widen 18 = .ok (.dup, 1) := by decide +kernel
theorem dX6_widen_19 : decode cX6_widen 19 = .ok (.ldc 95, 2) := by decide +kernel
theorem dX6_widen_21 : decode cX6_widen 21 = .ok (.invokespecial 70, 3) := by decide +kernel
theorem dX6_widen_24 : decode cX6_widen 24 = .ok (.athrow, 1) := by decide +kernel
theorem dX6_widen_25 : decode cX6_widen 25 = .ok (.aload_n 0, 1) := by decide +kernel
theorem dX6_widen_26 : decode cX6_widen 26 = .ok (.getfield 26, 3) := by decide +kernel
theorem dX6_widen_29 : decode cX6_widen 29 = .ok (.aload_n 0, 1) := by decide +kernel
theorem dX6_widen_30 : decode cX6_widen 30 = .ok (.getfield 10, 3) := by decide +kernel
theorem dX6_widen_33 : decode cX6_widen 33 = .ok (.invokevirtual 84, 3) := by decide +kernel
theorem dX6_widen_36 : decode cX6_widen 36 = .ok (.aload_n 0, 1) := by decide +kernel
theorem dX6_widen_37 : decode cX6_widen 37 = .ok (.getfield 10, 3) := by decide +kernel
theorem dX6_widen_40 : decode cX6_widen 40 = .ok (.iload_n 1, 1) := by decide +kernel
theorem dX6_widen_41 : decode cX6_widen 41 = .ok (.invokevirtual 97, 3) := by decide +kernel
theorem dX6_widen_44 : decode cX6_widen 44 = .ok (.istore_n 3, 1) := by decide +kernel
theorem dX6_widen_45 : decode cX6_widen 45 = .ok (.aload_n 0, 1) := by decide +kernel
theorem dX6_widen_46 : decode cX6_widen 46 = .ok (.getfield 10, 3) := by decide +kernel
theorem dX6_widen_49 : decode cX6_widen 49 = .ok (.iload_n 1, 1) := by decide +kernel
theorem dX6_widen_50 : decode cX6_widen 50 = .ok (.iload_n 2, 1) := by decide +kernel
theorem dX6_widen_51 : decode cX6_widen 51 = .ok (.invokevirtual 100, 3) := by decide +kernel
theorem dX6_widen_54 : decode cX6_widen 54 = .ok (.iload_n 3, 1) := by decide +kernel
theorem dX6_widen_55 : decode cX6_widen 55 = .ok (.ireturn, 1) := by decide +kernel
set_option maxRecDepth 20000 in
theorem ggX6_remove_X6_checkRibbon : GoodIn wsX6_remove wsX6_checkRibbon := goodIn_ca (goodIn_r _ [7, 8, 9, 2, 10, 11, 12, 13, 14, 15, 55, 56, 57, 58, 59, 60, 61, 62, 63, 64, 65, 66, 67, 68] (by decide +kernel) (by decide +kernel)) (goodIn_sub (fun _ h => List.mem_cons_of_mem _ (List.mem_append_right _ h)) (by decide +kernel))
set_option maxRecDepth 20000 in
theorem gX6_remove_X6_checkRibbon : GoodIn wsX6_remove (wsV RX6 92 RX6 yX6_checkRibbon wsX6_checkRibbon) := goodIn_app (goodIn_of _ (by decide +kernel)) ggX6_remove_X6_checkRibbon
set_option maxRecDepth 20000 in
theorem ggX6_remove_X3_save : GoodIn wsX6_remove wsX3_save := goodIn_r _ [20, 21, 22, 23, 24, 25, 13, 26, 27, 28, 29, 30, 31, 32, 33, 34, 35, 36, 37, 38, 39, 40, 41, 42, 43, 44, 15, 45, 69, 70, 71, 63, 64, 65, 66, 67, 68] (by decide +kernel) (by decide +kernel)
set_option maxRecDepth 20000 in
theorem gX6_remove_X3_save : GoodIn wsX6_remove (wsV RX6 84 RX3 yX3_save wsX3_save) := goodIn_app (goodIn_of _ (by decide +kernel)) ggX6_remove_X3_save
set_option maxRecDepth 20000 in
theorem ggX6_remove_X1_widthOf : GoodIn wsX6_remove wsX1_widthOf := goodIn_r _ [49, 36, 63, 64, 65, 66, 67, 68] (by decide +kernel) (by decide +kernel)
set_option maxRecDepth 20000 in
theorem gX6_remove_X1_widthOf : GoodIn wsX6_remove (wsV RX6 97 RX1 yX1_widthOf wsX1_widthOf) := goodIn_app (goodIn_of _ (by decide +kernel)) ggX6_remove_X1_widthOf
set_option maxRecDepth 20000 in
theorem ggX6_remove_X1_dropRibbon : GoodIn wsX6_remove wsX1_dropRibbon := goodIn_r _ [53, 15, 34, 35, 36, 54, 11, 12, 13, 14, 63, 64, 65, 66, 67, 68] (by decide +kernel) (by decide +kernel)
set_option maxRecDepth 20000 in
theorem gX6_remove_X1_dropRibbon : GoodIn wsX6_remove (wsV RX6 104 RX1 yX1_dropRibbon wsX1_dropRibbon) := goodIn_app (goodIn_of _ (by decide +kernel)) ggX6_remove_X1_dropRibbon
theorem dX6_remove_0 : decode cX6_remove 0 = .ok (.aload_n 0, 1) := by decide +kernel
theorem dX6_remove_1 : decode cX6_remove 1 = .ok (.iload_n 1, 1) := by decide +kernel
theorem dX6_remove_2 : decode cX6_remove 2 = .ok (.invokevirtual 92, 3) := by decide +kernel
theorem dX6_remove_5 : decode cX6_remove 5 = .ok (.aload_n 0, 1) := by decide +kernel
theorem dX6_remove_6 : decode cX6_remove 6 = .ok (.getfield 26, 3) := by decide +kernel
theorem dX6_remove_9 : decode cX6_remove 9 = .ok (.aload_n 0, 1) := by decide +kernel
theorem dX6_remove_10 : decode cX6_remove 10 = .ok (.getfield 10, 3) := by decide +kernel
theorem dX6_remove_13 : decode cX6_remove 13 = .ok (.invokevirtual 84, 3) := by decide +kernel
theorem dX6_remove_16 : decode cX6_remove 16 = .ok (.aload_n 0, 1) := by decide +kernel
theorem dX6_remove_17 : decode cX6_remove 17 = .ok (.getfield 10, 3) := by decide +kernel
theorem dX6_remove_20 : decode cX6_remove 20 = .ok (.iload_n 1, 1) := by decide +kernel
theorem dX6_remove_21 : decode cX6_remove 21 = .ok (.invokevirtual 97, 3) := by decide +kernel
theorem dX6_remove_24 : decode cX6_remove 24 = .ok (.istore_n 2, 1) := by decide +kernel
theorem dX6_remove_25 : decode cX6_remove 25 = .ok (.aload_n 0, 1) := by decide +kernel
theorem dX6_remove_26 : decode cX6_remove 26 = .ok (.getfield 10, 3) := by decide +kernel
theorem dX6_remove_29 : decode cX6_remove 29 = .ok (.iload_n 1, 1) := by decide +kernel
theorem dX6_remove_30 : decode cX6_remove 30 = .ok (.invokevirtual 104, 3) := by decide +kernel
theorem dX6_remove_33 : decode cX6_remove 33 = .ok (.iload_n 2, 1) := by decide +kernel
theorem dX6_remove_34 : decode cX6_remove 34 = .ok (.ireturn, 1) := by decide +kernel
set_option maxRecDepth 20000 in
theorem ggX6_swap_X6_checkPair : GoodIn wsX6_swap wsX6_checkPair := goodIn_ca (goodIn_ca (goodIn_r _ [6, 7, 8, 9, 10, 5, 11, 12, 13, 14, 15, 16, 17, 18, 19] (by decide +kernel) (by decide +kernel)) (goodIn_sub (fun _ h => List.mem_cons_of_mem _ (List.mem_append_left _ (List.mem_append_right _ h))) (by decide +kernel))) (goodIn_sub (fun _ h => List.mem_cons_of_mem _ (List.mem_append_right _ h)) (by decide +kernel))
set_option maxRecDepth 20000 in
theorem gX6_swap_X6_checkPair : GoodIn wsX6_swap (va_wsS RX6 107 yX6_checkPair wsX6_checkPair) := goodIn_app (goodIn_of _ (by decide +kernel)) ggX6_swap_X6_checkPair
set_option maxRecDepth 20000 in
theorem ggX6_swap_X3_save : GoodIn wsX6_swap wsX3_save := goodIn_r _ [24, 25, 26, 27, 28, 29, 30, 31, 32, 33, 34, 35, 36, 37, 38, 39, 40, 41, 42, 43, 44, 45, 46, 47, 48, 49, 50, 51, 100, 101, 102, 103, 104, 105, 106, 107, 108] (by decide +kernel) (by decide +kernel)
set_option maxRecDepth 20000 in
theorem gX6_swap_X3_save : GoodIn wsX6_swap (wsV RX6 84 RX3 yX3_save wsX3_save) := goodIn_app (goodIn_of _ (by decide +kernel)) ggX6_swap_X3_save
set_option maxRecDepth 20000 in
theorem ggX6_swap_X1_exchangePlaces : GoodIn wsX6_swap wsX1_exchangePlaces := goodIn_r _ [55, 56, 57, 58, 30, 59, 38, 60, 61, 62, 63, 15, 5, 16, 103, 104, 105, 106, 107, 108] (by decide +kernel) (by decide +kernel)
set_option maxRecDepth 20000 in
theorem gX6_swap_X1_exchangePlaces : GoodIn wsX6_swap (wsV RX6 110 RX1 yX1_exchangePlaces wsX1_exchangePlaces) := goodIn_app (goodIn_of _ (by decide +kernel)) ggX6_swap_X1_exchangePlaces
set_option maxRecDepth 20000 in
theorem ggX6_swap_X1_allCrossings : GoodIn wsX6_swap wsX1_allCrossings := goodIn_r _ [67, 50, 68, 69, 70, 71, 72, 73, 74, 30, 75, 76, 77, 78, 79, 39, 80, 81, 82, 83, 40, 18, 5, 19, 84, 85, 86, 87, 56, 57, 58, 59, 38, 88, 89, 90, 91, 41, 103, 104, 105, 106, 107, 108] (by decide +kernel) (by decide +kernel)
set_option maxRecDepth 20000 in
theorem gX6_swap_X1_allCrossings : GoodIn wsX6_swap (wsV RX6 113 RX1 yX1_allCrossings wsX1_allCrossings) := goodIn_app (goodIn_of _ (by decide +kernel)) ggX6_swap_X1_allCrossings
theorem dX6_swap_0 : decode cX6_swap 0 = .ok (.iload_n 1, 1) := by decide +kernel
theorem dX6_swap_1 : decode cX6_swap 1 = .ok (.iload_n 2, 1) := by decide +kernel
theorem dX6_swap_2 : decode cX6_swap 2 = .ok (.invokestatic 107, 3) := by decide +kernel
theorem dX6_swap_5 : decode cX6_swap 5 = .ok (.aload_n 0, 1) := by decide +kernel
theorem dX6_swap_6 : decode cX6_swap 6 = .ok (.getfield 26, 3) := by decide +kernel
theorem dX6_swap_9 : decode cX6_swap 9 = .ok (.aload_n 0, 1) := by decide +kernel
theorem dX6_swap_10 : decode cX6_swap 10 = .ok (.getfield 10, 3) := by decide +kernel
theorem dX6_swap_13 : decode cX6_swap 13 = .ok (.invokevirtual 84, 3) := by decide +kernel
theorem dX6_swap_16 : decode cX6_swap 16 = .ok (.aload_n 0, 1) := by decide +kernel
theorem dX6_swap_17 : decode cX6_swap 17 = .ok (.getfield 10, 3) := by decide +kernel
theorem dX6_swap_20 : decode cX6_swap 20 = .ok (.iload_n 1, 1) := by decide +kernel
theorem dX6_swap_21 : decode cX6_swap 21 = .ok (.iload_n 2, 1) := by decide +kernel
theorem dX6_swap_22 : decode cX6_swap 22 = .ok (.invokevirtual 110, 3) := by decide +kernel
theorem dX6_swap_25 : decode cX6_swap 25 = .ok (.aload_n 0, 1) := by decide +kernel
theorem dX6_swap_26 : decode cX6_swap 26 = .ok (.getfield 10, 3) := by decide +kernel
theorem dX6_swap_29 : decode cX6_swap 29 = .ok (.invokevirtual 113, 3) := by decide +kernel
theorem dX6_swap_32 : decode cX6_swap 32 = .ok (.ireturn, 1) := by decide +kernel
set_option maxRecDepth 20000 in
theorem ggX6_sweep_X3_save : GoodIn wsX6_sweep wsX3_save := goodIn_r _ [8, 9, 10, 11, 12, 13, 14, 15, 16, 17, 18, 19, 20, 21, 22, 23, 24, 25, 26, 27, 28, 29, 30, 31, 32, 33, 34, 35, 127, 128, 129, 130, 131, 132, 133, 134, 135] (by decide +kernel) (by decide +kernel)
set_option maxRecDepth 20000 in
theorem gX6_sweep_X3_save : GoodIn wsX6_sweep (wsV RX6 84 RX3 yX3_save wsX3_save) := goodIn_app (goodIn_of _ (by decide +kernel)) ggX6_sweep_X3_save
set_option maxRecDepth 20000 in
theorem ggX6_sweep_X2_sweepColumns : GoodIn wsX6_sweep wsX2_sweepColumns := goodIn_r _ [40, 41, 42, 43, 44, 39, 45, 46, 47, 48, 49, 50, 51, 52, 53, 54, 14, 55, 24, 56, 57, 58, 59, 60, 61, 62, 23, 63, 64, 65, 66, 67, 68, 69, 70, 22, 71, 72, 73, 74, 75, 76, 77, 78, 79, 80, 81, 82, 83, 84, 85, 86, 87, 88, 89, 90, 91, 92, 93, 94, 136, 137, 138, 139, 140, 130, 131, 132, 133, 134, 135] (by decide +kernel) (by decide +kernel)
set_option maxRecDepth 20000 in
theorem gX6_sweep_X2_sweepColumns : GoodIn wsX6_sweep (wsV RX6 117 RX2 yX2_sweepColumns wsX2_sweepColumns) := goodIn_app (goodIn_of _ (by decide +kernel)) ggX6_sweep_X2_sweepColumns
set_option maxRecDepth 20000 in
theorem ggX6_sweep_X1_allCrossings : GoodIn wsX6_sweep wsX1_allCrossings := goodIn_r _ [98, 34, 99, 100, 101, 102, 103, 104, 105, 14, 106, 107, 64, 65, 66, 23, 108, 53, 54, 55, 24, 109, 93, 110, 111, 112, 113, 114, 79, 68, 69, 70, 22, 115, 116, 117, 118, 25, 130, 131, 132, 133, 134, 135] (by decide +kernel) (by decide +kernel)
set_option maxRecDepth 20000 in
theorem gX6_sweep_X1_allCrossings : GoodIn wsX6_sweep (wsV RX6 113 RX1 yX1_allCrossings wsX1_allCrossings) := goodIn_app (goodIn_of _ (by decide +kernel)) ggX6_sweep_X1_allCrossings
theorem dX6_sweep_0 : decode cX6_sweep 0 = .ok (.aload_n 0, 1) := by decide +kernel
theorem dX6_sweep_1 : decode cX6_sweep 1 = .ok (.getfield 26, 3) := by decide +kernel
theorem dX6_sweep_4 : decode cX6_sweep 4 = .ok (.aload_n 0, 1) := by decide +kernel
theorem dX6_sweep_5 : decode cX6_sweep 5 = .ok (.getfield 10, 3) := by decide +kernel
theorem dX6_sweep_8 : decode cX6_sweep 8 = .ok (.invokevirtual 84, 3) := by decide +kernel
theorem dX6_sweep_11 : decode cX6_sweep 11 = .ok (.aload_n 0, 1) := by decide +kernel
theorem dX6_sweep_12 : decode cX6_sweep 12 = .ok (.getfield 47, 3) := by decide +kernel
theorem dX6_sweep_15 : decode cX6_sweep 15 = .ok (.aload_n 0, 1) := by decide +kernel
theorem dX6_sweep_16 : decode cX6_sweep 16 = .ok (.getfield 10, 3) := by decide +kernel
theorem dX6_sweep_19 : decode cX6_sweep 19 = .ok (.invokevirtual 117, 3) := by decide +kernel
theorem dX6_sweep_22 : decode cX6_sweep 22 = .ok (.aload_n 0, 1) := by decide +kernel
theorem dX6_sweep_23 : decode cX6_sweep 23 = .ok (.getfield 10, 3) := by decide +kernel
theorem dX6_sweep_26 : decode cX6_sweep 26 = .ok (.invokevirtual 113, 3) := by decide +kernel
theorem dX6_sweep_29 : decode cX6_sweep 29 = .ok (.ireturn, 1) := by decide +kernel
set_option maxRecDepth 20000 in
theorem ggX6_order_X6_checkColumn : GoodIn wsX6_order wsX6_checkColumn := goodIn_ca (goodIn_r _ [7, 8, 9] (by decide +kernel) (by decide +kernel)) (goodIn_sub (fun _ h => List.mem_cons_of_mem _ (List.mem_append_right _ h)) (by decide +kernel))
set_option maxRecDepth 20000 in
theorem gX6_order_X6_checkColumn : GoodIn wsX6_order (va_wsS RX6 120 yX6_checkColumn wsX6_checkColumn) := goodIn_app (goodIn_of _ (by decide +kernel)) ggX6_order_X6_checkColumn
set_option maxRecDepth 20000 in
theorem ggX6_order_X3_save : GoodIn wsX6_order wsX3_save := goodIn_r _ [14, 15, 16, 17, 18, 19, 20, 21, 22, 23, 24, 25, 26, 27, 28, 29, 30, 31, 32, 33, 34, 35, 36, 37, 38, 39, 40, 41, 133, 134, 135, 136, 137, 138, 139, 140, 141] (by decide +kernel) (by decide +kernel)
set_option maxRecDepth 20000 in
theorem gX6_order_X3_save : GoodIn wsX6_order (wsV RX6 84 RX3 yX3_save wsX3_save) := goodIn_app (goodIn_of _ (by decide +kernel)) ggX6_order_X3_save
set_option maxRecDepth 20000 in
theorem ggX6_order_X2_findBest : GoodIn wsX6_order wsX2_findBest := goodIn_r _ [46, 47, 48, 49, 50, 37, 38, 39, 51, 52, 53, 45, 54, 55, 56, 57, 58, 59, 60, 61, 62, 63, 64, 65, 66, 67, 68, 69, 70, 20, 71, 29, 72, 73, 74, 75, 30, 76, 6, 77, 78, 79, 80, 81, 82, 83, 84, 85, 86, 87, 31, 88, 89, 90, 91, 28, 92, 93, 94, 95, 96, 97, 98, 99, 100, 101, 102, 142, 143, 144, 145, 146, 136, 137, 138, 139, 140, 141] (by decide +kernel) (by decide +kernel)
set_option maxRecDepth 20000 in
theorem gX6_order_X2_findBest : GoodIn wsX6_order (wsV RX6 123 RX2 yX2_findBest wsX2_findBest) := goodIn_app (goodIn_of _ (by decide +kernel)) ggX6_order_X2_findBest
set_option maxRecDepth 20000 in
theorem ggX6_order_X2_putBest : GoodIn wsX6_order wsX2_putBest := goodIn_r _ [106, 49, 107, 108, 109, 20, 110, 28, 111, 6, 112, 142, 143, 144, 145, 146, 136, 137, 138, 139, 140, 141] (by decide +kernel) (by decide +kernel)
set_option maxRecDepth 20000 in
theorem gX6_order_X2_putBest : GoodIn wsX6_order (wsV RX6 127 RX2 yX2_putBest wsX2_putBest) := goodIn_app (goodIn_of _ (by decide +kernel)) ggX6_order_X2_putBest
set_option maxRecDepth 20000 in
theorem ggX6_order_X1_allCrossings : GoodIn wsX6_order wsX1_allCrossings := goodIn_r _ [116, 40, 117, 65, 66, 67, 118, 119, 120, 20, 121, 82, 69, 70, 71, 29, 83, 73, 74, 75, 30, 76, 6, 77, 122, 79, 80, 81, 123, 89, 90, 91, 28, 124, 85, 86, 87, 31, 136, 137, 138, 139, 140, 141] (by decide +kernel) (by decide +kernel)
set_option maxRecDepth 20000 in
theorem gX6_order_X1_allCrossings : GoodIn wsX6_order (wsV RX6 113 RX1 yX1_allCrossings wsX1_allCrossings) := goodIn_app (goodIn_of _ (by decide +kernel)) ggX6_order_X1_allCrossings
theorem dX6_order_0 : decode cX6_order 0 = .ok (.iload_n 1, 1) := by decide +kernel
theorem dX6_order_1 : decode cX6_order 1 = .ok (.invokestatic 120, 3) := by decide +kernel
theorem dX6_order_4 : decode cX6_order 4 = .ok (.aload_n 0, 1) := by decide +kernel
theorem dX6_order_5 : decode cX6_order 5 = .ok (.getfield 26, 3) := by decide +kernel
theorem dX6_order_8 : decode cX6_order 8 = .ok (.aload_n 0, 1) := by decide +kernel
theorem dX6_order_9 : decode cX6_order 9 = .ok (.getfield 10, 3) := by decide +kernel
theorem dX6_order_12 : decode cX6_order 12 = .ok (.invokevirtual 84, 3) := by decide +kernel
theorem dX6_order_15 : decode cX6_order 15 = .ok (.aload_n 0, 1) := by decide +kernel
theorem dX6_order_16 : decode cX6_order 16 = .ok (.getfield 47, 3) := by decide +kernel
theorem dX6_order_19 : decode cX6_order 19 = .ok (.aload_n 0, 1) := by decide +kernel
theorem dX6_order_20 : decode cX6_order 20 = .ok (.getfield 10, 3) := by decide +kernel
theorem dX6_order_23 : decode cX6_order 23 = .ok (.iload_n 1, 1) := by decide +kernel
theorem dX6_order_24 : decode cX6_order 24 = .ok (.invokevirtual 123, 3) := by decide +kernel
theorem dX6_order_27 : decode cX6_order 27 = .ok (.aload_n 0, 1) := by decide +kernel
theorem dX6_order_28 : decode cX6_order 28 = .ok (.getfield 47, 3) := by decide +kernel
theorem dX6_order_31 : decode cX6_order 31 = .ok (.aload_n 0, 1) := by decide +kernel
theorem dX6_order_32 : decode cX6_order 32 = .ok (.getfield 10, 3) := by decide +kernel
theorem dX6_order_35 : decode cX6_order 35 = .ok (.iload_n 1, 1) := by decide +kernel
theorem dX6_order_36 : decode cX6_order 36 = .ok (.invokevirtual 127, 3) := by decide +kernel
theorem dX6_order_39 : decode cX6_order 39 = .ok (.aload_n 0, 1) := by decide +kernel
theorem dX6_order_40 : decode cX6_order 40 = .ok (.getfield 10, 3) := by decide +kernel
theorem dX6_order_43 : decode cX6_order 43 = .ok (.invokevirtual 113, 3) := by decide +kernel
theorem dX6_order_46 : decode cX6_order 46 = .ok (.ireturn, 1) := by decide +kernel
set_option maxRecDepth 20000 in
theorem ggX6_trim_X6_isInner : GoodIn wsX6_trim wsX6_isInner := goodIn_r _ [8] (by decide +kernel) (by decide +kernel)
set_option maxRecDepth 20000 in
theorem gX6_trim_X6_isInner : GoodIn wsX6_trim (va_wsS RX6 130 yX6_isInner wsX6_isInner) := goodIn_app (goodIn_of _ (by decide +kernel)) ggX6_trim_X6_isInner
set_option maxRecDepth 20000 in
theorem ggX6_trim_X3_save : GoodIn wsX6_trim wsX3_save := goodIn_r _ [13, 14, 15, 16, 17, 18, 19, 20, 21, 22, 23, 24, 25, 26, 27, 28, 29, 30, 31, 32, 33, 34, 35, 36, 37, 38, 39, 40, 97, 98, 99, 100, 101, 102, 103, 104, 105] (by decide +kernel) (by decide +kernel)
set_option maxRecDepth 20000 in
theorem gX6_trim_X3_save : GoodIn wsX6_trim (wsV RX6 84 RX3 yX3_save wsX3_save) := goodIn_app (goodIn_of _ (by decide +kernel)) ggX6_trim_X3_save
set_option maxRecDepth 20000 in
theorem ggX6_trim_X1_trimPost : GoodIn wsX6_trim wsX1_trimPost := goodIn_r _ [44, 45, 46, 47, 48, 40, 49, 50, 51, 19, 52, 53, 54, 55, 56, 39, 57, 58, 59, 60, 29, 61, 62, 63, 64, 28, 65, 66, 67, 68, 30, 69, 70, 71, 72, 73, 74, 75, 76, 77, 78, 79, 80, 81, 82, 83, 84, 85, 86, 87, 88, 100, 101, 102, 103, 104, 105] (by decide +kernel) (by decide +kernel)
set_option maxRecDepth 20000 in
theorem gX6_trim_X1_trimPost : GoodIn wsX6_trim (wsV RX6 139 RX1 yX1_trimPost wsX1_trimPost) := goodIn_app (goodIn_of _ (by decide +kernel)) ggX6_trim_X1_trimPost
theorem dX6_trim_0 : decode cX6_trim 0 = .ok (.iload_n 1, 1) := by decide +kernel
theorem dX6_trim_1 : decode cX6_trim 1 = .ok (.invokestatic 130, 3) := by decide +kernel
theorem dX6_trim_4 : decode cX6_trim 4 = .ok (.ifCond .ne 13, 3) := by decide +kernel
theorem dX6_trim_7 : decode cX6_trim 7 = .ok (.new 134, 3) := by decide +kernel
theorem dX6_trim_10 : decode cX6_trim 10 = .ok (.dup, 1) := by decide +kernel
theorem dX6_trim_11 : decode cX6_trim 11 = .ok (.ldc 136, 2) := by decide +kernel
theorem dX6_trim_13 : decode cX6_trim 13 = .ok (.invokespecial 138, 3) := by decide +kernel
theorem dX6_trim_16 : decode cX6_trim 16 = .ok (.athrow, 1) := by decide +kernel
theorem dX6_trim_17 : decode cX6_trim 17 = .ok (.aload_n 0, 1) := by decide +kernel
theorem dX6_trim_18 : decode cX6_trim 18 = .ok (.getfield 26, 3) := by decide +kernel
theorem dX6_trim_21 : decode cX6_trim 21 = .ok (.aload_n 0, 1) := by decide +kernel
theorem dX6_trim_22 : decode cX6_trim 22 = .ok (.getfield 10, 3) := by decide +kernel
theorem dX6_trim_25 : decode cX6_trim 25 = .ok (.invokevirtual 84, 3) := by decide +kernel
theorem dX6_trim_28 : decode cX6_trim 28 = .ok (.aload_n 0, 1) := by decide +kernel
theorem dX6_trim_29 : decode cX6_trim 29 = .ok (.getfield 10, 3) := by decide +kernel
theorem dX6_trim_32 : decode cX6_trim 32 = .ok (.iload_n 1, 1) := by decide +kernel
theorem dX6_trim_33 : decode cX6_trim 33 = .ok (.invokevirtual 139, 3) := by decide +kernel
theorem dX6_trim_36 : decode cX6_trim 36 = .ok (.ireturn, 1) := by decide +kernel
set_option maxRecDepth 20000 in
theorem ggX6_settle_X3_save : GoodIn wsX6_settle wsX3_save := goodIn_r _ [7, 8, 9, 10, 11, 12, 13, 14, 15, 16, 17, 18, 19, 20, 21, 22, 23, 24, 25, 26, 27, 28, 29, 30, 31, 32, 33, 34, 96, 97, 98, 99, 100, 101, 102, 103, 104] (by decide +kernel) (by decide +kernel)
set_option maxRecDepth 20000 in
theorem gX6_settle_X3_save : GoodIn wsX6_settle (wsV RX6 84 RX3 yX3_save wsX3_save) := goodIn_app (goodIn_of _ (by decide +kernel)) ggX6_settle_X3_save
set_option maxRecDepth 20000 in
theorem ggX6_settle_X1_trimAll : GoodIn wsX6_settle wsX1_trimAll := goodIn_r _ [38, 39, 40, 41, 42, 13, 43, 44, 45, 46, 47, 34, 48, 49, 50, 51, 52, 53, 54, 55, 33, 56, 57, 58, 59, 23, 60, 61, 62, 63, 22, 64, 65, 66, 67, 24, 68, 69, 70, 71, 72, 73, 74, 75, 76, 77, 78, 79, 80, 81, 82, 83, 84, 85, 86, 87, 99, 100, 101, 102, 103, 104] (by decide +kernel) (by decide +kernel)
set_option maxRecDepth 20000 in
theorem gX6_settle_X1_trimAll : GoodIn wsX6_settle (wsV RX6 142 RX1 yX1_trimAll wsX1_trimAll) := goodIn_app (goodIn_of _ (by decide +kernel)) ggX6_settle_X1_trimAll
theorem dX6_settle_0 : decode cX6_settle 0 = .ok (.aload_n 0, 1) := by decide +kernel
theorem dX6_settle_1 : decode cX6_settle 1 = .ok (.getfield 26, 3) := by decide +kernel
theorem dX6_settle_4 : decode cX6_settle 4 = .ok (.aload_n 0, 1) := by decide +kernel
theorem dX6_settle_5 : decode cX6_settle 5 = .ok (.getfield 10, 3) := by decide +kernel
theorem dX6_settle_8 : decode cX6_settle 8 = .ok (.invokevirtual 84, 3) := by decide +kernel
theorem dX6_settle_11 : decode cX6_settle 11 = .ok (.aload_n 0, 1) := by decide +kernel
theorem dX6_settle_12 : decode cX6_settle 12 = .ok (.getfield 10, 3) := by decide +kernel
theorem dX6_settle_15 : decode cX6_settle 15 = .ok (.invokevirtual 142, 3) := by decide +kernel
theorem dX6_settle_18 : decode cX6_settle 18 = .ok (.ireturn, 1) := by decide +kernel
set_option maxRecDepth 20000 in
theorem ggX6_undo_X3_restore : GoodIn wsX6_undo wsX3_restore := goodIn_r _ [9, 10, 11, 12, 13, 14, 15, 16, 17, 18, 19, 20, 21, 22, 23, 24, 25, 26, 27, 36, 37, 38, 39, 40, 41, 42, 43, 44] (by decide +kernel) (by decide +kernel)
set_option maxRecDepth 20000 in
theorem gX6_undo_X3_restore : GoodIn wsX6_undo (wsV RX6 183 RX3 yX3_restore wsX3_restore) := goodIn_app (goodIn_of _ (by decide +kernel)) ggX6_undo_X3_restore
theorem dX6_undo_0 : decode cX6_undo 0 = .ok (.aload_n 0, 1) := by decide +kernel
theorem dX6_undo_1 : decode cX6_undo 1 = .ok (.getfield 26, 3) := by decide +kernel
theorem dX6_undo_4 : decode cX6_undo 4 = .ok (.getfield 178, 3) := by decide +kernel
theorem dX6_undo_7 : decode cX6_undo 7 = .ok (.ifCond .ne 13, 3) := by decide +kernel
theorem dX6_undo_10 : decode cX6_undo 10 = .ok (.new 79, 3) := by decide +kernel
theorem dX6_undo_13 : decode cX6_undo 13 = .ok (.dup, 1) := by decide +kernel
theorem dX6_undo_14 : decode cX6_undo 14 = .ok (.ldc 181, 2) := by decide +kernel
theorem dX6_undo_16 : decode cX6_undo 16 = .ok (.invokespecial 83, 3) := by decide +kernel
theorem dX6_undo_19 : decode cX6_undo 19 = .ok (.athrow, 1) := by decide +kernel
theorem dX6_undo_20 : decode cX6_undo 20 = .ok (.aload_n 0, 1) := by decide +kernel
theorem dX6_undo_21 : decode cX6_undo 21 = .ok (.getfield 26, 3) := by decide +kernel
theorem dX6_undo_24 : decode cX6_undo 24 = .ok (.aload_n 0, 1) := by decide +kernel
theorem dX6_undo_25 : decode cX6_undo 25 = .ok (.getfield 10, 3) := by decide +kernel
theorem dX6_undo_28 : decode cX6_undo 28 = .ok (.invokevirtual 183, 3) := by decide +kernel
theorem dX6_undo_31 : decode cX6_undo 31 = .ok (.aload_n 0, 1) := by decide +kernel
theorem dX6_undo_32 : decode cX6_undo 32 = .ok (.getfield 26, 3) := by decide +kernel
theorem dX6_undo_35 : decode cX6_undo 35 = .ok (.getfield 178, 3) := by decide +kernel
theorem dX6_undo_38 : decode cX6_undo 38 = .ok (.ireturn, 1) := by decide +kernel
set_option maxRecDepth 20000 in
theorem ggX6_postOf_X6_checkPost : GoodIn wsX6_postOf wsX6_checkPost := goodIn_ca (goodIn_r _ [11, 12, 13, 14, 15, 10, 16] (by decide +kernel) (by decide +kernel)) (goodIn_sub (fun _ h => List.mem_cons_of_mem _ (List.mem_append_right _ h)) (by decide +kernel))
set_option maxRecDepth 20000 in
theorem gX6_postOf_X6_checkPost : GoodIn wsX6_postOf (va_wsS RX6 58 yX6_checkPost wsX6_checkPost) := goodIn_app (goodIn_of _ (by decide +kernel)) ggX6_postOf_X6_checkPost
set_option maxRecDepth 20000 in
theorem ggX6_postOf_X1_placeOf : GoodIn wsX6_postOf wsX1_placeOf := goodIn_r _ [21, 22, 80, 81, 82, 83, 84, 85] (by decide +kernel) (by decide +kernel)
set_option maxRecDepth 20000 in
theorem gX6_postOf_X1_placeOf : GoodIn wsX6_postOf (wsV RX6 186 RX1 yX1_placeOf wsX1_placeOf) := goodIn_app (goodIn_of _ (by decide +kernel)) ggX6_postOf_X1_placeOf
set_option maxRecDepth 20000 in
theorem ggX6_postOf_X1_comesIn : GoodIn wsX6_postOf wsX1_comesIn := goodIn_r _ [26, 27, 28, 29, 30, 20, 31, 32, 33, 34, 35, 36, 37, 38, 39, 40, 41, 42, 80, 81, 82, 83, 84, 85] (by decide +kernel) (by decide +kernel)
set_option maxRecDepth 20000 in
theorem gX6_postOf_X1_comesIn : GoodIn wsX6_postOf (wsV RX6 189 RX1 yX1_comesIn wsX1_comesIn) := goodIn_app (goodIn_of _ (by decide +kernel)) ggX6_postOf_X1_comesIn
set_option maxRecDepth 20000 in
theorem ggX6_postOf_X1_leaves : GoodIn wsX6_postOf wsX1_leaves := goodIn_r _ [46, 27, 47, 48, 49, 20, 50, 37, 33, 34, 35, 36, 32, 38, 39, 40, 41, 42, 80, 81, 82, 83, 84, 85] (by decide +kernel) (by decide +kernel)
set_option maxRecDepth 20000 in
theorem gX6_postOf_X1_leaves : GoodIn wsX6_postOf (wsV RX6 192 RX1 yX1_leaves wsX1_leaves) := goodIn_app (goodIn_of _ (by decide +kernel)) ggX6_postOf_X1_leaves
set_option maxRecDepth 20000 in
theorem ggX6_postOf_X1_ribbonsTo : GoodIn wsX6_postOf wsX1_ribbonsTo := goodIn_r _ [54, 27, 28, 29, 30, 20, 31, 32, 33, 34, 35, 36, 37, 80, 81, 82, 83, 84, 85] (by decide +kernel) (by decide +kernel)
set_option maxRecDepth 20000 in
theorem gX6_postOf_X1_ribbonsTo : GoodIn wsX6_postOf (wsV RX6 195 RX1 yX1_ribbonsTo wsX1_ribbonsTo) := goodIn_app (goodIn_of _ (by decide +kernel)) ggX6_postOf_X1_ribbonsTo
set_option maxRecDepth 20000 in
theorem ggX6_postOf_X1_ribbonsFrom : GoodIn wsX6_postOf wsX1_ribbonsFrom := goodIn_r _ [58, 27, 47, 48, 49, 20, 50, 37, 33, 34, 35, 36, 32, 80, 81, 82, 83, 84, 85] (by decide +kernel) (by decide +kernel)
set_option maxRecDepth 20000 in
theorem gX6_postOf_X1_ribbonsFrom : GoodIn wsX6_postOf (wsV RX6 198 RX1 yX1_ribbonsFrom wsX1_ribbonsFrom) := goodIn_app (goodIn_of _ (by decide +kernel)) ggX6_postOf_X1_ribbonsFrom
set_option maxRecDepth 20000 in
theorem ggX6_postOf_X1_ribbonsBack : GoodIn wsX6_postOf wsX1_ribbonsBack := goodIn_r _ [62, 27, 47, 48, 49, 20, 50, 37, 28, 29, 30, 31, 32, 33, 34, 35, 36, 80, 81, 82, 83, 84, 85] (by decide +kernel) (by decide +kernel)
set_option maxRecDepth 20000 in
theorem gX6_postOf_X1_ribbonsBack : GoodIn wsX6_postOf (wsV RX6 201 RX1 yX1_ribbonsBack wsX1_ribbonsBack) := goodIn_app (goodIn_of _ (by decide +kernel)) ggX6_postOf_X1_ribbonsBack
set_option maxRecDepth 20000 in
theorem ggX6_postOf_X6_isInner : GoodIn wsX6_postOf wsX6_isInner := goodIn_r _ [65] (by decide +kernel) (by decide +kernel)
set_option maxRecDepth 20000 in
theorem gX6_postOf_X6_isInner : GoodIn wsX6_postOf (va_wsS RX6 130 yX6_isInner wsX6_isInner) := goodIn_app (goodIn_of _ (by decide +kernel)) ggX6_postOf_X6_isInner
set_option maxRecDepth 20000 in
theorem ggX6_postOf_X1_surplusOf : GoodIn wsX6_postOf wsX1_surplusOf := goodIn_r _ [69, 70, 24, 25, 20, 26, 27, 28, 29, 30, 31, 32, 33, 34, 35, 36, 37, 38, 39, 40, 41, 42, 71, 44, 45, 46, 47, 48, 49, 50, 80, 81, 82, 83, 84, 85] (by decide +kernel) (by decide +kernel)
set_option maxRecDepth 20000 in
theorem gX6_postOf_X1_surplusOf : GoodIn wsX6_postOf (wsV RX6 204 RX1 yX1_surplusOf wsX1_surplusOf) := goodIn_app (goodIn_of _ (by decide +kernel)) ggX6_postOf_X1_surplusOf
theorem dX6_postOf_0 : decode cX6_postOf 0 = .ok (.iload_n 1, 1) := by decide +kernel
theorem dX6_postOf_1 : decode cX6_postOf 1 = .ok (.invokestatic 58, 3) := by decide +kernel
theorem dX6_postOf_4 : decode cX6_postOf 4 = .ok (.iload_n 2, 1) := by decide +kernel
theorem dX6_postOf_5 : decode cX6_postOf 5 = .ok (.tableswitch 145 0 7 #[47, 56, 65, 74, 83, 92, 101, 125], 47) := by decide +kernel
theorem dX6_postOf_52 : decode cX6_postOf 52 = .ok (.aload_n 0, 1) := by decide +kernel
theorem dX6_postOf_53 : decode cX6_postOf 53 = .ok (.getfield 10, 3) := by decide +kernel
theorem dX6_postOf_56 : decode cX6_postOf 56 = .ok (.iload_n 1, 1) := by decide +kernel
theorem dX6_postOf_57 : decode cX6_postOf 57 = .ok (.invokevirtual 186, 3) := by decide +kernel
theorem dX6_postOf_60 : decode cX6_postOf 60 = .ok (.ireturn, 1) := by decide +kernel
theorem dX6_postOf_61 : decode cX6_postOf 61 = .ok (.aload_n 0, 1) := by decide +kernel
theorem dX6_postOf_62 : decode cX6_postOf 62 = .ok (.getfield 10, 3) := by decide +kernel
theorem dX6_postOf_65 : decode cX6_postOf 65 = .ok (.iload_n 1, 1) := by decide +kernel
theorem dX6_postOf_66 : decode cX6_postOf 66 = .ok (.invokevirtual 189, 3) := by decide +kernel
theorem dX6_postOf_69 : decode cX6_postOf 69 = .ok (.ireturn, 1) := by decide +kernel
theorem dX6_postOf_70 : decode cX6_postOf 70 = .ok (.aload_n 0, 1) := by decide +kernel
theorem dX6_postOf_71 : decode cX6_postOf 71 = .ok (.getfield 10, 3) := by decide +kernel
theorem dX6_postOf_74 : decode cX6_postOf 74 = .ok (.iload_n 1, 1) := by decide +kernel
theorem dX6_postOf_75 : decode cX6_postOf 75 = .ok (.invokevirtual 192, 3) := by decide +kernel
theorem dX6_postOf_78 : decode cX6_postOf 78 = .ok (.ireturn, 1) := by decide +kernel
theorem dX6_postOf_79 : decode cX6_postOf 79 = .ok (.aload_n 0, 1) := by decide +kernel
theorem dX6_postOf_80 : decode cX6_postOf 80 = .ok (.getfield 10, 3) := by decide +kernel
theorem dX6_postOf_83 : decode cX6_postOf 83 = .ok (.iload_n 1, 1) := by decide +kernel
theorem dX6_postOf_84 : decode cX6_postOf 84 = .ok (.invokevirtual 195, 3) := by decide +kernel
theorem dX6_postOf_87 : decode cX6_postOf 87 = .ok (.ireturn, 1) := by decide +kernel
theorem dX6_postOf_88 : decode cX6_postOf 88 = .ok (.aload_n 0, 1) := by decide +kernel
theorem dX6_postOf_89 : decode cX6_postOf 89 = .ok (.getfield 10, 3) := by decide +kernel
theorem dX6_postOf_92 : decode cX6_postOf 92 = .ok (.iload_n 1, 1) := by decide +kernel
theorem dX6_postOf_93 : decode cX6_postOf 93 = .ok (.invokevirtual 198, 3) := by decide +kernel
theorem dX6_postOf_96 : decode cX6_postOf 96 = .ok (.ireturn, 1) := by decide +kernel
theorem dX6_postOf_97 : decode cX6_postOf 97 = .ok (.aload_n 0, 1) := by decide +kernel
theorem dX6_postOf_98 : decode cX6_postOf 98 = .ok (.getfield 10, 3) := by decide +kernel
theorem dX6_postOf_101 : decode cX6_postOf 101 = .ok (.iload_n 1, 1) := by decide +kernel
theorem dX6_postOf_102 : decode cX6_postOf 102 = .ok (.invokevirtual 201, 3) := by decide +kernel
theorem dX6_postOf_105 : decode cX6_postOf 105 = .ok (.ireturn, 1) := by decide +kernel
theorem dX6_postOf_106 : decode cX6_postOf 106 = .ok (.iload_n 1, 1) := by decide +kernel
theorem dX6_postOf_107 : decode cX6_postOf 107 = .ok (.invokestatic 130, 3) := by decide +kernel
theorem dX6_postOf_110 : decode cX6_postOf 110 = .ok (.ifCond .eq 18, 3) := by decide +kernel
theorem dX6_postOf_113 : decode cX6_postOf 113 = .ok (.aload_n 0, 1) := by decide +kernel
theorem dX6_postOf_114 : decode cX6_postOf 114 = .ok (.getfield 10, 3) := by decide +kernel
theorem dX6_postOf_117 : decode cX6_postOf 117 = .ok (.iload_n 1, 1) := by decide +kernel
theorem dX6_postOf_118 : decode cX6_postOf 118 = .ok (.invokevirtual 204, 3) := by decide +kernel
theorem dX6_postOf_121 : decode cX6_postOf 121 = .ok (.ifCond .eq 7, 3) := by decide +kernel
theorem dX6_postOf_124 : decode cX6_postOf 124 = .ok (.iconst 0, 1) := by decide +kernel
theorem dX6_postOf_125 : decode cX6_postOf 125 = .ok (.goto 4, 3) := by decide +kernel
theorem dX6_postOf_128 : decode cX6_postOf 128 = .ok (.iconst 1, 1) := by decide +kernel
theorem dX6_postOf_129 : decode cX6_postOf 129 = .ok (.ireturn, 1) := by decide +kernel
theorem dX6_postOf_130 : decode cX6_postOf 130 = .ok (.aload_n 0, 1) := by decide +kernel
theorem dX6_postOf_131 : decode cX6_postOf 131 = .ok (.getfield 10, 3) := by decide +kernel
theorem dX6_postOf_134 : decode cX6_postOf 134 = .ok (.iload_n 1, 1) := by decide +kernel
theorem dX6_postOf_135 : decode cX6_postOf 135 = .ok (.invokevirtual 189, 3) := by decide +kernel
theorem dX6_postOf_138 : decode cX6_postOf 138 = .ok (.aload_n 0, 1) := by decide +kernel
theorem dX6_postOf_139 : decode cX6_postOf 139 = .ok (.getfield 10, 3) := by decide +kernel
theorem dX6_postOf_142 : decode cX6_postOf 142 = .ok (.iload_n 1, 1) := by decide +kernel
theorem dX6_postOf_143 : decode cX6_postOf 143 = .ok (.invokevirtual 192, 3) := by decide +kernel
theorem dX6_postOf_146 : decode cX6_postOf 146 = .ok (.invokestatic 207, 3) := by decide +kernel
theorem dX6_postOf_149 : decode cX6_postOf 149 = .ok (.ireturn, 1) := by decide +kernel
theorem dX6_postOf_150 : decode cX6_postOf 150 = .ok (.new 66, 3) := by decide +kernel
theorem dX6_postOf_153 : decode cX6_postOf 153 = .ok (.dup, 1) := by decide +kernel
theorem dX6_postOf_154 : decode cX6_postOf 154 = .ok (.ldc 213, 2) := by decide +kernel
theorem dX6_postOf_156 : decode cX6_postOf 156 = .ok (.invokespecial 70, 3) := by decide +kernel
theorem dX6_postOf_159 : decode cX6_postOf 159 = .ok (.athrow, 1) := by decide +kernel
set_option maxRecDepth 20000 in
theorem ggX6_ribbonOf_X6_checkRibbon : GoodIn wsX6_ribbonOf wsX6_checkRibbon := goodIn_ca (goodIn_r _ [8, 9, 10, 3, 11, 12, 13, 14, 15, 16, 57, 58, 59, 60, 61, 62, 63, 64, 65, 66, 67, 68, 69, 70] (by decide +kernel) (by decide +kernel)) (goodIn_sub (fun _ h => List.mem_cons_of_mem _ (List.mem_append_right _ h)) (by decide +kernel))
set_option maxRecDepth 20000 in
theorem gX6_ribbonOf_X6_checkRibbon : GoodIn wsX6_ribbonOf (wsV RX6 92 RX6 yX6_checkRibbon wsX6_checkRibbon) := goodIn_app (goodIn_of _ (by decide +kernel)) ggX6_ribbonOf_X6_checkRibbon
set_option maxRecDepth 20000 in
theorem ggX6_ribbonOf_X1_fromOf : GoodIn wsX6_ribbonOf wsX1_fromOf := goodIn_r _ [20, 21, 65, 66, 67, 68, 69, 70] (by decide +kernel) (by decide +kernel)
set_option maxRecDepth 20000 in
theorem gX6_ribbonOf_X1_fromOf : GoodIn wsX6_ribbonOf (wsV RX6 215 RX1 yX1_fromOf wsX1_fromOf) := goodIn_app (goodIn_of _ (by decide +kernel)) ggX6_ribbonOf_X1_fromOf
set_option maxRecDepth 20000 in
theorem ggX6_ribbonOf_X1_toOf : GoodIn wsX6_ribbonOf wsX1_toOf := goodIn_r _ [25, 26, 65, 66, 67, 68, 69, 70] (by decide +kernel) (by decide +kernel)
set_option maxRecDepth 20000 in
theorem gX6_ribbonOf_X1_toOf : GoodIn wsX6_ribbonOf (wsV RX6 218 RX1 yX1_toOf wsX1_toOf) := goodIn_app (goodIn_of _ (by decide +kernel)) ggX6_ribbonOf_X1_toOf
set_option maxRecDepth 20000 in
theorem ggX6_ribbonOf_X1_widthOf : GoodIn wsX6_ribbonOf wsX1_widthOf := goodIn_r _ [30, 31, 65, 66, 67, 68, 69, 70] (by decide +kernel) (by decide +kernel)
set_option maxRecDepth 20000 in
theorem gX6_ribbonOf_X1_widthOf : GoodIn wsX6_ribbonOf (wsV RX6 97 RX1 yX1_widthOf wsX1_widthOf) := goodIn_app (goodIn_of _ (by decide +kernel)) ggX6_ribbonOf_X1_widthOf
set_option maxRecDepth 20000 in
theorem ggX6_ribbonOf_X1_goesOn : GoodIn wsX6_ribbonOf wsX1_goesOn := goodIn_r _ [35, 26, 21, 65, 66, 67, 68, 69, 70] (by decide +kernel) (by decide +kernel)
set_option maxRecDepth 20000 in
theorem gX6_ribbonOf_X1_goesOn : GoodIn wsX6_ribbonOf (wsV RX6 221 RX1 yX1_goesOn wsX1_goesOn) := goodIn_app (goodIn_of _ (by decide +kernel)) ggX6_ribbonOf_X1_goesOn
set_option maxRecDepth 20000 in
theorem ggX6_ribbonOf_X1_ribbonsAcross : GoodIn wsX6_ribbonOf wsX1_ribbonsAcross := goodIn_r _ [39, 16, 40, 41, 42, 14, 43, 44, 18, 19, 20, 21, 45, 23, 24, 25, 26, 46, 7, 47, 48, 49, 50, 51, 52, 53, 54, 55, 56, 65, 66, 67, 68, 69, 70] (by decide +kernel) (by decide +kernel)
set_option maxRecDepth 20000 in
theorem gX6_ribbonOf_X1_ribbonsAcross : GoodIn wsX6_ribbonOf (wsV RX6 224 RX1 yX1_ribbonsAcross wsX1_ribbonsAcross) := goodIn_app (goodIn_of _ (by decide +kernel)) ggX6_ribbonOf_X1_ribbonsAcross
theorem dX6_ribbonOf_0 : decode cX6_ribbonOf 0 = .ok (.aload_n 0, 1) := by decide +kernel
theorem dX6_ribbonOf_1 : decode cX6_ribbonOf 1 = .ok (.iload_n 1, 1) := by decide +kernel
theorem dX6_ribbonOf_2 : decode cX6_ribbonOf 2 = .ok (.invokevirtual 92, 3) := by decide +kernel
theorem dX6_ribbonOf_5 : decode cX6_ribbonOf 5 = .ok (.iload_n 2, 1) := by decide +kernel
theorem dX6_ribbonOf_6 : decode cX6_ribbonOf 6 = .ok (.tableswitch 87 0 4 #[34, 43, 52, 61, 78], 34) := by decide +kernel
theorem dX6_ribbonOf_40 : decode cX6_ribbonOf 40 = .ok (.aload_n 0, 1) := by decide +kernel
theorem dX6_ribbonOf_41 : decode cX6_ribbonOf 41 = .ok (.getfield 10, 3) := by decide +kernel
theorem dX6_ribbonOf_44 : decode cX6_ribbonOf 44 = .ok (.iload_n 1, 1) := by decide +kernel
theorem dX6_ribbonOf_45 : decode cX6_ribbonOf 45 = .ok (.invokevirtual 215, 3) := by decide +kernel
theorem dX6_ribbonOf_48 : decode cX6_ribbonOf 48 = .ok (.ireturn, 1) := by decide +kernel
theorem dX6_ribbonOf_49 : decode cX6_ribbonOf 49 = .ok (.aload_n 0, 1) := by decide +kernel
theorem dX6_ribbonOf_50 : decode cX6_ribbonOf 50 = .ok (.getfield 10, 3) := by decide +kernel
theorem dX6_ribbonOf_53 : decode cX6_ribbonOf 53 = .ok (.iload_n 1, 1) := by decide +kernel
theorem dX6_ribbonOf_54 : decode cX6_ribbonOf 54 = .ok (.invokevirtual 218, 3) := by decide +kernel
theorem dX6_ribbonOf_57 : decode cX6_ribbonOf 57 = .ok (.ireturn, 1) := by decide +kernel
theorem dX6_ribbonOf_58 : decode cX6_ribbonOf 58 = .ok (.aload_n 0, 1) := by decide +kernel
theorem dX6_ribbonOf_59 : decode cX6_ribbonOf 59 = .ok (.getfield 10, 3) := by decide +kernel
theorem dX6_ribbonOf_62 : decode cX6_ribbonOf 62 = .ok (.iload_n 1, 1) := by decide +kernel
theorem dX6_ribbonOf_63 : decode cX6_ribbonOf 63 = .ok (.invokevirtual 97, 3) := by decide +kernel
theorem dX6_ribbonOf_66 : decode cX6_ribbonOf 66 = .ok (.ireturn, 1) := by decide +kernel
theorem dX6_ribbonOf_67 : decode cX6_ribbonOf 67 = .ok (.aload_n 0, 1) := by decide +kernel
theorem dX6_ribbonOf_68 : decode cX6_ribbonOf 68 = .ok (.getfield 10, 3) := by decide +kernel
theorem dX6_ribbonOf_71 : decode cX6_ribbonOf 71 = .ok (.iload_n 1, 1) := by decide +kernel
theorem dX6_ribbonOf_72 : decode cX6_ribbonOf 72 = .ok (.invokevirtual 221, 3) := by decide +kernel
theorem dX6_ribbonOf_75 : decode cX6_ribbonOf 75 = .ok (.ifCond .eq 7, 3) := by decide +kernel
theorem dX6_ribbonOf_78 : decode cX6_ribbonOf 78 = .ok (.iconst 1, 1) := by decide +kernel
theorem dX6_ribbonOf_79 : decode cX6_ribbonOf 79 = .ok (.goto 4, 3) := by decide +kernel
theorem dX6_ribbonOf_82 : decode cX6_ribbonOf 82 = .ok (.iconst 0, 1) := by decide +kernel
theorem dX6_ribbonOf_83 : decode cX6_ribbonOf 83 = .ok (.ireturn, 1) := by decide +kernel
theorem dX6_ribbonOf_84 : decode cX6_ribbonOf 84 = .ok (.aload_n 0, 1) := by decide +kernel
theorem dX6_ribbonOf_85 : decode cX6_ribbonOf 85 = .ok (.getfield 10, 3) := by decide +kernel
theorem dX6_ribbonOf_88 : decode cX6_ribbonOf 88 = .ok (.iload_n 1, 1) := by decide +kernel
theorem dX6_ribbonOf_89 : decode cX6_ribbonOf 89 = .ok (.invokevirtual 224, 3) := by decide +kernel
theorem dX6_ribbonOf_92 : decode cX6_ribbonOf 92 = .ok (.ireturn, 1) := by decide +kernel
theorem dX6_ribbonOf_93 : decode cX6_ribbonOf 93 = .ok (.new 66, 3) := by decide +kernel
theorem dX6_ribbonOf_96 : decode cX6_ribbonOf 96 = .ok (.dup, 1) := by decide +kernel
theorem dX6_ribbonOf_97 : decode cX6_ribbonOf 97 = .ok (.ldc 227, 2) := by decide +kernel
theorem dX6_ribbonOf_99 : decode cX6_ribbonOf 99 = .ok (.invokespecial 70, 3) := by decide +kernel
theorem dX6_ribbonOf_102 : decode cX6_ribbonOf 102 = .ok (.athrow, 1) := by decide +kernel
set_option maxRecDepth 20000 in
theorem ggX6_count_X1_allWidths : GoodIn wsX6_count wsX1_allWidths := goodIn_r _ [11, 12, 13, 14, 15, 10, 16, 17, 182, 183, 184, 185, 186, 187] (by decide +kernel) (by decide +kernel)
set_option maxRecDepth 20000 in
theorem gX6_count_X1_allWidths : GoodIn wsX6_count (wsV RX6 229 RX1 yX1_allWidths wsX1_allWidths) := goodIn_app (goodIn_of _ (by decide +kernel)) ggX6_count_X1_allWidths
set_option maxRecDepth 20000 in
theorem ggX6_count_X1_allCrossings : GoodIn wsX6_count wsX1_allCrossings := goodIn_r _ [21, 12, 22, 23, 24, 25, 26, 27, 28, 10, 29, 30, 31, 32, 33, 34, 35, 36, 37, 38, 39, 40, 41, 42, 43, 44, 45, 46, 47, 48, 49, 50, 51, 13, 14, 15, 16, 17, 182, 183, 184, 185, 186, 187] (by decide +kernel) (by decide +kernel)
set_option maxRecDepth 20000 in
theorem gX6_count_X1_allCrossings : GoodIn wsX6_count (wsV RX6 113 RX1 yX1_allCrossings wsX1_allCrossings) := goodIn_app (goodIn_of _ (by decide +kernel)) ggX6_count_X1_allCrossings
set_option maxRecDepth 20000 in
theorem ggX6_count_X0_allCrossings : GoodIn wsX6_count wsX0_allCrossings := goodIn_r _ [56, 57, 58, 59, 60, 55, 61, 62, 44, 45, 10, 46, 30, 31, 32, 33, 34, 40, 41, 42, 35, 36, 37, 38, 39, 63, 64, 48, 49, 50, 51, 65, 66, 14, 15, 16, 17, 67, 68, 69, 70, 71, 72, 73, 74, 75, 76, 77, 78, 79, 80, 81, 191, 192, 193, 194, 182, 183, 184, 185, 186, 187] (by decide +kernel) (by decide +kernel)
set_option maxRecDepth 20000 in
theorem gX6_count_X0_allCrossings : GoodIn wsX6_count (wsV RX6 232 RX0 yX0_allCrossings wsX0_allCrossings) := goodIn_app (goodIn_of _ (by decide +kernel)) ggX6_count_X0_allCrossings
set_option maxRecDepth 20000 in
theorem ggX6_count_X1_crossingPairs : GoodIn wsX6_count wsX1_crossingPairs := goodIn_r _ [85, 12, 86, 87, 88, 10, 89, 26, 27, 28, 29, 30, 31, 32, 33, 34, 35, 36, 37, 38, 39, 40, 41, 42, 43, 44, 45, 46, 47, 48, 49, 50, 51, 182, 183, 184, 185, 186, 187] (by decide +kernel) (by decide +kernel)
set_option maxRecDepth 20000 in
theorem gX6_count_X1_crossingPairs : GoodIn wsX6_count (wsV RX6 235 RX1 yX1_crossingPairs wsX1_crossingPairs) := goodIn_app (goodIn_of _ (by decide +kernel)) ggX6_count_X1_crossingPairs
set_option maxRecDepth 20000 in
theorem ggX6_count_X1_unevenPosts : GoodIn wsX6_count wsX1_unevenPosts := goodIn_r _ [93, 94, 95, 96, 10, 97, 98, 99, 100, 101, 12, 35, 36, 37, 38, 39, 102, 103, 104, 105, 34, 13, 14, 15, 16, 17, 106, 107, 108, 109, 30, 31, 32, 33, 182, 183, 184, 185, 186, 187] (by decide +kernel) (by decide +kernel)
set_option maxRecDepth 20000 in
theorem gX6_count_X1_unevenPosts : GoodIn wsX6_count (wsV RX6 238 RX1 yX1_unevenPosts wsX1_unevenPosts) := goodIn_app (goodIn_of _ (by decide +kernel)) ggX6_count_X1_unevenPosts
set_option maxRecDepth 20000 in
theorem ggX6_count_X5_mostByWays : GoodIn wsX6_count wsX5_mostByWays := goodIn_r _ [114, 115, 116, 117, 79, 80, 81, 118, 119, 120, 113, 121, 122, 123, 124, 125, 126, 127, 128, 103, 104, 10, 105, 39, 34, 129, 31, 32, 33, 130, 131, 132, 133, 134, 14, 15, 16, 17, 135, 36, 37, 38, 136, 41, 137, 138, 139, 140, 141, 142, 23, 24, 25, 143, 144, 145, 146, 147, 148, 149, 150, 151, 152, 153, 154, 12, 195, 196, 197, 198, 199, 200, 201, 202, 182, 183, 184, 185, 186, 187] (by decide +kernel) (by decide +kernel)
set_option maxRecDepth 20000 in
theorem gX6_count_X5_mostByWays : GoodIn wsX6_count (wsV RX6 241 RX5 yX5_mostByWays wsX5_mostByWays) := goodIn_app (goodIn_of _ (by decide +kernel)) ggX6_count_X5_mostByWays
set_option maxRecDepth 20000 in
theorem ggX6_count_X5_mostByCuts : GoodIn wsX6_count wsX5_mostByCuts := goodIn_r _ [158, 116, 142, 23, 24, 25, 159, 160, 161, 113, 162, 163, 164, 165, 166, 128, 103, 104, 10, 105, 39, 34, 129, 31, 32, 33, 135, 36, 37, 38, 134, 14, 15, 16, 17, 167, 168, 169, 170, 171, 172, 173, 195, 196, 197, 198, 199, 200, 201, 202, 182, 183, 184, 185, 186, 187] (by decide +kernel) (by decide +kernel)
set_option maxRecDepth 20000 in
theorem gX6_count_X5_mostByCuts : GoodIn wsX6_count (wsV RX6 244 RX5 yX5_mostByCuts wsX5_mostByCuts) := goodIn_app (goodIn_of _ (by decide +kernel)) ggX6_count_X5_mostByCuts
theorem dX6_count_0 : decode cX6_count 0 = .ok (.iload_n 1, 1) := by decide +kernel
theorem dX6_count_1 : decode cX6_count 1 = .ok (.tableswitch 147 0 9 #[55, 63, 71, 79, 91, 99, 107, 119, 131, 139], 55) := by decide +kernel
theorem dX6_count_56 : decode cX6_count 56 = .ok (.aload_n 0, 1) := by decide +kernel
theorem dX6_count_57 : decode cX6_count 57 = .ok (.getfield 10, 3) := by decide +kernel
theorem dX6_count_60 : decode cX6_count 60 = .ok (.getfield 75, 3) := by decide +kernel
theorem dX6_count_63 : decode cX6_count 63 = .ok (.ireturn, 1) := by decide +kernel
theorem dX6_count_64 : decode cX6_count 64 = .ok (.aload_n 0, 1) := by decide +kernel
theorem dX6_count_65 : decode cX6_count 65 = .ok (.getfield 10, 3) := by decide +kernel
theorem dX6_count_68 : decode cX6_count 68 = .ok (.invokevirtual 229, 3) := by decide +kernel
theorem dX6_count_71 : decode cX6_count 71 = .ok (.ireturn, 1) := by decide +kernel
theorem dX6_count_72 : decode cX6_count 72 = .ok (.aload_n 0, 1) := by decide +kernel
theorem dX6_count_73 : decode cX6_count 73 = .ok (.getfield 10, 3) := by decide +kernel
theorem dX6_count_76 : decode cX6_count 76 = .ok (.invokevirtual 113, 3) := by decide +kernel
theorem dX6_count_79 : decode cX6_count 79 = .ok (.ireturn, 1) := by decide +kernel
theorem dX6_count_80 : decode cX6_count 80 = .ok (.aload_n 0, 1) := by decide +kernel
theorem dX6_count_81 : decode cX6_count 81 = .ok (.getfield 40, 3) := by decide +kernel
theorem dX6_count_84 : decode cX6_count 84 = .ok (.aload_n 0, 1) := by decide +kernel
theorem dX6_count_85 : decode cX6_count 85 = .ok (.getfield 10, 3) := by decide +kernel
theorem dX6_count_88 : decode cX6_count 88 = .ok (.invokevirtual 232, 3) := by decide +kernel
theorem dX6_count_91 : decode cX6_count 91 = .ok (.ireturn, 1) := by decide +kernel
theorem dX6_count_92 : decode cX6_count 92 = .ok (.aload_n 0, 1) := by decide +kernel
theorem dX6_count_93 : decode cX6_count 93 = .ok (.getfield 10, 3) := by decide +kernel
theorem dX6_count_96 : decode cX6_count 96 = .ok (.invokevirtual 235, 3) := by decide +kernel
theorem dX6_count_99 : decode cX6_count 99 = .ok (.ireturn, 1) := by decide +kernel
theorem dX6_count_100 : decode cX6_count 100 = .ok (.aload_n 0, 1) := by decide +kernel
theorem dX6_count_101 : decode cX6_count 101 = .ok (.getfield 10, 3) := by decide +kernel
theorem dX6_count_104 : decode cX6_count 104 = .ok (.invokevirtual 238, 3) := by decide +kernel
theorem dX6_count_107 : decode cX6_count 107 = .ok (.ireturn, 1) := by decide +kernel
theorem dX6_count_108 : decode cX6_count 108 = .ok (.aload_n 0, 1) := by decide +kernel
theorem dX6_count_109 : decode cX6_count 109 = .ok (.getfield 54, 3) := by decide +kernel
theorem dX6_count_112 : decode cX6_count 112 = .ok (.aload_n 0, 1) := by decide +kernel
theorem dX6_count_113 : decode cX6_count 113 = .ok (.getfield 10, 3) := by decide +kernel
theorem dX6_count_116 : decode cX6_count 116 = .ok (.invokevirtual 241, 3) := by decide +kernel
theorem dX6_count_119 : decode cX6_count 119 = .ok (.ireturn, 1) := by decide +kernel
theorem dX6_count_120 : decode cX6_count 120 = .ok (.aload_n 0, 1) := by decide +kernel
theorem dX6_count_121 : decode cX6_count 121 = .ok (.getfield 54, 3) := by decide +kernel
theorem dX6_count_124 : decode cX6_count 124 = .ok (.aload_n 0, 1) := by decide +kernel
theorem dX6_count_125 : decode cX6_count 125 = .ok (.getfield 10, 3) := by decide +kernel
theorem dX6_count_128 : decode cX6_count 128 = .ok (.invokevirtual 244, 3) := by decide +kernel
theorem dX6_count_131 : decode cX6_count 131 = .ok (.ireturn, 1) := by decide +kernel
theorem dX6_count_132 : decode cX6_count 132 = .ok (.aload_n 0, 1) := by decide +kernel
theorem dX6_count_133 : decode cX6_count 133 = .ok (.getfield 10, 3) := by decide +kernel
theorem dX6_count_136 : decode cX6_count 136 = .ok (.getfield 247, 3) := by decide +kernel
theorem dX6_count_139 : decode cX6_count 139 = .ok (.ireturn, 1) := by decide +kernel
theorem dX6_count_140 : decode cX6_count 140 = .ok (.aload_n 0, 1) := by decide +kernel
theorem dX6_count_141 : decode cX6_count 141 = .ok (.getfield 26, 3) := by decide +kernel
theorem dX6_count_144 : decode cX6_count 144 = .ok (.getfield 178, 3) := by decide +kernel
theorem dX6_count_147 : decode cX6_count 147 = .ok (.ireturn, 1) := by decide +kernel
theorem dX6_count_148 : decode cX6_count 148 = .ok (.new 66, 3) := by decide +kernel
theorem dX6_count_151 : decode cX6_count 151 = .ok (.dup, 1) := by decide +kernel
theorem dX6_count_152 : decode cX6_count 152 = .ok (.ldc 250, 2) := by decide +kernel
theorem dX6_count_154 : decode cX6_count 154 = .ok (.invokespecial 70, 3) := by decide +kernel
theorem dX6_count_157 : decode cX6_count 157 = .ok (.athrow, 1) := by decide +kernel
set_option maxRecDepth 20000 in
theorem ggX6_ifSwapped_X6_checkPair : GoodIn wsX6_ifSwapped wsX6_checkPair := goodIn_ca (goodIn_ca (goodIn_r _ [6, 7, 8, 9, 10, 5, 11, 12, 13, 14, 15, 16, 17, 18, 19] (by decide +kernel) (by decide +kernel)) (goodIn_sub (fun _ h => List.mem_cons_of_mem _ (List.mem_append_left _ (List.mem_append_right _ h))) (by decide +kernel))) (goodIn_sub (fun _ h => List.mem_cons_of_mem _ (List.mem_append_right _ h)) (by decide +kernel))
set_option maxRecDepth 20000 in
theorem gX6_ifSwapped_X6_checkPair : GoodIn wsX6_ifSwapped (va_wsS RX6 107 yX6_checkPair wsX6_checkPair) := goodIn_app (goodIn_of _ (by decide +kernel)) ggX6_ifSwapped_X6_checkPair
set_option maxRecDepth 20000 in
theorem ggX6_ifSwapped_X1_copyFrom : GoodIn wsX6_ifSwapped wsX1_copyFrom := goodIn_r _ [24, 25, 26, 27, 28, 29, 30, 31, 32, 33, 34, 83, 84, 85, 86, 87, 88] (by decide +kernel) (by decide +kernel)
set_option maxRecDepth 20000 in
theorem gX6_ifSwapped_X1_copyFrom : GoodIn wsX6_ifSwapped (wsV RX6 173 RX1 yX1_copyFrom wsX1_copyFrom) := goodIn_app (goodIn_of _ (by decide +kernel)) ggX6_ifSwapped_X1_copyFrom
set_option maxRecDepth 20000 in
theorem ggX6_ifSwapped_X1_exchangePlaces : GoodIn wsX6_ifSwapped wsX1_exchangePlaces := goodIn_r _ [38, 39, 40, 41, 23, 42, 25, 43, 44, 45, 46, 15, 5, 16, 83, 84, 85, 86, 87, 88] (by decide +kernel) (by decide +kernel)
set_option maxRecDepth 20000 in
theorem gX6_ifSwapped_X1_exchangePlaces : GoodIn wsX6_ifSwapped (wsV RX6 110 RX1 yX1_exchangePlaces wsX1_exchangePlaces) := goodIn_app (goodIn_of _ (by decide +kernel)) ggX6_ifSwapped_X1_exchangePlaces
set_option maxRecDepth 20000 in
theorem ggX6_ifSwapped_X1_allCrossings : GoodIn wsX6_ifSwapped wsX1_allCrossings := goodIn_r _ [50, 33, 51, 52, 53, 54, 55, 56, 57, 23, 58, 59, 60, 61, 62, 30, 63, 64, 65, 66, 31, 18, 5, 19, 67, 68, 69, 70, 39, 40, 41, 42, 25, 71, 72, 73, 74, 32, 83, 84, 85, 86, 87, 88] (by decide +kernel) (by decide +kernel)
set_option maxRecDepth 20000 in
theorem gX6_ifSwapped_X1_allCrossings : GoodIn wsX6_ifSwapped (wsV RX6 113 RX1 yX1_allCrossings wsX1_allCrossings) := goodIn_app (goodIn_of _ (by decide +kernel)) ggX6_ifSwapped_X1_allCrossings
theorem dX6_ifSwapped_0 : decode cX6_ifSwapped 0 = .ok (.iload_n 1, 1) := by decide +kernel
theorem dX6_ifSwapped_1 : decode cX6_ifSwapped 1 = .ok (.iload_n 2, 1) := by decide +kernel
theorem dX6_ifSwapped_2 : decode cX6_ifSwapped 2 = .ok (.invokestatic 107, 3) := by decide +kernel
theorem dX6_ifSwapped_5 : decode cX6_ifSwapped 5 = .ok (.aload_n 0, 1) := by decide +kernel
theorem dX6_ifSwapped_6 : decode cX6_ifSwapped 6 = .ok (.getfield 16, 3) := by decide +kernel
theorem dX6_ifSwapped_9 : decode cX6_ifSwapped 9 = .ok (.aload_n 0, 1) := by decide +kernel
theorem dX6_ifSwapped_10 : decode cX6_ifSwapped 10 = .ok (.getfield 10, 3) := by decide +kernel
theorem dX6_ifSwapped_13 : decode cX6_ifSwapped 13 = .ok (.invokevirtual 173, 3) := by decide +kernel
theorem dX6_ifSwapped_16 : decode cX6_ifSwapped 16 = .ok (.aload_n 0, 1) := by decide +kernel
theorem dX6_ifSwapped_17 : decode cX6_ifSwapped 17 = .ok (.getfield 16, 3) := by decide +kernel
theorem dX6_ifSwapped_20 : decode cX6_ifSwapped 20 = .ok (.iload_n 1, 1) := by decide +kernel
theorem dX6_ifSwapped_21 : decode cX6_ifSwapped 21 = .ok (.iload_n 2, 1) := by decide +kernel
theorem dX6_ifSwapped_22 : decode cX6_ifSwapped 22 = .ok (.invokevirtual 110, 3) := by decide +kernel
theorem dX6_ifSwapped_25 : decode cX6_ifSwapped 25 = .ok (.aload_n 0, 1) := by decide +kernel
theorem dX6_ifSwapped_26 : decode cX6_ifSwapped 26 = .ok (.getfield 16, 3) := by decide +kernel
theorem dX6_ifSwapped_29 : decode cX6_ifSwapped 29 = .ok (.invokevirtual 113, 3) := by decide +kernel
theorem dX6_ifSwapped_32 : decode cX6_ifSwapped 32 = .ok (.ireturn, 1) := by decide +kernel
set_option maxRecDepth 20000 in
theorem ggX6_bestOrder_X6_checkColumn : GoodIn wsX6_bestOrder wsX6_checkColumn := goodIn_ca (goodIn_r _ [6, 7, 8] (by decide +kernel) (by decide +kernel)) (goodIn_sub (fun _ h => List.mem_cons_of_mem _ (List.mem_append_right _ h)) (by decide +kernel))
set_option maxRecDepth 20000 in
theorem gX6_bestOrder_X6_checkColumn : GoodIn wsX6_bestOrder (va_wsS RX6 120 yX6_checkColumn wsX6_checkColumn) := goodIn_app (goodIn_of _ (by decide +kernel)) ggX6_bestOrder_X6_checkColumn
set_option maxRecDepth 20000 in
theorem ggX6_bestOrder_X2_findBest : GoodIn wsX6_bestOrder wsX2_findBest := goodIn_r _ [13, 14, 15, 16, 17, 18, 19, 20, 21, 22, 23, 12, 24, 25, 26, 27, 28, 29, 30, 31, 32, 33, 34, 35, 36, 37, 38, 39, 40, 41, 42, 43, 44, 45, 46, 47, 48, 49, 5, 50, 51, 52, 53, 54, 55, 56, 57, 58, 59, 60, 61, 62, 63, 64, 65, 66, 67, 68, 69, 70, 71, 72, 73, 74, 75, 76, 77, 90, 91, 92, 93, 94, 95, 96, 97, 98, 99, 100] (by decide +kernel) (by decide +kernel)
set_option maxRecDepth 20000 in
theorem gX6_bestOrder_X2_findBest : GoodIn wsX6_bestOrder (wsV RX6 123 RX2 yX2_findBest wsX2_findBest) := goodIn_app (goodIn_of _ (by decide +kernel)) ggX6_bestOrder_X2_findBest
set_option maxRecDepth 20000 in
theorem ggX6_bestOrder_X2_tellBest : GoodIn wsX6_bestOrder wsX2_tellBest := goodIn_r _ [81, 16, 90, 91, 92, 93, 94] (by decide +kernel) (by decide +kernel)
set_option maxRecDepth 20000 in
theorem gX6_bestOrder_X2_tellBest : GoodIn wsX6_bestOrder (wsV RX6 252 RX2 yX2_tellBest wsX2_tellBest) := goodIn_app (goodIn_of _ (by decide +kernel)) ggX6_bestOrder_X2_tellBest
theorem dX6_bestOrder_0 : decode cX6_bestOrder 0 = .ok (.iload_n 1, 1) := by decide +kernel
theorem dX6_bestOrder_1 : decode cX6_bestOrder 1 = .ok (.invokestatic 120, 3) := by decide +kernel
theorem dX6_bestOrder_4 : decode cX6_bestOrder 4 = .ok (.aload_n 0, 1) := by decide +kernel
theorem dX6_bestOrder_5 : decode cX6_bestOrder 5 = .ok (.getfield 47, 3) := by decide +kernel
theorem dX6_bestOrder_8 : decode cX6_bestOrder 8 = .ok (.aload_n 0, 1) := by decide +kernel
theorem dX6_bestOrder_9 : decode cX6_bestOrder 9 = .ok (.getfield 10, 3) := by decide +kernel
theorem dX6_bestOrder_12 : decode cX6_bestOrder 12 = .ok (.iload_n 1, 1) := by decide +kernel
theorem dX6_bestOrder_13 : decode cX6_bestOrder 13 = .ok (.invokevirtual 123, 3) := by decide +kernel
theorem dX6_bestOrder_16 : decode cX6_bestOrder 16 = .ok (.aload_n 0, 1) := by decide +kernel
theorem dX6_bestOrder_17 : decode cX6_bestOrder 17 = .ok (.getfield 47, 3) := by decide +kernel
theorem dX6_bestOrder_20 : decode cX6_bestOrder 20 = .ok (.invokevirtual 252, 3) := by decide +kernel
theorem dX6_bestOrder_23 : decode cX6_bestOrder 23 = .ok (.ireturn, 1) := by decide +kernel
set_option maxRecDepth 20000 in
theorem ggX6_ifSettled_X1_copyFrom : GoodIn wsX6_ifSettled wsX1_copyFrom := goodIn_r _ [7, 8, 9, 10, 11, 12, 13, 14, 15, 16, 17, 79, 80, 81, 82, 83, 84] (by decide +kernel) (by decide +kernel)
set_option maxRecDepth 20000 in
theorem gX6_ifSettled_X1_copyFrom : GoodIn wsX6_ifSettled (wsV RX6 173 RX1 yX1_copyFrom wsX1_copyFrom) := goodIn_app (goodIn_of _ (by decide +kernel)) ggX6_ifSettled_X1_copyFrom
set_option maxRecDepth 20000 in
theorem ggX6_ifSettled_X1_trimAll : GoodIn wsX6_ifSettled wsX1_trimAll := goodIn_r _ [21, 22, 23, 24, 25, 6, 26, 27, 28, 29, 30, 17, 31, 32, 33, 34, 35, 36, 37, 38, 16, 39, 40, 41, 42, 14, 43, 44, 45, 46, 13, 47, 48, 49, 50, 15, 51, 52, 53, 54, 55, 56, 57, 58, 59, 60, 61, 62, 63, 64, 65, 66, 67, 68, 69, 70, 79, 80, 81, 82, 83, 84] (by decide +kernel) (by decide +kernel)
set_option maxRecDepth 20000 in
theorem gX6_ifSettled_X1_trimAll : GoodIn wsX6_ifSettled (wsV RX6 142 RX1 yX1_trimAll wsX1_trimAll) := goodIn_app (goodIn_of _ (by decide +kernel)) ggX6_ifSettled_X1_trimAll
theorem dX6_ifSettled_0 : decode cX6_ifSettled 0 = .ok (.aload_n 0, 1) := by decide +kernel
theorem dX6_ifSettled_1 : decode cX6_ifSettled 1 = .ok (.getfield 16, 3) := by decide +kernel
theorem dX6_ifSettled_4 : decode cX6_ifSettled 4 = .ok (.aload_n 0, 1) := by decide +kernel
theorem dX6_ifSettled_5 : decode cX6_ifSettled 5 = .ok (.getfield 10, 3) := by decide +kernel
theorem dX6_ifSettled_8 : decode cX6_ifSettled 8 = .ok (.invokevirtual 173, 3) := by decide +kernel
theorem dX6_ifSettled_11 : decode cX6_ifSettled 11 = .ok (.aload_n 0, 1) := by decide +kernel
theorem dX6_ifSettled_12 : decode cX6_ifSettled 12 = .ok (.getfield 16, 3) := by decide +kernel
theorem dX6_ifSettled_15 : decode cX6_ifSettled 15 = .ok (.invokevirtual 142, 3) := by decide +kernel
theorem dX6_ifSettled_18 : decode cX6_ifSettled 18 = .ok (.ireturn, 1) := by decide +kernel
set_option maxRecDepth 20000 in
theorem ggX6_mainRibbon_X5_ribbonThatMatters : GoodIn wsX6_mainRibbon wsX5_ribbonThatMatters := goodIn_r _ [7, 8, 9, 10, 11, 12, 13, 14, 15, 16, 17, 18, 19, 20, 6, 21, 22, 23, 24, 25, 26, 27, 28, 29, 30, 31, 32, 33, 34, 35, 36, 37, 38, 39, 40, 41, 42, 43, 44, 45, 46, 47, 48, 49, 50, 51, 52, 53, 54, 55, 56, 65, 66, 67, 68, 69, 70, 71, 72, 73, 74, 75, 76, 77, 78] (by decide +kernel) (by decide +kernel)
set_option maxRecDepth 20000 in
theorem gX6_mainRibbon_X5_ribbonThatMatters : GoodIn wsX6_mainRibbon (wsV RX6 255 RX5 yX5_ribbonThatMatters wsX5_ribbonThatMatters) := goodIn_app (goodIn_of _ (by decide +kernel)) ggX6_mainRibbon_X5_ribbonThatMatters
theorem dX6_mainRibbon_0 : decode cX6_mainRibbon 0 = .ok (.aload_n 0, 1) := by decide +kernel
theorem dX6_mainRibbon_1 : decode cX6_mainRibbon 1 = .ok (.getfield 54, 3) := by decide +kernel
theorem dX6_mainRibbon_4 : decode cX6_mainRibbon 4 = .ok (.aload_n 0, 1) := by decide +kernel
theorem dX6_mainRibbon_5 : decode cX6_mainRibbon 5 = .ok (.getfield 10, 3) := by decide +kernel
theorem dX6_mainRibbon_8 : decode cX6_mainRibbon 8 = .ok (.invokevirtual 255, 3) := by decide +kernel
theorem dX6_mainRibbon_11 : decode cX6_mainRibbon 11 = .ok (.ireturn, 1) := by decide +kernel
set_option maxRecDepth 20000 in
theorem ggX6_height_X6_checkColumn : GoodIn wsX6_height wsX6_checkColumn := goodIn_ca (goodIn_r _ [4, 5, 6] (by decide +kernel) (by decide +kernel)) (goodIn_sub (fun _ h => List.mem_cons_of_mem _ (List.mem_append_left _ (List.mem_append_right _ h))) (by decide +kernel))
set_option maxRecDepth 20000 in
theorem gX6_height_X6_checkColumn : GoodIn wsX6_height (va_wsS RX6 120 yX6_checkColumn wsX6_checkColumn) := goodIn_app (goodIn_of _ (by decide +kernel)) ggX6_height_X6_checkColumn
set_option maxRecDepth 20000 in
theorem ggX6_height_X6_postOf : GoodIn wsX6_height wsX6_postOf := goodIn_ca (goodIn_ca (goodIn_r _ [10, 11, 12, 13, 14, 15, 16, 17, 18, 19, 3, 20, 5, 6, 21, 22, 23, 24, 25, 26, 27, 28, 29, 30, 31, 32, 33, 34, 35, 36, 37, 38, 39, 40, 41, 42, 43, 44, 45, 46, 47, 48, 49, 50, 51, 52, 53, 54, 55, 56, 57, 58, 59, 60, 61, 62, 63, 64, 65, 66, 67, 68, 69, 70, 71, 72, 73, 74, 75, 76, 77, 78, 79, 80, 81, 82, 83, 84, 85, 86, 87, 88, 89, 90, 91, 92] (by decide +kernel) (by decide +kernel)) (goodIn_sub (fun _ h => List.mem_cons_of_mem _ (List.mem_append_right _ h)) (by decide +kernel))) (goodIn_sub (fun _ h => List.mem_cons_of_mem _ (List.mem_append_left _ (List.mem_append_right _ h))) (by decide +kernel))
set_option maxRecDepth 20000 in
theorem gX6_height_X6_postOf : GoodIn wsX6_height (wsV RX6 258 RX6 yX6_postOf wsX6_postOf) := goodIn_app (goodIn_of _ (by decide +kernel)) ggX6_height_X6_postOf
theorem dX6_height_0 : decode cX6_height 0 = .ok (.iload_n 1, 1) := by decide +kernel
theorem dX6_height_1 : decode cX6_height 1 = .ok (.invokestatic 120, 3) := by decide +kernel
theorem dX6_height_4 : decode cX6_height 4 = .ok (.iconst 0, 1) := by decide +kernel
theorem dX6_height_5 : decode cX6_height 5 = .ok (.istore_n 2, 1) := by decide +kernel
theorem dX6_height_6 : decode cX6_height 6 = .ok (.iconst 0, 1) := by decide +kernel
theorem dX6_height_7 : decode cX6_height 7 = .ok (.istore_n 3, 1) := by decide +kernel
theorem dX6_height_8 : decode cX6_height 8 = .ok (.iload_n 3, 1) := by decide +kernel
theorem dX6_height_9 : decode cX6_height 9 = .ok (.iconst 4, 1) := by decide +kernel
theorem dX6_height_10 : decode cX6_height 10 = .ok (.if_icmp .ge 23, 3) := by decide +kernel
theorem dX6_height_13 : decode cX6_height 13 = .ok (.iload_n 2, 1) := by decide +kernel
theorem dX6_height_14 : decode cX6_height 14 = .ok (.aload_n 0, 1) := by decide +kernel
theorem dX6_height_15 : decode cX6_height 15 = .ok (.iload_n 1, 1) := by decide +kernel
theorem dX6_height_16 : decode cX6_height 16 = .ok (.iconst 4, 1) := by decide +kernel
theorem dX6_height_17 : decode cX6_height 17 = .ok (.imul, 1) := by decide +kernel
theorem dX6_height_18 : decode cX6_height 18 = .ok (.iload_n 3, 1) := by decide +kernel
theorem dX6_height_19 : decode cX6_height 19 = .ok (.iadd, 1) := by decide +kernel
theorem dX6_height_20 : decode cX6_height 20 = .ok (.bipush 7, 2) := by decide +kernel
theorem dX6_height_22 : decode cX6_height 22 = .ok (.invokevirtual 258, 3) := by decide +kernel
theorem dX6_height_25 : decode cX6_height 25 = .ok (.iadd, 1) := by decide +kernel
theorem dX6_height_26 : decode cX6_height 26 = .ok (.istore_n 2, 1) := by decide +kernel
theorem dX6_height_27 : decode cX6_height 27 = .ok (.iinc 3 1, 3) := by decide +kernel
theorem dX6_height_30 : decode cX6_height 30 = .ok (.goto (-22), 3) := by decide +kernel
theorem dX6_height_33 : decode cX6_height 33 = .ok (.iload_n 2, 1) := by decide +kernel
theorem dX6_height_34 : decode cX6_height 34 = .ok (.ireturn, 1) := by decide +kernel
set_option maxRecDepth 20000 in
theorem ggX6_throughShare_X1_leaves : GoodIn wsX6_throughShare wsX1_leaves := goodIn_r _ [7, 8, 9, 10, 11, 6, 12, 13, 14, 15, 16, 17, 18, 19, 20, 21, 22, 23, 87, 88, 89, 90, 91, 92] (by decide +kernel) (by decide +kernel)
set_option maxRecDepth 20000 in
theorem gX6_throughShare_X1_leaves : GoodIn wsX6_throughShare (wsV RX6 192 RX1 yX1_leaves wsX1_leaves) := goodIn_app (goodIn_of _ (by decide +kernel)) ggX6_throughShare_X1_leaves
set_option maxRecDepth 20000 in
theorem ggX6_throughShare_X5_mostByWays : GoodIn wsX6_throughShare wsX5_mostByWays := goodIn_r _ [28, 29, 30, 31, 32, 33, 34, 35, 36, 37, 27, 38, 39, 40, 41, 42, 43, 44, 45, 15, 16, 6, 17, 18, 13, 46, 10, 11, 12, 47, 48, 49, 50, 51, 20, 21, 22, 23, 52, 53, 54, 55, 56, 57, 58, 59, 60, 61, 62, 63, 64, 65, 66, 67, 68, 69, 70, 71, 72, 73, 74, 75, 76, 77, 78, 8, 93, 94, 95, 96, 97, 98, 99, 100, 87, 88, 89, 90, 91, 92] (by decide +kernel) (by decide +kernel)
set_option maxRecDepth 20000 in
theorem gX6_throughShare_X5_mostByWays : GoodIn wsX6_throughShare (wsV RX6 241 RX5 yX5_mostByWays wsX5_mostByWays) := goodIn_app (goodIn_of _ (by decide +kernel)) ggX6_throughShare_X5_mostByWays
theorem dX6_throughShare_0 : decode cX6_throughShare 0 = .ok (.iconst 0, 1) := by decide +kernel
theorem dX6_throughShare_1 : decode cX6_throughShare 1 = .ok (.istore_n 1, 1) := by decide +kernel
theorem dX6_throughShare_2 : decode cX6_throughShare 2 = .ok (.iconst 0, 1) := by decide +kernel
theorem dX6_throughShare_3 : decode cX6_throughShare 3 = .ok (.istore_n 2, 1) := by decide +kernel
theorem dX6_throughShare_4 : decode cX6_throughShare 4 = .ok (.iload_n 2, 1) := by decide +kernel
theorem dX6_throughShare_5 : decode cX6_throughShare 5 = .ok (.iconst 4, 1) := by decide +kernel
theorem dX6_throughShare_6 : decode cX6_throughShare 6 = .ok (.if_icmp .ge 20, 3) := by decide +kernel
theorem dX6_throughShare_9 : decode cX6_throughShare 9 = .ok (.iload_n 1, 1) := by decide +kernel
theorem dX6_throughShare_10 : decode cX6_throughShare 10 = .ok (.aload_n 0, 1) := by decide +kernel
theorem dX6_throughShare_11 : decode cX6_throughShare 11 = .ok (.getfield 10, 3) := by decide +kernel
theorem dX6_throughShare_14 : decode cX6_throughShare 14 = .ok (.iload_n 2, 1) := by decide +kernel
theorem dX6_throughShare_15 : decode cX6_throughShare 15 = .ok (.invokevirtual 192, 3) := by decide +kernel
theorem dX6_throughShare_18 : decode cX6_throughShare 18 = .ok (.iadd, 1) := by decide +kernel
theorem dX6_throughShare_19 : decode cX6_throughShare 19 = .ok (.istore_n 1, 1) := by decide +kernel
theorem dX6_throughShare_20 : decode cX6_throughShare 20 = .ok (.iinc 2 1, 3) := by decide +kernel
theorem dX6_throughShare_23 : decode cX6_throughShare 23 = .ok (.goto (-19), 3) := by decide +kernel
theorem dX6_throughShare_26 : decode cX6_throughShare 26 = .ok (.iload_n 1, 1) := by decide +kernel
theorem dX6_throughShare_27 : decode cX6_throughShare 27 = .ok (.ifCond .ne 5, 3) := by decide +kernel
theorem dX6_throughShare_30 : decode cX6_throughShare 30 = .ok (.dconst 1, 1) := by decide +kernel
theorem dX6_throughShare_31 : decode cX6_throughShare 31 = .ok (.dreturn, 1) := by decide +kernel
theorem dX6_throughShare_32 : decode cX6_throughShare 32 = .ok (.aload_n 0, 1) := by decide +kernel
theorem dX6_throughShare_33 : decode cX6_throughShare 33 = .ok (.getfield 54, 3) := by decide +kernel
theorem dX6_throughShare_36 : decode cX6_throughShare 36 = .ok (.aload_n 0, 1) := by decide +kernel
theorem dX6_throughShare_37 : decode cX6_throughShare 37 = .ok (.getfield 10, 3) := by decide +kernel
theorem dX6_throughShare_40 : decode cX6_throughShare 40 = .ok (.invokevirtual 241, 3) := by decide +kernel
theorem dX6_throughShare_43 : decode cX6_throughShare 43 = .ok (.i2d, 1) := by decide +kernel
theorem dX6_throughShare_44 : decode cX6_throughShare 44 = .ok (.iload_n 1, 1) := by decide +kernel
theorem dX6_throughShare_45 : decode cX6_throughShare 45 = .ok (.i2d, 1) := by decide +kernel
theorem dX6_throughShare_46 : decode cX6_throughShare 46 = .ok (.ddiv, 1) := by decide +kernel
theorem dX6_throughShare_47 : decode cX6_throughShare 47 = .ok (.dreturn, 1) := by decide +kernel
theorem dX6_columnOf_0 : decode cX6_columnOf 0 = .ok (.iload_n 0, 1) := by decide +kernel
theorem dX6_columnOf_1 : decode cX6_columnOf 1 = .ok (.iconst 4, 1) := by decide +kernel
theorem dX6_columnOf_2 : decode cX6_columnOf 2 = .ok (.idiv, 1) := by decide +kernel
theorem dX6_columnOf_3 : decode cX6_columnOf 3 = .ok (.ireturn, 1) := by decide +kernel
theorem dX6_isPost_0 : decode cX6_isPost 0 = .ok (.iload_n 0, 1) := by decide +kernel
theorem dX6_isPost_1 : decode cX6_isPost 1 = .ok (.ifCond .lt 13, 3) := by decide +kernel
theorem dX6_isPost_4 : decode cX6_isPost 4 = .ok (.iload_n 0, 1) := by decide +kernel
theorem dX6_isPost_5 : decode cX6_isPost 5 = .ok (.bipush 16, 2) := by decide +kernel
theorem dX6_isPost_7 : decode cX6_isPost 7 = .ok (.if_icmp .ge 7, 3) := by decide +kernel
theorem dX6_isPost_10 : decode cX6_isPost 10 = .ok (.iconst 1, 1) := by decide +kernel
theorem dX6_isPost_11 : decode cX6_isPost 11 = .ok (.goto 4, 3) := by decide +kernel
theorem dX6_isPost_14 : decode cX6_isPost 14 = .ok (.iconst 0, 1) := by decide +kernel
theorem dX6_isPost_15 : decode cX6_isPost 15 = .ok (.ireturn, 1) := by decide +kernel
theorem dX6_isInner_0 : decode cX6_isInner 0 = .ok (.iload_n 0, 1) := by decide +kernel
theorem dX6_isInner_1 : decode cX6_isInner 1 = .ok (.iconst 4, 1) := by decide +kernel
theorem dX6_isInner_2 : decode cX6_isInner 2 = .ok (.if_icmp .lt 13, 3) := by decide +kernel
theorem dX6_isInner_5 : decode cX6_isInner 5 = .ok (.iload_n 0, 1) := by decide +kernel
theorem dX6_isInner_6 : decode cX6_isInner 6 = .ok (.bipush 12, 2) := by decide +kernel
theorem dX6_isInner_8 : decode cX6_isInner 8 = .ok (.if_icmp .ge 7, 3) := by decide +kernel
theorem dX6_isInner_11 : decode cX6_isInner 11 = .ok (.iconst 1, 1) := by decide +kernel
theorem dX6_isInner_12 : decode cX6_isInner 12 = .ok (.goto 4, 3) := by decide +kernel
theorem dX6_isInner_15 : decode cX6_isInner 15 = .ok (.iconst 0, 1) := by decide +kernel
theorem dX6_isInner_16 : decode cX6_isInner 16 = .ok (.ireturn, 1) := by decide +kernel
set_option maxRecDepth 20000 in
theorem ggX6_checkPost_X6_isPost : GoodIn wsX6_checkPost wsX6_isPost := goodIn_r _ [6] (by decide +kernel) (by decide +kernel)
set_option maxRecDepth 20000 in
theorem gX6_checkPost_X6_isPost : GoodIn wsX6_checkPost (va_wsS RX6 317 yX6_isPost wsX6_isPost) := goodIn_app (goodIn_of _ (by decide +kernel)) ggX6_checkPost_X6_isPost
theorem dX6_checkPost_0 : decode cX6_checkPost 0 = .ok (.iload_n 0, 1) := by decide +kernel
theorem dX6_checkPost_1 : decode cX6_checkPost 1 = .ok (.invokestatic 317, 3) := by decide +kernel
theorem dX6_checkPost_4 : decode cX6_checkPost 4 = .ok (.ifCond .ne 14, 3) := by decide +kernel
theorem dX6_checkPost_7 : decode cX6_checkPost 7 = .ok (.new 134, 3) := by decide +kernel
theorem dX6_checkPost_10 : decode cX6_checkPost 10 = .ok (.dup, 1) := by decide +kernel
theorem dX6_checkPost_11 : decode cX6_checkPost 11 = .ok (.ldc_w 320, 3) := by decide +kernel
theorem dX6_checkPost_14 : decode cX6_checkPost 14 = .ok (.invokespecial 138, 3) := by decide +kernel
theorem dX6_checkPost_17 : decode cX6_checkPost 17 = .ok (.athrow, 1) := by decide +kernel
theorem dX6_checkPost_18 : decode cX6_checkPost 18 = .ok (.return_, 1) := by decide +kernel
set_option maxRecDepth 20000 in
theorem ggX6_checkPair_X6_checkPost : GoodIn wsX6_checkPair wsX6_checkPost := goodIn_ca (goodIn_r _ [6, 7, 8, 9, 10, 5, 11] (by decide +kernel) (by decide +kernel)) (goodIn_sub (fun _ h => List.mem_cons_of_mem _ (List.mem_append_right _ h)) (by decide +kernel))
set_option maxRecDepth 20000 in
theorem gX6_checkPair_X6_checkPost : GoodIn wsX6_checkPair (va_wsS RX6 58 yX6_checkPost wsX6_checkPost) := goodIn_app (goodIn_of _ (by decide +kernel)) ggX6_checkPair_X6_checkPost
set_option maxRecDepth 20000 in
theorem ggX6_checkPair_X6_columnOf : GoodIn wsX6_checkPair wsX6_columnOf := goodIn_r _ [14] (by decide +kernel) (by decide +kernel)
set_option maxRecDepth 20000 in
theorem gX6_checkPair_X6_columnOf : GoodIn wsX6_checkPair (va_wsS RX6 62 yX6_columnOf wsX6_columnOf) := goodIn_app (goodIn_of _ (by decide +kernel)) ggX6_checkPair_X6_columnOf
theorem dX6_checkPair_0 : decode cX6_checkPair 0 = .ok (.iload_n 0, 1) := by decide +kernel
theorem dX6_checkPair_1 : decode cX6_checkPair 1 = .ok (.invokestatic 58, 3) := by decide +kernel
theorem dX6_checkPair_4 : decode cX6_checkPair 4 = .ok (.iload_n 1, 1) := by decide +kernel
theorem dX6_checkPair_5 : decode cX6_checkPair 5 = .ok (.invokestatic 58, 3) := by decide +kernel
theorem dX6_checkPair_8 : decode cX6_checkPair 8 = .ok (.iload_n 0, 1) := by decide +kernel
theorem dX6_checkPair_9 : decode cX6_checkPair 9 = .ok (.iload_n 1, 1) := by decide +kernel
theorem dX6_checkPair_10 : decode cX6_checkPair 10 = .ok (.if_icmp .ne 14, 3) := by decide +kernel
theorem dX6_checkPair_13 : decode cX6_checkPair 13 = .ok (.new 66, 3) := by decide +kernel
theorem dX6_checkPair_16 : decode cX6_checkPair 16 = .ok (.dup, 1) := by decide +kernel
theorem dX6_checkPair_17 : decode cX6_checkPair 17 = .ok (.ldc_w 322, 3) := by decide +kernel
theorem dX6_checkPair_20 : decode cX6_checkPair 20 = .ok (.invokespecial 70, 3) := by decide +kernel
theorem dX6_checkPair_23 : decode cX6_checkPair 23 = .ok (.athrow, 1) := by decide +kernel
theorem dX6_checkPair_24 : decode cX6_checkPair 24 = .ok (.iload_n 0, 1) := by decide +kernel
theorem dX6_checkPair_25 : decode cX6_checkPair 25 = .ok (.invokestatic 62, 3) := by decide +kernel
theorem dX6_checkPair_28 : decode cX6_checkPair 28 = .ok (.iload_n 1, 1) := by decide +kernel
theorem dX6_checkPair_29 : decode cX6_checkPair 29 = .ok (.invokestatic 62, 3) := by decide +kernel
theorem dX6_checkPair_32 : decode cX6_checkPair 32 = .ok (.if_icmp .eq 14, 3) := by decide +kernel
theorem dX6_checkPair_35 : decode cX6_checkPair 35 = .ok (.new 66, 3) := by decide +kernel
theorem dX6_checkPair_38 : decode cX6_checkPair 38 = .ok (.dup, 1) := by decide +kernel
theorem dX6_checkPair_39 : decode cX6_checkPair 39 = .ok (.ldc_w 324, 3) := by decide +kernel
theorem dX6_checkPair_42 : decode cX6_checkPair 42 = .ok (.invokespecial 70, 3) := by decide +kernel
theorem dX6_checkPair_45 : decode cX6_checkPair 45 = .ok (.athrow, 1) := by decide +kernel
theorem dX6_checkPair_46 : decode cX6_checkPair 46 = .ok (.return_, 1) := by decide +kernel
theorem dX6_checkColumn_0 : decode cX6_checkColumn 0 = .ok (.iload_n 0, 1) := by decide +kernel
theorem dX6_checkColumn_1 : decode cX6_checkColumn 1 = .ok (.ifCond .lt 8, 3) := by decide +kernel
theorem dX6_checkColumn_4 : decode cX6_checkColumn 4 = .ok (.iload_n 0, 1) := by decide +kernel
theorem dX6_checkColumn_5 : decode cX6_checkColumn 5 = .ok (.iconst 4, 1) := by decide +kernel
theorem dX6_checkColumn_6 : decode cX6_checkColumn 6 = .ok (.if_icmp .lt 14, 3) := by decide +kernel
theorem dX6_checkColumn_9 : decode cX6_checkColumn 9 = .ok (.new 134, 3) := by decide +kernel
theorem dX6_checkColumn_12 : decode cX6_checkColumn 12 = .ok (.dup, 1) := by decide +kernel
theorem dX6_checkColumn_13 : decode cX6_checkColumn 13 = .ok (.ldc_w 326, 3) := by decide +kernel
theorem dX6_checkColumn_16 : decode cX6_checkColumn 16 = .ok (.invokespecial 138, 3) := by decide +kernel
theorem dX6_checkColumn_19 : decode cX6_checkColumn 19 = .ok (.athrow, 1) := by decide +kernel
theorem dX6_checkColumn_20 : decode cX6_checkColumn 20 = .ok (.return_, 1) := by decide +kernel
set_option maxRecDepth 20000 in
theorem ggX6_checkRibbon_X1_hasRibbon : GoodIn wsX6_checkRibbon wsX1_hasRibbon := goodIn_r _ [8, 9, 18, 19, 20, 21, 22, 23] (by decide +kernel) (by decide +kernel)
set_option maxRecDepth 20000 in
theorem gX6_checkRibbon_X1_hasRibbon : GoodIn wsX6_checkRibbon (wsV RX6 330 RX1 yX1_hasRibbon wsX1_hasRibbon) := goodIn_app (goodIn_of _ (by decide +kernel)) ggX6_checkRibbon_X1_hasRibbon
theorem dX6_checkRibbon_0 : decode cX6_checkRibbon 0 = .ok (.aload_n 0, 1) := by decide +kernel
theorem dX6_checkRibbon_1 : decode cX6_checkRibbon 1 = .ok (.getfield 10, 3) := by decide +kernel
theorem dX6_checkRibbon_4 : decode cX6_checkRibbon 4 = .ok (.iload_n 1, 1) := by decide +kernel
theorem dX6_checkRibbon_5 : decode cX6_checkRibbon 5 = .ok (.invokevirtual 330, 3) := by decide +kernel
theorem dX6_checkRibbon_8 : decode cX6_checkRibbon 8 = .ok (.ifCond .ne 14, 3) := by decide +kernel
theorem dX6_checkRibbon_11 : decode cX6_checkRibbon 11 = .ok (.new 134, 3) := by decide +kernel
