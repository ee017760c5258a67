theorem dX0_init_0 : decode cX0_init 0 = .ok (.aload_n 0, 1) := by decide +kernel
theorem dX0_init_1 : decode cX0_init 1 = .ok (.invokespecial 3, 3) := by decide +kernel
theorem dX0_init_4 : decode cX0_init 4 = .ok (.aload_n 0, 1) := by decide +kernel
theorem dX0_init_5 : decode cX0_init 5 = .ok (.bipush 20, 2) := by decide +kernel
theorem dX0_init_7 : decode cX0_init 7 = .ok (.newarray .int, 2) := by decide +kernel
theorem dX0_init_9 : decode cX0_init 9 = .ok (.putfield 9, 3) := by decide +kernel
theorem dX0_init_12 : decode cX0_init 12 = .ok (.aload_n 0, 1) := by decide +kernel
theorem dX0_init_13 : decode cX0_init 13 = .ok (.bipush 20, 2) := by decide +kernel
theorem dX0_init_15 : decode cX0_init 15 = .ok (.newarray .int, 2) := by decide +kernel
theorem dX0_init_17 : decode cX0_init 17 = .ok (.putfield 15, 3) := by decide +kernel
theorem dX0_init_20 : decode cX0_init 20 = .ok (.aload_n 0, 1) := by decide +kernel
theorem dX0_init_21 : decode cX0_init 21 = .ok (.iconst 4, 1) := by decide +kernel
theorem dX0_init_22 : decode cX0_init 22 = .ok (.newarray .int, 2) := by decide +kernel
theorem dX0_init_24 : decode cX0_init 24 = .ok (.putfield 18, 3) := by decide +kernel
theorem dX0_init_27 : decode cX0_init 27 = .ok (.return_, 1) := by decide +kernel
set_option maxRecDepth 20000 in
theorem ggX0_allCrossings_X0_gather : GoodIn wsX0_allCrossings wsX0_gather := goodIn_r _ [6, 1, 7, 8, 9, 10, 11, 12, 13, 14, 15, 16, 17, 18, 19, 20, 21, 22, 23, 24, 25, 26, 27, 28, 29, 30, 31, 32, 33, 34, 35, 36, 37, 38, 39, 5, 40, 41, 42, 52, 53, 54, 55, 56, 57, 58, 59, 60, 61] (by decide +kernel) (by decide +kernel)
set_option maxRecDepth 20000 in
theorem gX0_allCrossings_X0_gather : GoodIn wsX0_allCrossings (wsV RX0 21 RX0 yX0_gather wsX0_gather) := goodIn_app (goodIn_of _ (by decide +kernel)) ggX0_allCrossings_X0_gather
set_option maxRecDepth 20000 in
theorem ggX0_allCrossings_X0_crossingsFrom : GoodIn wsX0_allCrossings wsX0_crossingsFrom := goodIn_r _ [46, 47, 1, 41, 42, 48, 49, 50, 51, 52, 53, 54, 55] (by decide +kernel) (by decide +kernel)
set_option maxRecDepth 20000 in
theorem gX0_allCrossings_X0_crossingsFrom : GoodIn wsX0_allCrossings (wsV RX0 29 RX0 yX0_crossingsFrom wsX0_crossingsFrom) := goodIn_app (goodIn_of _ (by decide +kernel)) ggX0_allCrossings_X0_crossingsFrom
theorem dX0_allCrossings_0 : decode cX0_allCrossings 0 = .ok (.iconst 0, 1) := by decide +kernel
theorem dX0_allCrossings_1 : decode cX0_allCrossings 1 = .ok (.istore_n 2, 1) := by decide +kernel
theorem dX0_allCrossings_2 : decode cX0_allCrossings 2 = .ok (.iconst 0, 1) := by decide +kernel
theorem dX0_allCrossings_3 : decode cX0_allCrossings 3 = .ok (.istore_n 3, 1) := by decide +kernel
theorem dX0_allCrossings_4 : decode cX0_allCrossings 4 = .ok (.iload_n 3, 1) := by decide +kernel
theorem dX0_allCrossings_5 : decode cX0_allCrossings 5 = .ok (.iconst 4, 1) := by decide +kernel
theorem dX0_allCrossings_6 : decode cX0_allCrossings 6 = .ok (.if_icmp .ge 67, 3) := by decide +kernel
theorem dX0_allCrossings_9 : decode cX0_allCrossings 9 = .ok (.iload_n 3, 1) := by decide +kernel
theorem dX0_allCrossings_10 : decode cX0_allCrossings 10 = .ok (.iconst 1, 1) := by decide +kernel
theorem dX0_allCrossings_11 : decode cX0_allCrossings 11 = .ok (.iadd, 1) := by decide +kernel
theorem dX0_allCrossings_12 : decode cX0_allCrossings 12 = .ok (.istore 4, 2) := by decide +kernel
theorem dX0_allCrossings_14 : decode cX0_allCrossings 14 = .ok (.iload 4, 2) := by decide +kernel
theorem dX0_allCrossings_16 : decode cX0_allCrossings 16 = .ok (.iconst 4, 1) := by decide +kernel
theorem dX0_allCrossings_17 : decode cX0_allCrossings 17 = .ok (.if_icmp .ge 50, 3) := by decide +kernel
theorem dX0_allCrossings_20 : decode cX0_allCrossings 20 = .ok (.aload_n 0, 1) := by decide +kernel
theorem dX0_allCrossings_21 : decode cX0_allCrossings 21 = .ok (.aload_n 1, 1) := by decide +kernel
theorem dX0_allCrossings_22 : decode cX0_allCrossings 22 = .ok (.iload_n 3, 1) := by decide +kernel
theorem dX0_allCrossings_23 : decode cX0_allCrossings 23 = .ok (.iload 4, 2) := by decide +kernel
theorem dX0_allCrossings_25 : decode cX0_allCrossings 25 = .ok (.invokevirtual 21, 3) := by decide +kernel
theorem dX0_allCrossings_28 : decode cX0_allCrossings 28 = .ok (.iconst 1, 1) := by decide +kernel
theorem dX0_allCrossings_29 : decode cX0_allCrossings 29 = .ok (.istore 5, 2) := by decide +kernel
theorem dX0_allCrossings_31 : decode cX0_allCrossings 31 = .ok (.iload 5, 2) := by decide +kernel
theorem dX0_allCrossings_33 : decode cX0_allCrossings 33 = .ok (.bipush 50, 2) := by decide +kernel
theorem dX0_allCrossings_35 : decode cX0_allCrossings 35 = .ok (.if_icmp .gt 26, 3) := by decide +kernel
theorem dX0_allCrossings_38 : decode cX0_allCrossings 38 = .ok (.aload_n 0, 1) := by decide +kernel
theorem dX0_allCrossings_39 : decode cX0_allCrossings 39 = .ok (.getfield 25, 3) := by decide +kernel
theorem dX0_allCrossings_42 : decode cX0_allCrossings 42 = .ok (.iconst 1, 1) := by decide +kernel
theorem dX0_allCrossings_43 : decode cX0_allCrossings 43 = .ok (.if_icmp .le 18, 3) := by decide +kernel
theorem dX0_allCrossings_46 : decode cX0_allCrossings 46 = .ok (.iload_n 2, 1) := by decide +kernel
theorem dX0_allCrossings_47 : decode cX0_allCrossings 47 = .ok (.aload_n 0, 1) := by decide +kernel
theorem dX0_allCrossings_48 : decode cX0_allCrossings 48 = .ok (.iload 5, 2) := by decide +kernel
theorem dX0_allCrossings_50 : decode cX0_allCrossings 50 = .ok (.invokevirtual 29, 3) := by decide +kernel
theorem dX0_allCrossings_53 : decode cX0_allCrossings 53 = .ok (.iadd, 1) := by decide +kernel
theorem dX0_allCrossings_54 : decode cX0_allCrossings 54 = .ok (.istore_n 2, 1) := by decide +kernel
theorem dX0_allCrossings_55 : decode cX0_allCrossings 55 = .ok (.iinc 5 1, 3) := by decide +kernel
theorem dX0_allCrossings_58 : decode cX0_allCrossings 58 = .ok (.goto (-27), 3) := by decide +kernel
theorem dX0_allCrossings_61 : decode cX0_allCrossings 61 = .ok (.iinc 4 1, 3) := by decide +kernel
theorem dX0_allCrossings_64 : decode cX0_allCrossings 64 = .ok (.goto (-50), 3) := by decide +kernel
theorem dX0_allCrossings_67 : decode cX0_allCrossings 67 = .ok (.iinc 3 1, 3) := by decide +kernel
theorem dX0_allCrossings_70 : decode cX0_allCrossings 70 = .ok (.goto (-66), 3) := by decide +kernel
theorem dX0_allCrossings_73 : decode cX0_allCrossings 73 = .ok (.iload_n 2, 1) := by decide +kernel
theorem dX0_allCrossings_74 : decode cX0_allCrossings 74 = .ok (.ireturn, 1) := by decide +kernel
set_option maxRecDepth 20000 in
theorem ggX0_gather_X1_joins : GoodIn wsX0_gather wsX1_joins := goodIn_r _ [6, 7, 8, 9, 5, 10, 11, 12, 13, 14, 15, 16, 17, 18, 19, 43, 44, 45, 46, 47, 48] (by decide +kernel) (by decide +kernel)
set_option maxRecDepth 20000 in
theorem gX0_gather_X1_joins : GoodIn wsX0_gather (wsV RX0 38 RX1 yX1_joins wsX1_joins) := goodIn_app (goodIn_of _ (by decide +kernel)) ggX0_gather_X1_joins
set_option maxRecDepth 20000 in
theorem ggX0_gather_X1_fromOf : GoodIn wsX0_gather wsX1_fromOf := goodIn_r _ [10, 11, 43, 44, 45, 46, 47, 48] (by decide +kernel) (by decide +kernel)
set_option maxRecDepth 20000 in
theorem gX0_gather_X1_fromOf : GoodIn wsX0_gather (wsV RX0 42 RX1 yX1_fromOf wsX1_fromOf) := goodIn_app (goodIn_of _ (by decide +kernel)) ggX0_gather_X1_fromOf
set_option maxRecDepth 20000 in
theorem ggX0_gather_X1_placeOf : GoodIn wsX0_gather wsX1_placeOf := goodIn_r _ [24, 25, 43, 44, 45, 46, 47, 48] (by decide +kernel) (by decide +kernel)
set_option maxRecDepth 20000 in
theorem gX0_gather_X1_placeOf : GoodIn wsX0_gather (wsV RX0 45 RX1 yX1_placeOf wsX1_placeOf) := goodIn_app (goodIn_of _ (by decide +kernel)) ggX0_gather_X1_placeOf
set_option maxRecDepth 20000 in
theorem ggX0_gather_X1_toOf : GoodIn wsX0_gather wsX1_toOf := goodIn_r _ [18, 19, 43, 44, 45, 46, 47, 48] (by decide +kernel) (by decide +kernel)
set_option maxRecDepth 20000 in
theorem gX0_gather_X1_toOf : GoodIn wsX0_gather (wsV RX0 48 RX1 yX1_toOf wsX1_toOf) := goodIn_app (goodIn_of _ (by decide +kernel)) ggX0_gather_X1_toOf
set_option maxRecDepth 20000 in
theorem ggX0_gather_X1_widthOf : GoodIn wsX0_gather wsX1_widthOf := goodIn_r _ [30, 31, 43, 44, 45, 46, 47, 48] (by decide +kernel) (by decide +kernel)
set_option maxRecDepth 20000 in
theorem gX0_gather_X1_widthOf : GoodIn wsX0_gather (wsV RX0 51 RX1 yX1_widthOf wsX1_widthOf) := goodIn_app (goodIn_of _ (by decide +kernel)) ggX0_gather_X1_widthOf
set_option maxRecDepth 20000 in
theorem ggX0_gather_X0_putIn : GoodIn wsX0_gather wsX0_putIn := goodIn_r _ [36, 1, 37, 38, 39, 40, 41, 42] (by decide +kernel) (by decide +kernel)
set_option maxRecDepth 20000 in
theorem gX0_gather_X0_putIn : GoodIn wsX0_gather (wsV RX0 54 RX0 yX0_putIn wsX0_putIn) := goodIn_app (goodIn_of _ (by decide +kernel)) ggX0_gather_X0_putIn
theorem dX0_gather_0 : decode cX0_gather 0 = .ok (.aload_n 0, 1) := by decide +kernel
theorem dX0_gather_1 : decode cX0_gather 1 = .ok (.iconst 0, 1) := by decide +kernel
theorem dX0_gather_2 : decode cX0_gather 2 = .ok (.putfield 25, 3) := by decide +kernel
theorem dX0_gather_5 : decode cX0_gather 5 = .ok (.iconst 0, 1) := by decide +kernel
theorem dX0_gather_6 : decode cX0_gather 6 = .ok (.istore 4, 2) := by decide +kernel
theorem dX0_gather_8 : decode cX0_gather 8 = .ok (.iload 4, 2) := by decide +kernel
theorem dX0_gather_10 : decode cX0_gather 10 = .ok (.aload_n 1, 1) := by decide +kernel
theorem dX0_gather_11 : decode cX0_gather 11 = .ok (.getfield 33, 3) := by decide +kernel
theorem dX0_gather_14 : decode cX0_gather 14 = .ok (.if_icmp .ge 61, 3) := by decide +kernel
theorem dX0_gather_17 : decode cX0_gather 17 = .ok (.aload_n 1, 1) := by decide +kernel
theorem dX0_gather_18 : decode cX0_gather 18 = .ok (.iload 4, 2) := by decide +kernel
theorem dX0_gather_20 : decode cX0_gather 20 = .ok (.iload_n 2, 1) := by decide +kernel
theorem dX0_gather_21 : decode cX0_gather 21 = .ok (.iload_n 3, 1) := by decide +kernel
theorem dX0_gather_22 : decode cX0_gather 22 = .ok (.invokevirtual 38, 3) := by decide +kernel
theorem dX0_gather_25 : decode cX0_gather 25 = .ok (.ifCond .eq 44, 3) := by decide +kernel
theorem dX0_gather_28 : decode cX0_gather 28 = .ok (.aload_n 1, 1) := by decide +kernel
theorem dX0_gather_29 : decode cX0_gather 29 = .ok (.aload_n 1, 1) := by decide +kernel
theorem dX0_gather_30 : decode cX0_gather 30 = .ok (.iload 4, 2) := by decide +kernel
theorem dX0_gather_32 : decode cX0_gather 32 = .ok (.invokevirtual 42, 3) := by decide +kernel
theorem dX0_gather_35 : decode cX0_gather 35 = .ok (.invokevirtual 45, 3) := by decide +kernel
theorem dX0_gather_38 : decode cX0_gather 38 = .ok (.istore 5, 2) := by decide +kernel
theorem dX0_gather_40 : decode cX0_gather 40 = .ok (.aload_n 1, 1) := by decide +kernel
theorem dX0_gather_41 : decode cX0_gather 41 = .ok (.aload_n 1, 1) := by decide +kernel
theorem dX0_gather_42 : decode cX0_gather 42 = .ok (.iload 4, 2) := by decide +kernel
theorem dX0_gather_44 : decode cX0_gather 44 = .ok (.invokevirtual 48, 3) := by decide +kernel
theorem dX0_gather_47 : decode cX0_gather 47 = .ok (.invokevirtual 45, 3) := by decide +kernel
theorem dX0_gather_50 : decode cX0_gather 50 = .ok (.istore 6, 2) := by decide +kernel
theorem dX0_gather_52 : decode cX0_gather 52 = .ok (.aload_n 0, 1) := by decide +kernel
theorem dX0_gather_53 : decode cX0_gather 53 = .ok (.iconst 4, 1) := by decide +kernel
theorem dX0_gather_54 : decode cX0_gather 54 = .ok (.iload 5, 2) := by decide +kernel
theorem dX0_gather_56 : decode cX0_gather 56 = .ok (.imul, 1) := by decide +kernel
theorem dX0_gather_57 : decode cX0_gather 57 = .ok (.iload 6, 2) := by decide +kernel
theorem dX0_gather_59 : decode cX0_gather 59 = .ok (.iadd, 1) := by decide +kernel
theorem dX0_gather_60 : decode cX0_gather 60 = .ok (.aload_n 1, 1) := by decide +kernel
theorem dX0_gather_61 : decode cX0_gather 61 = .ok (.iload 4, 2) := by decide +kernel
theorem dX0_gather_63 : decode cX0_gather 63 = .ok (.invokevirtual 51, 3) := by decide +kernel
theorem dX0_gather_66 : decode cX0_gather 66 = .ok (.invokevirtual 54, 3) := by decide +kernel
theorem dX0_gather_69 : decode cX0_gather 69 = .ok (.iinc 4 1, 3) := by decide +kernel
theorem dX0_gather_72 : decode cX0_gather 72 = .ok (.goto (-64), 3) := by decide +kernel
theorem dX0_gather_75 : decode cX0_gather 75 = .ok (.return_, 1) := by decide +kernel
theorem dX0_putIn_0 : decode cX0_putIn 0 = .ok (.aload_n 0, 1) := by decide +kernel
theorem dX0_putIn_1 : decode cX0_putIn 1 = .ok (.getfield 25, 3) := by decide +kernel
theorem dX0_putIn_4 : decode cX0_putIn 4 = .ok (.ifCond .lt 12, 3) := by decide +kernel
theorem dX0_putIn_7 : decode cX0_putIn 7 = .ok (.aload_n 0, 1) := by decide +kernel
theorem dX0_putIn_8 : decode cX0_putIn 8 = .ok (.getfield 25, 3) := by decide +kernel
theorem dX0_putIn_11 : decode cX0_putIn 11 = .ok (.bipush 20, 2) := by decide +kernel
theorem dX0_putIn_13 : decode cX0_putIn 13 = .ok (.if_icmp .lt 4, 3) := by decide +kernel
theorem dX0_putIn_16 : decode cX0_putIn 16 = .ok (.return_, 1) := by decide +kernel
theorem dX0_putIn_17 : decode cX0_putIn 17 = .ok (.aload_n 0, 1) := by decide +kernel
theorem dX0_putIn_18 : decode cX0_putIn 18 = .ok (.getfield 25, 3) := by decide +kernel
theorem dX0_putIn_21 : decode cX0_putIn 21 = .ok (.istore_n 3, 1) := by decide +kernel
theorem dX0_putIn_22 : decode cX0_putIn 22 = .ok (.iload_n 3, 1) := by decide +kernel
theorem dX0_putIn_23 : decode cX0_putIn 23 = .ok (.ifCond .le 49, 3) := by decide +kernel
theorem dX0_putIn_26 : decode cX0_putIn 26 = .ok (.aload_n 0, 1) := by decide +kernel
theorem dX0_putIn_27 : decode cX0_putIn 27 = .ok (.getfield 9, 3) := by decide +kernel
theorem dX0_putIn_30 : decode cX0_putIn 30 = .ok (.iload_n 3, 1) := by decide +kernel
theorem dX0_putIn_31 : decode cX0_putIn 31 = .ok (.iconst 1, 1) := by decide +kernel
theorem dX0_putIn_32 : decode cX0_putIn 32 = .ok (.isub, 1) := by decide +kernel
theorem dX0_putIn_33 : decode cX0_putIn 33 = .ok (.iaload, 1) := by decide +kernel
theorem dX0_putIn_34 : decode cX0_putIn 34 = .ok (.iload_n 1, 1) := by decide +kernel
theorem dX0_putIn_35 : decode cX0_putIn 35 = .ok (.if_icmp .le 37, 3) := by decide +kernel
theorem dX0_putIn_38 : decode cX0_putIn 38 = .ok (.aload_n 0, 1) := by decide +kernel
theorem dX0_putIn_39 : decode cX0_putIn 39 = .ok (.getfield 9, 3) := by decide +kernel
theorem dX0_putIn_42 : decode cX0_putIn 42 = .ok (.iload_n 3, 1) := by decide +kernel
theorem dX0_putIn_43 : decode cX0_putIn 43 = .ok (.aload_n 0, 1) := by decide +kernel
theorem dX0_putIn_44 : decode cX0_putIn 44 = .ok (.getfield 9, 3) := by decide +kernel
theorem dX0_putIn_47 : decode cX0_putIn 47 = .ok (.iload_n 3, 1) := by decide +kernel
theorem dX0_putIn_48 : decode cX0_putIn 48 = .ok (.iconst 1, 1) := by decide +kernel
theorem dX0_putIn_49 : decode cX0_putIn 49 = .ok (.isub, 1) := by decide +kernel
theorem dX0_putIn_50 : decode cX0_putIn 50 = .ok (.iaload, 1) := by decide +kernel
theorem dX0_putIn_51 : decode cX0_putIn 51 = .ok (.iastore, 1) := by decide +kernel
theorem dX0_putIn_52 : decode cX0_putIn 52 = .ok (.aload_n 0, 1) := by decide +kernel
theorem dX0_putIn_53 : decode cX0_putIn 53 = .ok (.getfield 15, 3) := by decide +kernel
theorem dX0_putIn_56 : decode cX0_putIn 56 = .ok (.iload_n 3, 1) := by decide +kernel
theorem dX0_putIn_57 : decode cX0_putIn 57 = .ok (.aload_n 0, 1) := by decide +kernel
theorem dX0_putIn_58 : decode cX0_putIn 58 = .ok (.getfield 15, 3) := by decide +kernel
theorem dX0_putIn_61 : decode cX0_putIn 61 = .ok (.iload_n 3, 1) := by decide +kernel
theorem dX0_putIn_62 : decode cX0_putIn 62 = .ok (.iconst 1, 1) := by decide +kernel
theorem dX0_putIn_63 : decode cX0_putIn 63 = .ok (.isub, 1) := by decide +kernel
theorem dX0_putIn_64 : decode cX0_putIn 64 = .ok (.iaload, 1) := by decide +kernel
theorem dX0_putIn_65 : decode cX0_putIn 65 = .ok (.iastore, 1) := by decide +kernel
theorem dX0_putIn_66 : decode cX0_putIn 66 = .ok (.iinc 3 (-1), 3) := by decide +kernel
theorem dX0_putIn_69 : decode cX0_putIn 69 = .ok (.goto (-47), 3) := by decide +kernel
theorem dX0_putIn_72 : decode cX0_putIn 72 = .ok (.aload_n 0, 1) := by decide +kernel
theorem dX0_putIn_73 : decode cX0_putIn 73 = .ok (.getfield 9, 3) := by decide +kernel
theorem dX0_putIn_76 : decode cX0_putIn 76 = .ok (.iload_n 3, 1) := by decide +kernel
theorem dX0_putIn_77 : decode cX0_putIn 77 = .ok (.iload_n 1, 1) := by decide +kernel
theorem dX0_putIn_78 : decode cX0_putIn 78 = .ok (.iastore, 1) := by decide +kernel
theorem dX0_putIn_79 : decode cX0_putIn 79 = .ok (.aload_n 0, 1) := by decide +kernel
theorem dX0_putIn_80 : decode cX0_putIn 80 = .ok (.getfield 15, 3) := by decide +kernel
theorem dX0_putIn_83 : decode cX0_putIn 83 = .ok (.iload_n 3, 1) := by decide +kernel
theorem dX0_putIn_84 : decode cX0_putIn 84 = .ok (.iload_n 2, 1) := by decide +kernel
theorem dX0_putIn_85 : decode cX0_putIn 85 = .ok (.iastore, 1) := by decide +kernel
theorem dX0_putIn_86 : decode cX0_putIn 86 = .ok (.aload_n 0, 1) := by decide +kernel
theorem dX0_putIn_87 : decode cX0_putIn 87 = .ok (.dup, 1) := by decide +kernel
theorem dX0_putIn_88 : decode cX0_putIn 88 = .ok (.getfield 25, 3) := by decide +kernel
theorem dX0_putIn_91 : decode cX0_putIn 91 = .ok (.iconst 1, 1) := by decide +kernel
theorem dX0_putIn_92 : decode cX0_putIn 92 = .ok (.iadd, 1) := by decide +kernel
theorem dX0_putIn_93 : decode cX0_putIn 93 = .ok (.putfield 25, 3) := by decide +kernel
theorem dX0_putIn_96 : decode cX0_putIn 96 = .ok (.return_, 1) := by decide +kernel
set_option maxRecDepth 20000 in
theorem ggX0_crossingsFrom_J7_fill_53178 : GoodIn wsX0_crossingsFrom wsJ7_fill_53178 := goodIn_r _ [8] (by decide +kernel) (by decide +kernel)
set_option maxRecDepth 20000 in
theorem gX0_crossingsFrom_J7_fill_53178 : GoodIn wsX0_crossingsFrom (va_wsS RX0 58 yJ7_fill_53178 wsJ7_fill_53178) := goodIn_app (goodIn_of _ (by decide +kernel)) ggX0_crossingsFrom_J7_fill_53178
theorem dX0_crossingsFrom_0 : decode cX0_crossingsFrom 0 = .ok (.aload_n 0, 1) := by decide +kernel
theorem dX0_crossingsFrom_1 : decode cX0_crossingsFrom 1 = .ok (.getfield 18, 3) := by decide +kernel
theorem dX0_crossingsFrom_4 : decode cX0_crossingsFrom 4 = .ok (.iconst 0, 1) := by decide +kernel
theorem dX0_crossingsFrom_5 : decode cX0_crossingsFrom 5 = .ok (.invokestatic 58, 3) := by decide +kernel
theorem dX0_crossingsFrom_8 : decode cX0_crossingsFrom 8 = .ok (.iconst 0, 1) := by decide +kernel
theorem dX0_crossingsFrom_9 : decode cX0_crossingsFrom 9 = .ok (.istore_n 2, 1) := by decide +kernel
theorem dX0_crossingsFrom_10 : decode cX0_crossingsFrom 10 = .ok (.iconst 0, 1) := by decide +kernel
theorem dX0_crossingsFrom_11 : decode cX0_crossingsFrom 11 = .ok (.istore_n 3, 1) := by decide +kernel
theorem dX0_crossingsFrom_12 : decode cX0_crossingsFrom 12 = .ok (.iload_n 3, 1) := by decide +kernel
theorem dX0_crossingsFrom_13 : decode cX0_crossingsFrom 13 = .ok (.aload_n 0, 1) := by decide +kernel
theorem dX0_crossingsFrom_14 : decode cX0_crossingsFrom 14 = .ok (.getfield 25, 3) := by decide +kernel
theorem dX0_crossingsFrom_17 : decode cX0_crossingsFrom 17 = .ok (.if_icmp .ge 79, 3) := by decide +kernel
theorem dX0_crossingsFrom_20 : decode cX0_crossingsFrom 20 = .ok (.iload_n 3, 1) := by decide +kernel
theorem dX0_crossingsFrom_21 : decode cX0_crossingsFrom 21 = .ok (.bipush 20, 2) := by decide +kernel
theorem dX0_crossingsFrom_23 : decode cX0_crossingsFrom 23 = .ok (.if_icmp .ge 73, 3) := by decide +kernel
theorem dX0_crossingsFrom_26 : decode cX0_crossingsFrom 26 = .ok (.aload_n 0, 1) := by decide +kernel
theorem dX0_crossingsFrom_27 : decode cX0_crossingsFrom 27 = .ok (.getfield 9, 3) := by decide +kernel
theorem dX0_crossingsFrom_30 : decode cX0_crossingsFrom 30 = .ok (.iload_n 3, 1) := by decide +kernel
theorem dX0_crossingsFrom_31 : decode cX0_crossingsFrom 31 = .ok (.iaload, 1) := by decide +kernel
theorem dX0_crossingsFrom_32 : decode cX0_crossingsFrom 32 = .ok (.iconst 4, 1) := by decide +kernel
theorem dX0_crossingsFrom_33 : decode cX0_crossingsFrom 33 = .ok (.irem, 1) := by decide +kernel
theorem dX0_crossingsFrom_34 : decode cX0_crossingsFrom 34 = .ok (.istore 4, 2) := by decide +kernel
theorem dX0_crossingsFrom_36 : decode cX0_crossingsFrom 36 = .ok (.aload_n 0, 1) := by decide +kernel
theorem dX0_crossingsFrom_37 : decode cX0_crossingsFrom 37 = .ok (.getfield 15, 3) := by decide +kernel
theorem dX0_crossingsFrom_40 : decode cX0_crossingsFrom 40 = .ok (.iload_n 3, 1) := by decide +kernel
theorem dX0_crossingsFrom_41 : decode cX0_crossingsFrom 41 = .ok (.iaload, 1) := by decide +kernel
theorem dX0_crossingsFrom_42 : decode cX0_crossingsFrom 42 = .ok (.iload_n 1, 1) := by decide +kernel
theorem dX0_crossingsFrom_43 : decode cX0_crossingsFrom 43 = .ok (.if_icmp .lt 47, 3) := by decide +kernel
theorem dX0_crossingsFrom_46 : decode cX0_crossingsFrom 46 = .ok (.iload 4, 2) := by decide +kernel
theorem dX0_crossingsFrom_48 : decode cX0_crossingsFrom 48 = .ok (.ifCond .lt 42, 3) := by decide +kernel
theorem dX0_crossingsFrom_51 : decode cX0_crossingsFrom 51 = .ok (.iload 4, 2) := by decide +kernel
theorem dX0_crossingsFrom_53 : decode cX0_crossingsFrom 53 = .ok (.iconst 1, 1) := by decide +kernel
theorem dX0_crossingsFrom_54 : decode cX0_crossingsFrom 54 = .ok (.iadd, 1) := by decide +kernel
theorem dX0_crossingsFrom_55 : decode cX0_crossingsFrom 55 = .ok (.istore 5, 2) := by decide +kernel
theorem dX0_crossingsFrom_57 : decode cX0_crossingsFrom 57 = .ok (.iload 5, 2) := by decide +kernel
theorem dX0_crossingsFrom_59 : decode cX0_crossingsFrom 59 = .ok (.iconst 4, 1) := by decide +kernel
theorem dX0_crossingsFrom_60 : decode cX0_crossingsFrom 60 = .ok (.if_icmp .ge 19, 3) := by decide +kernel
theorem dX0_crossingsFrom_63 : decode cX0_crossingsFrom 63 = .ok (.iload_n 2, 1) := by decide +kernel
theorem dX0_crossingsFrom_64 : decode cX0_crossingsFrom 64 = .ok (.aload_n 0, 1) := by decide +kernel
theorem dX0_crossingsFrom_65 : decode cX0_crossingsFrom 65 = .ok (.getfield 18, 3) := by decide +kernel
theorem dX0_crossingsFrom_68 : decode cX0_crossingsFrom 68 = .ok (.iload 5, 2) := by decide +kernel
theorem dX0_crossingsFrom_70 : decode cX0_crossingsFrom 70 = .ok (.iaload, 1) := by decide +kernel
theorem dX0_crossingsFrom_71 : decode cX0_crossingsFrom 71 = .ok (.iadd, 1) := by decide +kernel
theorem dX0_crossingsFrom_72 : decode cX0_crossingsFrom 72 = .ok (.istore_n 2, 1) := by decide +kernel
theorem dX0_crossingsFrom_73 : decode cX0_crossingsFrom 73 = .ok (.iinc 5 1, 3) := by decide +kernel
theorem dX0_crossingsFrom_76 : decode cX0_crossingsFrom 76 = .ok (.goto (-19), 3) := by decide +kernel
theorem dX0_crossingsFrom_79 : decode cX0_crossingsFrom 79 = .ok (.aload_n 0, 1) := by decide +kernel
theorem dX0_crossingsFrom_80 : decode cX0_crossingsFrom 80 = .ok (.getfield 18, 3) := by decide +kernel
theorem dX0_crossingsFrom_83 : decode cX0_crossingsFrom 83 = .ok (.iload 4, 2) := by decide +kernel
theorem dX0_crossingsFrom_85 : decode cX0_crossingsFrom 85 = .ok (.dup2, 1) := by decide +kernel
theorem dX0_crossingsFrom_86 : decode cX0_crossingsFrom 86 = .ok (.iaload, 1) := by decide +kernel
theorem dX0_crossingsFrom_87 : decode cX0_crossingsFrom 87 = .ok (.iconst 1, 1) := by decide +kernel
theorem dX0_crossingsFrom_88 : decode cX0_crossingsFrom 88 = .ok (.iadd, 1) := by decide +kernel
theorem dX0_crossingsFrom_89 : decode cX0_crossingsFrom 89 = .ok (.iastore, 1) := by decide +kernel
theorem dX0_crossingsFrom_90 : decode cX0_crossingsFrom 90 = .ok (.iinc 3 1, 3) := by decide +kernel
theorem dX0_crossingsFrom_93 : decode cX0_crossingsFrom 93 = .ok (.goto (-81), 3) := by decide +kernel
theorem dX0_crossingsFrom_96 : decode cX0_crossingsFrom 96 = .ok (.iload_n 2, 1) := by decide +kernel
theorem dX0_crossingsFrom_97 : decode cX0_crossingsFrom 97 = .ok (.ireturn, 1) := by decide +kernel
theorem dX1_init_0 : decode cX1_init 0 = .ok (.aload_n 0, 1) := by decide +kernel
theorem dX1_init_1 : decode cX1_init 1 = .ok (.invokespecial 3, 3) := by decide +kernel
theorem dX1_init_4 : decode cX1_init 4 = .ok (.aload_n 0, 1) := by decide +kernel
theorem dX1_init_5 : decode cX1_init 5 = .ok (.bipush 16, 2) := by decide +kernel
theorem dX1_init_7 : decode cX1_init 7 = .ok (.newarray .int, 2) := by decide +kernel
theorem dX1_init_9 : decode cX1_init 9 = .ok (.putfield 9, 3) := by decide +kernel
theorem dX1_init_12 : decode cX1_init 12 = .ok (.aload_n 0, 1) := by decide +kernel
theorem dX1_init_13 : decode cX1_init 13 = .ok (.bipush 20, 2) := by decide +kernel
theorem dX1_init_15 : decode cX1_init 15 = .ok (.newarray .int, 2) := by decide +kernel
theorem dX1_init_17 : decode cX1_init 17 = .ok (.putfield 15, 3) := by decide +kernel
theorem dX1_init_20 : decode cX1_init 20 = .ok (.aload_n 0, 1) := by decide +kernel
theorem dX1_init_21 : decode cX1_init 21 = .ok (.bipush 20, 2) := by decide +kernel
theorem dX1_init_23 : decode cX1_init 23 = .ok (.newarray .int, 2) := by decide +kernel
theorem dX1_init_25 : decode cX1_init 25 = .ok (.putfield 18, 3) := by decide +kernel
theorem dX1_init_28 : decode cX1_init 28 = .ok (.aload_n 0, 1) := by decide +kernel
theorem dX1_init_29 : decode cX1_init 29 = .ok (.bipush 20, 2) := by decide +kernel
theorem dX1_init_31 : decode cX1_init 31 = .ok (.newarray .int, 2) := by decide +kernel
theorem dX1_init_33 : decode cX1_init 33 = .ok (.putfield 21, 3) := by decide +kernel
theorem dX1_init_36 : decode cX1_init 36 = .ok (.iconst 0, 1) := by decide +kernel
theorem dX1_init_37 : decode cX1_init 37 = .ok (.istore_n 1, 1) := by decide +kernel
theorem dX1_init_38 : decode cX1_init 38 = .ok (.iload_n 1, 1) := by decide +kernel
theorem dX1_init_39 : decode cX1_init 39 = .ok (.bipush 16, 2) := by decide +kernel
theorem dX1_init_41 : decode cX1_init 41 = .ok (.if_icmp .ge 18, 3) := by decide +kernel
theorem dX1_init_44 : decode cX1_init 44 = .ok (.aload_n 0, 1) := by decide +kernel
theorem dX1_init_45 : decode cX1_init 45 = .ok (.getfield 9, 3) := by decide +kernel
theorem dX1_init_48 : decode cX1_init 48 = .ok (.iload_n 1, 1) := by decide +kernel
theorem dX1_init_49 : decode cX1_init 49 = .ok (.iload_n 1, 1) := by decide +kernel
theorem dX1_init_50 : decode cX1_init 50 = .ok (.iconst 4, 1) := by decide +kernel
theorem dX1_init_51 : decode cX1_init 51 = .ok (.irem, 1) := by decide +kernel
theorem dX1_init_52 : decode cX1_init 52 = .ok (.iastore, 1) := by decide +kernel
theorem dX1_init_53 : decode cX1_init 53 = .ok (.iinc 1 1, 3) := by decide +kernel
theorem dX1_init_56 : decode cX1_init 56 = .ok (.goto (-18), 3) := by decide +kernel
theorem dX1_init_59 : decode cX1_init 59 = .ok (.return_, 1) := by decide +kernel
theorem dX1_copyFrom_0 : decode cX1_copyFrom 0 = .ok (.aload_n 1, 1) := by decide +kernel
theorem dX1_copyFrom_1 : decode cX1_copyFrom 1 = .ok (.ifnonnull 4, 3) := by decide +kernel
theorem dX1_copyFrom_4 : decode cX1_copyFrom 4 = .ok (.return_, 1) := by decide +kernel
theorem dX1_copyFrom_5 : decode cX1_copyFrom 5 = .ok (.aload_n 1, 1) := by decide +kernel
theorem dX1_copyFrom_6 : decode cX1_copyFrom 6 = .ok (.getfield 9, 3) := by decide +kernel
theorem dX1_copyFrom_9 : decode cX1_copyFrom 9 = .ok (.iconst 0, 1) := by decide +kernel
theorem dX1_copyFrom_10 : decode cX1_copyFrom 10 = .ok (.aload_n 0, 1) := by decide +kernel
theorem dX1_copyFrom_11 : decode cX1_copyFrom 11 = .ok (.getfield 9, 3) := by decide +kernel
theorem dX1_copyFrom_14 : decode cX1_copyFrom 14 = .ok (.iconst 0, 1) := by decide +kernel
theorem dX1_copyFrom_15 : decode cX1_copyFrom 15 = .ok (.bipush 16, 2) := by decide +kernel
theorem dX1_copyFrom_17 : decode cX1_copyFrom 17 = .ok (.invokestatic 24, 3) := by decide +kernel
theorem dX1_copyFrom_20 : decode cX1_copyFrom 20 = .ok (.aload_n 1, 1) := by decide +kernel
theorem dX1_copyFrom_21 : decode cX1_copyFrom 21 = .ok (.getfield 15, 3) := by decide +kernel
theorem dX1_copyFrom_24 : decode cX1_copyFrom 24 = .ok (.iconst 0, 1) := by decide +kernel
theorem dX1_copyFrom_25 : decode cX1_copyFrom 25 = .ok (.aload_n 0, 1) := by decide +kernel
theorem dX1_copyFrom_26 : decode cX1_copyFrom 26 = .ok (.getfield 15, 3) := by decide +kernel
theorem dX1_copyFrom_29 : decode cX1_copyFrom 29 = .ok (.iconst 0, 1) := by decide +kernel
theorem dX1_copyFrom_30 : decode cX1_copyFrom 30 = .ok (.bipush 20, 2) := by decide +kernel
theorem dX1_copyFrom_32 : decode cX1_copyFrom 32 = .ok (.invokestatic 24, 3) := by decide +kernel
theorem dX1_copyFrom_35 : decode cX1_copyFrom 35 = .ok (.aload_n 1, 1) := by decide +kernel
theorem dX1_copyFrom_36 : decode cX1_copyFrom 36 = .ok (.getfield 18, 3) := by decide +kernel
theorem dX1_copyFrom_39 : decode cX1_copyFrom 39 = .ok (.iconst 0, 1) := by decide +kernel
theorem dX1_copyFrom_40 : decode cX1_copyFrom 40 = .ok (.aload_n 0, 1) := by decide +kernel
theorem dX1_copyFrom_41 : decode cX1_copyFrom 41 = .ok (.getfield 18, 3) := by decide +kernel
theorem dX1_copyFrom_44 : decode cX1_copyFrom 44 = .ok (.iconst 0, 1) := by decide +kernel
theorem dX1_copyFrom_45 : decode cX1_copyFrom 45 = .ok (.bipush 20, 2) := by decide +kernel
theorem dX1_copyFrom_47 : decode cX1_copyFrom 47 = .ok (.invokestatic 24, 3) := by decide +kernel
theorem dX1_copyFrom_50 : decode cX1_copyFrom 50 = .ok (.aload_n 1, 1) := by decide +kernel
theorem dX1_copyFrom_51 : decode cX1_copyFrom 51 = .ok (.getfield 21, 3) := by decide +kernel
theorem dX1_copyFrom_54 : decode cX1_copyFrom 54 = .ok (.iconst 0, 1) := by decide +kernel
theorem dX1_copyFrom_55 : decode cX1_copyFrom 55 = .ok (.aload_n 0, 1) := by decide +kernel
theorem dX1_copyFrom_56 : decode cX1_copyFrom 56 = .ok (.getfield 21, 3) := by decide +kernel
theorem dX1_copyFrom_59 : decode cX1_copyFrom 59 = .ok (.iconst 0, 1) := by decide +kernel
theorem dX1_copyFrom_60 : decode cX1_copyFrom 60 = .ok (.bipush 20, 2) := by decide +kernel
theorem dX1_copyFrom_62 : decode cX1_copyFrom 62 = .ok (.invokestatic 24, 3) := by decide +kernel
theorem dX1_copyFrom_65 : decode cX1_copyFrom 65 = .ok (.aload_n 0, 1) := by decide +kernel
theorem dX1_copyFrom_66 : decode cX1_copyFrom 66 = .ok (.aload_n 1, 1) := by decide +kernel
theorem dX1_copyFrom_67 : decode cX1_copyFrom 67 = .ok (.getfield 30, 3) := by decide +kernel
theorem dX1_copyFrom_70 : decode cX1_copyFrom 70 = .ok (.putfield 30, 3) := by decide +kernel
theorem dX1_copyFrom_73 : decode cX1_copyFrom 73 = .ok (.aload_n 0, 1) := by decide +kernel
theorem dX1_copyFrom_74 : decode cX1_copyFrom 74 = .ok (.aload_n 1, 1) := by decide +kernel
theorem dX1_copyFrom_75 : decode cX1_copyFrom 75 = .ok (.getfield 34, 3) := by decide +kernel
theorem dX1_copyFrom_78 : decode cX1_copyFrom 78 = .ok (.putfield 34, 3) := by decide +kernel
theorem dX1_copyFrom_81 : decode cX1_copyFrom 81 = .ok (.return_, 1) := by decide +kernel
theorem dX1_hasRibbon_0 : decode cX1_hasRibbon 0 = .ok (.iload_n 1, 1) := by decide +kernel
theorem dX1_hasRibbon_1 : decode cX1_hasRibbon 1 = .ok (.ifCond .lt 21, 3) := by decide +kernel
theorem dX1_hasRibbon_4 : decode cX1_hasRibbon 4 = .ok (.iload_n 1, 1) := by decide +kernel
theorem dX1_hasRibbon_5 : decode cX1_hasRibbon 5 = .ok (.aload_n 0, 1) := by decide +kernel
theorem dX1_hasRibbon_6 : decode cX1_hasRibbon 6 = .ok (.getfield 30, 3) := by decide +kernel
theorem dX1_hasRibbon_9 : decode cX1_hasRibbon 9 = .ok (.if_icmp .ge 13, 3) := by decide +kernel
theorem dX1_hasRibbon_12 : decode cX1_hasRibbon 12 = .ok (.iload_n 1, 1) := by decide +kernel
theorem dX1_hasRibbon_13 : decode cX1_hasRibbon 13 = .ok (.bipush 20, 2) := by decide +kernel
theorem dX1_hasRibbon_15 : decode cX1_hasRibbon 15 = .ok (.if_icmp .ge 7, 3) := by decide +kernel
theorem dX1_hasRibbon_18 : decode cX1_hasRibbon 18 = .ok (.iconst 1, 1) := by decide +kernel
theorem dX1_hasRibbon_19 : decode cX1_hasRibbon 19 = .ok (.goto 4, 3) := by decide +kernel
theorem dX1_hasRibbon_22 : decode cX1_hasRibbon 22 = .ok (.iconst 0, 1) := by decide +kernel
theorem dX1_hasRibbon_23 : decode cX1_hasRibbon 23 = .ok (.ireturn, 1) := by decide +kernel
theorem dX1_addRibbon_0 : decode cX1_addRibbon 0 = .ok (.aload_n 0, 1) := by decide +kernel
theorem dX1_addRibbon_1 : decode cX1_addRibbon 1 = .ok (.getfield 30, 3) := by decide +kernel
theorem dX1_addRibbon_4 : decode cX1_addRibbon 4 = .ok (.ifCond .lt 12, 3) := by decide +kernel
theorem dX1_addRibbon_7 : decode cX1_addRibbon 7 = .ok (.aload_n 0, 1) := by decide +kernel
theorem dX1_addRibbon_8 : decode cX1_addRibbon 8 = .ok (.getfield 30, 3) := by decide +kernel
theorem dX1_addRibbon_11 : decode cX1_addRibbon 11 = .ok (.bipush 20, 2) := by decide +kernel
theorem dX1_addRibbon_13 : decode cX1_addRibbon 13 = .ok (.if_icmp .lt 4, 3) := by decide +kernel
theorem dX1_addRibbon_16 : decode cX1_addRibbon 16 = .ok (.return_, 1) := by decide +kernel
theorem dX1_addRibbon_17 : decode cX1_addRibbon 17 = .ok (.aload_n 0, 1) := by decide +kernel
theorem dX1_addRibbon_18 : decode cX1_addRibbon 18 = .ok (.getfield 15, 3) := by decide +kernel
theorem dX1_addRibbon_21 : decode cX1_addRibbon 21 = .ok (.aload_n 0, 1) := by decide +kernel
theorem dX1_addRibbon_22 : decode cX1_addRibbon 22 = .ok (.getfield 30, 3) := by decide +kernel
theorem dX1_addRibbon_25 : decode cX1_addRibbon 25 = .ok (.iload_n 1, 1) := by decide +kernel
theorem dX1_addRibbon_26 : decode cX1_addRibbon 26 = .ok (.iastore, 1) := by decide +kernel
theorem dX1_addRibbon_27 : decode cX1_addRibbon 27 = .ok (.aload_n 0, 1) := by decide +kernel
theorem dX1_addRibbon_28 : decode cX1_addRibbon 28 = .ok (.getfield 18, 3) := by decide +kernel
theorem dX1_addRibbon_31 : decode cX1_addRibbon 31 = .ok (.aload_n 0, 1) := by decide +kernel
theorem dX1_addRibbon_32 : decode cX1_addRibbon 32 = .ok (.getfield 30, 3) := by decide +kernel
theorem dX1_addRibbon_35 : decode cX1_addRibbon 35 = .ok (.iload_n 2, 1) := by decide +kernel
theorem dX1_addRibbon_36 : decode cX1_addRibbon 36 = .ok (.iastore, 1) := by decide +kernel
theorem dX1_addRibbon_37 : decode cX1_addRibbon 37 = .ok (.aload_n 0, 1) := by decide +kernel
theorem dX1_addRibbon_38 : decode cX1_addRibbon 38 = .ok (.getfield 21, 3) := by decide +kernel
theorem dX1_addRibbon_41 : decode cX1_addRibbon 41 = .ok (.aload_n 0, 1) := by decide +kernel
theorem dX1_addRibbon_42 : decode cX1_addRibbon 42 = .ok (.getfield 30, 3) := by decide +kernel
theorem dX1_addRibbon_45 : decode cX1_addRibbon 45 = .ok (.iload_n 3, 1) := by decide +kernel
theorem dX1_addRibbon_46 : decode cX1_addRibbon 46 = .ok (.iastore, 1) := by decide +kernel
theorem dX1_addRibbon_47 : decode cX1_addRibbon 47 = .ok (.aload_n 0, 1) := by decide +kernel
theorem dX1_addRibbon_48 : decode cX1_addRibbon 48 = .ok (.dup, 1) := by decide +kernel
theorem dX1_addRibbon_49 : decode cX1_addRibbon 49 = .ok (.getfield 30, 3) := by decide +kernel
theorem dX1_addRibbon_52 : decode cX1_addRibbon 52 = .ok (.iconst 1, 1) := by decide +kernel
theorem dX1_addRibbon_53 : decode cX1_addRibbon 53 = .ok (.iadd, 1) := by decide +kernel
theorem dX1_addRibbon_54 : decode cX1_addRibbon 54 = .ok (.putfield 30, 3) := by decide +kernel
theorem dX1_addRibbon_57 : decode cX1_addRibbon 57 = .ok (.return_, 1) := by decide +kernel
set_option maxRecDepth 20000 in
theorem ggX1_dropRibbon_X1_hasRibbon : GoodIn wsX1_dropRibbon wsX1_hasRibbon := goodIn_r _ [9, 1, 10, 11, 12, 13, 14, 15] (by decide +kernel) (by decide +kernel)
set_option maxRecDepth 20000 in
theorem gX1_dropRibbon_X1_hasRibbon : GoodIn wsX1_dropRibbon (wsV RX1 37 RX1 yX1_hasRibbon wsX1_hasRibbon) := goodIn_app (goodIn_of _ (by decide +kernel)) ggX1_dropRibbon_X1_hasRibbon
theorem dX1_dropRibbon_0 : decode cX1_dropRibbon 0 = .ok (.aload_n 0, 1) := by decide +kernel
theorem dX1_dropRibbon_1 : decode cX1_dropRibbon 1 = .ok (.iload_n 1, 1) := by decide +kernel
theorem dX1_dropRibbon_2 : decode cX1_dropRibbon 2 = .ok (.invokevirtual 37, 3) := by decide +kernel
theorem dX1_dropRibbon_5 : decode cX1_dropRibbon 5 = .ok (.ifCond .ne 4, 3) := by decide +kernel
theorem dX1_dropRibbon_8 : decode cX1_dropRibbon 8 = .ok (.return_, 1) := by decide +kernel
theorem dX1_dropRibbon_9 : decode cX1_dropRibbon 9 = .ok (.iload_n 1, 1) := by decide +kernel
theorem dX1_dropRibbon_10 : decode cX1_dropRibbon 10 = .ok (.iconst 1, 1) := by decide +kernel
theorem dX1_dropRibbon_11 : decode cX1_dropRibbon 11 = .ok (.iadd, 1) := by decide +kernel
theorem dX1_dropRibbon_12 : decode cX1_dropRibbon 12 = .ok (.istore_n 2, 1) := by decide +kernel
theorem dX1_dropRibbon_13 : decode cX1_dropRibbon 13 = .ok (.iload_n 2, 1) := by decide +kernel
theorem dX1_dropRibbon_14 : decode cX1_dropRibbon 14 = .ok (.aload_n 0, 1) := by decide +kernel
theorem dX1_dropRibbon_15 : decode cX1_dropRibbon 15 = .ok (.getfield 30, 3) := by decide +kernel
theorem dX1_dropRibbon_18 : decode cX1_dropRibbon 18 = .ok (.if_icmp .ge 57, 3) := by decide +kernel
theorem dX1_dropRibbon_21 : decode cX1_dropRibbon 21 = .ok (.iload_n 2, 1) := by decide +kernel
theorem dX1_dropRibbon_22 : decode cX1_dropRibbon 22 = .ok (.bipush 20, 2) := by decide +kernel
theorem dX1_dropRibbon_24 : decode cX1_dropRibbon 24 = .ok (.if_icmp .ge 51, 3) := by decide +kernel
theorem dX1_dropRibbon_27 : decode cX1_dropRibbon 27 = .ok (.aload_n 0, 1) := by decide +kernel
theorem dX1_dropRibbon_28 : decode cX1_dropRibbon 28 = .ok (.getfield 15, 3) := by decide +kernel
theorem dX1_dropRibbon_31 : decode cX1_dropRibbon 31 = .ok (.iload_n 2, 1) := by decide +kernel
theorem dX1_dropRibbon_32 : decode cX1_dropRibbon 32 = .ok (.iconst 1, 1) := by decide +kernel
theorem dX1_dropRibbon_33 : decode cX1_dropRibbon 33 = .ok (.isub, 1) := by decide +kernel
theorem dX1_dropRibbon_34 : decode cX1_dropRibbon 34 = .ok (.aload_n 0, 1) := by decide +kernel
theorem dX1_dropRibbon_35 : decode cX1_dropRibbon 35 = .ok (.getfield 15, 3) := by decide +kernel
theorem dX1_dropRibbon_38 : decode cX1_dropRibbon 38 = .ok (.iload_n 2, 1) := by decide +kernel
theorem dX1_dropRibbon_39 : decode cX1_dropRibbon 39 = .ok (.iaload, 1) := by decide +kernel
theorem dX1_dropRibbon_40 : decode cX1_dropRibbon 40 = .ok (.iastore, 1) := by decide +kernel
theorem dX1_dropRibbon_41 : decode cX1_dropRibbon 41 = .ok (.aload_n 0, 1) := by decide +kernel
theorem dX1_dropRibbon_42 : decode cX1_dropRibbon 42 = .ok (.getfield 18, 3) := by decide +kernel
theorem dX1_dropRibbon_45 : decode cX1_dropRibbon 45 = .ok (.iload_n 2, 1) := by decide +kernel
theorem dX1_dropRibbon_46 : decode cX1_dropRibbon 46 = .ok (.iconst 1, 1) := by decide +kernel
theorem dX1_dropRibbon_47 : decode cX1_dropRibbon 47 = .ok (.isub, 1) := by decide +kernel
theorem dX1_dropRibbon_48 : decode cX1_dropRibbon 48 = .ok (.aload_n 0, 1) := by decide +kernel
theorem dX1_dropRibbon_49 : decode cX1_dropRibbon 49 = .ok (.getfield 18, 3) := by decide +kernel
theorem dX1_dropRibbon_52 : decode cX1_dropRibbon 52 = .ok (.iload_n 2, 1) := by decide +kernel
theorem dX1_dropRibbon_53 : decode cX1_dropRibbon 53 = .ok (.iaload, 1) := by decide +kernel
theorem dX1_dropRibbon_54 : decode cX1_dropRibbon 54 = .ok (.iastore, 1) := by decide +kernel
theorem dX1_dropRibbon_55 : decode cX1_dropRibbon 55 = .ok (.aload_n 0, 1) := by decide +kernel
theorem dX1_dropRibbon_56 : decode cX1_dropRibbon 56 = .ok (.getfield 21, 3) := by decide +kernel
theorem dX1_dropRibbon_59 : decode cX1_dropRibbon 59 = .ok (.iload_n 2, 1) := by decide +kernel
theorem dX1_dropRibbon_60 : decode cX1_dropRibbon 60 = .ok (.iconst 1, 1) := by decide +kernel
theorem dX1_dropRibbon_61 : decode cX1_dropRibbon 61 = .ok (.isub, 1) := by decide +kernel
theorem dX1_dropRibbon_62 : decode cX1_dropRibbon 62 = .ok (.aload_n 0, 1) := by decide +kernel
theorem dX1_dropRibbon_63 : decode cX1_dropRibbon 63 = .ok (.getfield 21, 3) := by decide +kernel
theorem dX1_dropRibbon_66 : decode cX1_dropRibbon 66 = .ok (.iload_n 2, 1) := by decide +kernel
theorem dX1_dropRibbon_67 : decode cX1_dropRibbon 67 = .ok (.iaload, 1) := by decide +kernel
theorem dX1_dropRibbon_68 : decode cX1_dropRibbon 68 = .ok (.iastore, 1) := by decide +kernel
theorem dX1_dropRibbon_69 : decode cX1_dropRibbon 69 = .ok (.iinc 2 1, 3) := by decide +kernel
theorem dX1_dropRibbon_72 : decode cX1_dropRibbon 72 = .ok (.goto (-59), 3) := by decide +kernel
theorem dX1_dropRibbon_75 : decode cX1_dropRibbon 75 = .ok (.aload_n 0, 1) := by decide +kernel
theorem dX1_dropRibbon_76 : decode cX1_dropRibbon 76 = .ok (.dup, 1) := by decide +kernel
theorem dX1_dropRibbon_77 : decode cX1_dropRibbon 77 = .ok (.getfield 30, 3) := by decide +kernel
theorem dX1_dropRibbon_80 : decode cX1_dropRibbon 80 = .ok (.iconst 1, 1) := by decide +kernel
theorem dX1_dropRibbon_81 : decode cX1_dropRibbon 81 = .ok (.isub, 1) := by decide +kernel
theorem dX1_dropRibbon_82 : decode cX1_dropRibbon 82 = .ok (.putfield 30, 3) := by decide +kernel
theorem dX1_dropRibbon_85 : decode cX1_dropRibbon 85 = .ok (.return_, 1) := by decide +kernel
theorem dX1_placeOf_0 : decode cX1_placeOf 0 = .ok (.iload_n 1, 1) := by decide +kernel
theorem dX1_placeOf_1 : decode cX1_placeOf 1 = .ok (.ifCond .lt 18, 3) := by decide +kernel
theorem dX1_placeOf_4 : decode cX1_placeOf 4 = .ok (.iload_n 1, 1) := by decide +kernel
theorem dX1_placeOf_5 : decode cX1_placeOf 5 = .ok (.bipush 16, 2) := by decide +kernel
theorem dX1_placeOf_7 : decode cX1_placeOf 7 = .ok (.if_icmp .ge 12, 3) := by decide +kernel
theorem dX1_placeOf_10 : decode cX1_placeOf 10 = .ok (.aload_n 0, 1) := by decide +kernel
theorem dX1_placeOf_11 : decode cX1_placeOf 11 = .ok (.getfield 9, 3) := by decide +kernel
theorem dX1_placeOf_14 : decode cX1_placeOf 14 = .ok (.iload_n 1, 1) := by decide +kernel
theorem dX1_placeOf_15 : decode cX1_placeOf 15 = .ok (.iaload, 1) := by decide +kernel
theorem dX1_placeOf_16 : decode cX1_placeOf 16 = .ok (.goto 4, 3) := by decide +kernel
theorem dX1_placeOf_19 : decode cX1_placeOf 19 = .ok (.iconst 0, 1) := by decide +kernel
theorem dX1_placeOf_20 : decode cX1_placeOf 20 = .ok (.ireturn, 1) := by decide +kernel
set_option maxRecDepth 20000 in
theorem ggX1_setPlace_X6_isPost : GoodIn wsX1_setPlace wsX6_isPost := goodIn_r _ [4] (by decide +kernel) (by decide +kernel)
set_option maxRecDepth 20000 in
theorem gX1_setPlace_X6_isPost_n41 : GoodIn wsX1_setPlace (wsX6_isPost) := ggX1_setPlace_X6_isPost
theorem dX1_setPlace_0 : decode cX1_setPlace 0 = .ok (.iload_n 1, 1) := by decide +kernel
theorem dX1_setPlace_1 : decode cX1_setPlace 1 = .ok (.invokestatic 41, 3) := by decide +kernel
theorem dX1_setPlace_4 : decode cX1_setPlace 4 = .ok (.ifCond .eq 10, 3) := by decide +kernel
theorem dX1_setPlace_7 : decode cX1_setPlace 7 = .ok (.aload_n 0, 1) := by decide +kernel
theorem dX1_setPlace_8 : decode cX1_setPlace 8 = .ok (.getfield 9, 3) := by decide +kernel
theorem dX1_setPlace_11 : decode cX1_setPlace 11 = .ok (.iload_n 1, 1) := by decide +kernel
theorem dX1_setPlace_12 : decode cX1_setPlace 12 = .ok (.iload_n 2, 1) := by decide +kernel
theorem dX1_setPlace_13 : decode cX1_setPlace 13 = .ok (.iastore, 1) := by decide +kernel
theorem dX1_setPlace_14 : decode cX1_setPlace 14 = .ok (.return_, 1) := by decide +kernel
set_option maxRecDepth 20000 in
theorem ggX1_exchangePlaces_X1_placeOf : GoodIn wsX1_exchangePlaces wsX1_placeOf := goodIn_r _ [5, 6, 14, 15, 16, 17, 18, 19] (by decide +kernel) (by decide +kernel)
set_option maxRecDepth 20000 in
theorem gX1_exchangePlaces_X1_placeOf : GoodIn wsX1_exchangePlaces (wsV RX1 44 RX1 yX1_placeOf wsX1_placeOf) := goodIn_app (goodIn_of _ (by decide +kernel)) ggX1_exchangePlaces_X1_placeOf
set_option maxRecDepth 20000 in
theorem ggX1_exchangePlaces_X1_setPlace : GoodIn wsX1_exchangePlaces wsX1_setPlace := goodIn_r _ [10, 6, 11, 12, 13, 14, 15, 16, 17, 18, 19] (by decide +kernel) (by decide +kernel)
set_option maxRecDepth 20000 in
theorem gX1_exchangePlaces_X1_setPlace : GoodIn wsX1_exchangePlaces (wsV RX1 48 RX1 yX1_setPlace wsX1_setPlace) := goodIn_app (goodIn_of _ (by decide +kernel)) ggX1_exchangePlaces_X1_setPlace
theorem dX1_exchangePlaces_0 : decode cX1_exchangePlaces 0 = .ok (.aload_n 0, 1) := by decide +kernel
theorem dX1_exchangePlaces_1 : decode cX1_exchangePlaces 1 = .ok (.iload_n 1, 1) := by decide +kernel
theorem dX1_exchangePlaces_2 : decode cX1_exchangePlaces 2 = .ok (.invokevirtual 44, 3) := by decide +kernel
theorem dX1_exchangePlaces_5 : decode cX1_exchangePlaces 5 = .ok (.istore_n 3, 1) := by decide +kernel
theorem dX1_exchangePlaces_6 : decode cX1_exchangePlaces 6 = .ok (.aload_n 0, 1) := by decide +kernel
theorem dX1_exchangePlaces_7 : decode cX1_exchangePlaces 7 = .ok (.iload_n 1, 1) := by decide +kernel
theorem dX1_exchangePlaces_8 : decode cX1_exchangePlaces 8 = .ok (.aload_n 0, 1) := by decide +kernel
theorem dX1_exchangePlaces_9 : decode cX1_exchangePlaces 9 = .ok (.iload_n 2, 1) := by decide +kernel
theorem dX1_exchangePlaces_10 : decode cX1_exchangePlaces 10 = .ok (.invokevirtual 44, 3) := by decide +kernel
theorem dX1_exchangePlaces_13 : decode cX1_exchangePlaces 13 = .ok (.invokevirtual 48, 3) := by decide +kernel
theorem dX1_exchangePlaces_16 : decode cX1_exchangePlaces 16 = .ok (.aload_n 0, 1) := by decide +kernel
theorem dX1_exchangePlaces_17 : decode cX1_exchangePlaces 17 = .ok (.iload_n 2, 1) := by decide +kernel
theorem dX1_exchangePlaces_18 : decode cX1_exchangePlaces 18 = .ok (.iload_n 3, 1) := by decide +kernel
theorem dX1_exchangePlaces_19 : decode cX1_exchangePlaces 19 = .ok (.invokevirtual 48, 3) := by decide +kernel
theorem dX1_exchangePlaces_22 : decode cX1_exchangePlaces 22 = .ok (.return_, 1) := by decide +kernel
set_option maxRecDepth 20000 in
theorem ggX1_postAt_X1_placeOf : GoodIn wsX1_postAt wsX1_placeOf := goodIn_r _ [5, 6, 7, 8, 9, 10, 11, 12] (by decide +kernel) (by decide +kernel)
set_option maxRecDepth 20000 in
theorem gX1_postAt_X1_placeOf : GoodIn wsX1_postAt (wsV RX1 44 RX1 yX1_placeOf wsX1_placeOf) := goodIn_app (goodIn_of _ (by decide +kernel)) ggX1_postAt_X1_placeOf
theorem dX1_postAt_0 : decode cX1_postAt 0 = .ok (.iload_n 1, 1) := by decide +kernel
theorem dX1_postAt_1 : decode cX1_postAt 1 = .ok (.iconst 4, 1) := by decide +kernel
theorem dX1_postAt_2 : decode cX1_postAt 2 = .ok (.imul, 1) := by decide +kernel
theorem dX1_postAt_3 : decode cX1_postAt 3 = .ok (.istore_n 3, 1) := by decide +kernel
theorem dX1_postAt_4 : decode cX1_postAt 4 = .ok (.iload_n 3, 1) := by decide +kernel
theorem dX1_postAt_5 : decode cX1_postAt 5 = .ok (.istore 4, 2) := by decide +kernel
theorem dX1_postAt_7 : decode cX1_postAt 7 = .ok (.iload 4, 2) := by decide +kernel
theorem dX1_postAt_9 : decode cX1_postAt 9 = .ok (.iload_n 3, 1) := by decide +kernel
theorem dX1_postAt_10 : decode cX1_postAt 10 = .ok (.iconst 4, 1) := by decide +kernel
theorem dX1_postAt_11 : decode cX1_postAt 11 = .ok (.iadd, 1) := by decide +kernel
theorem dX1_postAt_12 : decode cX1_postAt 12 = .ok (.if_icmp .ge 22, 3) := by decide +kernel
theorem dX1_postAt_15 : decode cX1_postAt 15 = .ok (.aload_n 0, 1) := by decide +kernel
theorem dX1_postAt_16 : decode cX1_postAt 16 = .ok (.iload 4, 2) := by decide +kernel
theorem dX1_postAt_18 : decode cX1_postAt 18 = .ok (.invokevirtual 44, 3) := by decide +kernel
theorem dX1_postAt_21 : decode cX1_postAt 21 = .ok (.iload_n 2, 1) := by decide +kernel
theorem dX1_postAt_22 : decode cX1_postAt 22 = .ok (.if_icmp .ne 6, 3) := by decide +kernel
theorem dX1_postAt_25 : decode cX1_postAt 25 = .ok (.iload 4, 2) := by decide +kernel
theorem dX1_postAt_27 : decode cX1_postAt 27 = .ok (.ireturn, 1) := by decide +kernel
theorem dX1_postAt_28 : decode cX1_postAt 28 = .ok (.iinc 4 1, 3) := by decide +kernel
theorem dX1_postAt_31 : decode cX1_postAt 31 = .ok (.goto (-24), 3) := by decide +kernel
theorem dX1_postAt_34 : decode cX1_postAt 34 = .ok (.iconst (-1), 1) := by decide +kernel
theorem dX1_postAt_35 : decode cX1_postAt 35 = .ok (.ireturn, 1) := by decide +kernel
theorem dX1_fromOf_0 : decode cX1_fromOf 0 = .ok (.iload_n 1, 1) := by decide +kernel
theorem dX1_fromOf_1 : decode cX1_fromOf 1 = .ok (.ifCond .lt 18, 3) := by decide +kernel
theorem dX1_fromOf_4 : decode cX1_fromOf 4 = .ok (.iload_n 1, 1) := by decide +kernel
theorem dX1_fromOf_5 : decode cX1_fromOf 5 = .ok (.bipush 20, 2) := by decide +kernel
theorem dX1_fromOf_7 : decode cX1_fromOf 7 = .ok (.if_icmp .ge 12, 3) := by decide +kernel
theorem dX1_fromOf_10 : decode cX1_fromOf 10 = .ok (.aload_n 0, 1) := by decide +kernel
theorem dX1_fromOf_11 : decode cX1_fromOf 11 = .ok (.getfield 15, 3) := by decide +kernel
theorem dX1_fromOf_14 : decode cX1_fromOf 14 = .ok (.iload_n 1, 1) := by decide +kernel
theorem dX1_fromOf_15 : decode cX1_fromOf 15 = .ok (.iaload, 1) := by decide +kernel
theorem dX1_fromOf_16 : decode cX1_fromOf 16 = .ok (.goto 4, 3) := by decide +kernel
theorem dX1_fromOf_19 : decode cX1_fromOf 19 = .ok (.iconst 0, 1) := by decide +kernel
theorem dX1_fromOf_20 : decode cX1_fromOf 20 = .ok (.ireturn, 1) := by decide +kernel
theorem dX1_toOf_0 : decode cX1_toOf 0 = .ok (.iload_n 1, 1) := by decide +kernel
theorem dX1_toOf_1 : decode cX1_toOf 1 = .ok (.ifCond .lt 18, 3) := by decide +kernel
theorem dX1_toOf_4 : decode cX1_toOf 4 = .ok (.iload_n 1, 1) := by decide +kernel
theorem dX1_toOf_5 : decode cX1_toOf 5 = .ok (.bipush 20, 2) := by decide +kernel
theorem dX1_toOf_7 : decode cX1_toOf 7 = .ok (.if_icmp .ge 12, 3) := by decide +kernel
theorem dX1_toOf_10 : decode cX1_toOf 10 = .ok (.aload_n 0, 1) := by decide +kernel
theorem dX1_toOf_11 : decode cX1_toOf 11 = .ok (.getfield 18, 3) := by decide +kernel
theorem dX1_toOf_14 : decode cX1_toOf 14 = .ok (.iload_n 1, 1) := by decide +kernel
theorem dX1_toOf_15 : decode cX1_toOf 15 = .ok (.iaload, 1) := by decide +kernel
theorem dX1_toOf_16 : decode cX1_toOf 16 = .ok (.goto 4, 3) := by decide +kernel
theorem dX1_toOf_19 : decode cX1_toOf 19 = .ok (.iconst 0, 1) := by decide +kernel
theorem dX1_toOf_20 : decode cX1_toOf 20 = .ok (.ireturn, 1) := by decide +kernel
theorem dX1_widthOf_0 : decode cX1_widthOf 0 = .ok (.iload_n 1, 1) := by decide +kernel
theorem dX1_widthOf_1 : decode cX1_widthOf 1 = .ok (.ifCond .lt 18, 3) := by decide +kernel
theorem dX1_widthOf_4 : decode cX1_widthOf 4 = .ok (.iload_n 1, 1) := by decide +kernel
theorem dX1_widthOf_5 : decode cX1_widthOf 5 = .ok (.bipush 20, 2) := by decide +kernel
theorem dX1_widthOf_7 : decode cX1_widthOf 7 = .ok (.if_icmp .ge 12, 3) := by decide +kernel
theorem dX1_widthOf_10 : decode cX1_widthOf 10 = .ok (.aload_n 0, 1) := by decide +kernel
theorem dX1_widthOf_11 : decode cX1_widthOf 11 = .ok (.getfield 21, 3) := by decide +kernel
theorem dX1_widthOf_14 : decode cX1_widthOf 14 = .ok (.iload_n 1, 1) := by decide +kernel
theorem dX1_widthOf_15 : decode cX1_widthOf 15 = .ok (.iaload, 1) := by decide +kernel
theorem dX1_widthOf_16 : decode cX1_widthOf 16 = .ok (.goto 4, 3) := by decide +kernel
theorem dX1_widthOf_19 : decode cX1_widthOf 19 = .ok (.iconst 0, 1) := by decide +kernel
theorem dX1_widthOf_20 : decode cX1_widthOf 20 = .ok (.ireturn, 1) := by decide +kernel
set_option maxRecDepth 20000 in
theorem ggX1_setWidth_X1_hasRibbon : GoodIn wsX1_setWidth wsX1_hasRibbon := goodIn_r _ [6, 7, 8, 9, 10, 11, 12, 13] (by decide +kernel) (by decide +kernel)
set_option maxRecDepth 20000 in
theorem gX1_setWidth_X1_hasRibbon : GoodIn wsX1_setWidth (wsV RX1 37 RX1 yX1_hasRibbon wsX1_hasRibbon) := goodIn_app (goodIn_of _ (by decide +kernel)) ggX1_setWidth_X1_hasRibbon
theorem dX1_setWidth_0 : decode cX1_setWidth 0 = .ok (.aload_n 0, 1) := by decide +kernel
theorem dX1_setWidth_1 : decode cX1_setWidth 1 = .ok (.iload_n 1, 1) := by decide +kernel
theorem dX1_setWidth_2 : decode cX1_setWidth 2 = .ok (.invokevirtual 37, 3) := by decide +kernel
theorem dX1_setWidth_5 : decode cX1_setWidth 5 = .ok (.ifCond .eq 10, 3) := by decide +kernel
theorem dX1_setWidth_8 : decode cX1_setWidth 8 = .ok (.aload_n 0, 1) := by decide +kernel
theorem dX1_setWidth_9 : decode cX1_setWidth 9 = .ok (.getfield 21, 3) := by decide +kernel
theorem dX1_setWidth_12 : decode cX1_setWidth 12 = .ok (.iload_n 1, 1) := by decide +kernel
theorem dX1_setWidth_13 : decode cX1_setWidth 13 = .ok (.iload_n 2, 1) := by decide +kernel
theorem dX1_setWidth_14 : decode cX1_setWidth 14 = .ok (.iastore, 1) := by decide +kernel
theorem dX1_setWidth_15 : decode cX1_setWidth 15 = .ok (.return_, 1) := by decide +kernel
theorem dX1_goesOn_0 : decode cX1_goesOn 0 = .ok (.iload_n 1, 1) := by decide +kernel
theorem dX1_goesOn_1 : decode cX1_goesOn 1 = .ok (.ifCond .lt 32, 3) := by decide +kernel
theorem dX1_goesOn_4 : decode cX1_goesOn 4 = .ok (.iload_n 1, 1) := by decide +kernel
theorem dX1_goesOn_5 : decode cX1_goesOn 5 = .ok (.bipush 20, 2) := by decide +kernel
theorem dX1_goesOn_7 : decode cX1_goesOn 7 = .ok (.if_icmp .ge 26, 3) := by decide +kernel
theorem dX1_goesOn_10 : decode cX1_goesOn 10 = .ok (.aload_n 0, 1) := by decide +kernel
theorem dX1_goesOn_11 : decode cX1_goesOn 11 = .ok (.getfield 18, 3) := by decide +kernel
theorem dX1_goesOn_14 : decode cX1_goesOn 14 = .ok (.iload_n 1, 1) := by decide +kernel
theorem dX1_goesOn_15 : decode cX1_goesOn 15 = .ok (.iaload, 1) := by decide +kernel
theorem dX1_goesOn_16 : decode cX1_goesOn 16 = .ok (.iconst 4, 1) := by decide +kernel
theorem dX1_goesOn_17 : decode cX1_goesOn 17 = .ok (.idiv, 1) := by decide +kernel
theorem dX1_goesOn_18 : decode cX1_goesOn 18 = .ok (.aload_n 0, 1) := by decide +kernel
theorem dX1_goesOn_19 : decode cX1_goesOn 19 = .ok (.getfield 15, 3) := by decide +kernel
theorem dX1_goesOn_22 : decode cX1_goesOn 22 = .ok (.iload_n 1, 1) := by decide +kernel
theorem dX1_goesOn_23 : decode cX1_goesOn 23 = .ok (.iaload, 1) := by decide +kernel
theorem dX1_goesOn_24 : decode cX1_goesOn 24 = .ok (.iconst 4, 1) := by decide +kernel
theorem dX1_goesOn_25 : decode cX1_goesOn 25 = .ok (.idiv, 1) := by decide +kernel
theorem dX1_goesOn_26 : decode cX1_goesOn 26 = .ok (.if_icmp .le 7, 3) := by decide +kernel
theorem dX1_goesOn_29 : decode cX1_goesOn 29 = .ok (.iconst 1, 1) := by decide +kernel
theorem dX1_goesOn_30 : decode cX1_goesOn 30 = .ok (.goto 4, 3) := by decide +kernel
theorem dX1_goesOn_33 : decode cX1_goesOn 33 = .ok (.iconst 0, 1) := by decide +kernel
theorem dX1_goesOn_34 : decode cX1_goesOn 34 = .ok (.ireturn, 1) := by decide +kernel
set_option maxRecDepth 20000 in
theorem ggX1_joins_X1_fromOf : GoodIn wsX1_joins wsX1_fromOf := goodIn_r _ [5, 6, 15, 16, 17, 18, 19, 20] (by decide +kernel) (by decide +kernel)
set_option maxRecDepth 20000 in
theorem gX1_joins_X1_fromOf : GoodIn wsX1_joins (wsV RX1 52 RX1 yX1_fromOf wsX1_fromOf) := goodIn_app (goodIn_of _ (by decide +kernel)) ggX1_joins_X1_fromOf
set_option maxRecDepth 20000 in
theorem ggX1_joins_X6_columnOf : GoodIn wsX1_joins wsX6_columnOf := goodIn_r _ [9] (by decide +kernel) (by decide +kernel)
set_option maxRecDepth 20000 in
theorem gX1_joins_X6_columnOf_n55 : GoodIn wsX1_joins (wsX6_columnOf) := ggX1_joins_X6_columnOf
set_option maxRecDepth 20000 in
theorem ggX1_joins_X1_toOf : GoodIn wsX1_joins wsX1_toOf := goodIn_r _ [13, 14, 15, 16, 17, 18, 19, 20] (by decide +kernel) (by decide +kernel)
set_option maxRecDepth 20000 in
theorem gX1_joins_X1_toOf : GoodIn wsX1_joins (wsV RX1 58 RX1 yX1_toOf wsX1_toOf) := goodIn_app (goodIn_of _ (by decide +kernel)) ggX1_joins_X1_toOf
theorem dX1_joins_0 : decode cX1_joins 0 = .ok (.iload_n 2, 1) := by decide +kernel
theorem dX1_joins_1 : decode cX1_joins 1 = .ok (.iload_n 3, 1) := by decide +kernel
theorem dX1_joins_2 : decode cX1_joins 2 = .ok (.if_icmp .ge 31, 3) := by decide +kernel
theorem dX1_joins_5 : decode cX1_joins 5 = .ok (.aload_n 0, 1) := by decide +kernel
theorem dX1_joins_6 : decode cX1_joins 6 = .ok (.iload_n 1, 1) := by decide +kernel
theorem dX1_joins_7 : decode cX1_joins 7 = .ok (.invokevirtual 52, 3) := by decide +kernel
theorem dX1_joins_10 : decode cX1_joins 10 = .ok (.invokestatic 55, 3) := by decide +kernel
theorem dX1_joins_13 : decode cX1_joins 13 = .ok (.iload_n 2, 1) := by decide +kernel
theorem dX1_joins_14 : decode cX1_joins 14 = .ok (.if_icmp .ne 19, 3) := by decide +kernel
theorem dX1_joins_17 : decode cX1_joins 17 = .ok (.aload_n 0, 1) := by decide +kernel
theorem dX1_joins_18 : decode cX1_joins 18 = .ok (.iload_n 1, 1) := by decide +kernel
theorem dX1_joins_19 : decode cX1_joins 19 = .ok (.invokevirtual 58, 3) := by decide +kernel
theorem dX1_joins_22 : decode cX1_joins 22 = .ok (.invokestatic 55, 3) := by decide +kernel
theorem dX1_joins_25 : decode cX1_joins 25 = .ok (.iload_n 3, 1) := by decide +kernel
theorem dX1_joins_26 : decode cX1_joins 26 = .ok (.if_icmp .ne 7, 3) := by decide +kernel
theorem dX1_joins_29 : decode cX1_joins 29 = .ok (.iconst 1, 1) := by decide +kernel
theorem dX1_joins_30 : decode cX1_joins 30 = .ok (.goto 4, 3) := by decide +kernel
theorem dX1_joins_33 : decode cX1_joins 33 = .ok (.iconst 0, 1) := by decide +kernel
theorem dX1_joins_34 : decode cX1_joins 34 = .ok (.ireturn, 1) := by decide +kernel
set_option maxRecDepth 20000 in
theorem ggX1_cross_X1_fromOf : GoodIn wsX1_cross wsX1_fromOf := goodIn_r _ [5, 6, 24, 25, 26, 27, 28, 29] (by decide +kernel) (by decide +kernel)
set_option maxRecDepth 20000 in
theorem gX1_cross_X1_fromOf : GoodIn wsX1_cross (wsV RX1 52 RX1 yX1_fromOf wsX1_fromOf) := goodIn_app (goodIn_of _ (by decide +kernel)) ggX1_cross_X1_fromOf
set_option maxRecDepth 20000 in
theorem ggX1_cross_X1_toOf : GoodIn wsX1_cross wsX1_toOf := goodIn_r _ [10, 11, 24, 25, 26, 27, 28, 29] (by decide +kernel) (by decide +kernel)
set_option maxRecDepth 20000 in
theorem gX1_cross_X1_toOf : GoodIn wsX1_cross (wsV RX1 58 RX1 yX1_toOf wsX1_toOf) := goodIn_app (goodIn_of _ (by decide +kernel)) ggX1_cross_X1_toOf
set_option maxRecDepth 20000 in
theorem ggX1_cross_X6_columnOf : GoodIn wsX1_cross wsX6_columnOf := goodIn_r _ [14] (by decide +kernel) (by decide +kernel)
set_option maxRecDepth 20000 in
theorem gX1_cross_X6_columnOf_n55 : GoodIn wsX1_cross (wsX6_columnOf) := ggX1_cross_X6_columnOf
set_option maxRecDepth 20000 in
theorem ggX1_cross_X1_joins : GoodIn wsX1_cross wsX1_joins := goodIn_r _ [18, 1, 2, 3, 4, 5, 6, 12, 13, 14, 7, 8, 9, 10, 11, 24, 25, 26, 27, 28, 29] (by decide +kernel) (by decide +kernel)
set_option maxRecDepth 20000 in
theorem gX1_cross_X1_joins : GoodIn wsX1_cross (wsV RX1 61 RX1 yX1_joins wsX1_joins) := goodIn_app (goodIn_of _ (by decide +kernel)) ggX1_cross_X1_joins
set_option maxRecDepth 20000 in
theorem ggX1_cross_X1_placeOf : GoodIn wsX1_cross wsX1_placeOf := goodIn_r _ [22, 23, 24, 25, 26, 27, 28, 29] (by decide +kernel) (by decide +kernel)
set_option maxRecDepth 20000 in
theorem gX1_cross_X1_placeOf : GoodIn wsX1_cross (wsV RX1 44 RX1 yX1_placeOf wsX1_placeOf) := goodIn_app (goodIn_of _ (by decide +kernel)) ggX1_cross_X1_placeOf
theorem dX1_cross_0 : decode cX1_cross 0 = .ok (.aload_n 0, 1) := by decide +kernel
theorem dX1_cross_1 : decode cX1_cross 1 = .ok (.iload_n 1, 1) := by decide +kernel
theorem dX1_cross_2 : decode cX1_cross 2 = .ok (.invokevirtual 52, 3) := by decide +kernel
theorem dX1_cross_5 : decode cX1_cross 5 = .ok (.istore_n 3, 1) := by decide +kernel
theorem dX1_cross_6 : decode cX1_cross 6 = .ok (.aload_n 0, 1) := by decide +kernel
theorem dX1_cross_7 : decode cX1_cross 7 = .ok (.iload_n 1, 1) := by decide +kernel
theorem dX1_cross_8 : decode cX1_cross 8 = .ok (.invokevirtual 58, 3) := by decide +kernel
theorem dX1_cross_11 : decode cX1_cross 11 = .ok (.istore 4, 2) := by decide +kernel
theorem dX1_cross_13 : decode cX1_cross 13 = .ok (.aload_n 0, 1) := by decide +kernel
theorem dX1_cross_14 : decode cX1_cross 14 = .ok (.iload_n 2, 1) := by decide +kernel
theorem dX1_cross_15 : decode cX1_cross 15 = .ok (.iload_n 3, 1) := by decide +kernel
theorem dX1_cross_16 : decode cX1_cross 16 = .ok (.invokestatic 55, 3) := by decide +kernel
theorem dX1_cross_19 : decode cX1_cross 19 = .ok (.iload 4, 2) := by decide +kernel
theorem dX1_cross_21 : decode cX1_cross 21 = .ok (.invokestatic 55, 3) := by decide +kernel
theorem dX1_cross_24 : decode cX1_cross 24 = .ok (.invokevirtual 61, 3) := by decide +kernel
theorem dX1_cross_27 : decode cX1_cross 27 = .ok (.ifCond .ne 5, 3) := by decide +kernel
theorem dX1_cross_30 : decode cX1_cross 30 = .ok (.iconst 0, 1) := by decide +kernel
theorem dX1_cross_31 : decode cX1_cross 31 = .ok (.ireturn, 1) := by decide +kernel
theorem dX1_cross_32 : decode cX1_cross 32 = .ok (.aload_n 0, 1) := by decide +kernel
theorem dX1_cross_33 : decode cX1_cross 33 = .ok (.iload_n 3, 1) := by decide +kernel
theorem dX1_cross_34 : decode cX1_cross 34 = .ok (.invokevirtual 44, 3) := by decide +kernel
theorem dX1_cross_37 : decode cX1_cross 37 = .ok (.aload_n 0, 1) := by decide +kernel
theorem dX1_cross_38 : decode cX1_cross 38 = .ok (.aload_n 0, 1) := by decide +kernel
theorem dX1_cross_39 : decode cX1_cross 39 = .ok (.iload_n 2, 1) := by decide +kernel
theorem dX1_cross_40 : decode cX1_cross 40 = .ok (.invokevirtual 52, 3) := by decide +kernel
theorem dX1_cross_43 : decode cX1_cross 43 = .ok (.invokevirtual 44, 3) := by decide +kernel
theorem dX1_cross_46 : decode cX1_cross 46 = .ok (.isub, 1) := by decide +kernel
theorem dX1_cross_47 : decode cX1_cross 47 = .ok (.istore 5, 2) := by decide +kernel
theorem dX1_cross_49 : decode cX1_cross 49 = .ok (.aload_n 0, 1) := by decide +kernel
theorem dX1_cross_50 : decode cX1_cross 50 = .ok (.iload 4, 2) := by decide +kernel
theorem dX1_cross_52 : decode cX1_cross 52 = .ok (.invokevirtual 44, 3) := by decide +kernel
theorem dX1_cross_55 : decode cX1_cross 55 = .ok (.aload_n 0, 1) := by decide +kernel
theorem dX1_cross_56 : decode cX1_cross 56 = .ok (.aload_n 0, 1) := by decide +kernel
theorem dX1_cross_57 : decode cX1_cross 57 = .ok (.iload_n 2, 1) := by decide +kernel
theorem dX1_cross_58 : decode cX1_cross 58 = .ok (.invokevirtual 58, 3) := by decide +kernel
theorem dX1_cross_61 : decode cX1_cross 61 = .ok (.invokevirtual 44, 3) := by decide +kernel
theorem dX1_cross_64 : decode cX1_cross 64 = .ok (.isub, 1) := by decide +kernel
theorem dX1_cross_65 : decode cX1_cross 65 = .ok (.istore 6, 2) := by decide +kernel
theorem dX1_cross_67 : decode cX1_cross 67 = .ok (.iload 5, 2) := by decide +kernel
theorem dX1_cross_69 : decode cX1_cross 69 = .ok (.ifCond .ge 8, 3) := by decide +kernel
theorem dX1_cross_72 : decode cX1_cross 72 = .ok (.iload 6, 2) := by decide +kernel
theorem dX1_cross_74 : decode cX1_cross 74 = .ok (.ifCond .gt 13, 3) := by decide +kernel
theorem dX1_cross_77 : decode cX1_cross 77 = .ok (.iload 5, 2) := by decide +kernel
theorem dX1_cross_79 : decode cX1_cross 79 = .ok (.ifCond .le 12, 3) := by decide +kernel
theorem dX1_cross_82 : decode cX1_cross 82 = .ok (.iload 6, 2) := by decide +kernel
theorem dX1_cross_84 : decode cX1_cross 84 = .ok (.ifCond .ge 7, 3) := by decide +kernel
theorem dX1_cross_87 : decode cX1_cross 87 = .ok (.iconst 1, 1) := by decide +kernel
theorem dX1_cross_88 : decode cX1_cross 88 = .ok (.goto 4, 3) := by decide +kernel
theorem dX1_cross_91 : decode cX1_cross 91 = .ok (.iconst 0, 1) := by decide +kernel
theorem dX1_cross_92 : decode cX1_cross 92 = .ok (.ireturn, 1) := by decide +kernel
set_option maxRecDepth 20000 in
theorem ggX1_allWidths_X1_widthOf : GoodIn wsX1_allWidths wsX1_widthOf := goodIn_r _ [6, 7, 8, 9, 10, 11, 12, 13] (by decide +kernel) (by decide +kernel)
set_option maxRecDepth 20000 in
theorem gX1_allWidths_X1_widthOf : GoodIn wsX1_allWidths (wsV RX1 65 RX1 yX1_widthOf wsX1_widthOf) := goodIn_app (goodIn_of _ (by decide +kernel)) ggX1_allWidths_X1_widthOf
theorem dX1_allWidths_0 : decode cX1_allWidths 0 = .ok (.iconst 0, 1) := by decide +kernel
theorem dX1_allWidths_1 : decode cX1_allWidths 1 = .ok (.istore_n 1, 1) := by decide +kernel
theorem dX1_allWidths_2 : decode cX1_allWidths 2 = .ok (.iconst 0, 1) := by decide +kernel
theorem dX1_allWidths_3 : decode cX1_allWidths 3 = .ok (.istore_n 2, 1) := by decide +kernel
theorem dX1_allWidths_4 : decode cX1_allWidths 4 = .ok (.iload_n 2, 1) := by decide +kernel
theorem dX1_allWidths_5 : decode cX1_allWidths 5 = .ok (.aload_n 0, 1) := by decide +kernel
theorem dX1_allWidths_6 : decode cX1_allWidths 6 = .ok (.getfield 30, 3) := by decide +kernel
theorem dX1_allWidths_9 : decode cX1_allWidths 9 = .ok (.if_icmp .ge 17, 3) := by decide +kernel
theorem dX1_allWidths_12 : decode cX1_allWidths 12 = .ok (.iload_n 1, 1) := by decide +kernel
theorem dX1_allWidths_13 : decode cX1_allWidths 13 = .ok (.aload_n 0, 1) := by decide +kernel
theorem dX1_allWidths_14 : decode cX1_allWidths 14 = .ok (.iload_n 2, 1) := by decide +kernel
theorem dX1_allWidths_15 : decode cX1_allWidths 15 = .ok (.invokevirtual 65, 3) := by decide +kernel
theorem dX1_allWidths_18 : decode cX1_allWidths 18 = .ok (.iadd, 1) := by decide +kernel
theorem dX1_allWidths_19 : decode cX1_allWidths 19 = .ok (.istore_n 1, 1) := by decide +kernel
theorem dX1_allWidths_20 : decode cX1_allWidths 20 = .ok (.iinc 2 1, 3) := by decide +kernel
theorem dX1_allWidths_23 : decode cX1_allWidths 23 = .ok (.goto (-19), 3) := by decide +kernel
theorem dX1_allWidths_26 : decode cX1_allWidths 26 = .ok (.iload_n 1, 1) := by decide +kernel
theorem dX1_allWidths_27 : decode cX1_allWidths 27 = .ok (.ireturn, 1) := by decide +kernel
set_option maxRecDepth 20000 in
theorem ggX1_allCrossings_X1_cross : GoodIn wsX1_allCrossings wsX1_cross := goodIn_r _ [10, 11, 12, 13, 9, 14, 15, 16, 17, 18, 19, 20, 21, 22, 23, 24, 25, 26, 27, 28, 29, 30, 31, 32, 38, 39, 40, 41, 42, 43] (by decide +kernel) (by decide +kernel)
set_option maxRecDepth 20000 in
theorem gX1_allCrossings_X1_cross : GoodIn wsX1_allCrossings (wsV RX1 68 RX1 yX1_cross wsX1_cross) := goodIn_app (goodIn_of _ (by decide +kernel)) ggX1_allCrossings_X1_cross
set_option maxRecDepth 20000 in
theorem ggX1_allCrossings_X1_widthOf : GoodIn wsX1_allCrossings wsX1_widthOf := goodIn_r _ [36, 37, 38, 39, 40, 41, 42, 43] (by decide +kernel) (by decide +kernel)
set_option maxRecDepth 20000 in
theorem gX1_allCrossings_X1_widthOf : GoodIn wsX1_allCrossings (wsV RX1 65 RX1 yX1_widthOf wsX1_widthOf) := goodIn_app (goodIn_of _ (by decide +kernel)) ggX1_allCrossings_X1_widthOf
theorem dX1_allCrossings_0 : decode cX1_allCrossings 0 = .ok (.iconst 0, 1) := by decide +kernel
theorem dX1_allCrossings_1 : decode cX1_allCrossings 1 = .ok (.istore_n 1, 1) := by decide +kernel
theorem dX1_allCrossings_2 : decode cX1_allCrossings 2 = .ok (.iconst 0, 1) := by decide +kernel
theorem dX1_allCrossings_3 : decode cX1_allCrossings 3 = .ok (.istore_n 2, 1) := by decide +kernel
theorem dX1_allCrossings_4 : decode cX1_allCrossings 4 = .ok (.iload_n 2, 1) := by decide +kernel
theorem dX1_allCrossings_5 : decode cX1_allCrossings 5 = .ok (.aload_n 0, 1) := by decide +kernel
theorem dX1_allCrossings_6 : decode cX1_allCrossings 6 = .ok (.getfield 30, 3) := by decide +kernel
theorem dX1_allCrossings_9 : decode cX1_allCrossings 9 = .ok (.if_icmp .ge 52, 3) := by decide +kernel
theorem dX1_allCrossings_12 : decode cX1_allCrossings 12 = .ok (.iload_n 2, 1) := by decide +kernel
theorem dX1_allCrossings_13 : decode cX1_allCrossings 13 = .ok (.iconst 1, 1) := by decide +kernel
theorem dX1_allCrossings_14 : decode cX1_allCrossings 14 = .ok (.iadd, 1) := by decide +kernel
theorem dX1_allCrossings_15 : decode cX1_allCrossings 15 = .ok (.istore_n 3, 1) := by decide +kernel
theorem dX1_allCrossings_16 : decode cX1_allCrossings 16 = .ok (.iload_n 3, 1) := by decide +kernel
theorem dX1_allCrossings_17 : decode cX1_allCrossings 17 = .ok (.aload_n 0, 1) := by decide +kernel
theorem dX1_allCrossings_18 : decode cX1_allCrossings 18 = .ok (.getfield 30, 3) := by decide +kernel
theorem dX1_allCrossings_21 : decode cX1_allCrossings 21 = .ok (.if_icmp .ge 34, 3) := by decide +kernel
theorem dX1_allCrossings_24 : decode cX1_allCrossings 24 = .ok (.aload_n 0, 1) := by decide +kernel
theorem dX1_allCrossings_25 : decode cX1_allCrossings 25 = .ok (.iload_n 2, 1) := by decide +kernel
theorem dX1_allCrossings_26 : decode cX1_allCrossings 26 = .ok (.iload_n 3, 1) := by decide +kernel
theorem dX1_allCrossings_27 : decode cX1_allCrossings 27 = .ok (.invokevirtual 68, 3) := by decide +kernel
theorem dX1_allCrossings_30 : decode cX1_allCrossings 30 = .ok (.ifCond .eq 19, 3) := by decide +kernel
theorem dX1_allCrossings_33 : decode cX1_allCrossings 33 = .ok (.iload_n 1, 1) := by decide +kernel
theorem dX1_allCrossings_34 : decode cX1_allCrossings 34 = .ok (.aload_n 0, 1) := by decide +kernel
theorem dX1_allCrossings_35 : decode cX1_allCrossings 35 = .ok (.iload_n 2, 1) := by decide +kernel
theorem dX1_allCrossings_36 : decode cX1_allCrossings 36 = .ok (.invokevirtual 65, 3) := by decide +kernel
theorem dX1_allCrossings_39 : decode cX1_allCrossings 39 = .ok (.aload_n 0, 1) := by decide +kernel
theorem dX1_allCrossings_40 : decode cX1_allCrossings 40 = .ok (.iload_n 3, 1) := by decide +kernel
theorem dX1_allCrossings_41 : decode cX1_allCrossings 41 = .ok (.invokevirtual 65, 3) := by decide +kernel
theorem dX1_allCrossings_44 : decode cX1_allCrossings 44 = .ok (.invokestatic 72, 3) := by decide +kernel
theorem dX1_allCrossings_47 : decode cX1_allCrossings 47 = .ok (.iadd, 1) := by decide +kernel
theorem dX1_allCrossings_48 : decode cX1_allCrossings 48 = .ok (.istore_n 1, 1) := by decide +kernel
theorem dX1_allCrossings_49 : decode cX1_allCrossings 49 = .ok (.iinc 3 1, 3) := by decide +kernel
theorem dX1_allCrossings_52 : decode cX1_allCrossings 52 = .ok (.goto (-36), 3) := by decide +kernel
theorem dX1_allCrossings_55 : decode cX1_allCrossings 55 = .ok (.iinc 2 1, 3) := by decide +kernel
theorem dX1_allCrossings_58 : decode cX1_allCrossings 58 = .ok (.goto (-54), 3) := by decide +kernel
theorem dX1_allCrossings_61 : decode cX1_allCrossings 61 = .ok (.iload_n 1, 1) := by decide +kernel
theorem dX1_allCrossings_62 : decode cX1_allCrossings 62 = .ok (.ireturn, 1) := by decide +kernel
set_option maxRecDepth 20000 in
theorem ggX1_ribbonsAcross_X1_cross : GoodIn wsX1_ribbonsAcross wsX1_cross := goodIn_r _ [6, 7, 8, 9, 5, 10, 11, 12, 13, 14, 15, 16, 17, 18, 19, 20, 21, 22, 23, 24, 25, 26, 27, 28, 29, 30, 31, 32, 33, 34] (by decide +kernel) (by decide +kernel)
set_option maxRecDepth 20000 in
theorem gX1_ribbonsAcross_X1_cross : GoodIn wsX1_ribbonsAcross (wsV RX1 68 RX1 yX1_cross wsX1_cross) := goodIn_app (goodIn_of _ (by decide +kernel)) ggX1_ribbonsAcross_X1_cross
theorem dX1_ribbonsAcross_0 : decode cX1_ribbonsAcross 0 = .ok (.iconst 0, 1) := by decide +kernel
theorem dX1_ribbonsAcross_1 : decode cX1_ribbonsAcross 1 = .ok (.istore_n 2, 1) := by decide +kernel
theorem dX1_ribbonsAcross_2 : decode cX1_ribbonsAcross 2 = .ok (.iconst 0, 1) := by decide +kernel
theorem dX1_ribbonsAcross_3 : decode cX1_ribbonsAcross 3 = .ok (.istore_n 3, 1) := by decide +kernel
theorem dX1_ribbonsAcross_4 : decode cX1_ribbonsAcross 4 = .ok (.iload_n 3, 1) := by decide +kernel
theorem dX1_ribbonsAcross_5 : decode cX1_ribbonsAcross 5 = .ok (.aload_n 0, 1) := by decide +kernel
theorem dX1_ribbonsAcross_6 : decode cX1_ribbonsAcross 6 = .ok (.getfield 30, 3) := by decide +kernel
theorem dX1_ribbonsAcross_9 : decode cX1_ribbonsAcross 9 = .ok (.if_icmp .ge 21, 3) := by decide +kernel
theorem dX1_ribbonsAcross_12 : decode cX1_ribbonsAcross 12 = .ok (.aload_n 0, 1) := by decide +kernel
theorem dX1_ribbonsAcross_13 : decode cX1_ribbonsAcross 13 = .ok (.iload_n 1, 1) := by decide +kernel
theorem dX1_ribbonsAcross_14 : decode cX1_ribbonsAcross 14 = .ok (.iload_n 3, 1) := by decide +kernel
theorem dX1_ribbonsAcross_15 : decode cX1_ribbonsAcross 15 = .ok (.invokevirtual 68, 3) := by decide +kernel
theorem dX1_ribbonsAcross_18 : decode cX1_ribbonsAcross 18 = .ok (.ifCond .eq 6, 3) := by decide +kernel
theorem dX1_ribbonsAcross_21 : decode cX1_ribbonsAcross 21 = .ok (.iinc 2 1, 3) := by decide +kernel
theorem dX1_ribbonsAcross_24 : decode cX1_ribbonsAcross 24 = .ok (.iinc 3 1, 3) := by decide +kernel
theorem dX1_ribbonsAcross_27 : decode cX1_ribbonsAcross 27 = .ok (.goto (-23), 3) := by decide +kernel
theorem dX1_ribbonsAcross_30 : decode cX1_ribbonsAcross 30 = .ok (.iload_n 2, 1) := by decide +kernel
theorem dX1_ribbonsAcross_31 : decode cX1_ribbonsAcross 31 = .ok (.ireturn, 1) := by decide +kernel
set_option maxRecDepth 20000 in
theorem ggX1_crossingPairs_X1_ribbonsAcross : GoodIn wsX1_crossingPairs wsX1_ribbonsAcross := goodIn_r _ [6, 1, 7, 8, 9, 5, 10, 11, 12, 13, 14, 15, 16, 17, 18, 19, 20, 21, 22, 23, 24, 25, 26, 27, 28, 29, 30, 31, 32, 33, 34, 35, 36, 37, 38] (by decide +kernel) (by decide +kernel)
set_option maxRecDepth 20000 in
theorem gX1_crossingPairs_X1_ribbonsAcross : GoodIn wsX1_crossingPairs (wsV RX1 78 RX1 yX1_ribbonsAcross wsX1_ribbonsAcross) := goodIn_app (goodIn_of _ (by decide +kernel)) ggX1_crossingPairs_X1_ribbonsAcross
theorem dX1_crossingPairs_0 : decode cX1_crossingPairs 0 = .ok (.iconst 0, 1) := by decide +kernel
theorem dX1_crossingPairs_1 : decode cX1_crossingPairs 1 = .ok (.istore_n 1, 1) := by decide +kernel
theorem dX1_crossingPairs_2 : decode cX1_crossingPairs 2 = .ok (.iconst 0, 1) := by decide +kernel
theorem dX1_crossingPairs_3 : decode cX1_crossingPairs 3 = .ok (.istore_n 2, 1) := by decide +kernel
theorem dX1_crossingPairs_4 : decode cX1_crossingPairs 4 = .ok (.iload_n 2, 1) := by decide +kernel
theorem dX1_crossingPairs_5 : decode cX1_crossingPairs 5 = .ok (.aload_n 0, 1) := by decide +kernel
theorem dX1_crossingPairs_6 : decode cX1_crossingPairs 6 = .ok (.getfield 30, 3) := by decide +kernel
theorem dX1_crossingPairs_9 : decode cX1_crossingPairs 9 = .ok (.if_icmp .ge 17, 3) := by decide +kernel
theorem dX1_crossingPairs_12 : decode cX1_crossingPairs 12 = .ok (.iload_n 1, 1) := by decide +kernel
theorem dX1_crossingPairs_13 : decode cX1_crossingPairs 13 = .ok (.aload_n 0, 1) := by decide +kernel
theorem dX1_crossingPairs_14 : decode cX1_crossingPairs 14 = .ok (.iload_n 2, 1) := by decide +kernel
theorem dX1_crossingPairs_15 : decode cX1_crossingPairs 15 = .ok (.invokevirtual 78, 3) := by decide +kernel
theorem dX1_crossingPairs_18 : decode cX1_crossingPairs 18 = .ok (.iadd, 1) := by decide +kernel
theorem dX1_crossingPairs_19 : decode cX1_crossingPairs 19 = .ok (.istore_n 1, 1) := by decide +kernel
theorem dX1_crossingPairs_20 : decode cX1_crossingPairs 20 = .ok (.iinc 2 1, 3) := by decide +kernel
theorem dX1_crossingPairs_23 : decode cX1_crossingPairs 23 = .ok (.goto (-19), 3) := by decide +kernel
theorem dX1_crossingPairs_26 : decode cX1_crossingPairs 26 = .ok (.iload_n 1, 1) := by decide +kernel
theorem dX1_crossingPairs_27 : decode cX1_crossingPairs 27 = .ok (.iconst 2, 1) := by decide +kernel
theorem dX1_crossingPairs_28 : decode cX1_crossingPairs 28 = .ok (.idiv, 1) := by decide +kernel
theorem dX1_crossingPairs_29 : decode cX1_crossingPairs 29 = .ok (.ireturn, 1) := by decide +kernel
set_option maxRecDepth 20000 in
theorem ggX1_comesIn_X1_toOf : GoodIn wsX1_comesIn wsX1_toOf := goodIn_r _ [6, 7, 18, 19, 20, 21, 22, 23] (by decide +kernel) (by decide +kernel)
set_option maxRecDepth 20000 in
theorem gX1_comesIn_X1_toOf : GoodIn wsX1_comesIn (wsV RX1 58 RX1 yX1_toOf wsX1_toOf) := goodIn_app (goodIn_of _ (by decide +kernel)) ggX1_comesIn_X1_toOf
set_option maxRecDepth 20000 in
theorem ggX1_comesIn_X1_goesOn : GoodIn wsX1_comesIn wsX1_goesOn := goodIn_r _ [11, 7, 12, 18, 19, 20, 21, 22, 23] (by decide +kernel) (by decide +kernel)
set_option maxRecDepth 20000 in
theorem gX1_comesIn_X1_goesOn : GoodIn wsX1_comesIn (wsV RX1 81 RX1 yX1_goesOn wsX1_goesOn) := goodIn_app (goodIn_of _ (by decide +kernel)) ggX1_comesIn_X1_goesOn
set_option maxRecDepth 20000 in
theorem ggX1_comesIn_X1_widthOf : GoodIn wsX1_comesIn wsX1_widthOf := goodIn_r _ [16, 17, 18, 19, 20, 21, 22, 23] (by decide +kernel) (by decide +kernel)
set_option maxRecDepth 20000 in
theorem gX1_comesIn_X1_widthOf : GoodIn wsX1_comesIn (wsV RX1 65 RX1 yX1_widthOf wsX1_widthOf) := goodIn_app (goodIn_of _ (by decide +kernel)) ggX1_comesIn_X1_widthOf
theorem dX1_comesIn_0 : decode cX1_comesIn 0 = .ok (.iconst 0, 1) := by decide +kernel
theorem dX1_comesIn_1 : decode cX1_comesIn 1 = .ok (.istore_n 2, 1) := by decide +kernel
theorem dX1_comesIn_2 : decode cX1_comesIn 2 = .ok (.iconst 0, 1) := by decide +kernel
theorem dX1_comesIn_3 : decode cX1_comesIn 3 = .ok (.istore_n 3, 1) := by decide +kernel
theorem dX1_comesIn_4 : decode cX1_comesIn 4 = .ok (.iload_n 3, 1) := by decide +kernel
theorem dX1_comesIn_5 : decode cX1_comesIn 5 = .ok (.aload_n 0, 1) := by decide +kernel
theorem dX1_comesIn_6 : decode cX1_comesIn 6 = .ok (.getfield 30, 3) := by decide +kernel
theorem dX1_comesIn_9 : decode cX1_comesIn 9 = .ok (.if_icmp .ge 34, 3) := by decide +kernel
theorem dX1_comesIn_12 : decode cX1_comesIn 12 = .ok (.aload_n 0, 1) := by decide +kernel
theorem dX1_comesIn_13 : decode cX1_comesIn 13 = .ok (.iload_n 3, 1) := by decide +kernel
theorem dX1_comesIn_14 : decode cX1_comesIn 14 = .ok (.invokevirtual 58, 3) := by decide +kernel
theorem dX1_comesIn_17 : decode cX1_comesIn 17 = .ok (.iload_n 1, 1) := by decide +kernel
theorem dX1_comesIn_18 : decode cX1_comesIn 18 = .ok (.if_icmp .ne 19, 3) := by decide +kernel
theorem dX1_comesIn_21 : decode cX1_comesIn 21 = .ok (.aload_n 0, 1) := by decide +kernel
theorem dX1_comesIn_22 : decode cX1_comesIn 22 = .ok (.iload_n 3, 1) := by decide +kernel
theorem dX1_comesIn_23 : decode cX1_comesIn 23 = .ok (.invokevirtual 81, 3) := by decide +kernel
theorem dX1_comesIn_26 : decode cX1_comesIn 26 = .ok (.ifCond .eq 11, 3) := by decide +kernel
theorem dX1_comesIn_29 : decode cX1_comesIn 29 = .ok (.iload_n 2, 1) := by decide +kernel
theorem dX1_comesIn_30 : decode cX1_comesIn 30 = .ok (.aload_n 0, 1) := by decide +kernel
theorem dX1_comesIn_31 : decode cX1_comesIn 31 = .ok (.iload_n 3, 1) := by decide +kernel
theorem dX1_comesIn_32 : decode cX1_comesIn 32 = .ok (.invokevirtual 65, 3) := by decide +kernel
theorem dX1_comesIn_35 : decode cX1_comesIn 35 = .ok (.iadd, 1) := by decide +kernel
theorem dX1_comesIn_36 : decode cX1_comesIn 36 = .ok (.istore_n 2, 1) := by decide +kernel
theorem dX1_comesIn_37 : decode cX1_comesIn 37 = .ok (.iinc 3 1, 3) := by decide +kernel
theorem dX1_comesIn_40 : decode cX1_comesIn 40 = .ok (.goto (-36), 3) := by decide +kernel
theorem dX1_comesIn_43 : decode cX1_comesIn 43 = .ok (.iload_n 2, 1) := by decide +kernel
theorem dX1_comesIn_44 : decode cX1_comesIn 44 = .ok (.ireturn, 1) := by decide +kernel
set_option maxRecDepth 20000 in
theorem ggX1_leaves_X1_fromOf : GoodIn wsX1_leaves wsX1_fromOf := goodIn_r _ [6, 7, 18, 19, 20, 21, 22, 23] (by decide +kernel) (by decide +kernel)
set_option maxRecDepth 20000 in
theorem gX1_leaves_X1_fromOf : GoodIn wsX1_leaves (wsV RX1 52 RX1 yX1_fromOf wsX1_fromOf) := goodIn_app (goodIn_of _ (by decide +kernel)) ggX1_leaves_X1_fromOf
set_option maxRecDepth 20000 in
theorem ggX1_leaves_X1_goesOn : GoodIn wsX1_leaves wsX1_goesOn := goodIn_r _ [11, 12, 7, 18, 19, 20, 21, 22, 23] (by decide +kernel) (by decide +kernel)
set_option maxRecDepth 20000 in
theorem gX1_leaves_X1_goesOn : GoodIn wsX1_leaves (wsV RX1 81 RX1 yX1_goesOn wsX1_goesOn) := goodIn_app (goodIn_of _ (by decide +kernel)) ggX1_leaves_X1_goesOn
set_option maxRecDepth 20000 in
theorem ggX1_leaves_X1_widthOf : GoodIn wsX1_leaves wsX1_widthOf := goodIn_r _ [16, 17, 18, 19, 20, 21, 22, 23] (by decide +kernel) (by decide +kernel)
set_option maxRecDepth 20000 in
theorem gX1_leaves_X1_widthOf : GoodIn wsX1_leaves (wsV RX1 65 RX1 yX1_widthOf wsX1_widthOf) := goodIn_app (goodIn_of _ (by decide +kernel)) ggX1_leaves_X1_widthOf
theorem dX1_leaves_0 : decode cX1_leaves 0 = .ok (.iconst 0, 1) := by decide +kernel
theorem dX1_leaves_1 : decode cX1_leaves 1 = .ok (.istore_n 2, 1) := by decide +kernel
theorem dX1_leaves_2 : decode cX1_leaves 2 = .ok (.iconst 0, 1) := by decide +kernel
theorem dX1_leaves_3 : decode cX1_leaves 3 = .ok (.istore_n 3, 1) := by decide +kernel
theorem dX1_leaves_4 : decode cX1_leaves 4 = .ok (.iload_n 3, 1) := by decide +kernel
theorem dX1_leaves_5 : decode cX1_leaves 5 = .ok (.aload_n 0, 1) := by decide +kernel
theorem dX1_leaves_6 : decode cX1_leaves 6 = .ok (.getfield 30, 3) := by decide +kernel
theorem dX1_leaves_9 : decode cX1_leaves 9 = .ok (.if_icmp .ge 34, 3) := by decide +kernel
theorem dX1_leaves_12 : decode cX1_leaves 12 = .ok (.aload_n 0, 1) := by decide +kernel
theorem dX1_leaves_13 : decode cX1_leaves 13 = .ok (.iload_n 3, 1) := by decide +kernel
theorem dX1_leaves_14 : decode cX1_leaves 14 = .ok (.invokevirtual 52, 3) := by decide +kernel
theorem dX1_leaves_17 : decode cX1_leaves 17 = .ok (.iload_n 1, 1) := by decide +kernel
theorem dX1_leaves_18 : decode cX1_leaves 18 = .ok (.if_icmp .ne 19, 3) := by decide +kernel
theorem dX1_leaves_21 : decode cX1_leaves 21 = .ok (.aload_n 0, 1) := by decide +kernel
theorem dX1_leaves_22 : decode cX1_leaves 22 = .ok (.iload_n 3, 1) := by decide +kernel
theorem dX1_leaves_23 : decode cX1_leaves 23 = .ok (.invokevirtual 81, 3) := by decide +kernel
theorem dX1_leaves_26 : decode cX1_leaves 26 = .ok (.ifCond .eq 11, 3) := by decide +kernel
theorem dX1_leaves_29 : decode cX1_leaves 29 = .ok (.iload_n 2, 1) := by decide +kernel
theorem dX1_leaves_30 : decode cX1_leaves 30 = .ok (.aload_n 0, 1) := by decide +kernel
theorem dX1_leaves_31 : decode cX1_leaves 31 = .ok (.iload_n 3, 1) := by decide +kernel
theorem dX1_leaves_32 : decode cX1_leaves 32 = .ok (.invokevirtual 65, 3) := by decide +kernel
theorem dX1_leaves_35 : decode cX1_leaves 35 = .ok (.iadd, 1) := by decide +kernel
theorem dX1_leaves_36 : decode cX1_leaves 36 = .ok (.istore_n 2, 1) := by decide +kernel
theorem dX1_leaves_37 : decode cX1_leaves 37 = .ok (.iinc 3 1, 3) := by decide +kernel
theorem dX1_leaves_40 : decode cX1_leaves 40 = .ok (.goto (-36), 3) := by decide +kernel
theorem dX1_leaves_43 : decode cX1_leaves 43 = .ok (.iload_n 2, 1) := by decide +kernel
theorem dX1_leaves_44 : decode cX1_leaves 44 = .ok (.ireturn, 1) := by decide +kernel
set_option maxRecDepth 20000 in
theorem ggX1_ribbonsTo_X1_toOf : GoodIn wsX1_ribbonsTo wsX1_toOf := goodIn_r _ [6, 7, 13, 14, 15, 16, 17, 18] (by decide +kernel) (by decide +kernel)
set_option maxRecDepth 20000 in
theorem gX1_ribbonsTo_X1_toOf : GoodIn wsX1_ribbonsTo (wsV RX1 58 RX1 yX1_toOf wsX1_toOf) := goodIn_app (goodIn_of _ (by decide +kernel)) ggX1_ribbonsTo_X1_toOf
set_option maxRecDepth 20000 in
theorem ggX1_ribbonsTo_X1_goesOn : GoodIn wsX1_ribbonsTo wsX1_goesOn := goodIn_r _ [11, 7, 12, 13, 14, 15, 16, 17, 18] (by decide +kernel) (by decide +kernel)
set_option maxRecDepth 20000 in
theorem gX1_ribbonsTo_X1_goesOn : GoodIn wsX1_ribbonsTo (wsV RX1 81 RX1 yX1_goesOn wsX1_goesOn) := goodIn_app (goodIn_of _ (by decide +kernel)) ggX1_ribbonsTo_X1_goesOn
theorem dX1_ribbonsTo_0 : decode cX1_ribbonsTo 0 = .ok (.iconst 0, 1) := by decide +kernel
theorem dX1_ribbonsTo_1 : decode cX1_ribbonsTo 1 = .ok (.istore_n 2, 1) := by decide +kernel
theorem dX1_ribbonsTo_2 : decode cX1_ribbonsTo 2 = .ok (.iconst 0, 1) := by decide +kernel
theorem dX1_ribbonsTo_3 : decode cX1_ribbonsTo 3 = .ok (.istore_n 3, 1) := by decide +kernel
theorem dX1_ribbonsTo_4 : decode cX1_ribbonsTo 4 = .ok (.iload_n 3, 1) := by decide +kernel
theorem dX1_ribbonsTo_5 : decode cX1_ribbonsTo 5 = .ok (.aload_n 0, 1) := by decide +kernel
theorem dX1_ribbonsTo_6 : decode cX1_ribbonsTo 6 = .ok (.getfield 30, 3) := by decide +kernel
theorem dX1_ribbonsTo_9 : decode cX1_ribbonsTo 9 = .ok (.if_icmp .ge 29, 3) := by decide +kernel
theorem dX1_ribbonsTo_12 : decode cX1_ribbonsTo 12 = .ok (.aload_n 0, 1) := by decide +kernel
theorem dX1_ribbonsTo_13 : decode cX1_ribbonsTo 13 = .ok (.iload_n 3, 1) := by decide +kernel
theorem dX1_ribbonsTo_14 : decode cX1_ribbonsTo 14 = .ok (.invokevirtual 58, 3) := by decide +kernel
theorem dX1_ribbonsTo_17 : decode cX1_ribbonsTo 17 = .ok (.iload_n 1, 1) := by decide +kernel
theorem dX1_ribbonsTo_18 : decode cX1_ribbonsTo 18 = .ok (.if_icmp .ne 14, 3) := by decide +kernel
theorem dX1_ribbonsTo_21 : decode cX1_ribbonsTo 21 = .ok (.aload_n 0, 1) := by decide +kernel
theorem dX1_ribbonsTo_22 : decode cX1_ribbonsTo 22 = .ok (.iload_n 3, 1) := by decide +kernel
theorem dX1_ribbonsTo_23 : decode cX1_ribbonsTo 23 = .ok (.invokevirtual 81, 3) := by decide +kernel
theorem dX1_ribbonsTo_26 : decode cX1_ribbonsTo 26 = .ok (.ifCond .eq 6, 3) := by decide +kernel
theorem dX1_ribbonsTo_29 : decode cX1_ribbonsTo 29 = .ok (.iinc 2 1, 3) := by decide +kernel
theorem dX1_ribbonsTo_32 : decode cX1_ribbonsTo 32 = .ok (.iinc 3 1, 3) := by decide +kernel
theorem dX1_ribbonsTo_35 : decode cX1_ribbonsTo 35 = .ok (.goto (-31), 3) := by decide +kernel
theorem dX1_ribbonsTo_38 : decode cX1_ribbonsTo 38 = .ok (.iload_n 2, 1) := by decide +kernel
theorem dX1_ribbonsTo_39 : decode cX1_ribbonsTo 39 = .ok (.ireturn, 1) := by decide +kernel
set_option maxRecDepth 20000 in
theorem ggX1_ribbonsFrom_X1_fromOf : GoodIn wsX1_ribbonsFrom wsX1_fromOf := goodIn_r _ [6, 7, 13, 14, 15, 16, 17, 18] (by decide +kernel) (by decide +kernel)
set_option maxRecDepth 20000 in
theorem gX1_ribbonsFrom_X1_fromOf : GoodIn wsX1_ribbonsFrom (wsV RX1 52 RX1 yX1_fromOf wsX1_fromOf) := goodIn_app (goodIn_of _ (by decide +kernel)) ggX1_ribbonsFrom_X1_fromOf
set_option maxRecDepth 20000 in
theorem ggX1_ribbonsFrom_X1_goesOn : GoodIn wsX1_ribbonsFrom wsX1_goesOn := goodIn_r _ [11, 12, 7, 13, 14, 15, 16, 17, 18] (by decide +kernel) (by decide +kernel)
set_option maxRecDepth 20000 in
theorem gX1_ribbonsFrom_X1_goesOn : GoodIn wsX1_ribbonsFrom (wsV RX1 81 RX1 yX1_goesOn wsX1_goesOn) := goodIn_app (goodIn_of _ (by decide +kernel)) ggX1_ribbonsFrom_X1_goesOn
theorem dX1_ribbonsFrom_0 : decode cX1_ribbonsFrom 0 = .ok (.iconst 0, 1) := by decide +kernel
theorem dX1_ribbonsFrom_1 : decode cX1_ribbonsFrom 1 = .ok (.istore_n 2, 1) := by decide +kernel
theorem dX1_ribbonsFrom_2 : decode cX1_ribbonsFrom 2 = .ok (.iconst 0, 1) := by decide +kernel
theorem dX1_ribbonsFrom_3 : decode cX1_ribbonsFrom 3 = .ok (.istore_n 3, 1) := by decide +kernel
theorem dX1_ribbonsFrom_4 : decode cX1_ribbonsFrom 4 = .ok (.iload_n 3, 1) := by decide +kernel
theorem dX1_ribbonsFrom_5 : decode cX1_ribbonsFrom 5 = .ok (.aload_n 0, 1) := by decide +kernel
theorem dX1_ribbonsFrom_6 : decode cX1_ribbonsFrom 6 = .ok (.getfield 30, 3) := by decide +kernel
theorem dX1_ribbonsFrom_9 : decode cX1_ribbonsFrom 9 = .ok (.if_icmp .ge 29, 3) := by decide +kernel
theorem dX1_ribbonsFrom_12 : decode cX1_ribbonsFrom 12 = .ok (.aload_n 0, 1) := by decide +kernel
theorem dX1_ribbonsFrom_13 : decode cX1_ribbonsFrom 13 = .ok (.iload_n 3, 1) := by decide +kernel
theorem dX1_ribbonsFrom_14 : decode cX1_ribbonsFrom 14 = .ok (.invokevirtual 52, 3) := by decide +kernel
theorem dX1_ribbonsFrom_17 : decode cX1_ribbonsFrom 17 = .ok (.iload_n 1, 1) := by decide +kernel
theorem dX1_ribbonsFrom_18 : decode cX1_ribbonsFrom 18 = .ok (.if_icmp .ne 14, 3) := by decide +kernel
theorem dX1_ribbonsFrom_21 : decode cX1_ribbonsFrom 21 = .ok (.aload_n 0, 1) := by decide +kernel
theorem dX1_ribbonsFrom_22 : decode cX1_ribbonsFrom 22 = .ok (.iload_n 3, 1) := by decide +kernel
theorem dX1_ribbonsFrom_23 : decode cX1_ribbonsFrom 23 = .ok (.invokevirtual 81, 3) := by decide +kernel
theorem dX1_ribbonsFrom_26 : decode cX1_ribbonsFrom 26 = .ok (.ifCond .eq 6, 3) := by decide +kernel
theorem dX1_ribbonsFrom_29 : decode cX1_ribbonsFrom 29 = .ok (.iinc 2 1, 3) := by decide +kernel
theorem dX1_ribbonsFrom_32 : decode cX1_ribbonsFrom 32 = .ok (.iinc 3 1, 3) := by decide +kernel
theorem dX1_ribbonsFrom_35 : decode cX1_ribbonsFrom 35 = .ok (.goto (-31), 3) := by decide +kernel
theorem dX1_ribbonsFrom_38 : decode cX1_ribbonsFrom 38 = .ok (.iload_n 2, 1) := by decide +kernel
theorem dX1_ribbonsFrom_39 : decode cX1_ribbonsFrom 39 = .ok (.ireturn, 1) := by decide +kernel
set_option maxRecDepth 20000 in
theorem ggX1_ribbonsBack_X1_fromOf : GoodIn wsX1_ribbonsBack wsX1_fromOf := goodIn_r _ [6, 7, 17, 18, 19, 20, 21, 22] (by decide +kernel) (by decide +kernel)
set_option maxRecDepth 20000 in
theorem gX1_ribbonsBack_X1_fromOf : GoodIn wsX1_ribbonsBack (wsV RX1 52 RX1 yX1_fromOf wsX1_fromOf) := goodIn_app (goodIn_of _ (by decide +kernel)) ggX1_ribbonsBack_X1_fromOf
set_option maxRecDepth 20000 in
theorem ggX1_ribbonsBack_X1_toOf : GoodIn wsX1_ribbonsBack wsX1_toOf := goodIn_r _ [11, 12, 17, 18, 19, 20, 21, 22] (by decide +kernel) (by decide +kernel)
set_option maxRecDepth 20000 in
theorem gX1_ribbonsBack_X1_toOf : GoodIn wsX1_ribbonsBack (wsV RX1 58 RX1 yX1_toOf wsX1_toOf) := goodIn_app (goodIn_of _ (by decide +kernel)) ggX1_ribbonsBack_X1_toOf
set_option maxRecDepth 20000 in
theorem ggX1_ribbonsBack_X1_goesOn : GoodIn wsX1_ribbonsBack wsX1_goesOn := goodIn_r _ [16, 12, 7, 17, 18, 19, 20, 21, 22] (by decide +kernel) (by decide +kernel)
set_option maxRecDepth 20000 in
theorem gX1_ribbonsBack_X1_goesOn : GoodIn wsX1_ribbonsBack (wsV RX1 81 RX1 yX1_goesOn wsX1_goesOn) := goodIn_app (goodIn_of _ (by decide +kernel)) ggX1_ribbonsBack_X1_goesOn
theorem dX1_ribbonsBack_0 : decode cX1_ribbonsBack 0 = .ok (.iconst 0, 1) := by decide +kernel
theorem dX1_ribbonsBack_1 : decode cX1_ribbonsBack 1 = .ok (.istore_n 2, 1) := by decide +kernel
theorem dX1_ribbonsBack_2 : decode cX1_ribbonsBack 2 = .ok (.iconst 0, 1) := by decide +kernel
theorem dX1_ribbonsBack_3 : decode cX1_ribbonsBack 3 = .ok (.istore_n 3, 1) := by decide +kernel
theorem dX1_ribbonsBack_4 : decode cX1_ribbonsBack 4 = .ok (.iload_n 3, 1) := by decide +kernel
theorem dX1_ribbonsBack_5 : decode cX1_ribbonsBack 5 = .ok (.aload_n 0, 1) := by decide +kernel
theorem dX1_ribbonsBack_6 : decode cX1_ribbonsBack 6 = .ok (.getfield 30, 3) := by decide +kernel
theorem dX1_ribbonsBack_9 : decode cX1_ribbonsBack 9 = .ok (.if_icmp .ge 50, 3) := by decide +kernel
theorem dX1_ribbonsBack_12 : decode cX1_ribbonsBack 12 = .ok (.aload_n 0, 1) := by decide +kernel
theorem dX1_ribbonsBack_13 : decode cX1_ribbonsBack 13 = .ok (.iload_n 3, 1) := by decide +kernel
theorem dX1_ribbonsBack_14 : decode cX1_ribbonsBack 14 = .ok (.invokevirtual 52, 3) := by decide +kernel
theorem dX1_ribbonsBack_17 : decode cX1_ribbonsBack 17 = .ok (.iload_n 1, 1) := by decide +kernel
theorem dX1_ribbonsBack_18 : decode cX1_ribbonsBack 18 = .ok (.if_icmp .eq 12, 3) := by decide +kernel
theorem dX1_ribbonsBack_21 : decode cX1_ribbonsBack 21 = .ok (.aload_n 0, 1) := by decide +kernel
theorem dX1_ribbonsBack_22 : decode cX1_ribbonsBack 22 = .ok (.iload_n 3, 1) := by decide +kernel
theorem dX1_ribbonsBack_23 : decode cX1_ribbonsBack 23 = .ok (.invokevirtual 58, 3) := by decide +kernel
theorem dX1_ribbonsBack_26 : decode cX1_ribbonsBack 26 = .ok (.iload_n 1, 1) := by decide +kernel
theorem dX1_ribbonsBack_27 : decode cX1_ribbonsBack 27 = .ok (.if_icmp .ne 7, 3) := by decide +kernel
theorem dX1_ribbonsBack_30 : decode cX1_ribbonsBack 30 = .ok (.iconst 1, 1) := by decide +kernel
theorem dX1_ribbonsBack_31 : decode cX1_ribbonsBack 31 = .ok (.goto 4, 3) := by decide +kernel
theorem dX1_ribbonsBack_34 : decode cX1_ribbonsBack 34 = .ok (.iconst 0, 1) := by decide +kernel
theorem dX1_ribbonsBack_35 : decode cX1_ribbonsBack 35 = .ok (.istore 4, 2) := by decide +kernel
theorem dX1_ribbonsBack_37 : decode cX1_ribbonsBack 37 = .ok (.iload 4, 2) := by decide +kernel
theorem dX1_ribbonsBack_39 : decode cX1_ribbonsBack 39 = .ok (.ifCond .eq 14, 3) := by decide +kernel
theorem dX1_ribbonsBack_42 : decode cX1_ribbonsBack 42 = .ok (.aload_n 0, 1) := by decide +kernel
theorem dX1_ribbonsBack_43 : decode cX1_ribbonsBack 43 = .ok (.iload_n 3, 1) := by decide +kernel
theorem dX1_ribbonsBack_44 : decode cX1_ribbonsBack 44 = .ok (.invokevirtual 81, 3) := by decide +kernel
theorem dX1_ribbonsBack_47 : decode cX1_ribbonsBack 47 = .ok (.ifCond .ne 6, 3) := by decide +kernel
theorem dX1_ribbonsBack_50 : decode cX1_ribbonsBack 50 = .ok (.iinc 2 1, 3) := by decide +kernel
theorem dX1_ribbonsBack_53 : decode cX1_ribbonsBack 53 = .ok (.iinc 3 1, 3) := by decide +kernel
theorem dX1_ribbonsBack_56 : decode cX1_ribbonsBack 56 = .ok (.goto (-52), 3) := by decide +kernel
theorem dX1_ribbonsBack_59 : decode cX1_ribbonsBack 59 = .ok (.iload_n 2, 1) := by decide +kernel
theorem dX1_ribbonsBack_60 : decode cX1_ribbonsBack 60 = .ok (.ireturn, 1) := by decide +kernel
set_option maxRecDepth 20000 in
theorem ggX1_surplusOf_X1_comesIn : GoodIn wsX1_surplusOf wsX1_comesIn := goodIn_r _ [5, 6, 7, 8, 9, 4, 10, 11, 12, 13, 14, 15, 16, 17, 18, 19, 20, 21, 30, 31, 32, 33, 34, 35] (by decide +kernel) (by decide +kernel)
set_option maxRecDepth 20000 in
theorem gX1_surplusOf_X1_comesIn : GoodIn wsX1_surplusOf (wsV RX1 84 RX1 yX1_comesIn wsX1_comesIn) := goodIn_app (goodIn_of _ (by decide +kernel)) ggX1_surplusOf_X1_comesIn
set_option maxRecDepth 20000 in
theorem ggX1_surplusOf_X1_leaves : GoodIn wsX1_surplusOf wsX1_leaves := goodIn_r _ [25, 6, 26, 27, 28, 4, 29, 16, 12, 13, 14, 15, 11, 17, 18, 19, 20, 21, 30, 31, 32, 33, 34, 35] (by decide +kernel) (by decide +kernel)
set_option maxRecDepth 20000 in
theorem gX1_surplusOf_X1_leaves : GoodIn wsX1_surplusOf (wsV RX1 87 RX1 yX1_leaves wsX1_leaves) := goodIn_app (goodIn_of _ (by decide +kernel)) ggX1_surplusOf_X1_leaves
theorem dX1_surplusOf_0 : decode cX1_surplusOf 0 = .ok (.aload_n 0, 1) := by decide +kernel
theorem dX1_surplusOf_1 : decode cX1_surplusOf 1 = .ok (.iload_n 1, 1) := by decide +kernel
theorem dX1_surplusOf_2 : decode cX1_surplusOf 2 = .ok (.invokevirtual 84, 3) := by decide +kernel
theorem dX1_surplusOf_5 : decode cX1_surplusOf 5 = .ok (.aload_n 0, 1) := by decide +kernel
theorem dX1_surplusOf_6 : decode cX1_surplusOf 6 = .ok (.iload_n 1, 1) := by decide +kernel
theorem dX1_surplusOf_7 : decode cX1_surplusOf 7 = .ok (.invokevirtual 87, 3) := by decide +kernel
theorem dX1_surplusOf_10 : decode cX1_surplusOf 10 = .ok (.isub, 1) := by decide +kernel
theorem dX1_surplusOf_11 : decode cX1_surplusOf 11 = .ok (.ireturn, 1) := by decide +kernel
set_option maxRecDepth 20000 in
theorem ggX1_unevenPosts_X1_surplusOf : GoodIn wsX1_unevenPosts wsX1_surplusOf := goodIn_r _ [5, 6, 7, 8, 4, 9, 10, 11, 12, 13, 14, 15, 16, 17, 18, 19, 20, 21, 22, 23, 24, 25, 26, 27, 28, 29, 30, 31, 32, 33, 34, 35, 36, 37, 38, 39] (by decide +kernel) (by decide +kernel)
set_option maxRecDepth 20000 in
theorem gX1_unevenPosts_X1_surplusOf : GoodIn wsX1_unevenPosts (wsV RX1 90 RX1 yX1_surplusOf wsX1_surplusOf) := goodIn_app (goodIn_of _ (by decide +kernel)) ggX1_unevenPosts_X1_surplusOf
theorem dX1_unevenPosts_0 : decode cX1_unevenPosts 0 = .ok (.iconst 0, 1) := by decide +kernel
theorem dX1_unevenPosts_1 : decode cX1_unevenPosts 1 = .ok (.istore_n 1, 1) := by decide +kernel
theorem dX1_unevenPosts_2 : decode cX1_unevenPosts 2 = .ok (.iconst 4, 1) := by decide +kernel
theorem dX1_unevenPosts_3 : decode cX1_unevenPosts 3 = .ok (.istore_n 2, 1) := by decide +kernel
theorem dX1_unevenPosts_4 : decode cX1_unevenPosts 4 = .ok (.iload_n 2, 1) := by decide +kernel
theorem dX1_unevenPosts_5 : decode cX1_unevenPosts 5 = .ok (.bipush 12, 2) := by decide +kernel
theorem dX1_unevenPosts_7 : decode cX1_unevenPosts 7 = .ok (.if_icmp .ge 20, 3) := by decide +kernel
theorem dX1_unevenPosts_10 : decode cX1_unevenPosts 10 = .ok (.aload_n 0, 1) := by decide +kernel
theorem dX1_unevenPosts_11 : decode cX1_unevenPosts 11 = .ok (.iload_n 2, 1) := by decide +kernel
theorem dX1_unevenPosts_12 : decode cX1_unevenPosts 12 = .ok (.invokevirtual 90, 3) := by decide +kernel
theorem dX1_unevenPosts_15 : decode cX1_unevenPosts 15 = .ok (.ifCond .eq 6, 3) := by decide +kernel
theorem dX1_unevenPosts_18 : decode cX1_unevenPosts 18 = .ok (.iinc 1 1, 3) := by decide +kernel
theorem dX1_unevenPosts_21 : decode cX1_unevenPosts 21 = .ok (.iinc 2 1, 3) := by decide +kernel
theorem dX1_unevenPosts_24 : decode cX1_unevenPosts 24 = .ok (.goto (-20), 3) := by decide +kernel
theorem dX1_unevenPosts_27 : decode cX1_unevenPosts 27 = .ok (.iload_n 1, 1) := by decide +kernel
theorem dX1_unevenPosts_28 : decode cX1_unevenPosts 28 = .ok (.ireturn, 1) := by decide +kernel
set_option maxRecDepth 20000 in
theorem ggX1_trimPost_X1_surplusOf : GoodIn wsX1_trimPost wsX1_surplusOf := goodIn_r _ [10, 11, 12, 13, 9, 14, 15, 16, 17, 18, 19, 20, 21, 22, 23, 24, 25, 26, 27, 28, 29, 30, 31, 32, 33, 34, 35, 36, 37, 38, 51, 52, 53, 54, 55, 56] (by decide +kernel) (by decide +kernel)
set_option maxRecDepth 20000 in
theorem gX1_trimPost_X1_surplusOf : GoodIn wsX1_trimPost (wsV RX1 90 RX1 yX1_surplusOf wsX1_surplusOf) := goodIn_app (goodIn_of _ (by decide +kernel)) ggX1_trimPost_X1_surplusOf
set_option maxRecDepth 20000 in
theorem ggX1_trimPost_X1_widestAt : GoodIn wsX1_trimPost wsX1_widestAt := goodIn_r _ [42, 15, 16, 17, 18, 9, 19, 20, 35, 36, 37, 38, 25, 26, 27, 28, 29, 30, 21, 22, 23, 24, 51, 52, 53, 54, 55, 56] (by decide +kernel) (by decide +kernel)
set_option maxRecDepth 20000 in
theorem gX1_trimPost_X1_widestAt : GoodIn wsX1_trimPost (wsV RX1 96 RX1 yX1_widestAt wsX1_widestAt) := goodIn_app (goodIn_of _ (by decide +kernel)) ggX1_trimPost_X1_widestAt
set_option maxRecDepth 20000 in
theorem ggX1_trimPost_X1_widthOf : GoodIn wsX1_trimPost wsX1_widthOf := goodIn_r _ [29, 30, 51, 52, 53, 54, 55, 56] (by decide +kernel) (by decide +kernel)
set_option maxRecDepth 20000 in
theorem gX1_trimPost_X1_widthOf : GoodIn wsX1_trimPost (wsV RX1 65 RX1 yX1_widthOf wsX1_widthOf) := goodIn_app (goodIn_of _ (by decide +kernel)) ggX1_trimPost_X1_widthOf
set_option maxRecDepth 20000 in
theorem ggX1_trimPost_X1_setWidth : GoodIn wsX1_trimPost wsX1_setWidth := goodIn_r _ [46, 30, 47, 48, 49, 9, 50, 15, 51, 52, 53, 54, 55, 56] (by decide +kernel) (by decide +kernel)
set_option maxRecDepth 20000 in
theorem gX1_trimPost_X1_setWidth : GoodIn wsX1_trimPost (wsV RX1 100 RX1 yX1_setWidth wsX1_setWidth) := goodIn_app (goodIn_of _ (by decide +kernel)) ggX1_trimPost_X1_setWidth
theorem dX1_trimPost_0 : decode cX1_trimPost 0 = .ok (.aload_n 0, 1) := by decide +kernel
theorem dX1_trimPost_1 : decode cX1_trimPost 1 = .ok (.iload_n 1, 1) := by decide +kernel
theorem dX1_trimPost_2 : decode cX1_trimPost 2 = .ok (.invokevirtual 90, 3) := by decide +kernel
theorem dX1_trimPost_5 : decode cX1_trimPost 5 = .ok (.istore_n 2, 1) := by decide +kernel
theorem dX1_trimPost_6 : decode cX1_trimPost 6 = .ok (.iload_n 2, 1) := by decide +kernel
theorem dX1_trimPost_7 : decode cX1_trimPost 7 = .ok (.invokestatic 93, 3) := by decide +kernel
theorem dX1_trimPost_10 : decode cX1_trimPost 10 = .ok (.istore_n 3, 1) := by decide +kernel
theorem dX1_trimPost_11 : decode cX1_trimPost 11 = .ok (.iconst 0, 1) := by decide +kernel
theorem dX1_trimPost_12 : decode cX1_trimPost 12 = .ok (.istore 4, 2) := by decide +kernel
theorem dX1_trimPost_14 : decode cX1_trimPost 14 = .ok (.iload 4, 2) := by decide +kernel
theorem dX1_trimPost_16 : decode cX1_trimPost 16 = .ok (.iload_n 3, 1) := by decide +kernel
theorem dX1_trimPost_17 : decode cX1_trimPost 17 = .ok (.if_icmp .ge 39, 3) := by decide +kernel
theorem dX1_trimPost_20 : decode cX1_trimPost 20 = .ok (.aload_n 0, 1) := by decide +kernel
theorem dX1_trimPost_21 : decode cX1_trimPost 21 = .ok (.iload_n 1, 1) := by decide +kernel
theorem dX1_trimPost_22 : decode cX1_trimPost 22 = .ok (.iload_n 2, 1) := by decide +kernel
theorem dX1_trimPost_23 : decode cX1_trimPost 23 = .ok (.ifCond .le 7, 3) := by decide +kernel
theorem dX1_trimPost_26 : decode cX1_trimPost 26 = .ok (.iconst 1, 1) := by decide +kernel
theorem dX1_trimPost_27 : decode cX1_trimPost 27 = .ok (.goto 4, 3) := by decide +kernel
theorem dX1_trimPost_30 : decode cX1_trimPost 30 = .ok (.iconst 0, 1) := by decide +kernel
theorem dX1_trimPost_31 : decode cX1_trimPost 31 = .ok (.invokevirtual 96, 3) := by decide +kernel
theorem dX1_trimPost_34 : decode cX1_trimPost 34 = .ok (.istore 5, 2) := by decide +kernel
theorem dX1_trimPost_36 : decode cX1_trimPost 36 = .ok (.aload_n 0, 1) := by decide +kernel
theorem dX1_trimPost_37 : decode cX1_trimPost 37 = .ok (.iload 5, 2) := by decide +kernel
theorem dX1_trimPost_39 : decode cX1_trimPost 39 = .ok (.aload_n 0, 1) := by decide +kernel
theorem dX1_trimPost_40 : decode cX1_trimPost 40 = .ok (.iload 5, 2) := by decide +kernel
theorem dX1_trimPost_42 : decode cX1_trimPost 42 = .ok (.invokevirtual 65, 3) := by decide +kernel
theorem dX1_trimPost_45 : decode cX1_trimPost 45 = .ok (.iconst 1, 1) := by decide +kernel
theorem dX1_trimPost_46 : decode cX1_trimPost 46 = .ok (.isub, 1) := by decide +kernel
theorem dX1_trimPost_47 : decode cX1_trimPost 47 = .ok (.invokevirtual 100, 3) := by decide +kernel
theorem dX1_trimPost_50 : decode cX1_trimPost 50 = .ok (.iinc 4 1, 3) := by decide +kernel
theorem dX1_trimPost_53 : decode cX1_trimPost 53 = .ok (.goto (-39), 3) := by decide +kernel
theorem dX1_trimPost_56 : decode cX1_trimPost 56 = .ok (.aload_n 0, 1) := by decide +kernel
theorem dX1_trimPost_57 : decode cX1_trimPost 57 = .ok (.dup, 1) := by decide +kernel
theorem dX1_trimPost_58 : decode cX1_trimPost 58 = .ok (.getfield 34, 3) := by decide +kernel
theorem dX1_trimPost_61 : decode cX1_trimPost 61 = .ok (.iload_n 3, 1) := by decide +kernel
theorem dX1_trimPost_62 : decode cX1_trimPost 62 = .ok (.iadd, 1) := by decide +kernel
theorem dX1_trimPost_63 : decode cX1_trimPost 63 = .ok (.putfield 34, 3) := by decide +kernel
theorem dX1_trimPost_66 : decode cX1_trimPost 66 = .ok (.iload_n 3, 1) := by decide +kernel
theorem dX1_trimPost_67 : decode cX1_trimPost 67 = .ok (.ireturn, 1) := by decide +kernel
set_option maxRecDepth 20000 in
theorem ggX1_widestAt_X1_toOf : GoodIn wsX1_widestAt wsX1_toOf := goodIn_r _ [6, 7, 22, 23, 24, 25, 26, 27] (by decide +kernel) (by decide +kernel)
set_option maxRecDepth 20000 in
theorem gX1_widestAt_X1_toOf : GoodIn wsX1_widestAt (wsV RX1 58 RX1 yX1_toOf wsX1_toOf) := goodIn_app (goodIn_of _ (by decide +kernel)) ggX1_widestAt_X1_toOf
set_option maxRecDepth 20000 in
theorem ggX1_widestAt_X1_fromOf : GoodIn wsX1_widestAt wsX1_fromOf := goodIn_r _ [11, 12, 22, 23, 24, 25, 26, 27] (by decide +kernel) (by decide +kernel)
set_option maxRecDepth 20000 in
theorem gX1_widestAt_X1_fromOf : GoodIn wsX1_widestAt (wsV RX1 52 RX1 yX1_fromOf wsX1_fromOf) := goodIn_app (goodIn_of _ (by decide +kernel)) ggX1_widestAt_X1_fromOf
set_option maxRecDepth 20000 in
theorem ggX1_widestAt_X1_widthOf : GoodIn wsX1_widestAt wsX1_widthOf := goodIn_r _ [16, 17, 22, 23, 24, 25, 26, 27] (by decide +kernel) (by decide +kernel)
set_option maxRecDepth 20000 in
theorem gX1_widestAt_X1_widthOf : GoodIn wsX1_widestAt (wsV RX1 65 RX1 yX1_widthOf wsX1_widthOf) := goodIn_app (goodIn_of _ (by decide +kernel)) ggX1_widestAt_X1_widthOf
set_option maxRecDepth 20000 in
theorem ggX1_widestAt_X1_goesOn : GoodIn wsX1_widestAt wsX1_goesOn := goodIn_r _ [21, 7, 12, 22, 23, 24, 25, 26, 27] (by decide +kernel) (by decide +kernel)
set_option maxRecDepth 20000 in
theorem gX1_widestAt_X1_goesOn : GoodIn wsX1_widestAt (wsV RX1 81 RX1 yX1_goesOn wsX1_goesOn) := goodIn_app (goodIn_of _ (by decide +kernel)) ggX1_widestAt_X1_goesOn
theorem dX1_widestAt_0 : decode cX1_widestAt 0 = .ok (.iconst (-1), 1) := by decide +kernel
theorem dX1_widestAt_1 : decode cX1_widestAt 1 = .ok (.istore_n 3, 1) := by decide +kernel
theorem dX1_widestAt_2 : decode cX1_widestAt 2 = .ok (.iconst 0, 1) := by decide +kernel
theorem dX1_widestAt_3 : decode cX1_widestAt 3 = .ok (.istore 4, 2) := by decide +kernel
theorem dX1_widestAt_5 : decode cX1_widestAt 5 = .ok (.iload 4, 2) := by decide +kernel
theorem dX1_widestAt_7 : decode cX1_widestAt 7 = .ok (.aload_n 0, 1) := by decide +kernel
theorem dX1_widestAt_8 : decode cX1_widestAt 8 = .ok (.getfield 30, 3) := by decide +kernel
theorem dX1_widestAt_11 : decode cX1_widestAt 11 = .ok (.if_icmp .ge 79, 3) := by decide +kernel
theorem dX1_widestAt_14 : decode cX1_widestAt 14 = .ok (.iload_n 2, 1) := by decide +kernel
theorem dX1_widestAt_15 : decode cX1_widestAt 15 = .ok (.ifCond .eq 12, 3) := by decide +kernel
theorem dX1_widestAt_18 : decode cX1_widestAt 18 = .ok (.aload_n 0, 1) := by decide +kernel
theorem dX1_widestAt_19 : decode cX1_widestAt 19 = .ok (.iload 4, 2) := by decide +kernel
theorem dX1_widestAt_21 : decode cX1_widestAt 21 = .ok (.invokevirtual 58, 3) := by decide +kernel
theorem dX1_widestAt_24 : decode cX1_widestAt 24 = .ok (.goto 9, 3) := by decide +kernel
theorem dX1_widestAt_27 : decode cX1_widestAt 27 = .ok (.aload_n 0, 1) := by decide +kernel
theorem dX1_widestAt_28 : decode cX1_widestAt 28 = .ok (.iload 4, 2) := by decide +kernel
theorem dX1_widestAt_30 : decode cX1_widestAt 30 = .ok (.invokevirtual 52, 3) := by decide +kernel
theorem dX1_widestAt_33 : decode cX1_widestAt 33 = .ok (.istore 5, 2) := by decide +kernel
theorem dX1_widestAt_35 : decode cX1_widestAt 35 = .ok (.iload_n 3, 1) := by decide +kernel
theorem dX1_widestAt_36 : decode cX1_widestAt 36 = .ok (.iconst (-1), 1) := by decide +kernel
theorem dX1_widestAt_37 : decode cX1_widestAt 37 = .ok (.if_icmp .eq 17, 3) := by decide +kernel
theorem dX1_widestAt_40 : decode cX1_widestAt 40 = .ok (.aload_n 0, 1) := by decide +kernel
theorem dX1_widestAt_41 : decode cX1_widestAt 41 = .ok (.iload 4, 2) := by decide +kernel
theorem dX1_widestAt_43 : decode cX1_widestAt 43 = .ok (.invokevirtual 65, 3) := by decide +kernel
theorem dX1_widestAt_46 : decode cX1_widestAt 46 = .ok (.aload_n 0, 1) := by decide +kernel
theorem dX1_widestAt_47 : decode cX1_widestAt 47 = .ok (.iload_n 3, 1) := by decide +kernel
theorem dX1_widestAt_48 : decode cX1_widestAt 48 = .ok (.invokevirtual 65, 3) := by decide +kernel
theorem dX1_widestAt_51 : decode cX1_widestAt 51 = .ok (.if_icmp .le 7, 3) := by decide +kernel
theorem dX1_widestAt_54 : decode cX1_widestAt 54 = .ok (.iconst 1, 1) := by decide +kernel
theorem dX1_widestAt_55 : decode cX1_widestAt 55 = .ok (.goto 4, 3) := by decide +kernel
theorem dX1_widestAt_58 : decode cX1_widestAt 58 = .ok (.iconst 0, 1) := by decide +kernel
theorem dX1_widestAt_59 : decode cX1_widestAt 59 = .ok (.istore 6, 2) := by decide +kernel
theorem dX1_widestAt_61 : decode cX1_widestAt 61 = .ok (.iload 5, 2) := by decide +kernel
theorem dX1_widestAt_63 : decode cX1_widestAt 63 = .ok (.iload_n 1, 1) := by decide +kernel
theorem dX1_widestAt_64 : decode cX1_widestAt 64 = .ok (.if_icmp .ne 20, 3) := by decide +kernel
theorem dX1_widestAt_67 : decode cX1_widestAt 67 = .ok (.iload 6, 2) := by decide +kernel
theorem dX1_widestAt_69 : decode cX1_widestAt 69 = .ok (.ifCond .eq 15, 3) := by decide +kernel
theorem dX1_widestAt_72 : decode cX1_widestAt 72 = .ok (.aload_n 0, 1) := by decide +kernel
theorem dX1_widestAt_73 : decode cX1_widestAt 73 = .ok (.iload 4, 2) := by decide +kernel
theorem dX1_widestAt_75 : decode cX1_widestAt 75 = .ok (.invokevirtual 81, 3) := by decide +kernel
theorem dX1_widestAt_78 : decode cX1_widestAt 78 = .ok (.ifCond .eq 6, 3) := by decide +kernel
theorem dX1_widestAt_81 : decode cX1_widestAt 81 = .ok (.iload 4, 2) := by decide +kernel
theorem dX1_widestAt_83 : decode cX1_widestAt 83 = .ok (.istore_n 3, 1) := by decide +kernel
theorem dX1_widestAt_84 : decode cX1_widestAt 84 = .ok (.iinc 4 1, 3) := by decide +kernel
theorem dX1_widestAt_87 : decode cX1_widestAt 87 = .ok (.goto (-82), 3) := by decide +kernel
theorem dX1_widestAt_90 : decode cX1_widestAt 90 = .ok (.iload_n 3, 1) := by decide +kernel
theorem dX1_widestAt_91 : decode cX1_widestAt 91 = .ok (.ireturn, 1) := by decide +kernel
set_option maxRecDepth 20000 in
theorem ggX1_trimAll_X1_trimPost : GoodIn wsX1_trimAll wsX1_trimPost := goodIn_r _ [6, 7, 8, 9, 10, 11, 12, 13, 14, 5, 15, 16, 17, 18, 19, 20, 21, 22, 23, 24, 25, 26, 27, 28, 29, 30, 31, 32, 33, 34, 35, 36, 37, 38, 39, 40, 41, 42, 43, 44, 45, 46, 47, 48, 49, 50, 51, 52, 53, 54, 55, 56, 57, 58, 59, 60, 61] (by decide +kernel) (by decide +kernel)
set_option maxRecDepth 20000 in
theorem gX1_trimAll_X1_trimPost : GoodIn wsX1_trimAll (wsV RX1 104 RX1 yX1_trimPost wsX1_trimPost) := goodIn_app (goodIn_of _ (by decide +kernel)) ggX1_trimAll_X1_trimPost
theorem dX1_trimAll_0 : decode cX1_trimAll 0 = .ok (.iconst 0, 1) := by decide +kernel
theorem dX1_trimAll_1 : decode cX1_trimAll 1 = .ok (.istore_n 1, 1) := by decide +kernel
theorem dX1_trimAll_2 : decode cX1_trimAll 2 = .ok (.iconst 0, 1) := by decide +kernel
theorem dX1_trimAll_3 : decode cX1_trimAll 3 = .ok (.istore_n 2, 1) := by decide +kernel
theorem dX1_trimAll_4 : decode cX1_trimAll 4 = .ok (.iload_n 2, 1) := by decide +kernel
theorem dX1_trimAll_5 : decode cX1_trimAll 5 = .ok (.ldc 103, 2) := by decide +kernel
theorem dX1_trimAll_7 : decode cX1_trimAll 7 = .ok (.if_icmp .ge 44, 3) := by decide +kernel
theorem dX1_trimAll_10 : decode cX1_trimAll 10 = .ok (.iload_n 1, 1) := by decide +kernel
theorem dX1_trimAll_11 : decode cX1_trimAll 11 = .ok (.istore_n 3, 1) := by decide +kernel
theorem dX1_trimAll_12 : decode cX1_trimAll 12 = .ok (.iconst 4, 1) := by decide +kernel
theorem dX1_trimAll_13 : decode cX1_trimAll 13 = .ok (.istore 4, 2) := by decide +kernel
theorem dX1_trimAll_15 : decode cX1_trimAll 15 = .ok (.iload 4, 2) := by decide +kernel
theorem dX1_trimAll_17 : decode cX1_trimAll 17 = .ok (.bipush 12, 2) := by decide +kernel
theorem dX1_trimAll_19 : decode cX1_trimAll 19 = .ok (.if_icmp .ge 18, 3) := by decide +kernel
theorem dX1_trimAll_22 : decode cX1_trimAll 22 = .ok (.iload_n 1, 1) := by decide +kernel
theorem dX1_trimAll_23 : decode cX1_trimAll 23 = .ok (.aload_n 0, 1) := by decide +kernel
theorem dX1_trimAll_24 : decode cX1_trimAll 24 = .ok (.iload 4, 2) := by decide +kernel
theorem dX1_trimAll_26 : decode cX1_trimAll 26 = .ok (.invokevirtual 104, 3) := by decide +kernel
theorem dX1_trimAll_29 : decode cX1_trimAll 29 = .ok (.iadd, 1) := by decide +kernel
theorem dX1_trimAll_30 : decode cX1_trimAll 30 = .ok (.istore_n 1, 1) := by decide +kernel
theorem dX1_trimAll_31 : decode cX1_trimAll 31 = .ok (.iinc 4 1, 3) := by decide +kernel
theorem dX1_trimAll_34 : decode cX1_trimAll 34 = .ok (.goto (-19), 3) := by decide +kernel
theorem dX1_trimAll_37 : decode cX1_trimAll 37 = .ok (.iload_n 1, 1) := by decide +kernel
theorem dX1_trimAll_38 : decode cX1_trimAll 38 = .ok (.iload_n 3, 1) := by decide +kernel
theorem dX1_trimAll_39 : decode cX1_trimAll 39 = .ok (.if_icmp .ne 6, 3) := by decide +kernel
theorem dX1_trimAll_42 : decode cX1_trimAll 42 = .ok (.goto 9, 3) := by decide +kernel
theorem dX1_trimAll_45 : decode cX1_trimAll 45 = .ok (.iinc 2 1, 3) := by decide +kernel
theorem dX1_trimAll_48 : decode cX1_trimAll 48 = .ok (.goto (-44), 3) := by decide +kernel
theorem dX1_trimAll_51 : decode cX1_trimAll 51 = .ok (.iload_n 1, 1) := by decide +kernel
theorem dX1_trimAll_52 : decode cX1_trimAll 52 = .ok (.ireturn, 1) := by decide +kernel
theorem dX2_init_0 : decode cX2_init 0 = .ok (.aload_n 0, 1) := by decide +kernel
theorem dX2_init_1 : decode cX2_init 1 = .ok (.invokespecial 3, 3) := by decide +kernel
theorem dX2_init_4 : decode cX2_init 4 = .ok (.aload_n 0, 1) := by decide +kernel
theorem dX2_init_5 : decode cX2_init 5 = .ok (.iconst 4, 1) := by decide +kernel
theorem dX2_init_6 : decode cX2_init 6 = .ok (.newarray .int, 2) := by decide +kernel
theorem dX2_init_8 : decode cX2_init 8 = .ok (.putfield 9, 3) := by decide +kernel
theorem dX2_init_11 : decode cX2_init 11 = .ok (.aload_n 0, 1) := by decide +kernel
theorem dX2_init_12 : decode cX2_init 12 = .ok (.iconst 4, 1) := by decide +kernel
theorem dX2_init_13 : decode cX2_init 13 = .ok (.newarray .int, 2) := by decide +kernel
theorem dX2_init_15 : decode cX2_init 15 = .ok (.putfield 15, 3) := by decide +kernel
theorem dX2_init_18 : decode cX2_init 18 = .ok (.aload_n 0, 1) := by decide +kernel
theorem dX2_init_19 : decode cX2_init 19 = .ok (.iconst 4, 1) := by decide +kernel
theorem dX2_init_20 : decode cX2_init 20 = .ok (.newarray .int, 2) := by decide +kernel
theorem dX2_init_22 : decode cX2_init 22 = .ok (.putfield 18, 3) := by decide +kernel
theorem dX2_init_25 : decode cX2_init 25 = .ok (.aload_n 0, 1) := by decide +kernel
theorem dX2_init_26 : decode cX2_init 26 = .ok (.iconst 4, 1) := by decide +kernel
theorem dX2_init_27 : decode cX2_init 27 = .ok (.newarray .int, 2) := by decide +kernel
theorem dX2_init_29 : decode cX2_init 29 = .ok (.putfield 21, 3) := by decide +kernel
theorem dX2_init_32 : decode cX2_init 32 = .ok (.aload_n 0, 1) := by decide +kernel
theorem dX2_init_33 : decode cX2_init 33 = .ok (.bipush 16, 2) := by decide +kernel
theorem dX2_init_35 : decode cX2_init 35 = .ok (.newarray .int, 2) := by decide +kernel
theorem dX2_init_37 : decode cX2_init 37 = .ok (.putfield 24, 3) := by decide +kernel
theorem dX2_init_40 : decode cX2_init 40 = .ok (.return_, 1) := by decide +kernel
set_option maxRecDepth 20000 in
theorem ggX2_sweepColumns_X2_findMeans : GoodIn wsX2_sweepColumns wsX2_findMeans := goodIn_r _ [6, 7, 8, 9, 10, 11, 12, 13, 14, 15, 16, 17, 18, 19, 20, 5, 21, 22, 23, 24, 25, 26, 27, 28, 29, 30, 31, 32, 33, 34, 35, 60, 61, 62, 63, 64, 65, 66, 67, 68, 69, 70] (by decide +kernel) (by decide +kernel)
set_option maxRecDepth 20000 in
theorem gX2_sweepColumns_X2_findMeans : GoodIn wsX2_sweepColumns (wsV RX2 27 RX2 yX2_findMeans wsX2_findMeans) := goodIn_app (goodIn_of _ (by decide +kernel)) ggX2_sweepColumns_X2_findMeans
set_option maxRecDepth 20000 in
theorem ggX2_sweepColumns_X2_readRow : GoodIn wsX2_sweepColumns wsX2_readRow := goodIn_r _ [39, 1, 40, 41, 42, 16, 43, 44, 32, 33, 34, 35, 60, 61, 62, 63, 64, 65, 66, 67, 68, 69, 70] (by decide +kernel) (by decide +kernel)
set_option maxRecDepth 20000 in
theorem gX2_sweepColumns_X2_readRow : GoodIn wsX2_sweepColumns (wsV RX2 31 RX2 yX2_readRow wsX2_readRow) := goodIn_app (goodIn_of _ (by decide +kernel)) ggX2_sweepColumns_X2_readRow
set_option maxRecDepth 20000 in
theorem ggX2_sweepColumns_X2_sortRow : GoodIn wsX2_sweepColumns wsX2_sortRow := goodIn_r _ [48, 1, 49, 50, 51, 5, 52, 7, 8, 19, 20, 21, 60, 61, 62, 63, 64] (by decide +kernel) (by decide +kernel)
set_option maxRecDepth 20000 in
theorem gX2_sweepColumns_X2_sortRow : GoodIn wsX2_sweepColumns (wsV RX2 34 RX2 yX2_sortRow wsX2_sortRow) := goodIn_app (goodIn_of _ (by decide +kernel)) ggX2_sweepColumns_X2_sortRow
set_option maxRecDepth 20000 in
theorem ggX2_sweepColumns_X1_setPlace : GoodIn wsX2_sweepColumns wsX1_setPlace := goodIn_r _ [56, 35, 57, 58, 59, 65, 66, 67, 68, 69, 70] (by decide +kernel) (by decide +kernel)
set_option maxRecDepth 20000 in
theorem gX2_sweepColumns_X1_setPlace : GoodIn wsX2_sweepColumns (wsV RX2 37 RX1 yX1_setPlace wsX1_setPlace) := goodIn_app (goodIn_of _ (by decide +kernel)) ggX2_sweepColumns_X1_setPlace
theorem dX2_sweepColumns_0 : decode cX2_sweepColumns 0 = .ok (.iconst 1, 1) := by decide +kernel
theorem dX2_sweepColumns_1 : decode cX2_sweepColumns 1 = .ok (.istore_n 2, 1) := by decide +kernel
theorem dX2_sweepColumns_2 : decode cX2_sweepColumns 2 = .ok (.iload_n 2, 1) := by decide +kernel
theorem dX2_sweepColumns_3 : decode cX2_sweepColumns 3 = .ok (.iconst 4, 1) := by decide +kernel
theorem dX2_sweepColumns_4 : decode cX2_sweepColumns 4 = .ok (.if_icmp .ge 53, 3) := by decide +kernel
theorem dX2_sweepColumns_7 : decode cX2_sweepColumns 7 = .ok (.aload_n 0, 1) := by decide +kernel
theorem dX2_sweepColumns_8 : decode cX2_sweepColumns 8 = .ok (.aload_n 1, 1) := by decide +kernel
theorem dX2_sweepColumns_9 : decode cX2_sweepColumns 9 = .ok (.iload_n 2, 1) := by decide +kernel
theorem dX2_sweepColumns_10 : decode cX2_sweepColumns 10 = .ok (.invokevirtual 27, 3) := by decide +kernel
theorem dX2_sweepColumns_13 : decode cX2_sweepColumns 13 = .ok (.aload_n 0, 1) := by decide +kernel
theorem dX2_sweepColumns_14 : decode cX2_sweepColumns 14 = .ok (.aload_n 1, 1) := by decide +kernel
theorem dX2_sweepColumns_15 : decode cX2_sweepColumns 15 = .ok (.iload_n 2, 1) := by decide +kernel
theorem dX2_sweepColumns_16 : decode cX2_sweepColumns 16 = .ok (.invokevirtual 31, 3) := by decide +kernel
theorem dX2_sweepColumns_19 : decode cX2_sweepColumns 19 = .ok (.aload_n 0, 1) := by decide +kernel
theorem dX2_sweepColumns_20 : decode cX2_sweepColumns 20 = .ok (.invokevirtual 34, 3) := by decide +kernel
theorem dX2_sweepColumns_23 : decode cX2_sweepColumns 23 = .ok (.iconst 0, 1) := by decide +kernel
theorem dX2_sweepColumns_24 : decode cX2_sweepColumns 24 = .ok (.istore_n 3, 1) := by decide +kernel
theorem dX2_sweepColumns_25 : decode cX2_sweepColumns 25 = .ok (.iload_n 3, 1) := by decide +kernel
theorem dX2_sweepColumns_26 : decode cX2_sweepColumns 26 = .ok (.iconst 4, 1) := by decide +kernel
theorem dX2_sweepColumns_27 : decode cX2_sweepColumns 27 = .ok (.if_icmp .ge 24, 3) := by decide +kernel
theorem dX2_sweepColumns_30 : decode cX2_sweepColumns 30 = .ok (.aload_n 1, 1) := by decide +kernel
theorem dX2_sweepColumns_31 : decode cX2_sweepColumns 31 = .ok (.iload_n 2, 1) := by decide +kernel
theorem dX2_sweepColumns_32 : decode cX2_sweepColumns 32 = .ok (.iconst 4, 1) := by decide +kernel
theorem dX2_sweepColumns_33 : decode cX2_sweepColumns 33 = .ok (.imul, 1) := by decide +kernel
theorem dX2_sweepColumns_34 : decode cX2_sweepColumns 34 = .ok (.aload_n 0, 1) := by decide +kernel
theorem dX2_sweepColumns_35 : decode cX2_sweepColumns 35 = .ok (.getfield 18, 3) := by decide +kernel
theorem dX2_sweepColumns_38 : decode cX2_sweepColumns 38 = .ok (.iload_n 3, 1) := by decide +kernel
theorem dX2_sweepColumns_39 : decode cX2_sweepColumns 39 = .ok (.iaload, 1) := by decide +kernel
theorem dX2_sweepColumns_40 : decode cX2_sweepColumns 40 = .ok (.iadd, 1) := by decide +kernel
theorem dX2_sweepColumns_41 : decode cX2_sweepColumns 41 = .ok (.iload_n 3, 1) := by decide +kernel
theorem dX2_sweepColumns_42 : decode cX2_sweepColumns 42 = .ok (.invokevirtual 37, 3) := by decide +kernel
theorem dX2_sweepColumns_45 : decode cX2_sweepColumns 45 = .ok (.iinc 3 1, 3) := by decide +kernel
theorem dX2_sweepColumns_48 : decode cX2_sweepColumns 48 = .ok (.goto (-23), 3) := by decide +kernel
theorem dX2_sweepColumns_51 : decode cX2_sweepColumns 51 = .ok (.iinc 2 1, 3) := by decide +kernel
theorem dX2_sweepColumns_54 : decode cX2_sweepColumns 54 = .ok (.goto (-52), 3) := by decide +kernel
theorem dX2_sweepColumns_57 : decode cX2_sweepColumns 57 = .ok (.return_, 1) := by decide +kernel
set_option maxRecDepth 20000 in
theorem ggX2_findMeans_J7_fill_53178 : GoodIn wsX2_findMeans wsJ7_fill_53178 := goodIn_r _ [6] (by decide +kernel) (by decide +kernel)
set_option maxRecDepth 20000 in
theorem gX2_findMeans_J7_fill_53178 : GoodIn wsX2_findMeans (va_wsS RX2 43 yJ7_fill_53178 wsJ7_fill_53178) := goodIn_app (goodIn_of _ (by decide +kernel)) ggX2_findMeans_J7_fill_53178
set_option maxRecDepth 20000 in
theorem ggX2_findMeans_X1_toOf : GoodIn wsX2_findMeans wsX1_toOf := goodIn_r _ [11, 12, 36, 37, 38, 39, 40, 41] (by decide +kernel) (by decide +kernel)
set_option maxRecDepth 20000 in
theorem gX2_findMeans_X1_toOf : GoodIn wsX2_findMeans (wsV RX2 53 RX1 yX1_toOf wsX1_toOf) := goodIn_app (goodIn_of _ (by decide +kernel)) ggX2_findMeans_X1_toOf
set_option maxRecDepth 20000 in
theorem ggX2_findMeans_X2_isNumber : GoodIn wsX2_findMeans wsX2_isNumber := goodIn_r _ [16] (by decide +kernel) (by decide +kernel)
set_option maxRecDepth 20000 in
theorem gX2_findMeans_X2_isNumber : GoodIn wsX2_findMeans (va_wsS RX2 57 yX2_isNumber wsX2_isNumber) := goodIn_app (goodIn_of _ (by decide +kernel)) ggX2_findMeans_X2_isNumber
set_option maxRecDepth 20000 in
theorem ggX2_findMeans_X1_goesOn : GoodIn wsX2_findMeans wsX1_goesOn := goodIn_r _ [20, 12, 21, 36, 37, 38, 39, 40, 41] (by decide +kernel) (by decide +kernel)
set_option maxRecDepth 20000 in
theorem gX2_findMeans_X1_goesOn : GoodIn wsX2_findMeans (wsV RX2 61 RX1 yX1_goesOn wsX1_goesOn) := goodIn_app (goodIn_of _ (by decide +kernel)) ggX2_findMeans_X1_goesOn
set_option maxRecDepth 20000 in
theorem ggX2_findMeans_X1_fromOf : GoodIn wsX2_findMeans wsX1_fromOf := goodIn_r _ [25, 21, 36, 37, 38, 39, 40, 41] (by decide +kernel) (by decide +kernel)
set_option maxRecDepth 20000 in
theorem gX2_findMeans_X1_fromOf : GoodIn wsX2_findMeans (wsV RX2 64 RX1 yX1_fromOf wsX1_fromOf) := goodIn_app (goodIn_of _ (by decide +kernel)) ggX2_findMeans_X1_fromOf
set_option maxRecDepth 20000 in
theorem ggX2_findMeans_X1_placeOf : GoodIn wsX2_findMeans wsX1_placeOf := goodIn_r _ [29, 30, 36, 37, 38, 39, 40, 41] (by decide +kernel) (by decide +kernel)
set_option maxRecDepth 20000 in
theorem gX2_findMeans_X1_placeOf : GoodIn wsX2_findMeans (wsV RX2 67 RX1 yX1_placeOf wsX1_placeOf) := goodIn_app (goodIn_of _ (by decide +kernel)) ggX2_findMeans_X1_placeOf
theorem dX2_findMeans_0 : decode cX2_findMeans 0 = .ok (.aload_n 0, 1) := by decide +kernel
theorem dX2_findMeans_1 : decode cX2_findMeans 1 = .ok (.getfield 9, 3) := by decide +kernel
theorem dX2_findMeans_4 : decode cX2_findMeans 4 = .ok (.iconst 0, 1) := by decide +kernel
theorem dX2_findMeans_5 : decode cX2_findMeans 5 = .ok (.invokestatic 43, 3) := by decide +kernel
theorem dX2_findMeans_8 : decode cX2_findMeans 8 = .ok (.aload_n 0, 1) := by decide +kernel
theorem dX2_findMeans_9 : decode cX2_findMeans 9 = .ok (.getfield 15, 3) := by decide +kernel
theorem dX2_findMeans_12 : decode cX2_findMeans 12 = .ok (.iconst 0, 1) := by decide +kernel
theorem dX2_findMeans_13 : decode cX2_findMeans 13 = .ok (.invokestatic 43, 3) := by decide +kernel
theorem dX2_findMeans_16 : decode cX2_findMeans 16 = .ok (.iconst 0, 1) := by decide +kernel
theorem dX2_findMeans_17 : decode cX2_findMeans 17 = .ok (.istore_n 3, 1) := by decide +kernel
theorem dX2_findMeans_18 : decode cX2_findMeans 18 = .ok (.iload_n 3, 1) := by decide +kernel
theorem dX2_findMeans_19 : decode cX2_findMeans 19 = .ok (.aload_n 1, 1) := by decide +kernel
theorem dX2_findMeans_20 : decode cX2_findMeans 20 = .ok (.getfield 49, 3) := by decide +kernel
theorem dX2_findMeans_23 : decode cX2_findMeans 23 = .ok (.if_icmp .ge 66, 3) := by decide +kernel
theorem dX2_findMeans_26 : decode cX2_findMeans 26 = .ok (.aload_n 1, 1) := by decide +kernel
theorem dX2_findMeans_27 : decode cX2_findMeans 27 = .ok (.iload_n 3, 1) := by decide +kernel
theorem dX2_findMeans_28 : decode cX2_findMeans 28 = .ok (.invokevirtual 53, 3) := by decide +kernel
theorem dX2_findMeans_31 : decode cX2_findMeans 31 = .ok (.iload_n 2, 1) := by decide +kernel
theorem dX2_findMeans_32 : decode cX2_findMeans 32 = .ok (.iconst 4, 1) := by decide +kernel
theorem dX2_findMeans_33 : decode cX2_findMeans 33 = .ok (.imul, 1) := by decide +kernel
theorem dX2_findMeans_34 : decode cX2_findMeans 34 = .ok (.isub, 1) := by decide +kernel
theorem dX2_findMeans_35 : decode cX2_findMeans 35 = .ok (.istore 4, 2) := by decide +kernel
theorem dX2_findMeans_37 : decode cX2_findMeans 37 = .ok (.iload 4, 2) := by decide +kernel
theorem dX2_findMeans_39 : decode cX2_findMeans 39 = .ok (.invokestatic 57, 3) := by decide +kernel
theorem dX2_findMeans_42 : decode cX2_findMeans 42 = .ok (.ifCond .eq 41, 3) := by decide +kernel
theorem dX2_findMeans_45 : decode cX2_findMeans 45 = .ok (.aload_n 1, 1) := by decide +kernel
theorem dX2_findMeans_46 : decode cX2_findMeans 46 = .ok (.iload_n 3, 1) := by decide +kernel
theorem dX2_findMeans_47 : decode cX2_findMeans 47 = .ok (.invokevirtual 61, 3) := by decide +kernel
theorem dX2_findMeans_50 : decode cX2_findMeans 50 = .ok (.ifCond .eq 33, 3) := by decide +kernel
theorem dX2_findMeans_53 : decode cX2_findMeans 53 = .ok (.aload_n 0, 1) := by decide +kernel
theorem dX2_findMeans_54 : decode cX2_findMeans 54 = .ok (.getfield 9, 3) := by decide +kernel
theorem dX2_findMeans_57 : decode cX2_findMeans 57 = .ok (.iload 4, 2) := by decide +kernel
theorem dX2_findMeans_59 : decode cX2_findMeans 59 = .ok (.dup2, 1) := by decide +kernel
theorem dX2_findMeans_60 : decode cX2_findMeans 60 = .ok (.iaload, 1) := by decide +kernel
theorem dX2_findMeans_61 : decode cX2_findMeans 61 = .ok (.aload_n 1, 1) := by decide +kernel
theorem dX2_findMeans_62 : decode cX2_findMeans 62 = .ok (.aload_n 1, 1) := by decide +kernel
theorem dX2_findMeans_63 : decode cX2_findMeans 63 = .ok (.iload_n 3, 1) := by decide +kernel
theorem dX2_findMeans_64 : decode cX2_findMeans 64 = .ok (.invokevirtual 64, 3) := by decide +kernel
theorem dX2_findMeans_67 : decode cX2_findMeans 67 = .ok (.invokevirtual 67, 3) := by decide +kernel
theorem dX2_findMeans_70 : decode cX2_findMeans 70 = .ok (.iadd, 1) := by decide +kernel
theorem dX2_findMeans_71 : decode cX2_findMeans 71 = .ok (.iastore, 1) := by decide +kernel
theorem dX2_findMeans_72 : decode cX2_findMeans 72 = .ok (.aload_n 0, 1) := by decide +kernel
theorem dX2_findMeans_73 : decode cX2_findMeans 73 = .ok (.getfield 15, 3) := by decide +kernel
theorem dX2_findMeans_76 : decode cX2_findMeans 76 = .ok (.iload 4, 2) := by decide +kernel
theorem dX2_findMeans_78 : decode cX2_findMeans 78 = .ok (.dup2, 1) := by decide +kernel
theorem dX2_findMeans_79 : decode cX2_findMeans 79 = .ok (.iaload, 1) := by decide +kernel
theorem dX2_findMeans_80 : decode cX2_findMeans 80 = .ok (.iconst 1, 1) := by decide +kernel
theorem dX2_findMeans_81 : decode cX2_findMeans 81 = .ok (.iadd, 1) := by decide +kernel
theorem dX2_findMeans_82 : decode cX2_findMeans 82 = .ok (.iastore, 1) := by decide +kernel
theorem dX2_findMeans_83 : decode cX2_findMeans 83 = .ok (.iinc 3 1, 3) := by decide +kernel
theorem dX2_findMeans_86 : decode cX2_findMeans 86 = .ok (.goto (-68), 3) := by decide +kernel
theorem dX2_findMeans_89 : decode cX2_findMeans 89 = .ok (.iconst 0, 1) := by decide +kernel
theorem dX2_findMeans_90 : decode cX2_findMeans 90 = .ok (.istore_n 3, 1) := by decide +kernel
theorem dX2_findMeans_91 : decode cX2_findMeans 91 = .ok (.iload_n 3, 1) := by decide +kernel
theorem dX2_findMeans_92 : decode cX2_findMeans 92 = .ok (.iconst 4, 1) := by decide +kernel
theorem dX2_findMeans_93 : decode cX2_findMeans 93 = .ok (.if_icmp .ge 40, 3) := by decide +kernel
theorem dX2_findMeans_96 : decode cX2_findMeans 96 = .ok (.aload_n 0, 1) := by decide +kernel
theorem dX2_findMeans_97 : decode cX2_findMeans 97 = .ok (.getfield 15, 3) := by decide +kernel
theorem dX2_findMeans_100 : decode cX2_findMeans 100 = .ok (.iload_n 3, 1) := by decide +kernel
theorem dX2_findMeans_101 : decode cX2_findMeans 101 = .ok (.iaload, 1) := by decide +kernel
theorem dX2_findMeans_102 : decode cX2_findMeans 102 = .ok (.ifCond .ne 25, 3) := by decide +kernel
theorem dX2_findMeans_105 : decode cX2_findMeans 105 = .ok (.aload_n 0, 1) := by decide +kernel
theorem dX2_findMeans_106 : decode cX2_findMeans 106 = .ok (.getfield 9, 3) := by decide +kernel
theorem dX2_findMeans_109 : decode cX2_findMeans 109 = .ok (.iload_n 3, 1) := by decide +kernel
theorem dX2_findMeans_110 : decode cX2_findMeans 110 = .ok (.aload_n 1, 1) := by decide +kernel
theorem dX2_findMeans_111 : decode cX2_findMeans 111 = .ok (.iload_n 2, 1) := by decide +kernel
theorem dX2_findMeans_112 : decode cX2_findMeans 112 = .ok (.iconst 4, 1) := by decide +kernel
theorem dX2_findMeans_113 : decode cX2_findMeans 113 = .ok (.imul, 1) := by decide +kernel
theorem dX2_findMeans_114 : decode cX2_findMeans 114 = .ok (.iload_n 3, 1) := by decide +kernel
theorem dX2_findMeans_115 : decode cX2_findMeans 115 = .ok (.iadd, 1) := by decide +kernel
theorem dX2_findMeans_116 : decode cX2_findMeans 116 = .ok (.invokevirtual 67, 3) := by decide +kernel
theorem dX2_findMeans_119 : decode cX2_findMeans 119 = .ok (.iastore, 1) := by decide +kernel
theorem dX2_findMeans_120 : decode cX2_findMeans 120 = .ok (.aload_n 0, 1) := by decide +kernel
theorem dX2_findMeans_121 : decode cX2_findMeans 121 = .ok (.getfield 15, 3) := by decide +kernel
theorem dX2_findMeans_124 : decode cX2_findMeans 124 = .ok (.iload_n 3, 1) := by decide +kernel
theorem dX2_findMeans_125 : decode cX2_findMeans 125 = .ok (.iconst 1, 1) := by decide +kernel
theorem dX2_findMeans_126 : decode cX2_findMeans 126 = .ok (.iastore, 1) := by decide +kernel
theorem dX2_findMeans_127 : decode cX2_findMeans 127 = .ok (.iinc 3 1, 3) := by decide +kernel
theorem dX2_findMeans_130 : decode cX2_findMeans 130 = .ok (.goto (-39), 3) := by decide +kernel
theorem dX2_findMeans_133 : decode cX2_findMeans 133 = .ok (.return_, 1) := by decide +kernel
set_option maxRecDepth 20000 in
theorem ggX2_readRow_X1_postAt : GoodIn wsX2_readRow wsX1_postAt := goodIn_r _ [6, 7, 8, 9, 5, 10, 11, 17, 18, 19, 20, 21, 22] (by decide +kernel) (by decide +kernel)
set_option maxRecDepth 20000 in
theorem gX2_readRow_X1_postAt : GoodIn wsX2_readRow (wsV RX2 70 RX1 yX1_postAt wsX1_postAt) := goodIn_app (goodIn_of _ (by decide +kernel)) ggX2_readRow_X1_postAt
theorem dX2_readRow_0 : decode cX2_readRow 0 = .ok (.iconst 0, 1) := by decide +kernel
theorem dX2_readRow_1 : decode cX2_readRow 1 = .ok (.istore_n 3, 1) := by decide +kernel
theorem dX2_readRow_2 : decode cX2_readRow 2 = .ok (.iload_n 3, 1) := by decide +kernel
theorem dX2_readRow_3 : decode cX2_readRow 3 = .ok (.iconst 4, 1) := by decide +kernel
theorem dX2_readRow_4 : decode cX2_readRow 4 = .ok (.if_icmp .ge 25, 3) := by decide +kernel
theorem dX2_readRow_7 : decode cX2_readRow 7 = .ok (.aload_n 0, 1) := by decide +kernel
theorem dX2_readRow_8 : decode cX2_readRow 8 = .ok (.getfield 18, 3) := by decide +kernel
theorem dX2_readRow_11 : decode cX2_readRow 11 = .ok (.iload_n 3, 1) := by decide +kernel
theorem dX2_readRow_12 : decode cX2_readRow 12 = .ok (.aload_n 1, 1) := by decide +kernel
theorem dX2_readRow_13 : decode cX2_readRow 13 = .ok (.iload_n 2, 1) := by decide +kernel
theorem dX2_readRow_14 : decode cX2_readRow 14 = .ok (.iload_n 3, 1) := by decide +kernel
theorem dX2_readRow_15 : decode cX2_readRow 15 = .ok (.invokevirtual 70, 3) := by decide +kernel
theorem dX2_readRow_18 : decode cX2_readRow 18 = .ok (.iload_n 2, 1) := by decide +kernel
theorem dX2_readRow_19 : decode cX2_readRow 19 = .ok (.iconst 4, 1) := by decide +kernel
theorem dX2_readRow_20 : decode cX2_readRow 20 = .ok (.imul, 1) := by decide +kernel
theorem dX2_readRow_21 : decode cX2_readRow 21 = .ok (.isub, 1) := by decide +kernel
theorem dX2_readRow_22 : decode cX2_readRow 22 = .ok (.iastore, 1) := by decide +kernel
theorem dX2_readRow_23 : decode cX2_readRow 23 = .ok (.iinc 3 1, 3) := by decide +kernel
theorem dX2_readRow_26 : decode cX2_readRow 26 = .ok (.goto (-24), 3) := by decide +kernel
theorem dX2_readRow_29 : decode cX2_readRow 29 = .ok (.return_, 1) := by decide +kernel
set_option maxRecDepth 20000 in
theorem ggX2_sortRow_X2_hasLessMean : GoodIn wsX2_sortRow wsX2_hasLessMean := goodIn_r _ [6, 7, 8, 9, 10, 5, 11, 12, 13, 14, 15, 16] (by decide +kernel) (by decide +kernel)
set_option maxRecDepth 20000 in
theorem gX2_sortRow_X2_hasLessMean : GoodIn wsX2_sortRow (wsV RX2 74 RX2 yX2_hasLessMean wsX2_hasLessMean) := goodIn_app (goodIn_of _ (by decide +kernel)) ggX2_sortRow_X2_hasLessMean
theorem dX2_sortRow_0 : decode cX2_sortRow 0 = .ok (.iconst 1, 1) := by decide +kernel
theorem dX2_sortRow_1 : decode cX2_sortRow 1 = .ok (.istore_n 1, 1) := by decide +kernel
theorem dX2_sortRow_2 : decode cX2_sortRow 2 = .ok (.iload_n 1, 1) := by decide +kernel
theorem dX2_sortRow_3 : decode cX2_sortRow 3 = .ok (.iconst 4, 1) := by decide +kernel
theorem dX2_sortRow_4 : decode cX2_sortRow 4 = .ok (.if_icmp .ge 65, 3) := by decide +kernel
theorem dX2_sortRow_7 : decode cX2_sortRow 7 = .ok (.aload_n 0, 1) := by decide +kernel
theorem dX2_sortRow_8 : decode cX2_sortRow 8 = .ok (.getfield 18, 3) := by decide +kernel
theorem dX2_sortRow_11 : decode cX2_sortRow 11 = .ok (.iload_n 1, 1) := by decide +kernel
theorem dX2_sortRow_12 : decode cX2_sortRow 12 = .ok (.iaload, 1) := by decide +kernel
theorem dX2_sortRow_13 : decode cX2_sortRow 13 = .ok (.istore_n 2, 1) := by decide +kernel
theorem dX2_sortRow_14 : decode cX2_sortRow 14 = .ok (.iload_n 1, 1) := by decide +kernel
theorem dX2_sortRow_15 : decode cX2_sortRow 15 = .ok (.istore_n 3, 1) := by decide +kernel
theorem dX2_sortRow_16 : decode cX2_sortRow 16 = .ok (.iload_n 3, 1) := by decide +kernel
theorem dX2_sortRow_17 : decode cX2_sortRow 17 = .ok (.ifCond .le 39, 3) := by decide +kernel
theorem dX2_sortRow_20 : decode cX2_sortRow 20 = .ok (.aload_n 0, 1) := by decide +kernel
theorem dX2_sortRow_21 : decode cX2_sortRow 21 = .ok (.iload_n 2, 1) := by decide +kernel
theorem dX2_sortRow_22 : decode cX2_sortRow 22 = .ok (.aload_n 0, 1) := by decide +kernel
theorem dX2_sortRow_23 : decode cX2_sortRow 23 = .ok (.getfield 18, 3) := by decide +kernel
theorem dX2_sortRow_26 : decode cX2_sortRow 26 = .ok (.iload_n 3, 1) := by decide +kernel
theorem dX2_sortRow_27 : decode cX2_sortRow 27 = .ok (.iconst 1, 1) := by decide +kernel
theorem dX2_sortRow_28 : decode cX2_sortRow 28 = .ok (.isub, 1) := by decide +kernel
theorem dX2_sortRow_29 : decode cX2_sortRow 29 = .ok (.iaload, 1) := by decide +kernel
theorem dX2_sortRow_30 : decode cX2_sortRow 30 = .ok (.invokevirtual 74, 3) := by decide +kernel
theorem dX2_sortRow_33 : decode cX2_sortRow 33 = .ok (.ifCond .eq 23, 3) := by decide +kernel
theorem dX2_sortRow_36 : decode cX2_sortRow 36 = .ok (.aload_n 0, 1) := by decide +kernel
theorem dX2_sortRow_37 : decode cX2_sortRow 37 = .ok (.getfield 18, 3) := by decide +kernel
theorem dX2_sortRow_40 : decode cX2_sortRow 40 = .ok (.iload_n 3, 1) := by decide +kernel
theorem dX2_sortRow_41 : decode cX2_sortRow 41 = .ok (.aload_n 0, 1) := by decide +kernel
theorem dX2_sortRow_42 : decode cX2_sortRow 42 = .ok (.getfield 18, 3) := by decide +kernel
theorem dX2_sortRow_45 : decode cX2_sortRow 45 = .ok (.iload_n 3, 1) := by decide +kernel
theorem dX2_sortRow_46 : decode cX2_sortRow 46 = .ok (.iconst 1, 1) := by decide +kernel
theorem dX2_sortRow_47 : decode cX2_sortRow 47 = .ok (.isub, 1) := by decide +kernel
theorem dX2_sortRow_48 : decode cX2_sortRow 48 = .ok (.iaload, 1) := by decide +kernel
theorem dX2_sortRow_49 : decode cX2_sortRow 49 = .ok (.iastore, 1) := by decide +kernel
theorem dX2_sortRow_50 : decode cX2_sortRow 50 = .ok (.iinc 3 (-1), 3) := by decide +kernel
theorem dX2_sortRow_53 : decode cX2_sortRow 53 = .ok (.goto (-37), 3) := by decide +kernel
theorem dX2_sortRow_56 : decode cX2_sortRow 56 = .ok (.aload_n 0, 1) := by decide +kernel
theorem dX2_sortRow_57 : decode cX2_sortRow 57 = .ok (.getfield 18, 3) := by decide +kernel
theorem dX2_sortRow_60 : decode cX2_sortRow 60 = .ok (.iload_n 3, 1) := by decide +kernel
theorem dX2_sortRow_61 : decode cX2_sortRow 61 = .ok (.iload_n 2, 1) := by decide +kernel
theorem dX2_sortRow_62 : decode cX2_sortRow 62 = .ok (.iastore, 1) := by decide +kernel
theorem dX2_sortRow_63 : decode cX2_sortRow 63 = .ok (.iinc 1 1, 3) := by decide +kernel
theorem dX2_sortRow_66 : decode cX2_sortRow 66 = .ok (.goto (-64), 3) := by decide +kernel
theorem dX2_sortRow_69 : decode cX2_sortRow 69 = .ok (.return_, 1) := by decide +kernel
set_option maxRecDepth 20000 in
theorem ggX2_hasLessMean_X2_isNumber : GoodIn wsX2_hasLessMean wsX2_isNumber := goodIn_r _ [6] (by decide +kernel) (by decide +kernel)
set_option maxRecDepth 20000 in
theorem gX2_hasLessMean_X2_isNumber : GoodIn wsX2_hasLessMean (va_wsS RX2 57 yX2_isNumber wsX2_isNumber) := goodIn_app (goodIn_of _ (by decide +kernel)) ggX2_hasLessMean_X2_isNumber
theorem dX2_hasLessMean_0 : decode cX2_hasLessMean 0 = .ok (.iload_n 1, 1) := by decide +kernel
theorem dX2_hasLessMean_1 : decode cX2_hasLessMean 1 = .ok (.invokestatic 57, 3) := by decide +kernel
theorem dX2_hasLessMean_4 : decode cX2_hasLessMean 4 = .ok (.ifCond .eq 43, 3) := by decide +kernel
theorem dX2_hasLessMean_7 : decode cX2_hasLessMean 7 = .ok (.iload_n 2, 1) := by decide +kernel
theorem dX2_hasLessMean_8 : decode cX2_hasLessMean 8 = .ok (.invokestatic 57, 3) := by decide +kernel
theorem dX2_hasLessMean_11 : decode cX2_hasLessMean 11 = .ok (.ifCond .eq 36, 3) := by decide +kernel
theorem dX2_hasLessMean_14 : decode cX2_hasLessMean 14 = .ok (.aload_n 0, 1) := by decide +kernel
theorem dX2_hasLessMean_15 : decode cX2_hasLessMean 15 = .ok (.getfield 9, 3) := by decide +kernel
theorem dX2_hasLessMean_18 : decode cX2_hasLessMean 18 = .ok (.iload_n 1, 1) := by decide +kernel
theorem dX2_hasLessMean_19 : decode cX2_hasLessMean 19 = .ok (.iaload, 1) := by decide +kernel
theorem dX2_hasLessMean_20 : decode cX2_hasLessMean 20 = .ok (.aload_n 0, 1) := by decide +kernel
theorem dX2_hasLessMean_21 : decode cX2_hasLessMean 21 = .ok (.getfield 15, 3) := by decide +kernel
theorem dX2_hasLessMean_24 : decode cX2_hasLessMean 24 = .ok (.iload_n 2, 1) := by decide +kernel
theorem dX2_hasLessMean_25 : decode cX2_hasLessMean 25 = .ok (.iaload, 1) := by decide +kernel
theorem dX2_hasLessMean_26 : decode cX2_hasLessMean 26 = .ok (.imul, 1) := by decide +kernel
theorem dX2_hasLessMean_27 : decode cX2_hasLessMean 27 = .ok (.aload_n 0, 1) := by decide +kernel
theorem dX2_hasLessMean_28 : decode cX2_hasLessMean 28 = .ok (.getfield 9, 3) := by decide +kernel
theorem dX2_hasLessMean_31 : decode cX2_hasLessMean 31 = .ok (.iload_n 2, 1) := by decide +kernel
theorem dX2_hasLessMean_32 : decode cX2_hasLessMean 32 = .ok (.iaload, 1) := by decide +kernel
theorem dX2_hasLessMean_33 : decode cX2_hasLessMean 33 = .ok (.aload_n 0, 1) := by decide +kernel
theorem dX2_hasLessMean_34 : decode cX2_hasLessMean 34 = .ok (.getfield 15, 3) := by decide +kernel
theorem dX2_hasLessMean_37 : decode cX2_hasLessMean 37 = .ok (.iload_n 1, 1) := by decide +kernel
theorem dX2_hasLessMean_38 : decode cX2_hasLessMean 38 = .ok (.iaload, 1) := by decide +kernel
theorem dX2_hasLessMean_39 : decode cX2_hasLessMean 39 = .ok (.imul, 1) := by decide +kernel
theorem dX2_hasLessMean_40 : decode cX2_hasLessMean 40 = .ok (.if_icmp .ge 7, 3) := by decide +kernel
theorem dX2_hasLessMean_43 : decode cX2_hasLessMean 43 = .ok (.iconst 1, 1) := by decide +kernel
theorem dX2_hasLessMean_44 : decode cX2_hasLessMean 44 = .ok (.goto 4, 3) := by decide +kernel
theorem dX2_hasLessMean_47 : decode cX2_hasLessMean 47 = .ok (.iconst 0, 1) := by decide +kernel
theorem dX2_hasLessMean_48 : decode cX2_hasLessMean 48 = .ok (.ireturn, 1) := by decide +kernel
theorem dX2_isNumber_0 : decode cX2_isNumber 0 = .ok (.iload_n 0, 1) := by decide +kernel
theorem dX2_isNumber_1 : decode cX2_isNumber 1 = .ok (.ifCond .lt 12, 3) := by decide +kernel
theorem dX2_isNumber_4 : decode cX2_isNumber 4 = .ok (.iload_n 0, 1) := by decide +kernel
theorem dX2_isNumber_5 : decode cX2_isNumber 5 = .ok (.iconst 4, 1) := by decide +kernel
theorem dX2_isNumber_6 : decode cX2_isNumber 6 = .ok (.if_icmp .ge 7, 3) := by decide +kernel
theorem dX2_isNumber_9 : decode cX2_isNumber 9 = .ok (.iconst 1, 1) := by decide +kernel
theorem dX2_isNumber_10 : decode cX2_isNumber 10 = .ok (.goto 4, 3) := by decide +kernel
theorem dX2_isNumber_13 : decode cX2_isNumber 13 = .ok (.iconst 0, 1) := by decide +kernel
theorem dX2_isNumber_14 : decode cX2_isNumber 14 = .ok (.ireturn, 1) := by decide +kernel
set_option maxRecDepth 20000 in
theorem ggX2_findBest_X2_findCosts : GoodIn wsX2_findBest wsX2_findCosts := goodIn_r _ [12, 13, 14, 15, 16, 17, 18, 19, 20, 11, 21, 22, 23, 24, 25, 26, 27, 28, 29, 30, 31, 32, 33, 34, 35, 36, 37, 38, 39, 40, 41, 42, 43, 44, 45, 46, 47, 48, 49, 50, 51, 52, 53, 54, 55, 56, 57, 58, 59, 60, 61, 62, 67, 68, 69, 70, 71, 72, 73, 74, 75, 76, 77] (by decide +kernel) (by decide +kernel)
set_option maxRecDepth 20000 in
theorem gX2_findBest_X2_findCosts : GoodIn wsX2_findBest (wsV RX2 78 RX2 yX2_findCosts wsX2_findCosts) := goodIn_app (goodIn_of _ (by decide +kernel)) ggX2_findBest_X2_findCosts
set_option maxRecDepth 20000 in
theorem ggX2_findBest_X2_costOfRow : GoodIn wsX2_findBest wsX2_costOfRow := goodIn_r _ [66, 2, 13, 1, 67, 68, 69, 70, 71] (by decide +kernel) (by decide +kernel)
set_option maxRecDepth 20000 in
theorem gX2_findBest_X2_costOfRow : GoodIn wsX2_findBest (wsV RX2 82 RX2 yX2_costOfRow wsX2_costOfRow) := goodIn_app (goodIn_of _ (by decide +kernel)) ggX2_findBest_X2_costOfRow
theorem dX2_findBest_0 : decode cX2_findBest 0 = .ok (.aload_n 0, 1) := by decide +kernel
theorem dX2_findBest_1 : decode cX2_findBest 1 = .ok (.aload_n 1, 1) := by decide +kernel
theorem dX2_findBest_2 : decode cX2_findBest 2 = .ok (.iload_n 2, 1) := by decide +kernel
theorem dX2_findBest_3 : decode cX2_findBest 3 = .ok (.invokevirtual 78, 3) := by decide +kernel
theorem dX2_findBest_6 : decode cX2_findBest 6 = .ok (.ldc 81, 2) := by decide +kernel
theorem dX2_findBest_8 : decode cX2_findBest 8 = .ok (.istore_n 3, 1) := by decide +kernel
theorem dX2_findBest_9 : decode cX2_findBest 9 = .ok (.iconst 0, 1) := by decide +kernel
theorem dX2_findBest_10 : decode cX2_findBest 10 = .ok (.istore 4, 2) := by decide +kernel
theorem dX2_findBest_12 : decode cX2_findBest 12 = .ok (.iload 4, 2) := by decide +kernel
theorem dX2_findBest_14 : decode cX2_findBest 14 = .ok (.sipush 256, 3) := by decide +kernel
theorem dX2_findBest_17 : decode cX2_findBest 17 = .ok (.if_icmp .ge 71, 3) := by decide +kernel
theorem dX2_findBest_20 : decode cX2_findBest 20 = .ok (.iconst 0, 1) := by decide +kernel
theorem dX2_findBest_21 : decode cX2_findBest 21 = .ok (.istore 5, 2) := by decide +kernel
theorem dX2_findBest_23 : decode cX2_findBest 23 = .ok (.iload 5, 2) := by decide +kernel
theorem dX2_findBest_25 : decode cX2_findBest 25 = .ok (.iconst 4, 1) := by decide +kernel
theorem dX2_findBest_26 : decode cX2_findBest 26 = .ok (.if_icmp .ge 27, 3) := by decide +kernel
theorem dX2_findBest_29 : decode cX2_findBest 29 = .ok (.aload_n 0, 1) := by decide +kernel
theorem dX2_findBest_30 : decode cX2_findBest 30 = .ok (.getfield 18, 3) := by decide +kernel
theorem dX2_findBest_33 : decode cX2_findBest 33 = .ok (.iload 5, 2) := by decide +kernel
theorem dX2_findBest_35 : decode cX2_findBest 35 = .ok (.iload 4, 2) := by decide +kernel
theorem dX2_findBest_37 : decode cX2_findBest 37 = .ok (.iconst 2, 1) := by decide +kernel
theorem dX2_findBest_38 : decode cX2_findBest 38 = .ok (.iconst 3, 1) := by decide +kernel
theorem dX2_findBest_39 : decode cX2_findBest 39 = .ok (.iload 5, 2) := by decide +kernel
theorem dX2_findBest_41 : decode cX2_findBest 41 = .ok (.isub, 1) := by decide +kernel
theorem dX2_findBest_42 : decode cX2_findBest 42 = .ok (.imul, 1) := by decide +kernel
theorem dX2_findBest_43 : decode cX2_findBest 43 = .ok (.ishr, 1) := by decide +kernel
theorem dX2_findBest_44 : decode cX2_findBest 44 = .ok (.iconst 3, 1) := by decide +kernel
theorem dX2_findBest_45 : decode cX2_findBest 45 = .ok (.iand, 1) := by decide +kernel
theorem dX2_findBest_46 : decode cX2_findBest 46 = .ok (.iastore, 1) := by decide +kernel
theorem dX2_findBest_47 : decode cX2_findBest 47 = .ok (.iinc 5 1, 3) := by decide +kernel
theorem dX2_findBest_50 : decode cX2_findBest 50 = .ok (.goto (-27), 3) := by decide +kernel
theorem dX2_findBest_53 : decode cX2_findBest 53 = .ok (.aload_n 0, 1) := by decide +kernel
theorem dX2_findBest_54 : decode cX2_findBest 54 = .ok (.invokevirtual 82, 3) := by decide +kernel
theorem dX2_findBest_57 : decode cX2_findBest 57 = .ok (.istore 5, 2) := by decide +kernel
theorem dX2_findBest_59 : decode cX2_findBest 59 = .ok (.iload 5, 2) := by decide +kernel
theorem dX2_findBest_61 : decode cX2_findBest 61 = .ok (.iload_n 3, 1) := by decide +kernel
theorem dX2_findBest_62 : decode cX2_findBest 62 = .ok (.if_icmp .ge 20, 3) := by decide +kernel
theorem dX2_findBest_65 : decode cX2_findBest 65 = .ok (.iload 5, 2) := by decide +kernel
theorem dX2_findBest_67 : decode cX2_findBest 67 = .ok (.istore_n 3, 1) := by decide +kernel
theorem dX2_findBest_68 : decode cX2_findBest 68 = .ok (.aload_n 0, 1) := by decide +kernel
theorem dX2_findBest_69 : decode cX2_findBest 69 = .ok (.getfield 18, 3) := by decide +kernel
theorem dX2_findBest_72 : decode cX2_findBest 72 = .ok (.iconst 0, 1) := by decide +kernel
theorem dX2_findBest_73 : decode cX2_findBest 73 = .ok (.aload_n 0, 1) := by decide +kernel
theorem dX2_findBest_74 : decode cX2_findBest 74 = .ok (.getfield 21, 3) := by decide +kernel
theorem dX2_findBest_77 : decode cX2_findBest 77 = .ok (.iconst 0, 1) := by decide +kernel
theorem dX2_findBest_78 : decode cX2_findBest 78 = .ok (.iconst 4, 1) := by decide +kernel
theorem dX2_findBest_79 : decode cX2_findBest 79 = .ok (.invokestatic 86, 3) := by decide +kernel
theorem dX2_findBest_82 : decode cX2_findBest 82 = .ok (.iinc 4 1, 3) := by decide +kernel
theorem dX2_findBest_85 : decode cX2_findBest 85 = .ok (.goto (-73), 3) := by decide +kernel
theorem dX2_findBest_88 : decode cX2_findBest 88 = .ok (.return_, 1) := by decide +kernel
theorem dX2_costOfRow_0 : decode cX2_costOfRow 0 = .ok (.iconst 0, 1) := by decide +kernel
theorem dX2_costOfRow_1 : decode cX2_costOfRow 1 = .ok (.istore_n 1, 1) := by decide +kernel
theorem dX2_costOfRow_2 : decode cX2_costOfRow 2 = .ok (.iconst 0, 1) := by decide +kernel
theorem dX2_costOfRow_3 : decode cX2_costOfRow 3 = .ok (.istore_n 2, 1) := by decide +kernel
theorem dX2_costOfRow_4 : decode cX2_costOfRow 4 = .ok (.iload_n 2, 1) := by decide +kernel
theorem dX2_costOfRow_5 : decode cX2_costOfRow 5 = .ok (.iconst 4, 1) := by decide +kernel
theorem dX2_costOfRow_6 : decode cX2_costOfRow 6 = .ok (.if_icmp .ge 84, 3) := by decide +kernel
theorem dX2_costOfRow_9 : decode cX2_costOfRow 9 = .ok (.iload_n 2, 1) := by decide +kernel
theorem dX2_costOfRow_10 : decode cX2_costOfRow 10 = .ok (.iconst 1, 1) := by decide +kernel
theorem dX2_costOfRow_11 : decode cX2_costOfRow 11 = .ok (.iadd, 1) := by decide +kernel
theorem dX2_costOfRow_12 : decode cX2_costOfRow 12 = .ok (.istore_n 3, 1) := by decide +kernel
theorem dX2_costOfRow_13 : decode cX2_costOfRow 13 = .ok (.iload_n 3, 1) := by decide +kernel
theorem dX2_costOfRow_14 : decode cX2_costOfRow 14 = .ok (.iconst 4, 1) := by decide +kernel
theorem dX2_costOfRow_15 : decode cX2_costOfRow 15 = .ok (.if_icmp .ge 69, 3) := by decide +kernel
theorem dX2_costOfRow_18 : decode cX2_costOfRow 18 = .ok (.aload_n 0, 1) := by decide +kernel
theorem dX2_costOfRow_19 : decode cX2_costOfRow 19 = .ok (.getfield 18, 3) := by decide +kernel
theorem dX2_costOfRow_22 : decode cX2_costOfRow 22 = .ok (.iload_n 2, 1) := by decide +kernel
theorem dX2_costOfRow_23 : decode cX2_costOfRow 23 = .ok (.iaload, 1) := by decide +kernel
theorem dX2_costOfRow_24 : decode cX2_costOfRow 24 = .ok (.iconst 4, 1) := by decide +kernel
theorem dX2_costOfRow_25 : decode cX2_costOfRow 25 = .ok (.imul, 1) := by decide +kernel
theorem dX2_costOfRow_26 : decode cX2_costOfRow 26 = .ok (.aload_n 0, 1) := by decide +kernel
theorem dX2_costOfRow_27 : decode cX2_costOfRow 27 = .ok (.getfield 18, 3) := by decide +kernel
theorem dX2_costOfRow_30 : decode cX2_costOfRow 30 = .ok (.iload_n 3, 1) := by decide +kernel
theorem dX2_costOfRow_31 : decode cX2_costOfRow 31 = .ok (.iaload, 1) := by decide +kernel
theorem dX2_costOfRow_32 : decode cX2_costOfRow 32 = .ok (.iadd, 1) := by decide +kernel
theorem dX2_costOfRow_33 : decode cX2_costOfRow 33 = .ok (.istore 4, 2) := by decide +kernel
theorem dX2_costOfRow_35 : decode cX2_costOfRow 35 = .ok (.aload_n 0, 1) := by decide +kernel
theorem dX2_costOfRow_36 : decode cX2_costOfRow 36 = .ok (.getfield 18, 3) := by decide +kernel
theorem dX2_costOfRow_39 : decode cX2_costOfRow 39 = .ok (.iload_n 2, 1) := by decide +kernel
theorem dX2_costOfRow_40 : decode cX2_costOfRow 40 = .ok (.iaload, 1) := by decide +kernel
theorem dX2_costOfRow_41 : decode cX2_costOfRow 41 = .ok (.aload_n 0, 1) := by decide +kernel
theorem dX2_costOfRow_42 : decode cX2_costOfRow 42 = .ok (.getfield 18, 3) := by decide +kernel
theorem dX2_costOfRow_45 : decode cX2_costOfRow 45 = .ok (.iload_n 3, 1) := by decide +kernel
theorem dX2_costOfRow_46 : decode cX2_costOfRow 46 = .ok (.iaload, 1) := by decide +kernel
theorem dX2_costOfRow_47 : decode cX2_costOfRow 47 = .ok (.if_icmp .eq 18, 3) := by decide +kernel
theorem dX2_costOfRow_50 : decode cX2_costOfRow 50 = .ok (.iload 4, 2) := by decide +kernel
theorem dX2_costOfRow_52 : decode cX2_costOfRow 52 = .ok (.ifCond .lt 13, 3) := by decide +kernel
theorem dX2_costOfRow_55 : decode cX2_costOfRow 55 = .ok (.iload 4, 2) := by decide +kernel
theorem dX2_costOfRow_57 : decode cX2_costOfRow 57 = .ok (.aload_n 0, 1) := by decide +kernel
theorem dX2_costOfRow_58 : decode cX2_costOfRow 58 = .ok (.getfield 24, 3) := by decide +kernel
theorem dX2_costOfRow_61 : decode cX2_costOfRow 61 = .ok (.arraylength, 1) := by decide +kernel
theorem dX2_costOfRow_62 : decode cX2_costOfRow 62 = .ok (.if_icmp .lt 6, 3) := by decide +kernel
theorem dX2_costOfRow_65 : decode cX2_costOfRow 65 = .ok (.ldc 81, 2) := by decide +kernel
theorem dX2_costOfRow_67 : decode cX2_costOfRow 67 = .ok (.ireturn, 1) := by decide +kernel
theorem dX2_costOfRow_68 : decode cX2_costOfRow 68 = .ok (.iload_n 1, 1) := by decide +kernel
theorem dX2_costOfRow_69 : decode cX2_costOfRow 69 = .ok (.aload_n 0, 1) := by decide +kernel
theorem dX2_costOfRow_70 : decode cX2_costOfRow 70 = .ok (.getfield 24, 3) := by decide +kernel
theorem dX2_costOfRow_73 : decode cX2_costOfRow 73 = .ok (.iload 4, 2) := by decide +kernel
theorem dX2_costOfRow_75 : decode cX2_costOfRow 75 = .ok (.iaload, 1) := by decide +kernel
theorem dX2_costOfRow_76 : decode cX2_costOfRow 76 = .ok (.iadd, 1) := by decide +kernel
theorem dX2_costOfRow_77 : decode cX2_costOfRow 77 = .ok (.istore_n 1, 1) := by decide +kernel
theorem dX2_costOfRow_78 : decode cX2_costOfRow 78 = .ok (.iinc 3 1, 3) := by decide +kernel
theorem dX2_costOfRow_81 : decode cX2_costOfRow 81 = .ok (.goto (-68), 3) := by decide +kernel
theorem dX2_costOfRow_84 : decode cX2_costOfRow 84 = .ok (.iinc 2 1, 3) := by decide +kernel
theorem dX2_costOfRow_87 : decode cX2_costOfRow 87 = .ok (.goto (-83), 3) := by decide +kernel
theorem dX2_costOfRow_90 : decode cX2_costOfRow 90 = .ok (.iload_n 1, 1) := by decide +kernel
theorem dX2_costOfRow_91 : decode cX2_costOfRow 91 = .ok (.ireturn, 1) := by decide +kernel
set_option maxRecDepth 20000 in
theorem ggX2_findCosts_J7_fill_53178 : GoodIn wsX2_findCosts wsJ7_fill_53178 := goodIn_r _ [5] (by decide +kernel) (by decide +kernel)
set_option maxRecDepth 20000 in
theorem gX2_findCosts_J7_fill_53178 : GoodIn wsX2_findCosts (va_wsS RX2 43 yJ7_fill_53178 wsJ7_fill_53178) := goodIn_app (goodIn_of _ (by decide +kernel)) ggX2_findCosts_J7_fill_53178
set_option maxRecDepth 20000 in
theorem ggX2_findCosts_X2_addCost : GoodIn wsX2_findCosts wsX2_addCost := goodIn_r _ [10, 11, 12, 13, 14, 15, 16, 17, 18, 19, 20, 21, 22, 23, 24, 25, 26, 27, 28, 29, 30, 31, 32, 33, 34, 35, 36, 37, 38, 39, 40, 41, 42, 43, 44, 45, 46, 47, 9, 48, 1, 49, 50, 51, 57, 58, 59, 60, 61, 62, 52, 53, 54, 55, 56] (by decide +kernel) (by decide +kernel)
set_option maxRecDepth 20000 in
theorem gX2_findCosts_X2_addCost : GoodIn wsX2_findCosts (wsV RX2 92 RX2 yX2_addCost wsX2_addCost) := goodIn_app (goodIn_of _ (by decide +kernel)) ggX2_findCosts_X2_addCost
theorem dX2_findCosts_0 : decode cX2_findCosts 0 = .ok (.aload_n 0, 1) := by decide +kernel
theorem dX2_findCosts_1 : decode cX2_findCosts 1 = .ok (.getfield 24, 3) := by decide +kernel
theorem dX2_findCosts_4 : decode cX2_findCosts 4 = .ok (.iconst 0, 1) := by decide +kernel
theorem dX2_findCosts_5 : decode cX2_findCosts 5 = .ok (.invokestatic 43, 3) := by decide +kernel
theorem dX2_findCosts_8 : decode cX2_findCosts 8 = .ok (.iconst 0, 1) := by decide +kernel
theorem dX2_findCosts_9 : decode cX2_findCosts 9 = .ok (.istore_n 3, 1) := by decide +kernel
theorem dX2_findCosts_10 : decode cX2_findCosts 10 = .ok (.iload_n 3, 1) := by decide +kernel
theorem dX2_findCosts_11 : decode cX2_findCosts 11 = .ok (.aload_n 1, 1) := by decide +kernel
theorem dX2_findCosts_12 : decode cX2_findCosts 12 = .ok (.getfield 49, 3) := by decide +kernel
theorem dX2_findCosts_15 : decode cX2_findCosts 15 = .ok (.if_icmp .ge 36, 3) := by decide +kernel
theorem dX2_findCosts_18 : decode cX2_findCosts 18 = .ok (.iconst 0, 1) := by decide +kernel
theorem dX2_findCosts_19 : decode cX2_findCosts 19 = .ok (.istore 4, 2) := by decide +kernel
theorem dX2_findCosts_21 : decode cX2_findCosts 21 = .ok (.iload 4, 2) := by decide +kernel
theorem dX2_findCosts_23 : decode cX2_findCosts 23 = .ok (.aload_n 1, 1) := by decide +kernel
theorem dX2_findCosts_24 : decode cX2_findCosts 24 = .ok (.getfield 49, 3) := by decide +kernel
theorem dX2_findCosts_27 : decode cX2_findCosts 27 = .ok (.if_icmp .ge 18, 3) := by decide +kernel
theorem dX2_findCosts_30 : decode cX2_findCosts 30 = .ok (.aload_n 0, 1) := by decide +kernel
theorem dX2_findCosts_31 : decode cX2_findCosts 31 = .ok (.aload_n 1, 1) := by decide +kernel
theorem dX2_findCosts_32 : decode cX2_findCosts 32 = .ok (.iload_n 2, 1) := by decide +kernel
theorem dX2_findCosts_33 : decode cX2_findCosts 33 = .ok (.iload_n 3, 1) := by decide +kernel
theorem dX2_findCosts_34 : decode cX2_findCosts 34 = .ok (.iload 4, 2) := by decide +kernel
theorem dX2_findCosts_36 : decode cX2_findCosts 36 = .ok (.invokevirtual 92, 3) := by decide +kernel
theorem dX2_findCosts_39 : decode cX2_findCosts 39 = .ok (.iinc 4 1, 3) := by decide +kernel
theorem dX2_findCosts_42 : decode cX2_findCosts 42 = .ok (.goto (-21), 3) := by decide +kernel
theorem dX2_findCosts_45 : decode cX2_findCosts 45 = .ok (.iinc 3 1, 3) := by decide +kernel
theorem dX2_findCosts_48 : decode cX2_findCosts 48 = .ok (.goto (-38), 3) := by decide +kernel
theorem dX2_findCosts_51 : decode cX2_findCosts 51 = .ok (.return_, 1) := by decide +kernel
set_option maxRecDepth 20000 in
theorem ggX2_addCost_X1_fromOf : GoodIn wsX2_addCost wsX1_fromOf := goodIn_r _ [9, 10, 44, 45, 46, 47, 48, 49] (by decide +kernel) (by decide +kernel)
set_option maxRecDepth 20000 in
theorem gX2_addCost_X1_fromOf : GoodIn wsX2_addCost (wsV RX2 64 RX1 yX1_fromOf wsX1_fromOf) := goodIn_app (goodIn_of _ (by decide +kernel)) ggX2_addCost_X1_fromOf
set_option maxRecDepth 20000 in
theorem ggX2_addCost_X1_toOf : GoodIn wsX2_addCost wsX1_toOf := goodIn_r _ [14, 15, 44, 45, 46, 47, 48, 49] (by decide +kernel) (by decide +kernel)
set_option maxRecDepth 20000 in
theorem gX2_addCost_X1_toOf : GoodIn wsX2_addCost (wsV RX2 53 RX1 yX1_toOf wsX1_toOf) := goodIn_app (goodIn_of _ (by decide +kernel)) ggX2_addCost_X1_toOf
set_option maxRecDepth 20000 in
theorem ggX2_addCost_X6_columnOf : GoodIn wsX2_addCost wsX6_columnOf := goodIn_r _ [18] (by decide +kernel) (by decide +kernel)
set_option maxRecDepth 20000 in
theorem gX2_addCost_X6_columnOf_n96 : GoodIn wsX2_addCost (wsX6_columnOf) := ggX2_addCost_X6_columnOf
set_option maxRecDepth 20000 in
theorem ggX2_addCost_X1_joins : GoodIn wsX2_addCost wsX1_joins := goodIn_r _ [22, 23, 6, 7, 8, 9, 10, 16, 17, 18, 24, 12, 13, 14, 15, 44, 45, 46, 47, 48, 49] (by decide +kernel) (by decide +kernel)
set_option maxRecDepth 20000 in
theorem gX2_addCost_X1_joins : GoodIn wsX2_addCost (wsV RX2 99 RX1 yX1_joins wsX1_joins) := goodIn_app (goodIn_of _ (by decide +kernel)) ggX2_addCost_X1_joins
set_option maxRecDepth 20000 in
theorem ggX2_addCost_X1_widthOf : GoodIn wsX2_addCost wsX1_widthOf := goodIn_r _ [28, 29, 44, 45, 46, 47, 48, 49] (by decide +kernel) (by decide +kernel)
set_option maxRecDepth 20000 in
theorem gX2_addCost_X1_widthOf : GoodIn wsX2_addCost (wsV RX2 103 RX1 yX1_widthOf wsX1_widthOf) := goodIn_app (goodIn_of _ (by decide +kernel)) ggX2_addCost_X1_widthOf
set_option maxRecDepth 20000 in
theorem ggX2_addCost_X1_placeOf : GoodIn wsX2_addCost wsX1_placeOf := goodIn_r _ [33, 34, 44, 45, 46, 47, 48, 49] (by decide +kernel) (by decide +kernel)
set_option maxRecDepth 20000 in
theorem gX2_addCost_X1_placeOf : GoodIn wsX2_addCost (wsV RX2 67 RX1 yX1_placeOf wsX1_placeOf) := goodIn_app (goodIn_of _ (by decide +kernel)) ggX2_addCost_X1_placeOf
set_option maxRecDepth 20000 in
theorem ggX2_addCost_X2_addTo : GoodIn wsX2_addCost wsX2_addTo := goodIn_r _ [39, 40, 41, 42, 38, 43, 50, 51, 52, 53, 54] (by decide +kernel) (by decide +kernel)
set_option maxRecDepth 20000 in
theorem gX2_addCost_X2_addTo : GoodIn wsX2_addCost (wsV RX2 111 RX2 yX2_addTo wsX2_addTo) := goodIn_app (goodIn_of _ (by decide +kernel)) ggX2_addCost_X2_addTo
theorem dX2_addCost_0 : decode cX2_addCost 0 = .ok (.aload_n 1, 1) := by decide +kernel
theorem dX2_addCost_1 : decode cX2_addCost 1 = .ok (.iload_n 3, 1) := by decide +kernel
theorem dX2_addCost_2 : decode cX2_addCost 2 = .ok (.invokevirtual 64, 3) := by decide +kernel
theorem dX2_addCost_5 : decode cX2_addCost 5 = .ok (.istore 5, 2) := by decide +kernel
theorem dX2_addCost_7 : decode cX2_addCost 7 = .ok (.aload_n 1, 1) := by decide +kernel
theorem dX2_addCost_8 : decode cX2_addCost 8 = .ok (.iload_n 3, 1) := by decide +kernel
theorem dX2_addCost_9 : decode cX2_addCost 9 = .ok (.invokevirtual 53, 3) := by decide +kernel
theorem dX2_addCost_12 : decode cX2_addCost 12 = .ok (.istore 6, 2) := by decide +kernel
theorem dX2_addCost_14 : decode cX2_addCost 14 = .ok (.aload_n 1, 1) := by decide +kernel
theorem dX2_addCost_15 : decode cX2_addCost 15 = .ok (.iload 4, 2) := by decide +kernel
theorem dX2_addCost_17 : decode cX2_addCost 17 = .ok (.iload 5, 2) := by decide +kernel
theorem dX2_addCost_19 : decode cX2_addCost 19 = .ok (.invokestatic 96, 3) := by decide +kernel
theorem dX2_addCost_22 : decode cX2_addCost 22 = .ok (.iload 6, 2) := by decide +kernel
theorem dX2_addCost_24 : decode cX2_addCost 24 = .ok (.invokestatic 96, 3) := by decide +kernel
