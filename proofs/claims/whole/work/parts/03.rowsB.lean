set_option maxRecDepth 20000 in
theorem ggX7_init_X0_init : GoodIn wsX7_init wsX0_init := goodIn_r _ [22, 23, 2, 3, 24, 25, 26, 27, 28, 29, 30, 31, 32, 33, 34, 35, 36, 37, 38, 39, 40, 41, 42, 43, 44, 45, 46, 47, 48, 49, 50, 51, 52, 53, 54, 55, 56, 57, 58, 59, 60, 109, 110, 111, 112, 113, 114, 115, 116, 117, 118, 119, 80, 81, 82, 120, 121, 122, 123, 124, 125, 126] (by decide +kernel) (by decide +kernel)
set_option maxRecDepth 20000 in
theorem gX7_init_X0_init_n9 : GoodIn wsX7_init (wsX0_init) := ggX7_init_X0_init
set_option maxRecDepth 20000 in
theorem ggX7_init_X4_init : GoodIn wsX7_init wsX4_init := goodIn_r _ [62, 63, 2, 3, 44, 64, 88, 89] (by decide +kernel) (by decide +kernel)
set_option maxRecDepth 20000 in
theorem gX7_init_X4_init_n22 : GoodIn wsX7_init (wsX4_init) := ggX7_init_X4_init
set_option maxRecDepth 20000 in
theorem ggX7_init_X2_init : GoodIn wsX7_init wsX2_init := goodIn_r _ [66, 67, 2, 3, 68, 25, 26, 69, 36, 37, 38, 39, 40, 41, 42, 43, 44, 45, 46, 47, 48, 49, 109, 110, 111, 112, 113, 114, 115, 116, 117, 118, 119, 90, 91, 92, 93, 94] (by decide +kernel) (by decide +kernel)
set_option maxRecDepth 20000 in
theorem gX7_init_X2_init_n29 : GoodIn wsX7_init (wsX2_init) := ggX7_init_X2_init
set_option maxRecDepth 20000 in
theorem ggX7_init_X1_init : GoodIn wsX7_init wsX1_init := goodIn_r _ [71, 72, 2, 3, 44, 73, 74, 75, 76, 77, 78, 79, 95, 96, 97, 98, 99, 100, 101, 102, 103, 104, 105, 106, 107, 108] (by decide +kernel) (by decide +kernel)
set_option maxRecDepth 20000 in
theorem gX7_init_X1_init_n36 : GoodIn wsX7_init (wsX1_init) := ggX7_init_X1_init
theorem dX7_init_0 : decode cX7_init 0 = .ok (.aload_n 0, 1) := by decide +kernel
theorem dX7_init_1 : decode cX7_init 1 = .ok (.invokespecial 1, 3) := by decide +kernel
theorem dX7_init_4 : decode cX7_init 4 = .ok (.aload_n 0, 1) := by decide +kernel
theorem dX7_init_5 : decode cX7_init 5 = .ok (.new 7, 3) := by decide +kernel
theorem dX7_init_8 : decode cX7_init 8 = .ok (.dup, 1) := by decide +kernel
theorem dX7_init_9 : decode cX7_init 9 = .ok (.invokespecial 9, 3) := by decide +kernel
theorem dX7_init_12 : decode cX7_init 12 = .ok (.putfield 10, 3) := by decide +kernel
theorem dX7_init_15 : decode cX7_init 15 = .ok (.aload_n 0, 1) := by decide +kernel
theorem dX7_init_16 : decode cX7_init 16 = .ok (.iconst 2, 1) := by decide +kernel
theorem dX7_init_17 : decode cX7_init 17 = .ok (.anewarray 7, 3) := by decide +kernel
theorem dX7_init_20 : decode cX7_init 20 = .ok (.putfield 16, 3) := by decide +kernel
theorem dX7_init_23 : decode cX7_init 23 = .ok (.aload_n 0, 1) := by decide +kernel
theorem dX7_init_24 : decode cX7_init 24 = .ok (.new 20, 3) := by decide +kernel
theorem dX7_init_27 : decode cX7_init 27 = .ok (.dup, 1) := by decide +kernel
theorem dX7_init_28 : decode cX7_init 28 = .ok (.invokespecial 22, 3) := by decide +kernel
theorem dX7_init_31 : decode cX7_init 31 = .ok (.putfield 23, 3) := by decide +kernel
theorem dX7_init_34 : decode cX7_init 34 = .ok (.aload_n 0, 1) := by decide +kernel
theorem dX7_init_35 : decode cX7_init 35 = .ok (.new 27, 3) := by decide +kernel
theorem dX7_init_38 : decode cX7_init 38 = .ok (.dup, 1) := by decide +kernel
theorem dX7_init_39 : decode cX7_init 39 = .ok (.invokespecial 29, 3) := by decide +kernel
theorem dX7_init_42 : decode cX7_init 42 = .ok (.putfield 30, 3) := by decide +kernel
theorem dX7_init_45 : decode cX7_init 45 = .ok (.aload_n 0, 1) := by decide +kernel
theorem dX7_init_46 : decode cX7_init 46 = .ok (.new 34, 3) := by decide +kernel
theorem dX7_init_49 : decode cX7_init 49 = .ok (.dup, 1) := by decide +kernel
theorem dX7_init_50 : decode cX7_init 50 = .ok (.invokespecial 36, 3) := by decide +kernel
theorem dX7_init_53 : decode cX7_init 53 = .ok (.putfield 37, 3) := by decide +kernel
theorem dX7_init_56 : decode cX7_init 56 = .ok (.return_, 1) := by decide +kernel
set_option maxRecDepth 20000 in
theorem ggX7_oven_X7_within : GoodIn wsX7_oven wsX7_within := goodIn_r _ [8] (by decide +kernel) (by decide +kernel)
set_option maxRecDepth 20000 in
theorem gX7_oven_X7_within : GoodIn wsX7_oven (va_wsS RX7 41 yX7_within wsX7_within) := goodIn_app (goodIn_of _ (by decide +kernel)) ggX7_oven_X7_within
set_option maxRecDepth 20000 in
theorem ggX7_oven_X3_rebuild : GoodIn wsX7_oven wsX3_rebuild := goodIn_r _ [13, 14, 15, 16, 17, 18, 19, 20, 21, 22, 23, 34, 35, 36, 37, 38, 39, 40, 41, 42, 43, 44] (by decide +kernel) (by decide +kernel)
set_option maxRecDepth 20000 in
theorem gX7_oven_X3_rebuild : GoodIn wsX7_oven (wsV RX7 49 RX3 yX3_rebuild wsX3_rebuild) := goodIn_app (goodIn_of _ (by decide +kernel)) ggX7_oven_X3_rebuild
theorem dX7_oven_0 : decode cX7_oven 0 = .ok (.iload_n 1, 1) := by decide +kernel
theorem dX7_oven_1 : decode cX7_oven 1 = .ok (.iconst 1, 1) := by decide +kernel
theorem dX7_oven_2 : decode cX7_oven 2 = .ok (.iconst 4, 1) := by decide +kernel
theorem dX7_oven_3 : decode cX7_oven 3 = .ok (.invokestatic 41, 3) := by decide +kernel
theorem dX7_oven_6 : decode cX7_oven 6 = .ok (.ifCond .eq 13, 3) := by decide +kernel
theorem dX7_oven_9 : decode cX7_oven 9 = .ok (.iload_n 2, 1) := by decide +kernel
theorem dX7_oven_10 : decode cX7_oven 10 = .ok (.iconst 1, 1) := by decide +kernel
theorem dX7_oven_11 : decode cX7_oven 11 = .ok (.bipush 6, 2) := by decide +kernel
theorem dX7_oven_13 : decode cX7_oven 13 = .ok (.invokestatic 41, 3) := by decide +kernel
theorem dX7_oven_16 : decode cX7_oven 16 = .ok (.ifCond .ne 6, 3) := by decide +kernel
theorem dX7_oven_19 : decode cX7_oven 19 = .ok (.bipush (-2), 2) := by decide +kernel
theorem dX7_oven_21 : decode cX7_oven 21 = .ok (.ireturn, 1) := by decide +kernel
theorem dX7_oven_22 : decode cX7_oven 22 = .ok (.aload_n 0, 1) := by decide +kernel
theorem dX7_oven_23 : decode cX7_oven 23 = .ok (.getfield 10, 3) := by decide +kernel
theorem dX7_oven_26 : decode cX7_oven 26 = .ok (.getfield 45, 3) := by decide +kernel
theorem dX7_oven_29 : decode cX7_oven 29 = .ok (.iload_n 1, 1) := by decide +kernel
theorem dX7_oven_30 : decode cX7_oven 30 = .ok (.iload_n 2, 1) := by decide +kernel
theorem dX7_oven_31 : decode cX7_oven 31 = .ok (.invokevirtual 49, 3) := by decide +kernel
theorem dX7_oven_34 : decode cX7_oven 34 = .ok (.aload_n 0, 1) := by decide +kernel
theorem dX7_oven_35 : decode cX7_oven 35 = .ok (.getfield 10, 3) := by decide +kernel
theorem dX7_oven_38 : decode cX7_oven 38 = .ok (.getfield 55, 3) := by decide +kernel
theorem dX7_oven_41 : decode cX7_oven 41 = .ok (.iconst 0, 1) := by decide +kernel
theorem dX7_oven_42 : decode cX7_oven 42 = .ok (.putfield 59, 3) := by decide +kernel
theorem dX7_oven_45 : decode cX7_oven 45 = .ok (.iload_n 1, 1) := by decide +kernel
theorem dX7_oven_46 : decode cX7_oven 46 = .ok (.iload_n 2, 1) := by decide +kernel
theorem dX7_oven_47 : decode cX7_oven 47 = .ok (.imul, 1) := by decide +kernel
theorem dX7_oven_48 : decode cX7_oven 48 = .ok (.ireturn, 1) := by decide +kernel
set_option maxRecDepth 20000 in
theorem ggX7_set_X7_within : GoodIn wsX7_set wsX7_within := goodIn_r _ [9] (by decide +kernel) (by decide +kernel)
set_option maxRecDepth 20000 in
theorem gX7_set_X7_within : GoodIn wsX7_set (va_wsS RX7 41 yX7_within wsX7_within) := goodIn_app (goodIn_of _ (by decide +kernel)) ggX7_set_X7_within
theorem dX7_set_0 : decode cX7_set 0 = .ok (.iload_n 1, 1) := by decide +kernel
theorem dX7_set_1 : decode cX7_set 1 = .ok (.iconst 0, 1) := by decide +kernel
theorem dX7_set_2 : decode cX7_set 2 = .ok (.iconst 2, 1) := by decide +kernel
theorem dX7_set_3 : decode cX7_set 3 = .ok (.invokestatic 41, 3) := by decide +kernel
theorem dX7_set_6 : decode cX7_set 6 = .ok (.ifCond .eq 22, 3) := by decide +kernel
theorem dX7_set_9 : decode cX7_set 9 = .ok (.iload_n 2, 1) := by decide +kernel
theorem dX7_set_10 : decode cX7_set 10 = .ok (.iconst 0, 1) := by decide +kernel
theorem dX7_set_11 : decode cX7_set 11 = .ok (.iload_n 1, 1) := by decide +kernel
theorem dX7_set_12 : decode cX7_set 12 = .ok (.ifCond .ne 8, 3) := by decide +kernel
theorem dX7_set_15 : decode cX7_set 15 = .ok (.bipush 99, 2) := by decide +kernel
theorem dX7_set_17 : decode cX7_set 17 = .ok (.goto 5, 3) := by decide +kernel
theorem dX7_set_20 : decode cX7_set 20 = .ok (.bipush 9, 2) := by decide +kernel
theorem dX7_set_22 : decode cX7_set 22 = .ok (.invokestatic 41, 3) := by decide +kernel
theorem dX7_set_25 : decode cX7_set 25 = .ok (.ifCond .ne 6, 3) := by decide +kernel
theorem dX7_set_28 : decode cX7_set 28 = .ok (.bipush (-2), 2) := by decide +kernel
theorem dX7_set_30 : decode cX7_set 30 = .ok (.ireturn, 1) := by decide +kernel
theorem dX7_set_31 : decode cX7_set 31 = .ok (.aload_n 0, 1) := by decide +kernel
theorem dX7_set_32 : decode cX7_set 32 = .ok (.getfield 10, 3) := by decide +kernel
theorem dX7_set_35 : decode cX7_set 35 = .ok (.getfield 45, 3) := by decide +kernel
theorem dX7_set_38 : decode cX7_set 38 = .ok (.astore_n 3, 1) := by decide +kernel
theorem dX7_set_39 : decode cX7_set 39 = .ok (.iload_n 1, 1) := by decide +kernel
theorem dX7_set_40 : decode cX7_set 40 = .ok (.ifCond .ne 17, 3) := by decide +kernel
theorem dX7_set_43 : decode cX7_set 43 = .ok (.aload_n 3, 1) := by decide +kernel
theorem dX7_set_44 : decode cX7_set 44 = .ok (.getfield 65, 3) := by decide +kernel
theorem dX7_set_47 : decode cX7_set 47 = .ok (.istore 4, 2) := by decide +kernel
theorem dX7_set_49 : decode cX7_set 49 = .ok (.aload_n 3, 1) := by decide +kernel
theorem dX7_set_50 : decode cX7_set 50 = .ok (.iload_n 2, 1) := by decide +kernel
theorem dX7_set_51 : decode cX7_set 51 = .ok (.putfield 65, 3) := by decide +kernel
theorem dX7_set_54 : decode cX7_set 54 = .ok (.goto 33, 3) := by decide +kernel
theorem dX7_set_57 : decode cX7_set 57 = .ok (.iload_n 1, 1) := by decide +kernel
theorem dX7_set_58 : decode cX7_set 58 = .ok (.iconst 1, 1) := by decide +kernel
theorem dX7_set_59 : decode cX7_set 59 = .ok (.if_icmp .ne 17, 3) := by decide +kernel
theorem dX7_set_62 : decode cX7_set 62 = .ok (.aload_n 3, 1) := by decide +kernel
theorem dX7_set_63 : decode cX7_set 63 = .ok (.getfield 68, 3) := by decide +kernel
theorem dX7_set_66 : decode cX7_set 66 = .ok (.istore 4, 2) := by decide +kernel
theorem dX7_set_68 : decode cX7_set 68 = .ok (.aload_n 3, 1) := by decide +kernel
theorem dX7_set_69 : decode cX7_set 69 = .ok (.iload_n 2, 1) := by decide +kernel
theorem dX7_set_70 : decode cX7_set 70 = .ok (.putfield 68, 3) := by decide +kernel
theorem dX7_set_73 : decode cX7_set 73 = .ok (.goto 14, 3) := by decide +kernel
theorem dX7_set_76 : decode cX7_set 76 = .ok (.aload_n 3, 1) := by decide +kernel
theorem dX7_set_77 : decode cX7_set 77 = .ok (.getfield 71, 3) := by decide +kernel
theorem dX7_set_80 : decode cX7_set 80 = .ok (.istore 4, 2) := by decide +kernel
theorem dX7_set_82 : decode cX7_set 82 = .ok (.aload_n 3, 1) := by decide +kernel
theorem dX7_set_83 : decode cX7_set 83 = .ok (.iload_n 2, 1) := by decide +kernel
theorem dX7_set_84 : decode cX7_set 84 = .ok (.putfield 71, 3) := by decide +kernel
theorem dX7_set_87 : decode cX7_set 87 = .ok (.iload 4, 2) := by decide +kernel
theorem dX7_set_89 : decode cX7_set 89 = .ok (.ireturn, 1) := by decide +kernel
set_option maxRecDepth 20000 in
theorem ggX7_less_X3_hasPlace : GoodIn wsX7_less wsX3_hasPlace := goodIn_r _ [8, 9, 10, 11, 12, 22, 23, 24, 25, 26, 27, 28, 29, 30, 31, 32] (by decide +kernel) (by decide +kernel)
set_option maxRecDepth 20000 in
theorem gX7_less_X3_hasPlace : GoodIn wsX7_less (wsV RX7 74 RX3 yX3_hasPlace wsX3_hasPlace) := goodIn_app (goodIn_of _ (by decide +kernel)) ggX7_less_X3_hasPlace
set_option maxRecDepth 20000 in
theorem ggX7_less_X7_within : GoodIn wsX7_less wsX7_within := goodIn_r _ [12] (by decide +kernel) (by decide +kernel)
set_option maxRecDepth 20000 in
theorem gX7_less_X7_within : GoodIn wsX7_less (va_wsS RX7 41 yX7_within wsX7_within) := goodIn_app (goodIn_of _ (by decide +kernel)) ggX7_less_X7_within
theorem dX7_less_0 : decode cX7_less 0 = .ok (.aload_n 0, 1) := by decide +kernel
theorem dX7_less_1 : decode cX7_less 1 = .ok (.getfield 10, 3) := by decide +kernel
theorem dX7_less_4 : decode cX7_less 4 = .ok (.getfield 45, 3) := by decide +kernel
theorem dX7_less_7 : decode cX7_less 7 = .ok (.iload_n 1, 1) := by decide +kernel
theorem dX7_less_8 : decode cX7_less 8 = .ok (.invokevirtual 74, 3) := by decide +kernel
theorem dX7_less_11 : decode cX7_less 11 = .ok (.ifCond .ne 5, 3) := by decide +kernel
theorem dX7_less_14 : decode cX7_less 14 = .ok (.iconst (-1), 1) := by decide +kernel
theorem dX7_less_15 : decode cX7_less 15 = .ok (.ireturn, 1) := by decide +kernel
theorem dX7_less_16 : decode cX7_less 16 = .ok (.iload_n 2, 1) := by decide +kernel
theorem dX7_less_17 : decode cX7_less 17 = .ok (.iconst 0, 1) := by decide +kernel
theorem dX7_less_18 : decode cX7_less 18 = .ok (.bipush 9, 2) := by decide +kernel
theorem dX7_less_20 : decode cX7_less 20 = .ok (.invokestatic 41, 3) := by decide +kernel
theorem dX7_less_23 : decode cX7_less 23 = .ok (.ifCond .ne 6, 3) := by decide +kernel
theorem dX7_less_26 : decode cX7_less 26 = .ok (.bipush (-2), 2) := by decide +kernel
theorem dX7_less_28 : decode cX7_less 28 = .ok (.ireturn, 1) := by decide +kernel
theorem dX7_less_29 : decode cX7_less 29 = .ok (.aload_n 0, 1) := by decide +kernel
theorem dX7_less_30 : decode cX7_less 30 = .ok (.getfield 10, 3) := by decide +kernel
theorem dX7_less_33 : decode cX7_less 33 = .ok (.getfield 45, 3) := by decide +kernel
theorem dX7_less_36 : decode cX7_less 36 = .ok (.getfield 78, 3) := by decide +kernel
theorem dX7_less_39 : decode cX7_less 39 = .ok (.iload_n 1, 1) := by decide +kernel
theorem dX7_less_40 : decode cX7_less 40 = .ok (.iaload, 1) := by decide +kernel
theorem dX7_less_41 : decode cX7_less 41 = .ok (.istore_n 3, 1) := by decide +kernel
theorem dX7_less_42 : decode cX7_less 42 = .ok (.aload_n 0, 1) := by decide +kernel
theorem dX7_less_43 : decode cX7_less 43 = .ok (.getfield 10, 3) := by decide +kernel
theorem dX7_less_46 : decode cX7_less 46 = .ok (.getfield 45, 3) := by decide +kernel
theorem dX7_less_49 : decode cX7_less 49 = .ok (.getfield 78, 3) := by decide +kernel
theorem dX7_less_52 : decode cX7_less 52 = .ok (.iload_n 1, 1) := by decide +kernel
theorem dX7_less_53 : decode cX7_less 53 = .ok (.iload_n 2, 1) := by decide +kernel
theorem dX7_less_54 : decode cX7_less 54 = .ok (.iastore, 1) := by decide +kernel
theorem dX7_less_55 : decode cX7_less 55 = .ok (.iload_n 3, 1) := by decide +kernel
theorem dX7_less_56 : decode cX7_less 56 = .ok (.ireturn, 1) := by decide +kernel
set_option maxRecDepth 20000 in
theorem ggX7_sort_X7_isKind : GoodIn wsX7_sort wsX7_isKind := goodIn_r _ [10, 11, 12, 9, 13] (by decide +kernel) (by decide +kernel)
set_option maxRecDepth 20000 in
theorem gX7_sort_X7_isKind : GoodIn wsX7_sort (va_wsS RX7 82 yX7_isKind wsX7_isKind) := goodIn_app (goodIn_of _ (by decide +kernel)) ggX7_sort_X7_isKind
set_option maxRecDepth 20000 in
theorem ggX7_sort_X7_within : GoodIn wsX7_sort wsX7_within := goodIn_r _ [13] (by decide +kernel) (by decide +kernel)
set_option maxRecDepth 20000 in
theorem gX7_sort_X7_within : GoodIn wsX7_sort (va_wsS RX7 41 yX7_within wsX7_within) := goodIn_app (goodIn_of _ (by decide +kernel)) ggX7_sort_X7_within
set_option maxRecDepth 20000 in
theorem ggX7_sort_J6_bitCount_0f7a4 : GoodIn wsX7_sort wsJ6_bitCount_0f7a4 := goodIn_r _ [17, 18, 19, 20] (by decide +kernel) (by decide +kernel)
set_option maxRecDepth 20000 in
theorem gX7_sort_J6_bitCount_0f7a4 : GoodIn wsX7_sort (va_wsS RX7 103 yJ6_bitCount_0f7a4 wsJ6_bitCount_0f7a4) := goodIn_app (goodIn_of _ (by decide +kernel)) ggX7_sort_J6_bitCount_0f7a4
theorem dX7_sort_0 : decode cX7_sort 0 = .ok (.iload_n 1, 1) := by decide +kernel
theorem dX7_sort_1 : decode cX7_sort 1 = .ok (.invokestatic 82, 3) := by decide +kernel
theorem dX7_sort_4 : decode cX7_sort 4 = .ok (.ifCond .ne 5, 3) := by decide +kernel
theorem dX7_sort_7 : decode cX7_sort 7 = .ok (.iconst (-1), 1) := by decide +kernel
theorem dX7_sort_8 : decode cX7_sort 8 = .ok (.ireturn, 1) := by decide +kernel
theorem dX7_sort_9 : decode cX7_sort 9 = .ok (.iload_n 2, 1) := by decide +kernel
theorem dX7_sort_10 : decode cX7_sort 10 = .ok (.iconst 1, 1) := by decide +kernel
theorem dX7_sort_11 : decode cX7_sort 11 = .ok (.sipush 500, 3) := by decide +kernel
theorem dX7_sort_14 : decode cX7_sort 14 = .ok (.invokestatic 41, 3) := by decide +kernel
theorem dX7_sort_17 : decode cX7_sort 17 = .ok (.ifCond .eq 25, 3) := by decide +kernel
theorem dX7_sort_20 : decode cX7_sort 20 = .ok (.iload_n 3, 1) := by decide +kernel
theorem dX7_sort_21 : decode cX7_sort 21 = .ok (.iconst 0, 1) := by decide +kernel
theorem dX7_sort_22 : decode cX7_sort 22 = .ok (.sipush 500, 3) := by decide +kernel
theorem dX7_sort_25 : decode cX7_sort 25 = .ok (.invokestatic 41, 3) := by decide +kernel
theorem dX7_sort_28 : decode cX7_sort 28 = .ok (.ifCond .eq 14, 3) := by decide +kernel
theorem dX7_sort_31 : decode cX7_sort 31 = .ok (.iload 4, 2) := by decide +kernel
theorem dX7_sort_33 : decode cX7_sort 33 = .ok (.iconst 0, 1) := by decide +kernel
theorem dX7_sort_34 : decode cX7_sort 34 = .ok (.bipush 99, 2) := by decide +kernel
theorem dX7_sort_36 : decode cX7_sort 36 = .ok (.invokestatic 41, 3) := by decide +kernel
theorem dX7_sort_39 : decode cX7_sort 39 = .ok (.ifCond .ne 6, 3) := by decide +kernel
theorem dX7_sort_42 : decode cX7_sort 42 = .ok (.bipush (-2), 2) := by decide +kernel
theorem dX7_sort_44 : decode cX7_sort 44 = .ok (.ireturn, 1) := by decide +kernel
theorem dX7_sort_45 : decode cX7_sort 45 = .ok (.aload_n 0, 1) := by decide +kernel
theorem dX7_sort_46 : decode cX7_sort 46 = .ok (.getfield 10, 3) := by decide +kernel
theorem dX7_sort_49 : decode cX7_sort 49 = .ok (.getfield 85, 3) := by decide +kernel
theorem dX7_sort_52 : decode cX7_sort 52 = .ok (.astore 5, 2) := by decide +kernel
theorem dX7_sort_54 : decode cX7_sort 54 = .ok (.aload 5, 2) := by decide +kernel
theorem dX7_sort_56 : decode cX7_sort 56 = .ok (.dup, 1) := by decide +kernel
theorem dX7_sort_57 : decode cX7_sort 57 = .ok (.getfield 89, 3) := by decide +kernel
theorem dX7_sort_60 : decode cX7_sort 60 = .ok (.iconst 1, 1) := by decide +kernel
theorem dX7_sort_61 : decode cX7_sort 61 = .ok (.iload_n 1, 1) := by decide +kernel
theorem dX7_sort_62 : decode cX7_sort 62 = .ok (.ishl, 1) := by decide +kernel
theorem dX7_sort_63 : decode cX7_sort 63 = .ok (.ior, 1) := by decide +kernel
theorem dX7_sort_64 : decode cX7_sort 64 = .ok (.putfield 89, 3) := by decide +kernel
theorem dX7_sort_67 : decode cX7_sort 67 = .ok (.aload 5, 2) := by decide +kernel
theorem dX7_sort_69 : decode cX7_sort 69 = .ok (.getfield 94, 3) := by decide +kernel
theorem dX7_sort_72 : decode cX7_sort 72 = .ok (.iload_n 1, 1) := by decide +kernel
theorem dX7_sort_73 : decode cX7_sort 73 = .ok (.iload_n 2, 1) := by decide +kernel
theorem dX7_sort_74 : decode cX7_sort 74 = .ok (.iastore, 1) := by decide +kernel
theorem dX7_sort_75 : decode cX7_sort 75 = .ok (.aload 5, 2) := by decide +kernel
theorem dX7_sort_77 : decode cX7_sort 77 = .ok (.getfield 97, 3) := by decide +kernel
theorem dX7_sort_80 : decode cX7_sort 80 = .ok (.iload_n 1, 1) := by decide +kernel
theorem dX7_sort_81 : decode cX7_sort 81 = .ok (.iload_n 3, 1) := by decide +kernel
theorem dX7_sort_82 : decode cX7_sort 82 = .ok (.iastore, 1) := by decide +kernel
theorem dX7_sort_83 : decode cX7_sort 83 = .ok (.aload 5, 2) := by decide +kernel
theorem dX7_sort_85 : decode cX7_sort 85 = .ok (.getfield 100, 3) := by decide +kernel
theorem dX7_sort_88 : decode cX7_sort 88 = .ok (.iload_n 1, 1) := by decide +kernel
theorem dX7_sort_89 : decode cX7_sort 89 = .ok (.iload 4, 2) := by decide +kernel
theorem dX7_sort_91 : decode cX7_sort 91 = .ok (.iastore, 1) := by decide +kernel
theorem dX7_sort_92 : decode cX7_sort 92 = .ok (.aload 5, 2) := by decide +kernel
theorem dX7_sort_94 : decode cX7_sort 94 = .ok (.getfield 89, 3) := by decide +kernel
theorem dX7_sort_97 : decode cX7_sort 97 = .ok (.invokestatic 103, 3) := by decide +kernel
theorem dX7_sort_100 : decode cX7_sort 100 = .ok (.ireturn, 1) := by decide +kernel
set_option maxRecDepth 20000 in
theorem ggX7_apart_X7_isKind : GoodIn wsX7_apart wsX7_isKind := goodIn_r _ [6, 7, 8, 5, 9] (by decide +kernel) (by decide +kernel)
set_option maxRecDepth 20000 in
theorem gX7_apart_X7_isKind : GoodIn wsX7_apart (va_wsS RX7 82 yX7_isKind wsX7_isKind) := goodIn_app (goodIn_of _ (by decide +kernel)) ggX7_apart_X7_isKind
set_option maxRecDepth 20000 in
theorem ggX7_apart_X6_tellApart : GoodIn wsX7_apart wsX6_tellApart := goodIn_r _ [14, 15, 24, 25, 26, 27, 28] (by decide +kernel) (by decide +kernel)
set_option maxRecDepth 20000 in
theorem gX7_apart_X6_tellApart : GoodIn wsX7_apart (wsV RX7 109 RX6 yX6_tellApart wsX6_tellApart) := goodIn_app (goodIn_of _ (by decide +kernel)) ggX7_apart_X6_tellApart
theorem dX7_apart_0 : decode cX7_apart 0 = .ok (.iload_n 1, 1) := by decide +kernel
theorem dX7_apart_1 : decode cX7_apart 1 = .ok (.invokestatic 82, 3) := by decide +kernel
theorem dX7_apart_4 : decode cX7_apart 4 = .ok (.ifCond .eq 10, 3) := by decide +kernel
theorem dX7_apart_7 : decode cX7_apart 7 = .ok (.iload_n 2, 1) := by decide +kernel
theorem dX7_apart_8 : decode cX7_apart 8 = .ok (.invokestatic 82, 3) := by decide +kernel
theorem dX7_apart_11 : decode cX7_apart 11 = .ok (.ifCond .ne 5, 3) := by decide +kernel
theorem dX7_apart_14 : decode cX7_apart 14 = .ok (.iconst (-1), 1) := by decide +kernel
theorem dX7_apart_15 : decode cX7_apart 15 = .ok (.ireturn, 1) := by decide +kernel
theorem dX7_apart_16 : decode cX7_apart 16 = .ok (.aload_n 0, 1) := by decide +kernel
theorem dX7_apart_17 : decode cX7_apart 17 = .ok (.getfield 10, 3) := by decide +kernel
theorem dX7_apart_20 : decode cX7_apart 20 = .ok (.getfield 85, 3) := by decide +kernel
theorem dX7_apart_23 : decode cX7_apart 23 = .ok (.iload_n 1, 1) := by decide +kernel
theorem dX7_apart_24 : decode cX7_apart 24 = .ok (.iload_n 2, 1) := by decide +kernel
theorem dX7_apart_25 : decode cX7_apart 25 = .ok (.iload_n 3, 1) := by decide +kernel
theorem dX7_apart_26 : decode cX7_apart 26 = .ok (.invokevirtual 109, 3) := by decide +kernel
theorem dX7_apart_29 : decode cX7_apart 29 = .ok (.iconst 1, 1) := by decide +kernel
theorem dX7_apart_30 : decode cX7_apart 30 = .ok (.ireturn, 1) := by decide +kernel
set_option maxRecDepth 20000 in
theorem ggX7_say_X7_within : GoodIn wsX7_say wsX7_within := goodIn_r _ [7] (by decide +kernel) (by decide +kernel)
set_option maxRecDepth 20000 in
theorem gX7_say_X7_within : GoodIn wsX7_say (va_wsS RX7 41 yX7_within wsX7_within) := goodIn_app (goodIn_of _ (by decide +kernel)) ggX7_say_X7_within
theorem dX7_say_0 : decode cX7_say 0 = .ok (.iload_n 1, 1) := by decide +kernel
theorem dX7_say_1 : decode cX7_say 1 = .ok (.bipush 33, 2) := by decide +kernel
theorem dX7_say_3 : decode cX7_say 3 = .ok (.bipush 126, 2) := by decide +kernel
theorem dX7_say_5 : decode cX7_say 5 = .ok (.invokestatic 41, 3) := by decide +kernel
theorem dX7_say_8 : decode cX7_say 8 = .ok (.ifCond .ne 6, 3) := by decide +kernel
theorem dX7_say_11 : decode cX7_say 11 = .ok (.bipush (-2), 2) := by decide +kernel
theorem dX7_say_13 : decode cX7_say 13 = .ok (.ireturn, 1) := by decide +kernel
theorem dX7_say_14 : decode cX7_say 14 = .ok (.aload_n 0, 1) := by decide +kernel
theorem dX7_say_15 : decode cX7_say 15 = .ok (.getfield 23, 3) := by decide +kernel
theorem dX7_say_18 : decode cX7_say 18 = .ok (.getfield 113, 3) := by decide +kernel
theorem dX7_say_21 : decode cX7_say 21 = .ok (.bipush 60, 2) := by decide +kernel
theorem dX7_say_23 : decode cX7_say 23 = .ok (.if_icmp .lt 6, 3) := by decide +kernel
theorem dX7_say_26 : decode cX7_say 26 = .ok (.bipush (-4), 2) := by decide +kernel
theorem dX7_say_28 : decode cX7_say 28 = .ok (.ireturn, 1) := by decide +kernel
theorem dX7_say_29 : decode cX7_say 29 = .ok (.aload_n 0, 1) := by decide +kernel
theorem dX7_say_30 : decode cX7_say 30 = .ok (.getfield 23, 3) := by decide +kernel
theorem dX7_say_33 : decode cX7_say 33 = .ok (.getfield 114, 3) := by decide +kernel
theorem dX7_say_36 : decode cX7_say 36 = .ok (.aload_n 0, 1) := by decide +kernel
theorem dX7_say_37 : decode cX7_say 37 = .ok (.getfield 23, 3) := by decide +kernel
theorem dX7_say_40 : decode cX7_say 40 = .ok (.getfield 113, 3) := by decide +kernel
theorem dX7_say_43 : decode cX7_say 43 = .ok (.iload_n 1, 1) := by decide +kernel
theorem dX7_say_44 : decode cX7_say 44 = .ok (.iastore, 1) := by decide +kernel
theorem dX7_say_45 : decode cX7_say 45 = .ok (.aload_n 0, 1) := by decide +kernel
theorem dX7_say_46 : decode cX7_say 46 = .ok (.getfield 23, 3) := by decide +kernel
theorem dX7_say_49 : decode cX7_say 49 = .ok (.dup, 1) := by decide +kernel
theorem dX7_say_50 : decode cX7_say 50 = .ok (.getfield 113, 3) := by decide +kernel
theorem dX7_say_53 : decode cX7_say 53 = .ok (.iconst 1, 1) := by decide +kernel
theorem dX7_say_54 : decode cX7_say 54 = .ok (.iadd, 1) := by decide +kernel
theorem dX7_say_55 : decode cX7_say 55 = .ok (.putfield 113, 3) := by decide +kernel
theorem dX7_say_58 : decode cX7_say 58 = .ok (.aload_n 0, 1) := by decide +kernel
theorem dX7_say_59 : decode cX7_say 59 = .ok (.getfield 23, 3) := by decide +kernel
theorem dX7_say_62 : decode cX7_say 62 = .ok (.getfield 113, 3) := by decide +kernel
theorem dX7_say_65 : decode cX7_say 65 = .ok (.ireturn, 1) := by decide +kernel
theorem dX7_wipe_0 : decode cX7_wipe 0 = .ok (.aload_n 0, 1) := by decide +kernel
theorem dX7_wipe_1 : decode cX7_wipe 1 = .ok (.getfield 23, 3) := by decide +kernel
theorem dX7_wipe_4 : decode cX7_wipe 4 = .ok (.getfield 113, 3) := by decide +kernel
theorem dX7_wipe_7 : decode cX7_wipe 7 = .ok (.istore_n 1, 1) := by decide +kernel
theorem dX7_wipe_8 : decode cX7_wipe 8 = .ok (.aload_n 0, 1) := by decide +kernel
theorem dX7_wipe_9 : decode cX7_wipe 9 = .ok (.getfield 23, 3) := by decide +kernel
theorem dX7_wipe_12 : decode cX7_wipe 12 = .ok (.iconst 0, 1) := by decide +kernel
theorem dX7_wipe_13 : decode cX7_wipe 13 = .ok (.putfield 113, 3) := by decide +kernel
theorem dX7_wipe_16 : decode cX7_wipe 16 = .ok (.iload_n 1, 1) := by decide +kernel
theorem dX7_wipe_17 : decode cX7_wipe 17 = .ok (.ireturn, 1) := by decide +kernel
set_option maxRecDepth 20000 in
theorem ggX7_fault_X4_firstFault : GoodIn wsX7_fault wsX4_firstFault := goodIn_r _ [9, 10, 11, 12, 13, 14, 34, 35] (by decide +kernel) (by decide +kernel)
set_option maxRecDepth 20000 in
theorem gX7_fault_X4_firstFault : GoodIn wsX7_fault (wsV RX7 120 RX4 yX4_firstFault wsX4_firstFault) := goodIn_app (goodIn_of _ (by decide +kernel)) ggX7_fault_X4_firstFault
theorem dX7_fault_0 : decode cX7_fault 0 = .ok (.aload_n 0, 1) := by decide +kernel
theorem dX7_fault_1 : decode cX7_fault 1 = .ok (.getfield 23, 3) := by decide +kernel
theorem dX7_fault_4 : decode cX7_fault 4 = .ok (.aload_n 0, 1) := by decide +kernel
theorem dX7_fault_5 : decode cX7_fault 5 = .ok (.getfield 10, 3) := by decide +kernel
theorem dX7_fault_8 : decode cX7_fault 8 = .ok (.getfield 45, 3) := by decide +kernel
theorem dX7_fault_11 : decode cX7_fault 11 = .ok (.getfield 117, 3) := by decide +kernel
theorem dX7_fault_14 : decode cX7_fault 14 = .ok (.invokevirtual 120, 3) := by decide +kernel
theorem dX7_fault_17 : decode cX7_fault 17 = .ok (.ireturn, 1) := by decide +kernel
set_option maxRecDepth 20000 in
theorem ggX7_judge_X7_within : GoodIn wsX7_judge wsX7_within := goodIn_r _ [11] (by decide +kernel) (by decide +kernel)
set_option maxRecDepth 20000 in
theorem gX7_judge_X7_within : GoodIn wsX7_judge (va_wsS RX7 41 yX7_within wsX7_within) := goodIn_app (goodIn_of _ (by decide +kernel)) ggX7_judge_X7_within
set_option maxRecDepth 20000 in
theorem ggX7_judge_X7_playDay : GoodIn wsX7_judge wsX7_playDay := goodIn_r _ [15, 16, 6, 7, 17, 1, 18, 2, 19, 20, 21, 22, 23, 24, 25, 9, 10, 11, 26, 27, 28, 29, 30, 31, 32, 33, 34, 35, 36, 37, 38, 39, 40, 41, 42, 43, 44, 45, 46, 47, 48, 49, 50, 51, 52, 53, 54, 55, 56, 57, 58, 59, 60, 61, 62, 63, 64, 65, 66, 67, 68, 69, 70, 71, 72, 73, 74, 75, 76, 77, 78, 79, 80, 81, 8, 82, 83, 84, 85, 86, 87, 88, 89, 90, 91, 92, 93, 94, 95, 96, 97, 98, 99, 100, 101, 102, 103, 104, 105, 106, 107, 108, 109, 110, 111, 112, 113, 114, 115, 116, 117, 118, 119, 120, 121, 122, 123, 124, 125, 126, 127, 128, 129, 130, 131, 132, 133, 134, 135, 136, 137, 138, 139, 156, 157, 158, 145, 146, 147, 148, 149, 150, 151, 152, 153, 154, 155, 140, 141, 142, 143, 144, 159, 160, 161, 162, 163, 164, 165] (by decide +kernel) (by decide +kernel)
set_option maxRecDepth 20000 in
theorem gX7_judge_X7_playDay : GoodIn wsX7_judge (wsV RX7 123 RX7 yX7_playDay wsX7_playDay) := goodIn_app (goodIn_of _ (by decide +kernel)) ggX7_judge_X7_playDay
theorem dX7_judge_0 : decode cX7_judge 0 = .ok (.iload_n 1, 1) := by decide +kernel
theorem dX7_judge_1 : decode cX7_judge 1 = .ok (.iconst 0, 1) := by decide +kernel
theorem dX7_judge_2 : decode cX7_judge 2 = .ok (.iconst 5, 1) := by decide +kernel
theorem dX7_judge_3 : decode cX7_judge 3 = .ok (.invokestatic 41, 3) := by decide +kernel
theorem dX7_judge_6 : decode cX7_judge 6 = .ok (.ifCond .ne 6, 3) := by decide +kernel
theorem dX7_judge_9 : decode cX7_judge 9 = .ok (.bipush (-2), 2) := by decide +kernel
theorem dX7_judge_11 : decode cX7_judge 11 = .ok (.ireturn, 1) := by decide +kernel
theorem dX7_judge_12 : decode cX7_judge 12 = .ok (.aload_n 0, 1) := by decide +kernel
theorem dX7_judge_13 : decode cX7_judge 13 = .ok (.invokevirtual 123, 3) := by decide +kernel
theorem dX7_judge_16 : decode cX7_judge 16 = .ok (.istore_n 2, 1) := by decide +kernel
theorem dX7_judge_17 : decode cX7_judge 17 = .ok (.iload_n 2, 1) := by decide +kernel
theorem dX7_judge_18 : decode cX7_judge 18 = .ok (.bipush (-5), 2) := by decide +kernel
theorem dX7_judge_20 : decode cX7_judge 20 = .ok (.if_icmp .ne 6, 3) := by decide +kernel
theorem dX7_judge_23 : decode cX7_judge 23 = .ok (.bipush (-5), 2) := by decide +kernel
theorem dX7_judge_25 : decode cX7_judge 25 = .ok (.ireturn, 1) := by decide +kernel
theorem dX7_judge_26 : decode cX7_judge 26 = .ok (.iload_n 1, 1) := by decide +kernel
theorem dX7_judge_27 : decode cX7_judge 27 = .ok (.ifCond .ne 11, 3) := by decide +kernel
theorem dX7_judge_30 : decode cX7_judge 30 = .ok (.aload_n 0, 1) := by decide +kernel
theorem dX7_judge_31 : decode cX7_judge 31 = .ok (.getfield 30, 3) := by decide +kernel
theorem dX7_judge_34 : decode cX7_judge 34 = .ok (.getfield 127, 3) := by decide +kernel
theorem dX7_judge_37 : decode cX7_judge 37 = .ok (.ireturn, 1) := by decide +kernel
theorem dX7_judge_38 : decode cX7_judge 38 = .ok (.iload_n 1, 1) := by decide +kernel
theorem dX7_judge_39 : decode cX7_judge 39 = .ok (.iconst 1, 1) := by decide +kernel
theorem dX7_judge_40 : decode cX7_judge 40 = .ok (.if_icmp .ne 11, 3) := by decide +kernel
theorem dX7_judge_43 : decode cX7_judge 43 = .ok (.aload_n 0, 1) := by decide +kernel
theorem dX7_judge_44 : decode cX7_judge 44 = .ok (.getfield 30, 3) := by decide +kernel
theorem dX7_judge_47 : decode cX7_judge 47 = .ok (.getfield 130, 3) := by decide +kernel
theorem dX7_judge_50 : decode cX7_judge 50 = .ok (.ireturn, 1) := by decide +kernel
theorem dX7_judge_51 : decode cX7_judge 51 = .ok (.iload_n 2, 1) := by decide +kernel
theorem dX7_judge_52 : decode cX7_judge 52 = .ok (.ifCond .eq 5, 3) := by decide +kernel
theorem dX7_judge_55 : decode cX7_judge 55 = .ok (.iload_n 2, 1) := by decide +kernel
theorem dX7_judge_56 : decode cX7_judge 56 = .ok (.ireturn, 1) := by decide +kernel
theorem dX7_judge_57 : decode cX7_judge 57 = .ok (.aload_n 0, 1) := by decide +kernel
theorem dX7_judge_58 : decode cX7_judge 58 = .ok (.getfield 30, 3) := by decide +kernel
theorem dX7_judge_61 : decode cX7_judge 61 = .ok (.getfield 133, 3) := by decide +kernel
theorem dX7_judge_64 : decode cX7_judge 64 = .ok (.getfield 134, 3) := by decide +kernel
theorem dX7_judge_67 : decode cX7_judge 67 = .ok (.iload_n 1, 1) := by decide +kernel
theorem dX7_judge_68 : decode cX7_judge 68 = .ok (.iconst 2, 1) := by decide +kernel
theorem dX7_judge_69 : decode cX7_judge 69 = .ok (.isub, 1) := by decide +kernel
theorem dX7_judge_70 : decode cX7_judge 70 = .ok (.iaload, 1) := by decide +kernel
theorem dX7_judge_71 : decode cX7_judge 71 = .ok (.aload_n 0, 1) := by decide +kernel
theorem dX7_judge_72 : decode cX7_judge 72 = .ok (.getfield 10, 3) := by decide +kernel
theorem dX7_judge_75 : decode cX7_judge 75 = .ok (.getfield 45, 3) := by decide +kernel
theorem dX7_judge_78 : decode cX7_judge 78 = .ok (.getfield 134, 3) := by decide +kernel
theorem dX7_judge_81 : decode cX7_judge 81 = .ok (.iload_n 1, 1) := by decide +kernel
theorem dX7_judge_82 : decode cX7_judge 82 = .ok (.iconst 2, 1) := by decide +kernel
theorem dX7_judge_83 : decode cX7_judge 83 = .ok (.isub, 1) := by decide +kernel
theorem dX7_judge_84 : decode cX7_judge 84 = .ok (.iaload, 1) := by decide +kernel
theorem dX7_judge_85 : decode cX7_judge 85 = .ok (.isub, 1) := by decide +kernel
theorem dX7_judge_86 : decode cX7_judge 86 = .ok (.ireturn, 1) := by decide +kernel
set_option maxRecDepth 20000 in
theorem ggX7_heat_X7_playDay : GoodIn wsX7_heat wsX7_playDay := goodIn_r _ [8, 9, 10, 11, 12, 1, 13, 14, 15, 16, 17, 18, 19, 20, 21, 22, 7, 23, 24, 25, 26, 27, 28, 29, 30, 31, 32, 33, 34, 35, 36, 37, 38, 39, 40, 41, 42, 43, 44, 45, 46, 47, 48, 49, 50, 51, 52, 53, 54, 55, 56, 57, 58, 59, 60, 61, 62, 63, 64, 65, 66, 67, 68, 69, 70, 71, 72, 73, 74, 75, 76, 77, 78, 79, 80, 81, 82, 83, 84, 85, 86, 87, 88, 89, 90, 91, 92, 93, 94, 95, 96, 97, 98, 99, 100, 101, 102, 103, 104, 105, 106, 107, 108, 109, 110, 111, 112, 113, 114, 115, 116, 117, 118, 119, 120, 121, 122, 123, 124, 125, 126, 127, 128, 129, 130, 131, 132, 133, 134, 135, 136, 137, 138, 155, 156, 157, 144, 145, 146, 147, 148, 149, 150, 151, 152, 153, 154, 139, 140, 141, 142, 143, 158, 159, 160, 161, 162, 163, 164] (by decide +kernel) (by decide +kernel)
set_option maxRecDepth 20000 in
theorem gX7_heat_X7_playDay : GoodIn wsX7_heat (wsV RX7 123 RX7 yX7_playDay wsX7_playDay) := goodIn_app (goodIn_of _ (by decide +kernel)) ggX7_heat_X7_playDay
theorem dX7_heat_0 : decode cX7_heat 0 = .ok (.aload_n 0, 1) := by decide +kernel
theorem dX7_heat_1 : decode cX7_heat 1 = .ok (.invokevirtual 123, 3) := by decide +kernel
theorem dX7_heat_4 : decode cX7_heat 4 = .ok (.istore_n 1, 1) := by decide +kernel
theorem dX7_heat_5 : decode cX7_heat 5 = .ok (.iload_n 1, 1) := by decide +kernel
theorem dX7_heat_6 : decode cX7_heat 6 = .ok (.ifCond .eq 7, 3) := by decide +kernel
theorem dX7_heat_9 : decode cX7_heat 9 = .ok (.iload_n 1, 1) := by decide +kernel
theorem dX7_heat_10 : decode cX7_heat 10 = .ok (.goto 13, 3) := by decide +kernel
theorem dX7_heat_13 : decode cX7_heat 13 = .ok (.aload_n 0, 1) := by decide +kernel
theorem dX7_heat_14 : decode cX7_heat 14 = .ok (.getfield 30, 3) := by decide +kernel
theorem dX7_heat_17 : decode cX7_heat 17 = .ok (.getfield 133, 3) := by decide +kernel
theorem dX7_heat_20 : decode cX7_heat 20 = .ok (.getfield 65, 3) := by decide +kernel
theorem dX7_heat_23 : decode cX7_heat 23 = .ok (.ireturn, 1) := by decide +kernel
set_option maxRecDepth 20000 in
theorem ggX7_behind_X7_refuseCell : GoodIn wsX7_behind wsX7_refuseCell := goodIn_r _ [7, 8, 9, 10, 11, 12, 13, 14, 15, 16, 6, 17, 18, 19, 20, 21, 22, 23, 146, 147, 148, 149, 150, 156, 157, 158, 159, 160, 161, 162, 163, 164, 165, 166, 167, 168, 169] (by decide +kernel) (by decide +kernel)
set_option maxRecDepth 20000 in
theorem gX7_behind_X7_refuseCell : GoodIn wsX7_behind (wsV RX7 137 RX7 yX7_refuseCell wsX7_refuseCell) := goodIn_app (goodIn_of _ (by decide +kernel)) ggX7_behind_X7_refuseCell
set_option maxRecDepth 20000 in
theorem ggX7_behind_X7_playDay : GoodIn wsX7_behind wsX7_playDay := goodIn_r _ [27, 28, 8, 9, 29, 1, 30, 31, 32, 33, 34, 35, 36, 37, 38, 16, 6, 17, 39, 40, 41, 42, 43, 44, 45, 46, 47, 48, 49, 50, 51, 52, 53, 13, 54, 15, 22, 55, 56, 57, 58, 59, 60, 61, 62, 63, 64, 65, 66, 67, 68, 11, 12, 14, 69, 70, 71, 72, 73, 74, 75, 76, 77, 78, 79, 80, 81, 82, 83, 84, 85, 86, 87, 88, 23, 89, 90, 91, 92, 93, 94, 95, 96, 97, 98, 99, 100, 101, 102, 103, 104, 105, 106, 107, 108, 109, 110, 111, 112, 113, 114, 115, 116, 117, 118, 119, 120, 121, 122, 123, 124, 125, 126, 127, 128, 129, 130, 131, 132, 133, 134, 135, 136, 137, 138, 139, 140, 141, 146, 147, 148, 149, 150, 156, 157, 158, 159, 160, 161, 162, 163, 164, 165, 166, 167, 168, 169, 151, 152, 153, 154, 155, 170, 171, 172, 173, 174, 175, 176] (by decide +kernel) (by decide +kernel)
set_option maxRecDepth 20000 in
theorem gX7_behind_X7_playDay : GoodIn wsX7_behind (wsV RX7 123 RX7 yX7_playDay wsX7_playDay) := goodIn_app (goodIn_of _ (by decide +kernel)) ggX7_behind_X7_playDay
set_option maxRecDepth 20000 in
theorem ggX7_behind_X3_tellCell : GoodIn wsX7_behind wsX3_tellCell := goodIn_r _ [145, 64, 65, 66, 105, 106, 13, 107, 159, 160, 161, 162, 163, 164, 165, 166, 167, 168, 169] (by decide +kernel) (by decide +kernel)
set_option maxRecDepth 20000 in
theorem gX7_behind_X3_tellCell : GoodIn wsX7_behind (wsV RX7 141 RX3 yX3_tellCell wsX3_tellCell) := goodIn_app (goodIn_of _ (by decide +kernel)) ggX7_behind_X3_tellCell
theorem dX7_behind_0 : decode cX7_behind 0 = .ok (.aload_n 0, 1) := by decide +kernel
theorem dX7_behind_1 : decode cX7_behind 1 = .ok (.iload_n 1, 1) := by decide +kernel
theorem dX7_behind_2 : decode cX7_behind 2 = .ok (.iload_n 2, 1) := by decide +kernel
theorem dX7_behind_3 : decode cX7_behind 3 = .ok (.iload_n 3, 1) := by decide +kernel
theorem dX7_behind_4 : decode cX7_behind 4 = .ok (.invokevirtual 137, 3) := by decide +kernel
theorem dX7_behind_7 : decode cX7_behind 7 = .ok (.istore 4, 2) := by decide +kernel
theorem dX7_behind_9 : decode cX7_behind 9 = .ok (.iload 4, 2) := by decide +kernel
theorem dX7_behind_11 : decode cX7_behind 11 = .ok (.ifCond .eq 6, 3) := by decide +kernel
theorem dX7_behind_14 : decode cX7_behind 14 = .ok (.iload 4, 2) := by decide +kernel
theorem dX7_behind_16 : decode cX7_behind 16 = .ok (.ireturn, 1) := by decide +kernel
theorem dX7_behind_17 : decode cX7_behind 17 = .ok (.aload_n 0, 1) := by decide +kernel
theorem dX7_behind_18 : decode cX7_behind 18 = .ok (.invokevirtual 123, 3) := by decide +kernel
theorem dX7_behind_21 : decode cX7_behind 21 = .ok (.istore 4, 2) := by decide +kernel
theorem dX7_behind_23 : decode cX7_behind 23 = .ok (.iload 4, 2) := by decide +kernel
theorem dX7_behind_25 : decode cX7_behind 25 = .ok (.ifCond .eq 8, 3) := by decide +kernel
theorem dX7_behind_28 : decode cX7_behind 28 = .ok (.iload 4, 2) := by decide +kernel
theorem dX7_behind_30 : decode cX7_behind 30 = .ok (.goto 16, 3) := by decide +kernel
theorem dX7_behind_33 : decode cX7_behind 33 = .ok (.aload_n 0, 1) := by decide +kernel
theorem dX7_behind_34 : decode cX7_behind 34 = .ok (.getfield 30, 3) := by decide +kernel
theorem dX7_behind_37 : decode cX7_behind 37 = .ok (.getfield 133, 3) := by decide +kernel
theorem dX7_behind_40 : decode cX7_behind 40 = .ok (.iload_n 1, 1) := by decide +kernel
theorem dX7_behind_41 : decode cX7_behind 41 = .ok (.iload_n 2, 1) := by decide +kernel
theorem dX7_behind_42 : decode cX7_behind 42 = .ok (.iload_n 3, 1) := by decide +kernel
theorem dX7_behind_43 : decode cX7_behind 43 = .ok (.invokevirtual 141, 3) := by decide +kernel
theorem dX7_behind_46 : decode cX7_behind 46 = .ok (.ireturn, 1) := by decide +kernel
set_option maxRecDepth 20000 in
theorem ggX7_done_X7_playDay : GoodIn wsX7_done wsX7_playDay := goodIn_r _ [12, 5, 1, 2, 13, 3, 14, 15, 16, 17, 18, 19, 20, 21, 22, 23, 11, 24, 25, 26, 27, 28, 29, 30, 31, 32, 33, 34, 35, 36, 37, 38, 39, 40, 41, 42, 43, 44, 45, 46, 47, 48, 49, 50, 51, 52, 53, 54, 55, 56, 57, 58, 59, 60, 61, 62, 63, 64, 65, 66, 67, 68, 69, 70, 71, 72, 73, 74, 75, 76, 77, 78, 79, 80, 81, 82, 83, 84, 85, 86, 87, 88, 89, 90, 91, 92, 93, 94, 95, 96, 97, 98, 99, 100, 101, 102, 103, 104, 105, 106, 107, 108, 109, 110, 111, 112, 113, 114, 115, 116, 117, 118, 119, 120, 121, 122, 123, 124, 125, 126, 127, 128, 129, 130, 131, 132, 133, 134, 136, 137, 138, 139, 140, 141, 142, 143, 151, 152, 153, 154, 155, 156, 157, 158, 159, 160, 161, 144, 145, 146, 147, 148, 149, 150, 162, 163, 164, 165, 166] (by decide +kernel) (by decide +kernel)
set_option maxRecDepth 20000 in
theorem gX7_done_X7_playDay : GoodIn wsX7_done (wsV RX7 123 RX7 yX7_playDay wsX7_playDay) := goodIn_app (goodIn_of _ (by decide +kernel)) ggX7_done_X7_playDay
set_option maxRecDepth 20000 in
theorem ggX7_done_X3_copyFrom : GoodIn wsX7_done wsX3_copyFrom := goodIn_r _ [41, 42, 43, 44, 45, 46, 47, 48, 49, 50, 51, 52, 53, 54, 55, 56, 151, 152, 153, 154, 155, 156, 157, 158, 159, 160, 161] (by decide +kernel) (by decide +kernel)
set_option maxRecDepth 20000 in
theorem gX7_done_X3_copyFrom : GoodIn wsX7_done (wsV RX7 144 RX3 yX3_copyFrom wsX3_copyFrom) := goodIn_app (goodIn_of _ (by decide +kernel)) ggX7_done_X3_copyFrom
theorem dX7_done_0 : decode cX7_done 0 = .ok (.aload_n 0, 1) := by decide +kernel
theorem dX7_done_1 : decode cX7_done 1 = .ok (.invokevirtual 123, 3) := by decide +kernel
theorem dX7_done_4 : decode cX7_done 4 = .ok (.istore_n 1, 1) := by decide +kernel
theorem dX7_done_5 : decode cX7_done 5 = .ok (.iload_n 1, 1) := by decide +kernel
theorem dX7_done_6 : decode cX7_done 6 = .ok (.ifCond .eq 5, 3) := by decide +kernel
theorem dX7_done_9 : decode cX7_done 9 = .ok (.iload_n 1, 1) := by decide +kernel
theorem dX7_done_10 : decode cX7_done 10 = .ok (.ireturn, 1) := by decide +kernel
theorem dX7_done_11 : decode cX7_done 11 = .ok (.aload_n 0, 1) := by decide +kernel
theorem dX7_done_12 : decode cX7_done 12 = .ok (.getfield 10, 3) := by decide +kernel
theorem dX7_done_15 : decode cX7_done 15 = .ok (.getfield 45, 3) := by decide +kernel
theorem dX7_done_18 : decode cX7_done 18 = .ok (.aload_n 0, 1) := by decide +kernel
theorem dX7_done_19 : decode cX7_done 19 = .ok (.getfield 30, 3) := by decide +kernel
theorem dX7_done_22 : decode cX7_done 22 = .ok (.getfield 133, 3) := by decide +kernel
theorem dX7_done_25 : decode cX7_done 25 = .ok (.invokevirtual 144, 3) := by decide +kernel
theorem dX7_done_28 : decode cX7_done 28 = .ok (.aload_n 0, 1) := by decide +kernel
theorem dX7_done_29 : decode cX7_done 29 = .ok (.getfield 23, 3) := by decide +kernel
theorem dX7_done_32 : decode cX7_done 32 = .ok (.iconst 0, 1) := by decide +kernel
theorem dX7_done_33 : decode cX7_done 33 = .ok (.putfield 113, 3) := by decide +kernel
theorem dX7_done_36 : decode cX7_done 36 = .ok (.aload_n 0, 1) := by decide +kernel
theorem dX7_done_37 : decode cX7_done 37 = .ok (.getfield 30, 3) := by decide +kernel
theorem dX7_done_40 : decode cX7_done 40 = .ok (.getfield 148, 3) := by decide +kernel
theorem dX7_done_43 : decode cX7_done 43 = .ok (.ireturn, 1) := by decide +kernel
set_option maxRecDepth 20000 in
theorem ggX7_out_X7_within : GoodIn wsX7_out wsX7_within := goodIn_r _ [7] (by decide +kernel) (by decide +kernel)
set_option maxRecDepth 20000 in
theorem gX7_out_X7_within : GoodIn wsX7_out (va_wsS RX7 41 yX7_within wsX7_within) := goodIn_app (goodIn_of _ (by decide +kernel)) ggX7_out_X7_within
theorem dX7_out_0 : decode cX7_out 0 = .ok (.iload_n 1, 1) := by decide +kernel
theorem dX7_out_1 : decode cX7_out 1 = .ok (.iconst 0, 1) := by decide +kernel
theorem dX7_out_2 : decode cX7_out 2 = .ok (.iconst 3, 1) := by decide +kernel
theorem dX7_out_3 : decode cX7_out 3 = .ok (.invokestatic 41, 3) := by decide +kernel
theorem dX7_out_6 : decode cX7_out 6 = .ok (.ifCond .eq 18, 3) := by decide +kernel
theorem dX7_out_9 : decode cX7_out 9 = .ok (.aload_n 0, 1) := by decide +kernel
theorem dX7_out_10 : decode cX7_out 10 = .ok (.getfield 10, 3) := by decide +kernel
theorem dX7_out_13 : decode cX7_out 13 = .ok (.getfield 45, 3) := by decide +kernel
theorem dX7_out_16 : decode cX7_out 16 = .ok (.getfield 134, 3) := by decide +kernel
theorem dX7_out_19 : decode cX7_out 19 = .ok (.iload_n 1, 1) := by decide +kernel
theorem dX7_out_20 : decode cX7_out 20 = .ok (.iaload, 1) := by decide +kernel
theorem dX7_out_21 : decode cX7_out 21 = .ok (.goto 5, 3) := by decide +kernel
theorem dX7_out_24 : decode cX7_out 24 = .ok (.bipush (-2), 2) := by decide +kernel
theorem dX7_out_26 : decode cX7_out 26 = .ok (.ireturn, 1) := by decide +kernel
set_option maxRecDepth 20000 in
theorem ggX7_state_X7_refuseCell : GoodIn wsX7_state wsX7_refuseCell := goodIn_r _ [7, 1, 2, 8, 9, 10, 11, 12, 13, 14, 6, 15, 16, 17, 18, 19, 20, 21, 32, 33, 34, 35, 36, 37, 38, 39, 40, 41, 42, 43, 44, 45, 46, 47, 48, 49, 50] (by decide +kernel) (by decide +kernel)
set_option maxRecDepth 20000 in
theorem gX7_state_X7_refuseCell : GoodIn wsX7_state (wsV RX7 137 RX7 yX7_refuseCell wsX7_refuseCell) := goodIn_app (goodIn_of _ (by decide +kernel)) ggX7_state_X7_refuseCell
set_option maxRecDepth 20000 in
theorem ggX7_state_X3_tellCell : GoodIn wsX7_state wsX3_tellCell := goodIn_r _ [25, 26, 27, 28, 29, 30, 11, 31, 40, 41, 42, 43, 44, 45, 46, 47, 48, 49, 50] (by decide +kernel) (by decide +kernel)
set_option maxRecDepth 20000 in
theorem gX7_state_X3_tellCell : GoodIn wsX7_state (wsV RX7 141 RX3 yX3_tellCell wsX3_tellCell) := goodIn_app (goodIn_of _ (by decide +kernel)) ggX7_state_X3_tellCell
theorem dX7_state_0 : decode cX7_state 0 = .ok (.aload_n 0, 1) := by decide +kernel
theorem dX7_state_1 : decode cX7_state 1 = .ok (.iload_n 1, 1) := by decide +kernel
theorem dX7_state_2 : decode cX7_state 2 = .ok (.iload_n 2, 1) := by decide +kernel
theorem dX7_state_3 : decode cX7_state 3 = .ok (.iload_n 3, 1) := by decide +kernel
theorem dX7_state_4 : decode cX7_state 4 = .ok (.invokevirtual 137, 3) := by decide +kernel
theorem dX7_state_7 : decode cX7_state 7 = .ok (.istore 4, 2) := by decide +kernel
theorem dX7_state_9 : decode cX7_state 9 = .ok (.iload 4, 2) := by decide +kernel
theorem dX7_state_11 : decode cX7_state 11 = .ok (.ifCond .eq 8, 3) := by decide +kernel
theorem dX7_state_14 : decode cX7_state 14 = .ok (.iload 4, 2) := by decide +kernel
theorem dX7_state_16 : decode cX7_state 16 = .ok (.goto 16, 3) := by decide +kernel
theorem dX7_state_19 : decode cX7_state 19 = .ok (.aload_n 0, 1) := by decide +kernel
theorem dX7_state_20 : decode cX7_state 20 = .ok (.getfield 10, 3) := by decide +kernel
theorem dX7_state_23 : decode cX7_state 23 = .ok (.getfield 45, 3) := by decide +kernel
theorem dX7_state_26 : decode cX7_state 26 = .ok (.iload_n 1, 1) := by decide +kernel
theorem dX7_state_27 : decode cX7_state 27 = .ok (.iload_n 2, 1) := by decide +kernel
theorem dX7_state_28 : decode cX7_state 28 = .ok (.iload_n 3, 1) := by decide +kernel
theorem dX7_state_29 : decode cX7_state 29 = .ok (.invokevirtual 141, 3) := by decide +kernel
theorem dX7_state_32 : decode cX7_state 32 = .ok (.ireturn, 1) := by decide +kernel
set_option maxRecDepth 20000 in
theorem ggX7_spoilt_X7_playDay : GoodIn wsX7_spoilt wsX7_playDay := goodIn_r _ [7, 8, 9, 10, 11, 1, 12, 13, 14, 15, 16, 17, 18, 19, 20, 21, 6, 22, 23, 24, 25, 26, 27, 28, 29, 30, 31, 32, 33, 34, 35, 36, 37, 38, 39, 40, 41, 42, 43, 44, 45, 46, 47, 48, 49, 50, 51, 52, 53, 54, 55, 56, 57, 58, 59, 60, 61, 62, 63, 64, 65, 66, 67, 68, 69, 70, 71, 72, 73, 74, 75, 76, 77, 78, 79, 80, 81, 82, 83, 84, 85, 86, 87, 88, 89, 90, 91, 92, 93, 94, 95, 96, 97, 98, 99, 100, 101, 102, 103, 104, 105, 106, 107, 108, 109, 110, 111, 112, 113, 114, 115, 116, 117, 118, 119, 120, 121, 122, 123, 124, 125, 126, 127, 128, 129, 130, 131, 132, 133, 134, 135, 136, 137, 143, 144, 145, 146, 147, 148, 149, 150, 151, 152, 153, 154, 155, 156, 138, 139, 140, 141, 142, 157, 158, 159, 160, 161, 162, 163] (by decide +kernel) (by decide +kernel)
set_option maxRecDepth 20000 in
theorem gX7_spoilt_X7_playDay : GoodIn wsX7_spoilt (wsV RX7 123 RX7 yX7_playDay wsX7_playDay) := goodIn_app (goodIn_of _ (by decide +kernel)) ggX7_spoilt_X7_playDay
theorem dX7_spoilt_0 : decode cX7_spoilt 0 = .ok (.aload_n 0, 1) := by decide +kernel
theorem dX7_spoilt_1 : decode cX7_spoilt 1 = .ok (.invokevirtual 123, 3) := by decide +kernel
theorem dX7_spoilt_4 : decode cX7_spoilt 4 = .ok (.istore_n 1, 1) := by decide +kernel
theorem dX7_spoilt_5 : decode cX7_spoilt 5 = .ok (.iload_n 1, 1) := by decide +kernel
theorem dX7_spoilt_6 : decode cX7_spoilt 6 = .ok (.ifCond .eq 7, 3) := by decide +kernel
theorem dX7_spoilt_9 : decode cX7_spoilt 9 = .ok (.iload_n 1, 1) := by decide +kernel
theorem dX7_spoilt_10 : decode cX7_spoilt 10 = .ok (.goto 10, 3) := by decide +kernel
theorem dX7_spoilt_13 : decode cX7_spoilt 13 = .ok (.aload_n 0, 1) := by decide +kernel
theorem dX7_spoilt_14 : decode cX7_spoilt 14 = .ok (.getfield 30, 3) := by decide +kernel
theorem dX7_spoilt_17 : decode cX7_spoilt 17 = .ok (.getfield 151, 3) := by decide +kernel
theorem dX7_spoilt_20 : decode cX7_spoilt 20 = .ok (.ireturn, 1) := by decide +kernel
set_option maxRecDepth 20000 in
theorem ggX7_ripe_X6_has : GoodIn wsX7_ripe wsX6_has := goodIn_r _ [10, 11, 12, 13, 14, 15, 16, 17, 65, 66, 67, 68, 69] (by decide +kernel) (by decide +kernel)
set_option maxRecDepth 20000 in
theorem gX7_ripe_X6_has : GoodIn wsX7_ripe (wsV RX7 154 RX6 yX6_has wsX6_has) := goodIn_app (goodIn_of _ (by decide +kernel)) ggX7_ripe_X6_has
set_option maxRecDepth 20000 in
theorem ggX7_ripe_X3_hasPlace : GoodIn wsX7_ripe wsX3_hasPlace := goodIn_r _ [22, 23, 16, 13, 17, 54, 55, 56, 57, 58, 59, 60, 61, 62, 63, 64] (by decide +kernel) (by decide +kernel)
set_option maxRecDepth 20000 in
theorem gX7_ripe_X3_hasPlace : GoodIn wsX7_ripe (wsV RX7 74 RX3 yX3_hasPlace wsX3_hasPlace) := goodIn_app (goodIn_of _ (by decide +kernel)) ggX7_ripe_X3_hasPlace
set_option maxRecDepth 20000 in
theorem ggX7_ripe_X7_within : GoodIn wsX7_ripe wsX7_within := goodIn_r _ [17] (by decide +kernel) (by decide +kernel)
set_option maxRecDepth 20000 in
theorem gX7_ripe_X7_within : GoodIn wsX7_ripe (va_wsS RX7 41 yX7_within wsX7_within) := goodIn_app (goodIn_of _ (by decide +kernel)) ggX7_ripe_X7_within
set_option maxRecDepth 20000 in
theorem ggX7_ripe_X3_rateAt : GoodIn wsX7_ripe wsX3_rateAt := goodIn_r _ [27, 28, 29, 54, 55, 56, 57, 58, 59, 60, 61, 62, 63, 64] (by decide +kernel) (by decide +kernel)
set_option maxRecDepth 20000 in
theorem gX7_ripe_X3_rateAt : GoodIn wsX7_ripe (wsV RX7 157 RX3 yX3_rateAt wsX3_rateAt) := goodIn_app (goodIn_of _ (by decide +kernel)) ggX7_ripe_X3_rateAt
set_option maxRecDepth 20000 in
theorem ggX7_ripe_X7_firstMinute : GoodIn wsX7_ripe wsX7_firstMinute := goodIn_r _ [32, 33, 34, 13, 35, 36, 37, 38, 39] (by decide +kernel) (by decide +kernel)
set_option maxRecDepth 20000 in
theorem gX7_ripe_X7_firstMinute : GoodIn wsX7_ripe (va_wsS RX7 160 yX7_firstMinute wsX7_firstMinute) := goodIn_app (goodIn_of _ (by decide +kernel)) ggX7_ripe_X7_firstMinute
set_option maxRecDepth 20000 in
theorem ggX7_ripe_X6_burntFrom : GoodIn wsX7_ripe wsX6_burntFrom := goodIn_r _ [43, 44, 45, 65, 66, 67, 68, 69] (by decide +kernel) (by decide +kernel)
set_option maxRecDepth 20000 in
theorem gX7_ripe_X6_burntFrom : GoodIn wsX7_ripe (wsV RX7 163 RX6 yX6_burntFrom wsX6_burntFrom) := goodIn_app (goodIn_of _ (by decide +kernel)) ggX7_ripe_X6_burntFrom
theorem dX7_ripe_0 : decode cX7_ripe 0 = .ok (.aload_n 0, 1) := by decide +kernel
theorem dX7_ripe_1 : decode cX7_ripe 1 = .ok (.getfield 10, 3) := by decide +kernel
theorem dX7_ripe_4 : decode cX7_ripe 4 = .ok (.getfield 85, 3) := by decide +kernel
theorem dX7_ripe_7 : decode cX7_ripe 7 = .ok (.iload_n 1, 1) := by decide +kernel
theorem dX7_ripe_8 : decode cX7_ripe 8 = .ok (.invokevirtual 154, 3) := by decide +kernel
theorem dX7_ripe_11 : decode cX7_ripe 11 = .ok (.ifCond .eq 17, 3) := by decide +kernel
theorem dX7_ripe_14 : decode cX7_ripe 14 = .ok (.aload_n 0, 1) := by decide +kernel
theorem dX7_ripe_15 : decode cX7_ripe 15 = .ok (.getfield 10, 3) := by decide +kernel
theorem dX7_ripe_18 : decode cX7_ripe 18 = .ok (.getfield 45, 3) := by decide +kernel
theorem dX7_ripe_21 : decode cX7_ripe 21 = .ok (.iload_n 2, 1) := by decide +kernel
theorem dX7_ripe_22 : decode cX7_ripe 22 = .ok (.invokevirtual 74, 3) := by decide +kernel
theorem dX7_ripe_25 : decode cX7_ripe 25 = .ok (.ifCond .ne 5, 3) := by decide +kernel
theorem dX7_ripe_28 : decode cX7_ripe 28 = .ok (.iconst (-1), 1) := by decide +kernel
theorem dX7_ripe_29 : decode cX7_ripe 29 = .ok (.ireturn, 1) := by decide +kernel
theorem dX7_ripe_30 : decode cX7_ripe 30 = .ok (.iload_n 3, 1) := by decide +kernel
theorem dX7_ripe_31 : decode cX7_ripe 31 = .ok (.iconst 0, 1) := by decide +kernel
theorem dX7_ripe_32 : decode cX7_ripe 32 = .ok (.iconst 1, 1) := by decide +kernel
theorem dX7_ripe_33 : decode cX7_ripe 33 = .ok (.invokestatic 41, 3) := by decide +kernel
theorem dX7_ripe_36 : decode cX7_ripe 36 = .ok (.ifCond .ne 6, 3) := by decide +kernel
theorem dX7_ripe_39 : decode cX7_ripe 39 = .ok (.bipush (-2), 2) := by decide +kernel
theorem dX7_ripe_41 : decode cX7_ripe 41 = .ok (.ireturn, 1) := by decide +kernel
theorem dX7_ripe_42 : decode cX7_ripe 42 = .ok (.aload_n 0, 1) := by decide +kernel
theorem dX7_ripe_43 : decode cX7_ripe 43 = .ok (.getfield 10, 3) := by decide +kernel
theorem dX7_ripe_46 : decode cX7_ripe 46 = .ok (.getfield 45, 3) := by decide +kernel
theorem dX7_ripe_49 : decode cX7_ripe 49 = .ok (.iload_n 2, 1) := by decide +kernel
theorem dX7_ripe_50 : decode cX7_ripe 50 = .ok (.invokevirtual 157, 3) := by decide +kernel
theorem dX7_ripe_53 : decode cX7_ripe 53 = .ok (.istore 4, 2) := by decide +kernel
theorem dX7_ripe_55 : decode cX7_ripe 55 = .ok (.iload 4, 2) := by decide +kernel
theorem dX7_ripe_57 : decode cX7_ripe 57 = .ok (.aload_n 0, 1) := by decide +kernel
theorem dX7_ripe_58 : decode cX7_ripe 58 = .ok (.getfield 10, 3) := by decide +kernel
theorem dX7_ripe_61 : decode cX7_ripe 61 = .ok (.getfield 45, 3) := by decide +kernel
theorem dX7_ripe_64 : decode cX7_ripe 64 = .ok (.getfield 68, 3) := by decide +kernel
theorem dX7_ripe_67 : decode cX7_ripe 67 = .ok (.aload_n 0, 1) := by decide +kernel
theorem dX7_ripe_68 : decode cX7_ripe 68 = .ok (.getfield 10, 3) := by decide +kernel
theorem dX7_ripe_71 : decode cX7_ripe 71 = .ok (.getfield 85, 3) := by decide +kernel
theorem dX7_ripe_74 : decode cX7_ripe 74 = .ok (.getfield 94, 3) := by decide +kernel
theorem dX7_ripe_77 : decode cX7_ripe 77 = .ok (.iload_n 1, 1) := by decide +kernel
theorem dX7_ripe_78 : decode cX7_ripe 78 = .ok (.iaload, 1) := by decide +kernel
theorem dX7_ripe_79 : decode cX7_ripe 79 = .ok (.invokestatic 160, 3) := by decide +kernel
theorem dX7_ripe_82 : decode cX7_ripe 82 = .ok (.istore 5, 2) := by decide +kernel
theorem dX7_ripe_84 : decode cX7_ripe 84 = .ok (.iload 4, 2) := by decide +kernel
theorem dX7_ripe_86 : decode cX7_ripe 86 = .ok (.aload_n 0, 1) := by decide +kernel
theorem dX7_ripe_87 : decode cX7_ripe 87 = .ok (.getfield 10, 3) := by decide +kernel
theorem dX7_ripe_90 : decode cX7_ripe 90 = .ok (.getfield 45, 3) := by decide +kernel
theorem dX7_ripe_93 : decode cX7_ripe 93 = .ok (.getfield 68, 3) := by decide +kernel
theorem dX7_ripe_96 : decode cX7_ripe 96 = .ok (.aload_n 0, 1) := by decide +kernel
theorem dX7_ripe_97 : decode cX7_ripe 97 = .ok (.getfield 10, 3) := by decide +kernel
theorem dX7_ripe_100 : decode cX7_ripe 100 = .ok (.getfield 85, 3) := by decide +kernel
theorem dX7_ripe_103 : decode cX7_ripe 103 = .ok (.iload_n 1, 1) := by decide +kernel
theorem dX7_ripe_104 : decode cX7_ripe 104 = .ok (.invokevirtual 163, 3) := by decide +kernel
theorem dX7_ripe_107 : decode cX7_ripe 107 = .ok (.invokestatic 160, 3) := by decide +kernel
theorem dX7_ripe_110 : decode cX7_ripe 110 = .ok (.istore 6, 2) := by decide +kernel
theorem dX7_ripe_112 : decode cX7_ripe 112 = .ok (.iload 5, 2) := by decide +kernel
theorem dX7_ripe_114 : decode cX7_ripe 114 = .ok (.iload 6, 2) := by decide +kernel
theorem dX7_ripe_116 : decode cX7_ripe 116 = .ok (.if_icmp .lt 6, 3) := by decide +kernel
theorem dX7_ripe_119 : decode cX7_ripe 119 = .ok (.bipush (-6), 2) := by decide +kernel
theorem dX7_ripe_121 : decode cX7_ripe 121 = .ok (.ireturn, 1) := by decide +kernel
theorem dX7_ripe_122 : decode cX7_ripe 122 = .ok (.iload_n 3, 1) := by decide +kernel
theorem dX7_ripe_123 : decode cX7_ripe 123 = .ok (.ifCond .ne 8, 3) := by decide +kernel
theorem dX7_ripe_126 : decode cX7_ripe 126 = .ok (.iload 5, 2) := by decide +kernel
theorem dX7_ripe_128 : decode cX7_ripe 128 = .ok (.goto 7, 3) := by decide +kernel
theorem dX7_ripe_131 : decode cX7_ripe 131 = .ok (.iload 6, 2) := by decide +kernel
theorem dX7_ripe_133 : decode cX7_ripe 133 = .ok (.iconst 1, 1) := by decide +kernel
theorem dX7_ripe_134 : decode cX7_ripe 134 = .ok (.isub, 1) := by decide +kernel
theorem dX7_ripe_135 : decode cX7_ripe 135 = .ok (.ireturn, 1) := by decide +kernel
set_option maxRecDepth 20000 in
theorem ggX7_hot_X7_within : GoodIn wsX7_hot wsX7_within := goodIn_r _ [8] (by decide +kernel) (by decide +kernel)
set_option maxRecDepth 20000 in
theorem gX7_hot_X7_within : GoodIn wsX7_hot (va_wsS RX7 41 yX7_within wsX7_within) := goodIn_app (goodIn_of _ (by decide +kernel)) ggX7_hot_X7_within
theorem dX7_hot_0 : decode cX7_hot 0 = .ok (.iload_n 1, 1) := by decide +kernel
theorem dX7_hot_1 : decode cX7_hot 1 = .ok (.iconst 0, 1) := by decide +kernel
theorem dX7_hot_2 : decode cX7_hot 2 = .ok (.bipush 99, 2) := by decide +kernel
theorem dX7_hot_4 : decode cX7_hot 4 = .ok (.invokestatic 41, 3) := by decide +kernel
theorem dX7_hot_7 : decode cX7_hot 7 = .ok (.ifCond .ne 6, 3) := by decide +kernel
theorem dX7_hot_10 : decode cX7_hot 10 = .ok (.bipush (-2), 2) := by decide +kernel
theorem dX7_hot_12 : decode cX7_hot 12 = .ok (.ireturn, 1) := by decide +kernel
theorem dX7_hot_13 : decode cX7_hot 13 = .ok (.aload_n 0, 1) := by decide +kernel
theorem dX7_hot_14 : decode cX7_hot 14 = .ok (.getfield 10, 3) := by decide +kernel
theorem dX7_hot_17 : decode cX7_hot 17 = .ok (.getfield 45, 3) := by decide +kernel
theorem dX7_hot_20 : decode cX7_hot 20 = .ok (.getfield 65, 3) := by decide +kernel
theorem dX7_hot_23 : decode cX7_hot 23 = .ok (.iload_n 1, 1) := by decide +kernel
theorem dX7_hot_24 : decode cX7_hot 24 = .ok (.isub, 1) := by decide +kernel
theorem dX7_hot_25 : decode cX7_hot 25 = .ok (.istore_n 2, 1) := by decide +kernel
theorem dX7_hot_26 : decode cX7_hot 26 = .ok (.iload_n 2, 1) := by decide +kernel
theorem dX7_hot_27 : decode cX7_hot 27 = .ok (.ifCond .ge 5, 3) := by decide +kernel
theorem dX7_hot_30 : decode cX7_hot 30 = .ok (.iconst 0, 1) := by decide +kernel
theorem dX7_hot_31 : decode cX7_hot 31 = .ok (.ireturn, 1) := by decide +kernel
theorem dX7_hot_32 : decode cX7_hot 32 = .ok (.aload_n 0, 1) := by decide +kernel
theorem dX7_hot_33 : decode cX7_hot 33 = .ok (.getfield 10, 3) := by decide +kernel
theorem dX7_hot_36 : decode cX7_hot 36 = .ok (.getfield 45, 3) := by decide +kernel
theorem dX7_hot_39 : decode cX7_hot 39 = .ok (.getfield 68, 3) := by decide +kernel
theorem dX7_hot_42 : decode cX7_hot 42 = .ok (.istore_n 3, 1) := by decide +kernel
theorem dX7_hot_43 : decode cX7_hot 43 = .ok (.iload_n 1, 1) := by decide +kernel
theorem dX7_hot_44 : decode cX7_hot 44 = .ok (.ifCond .eq 7, 3) := by decide +kernel
theorem dX7_hot_47 : decode cX7_hot 47 = .ok (.iload_n 3, 1) := by decide +kernel
theorem dX7_hot_48 : decode cX7_hot 48 = .ok (.ifCond .gt 8, 3) := by decide +kernel
theorem dX7_hot_51 : decode cX7_hot 51 = .ok (.bipush (-6), 2) := by decide +kernel
theorem dX7_hot_53 : decode cX7_hot 53 = .ok (.goto 8, 3) := by decide +kernel
theorem dX7_hot_56 : decode cX7_hot 56 = .ok (.iload_n 2, 1) := by decide +kernel
theorem dX7_hot_57 : decode cX7_hot 57 = .ok (.iload_n 3, 1) := by decide +kernel
theorem dX7_hot_58 : decode cX7_hot 58 = .ok (.idiv, 1) := by decide +kernel
theorem dX7_hot_59 : decode cX7_hot 59 = .ok (.iconst 1, 1) := by decide +kernel
theorem dX7_hot_60 : decode cX7_hot 60 = .ok (.iadd, 1) := by decide +kernel
theorem dX7_hot_61 : decode cX7_hot 61 = .ok (.ireturn, 1) := by decide +kernel
set_option maxRecDepth 20000 in
theorem ggX7_still_X7_within : GoodIn wsX7_still wsX7_within := goodIn_r _ [13] (by decide +kernel) (by decide +kernel)
set_option maxRecDepth 20000 in
theorem gX7_still_X7_within : GoodIn wsX7_still (va_wsS RX7 41 yX7_within wsX7_within) := goodIn_app (goodIn_of _ (by decide +kernel)) ggX7_still_X7_within
set_option maxRecDepth 20000 in
theorem ggX7_still_X6_has : GoodIn wsX7_still wsX6_has := goodIn_r _ [18, 19, 20, 12, 21, 10, 11, 13, 63, 64, 65, 66, 67] (by decide +kernel) (by decide +kernel)
set_option maxRecDepth 20000 in
theorem gX7_still_X6_has : GoodIn wsX7_still (wsV RX7 154 RX6 yX6_has wsX6_has) := goodIn_app (goodIn_of _ (by decide +kernel)) ggX7_still_X6_has
set_option maxRecDepth 20000 in
theorem ggX7_still_X7_canBeRipe : GoodIn wsX7_still wsX7_canBeRipe := goodIn_r _ [25, 1, 2, 26, 27, 4, 9, 28, 29, 30, 12, 31, 32, 33, 34, 35, 36, 7, 37, 38, 39, 40, 17, 41, 42, 43, 44, 45, 46, 47, 48, 49, 50, 51, 52, 53, 54, 55, 56, 57, 58, 59, 60, 61, 62, 63, 64, 65, 66, 67] (by decide +kernel) (by decide +kernel)
set_option maxRecDepth 20000 in
theorem gX7_still_X7_canBeRipe : GoodIn wsX7_still (wsV RX7 172 RX7 yX7_canBeRipe wsX7_canBeRipe) := goodIn_app (goodIn_of _ (by decide +kernel)) ggX7_still_X7_canBeRipe
theorem dX7_still_0 : decode cX7_still 0 = .ok (.iload_n 1, 1) := by decide +kernel
theorem dX7_still_1 : decode cX7_still 1 = .ok (.iconst 0, 1) := by decide +kernel
theorem dX7_still_2 : decode cX7_still 2 = .ok (.sipush 999, 3) := by decide +kernel
theorem dX7_still_5 : decode cX7_still 5 = .ok (.invokestatic 41, 3) := by decide +kernel
theorem dX7_still_8 : decode cX7_still 8 = .ok (.ifCond .ne 6, 3) := by decide +kernel
theorem dX7_still_11 : decode cX7_still 11 = .ok (.bipush (-2), 2) := by decide +kernel
theorem dX7_still_13 : decode cX7_still 13 = .ok (.ireturn, 1) := by decide +kernel
theorem dX7_still_14 : decode cX7_still 14 = .ok (.iconst 0, 1) := by decide +kernel
theorem dX7_still_15 : decode cX7_still 15 = .ok (.aload_n 0, 1) := by decide +kernel
theorem dX7_still_16 : decode cX7_still 16 = .ok (.getfield 10, 3) := by decide +kernel
theorem dX7_still_19 : decode cX7_still 19 = .ok (.getfield 45, 3) := by decide +kernel
theorem dX7_still_22 : decode cX7_still 22 = .ok (.getfield 65, 3) := by decide +kernel
theorem dX7_still_25 : decode cX7_still 25 = .ok (.iload_n 1, 1) := by decide +kernel
theorem dX7_still_26 : decode cX7_still 26 = .ok (.aload_n 0, 1) := by decide +kernel
theorem dX7_still_27 : decode cX7_still 27 = .ok (.getfield 10, 3) := by decide +kernel
theorem dX7_still_30 : decode cX7_still 30 = .ok (.getfield 45, 3) := by decide +kernel
theorem dX7_still_33 : decode cX7_still 33 = .ok (.getfield 68, 3) := by decide +kernel
theorem dX7_still_36 : decode cX7_still 36 = .ok (.imul, 1) := by decide +kernel
theorem dX7_still_37 : decode cX7_still 37 = .ok (.isub, 1) := by decide +kernel
theorem dX7_still_38 : decode cX7_still 38 = .ok (.invokestatic 166, 3) := by decide +kernel
theorem dX7_still_41 : decode cX7_still 41 = .ok (.istore_n 2, 1) := by decide +kernel
theorem dX7_still_42 : decode cX7_still 42 = .ok (.iconst 0, 1) := by decide +kernel
theorem dX7_still_43 : decode cX7_still 43 = .ok (.istore_n 3, 1) := by decide +kernel
theorem dX7_still_44 : decode cX7_still 44 = .ok (.iconst 0, 1) := by decide +kernel
theorem dX7_still_45 : decode cX7_still 45 = .ok (.istore 4, 2) := by decide +kernel
theorem dX7_still_47 : decode cX7_still 47 = .ok (.iload 4, 2) := by decide +kernel
theorem dX7_still_49 : decode cX7_still 49 = .ok (.bipush 6, 2) := by decide +kernel
theorem dX7_still_51 : decode cX7_still 51 = .ok (.if_icmp .ge 41, 3) := by decide +kernel
theorem dX7_still_54 : decode cX7_still 54 = .ok (.aload_n 0, 1) := by decide +kernel
theorem dX7_still_55 : decode cX7_still 55 = .ok (.getfield 10, 3) := by decide +kernel
theorem dX7_still_58 : decode cX7_still 58 = .ok (.getfield 85, 3) := by decide +kernel
theorem dX7_still_61 : decode cX7_still 61 = .ok (.iload 4, 2) := by decide +kernel
theorem dX7_still_63 : decode cX7_still 63 = .ok (.invokevirtual 154, 3) := by decide +kernel
theorem dX7_still_66 : decode cX7_still 66 = .ok (.ifCond .eq 20, 3) := by decide +kernel
theorem dX7_still_69 : decode cX7_still 69 = .ok (.aload_n 0, 1) := by decide +kernel
theorem dX7_still_70 : decode cX7_still 70 = .ok (.iload 4, 2) := by decide +kernel
theorem dX7_still_72 : decode cX7_still 72 = .ok (.iload_n 2, 1) := by decide +kernel
theorem dX7_still_73 : decode cX7_still 73 = .ok (.invokevirtual 172, 3) := by decide +kernel
theorem dX7_still_76 : decode cX7_still 76 = .ok (.ifCond .eq 10, 3) := by decide +kernel
theorem dX7_still_79 : decode cX7_still 79 = .ok (.iload_n 3, 1) := by decide +kernel
theorem dX7_still_80 : decode cX7_still 80 = .ok (.iconst 1, 1) := by decide +kernel
theorem dX7_still_81 : decode cX7_still 81 = .ok (.iload 4, 2) := by decide +kernel
theorem dX7_still_83 : decode cX7_still 83 = .ok (.ishl, 1) := by decide +kernel
theorem dX7_still_84 : decode cX7_still 84 = .ok (.ior, 1) := by decide +kernel
theorem dX7_still_85 : decode cX7_still 85 = .ok (.istore_n 3, 1) := by decide +kernel
theorem dX7_still_86 : decode cX7_still 86 = .ok (.iinc 4 1, 3) := by decide +kernel
theorem dX7_still_89 : decode cX7_still 89 = .ok (.goto (-42), 3) := by decide +kernel
theorem dX7_still_92 : decode cX7_still 92 = .ok (.iload_n 3, 1) := by decide +kernel
theorem dX7_still_93 : decode cX7_still 93 = .ok (.ireturn, 1) := by decide +kernel
set_option maxRecDepth 20000 in
theorem ggX7_orders_X7_refuseLoaves : GoodIn wsX7_orders wsX7_refuseLoaves := goodIn_r _ [14, 15, 1, 2, 5, 16, 17, 13, 18, 19, 20, 21, 22, 23, 24, 25, 26, 27, 28, 29, 30, 31, 32, 33, 34, 35, 36, 37, 102, 103, 104, 105, 106, 107, 108, 109, 121, 122, 123, 124, 125, 126, 127, 128, 129, 130, 131, 132, 133, 134, 135, 136, 137, 138, 139] (by decide +kernel) (by decide +kernel)
set_option maxRecDepth 20000 in
theorem gX7_orders_X7_refuseLoaves : GoodIn wsX7_orders (wsV RX7 176 RX7 yX7_refuseLoaves wsX7_refuseLoaves) := goodIn_app (goodIn_of _ (by decide +kernel)) ggX7_orders_X7_refuseLoaves
set_option maxRecDepth 20000 in
theorem ggX7_orders_X1_foresee : GoodIn wsX7_orders wsX1_foresee := goodIn_r _ [41, 24, 42, 43, 44, 45, 46, 37, 47, 48, 49, 50, 51, 52, 53, 22, 54, 55, 13, 56, 57, 58, 59, 60, 61, 62, 63, 28, 64, 65, 66, 121, 122, 123, 124, 125, 126, 127, 128, 129, 130, 131, 132, 133, 134, 110, 111, 112, 113, 114, 115, 116, 117, 118, 119, 120, 135, 136, 137, 138, 139] (by decide +kernel) (by decide +kernel)
set_option maxRecDepth 20000 in
theorem gX7_orders_X1_foresee : GoodIn wsX7_orders (wsV RX7 179 RX1 yX1_foresee wsX1_foresee) := goodIn_app (goodIn_of _ (by decide +kernel)) ggX7_orders_X1_foresee
set_option maxRecDepth 20000 in
theorem ggX7_orders_X1_tryAllLoaves : GoodIn wsX7_orders wsX1_tryAllLoaves := goodIn_r _ [70, 37, 71, 24, 72, 73, 74, 75, 76, 77, 78, 22, 79, 80, 81, 82, 43, 44, 45, 46, 83, 84, 85, 86, 48, 87, 88, 89, 51, 52, 53, 54, 90, 91, 92, 93, 94, 95, 96, 97, 98, 99, 100, 101, 121, 122, 123, 124, 125, 126, 127, 128, 129, 130, 131, 132, 133, 134] (by decide +kernel) (by decide +kernel)
set_option maxRecDepth 20000 in
theorem gX7_orders_X1_tryAllLoaves : GoodIn wsX7_orders (wsV RX7 186 RX1 yX1_tryAllLoaves wsX1_tryAllLoaves) := goodIn_app (goodIn_of _ (by decide +kernel)) ggX7_orders_X1_tryAllLoaves
theorem dX7_orders_0 : decode cX7_orders 0 = .ok (.aload_n 0, 1) := by decide +kernel
theorem dX7_orders_1 : decode cX7_orders 1 = .ok (.iload_n 1, 1) := by decide +kernel
theorem dX7_orders_2 : decode cX7_orders 2 = .ok (.iload_n 2, 1) := by decide +kernel
theorem dX7_orders_3 : decode cX7_orders 3 = .ok (.invokevirtual 176, 3) := by decide +kernel
theorem dX7_orders_6 : decode cX7_orders 6 = .ok (.istore_n 3, 1) := by decide +kernel
theorem dX7_orders_7 : decode cX7_orders 7 = .ok (.iload_n 3, 1) := by decide +kernel
theorem dX7_orders_8 : decode cX7_orders 8 = .ok (.ifCond .eq 5, 3) := by decide +kernel
theorem dX7_orders_11 : decode cX7_orders 11 = .ok (.iload_n 3, 1) := by decide +kernel
theorem dX7_orders_12 : decode cX7_orders 12 = .ok (.ireturn, 1) := by decide +kernel
theorem dX7_orders_13 : decode cX7_orders 13 = .ok (.aload_n 0, 1) := by decide +kernel
theorem dX7_orders_14 : decode cX7_orders 14 = .ok (.getfield 37, 3) := by decide +kernel
theorem dX7_orders_17 : decode cX7_orders 17 = .ok (.aload_n 0, 1) := by decide +kernel
theorem dX7_orders_18 : decode cX7_orders 18 = .ok (.getfield 10, 3) := by decide +kernel
theorem dX7_orders_21 : decode cX7_orders 21 = .ok (.getfield 45, 3) := by decide +kernel
theorem dX7_orders_24 : decode cX7_orders 24 = .ok (.getfield 65, 3) := by decide +kernel
theorem dX7_orders_27 : decode cX7_orders 27 = .ok (.aload_n 0, 1) := by decide +kernel
theorem dX7_orders_28 : decode cX7_orders 28 = .ok (.getfield 10, 3) := by decide +kernel
theorem dX7_orders_31 : decode cX7_orders 31 = .ok (.getfield 45, 3) := by decide +kernel
theorem dX7_orders_34 : decode cX7_orders 34 = .ok (.aload_n 0, 1) := by decide +kernel
theorem dX7_orders_35 : decode cX7_orders 35 = .ok (.getfield 10, 3) := by decide +kernel
theorem dX7_orders_38 : decode cX7_orders 38 = .ok (.getfield 85, 3) := by decide +kernel
theorem dX7_orders_41 : decode cX7_orders 41 = .ok (.invokevirtual 179, 3) := by decide +kernel
theorem dX7_orders_44 : decode cX7_orders 44 = .ok (.aload_n 0, 1) := by decide +kernel
theorem dX7_orders_45 : decode cX7_orders 45 = .ok (.getfield 37, 3) := by decide +kernel
theorem dX7_orders_48 : decode cX7_orders 48 = .ok (.aload_n 0, 1) := by decide +kernel
theorem dX7_orders_49 : decode cX7_orders 49 = .ok (.getfield 10, 3) := by decide +kernel
theorem dX7_orders_52 : decode cX7_orders 52 = .ok (.getfield 45, 3) := by decide +kernel
theorem dX7_orders_55 : decode cX7_orders 55 = .ok (.getfield 183, 3) := by decide +kernel
theorem dX7_orders_58 : decode cX7_orders 58 = .ok (.invokevirtual 186, 3) := by decide +kernel
theorem dX7_orders_61 : decode cX7_orders 61 = .ok (.iload_n 2, 1) := by decide +kernel
theorem dX7_orders_62 : decode cX7_orders 62 = .ok (.ifCond .ne 11, 3) := by decide +kernel
theorem dX7_orders_65 : decode cX7_orders 65 = .ok (.aload_n 0, 1) := by decide +kernel
theorem dX7_orders_66 : decode cX7_orders 66 = .ok (.getfield 37, 3) := by decide +kernel
theorem dX7_orders_69 : decode cX7_orders 69 = .ok (.getfield 190, 3) := by decide +kernel
theorem dX7_orders_72 : decode cX7_orders 72 = .ok (.ireturn, 1) := by decide +kernel
theorem dX7_orders_73 : decode cX7_orders 73 = .ok (.iload_n 2, 1) := by decide +kernel
theorem dX7_orders_74 : decode cX7_orders 74 = .ok (.iconst 1, 1) := by decide +kernel
theorem dX7_orders_75 : decode cX7_orders 75 = .ok (.if_icmp .ne 13, 3) := by decide +kernel
theorem dX7_orders_78 : decode cX7_orders 78 = .ok (.aload_n 0, 1) := by decide +kernel
theorem dX7_orders_79 : decode cX7_orders 79 = .ok (.getfield 37, 3) := by decide +kernel
theorem dX7_orders_82 : decode cX7_orders 82 = .ok (.getfield 193, 3) := by decide +kernel
theorem dX7_orders_85 : decode cX7_orders 85 = .ok (.goto 10, 3) := by decide +kernel
theorem dX7_orders_88 : decode cX7_orders 88 = .ok (.aload_n 0, 1) := by decide +kernel
theorem dX7_orders_89 : decode cX7_orders 89 = .ok (.getfield 37, 3) := by decide +kernel
theorem dX7_orders_92 : decode cX7_orders 92 = .ok (.getfield 196, 3) := by decide +kernel
theorem dX7_orders_95 : decode cX7_orders 95 = .ok (.ireturn, 1) := by decide +kernel
set_option maxRecDepth 20000 in
theorem ggX7_two_X7_refuseLoaves : GoodIn wsX7_two wsX7_refuseLoaves := goodIn_r _ [16, 17, 1, 3, 7, 18, 19, 15, 20, 21, 22, 23, 24, 25, 26, 27, 28, 29, 30, 31, 32, 33, 34, 35, 36, 37, 38, 39, 114, 115, 116, 117, 118, 133, 134, 135, 119, 120, 121, 122, 123, 124, 125, 126, 127, 128, 129, 130, 131, 132, 147, 148, 149, 150, 151] (by decide +kernel) (by decide +kernel)
set_option maxRecDepth 20000 in
theorem gX7_two_X7_refuseLoaves : GoodIn wsX7_two (wsV RX7 176 RX7 yX7_refuseLoaves wsX7_refuseLoaves) := goodIn_app (goodIn_of _ (by decide +kernel)) ggX7_two_X7_refuseLoaves
set_option maxRecDepth 20000 in
theorem ggX7_two_X1_foresee : GoodIn wsX7_two wsX1_foresee := goodIn_r _ [43, 26, 44, 45, 46, 47, 48, 39, 49, 50, 51, 52, 53, 54, 55, 24, 56, 57, 15, 58, 59, 60, 61, 62, 63, 64, 65, 30, 66, 67, 68, 119, 120, 121, 122, 123, 124, 125, 126, 127, 128, 129, 130, 131, 132, 136, 137, 138, 139, 140, 141, 142, 143, 144, 145, 146, 147, 148, 149, 150, 151] (by decide +kernel) (by decide +kernel)
set_option maxRecDepth 20000 in
theorem gX7_two_X1_foresee : GoodIn wsX7_two (wsV RX7 179 RX1 yX1_foresee wsX1_foresee) := goodIn_app (goodIn_of _ (by decide +kernel)) ggX7_two_X1_foresee
set_option maxRecDepth 20000 in
theorem ggX7_two_X1_shareOut : GoodIn wsX7_two wsX1_shareOut := goodIn_r _ [72, 26, 45, 46, 47, 48, 73, 74, 75, 76, 77, 78, 24, 79, 80, 39, 81, 82, 83, 84, 85, 86, 87, 88, 89, 90, 91, 92, 50, 93, 94, 95, 53, 54, 55, 56, 96, 97, 98, 99, 100, 101, 102, 103, 104, 105, 106, 107, 108, 109, 110, 111, 112, 113, 119, 120, 121, 122, 123, 124, 125, 126, 127, 128, 129, 130, 131, 132, 147, 148, 149, 150, 151] (by decide +kernel) (by decide +kernel)
set_option maxRecDepth 20000 in
theorem gX7_two_X1_shareOut : GoodIn wsX7_two (wsV RX7 200 RX1 yX1_shareOut wsX1_shareOut) := goodIn_app (goodIn_of _ (by decide +kernel)) ggX7_two_X1_shareOut
theorem dX7_two_0 : decode cX7_two 0 = .ok (.aload_n 0, 1) := by decide +kernel
theorem dX7_two_1 : decode cX7_two 1 = .ok (.iload_n 1, 1) := by decide +kernel
theorem dX7_two_2 : decode cX7_two 2 = .ok (.iload_n 2, 1) := by decide +kernel
theorem dX7_two_3 : decode cX7_two 3 = .ok (.invokevirtual 176, 3) := by decide +kernel
theorem dX7_two_6 : decode cX7_two 6 = .ok (.istore_n 3, 1) := by decide +kernel
theorem dX7_two_7 : decode cX7_two 7 = .ok (.iload_n 3, 1) := by decide +kernel
theorem dX7_two_8 : decode cX7_two 8 = .ok (.ifCond .eq 5, 3) := by decide +kernel
theorem dX7_two_11 : decode cX7_two 11 = .ok (.iload_n 3, 1) := by decide +kernel
theorem dX7_two_12 : decode cX7_two 12 = .ok (.ireturn, 1) := by decide +kernel
theorem dX7_two_13 : decode cX7_two 13 = .ok (.aload_n 0, 1) := by decide +kernel
theorem dX7_two_14 : decode cX7_two 14 = .ok (.getfield 37, 3) := by decide +kernel
theorem dX7_two_17 : decode cX7_two 17 = .ok (.getfield 199, 3) := by decide +kernel
theorem dX7_two_20 : decode cX7_two 20 = .ok (.iconst 4, 1) := by decide +kernel
theorem dX7_two_21 : decode cX7_two 21 = .ok (.if_icmp .le 6, 3) := by decide +kernel
theorem dX7_two_24 : decode cX7_two 24 = .ok (.bipush (-4), 2) := by decide +kernel
theorem dX7_two_26 : decode cX7_two 26 = .ok (.ireturn, 1) := by decide +kernel
theorem dX7_two_27 : decode cX7_two 27 = .ok (.aload_n 0, 1) := by decide +kernel
theorem dX7_two_28 : decode cX7_two 28 = .ok (.getfield 10, 3) := by decide +kernel
theorem dX7_two_31 : decode cX7_two 31 = .ok (.getfield 45, 3) := by decide +kernel
theorem dX7_two_34 : decode cX7_two 34 = .ok (.getfield 117, 3) := by decide +kernel
theorem dX7_two_37 : decode cX7_two 37 = .ok (.iconst 2, 1) := by decide +kernel
theorem dX7_two_38 : decode cX7_two 38 = .ok (.if_icmp .ge 6, 3) := by decide +kernel
theorem dX7_two_41 : decode cX7_two 41 = .ok (.bipush (-3), 2) := by decide +kernel
theorem dX7_two_43 : decode cX7_two 43 = .ok (.ireturn, 1) := by decide +kernel
theorem dX7_two_44 : decode cX7_two 44 = .ok (.aload_n 0, 1) := by decide +kernel
theorem dX7_two_45 : decode cX7_two 45 = .ok (.getfield 37, 3) := by decide +kernel
theorem dX7_two_48 : decode cX7_two 48 = .ok (.aload_n 0, 1) := by decide +kernel
theorem dX7_two_49 : decode cX7_two 49 = .ok (.getfield 10, 3) := by decide +kernel
theorem dX7_two_52 : decode cX7_two 52 = .ok (.getfield 45, 3) := by decide +kernel
theorem dX7_two_55 : decode cX7_two 55 = .ok (.getfield 65, 3) := by decide +kernel
theorem dX7_two_58 : decode cX7_two 58 = .ok (.aload_n 0, 1) := by decide +kernel
theorem dX7_two_59 : decode cX7_two 59 = .ok (.getfield 10, 3) := by decide +kernel
theorem dX7_two_62 : decode cX7_two 62 = .ok (.getfield 45, 3) := by decide +kernel
theorem dX7_two_65 : decode cX7_two 65 = .ok (.aload_n 0, 1) := by decide +kernel
theorem dX7_two_66 : decode cX7_two 66 = .ok (.getfield 10, 3) := by decide +kernel
theorem dX7_two_69 : decode cX7_two 69 = .ok (.getfield 85, 3) := by decide +kernel
theorem dX7_two_72 : decode cX7_two 72 = .ok (.invokevirtual 179, 3) := by decide +kernel
theorem dX7_two_75 : decode cX7_two 75 = .ok (.aload_n 0, 1) := by decide +kernel
theorem dX7_two_76 : decode cX7_two 76 = .ok (.getfield 37, 3) := by decide +kernel
theorem dX7_two_79 : decode cX7_two 79 = .ok (.aload_n 0, 1) := by decide +kernel
theorem dX7_two_80 : decode cX7_two 80 = .ok (.getfield 10, 3) := by decide +kernel
theorem dX7_two_83 : decode cX7_two 83 = .ok (.getfield 45, 3) := by decide +kernel
theorem dX7_two_86 : decode cX7_two 86 = .ok (.getfield 183, 3) := by decide +kernel
theorem dX7_two_89 : decode cX7_two 89 = .ok (.aload_n 0, 1) := by decide +kernel
theorem dX7_two_90 : decode cX7_two 90 = .ok (.getfield 10, 3) := by decide +kernel
theorem dX7_two_93 : decode cX7_two 93 = .ok (.getfield 85, 3) := by decide +kernel
theorem dX7_two_96 : decode cX7_two 96 = .ok (.invokevirtual 200, 3) := by decide +kernel
theorem dX7_two_99 : decode cX7_two 99 = .ok (.iload_n 2, 1) := by decide +kernel
theorem dX7_two_100 : decode cX7_two 100 = .ok (.ifCond .ne 11, 3) := by decide +kernel
theorem dX7_two_103 : decode cX7_two 103 = .ok (.aload_n 0, 1) := by decide +kernel
theorem dX7_two_104 : decode cX7_two 104 = .ok (.getfield 37, 3) := by decide +kernel
theorem dX7_two_107 : decode cX7_two 107 = .ok (.getfield 204, 3) := by decide +kernel
theorem dX7_two_110 : decode cX7_two 110 = .ok (.ireturn, 1) := by decide +kernel
theorem dX7_two_111 : decode cX7_two 111 = .ok (.iload_n 2, 1) := by decide +kernel
theorem dX7_two_112 : decode cX7_two 112 = .ok (.iconst 1, 1) := by decide +kernel
theorem dX7_two_113 : decode cX7_two 113 = .ok (.if_icmp .ne 13, 3) := by decide +kernel
theorem dX7_two_116 : decode cX7_two 116 = .ok (.aload_n 0, 1) := by decide +kernel
theorem dX7_two_117 : decode cX7_two 117 = .ok (.getfield 37, 3) := by decide +kernel
theorem dX7_two_120 : decode cX7_two 120 = .ok (.getfield 207, 3) := by decide +kernel
theorem dX7_two_123 : decode cX7_two 123 = .ok (.goto 10, 3) := by decide +kernel
theorem dX7_two_126 : decode cX7_two 126 = .ok (.aload_n 0, 1) := by decide +kernel
theorem dX7_two_127 : decode cX7_two 127 = .ok (.getfield 37, 3) := by decide +kernel
theorem dX7_two_130 : decode cX7_two 130 = .ok (.getfield 210, 3) := by decide +kernel
theorem dX7_two_133 : decode cX7_two 133 = .ok (.ireturn, 1) := by decide +kernel
set_option maxRecDepth 20000 in
theorem ggX7_warm_X7_refuseLoaves : GoodIn wsX7_warm wsX7_refuseLoaves := goodIn_r _ [11, 12, 1, 3, 6, 13, 14, 10, 15, 16, 17, 18, 19, 20, 21, 22, 23, 24, 25, 26, 27, 28, 29, 30, 31, 32, 33, 34, 83, 84, 85, 86, 87, 102, 103, 104, 88, 89, 90, 91, 92, 93, 94, 95, 96, 97, 98, 99, 100, 101, 116, 117, 118, 119, 120] (by decide +kernel) (by decide +kernel)
set_option maxRecDepth 20000 in
theorem gX7_warm_X7_refuseLoaves : GoodIn wsX7_warm (wsV RX7 176 RX7 yX7_refuseLoaves wsX7_refuseLoaves) := goodIn_app (goodIn_of _ (by decide +kernel)) ggX7_warm_X7_refuseLoaves
set_option maxRecDepth 20000 in
theorem ggX7_warm_X1_foresee : GoodIn wsX7_warm wsX1_foresee := goodIn_r _ [38, 21, 39, 40, 41, 42, 43, 34, 44, 45, 46, 47, 48, 49, 50, 19, 51, 52, 10, 53, 54, 55, 56, 57, 58, 59, 60, 25, 61, 62, 63, 88, 89, 90, 91, 92, 93, 94, 95, 96, 97, 98, 99, 100, 101, 105, 106, 107, 108, 109, 110, 111, 112, 113, 114, 115, 116, 117, 118, 119, 120] (by decide +kernel) (by decide +kernel)
set_option maxRecDepth 20000 in
theorem gX7_warm_X1_foresee : GoodIn wsX7_warm (wsV RX7 179 RX1 yX1_foresee wsX1_foresee) := goodIn_app (goodIn_of _ (by decide +kernel)) ggX7_warm_X1_foresee
set_option maxRecDepth 20000 in
theorem ggX7_warm_X1_hasSomeOrder : GoodIn wsX7_warm wsX1_hasSomeOrder := goodIn_r _ [67, 21, 68, 69, 70, 71, 72, 73, 74, 75, 76, 77, 78, 19, 79, 34, 48, 40, 41, 42, 43, 45, 80, 81, 82, 49, 50, 51, 88, 89, 90, 91, 92, 93, 94, 95, 96, 97, 98, 99, 100, 101] (by decide +kernel) (by decide +kernel)
set_option maxRecDepth 20000 in
theorem gX7_warm_X1_hasSomeOrder : GoodIn wsX7_warm (wsV RX7 213 RX1 yX1_hasSomeOrder wsX1_hasSomeOrder) := goodIn_app (goodIn_of _ (by decide +kernel)) ggX7_warm_X1_hasSomeOrder
theorem dX7_warm_0 : decode cX7_warm 0 = .ok (.aload_n 0, 1) := by decide +kernel
theorem dX7_warm_1 : decode cX7_warm 1 = .ok (.iload_n 1, 1) := by decide +kernel
theorem dX7_warm_2 : decode cX7_warm 2 = .ok (.iconst 0, 1) := by decide +kernel
theorem dX7_warm_3 : decode cX7_warm 3 = .ok (.invokevirtual 176, 3) := by decide +kernel
theorem dX7_warm_6 : decode cX7_warm 6 = .ok (.istore_n 2, 1) := by decide +kernel
theorem dX7_warm_7 : decode cX7_warm 7 = .ok (.iload_n 2, 1) := by decide +kernel
theorem dX7_warm_8 : decode cX7_warm 8 = .ok (.ifCond .eq 5, 3) := by decide +kernel
theorem dX7_warm_11 : decode cX7_warm 11 = .ok (.iload_n 2, 1) := by decide +kernel
theorem dX7_warm_12 : decode cX7_warm 12 = .ok (.ireturn, 1) := by decide +kernel
theorem dX7_warm_13 : decode cX7_warm 13 = .ok (.aload_n 0, 1) := by decide +kernel
theorem dX7_warm_14 : decode cX7_warm 14 = .ok (.getfield 37, 3) := by decide +kernel
theorem dX7_warm_17 : decode cX7_warm 17 = .ok (.getfield 199, 3) := by decide +kernel
theorem dX7_warm_20 : decode cX7_warm 20 = .ok (.aload_n 0, 1) := by decide +kernel
theorem dX7_warm_21 : decode cX7_warm 21 = .ok (.getfield 10, 3) := by decide +kernel
theorem dX7_warm_24 : decode cX7_warm 24 = .ok (.getfield 45, 3) := by decide +kernel
theorem dX7_warm_27 : decode cX7_warm 27 = .ok (.getfield 183, 3) := by decide +kernel
theorem dX7_warm_30 : decode cX7_warm 30 = .ok (.if_icmp .le 6, 3) := by decide +kernel
theorem dX7_warm_33 : decode cX7_warm 33 = .ok (.bipush (-6), 2) := by decide +kernel
theorem dX7_warm_35 : decode cX7_warm 35 = .ok (.ireturn, 1) := by decide +kernel
theorem dX7_warm_36 : decode cX7_warm 36 = .ok (.iconst 0, 1) := by decide +kernel
theorem dX7_warm_37 : decode cX7_warm 37 = .ok (.istore_n 3, 1) := by decide +kernel
theorem dX7_warm_38 : decode cX7_warm 38 = .ok (.iload_n 3, 1) := by decide +kernel
theorem dX7_warm_39 : decode cX7_warm 39 = .ok (.bipush 99, 2) := by decide +kernel
theorem dX7_warm_41 : decode cX7_warm 41 = .ok (.if_icmp .gt 43, 3) := by decide +kernel
theorem dX7_warm_44 : decode cX7_warm 44 = .ok (.aload_n 0, 1) := by decide +kernel
theorem dX7_warm_45 : decode cX7_warm 45 = .ok (.getfield 37, 3) := by decide +kernel
theorem dX7_warm_48 : decode cX7_warm 48 = .ok (.iload_n 3, 1) := by decide +kernel
theorem dX7_warm_49 : decode cX7_warm 49 = .ok (.aload_n 0, 1) := by decide +kernel
theorem dX7_warm_50 : decode cX7_warm 50 = .ok (.getfield 10, 3) := by decide +kernel
theorem dX7_warm_53 : decode cX7_warm 53 = .ok (.getfield 45, 3) := by decide +kernel
theorem dX7_warm_56 : decode cX7_warm 56 = .ok (.aload_n 0, 1) := by decide +kernel
theorem dX7_warm_57 : decode cX7_warm 57 = .ok (.getfield 10, 3) := by decide +kernel
theorem dX7_warm_60 : decode cX7_warm 60 = .ok (.getfield 85, 3) := by decide +kernel
theorem dX7_warm_63 : decode cX7_warm 63 = .ok (.invokevirtual 179, 3) := by decide +kernel
theorem dX7_warm_66 : decode cX7_warm 66 = .ok (.aload_n 0, 1) := by decide +kernel
theorem dX7_warm_67 : decode cX7_warm 67 = .ok (.getfield 37, 3) := by decide +kernel
theorem dX7_warm_70 : decode cX7_warm 70 = .ok (.invokevirtual 213, 3) := by decide +kernel
theorem dX7_warm_73 : decode cX7_warm 73 = .ok (.ifCond .eq 5, 3) := by decide +kernel
theorem dX7_warm_76 : decode cX7_warm 76 = .ok (.iload_n 3, 1) := by decide +kernel
theorem dX7_warm_77 : decode cX7_warm 77 = .ok (.ireturn, 1) := by decide +kernel
theorem dX7_warm_78 : decode cX7_warm 78 = .ok (.iinc 3 1, 3) := by decide +kernel
theorem dX7_warm_81 : decode cX7_warm 81 = .ok (.goto (-43), 3) := by decide +kernel
theorem dX7_warm_84 : decode cX7_warm 84 = .ok (.bipush (-6), 2) := by decide +kernel
theorem dX7_warm_86 : decode cX7_warm 86 = .ok (.ireturn, 1) := by decide +kernel
set_option maxRecDepth 20000 in
theorem ggX7_seen_X7_within : GoodIn wsX7_seen wsX7_within := goodIn_r _ [8] (by decide +kernel) (by decide +kernel)
set_option maxRecDepth 20000 in
theorem gX7_seen_X7_within : GoodIn wsX7_seen (va_wsS RX7 41 yX7_within wsX7_within) := goodIn_app (goodIn_of _ (by decide +kernel)) ggX7_seen_X7_within
theorem dX7_seen_0 : decode cX7_seen 0 = .ok (.iload_n 1, 1) := by decide +kernel
theorem dX7_seen_1 : decode cX7_seen 1 = .ok (.iconst 0, 1) := by decide +kernel
theorem dX7_seen_2 : decode cX7_seen 2 = .ok (.sipush 5000, 3) := by decide +kernel
theorem dX7_seen_5 : decode cX7_seen 5 = .ok (.invokestatic 41, 3) := by decide +kernel
theorem dX7_seen_8 : decode cX7_seen 8 = .ok (.ifCond .ne 6, 3) := by decide +kernel
theorem dX7_seen_11 : decode cX7_seen 11 = .ok (.bipush (-2), 2) := by decide +kernel
theorem dX7_seen_13 : decode cX7_seen 13 = .ok (.ireturn, 1) := by decide +kernel
theorem dX7_seen_14 : decode cX7_seen 14 = .ok (.aload_n 0, 1) := by decide +kernel
theorem dX7_seen_15 : decode cX7_seen 15 = .ok (.getfield 10, 3) := by decide +kernel
theorem dX7_seen_18 : decode cX7_seen 18 = .ok (.getfield 55, 3) := by decide +kernel
theorem dX7_seen_21 : decode cX7_seen 21 = .ok (.astore_n 2, 1) := by decide +kernel
theorem dX7_seen_22 : decode cX7_seen 22 = .ok (.aload_n 2, 1) := by decide +kernel
theorem dX7_seen_23 : decode cX7_seen 23 = .ok (.getfield 59, 3) := by decide +kernel
theorem dX7_seen_26 : decode cX7_seen 26 = .ok (.bipush 6, 2) := by decide +kernel
theorem dX7_seen_28 : decode cX7_seen 28 = .ok (.if_icmp .lt 6, 3) := by decide +kernel
theorem dX7_seen_31 : decode cX7_seen 31 = .ok (.bipush (-4), 2) := by decide +kernel
theorem dX7_seen_33 : decode cX7_seen 33 = .ok (.ireturn, 1) := by decide +kernel
theorem dX7_seen_34 : decode cX7_seen 34 = .ok (.aload_n 2, 1) := by decide +kernel
theorem dX7_seen_35 : decode cX7_seen 35 = .ok (.getfield 217, 3) := by decide +kernel
theorem dX7_seen_38 : decode cX7_seen 38 = .ok (.aload_n 2, 1) := by decide +kernel
theorem dX7_seen_39 : decode cX7_seen 39 = .ok (.getfield 59, 3) := by decide +kernel
theorem dX7_seen_42 : decode cX7_seen 42 = .ok (.iload_n 1, 1) := by decide +kernel
theorem dX7_seen_43 : decode cX7_seen 43 = .ok (.iastore, 1) := by decide +kernel
theorem dX7_seen_44 : decode cX7_seen 44 = .ok (.aload_n 2, 1) := by decide +kernel
theorem dX7_seen_45 : decode cX7_seen 45 = .ok (.dup, 1) := by decide +kernel
theorem dX7_seen_46 : decode cX7_seen 46 = .ok (.getfield 59, 3) := by decide +kernel
theorem dX7_seen_49 : decode cX7_seen 49 = .ok (.iconst 1, 1) := by decide +kernel
theorem dX7_seen_50 : decode cX7_seen 50 = .ok (.iadd, 1) := by decide +kernel
theorem dX7_seen_51 : decode cX7_seen 51 = .ok (.putfield 59, 3) := by decide +kernel
theorem dX7_seen_54 : decode cX7_seen 54 = .ok (.aload_n 2, 1) := by decide +kernel
theorem dX7_seen_55 : decode cX7_seen 55 = .ok (.getfield 59, 3) := by decide +kernel
theorem dX7_seen_58 : decode cX7_seen 58 = .ok (.ireturn, 1) := by decide +kernel
theorem dX7_forget_0 : decode cX7_forget 0 = .ok (.aload_n 0, 1) := by decide +kernel
theorem dX7_forget_1 : decode cX7_forget 1 = .ok (.getfield 10, 3) := by decide +kernel
theorem dX7_forget_4 : decode cX7_forget 4 = .ok (.getfield 55, 3) := by decide +kernel
theorem dX7_forget_7 : decode cX7_forget 7 = .ok (.getfield 59, 3) := by decide +kernel
theorem dX7_forget_10 : decode cX7_forget 10 = .ok (.istore_n 1, 1) := by decide +kernel
theorem dX7_forget_11 : decode cX7_forget 11 = .ok (.aload_n 0, 1) := by decide +kernel
theorem dX7_forget_12 : decode cX7_forget 12 = .ok (.getfield 10, 3) := by decide +kernel
theorem dX7_forget_15 : decode cX7_forget 15 = .ok (.getfield 55, 3) := by decide +kernel
theorem dX7_forget_18 : decode cX7_forget 18 = .ok (.iconst 0, 1) := by decide +kernel
theorem dX7_forget_19 : decode cX7_forget 19 = .ok (.putfield 59, 3) := by decide +kernel
theorem dX7_forget_22 : decode cX7_forget 22 = .ok (.iload_n 1, 1) := by decide +kernel
theorem dX7_forget_23 : decode cX7_forget 23 = .ok (.ireturn, 1) := by decide +kernel
set_option maxRecDepth 20000 in
theorem ggX7_stood_X7_within : GoodIn wsX7_stood wsX7_within := goodIn_r _ [10] (by decide +kernel) (by decide +kernel)
set_option maxRecDepth 20000 in
theorem gX7_stood_X7_within : GoodIn wsX7_stood (va_wsS RX7 41 yX7_within wsX7_within) := goodIn_app (goodIn_of _ (by decide +kernel)) ggX7_stood_X7_within
set_option maxRecDepth 20000 in
theorem ggX7_stood_X7_countStays : GoodIn wsX7_stood wsX7_countStays := goodIn_r _ [14, 15, 16, 17, 18, 19, 20, 21, 22, 23, 24, 9, 25, 1, 5, 26, 27, 28, 29, 30, 31, 32, 33, 34, 35, 36, 37, 38, 39, 40, 41, 42, 43, 44, 45, 46, 47, 50, 51, 52, 53, 54, 55, 56, 57, 58, 59, 60] (by decide +kernel) (by decide +kernel)
set_option maxRecDepth 20000 in
theorem gX7_stood_X7_countStays : GoodIn wsX7_stood (wsV RX7 220 RX7 yX7_countStays wsX7_countStays) := goodIn_app (goodIn_of _ (by decide +kernel)) ggX7_stood_X7_countStays
set_option maxRecDepth 20000 in
theorem ggX7_stood_X7_firstStay : GoodIn wsX7_stood wsX7_firstStay := goodIn_r _ [25, 1, 5, 26, 27, 28, 29, 30, 31, 32, 33, 34, 35, 9, 36, 37, 38, 39, 15, 16, 17, 18, 40, 41, 42, 43, 44, 45, 46, 47, 50, 51, 52, 53, 54, 55, 56, 57, 58, 59, 60] (by decide +kernel) (by decide +kernel)
set_option maxRecDepth 20000 in
theorem gX7_stood_X7_firstStay : GoodIn wsX7_stood (wsV RX7 223 RX7 yX7_firstStay wsX7_firstStay) := goodIn_app (goodIn_of _ (by decide +kernel)) ggX7_stood_X7_firstStay
theorem dX7_stood_0 : decode cX7_stood 0 = .ok (.iload_n 1, 1) := by decide +kernel
theorem dX7_stood_1 : decode cX7_stood 1 = .ok (.iconst 0, 1) := by decide +kernel
theorem dX7_stood_2 : decode cX7_stood 2 = .ok (.aload_n 0, 1) := by decide +kernel
theorem dX7_stood_3 : decode cX7_stood 3 = .ok (.getfield 10, 3) := by decide +kernel
theorem dX7_stood_6 : decode cX7_stood 6 = .ok (.getfield 55, 3) := by decide +kernel
theorem dX7_stood_9 : decode cX7_stood 9 = .ok (.getfield 59, 3) := by decide +kernel
theorem dX7_stood_12 : decode cX7_stood 12 = .ok (.iconst 1, 1) := by decide +kernel
theorem dX7_stood_13 : decode cX7_stood 13 = .ok (.isub, 1) := by decide +kernel
theorem dX7_stood_14 : decode cX7_stood 14 = .ok (.invokestatic 41, 3) := by decide +kernel
theorem dX7_stood_17 : decode cX7_stood 17 = .ok (.ifCond .ne 6, 3) := by decide +kernel
theorem dX7_stood_20 : decode cX7_stood 20 = .ok (.bipush (-2), 2) := by decide +kernel
theorem dX7_stood_22 : decode cX7_stood 22 = .ok (.ireturn, 1) := by decide +kernel
theorem dX7_stood_23 : decode cX7_stood 23 = .ok (.iload_n 2, 1) := by decide +kernel
theorem dX7_stood_24 : decode cX7_stood 24 = .ok (.iconst (-1), 1) := by decide +kernel
theorem dX7_stood_25 : decode cX7_stood 25 = .ok (.if_icmp .ge 6, 3) := by decide +kernel
theorem dX7_stood_28 : decode cX7_stood 28 = .ok (.bipush (-6), 2) := by decide +kernel
theorem dX7_stood_30 : decode cX7_stood 30 = .ok (.ireturn, 1) := by decide +kernel
theorem dX7_stood_31 : decode cX7_stood 31 = .ok (.aload_n 0, 1) := by decide +kernel
theorem dX7_stood_32 : decode cX7_stood 32 = .ok (.getfield 10, 3) := by decide +kernel
theorem dX7_stood_35 : decode cX7_stood 35 = .ok (.getfield 55, 3) := by decide +kernel
theorem dX7_stood_38 : decode cX7_stood 38 = .ok (.getfield 217, 3) := by decide +kernel
theorem dX7_stood_41 : decode cX7_stood 41 = .ok (.iload_n 1, 1) := by decide +kernel
theorem dX7_stood_42 : decode cX7_stood 42 = .ok (.iaload, 1) := by decide +kernel
theorem dX7_stood_43 : decode cX7_stood 43 = .ok (.istore_n 3, 1) := by decide +kernel
theorem dX7_stood_44 : decode cX7_stood 44 = .ok (.iconst 0, 1) := by decide +kernel
theorem dX7_stood_45 : decode cX7_stood 45 = .ok (.istore 4, 2) := by decide +kernel
theorem dX7_stood_47 : decode cX7_stood 47 = .ok (.iconst 0, 1) := by decide +kernel
theorem dX7_stood_48 : decode cX7_stood 48 = .ok (.istore 5, 2) := by decide +kernel
theorem dX7_stood_50 : decode cX7_stood 50 = .ok (.iload 5, 2) := by decide +kernel
theorem dX7_stood_52 : decode cX7_stood 52 = .ok (.aload_n 0, 1) := by decide +kernel
theorem dX7_stood_53 : decode cX7_stood 53 = .ok (.getfield 10, 3) := by decide +kernel
theorem dX7_stood_56 : decode cX7_stood 56 = .ok (.getfield 45, 3) := by decide +kernel
theorem dX7_stood_59 : decode cX7_stood 59 = .ok (.getfield 183, 3) := by decide +kernel
theorem dX7_stood_62 : decode cX7_stood 62 = .ok (.if_icmp .ge 57, 3) := by decide +kernel
theorem dX7_stood_65 : decode cX7_stood 65 = .ok (.aload_n 0, 1) := by decide +kernel
theorem dX7_stood_66 : decode cX7_stood 66 = .ok (.iload 5, 2) := by decide +kernel
theorem dX7_stood_68 : decode cX7_stood 68 = .ok (.iload_n 3, 1) := by decide +kernel
theorem dX7_stood_69 : decode cX7_stood 69 = .ok (.invokevirtual 220, 3) := by decide +kernel
theorem dX7_stood_72 : decode cX7_stood 72 = .ok (.istore 6, 2) := by decide +kernel
theorem dX7_stood_74 : decode cX7_stood 74 = .ok (.iload_n 2, 1) := by decide +kernel
theorem dX7_stood_75 : decode cX7_stood 75 = .ok (.ifCond .lt 31, 3) := by decide +kernel
theorem dX7_stood_78 : decode cX7_stood 78 = .ok (.iload_n 2, 1) := by decide +kernel
theorem dX7_stood_79 : decode cX7_stood 79 = .ok (.iload 4, 2) := by decide +kernel
theorem dX7_stood_81 : decode cX7_stood 81 = .ok (.isub, 1) := by decide +kernel
theorem dX7_stood_82 : decode cX7_stood 82 = .ok (.iload 6, 2) := by decide +kernel
theorem dX7_stood_84 : decode cX7_stood 84 = .ok (.if_icmp .ge 22, 3) := by decide +kernel
theorem dX7_stood_87 : decode cX7_stood 87 = .ok (.bipush 100, 2) := by decide +kernel
theorem dX7_stood_89 : decode cX7_stood 89 = .ok (.iload 5, 2) := by decide +kernel
theorem dX7_stood_91 : decode cX7_stood 91 = .ok (.imul, 1) := by decide +kernel
theorem dX7_stood_92 : decode cX7_stood 92 = .ok (.aload_n 0, 1) := by decide +kernel
theorem dX7_stood_93 : decode cX7_stood 93 = .ok (.iload 5, 2) := by decide +kernel
theorem dX7_stood_95 : decode cX7_stood 95 = .ok (.iload_n 3, 1) := by decide +kernel
theorem dX7_stood_96 : decode cX7_stood 96 = .ok (.invokevirtual 223, 3) := by decide +kernel
theorem dX7_stood_99 : decode cX7_stood 99 = .ok (.iadd, 1) := by decide +kernel
theorem dX7_stood_100 : decode cX7_stood 100 = .ok (.iload_n 2, 1) := by decide +kernel
theorem dX7_stood_101 : decode cX7_stood 101 = .ok (.iadd, 1) := by decide +kernel
theorem dX7_stood_102 : decode cX7_stood 102 = .ok (.iload 4, 2) := by decide +kernel
theorem dX7_stood_104 : decode cX7_stood 104 = .ok (.isub, 1) := by decide +kernel
theorem dX7_stood_105 : decode cX7_stood 105 = .ok (.ireturn, 1) := by decide +kernel
theorem dX7_stood_106 : decode cX7_stood 106 = .ok (.iload 4, 2) := by decide +kernel
theorem dX7_stood_108 : decode cX7_stood 108 = .ok (.iload 6, 2) := by decide +kernel
theorem dX7_stood_110 : decode cX7_stood 110 = .ok (.iadd, 1) := by decide +kernel
theorem dX7_stood_111 : decode cX7_stood 111 = .ok (.istore 4, 2) := by decide +kernel
theorem dX7_stood_113 : decode cX7_stood 113 = .ok (.iinc 5 1, 3) := by decide +kernel
theorem dX7_stood_116 : decode cX7_stood 116 = .ok (.goto (-66), 3) := by decide +kernel
theorem dX7_stood_119 : decode cX7_stood 119 = .ok (.iload_n 2, 1) := by decide +kernel
theorem dX7_stood_120 : decode cX7_stood 120 = .ok (.iconst (-1), 1) := by decide +kernel
theorem dX7_stood_121 : decode cX7_stood 121 = .ok (.if_icmp .ne 8, 3) := by decide +kernel
theorem dX7_stood_124 : decode cX7_stood 124 = .ok (.iload 4, 2) := by decide +kernel
theorem dX7_stood_126 : decode cX7_stood 126 = .ok (.goto 5, 3) := by decide +kernel
theorem dX7_stood_129 : decode cX7_stood 129 = .ok (.bipush (-6), 2) := by decide +kernel
theorem dX7_stood_131 : decode cX7_stood 131 = .ok (.ireturn, 1) := by decide +kernel
set_option maxRecDepth 20000 in
theorem ggX7_both_X7_countStays : GoodIn wsX7_both wsX7_countStays := goodIn_r _ [11, 12, 13, 14, 15, 16, 17, 18, 19, 20, 21, 10, 22, 1, 2, 23, 24, 25, 26, 27, 28, 29, 30, 31, 32, 33, 34, 35, 36, 37, 38, 39, 40, 41, 42, 43, 44, 45, 46, 47, 48, 49, 50, 51, 52, 53, 54, 55] (by decide +kernel) (by decide +kernel)
set_option maxRecDepth 20000 in
theorem gX7_both_X7_countStays : GoodIn wsX7_both (wsV RX7 220 RX7 yX7_countStays wsX7_countStays) := goodIn_app (goodIn_of _ (by decide +kernel)) ggX7_both_X7_countStays
theorem dX7_both_0 : decode cX7_both 0 = .ok (.iconst 0, 1) := by decide +kernel
theorem dX7_both_1 : decode cX7_both 1 = .ok (.istore_n 1, 1) := by decide +kernel
theorem dX7_both_2 : decode cX7_both 2 = .ok (.iconst 0, 1) := by decide +kernel
theorem dX7_both_3 : decode cX7_both 3 = .ok (.istore_n 2, 1) := by decide +kernel
theorem dX7_both_4 : decode cX7_both 4 = .ok (.iload_n 2, 1) := by decide +kernel
theorem dX7_both_5 : decode cX7_both 5 = .ok (.aload_n 0, 1) := by decide +kernel
theorem dX7_both_6 : decode cX7_both 6 = .ok (.getfield 10, 3) := by decide +kernel
theorem dX7_both_9 : decode cX7_both 9 = .ok (.getfield 45, 3) := by decide +kernel
theorem dX7_both_12 : decode cX7_both 12 = .ok (.getfield 183, 3) := by decide +kernel
theorem dX7_both_15 : decode cX7_both 15 = .ok (.if_icmp .ge 76, 3) := by decide +kernel
theorem dX7_both_18 : decode cX7_both 18 = .ok (.iconst 1, 1) := by decide +kernel
theorem dX7_both_19 : decode cX7_both 19 = .ok (.istore_n 3, 1) := by decide +kernel
theorem dX7_both_20 : decode cX7_both 20 = .ok (.iconst 0, 1) := by decide +kernel
theorem dX7_both_21 : decode cX7_both 21 = .ok (.istore 4, 2) := by decide +kernel
theorem dX7_both_23 : decode cX7_both 23 = .ok (.iload 4, 2) := by decide +kernel
theorem dX7_both_25 : decode cX7_both 25 = .ok (.aload_n 0, 1) := by decide +kernel
theorem dX7_both_26 : decode cX7_both 26 = .ok (.getfield 10, 3) := by decide +kernel
theorem dX7_both_29 : decode cX7_both 29 = .ok (.getfield 55, 3) := by decide +kernel
theorem dX7_both_32 : decode cX7_both 32 = .ok (.getfield 59, 3) := by decide +kernel
theorem dX7_both_35 : decode cX7_both 35 = .ok (.if_icmp .ge 40, 3) := by decide +kernel
theorem dX7_both_38 : decode cX7_both 38 = .ok (.iload_n 3, 1) := by decide +kernel
theorem dX7_both_39 : decode cX7_both 39 = .ok (.ifCond .eq 36, 3) := by decide +kernel
theorem dX7_both_42 : decode cX7_both 42 = .ok (.aload_n 0, 1) := by decide +kernel
theorem dX7_both_43 : decode cX7_both 43 = .ok (.iload_n 2, 1) := by decide +kernel
theorem dX7_both_44 : decode cX7_both 44 = .ok (.aload_n 0, 1) := by decide +kernel
theorem dX7_both_45 : decode cX7_both 45 = .ok (.getfield 10, 3) := by decide +kernel
theorem dX7_both_48 : decode cX7_both 48 = .ok (.getfield 55, 3) := by decide +kernel
theorem dX7_both_51 : decode cX7_both 51 = .ok (.getfield 217, 3) := by decide +kernel
theorem dX7_both_54 : decode cX7_both 54 = .ok (.iload 4, 2) := by decide +kernel
theorem dX7_both_56 : decode cX7_both 56 = .ok (.iaload, 1) := by decide +kernel
theorem dX7_both_57 : decode cX7_both 57 = .ok (.invokevirtual 220, 3) := by decide +kernel
theorem dX7_both_60 : decode cX7_both 60 = .ok (.ifCond .le 7, 3) := by decide +kernel
theorem dX7_both_63 : decode cX7_both 63 = .ok (.iconst 1, 1) := by decide +kernel
theorem dX7_both_64 : decode cX7_both 64 = .ok (.goto 4, 3) := by decide +kernel
theorem dX7_both_67 : decode cX7_both 67 = .ok (.iconst 0, 1) := by decide +kernel
theorem dX7_both_68 : decode cX7_both 68 = .ok (.istore_n 3, 1) := by decide +kernel
theorem dX7_both_69 : decode cX7_both 69 = .ok (.iinc 4 1, 3) := by decide +kernel
theorem dX7_both_72 : decode cX7_both 72 = .ok (.goto (-49), 3) := by decide +kernel
theorem dX7_both_75 : decode cX7_both 75 = .ok (.iload_n 3, 1) := by decide +kernel
theorem dX7_both_76 : decode cX7_both 76 = .ok (.ifCond .eq 9, 3) := by decide +kernel
theorem dX7_both_79 : decode cX7_both 79 = .ok (.iload_n 1, 1) := by decide +kernel
theorem dX7_both_80 : decode cX7_both 80 = .ok (.iconst 1, 1) := by decide +kernel
theorem dX7_both_81 : decode cX7_both 81 = .ok (.iload_n 2, 1) := by decide +kernel
theorem dX7_both_82 : decode cX7_both 82 = .ok (.ishl, 1) := by decide +kernel
theorem dX7_both_83 : decode cX7_both 83 = .ok (.ior, 1) := by decide +kernel
theorem dX7_both_84 : decode cX7_both 84 = .ok (.istore_n 1, 1) := by decide +kernel
theorem dX7_both_85 : decode cX7_both 85 = .ok (.iinc 2 1, 3) := by decide +kernel
theorem dX7_both_88 : decode cX7_both 88 = .ok (.goto (-84), 3) := by decide +kernel
theorem dX7_both_91 : decode cX7_both 91 = .ok (.iload_n 1, 1) := by decide +kernel
theorem dX7_both_92 : decode cX7_both 92 = .ok (.ireturn, 1) := by decide +kernel
set_option maxRecDepth 20000 in
theorem ggX7_winds_X6_has : GoodIn wsX7_winds wsX6_has := goodIn_r _ [14, 15, 16, 17, 18, 19, 20, 21, 70, 71, 72, 73, 74] (by decide +kernel) (by decide +kernel)
set_option maxRecDepth 20000 in
theorem gX7_winds_X6_has : GoodIn wsX7_winds (wsV RX7 154 RX6 yX6_has wsX6_has) := goodIn_app (goodIn_of _ (by decide +kernel)) ggX7_winds_X6_has
set_option maxRecDepth 20000 in
theorem ggX7_winds_X3_hasPlace : GoodIn wsX7_winds wsX3_hasPlace := goodIn_r _ [26, 27, 20, 17, 21, 75, 76, 77, 78, 79, 80, 81, 82, 83, 84, 85] (by decide +kernel) (by decide +kernel)
set_option maxRecDepth 20000 in
theorem gX7_winds_X3_hasPlace : GoodIn wsX7_winds (wsV RX7 74 RX3 yX3_hasPlace wsX3_hasPlace) := goodIn_app (goodIn_of _ (by decide +kernel)) ggX7_winds_X3_hasPlace
set_option maxRecDepth 20000 in
theorem ggX7_winds_X7_within : GoodIn wsX7_winds wsX7_within := goodIn_r _ [21] (by decide +kernel) (by decide +kernel)
set_option maxRecDepth 20000 in
theorem gX7_winds_X7_within : GoodIn wsX7_winds (va_wsS RX7 41 yX7_within wsX7_within) := goodIn_app (goodIn_of _ (by decide +kernel)) ggX7_winds_X7_within
set_option maxRecDepth 20000 in
theorem ggX7_winds_X3_bakedByDoors : GoodIn wsX7_winds wsX3_bakedByDoors := goodIn_r _ [31, 32, 33, 34, 35, 8, 36, 37, 38, 75, 76, 77, 78, 79, 80, 81, 82, 83, 84, 85] (by decide +kernel) (by decide +kernel)
set_option maxRecDepth 20000 in
theorem gX7_winds_X3_bakedByDoors : GoodIn wsX7_winds (wsV RX7 230 RX3 yX3_bakedByDoors wsX3_bakedByDoors) := goodIn_app (goodIn_of _ (by decide +kernel)) ggX7_winds_X3_bakedByDoors
set_option maxRecDepth 20000 in
theorem ggX7_winds_X6_verdict : GoodIn wsX7_winds wsX6_verdict := goodIn_r _ [42, 43, 44, 45, 46, 13, 47, 48, 70, 71, 72, 73, 74] (by decide +kernel) (by decide +kernel)
set_option maxRecDepth 20000 in
theorem gX7_winds_X6_verdict : GoodIn wsX7_winds (wsV RX7 233 RX6 yX6_verdict wsX6_verdict) := goodIn_app (goodIn_of _ (by decide +kernel)) ggX7_winds_X6_verdict
set_option maxRecDepth 20000 in
theorem ggX7_winds_J6_bitCount_0f7a4 : GoodIn wsX7_winds wsJ6_bitCount_0f7a4 := goodIn_r _ [52, 53, 54, 55] (by decide +kernel) (by decide +kernel)
set_option maxRecDepth 20000 in
theorem gX7_winds_J6_bitCount_0f7a4 : GoodIn wsX7_winds (va_wsS RX7 103 yJ6_bitCount_0f7a4 wsJ6_bitCount_0f7a4) := goodIn_app (goodIn_of _ (by decide +kernel)) ggX7_winds_J6_bitCount_0f7a4
set_option maxRecDepth 20000 in
theorem ggX7_winds_X7_power : GoodIn wsX7_winds wsX7_power := goodIn_r _ [58] (by decide +kernel) (by decide +kernel)
set_option maxRecDepth 20000 in
theorem gX7_winds_X7_power : GoodIn wsX7_winds (va_wsS RX7 236 yX7_power wsX7_power) := goodIn_app (goodIn_of _ (by decide +kernel)) ggX7_winds_X7_power
set_option maxRecDepth 20000 in
theorem ggX7_winds_X7_commonDivisor : GoodIn wsX7_winds wsX7_commonDivisor := goodIn_r _ [61] (by decide +kernel) (by decide +kernel)
set_option maxRecDepth 20000 in
theorem gX7_winds_X7_commonDivisor : GoodIn wsX7_winds (va_wsS RX7 240 yX7_commonDivisor wsX7_commonDivisor) := goodIn_app (goodIn_of _ (by decide +kernel)) ggX7_winds_X7_commonDivisor
theorem dX7_winds_0 : decode cX7_winds 0 = .ok (.aload_n 0, 1) := by decide +kernel
theorem dX7_winds_1 : decode cX7_winds 1 = .ok (.getfield 10, 3) := by decide +kernel
theorem dX7_winds_4 : decode cX7_winds 4 = .ok (.getfield 85, 3) := by decide +kernel
theorem dX7_winds_7 : decode cX7_winds 7 = .ok (.iload_n 1, 1) := by decide +kernel
theorem dX7_winds_8 : decode cX7_winds 8 = .ok (.invokevirtual 154, 3) := by decide +kernel
theorem dX7_winds_11 : decode cX7_winds 11 = .ok (.ifCond .eq 17, 3) := by decide +kernel
theorem dX7_winds_14 : decode cX7_winds 14 = .ok (.aload_n 0, 1) := by decide +kernel
theorem dX7_winds_15 : decode cX7_winds 15 = .ok (.getfield 10, 3) := by decide +kernel
theorem dX7_winds_18 : decode cX7_winds 18 = .ok (.getfield 45, 3) := by decide +kernel
theorem dX7_winds_21 : decode cX7_winds 21 = .ok (.iload_n 2, 1) := by decide +kernel
theorem dX7_winds_22 : decode cX7_winds 22 = .ok (.invokevirtual 74, 3) := by decide +kernel
theorem dX7_winds_25 : decode cX7_winds 25 = .ok (.ifCond .ne 7, 3) := by decide +kernel
theorem dX7_winds_28 : decode cX7_winds 28 = .ok (.ldc2_w 226, 3) := by decide +kernel
theorem dX7_winds_31 : decode cX7_winds 31 = .ok (.lreturn, 1) := by decide +kernel
theorem dX7_winds_32 : decode cX7_winds 32 = .ok (.iload_n 3, 1) := by decide +kernel
theorem dX7_winds_33 : decode cX7_winds 33 = .ok (.iconst 0, 1) := by decide +kernel
theorem dX7_winds_34 : decode cX7_winds 34 = .ok (.bipush 10, 2) := by decide +kernel
theorem dX7_winds_36 : decode cX7_winds 36 = .ok (.invokestatic 41, 3) := by decide +kernel
theorem dX7_winds_39 : decode cX7_winds 39 = .ok (.ifCond .eq 24, 3) := by decide +kernel
theorem dX7_winds_42 : decode cX7_winds 42 = .ok (.iload 4, 2) := by decide +kernel
theorem dX7_winds_44 : decode cX7_winds 44 = .ok (.iconst 0, 1) := by decide +kernel
theorem dX7_winds_45 : decode cX7_winds 45 = .ok (.bipush 10, 2) := by decide +kernel
theorem dX7_winds_47 : decode cX7_winds 47 = .ok (.invokestatic 41, 3) := by decide +kernel
theorem dX7_winds_50 : decode cX7_winds 50 = .ok (.ifCond .eq 13, 3) := by decide +kernel
theorem dX7_winds_53 : decode cX7_winds 53 = .ok (.iload 5, 2) := by decide +kernel
theorem dX7_winds_55 : decode cX7_winds 55 = .ok (.iconst 0, 1) := by decide +kernel
theorem dX7_winds_56 : decode cX7_winds 56 = .ok (.iconst 1, 1) := by decide +kernel
theorem dX7_winds_57 : decode cX7_winds 57 = .ok (.invokestatic 41, 3) := by decide +kernel
theorem dX7_winds_60 : decode cX7_winds 60 = .ok (.ifCond .ne 7, 3) := by decide +kernel
theorem dX7_winds_63 : decode cX7_winds 63 = .ok (.ldc2_w 228, 3) := by decide +kernel
theorem dX7_winds_66 : decode cX7_winds 66 = .ok (.lreturn, 1) := by decide +kernel
theorem dX7_winds_67 : decode cX7_winds 67 = .ok (.lconst 0, 1) := by decide +kernel
theorem dX7_winds_68 : decode cX7_winds 68 = .ok (.lstore 6, 2) := by decide +kernel
theorem dX7_winds_70 : decode cX7_winds 70 = .ok (.iconst 0, 1) := by decide +kernel
theorem dX7_winds_71 : decode cX7_winds 71 = .ok (.istore 8, 2) := by decide +kernel
theorem dX7_winds_73 : decode cX7_winds 73 = .ok (.iload 8, 2) := by decide +kernel
theorem dX7_winds_75 : decode cX7_winds 75 = .ok (.iconst 1, 1) := by decide +kernel
theorem dX7_winds_76 : decode cX7_winds 76 = .ok (.iload 4, 2) := by decide +kernel
theorem dX7_winds_78 : decode cX7_winds 78 = .ok (.ishl, 1) := by decide +kernel
theorem dX7_winds_79 : decode cX7_winds 79 = .ok (.if_icmp .ge 74, 3) := by decide +kernel
theorem dX7_winds_82 : decode cX7_winds 82 = .ok (.aload_n 0, 1) := by decide +kernel
theorem dX7_winds_83 : decode cX7_winds 83 = .ok (.getfield 10, 3) := by decide +kernel
theorem dX7_winds_86 : decode cX7_winds 86 = .ok (.getfield 45, 3) := by decide +kernel
theorem dX7_winds_89 : decode cX7_winds 89 = .ok (.iload_n 2, 1) := by decide +kernel
theorem dX7_winds_90 : decode cX7_winds 90 = .ok (.iload 4, 2) := by decide +kernel
theorem dX7_winds_92 : decode cX7_winds 92 = .ok (.iload 8, 2) := by decide +kernel
theorem dX7_winds_94 : decode cX7_winds 94 = .ok (.invokevirtual 230, 3) := by decide +kernel
theorem dX7_winds_97 : decode cX7_winds 97 = .ok (.istore 9, 2) := by decide +kernel
theorem dX7_winds_99 : decode cX7_winds 99 = .ok (.aload_n 0, 1) := by decide +kernel
theorem dX7_winds_100 : decode cX7_winds 100 = .ok (.getfield 10, 3) := by decide +kernel
theorem dX7_winds_103 : decode cX7_winds 103 = .ok (.getfield 85, 3) := by decide +kernel
theorem dX7_winds_106 : decode cX7_winds 106 = .ok (.iload_n 1, 1) := by decide +kernel
theorem dX7_winds_107 : decode cX7_winds 107 = .ok (.iload 9, 2) := by decide +kernel
theorem dX7_winds_109 : decode cX7_winds 109 = .ok (.invokevirtual 233, 3) := by decide +kernel
theorem dX7_winds_112 : decode cX7_winds 112 = .ok (.iconst 1, 1) := by decide +kernel
theorem dX7_winds_113 : decode cX7_winds 113 = .ok (.if_icmp .ne 34, 3) := by decide +kernel
theorem dX7_winds_116 : decode cX7_winds 116 = .ok (.iload 8, 2) := by decide +kernel
theorem dX7_winds_118 : decode cX7_winds 118 = .ok (.invokestatic 103, 3) := by decide +kernel
theorem dX7_winds_121 : decode cX7_winds 121 = .ok (.istore 10, 2) := by decide +kernel
theorem dX7_winds_123 : decode cX7_winds 123 = .ok (.lload 6, 2) := by decide +kernel
theorem dX7_winds_125 : decode cX7_winds 125 = .ok (.iload_n 3, 1) := by decide +kernel
theorem dX7_winds_126 : decode cX7_winds 126 = .ok (.iload 10, 2) := by decide +kernel
theorem dX7_winds_128 : decode cX7_winds 128 = .ok (.invokestatic 236, 3) := by decide +kernel
theorem dX7_winds_131 : decode cX7_winds 131 = .ok (.bipush 10, 2) := by decide +kernel
theorem dX7_winds_133 : decode cX7_winds 133 = .ok (.iload_n 3, 1) := by decide +kernel
theorem dX7_winds_134 : decode cX7_winds 134 = .ok (.isub, 1) := by decide +kernel
theorem dX7_winds_135 : decode cX7_winds 135 = .ok (.iload 4, 2) := by decide +kernel
theorem dX7_winds_137 : decode cX7_winds 137 = .ok (.iload 10, 2) := by decide +kernel
theorem dX7_winds_139 : decode cX7_winds 139 = .ok (.isub, 1) := by decide +kernel
theorem dX7_winds_140 : decode cX7_winds 140 = .ok (.invokestatic 236, 3) := by decide +kernel
theorem dX7_winds_143 : decode cX7_winds 143 = .ok (.lmul, 1) := by decide +kernel
theorem dX7_winds_144 : decode cX7_winds 144 = .ok (.ladd, 1) := by decide +kernel
theorem dX7_winds_145 : decode cX7_winds 145 = .ok (.lstore 6, 2) := by decide +kernel
theorem dX7_winds_147 : decode cX7_winds 147 = .ok (.iinc 8 1, 3) := by decide +kernel
theorem dX7_winds_150 : decode cX7_winds 150 = .ok (.goto (-77), 3) := by decide +kernel
theorem dX7_winds_153 : decode cX7_winds 153 = .ok (.bipush 10, 2) := by decide +kernel
theorem dX7_winds_155 : decode cX7_winds 155 = .ok (.iload 4, 2) := by decide +kernel
theorem dX7_winds_157 : decode cX7_winds 157 = .ok (.invokestatic 236, 3) := by decide +kernel
theorem dX7_winds_160 : decode cX7_winds 160 = .ok (.lstore 8, 2) := by decide +kernel
theorem dX7_winds_162 : decode cX7_winds 162 = .ok (.lconst 1, 1) := by decide +kernel
theorem dX7_winds_163 : decode cX7_winds 163 = .ok (.lload 6, 2) := by decide +kernel
theorem dX7_winds_165 : decode cX7_winds 165 = .ok (.lload 8, 2) := by decide +kernel
theorem dX7_winds_167 : decode cX7_winds 167 = .ok (.invokestatic 240, 3) := by decide +kernel
theorem dX7_winds_170 : decode cX7_winds 170 = .ok (.invokestatic 244, 3) := by decide +kernel
theorem dX7_winds_173 : decode cX7_winds 173 = .ok (.lstore 10, 2) := by decide +kernel
theorem dX7_winds_175 : decode cX7_winds 175 = .ok (.iload 5, 2) := by decide +kernel
theorem dX7_winds_177 : decode cX7_winds 177 = .ok (.ifCond .ne 11, 3) := by decide +kernel
theorem dX7_winds_180 : decode cX7_winds 180 = .ok (.lload 6, 2) := by decide +kernel
theorem dX7_winds_182 : decode cX7_winds 182 = .ok (.lload 10, 2) := by decide +kernel
theorem dX7_winds_184 : decode cX7_winds 184 = .ok (.ldiv, 1) := by decide +kernel
theorem dX7_winds_185 : decode cX7_winds 185 = .ok (.goto 8, 3) := by decide +kernel
theorem dX7_winds_188 : decode cX7_winds 188 = .ok (.lload 8, 2) := by decide +kernel
theorem dX7_winds_190 : decode cX7_winds 190 = .ok (.lload 10, 2) := by decide +kernel
theorem dX7_winds_192 : decode cX7_winds 192 = .ok (.ldiv, 1) := by decide +kernel
theorem dX7_winds_193 : decode cX7_winds 193 = .ok (.lreturn, 1) := by decide +kernel
set_option maxRecDepth 20000 in
theorem ggX7_year_X7_within : GoodIn wsX7_year wsX7_within := goodIn_r _ [5] (by decide +kernel) (by decide +kernel)
set_option maxRecDepth 20000 in
theorem gX7_year_X7_within : GoodIn wsX7_year (va_wsS RX7 41 yX7_within wsX7_within) := goodIn_app (goodIn_of _ (by decide +kernel)) ggX7_year_X7_within
set_option maxRecDepth 20000 in
theorem ggX7_year_X7_drawnDay : GoodIn wsX7_year wsX7_drawnDay := goodIn_r _ [9, 10, 11, 12, 13, 14, 15, 16, 17, 18, 19, 20, 21, 22, 4, 23, 2, 3, 5, 24, 25, 26, 27, 28, 29, 30, 31, 32, 33, 34, 35, 36, 37, 38, 39, 40, 41, 42, 43, 44, 45, 46, 47, 48, 49, 50, 51, 52, 53, 54, 55, 56, 57, 58, 59, 60, 61, 62, 63, 64, 65, 66, 67, 68, 69, 70, 71] (by decide +kernel) (by decide +kernel)
set_option maxRecDepth 20000 in
theorem gX7_year_X7_drawnDay : GoodIn wsX7_year (wsV RX7 247 RX7 yX7_drawnDay wsX7_drawnDay) := goodIn_app (goodIn_of _ (by decide +kernel)) ggX7_year_X7_drawnDay
theorem dX7_year_0 : decode cX7_year 0 = .ok (.iload_n 1, 1) := by decide +kernel
theorem dX7_year_1 : decode cX7_year 1 = .ok (.iconst 0, 1) := by decide +kernel
theorem dX7_year_2 : decode cX7_year 2 = .ok (.sipush 9999, 3) := by decide +kernel
theorem dX7_year_5 : decode cX7_year 5 = .ok (.invokestatic 41, 3) := by decide +kernel
theorem dX7_year_8 : decode cX7_year 8 = .ok (.ifCond .eq 22, 3) := by decide +kernel
theorem dX7_year_11 : decode cX7_year 11 = .ok (.iload_n 2, 1) := by decide +kernel
theorem dX7_year_12 : decode cX7_year 12 = .ok (.iconst 1, 1) := by decide +kernel
theorem dX7_year_13 : decode cX7_year 13 = .ok (.bipush 99, 2) := by decide +kernel
theorem dX7_year_15 : decode cX7_year 15 = .ok (.invokestatic 41, 3) := by decide +kernel
theorem dX7_year_18 : decode cX7_year 18 = .ok (.ifCond .eq 12, 3) := by decide +kernel
theorem dX7_year_21 : decode cX7_year 21 = .ok (.iload_n 3, 1) := by decide +kernel
theorem dX7_year_22 : decode cX7_year 22 = .ok (.iconst 0, 1) := by decide +kernel
theorem dX7_year_23 : decode cX7_year 23 = .ok (.iconst 3, 1) := by decide +kernel
theorem dX7_year_24 : decode cX7_year 24 = .ok (.invokestatic 41, 3) := by decide +kernel
theorem dX7_year_27 : decode cX7_year 27 = .ok (.ifCond .ne 6, 3) := by decide +kernel
theorem dX7_year_30 : decode cX7_year 30 = .ok (.bipush (-2), 2) := by decide +kernel
theorem dX7_year_32 : decode cX7_year 32 = .ok (.ireturn, 1) := by decide +kernel
theorem dX7_year_33 : decode cX7_year 33 = .ok (.iload_n 1, 1) := by decide +kernel
theorem dX7_year_34 : decode cX7_year 34 = .ok (.istore 4, 2) := by decide +kernel
theorem dX7_year_36 : decode cX7_year 36 = .ok (.iconst 0, 1) := by decide +kernel
theorem dX7_year_37 : decode cX7_year 37 = .ok (.istore 5, 2) := by decide +kernel
theorem dX7_year_39 : decode cX7_year 39 = .ok (.iconst 0, 1) := by decide +kernel
theorem dX7_year_40 : decode cX7_year 40 = .ok (.istore 6, 2) := by decide +kernel
theorem dX7_year_42 : decode cX7_year 42 = .ok (.iload 6, 2) := by decide +kernel
theorem dX7_year_44 : decode cX7_year 44 = .ok (.iload_n 2, 1) := by decide +kernel
theorem dX7_year_45 : decode cX7_year 45 = .ok (.if_icmp .ge 34, 3) := by decide +kernel
theorem dX7_year_48 : decode cX7_year 48 = .ok (.bipush 75, 2) := by decide +kernel
theorem dX7_year_50 : decode cX7_year 50 = .ok (.iload 4, 2) := by decide +kernel
theorem dX7_year_52 : decode cX7_year 52 = .ok (.imul, 1) := by decide +kernel
theorem dX7_year_53 : decode cX7_year 53 = .ok (.bipush 74, 2) := by decide +kernel
theorem dX7_year_55 : decode cX7_year 55 = .ok (.iadd, 1) := by decide +kernel
theorem dX7_year_56 : decode cX7_year 56 = .ok (.ldc 246, 2) := by decide +kernel
theorem dX7_year_58 : decode cX7_year 58 = .ok (.irem, 1) := by decide +kernel
theorem dX7_year_59 : decode cX7_year 59 = .ok (.istore 4, 2) := by decide +kernel
theorem dX7_year_61 : decode cX7_year 61 = .ok (.iload 5, 2) := by decide +kernel
theorem dX7_year_63 : decode cX7_year 63 = .ok (.aload_n 0, 1) := by decide +kernel
theorem dX7_year_64 : decode cX7_year 64 = .ok (.iload 4, 2) := by decide +kernel
theorem dX7_year_66 : decode cX7_year 66 = .ok (.iload_n 3, 1) := by decide +kernel
theorem dX7_year_67 : decode cX7_year 67 = .ok (.invokevirtual 247, 3) := by decide +kernel
theorem dX7_year_70 : decode cX7_year 70 = .ok (.iadd, 1) := by decide +kernel
theorem dX7_year_71 : decode cX7_year 71 = .ok (.istore 5, 2) := by decide +kernel
theorem dX7_year_73 : decode cX7_year 73 = .ok (.iinc 6 1, 3) := by decide +kernel
theorem dX7_year_76 : decode cX7_year 76 = .ok (.goto (-34), 3) := by decide +kernel
theorem dX7_year_79 : decode cX7_year 79 = .ok (.iload 5, 2) := by decide +kernel
theorem dX7_year_81 : decode cX7_year 81 = .ok (.ireturn, 1) := by decide +kernel
set_option maxRecDepth 20000 in
theorem ggX7_image_X7_within : GoodIn wsX7_image wsX7_within := goodIn_r _ [9] (by decide +kernel) (by decide +kernel)
set_option maxRecDepth 20000 in
theorem gX7_image_X7_within : GoodIn wsX7_image (va_wsS RX7 41 yX7_within wsX7_within) := goodIn_app (goodIn_of _ (by decide +kernel)) ggX7_image_X7_within
set_option maxRecDepth 20000 in
theorem ggX7_image_X0_init : GoodIn wsX7_image wsX0_init := goodIn_r _ [11, 12, 13, 14, 15, 16, 17, 18, 19, 20, 21, 22, 23, 24, 25, 26, 27, 28, 29, 30, 31, 32, 33, 34, 35, 36, 37, 38, 39, 40, 41, 42, 43, 44, 45, 46, 47, 48, 49, 50, 51, 85, 86, 87, 88, 89, 90, 91, 92, 93, 94, 95, 82, 83, 84, 96, 97, 98, 99, 100, 101, 102] (by decide +kernel) (by decide +kernel)
set_option maxRecDepth 20000 in
theorem gX7_image_X0_init_n9 : GoodIn wsX7_image (wsX0_init) := ggX7_image_X0_init
set_option maxRecDepth 20000 in
theorem ggX7_image_X0_copyFrom : GoodIn wsX7_image wsX0_copyFrom := goodIn_r _ [55, 18, 22, 26, 56, 57, 58, 17, 59, 30, 31, 32, 33, 34, 60, 36, 61, 62, 63, 64, 37, 38, 39, 40, 65, 66, 67, 21, 68, 69, 44, 70, 45, 46, 47, 71, 72, 73, 25, 74, 75, 51, 76, 82, 83, 84, 85, 86, 87, 88, 89, 90, 91, 92, 93, 94, 95, 96, 97, 98, 99, 100, 101, 102] (by decide +kernel) (by decide +kernel)
set_option maxRecDepth 20000 in
theorem gX7_image_X0_copyFrom : GoodIn wsX7_image (wsV RX7 250 RX0 yX0_copyFrom wsX0_copyFrom) := goodIn_app (goodIn_of _ (by decide +kernel)) ggX7_image_X0_copyFrom
theorem dX7_image_0 : decode cX7_image 0 = .ok (.iload_n 1, 1) := by decide +kernel
theorem dX7_image_1 : decode cX7_image 1 = .ok (.iconst 0, 1) := by decide +kernel
theorem dX7_image_2 : decode cX7_image 2 = .ok (.iconst 1, 1) := by decide +kernel
theorem dX7_image_3 : decode cX7_image 3 = .ok (.invokestatic 41, 3) := by decide +kernel
theorem dX7_image_6 : decode cX7_image 6 = .ok (.ifCond .ne 6, 3) := by decide +kernel
theorem dX7_image_9 : decode cX7_image 9 = .ok (.bipush (-2), 2) := by decide +kernel
theorem dX7_image_11 : decode cX7_image 11 = .ok (.ireturn, 1) := by decide +kernel
theorem dX7_image_12 : decode cX7_image 12 = .ok (.aload_n 0, 1) := by decide +kernel
theorem dX7_image_13 : decode cX7_image 13 = .ok (.getfield 16, 3) := by decide +kernel
theorem dX7_image_16 : decode cX7_image 16 = .ok (.iload_n 1, 1) := by decide +kernel
theorem dX7_image_17 : decode cX7_image 17 = .ok (.aaload, 1) := by decide +kernel
theorem dX7_image_18 : decode cX7_image 18 = .ok (.ifnonnull 16, 3) := by decide +kernel
theorem dX7_image_21 : decode cX7_image 21 = .ok (.aload_n 0, 1) := by decide +kernel
theorem dX7_image_22 : decode cX7_image 22 = .ok (.getfield 16, 3) := by decide +kernel
theorem dX7_image_25 : decode cX7_image 25 = .ok (.iload_n 1, 1) := by decide +kernel
theorem dX7_image_26 : decode cX7_image 26 = .ok (.new 7, 3) := by decide +kernel
theorem dX7_image_29 : decode cX7_image 29 = .ok (.dup, 1) := by decide +kernel
theorem dX7_image_30 : decode cX7_image 30 = .ok (.invokespecial 9, 3) := by decide +kernel
theorem dX7_image_33 : decode cX7_image 33 = .ok (.aastore, 1) := by decide +kernel
theorem dX7_image_34 : decode cX7_image 34 = .ok (.aload_n 0, 1) := by decide +kernel
theorem dX7_image_35 : decode cX7_image 35 = .ok (.getfield 16, 3) := by decide +kernel
theorem dX7_image_38 : decode cX7_image 38 = .ok (.iload_n 1, 1) := by decide +kernel
theorem dX7_image_39 : decode cX7_image 39 = .ok (.aaload, 1) := by decide +kernel
theorem dX7_image_40 : decode cX7_image 40 = .ok (.aload_n 0, 1) := by decide +kernel
theorem dX7_image_41 : decode cX7_image 41 = .ok (.getfield 10, 3) := by decide +kernel
theorem dX7_image_44 : decode cX7_image 44 = .ok (.invokevirtual 250, 3) := by decide +kernel
theorem dX7_image_47 : decode cX7_image 47 = .ok (.iconst 1, 1) := by decide +kernel
theorem dX7_image_48 : decode cX7_image 48 = .ok (.ireturn, 1) := by decide +kernel
set_option maxRecDepth 20000 in
theorem ggX7_restore_X7_within : GoodIn wsX7_restore wsX7_within := goodIn_r _ [6] (by decide +kernel) (by decide +kernel)
set_option maxRecDepth 20000 in
theorem gX7_restore_X7_within : GoodIn wsX7_restore (va_wsS RX7 41 yX7_within wsX7_within) := goodIn_app (goodIn_of _ (by decide +kernel)) ggX7_restore_X7_within
set_option maxRecDepth 20000 in
theorem ggX7_restore_X0_copyFrom : GoodIn wsX7_restore wsX0_copyFrom := goodIn_r _ [11, 12, 13, 14, 15, 16, 17, 18, 19, 20, 21, 22, 23, 24, 25, 26, 27, 28, 29, 30, 31, 32, 33, 34, 35, 36, 37, 38, 39, 40, 41, 42, 43, 44, 45, 46, 47, 48, 49, 50, 51, 52, 53, 59, 60, 61, 62, 63, 64, 65, 66, 67, 68, 69, 70, 71, 72, 73, 74, 75, 76, 77, 78, 79] (by decide +kernel) (by decide +kernel)
set_option maxRecDepth 20000 in
theorem gX7_restore_X0_copyFrom : GoodIn wsX7_restore (wsV RX7 250 RX0 yX0_copyFrom wsX0_copyFrom) := goodIn_app (goodIn_of _ (by decide +kernel)) ggX7_restore_X0_copyFrom
theorem dX7_restore_0 : decode cX7_restore 0 = .ok (.iload_n 1, 1) := by decide +kernel
theorem dX7_restore_1 : decode cX7_restore 1 = .ok (.iconst 0, 1) := by decide +kernel
theorem dX7_restore_2 : decode cX7_restore 2 = .ok (.iconst 1, 1) := by decide +kernel
theorem dX7_restore_3 : decode cX7_restore 3 = .ok (.invokestatic 41, 3) := by decide +kernel
theorem dX7_restore_6 : decode cX7_restore 6 = .ok (.ifCond .ne 6, 3) := by decide +kernel
theorem dX7_restore_9 : decode cX7_restore 9 = .ok (.bipush (-2), 2) := by decide +kernel
theorem dX7_restore_11 : decode cX7_restore 11 = .ok (.ireturn, 1) := by decide +kernel
theorem dX7_restore_12 : decode cX7_restore 12 = .ok (.aload_n 0, 1) := by decide +kernel
theorem dX7_restore_13 : decode cX7_restore 13 = .ok (.getfield 16, 3) := by decide +kernel
theorem dX7_restore_16 : decode cX7_restore 16 = .ok (.iload_n 1, 1) := by decide +kernel
theorem dX7_restore_17 : decode cX7_restore 17 = .ok (.aaload, 1) := by decide +kernel
theorem dX7_restore_18 : decode cX7_restore 18 = .ok (.ifnonnull 6, 3) := by decide +kernel
theorem dX7_restore_21 : decode cX7_restore 21 = .ok (.bipush (-3), 2) := by decide +kernel
theorem dX7_restore_23 : decode cX7_restore 23 = .ok (.ireturn, 1) := by decide +kernel
theorem dX7_restore_24 : decode cX7_restore 24 = .ok (.aload_n 0, 1) := by decide +kernel
theorem dX7_restore_25 : decode cX7_restore 25 = .ok (.getfield 10, 3) := by decide +kernel
theorem dX7_restore_28 : decode cX7_restore 28 = .ok (.aload_n 0, 1) := by decide +kernel
theorem dX7_restore_29 : decode cX7_restore 29 = .ok (.getfield 16, 3) := by decide +kernel
theorem dX7_restore_32 : decode cX7_restore 32 = .ok (.iload_n 1, 1) := by decide +kernel
theorem dX7_restore_33 : decode cX7_restore 33 = .ok (.aaload, 1) := by decide +kernel
theorem dX7_restore_34 : decode cX7_restore 34 = .ok (.invokevirtual 250, 3) := by decide +kernel
theorem dX7_restore_37 : decode cX7_restore 37 = .ok (.iconst 1, 1) := by decide +kernel
theorem dX7_restore_38 : decode cX7_restore 38 = .ok (.ireturn, 1) := by decide +kernel
set_option maxRecDepth 20000 in
theorem ggX7_told_X3_hasPlace : GoodIn wsX7_told wsX3_hasPlace := goodIn_r _ [20, 21, 22, 23, 24, 52, 53, 54, 55, 56, 57, 58, 59, 60, 61, 62] (by decide +kernel) (by decide +kernel)
set_option maxRecDepth 20000 in
theorem gX7_told_X3_hasPlace : GoodIn wsX7_told (wsV RX7 74 RX3 yX3_hasPlace wsX3_hasPlace) := goodIn_app (goodIn_of _ (by decide +kernel)) ggX7_told_X3_hasPlace
set_option maxRecDepth 20000 in
theorem ggX7_told_X6_tellOf : GoodIn wsX7_told wsX6_tellOf := goodIn_r _ [29, 30, 31, 32, 33, 34, 35, 36, 28, 37, 38, 39, 23, 40, 41, 22, 24, 63, 64, 65, 66, 67] (by decide +kernel) (by decide +kernel)
set_option maxRecDepth 20000 in
theorem gX7_told_X6_tellOf : GoodIn wsX7_told (wsV RX7 257 RX6 yX6_tellOf wsX6_tellOf) := goodIn_app (goodIn_of _ (by decide +kernel)) ggX7_told_X6_tellOf
theorem dX7_told_0 : decode cX7_told 0 = .ok (.aload_n 0, 1) := by decide +kernel
theorem dX7_told_1 : decode cX7_told 1 = .ok (.getfield 10, 3) := by decide +kernel
theorem dX7_told_4 : decode cX7_told 4 = .ok (.getfield 45, 3) := by decide +kernel
theorem dX7_told_7 : decode cX7_told 7 = .ok (.astore_n 2, 1) := by decide +kernel
theorem dX7_told_8 : decode cX7_told 8 = .ok (.iload_n 1, 1) := by decide +kernel
theorem dX7_told_9 : decode cX7_told 9 = .ok (.tableswitch 119 0 8 #[51, 59, 64, 69, 74, 79, 84, 95, 106], 51) := by decide +kernel
theorem dX7_told_60 : decode cX7_told 60 = .ok (.aload_n 0, 1) := by decide +kernel
theorem dX7_told_61 : decode cX7_told 61 = .ok (.getfield 23, 3) := by decide +kernel
theorem dX7_told_64 : decode cX7_told 64 = .ok (.getfield 113, 3) := by decide +kernel
theorem dX7_told_67 : decode cX7_told 67 = .ok (.ireturn, 1) := by decide +kernel
theorem dX7_told_68 : decode cX7_told 68 = .ok (.aload_n 2, 1) := by decide +kernel
theorem dX7_told_69 : decode cX7_told 69 = .ok (.getfield 117, 3) := by decide +kernel
theorem dX7_told_72 : decode cX7_told 72 = .ok (.ireturn, 1) := by decide +kernel
theorem dX7_told_73 : decode cX7_told 73 = .ok (.aload_n 2, 1) := by decide +kernel
theorem dX7_told_74 : decode cX7_told 74 = .ok (.getfield 183, 3) := by decide +kernel
theorem dX7_told_77 : decode cX7_told 77 = .ok (.ireturn, 1) := by decide +kernel
theorem dX7_told_78 : decode cX7_told 78 = .ok (.aload_n 2, 1) := by decide +kernel
theorem dX7_told_79 : decode cX7_told 79 = .ok (.getfield 65, 3) := by decide +kernel
theorem dX7_told_82 : decode cX7_told 82 = .ok (.ireturn, 1) := by decide +kernel
theorem dX7_told_83 : decode cX7_told 83 = .ok (.aload_n 2, 1) := by decide +kernel
theorem dX7_told_84 : decode cX7_told 84 = .ok (.getfield 68, 3) := by decide +kernel
theorem dX7_told_87 : decode cX7_told 87 = .ok (.ireturn, 1) := by decide +kernel
theorem dX7_told_88 : decode cX7_told 88 = .ok (.aload_n 2, 1) := by decide +kernel
theorem dX7_told_89 : decode cX7_told 89 = .ok (.getfield 71, 3) := by decide +kernel
theorem dX7_told_92 : decode cX7_told 92 = .ok (.ireturn, 1) := by decide +kernel
theorem dX7_told_93 : decode cX7_told 93 = .ok (.aload_n 0, 1) := by decide +kernel
theorem dX7_told_94 : decode cX7_told 94 = .ok (.getfield 10, 3) := by decide +kernel
theorem dX7_told_97 : decode cX7_told 97 = .ok (.getfield 85, 3) := by decide +kernel
theorem dX7_told_100 : decode cX7_told 100 = .ok (.getfield 89, 3) := by decide +kernel
theorem dX7_told_103 : decode cX7_told 103 = .ok (.ireturn, 1) := by decide +kernel
theorem dX7_told_104 : decode cX7_told 104 = .ok (.aload_n 0, 1) := by decide +kernel
theorem dX7_told_105 : decode cX7_told 105 = .ok (.getfield 10, 3) := by decide +kernel
theorem dX7_told_108 : decode cX7_told 108 = .ok (.getfield 55, 3) := by decide +kernel
theorem dX7_told_111 : decode cX7_told 111 = .ok (.getfield 59, 3) := by decide +kernel
theorem dX7_told_114 : decode cX7_told 114 = .ok (.ireturn, 1) := by decide +kernel
theorem dX7_told_115 : decode cX7_told 115 = .ok (.aload_n 2, 1) := by decide +kernel
theorem dX7_told_116 : decode cX7_told 116 = .ok (.getfield 253, 3) := by decide +kernel
theorem dX7_told_119 : decode cX7_told 119 = .ok (.ifCond .eq 7, 3) := by decide +kernel
theorem dX7_told_122 : decode cX7_told 122 = .ok (.iconst 1, 1) := by decide +kernel
theorem dX7_told_123 : decode cX7_told 123 = .ok (.goto 4, 3) := by decide +kernel
theorem dX7_told_126 : decode cX7_told 126 = .ok (.iconst 0, 1) := by decide +kernel
theorem dX7_told_127 : decode cX7_told 127 = .ok (.ireturn, 1) := by decide +kernel
theorem dX7_told_128 : decode cX7_told 128 = .ok (.aload_n 2, 1) := by decide +kernel
theorem dX7_told_129 : decode cX7_told 129 = .ok (.iload_n 1, 1) := by decide +kernel
theorem dX7_told_130 : decode cX7_told 130 = .ok (.bipush 10, 2) := by decide +kernel
theorem dX7_told_132 : decode cX7_told 132 = .ok (.isub, 1) := by decide +kernel
theorem dX7_told_133 : decode cX7_told 133 = .ok (.invokevirtual 74, 3) := by decide +kernel
theorem dX7_told_136 : decode cX7_told 136 = .ok (.ifCond .eq 13, 3) := by decide +kernel
theorem dX7_told_139 : decode cX7_told 139 = .ok (.aload_n 2, 1) := by decide +kernel
theorem dX7_told_140 : decode cX7_told 140 = .ok (.getfield 78, 3) := by decide +kernel
theorem dX7_told_143 : decode cX7_told 143 = .ok (.iload_n 1, 1) := by decide +kernel
theorem dX7_told_144 : decode cX7_told 144 = .ok (.bipush 10, 2) := by decide +kernel
theorem dX7_told_146 : decode cX7_told 146 = .ok (.isub, 1) := by decide +kernel
theorem dX7_told_147 : decode cX7_told 147 = .ok (.iaload, 1) := by decide +kernel
theorem dX7_told_148 : decode cX7_told 148 = .ok (.ireturn, 1) := by decide +kernel
theorem dX7_told_149 : decode cX7_told 149 = .ok (.iload_n 1, 1) := by decide +kernel
theorem dX7_told_150 : decode cX7_told 150 = .ok (.bipush 20, 2) := by decide +kernel
theorem dX7_told_152 : decode cX7_told 152 = .ok (.if_icmp .ge 8, 3) := by decide +kernel
theorem dX7_told_155 : decode cX7_told 155 = .ok (.bipush (-2), 2) := by decide +kernel
theorem dX7_told_157 : decode cX7_told 157 = .ok (.goto 24, 3) := by decide +kernel
theorem dX7_told_160 : decode cX7_told 160 = .ok (.aload_n 0, 1) := by decide +kernel
theorem dX7_told_161 : decode cX7_told 161 = .ok (.getfield 10, 3) := by decide +kernel
theorem dX7_told_164 : decode cX7_told 164 = .ok (.getfield 85, 3) := by decide +kernel
theorem dX7_told_167 : decode cX7_told 167 = .ok (.iload_n 1, 1) := by decide +kernel
theorem dX7_told_168 : decode cX7_told 168 = .ok (.bipush 20, 2) := by decide +kernel
theorem dX7_told_170 : decode cX7_told 170 = .ok (.isub, 1) := by decide +kernel
theorem dX7_told_171 : decode cX7_told 171 = .ok (.bipush 10, 2) := by decide +kernel
theorem dX7_told_173 : decode cX7_told 173 = .ok (.idiv, 1) := by decide +kernel
theorem dX7_told_174 : decode cX7_told 174 = .ok (.iload_n 1, 1) := by decide +kernel
theorem dX7_told_175 : decode cX7_told 175 = .ok (.bipush 10, 2) := by decide +kernel
theorem dX7_told_177 : decode cX7_told 177 = .ok (.irem, 1) := by decide +kernel
theorem dX7_told_178 : decode cX7_told 178 = .ok (.invokevirtual 257, 3) := by decide +kernel
theorem dX7_told_181 : decode cX7_told 181 = .ok (.ireturn, 1) := by decide +kernel
theorem dX7_within_0 : decode cX7_within 0 = .ok (.iload_n 1, 1) := by decide +kernel
theorem dX7_within_1 : decode cX7_within 1 = .ok (.iload_n 0, 1) := by decide +kernel
theorem dX7_within_2 : decode cX7_within 2 = .ok (.if_icmp .gt 12, 3) := by decide +kernel
theorem dX7_within_5 : decode cX7_within 5 = .ok (.iload_n 0, 1) := by decide +kernel
theorem dX7_within_6 : decode cX7_within 6 = .ok (.iload_n 2, 1) := by decide +kernel
theorem dX7_within_7 : decode cX7_within 7 = .ok (.if_icmp .gt 7, 3) := by decide +kernel
theorem dX7_within_10 : decode cX7_within 10 = .ok (.iconst 1, 1) := by decide +kernel
theorem dX7_within_11 : decode cX7_within 11 = .ok (.goto 4, 3) := by decide +kernel
theorem dX7_within_14 : decode cX7_within 14 = .ok (.iconst 0, 1) := by decide +kernel
theorem dX7_within_15 : decode cX7_within 15 = .ok (.ireturn, 1) := by decide +kernel
set_option maxRecDepth 20000 in
theorem ggX7_isKind_X7_within : GoodIn wsX7_isKind wsX7_within := goodIn_r _ [4] (by decide +kernel) (by decide +kernel)
set_option maxRecDepth 20000 in
theorem gX7_isKind_X7_within : GoodIn wsX7_isKind (va_wsS RX7 41 yX7_within wsX7_within) := goodIn_app (goodIn_of _ (by decide +kernel)) ggX7_isKind_X7_within
theorem dX7_isKind_0 : decode cX7_isKind 0 = .ok (.iload_n 0, 1) := by decide +kernel
theorem dX7_isKind_1 : decode cX7_isKind 1 = .ok (.iconst 0, 1) := by decide +kernel
theorem dX7_isKind_2 : decode cX7_isKind 2 = .ok (.iconst 5, 1) := by decide +kernel
theorem dX7_isKind_3 : decode cX7_isKind 3 = .ok (.invokestatic 41, 3) := by decide +kernel
theorem dX7_isKind_6 : decode cX7_isKind 6 = .ok (.ireturn, 1) := by decide +kernel
set_option maxRecDepth 20000 in
theorem ggX7_refuseCell_X3_hasRow : GoodIn wsX7_refuseCell wsX3_hasRow := goodIn_r _ [7, 8, 9, 10, 11, 26, 27, 28, 29, 30, 31, 32, 33, 34, 35, 36] (by decide +kernel) (by decide +kernel)
set_option maxRecDepth 20000 in
theorem gX7_refuseCell_X3_hasRow : GoodIn wsX7_refuseCell (wsV RX7 260 RX3 yX3_hasRow wsX3_hasRow) := goodIn_app (goodIn_of _ (by decide +kernel)) ggX7_refuseCell_X3_hasRow
set_option maxRecDepth 20000 in
theorem ggX7_refuseCell_X3_hasPlace : GoodIn wsX7_refuseCell wsX3_hasPlace := goodIn_r _ [15, 16, 9, 10, 11, 26, 27, 28, 29, 30, 31, 32, 33, 34, 35, 36] (by decide +kernel) (by decide +kernel)
set_option maxRecDepth 20000 in
theorem gX7_refuseCell_X3_hasPlace : GoodIn wsX7_refuseCell (wsV RX7 74 RX3 yX3_hasPlace wsX3_hasPlace) := goodIn_app (goodIn_of _ (by decide +kernel)) ggX7_refuseCell_X3_hasPlace
set_option maxRecDepth 20000 in
theorem ggX7_refuseCell_X7_within : GoodIn wsX7_refuseCell wsX7_within := goodIn_r _ [11] (by decide +kernel) (by decide +kernel)
set_option maxRecDepth 20000 in
theorem gX7_refuseCell_X7_within : GoodIn wsX7_refuseCell (va_wsS RX7 41 yX7_within wsX7_within) := goodIn_app (goodIn_of _ (by decide +kernel)) ggX7_refuseCell_X7_within
theorem dX7_refuseCell_0 : decode cX7_refuseCell 0 = .ok (.aload_n 0, 1) := by decide +kernel
theorem dX7_refuseCell_1 : decode cX7_refuseCell 1 = .ok (.getfield 10, 3) := by decide +kernel
theorem dX7_refuseCell_4 : decode cX7_refuseCell 4 = .ok (.getfield 45, 3) := by decide +kernel
theorem dX7_refuseCell_7 : decode cX7_refuseCell 7 = .ok (.iload_n 1, 1) := by decide +kernel
theorem dX7_refuseCell_8 : decode cX7_refuseCell 8 = .ok (.invokevirtual 260, 3) := by decide +kernel
theorem dX7_refuseCell_11 : decode cX7_refuseCell 11 = .ok (.ifCond .eq 17, 3) := by decide +kernel
theorem dX7_refuseCell_14 : decode cX7_refuseCell 14 = .ok (.aload_n 0, 1) := by decide +kernel
theorem dX7_refuseCell_15 : decode cX7_refuseCell 15 = .ok (.getfield 10, 3) := by decide +kernel
theorem dX7_refuseCell_18 : decode cX7_refuseCell 18 = .ok (.getfield 45, 3) := by decide +kernel
theorem dX7_refuseCell_21 : decode cX7_refuseCell 21 = .ok (.iload_n 2, 1) := by decide +kernel
theorem dX7_refuseCell_22 : decode cX7_refuseCell 22 = .ok (.invokevirtual 74, 3) := by decide +kernel
theorem dX7_refuseCell_25 : decode cX7_refuseCell 25 = .ok (.ifCond .ne 5, 3) := by decide +kernel
theorem dX7_refuseCell_28 : decode cX7_refuseCell 28 = .ok (.iconst (-1), 1) := by decide +kernel
theorem dX7_refuseCell_29 : decode cX7_refuseCell 29 = .ok (.ireturn, 1) := by decide +kernel
theorem dX7_refuseCell_30 : decode cX7_refuseCell 30 = .ok (.iload_n 3, 1) := by decide +kernel
theorem dX7_refuseCell_31 : decode cX7_refuseCell 31 = .ok (.iconst 0, 1) := by decide +kernel
theorem dX7_refuseCell_32 : decode cX7_refuseCell 32 = .ok (.iconst 1, 1) := by decide +kernel
theorem dX7_refuseCell_33 : decode cX7_refuseCell 33 = .ok (.invokestatic 41, 3) := by decide +kernel
theorem dX7_refuseCell_36 : decode cX7_refuseCell 36 = .ok (.ifCond .eq 7, 3) := by decide +kernel
theorem dX7_refuseCell_39 : decode cX7_refuseCell 39 = .ok (.iconst 0, 1) := by decide +kernel
theorem dX7_refuseCell_40 : decode cX7_refuseCell 40 = .ok (.goto 5, 3) := by decide +kernel
theorem dX7_refuseCell_43 : decode cX7_refuseCell 43 = .ok (.bipush (-2), 2) := by decide +kernel
theorem dX7_refuseCell_45 : decode cX7_refuseCell 45 = .ok (.ireturn, 1) := by decide +kernel
set_option maxRecDepth 20000 in
theorem ggX7_refuseLoaves_X7_within : GoodIn wsX7_refuseLoaves wsX7_within := goodIn_r _ [8] (by decide +kernel) (by decide +kernel)
set_option maxRecDepth 20000 in
theorem gX7_refuseLoaves_X7_within : GoodIn wsX7_refuseLoaves (va_wsS RX7 41 yX7_within wsX7_within) := goodIn_app (goodIn_of _ (by decide +kernel)) ggX7_refuseLoaves_X7_within
set_option maxRecDepth 20000 in
theorem ggX7_refuseLoaves_X1_read : GoodIn wsX7_refuseLoaves wsX1_read := goodIn_r _ [13, 14, 15, 16, 17, 18, 19, 20, 21, 7, 22, 5, 6, 8, 23, 24, 25, 12, 26, 27, 36, 37, 38, 39, 40, 41, 42, 43, 44, 45, 46, 47, 48, 49, 50, 51, 52, 53, 54] (by decide +kernel) (by decide +kernel)
set_option maxRecDepth 20000 in
theorem gX7_refuseLoaves_X1_read : GoodIn wsX7_refuseLoaves (wsV RX7 264 RX1 yX1_read wsX1_read) := goodIn_app (goodIn_of _ (by decide +kernel)) ggX7_refuseLoaves_X1_read
theorem dX7_refuseLoaves_0 : decode cX7_refuseLoaves 0 = .ok (.iload_n 2, 1) := by decide +kernel
theorem dX7_refuseLoaves_1 : decode cX7_refuseLoaves 1 = .ok (.iconst 0, 1) := by decide +kernel
theorem dX7_refuseLoaves_2 : decode cX7_refuseLoaves 2 = .ok (.iconst 2, 1) := by decide +kernel
theorem dX7_refuseLoaves_3 : decode cX7_refuseLoaves 3 = .ok (.invokestatic 41, 3) := by decide +kernel
theorem dX7_refuseLoaves_6 : decode cX7_refuseLoaves 6 = .ok (.ifCond .eq 14, 3) := by decide +kernel
theorem dX7_refuseLoaves_9 : decode cX7_refuseLoaves 9 = .ok (.iload_n 1, 1) := by decide +kernel
theorem dX7_refuseLoaves_10 : decode cX7_refuseLoaves 10 = .ok (.iconst 0, 1) := by decide +kernel
theorem dX7_refuseLoaves_11 : decode cX7_refuseLoaves 11 = .ok (.ldc_w 263, 3) := by decide +kernel
theorem dX7_refuseLoaves_14 : decode cX7_refuseLoaves 14 = .ok (.invokestatic 41, 3) := by decide +kernel
theorem dX7_refuseLoaves_17 : decode cX7_refuseLoaves 17 = .ok (.ifCond .ne 6, 3) := by decide +kernel
theorem dX7_refuseLoaves_20 : decode cX7_refuseLoaves 20 = .ok (.bipush (-2), 2) := by decide +kernel
theorem dX7_refuseLoaves_22 : decode cX7_refuseLoaves 22 = .ok (.ireturn, 1) := by decide +kernel
theorem dX7_refuseLoaves_23 : decode cX7_refuseLoaves 23 = .ok (.aload_n 0, 1) := by decide +kernel
theorem dX7_refuseLoaves_24 : decode cX7_refuseLoaves 24 = .ok (.getfield 37, 3) := by decide +kernel
theorem dX7_refuseLoaves_27 : decode cX7_refuseLoaves 27 = .ok (.iload_n 1, 1) := by decide +kernel
theorem dX7_refuseLoaves_28 : decode cX7_refuseLoaves 28 = .ok (.aload_n 0, 1) := by decide +kernel
theorem dX7_refuseLoaves_29 : decode cX7_refuseLoaves 29 = .ok (.getfield 10, 3) := by decide +kernel
theorem dX7_refuseLoaves_32 : decode cX7_refuseLoaves 32 = .ok (.getfield 85, 3) := by decide +kernel
theorem dX7_refuseLoaves_35 : decode cX7_refuseLoaves 35 = .ok (.invokevirtual 264, 3) := by decide +kernel
theorem dX7_refuseLoaves_38 : decode cX7_refuseLoaves 38 = .ok (.ifCond .eq 7, 3) := by decide +kernel
theorem dX7_refuseLoaves_41 : decode cX7_refuseLoaves 41 = .ok (.iconst 0, 1) := by decide +kernel
theorem dX7_refuseLoaves_42 : decode cX7_refuseLoaves 42 = .ok (.goto 4, 3) := by decide +kernel
theorem dX7_refuseLoaves_45 : decode cX7_refuseLoaves 45 = .ok (.iconst (-1), 1) := by decide +kernel
theorem dX7_refuseLoaves_46 : decode cX7_refuseLoaves 46 = .ok (.ireturn, 1) := by decide +kernel
set_option maxRecDepth 20000 in
theorem ggX7_playDay_X4_firstFault : GoodIn wsX7_playDay wsX4_firstFault := goodIn_r _ [12, 13, 14, 15, 16, 17, 152, 153] (by decide +kernel) (by decide +kernel)
set_option maxRecDepth 20000 in
theorem gX7_playDay_X4_firstFault : GoodIn wsX7_playDay (wsV RX7 120 RX4 yX4_firstFault wsX4_firstFault) := goodIn_app (goodIn_of _ (by decide +kernel)) ggX7_playDay_X4_firstFault
set_option maxRecDepth 20000 in
theorem ggX7_playDay_X2_play : GoodIn wsX7_playDay wsX2_play := goodIn_r _ [22, 23, 24, 25, 26, 27, 28, 29, 30, 31, 32, 33, 34, 35, 36, 37, 38, 39, 40, 41, 42, 43, 44, 45, 46, 47, 48, 49, 50, 51, 52, 53, 15, 16, 17, 54, 55, 56, 21, 57, 58, 59, 60, 61, 62, 63, 64, 65, 66, 67, 68, 69, 70, 71, 72, 73, 74, 75, 76, 77, 78, 79, 80, 81, 82, 83, 84, 85, 86, 87, 88, 89, 90, 91, 92, 93, 94, 95, 96, 97, 98, 99, 100, 101, 102, 103, 104, 105, 106, 107, 108, 109, 110, 111, 112, 113, 114, 115, 116, 117, 118, 119, 120, 121, 122, 123, 124, 125, 126, 127, 147, 148, 149, 150, 151, 152, 153, 136, 137, 138, 139, 140, 141, 142, 143, 144, 145, 146, 154, 155, 156, 157, 158] (by decide +kernel) (by decide +kernel)
set_option maxRecDepth 20000 in
theorem gX7_playDay_X2_play : GoodIn wsX7_playDay (wsV RX7 268 RX2 yX2_play wsX2_play) := goodIn_app (goodIn_of _ (by decide +kernel)) ggX7_playDay_X2_play
theorem dX7_playDay_0 : decode cX7_playDay 0 = .ok (.aload_n 0, 1) := by decide +kernel
theorem dX7_playDay_1 : decode cX7_playDay 1 = .ok (.getfield 23, 3) := by decide +kernel
theorem dX7_playDay_4 : decode cX7_playDay 4 = .ok (.aload_n 0, 1) := by decide +kernel
theorem dX7_playDay_5 : decode cX7_playDay 5 = .ok (.getfield 10, 3) := by decide +kernel
theorem dX7_playDay_8 : decode cX7_playDay 8 = .ok (.getfield 45, 3) := by decide +kernel
theorem dX7_playDay_11 : decode cX7_playDay 11 = .ok (.getfield 117, 3) := by decide +kernel
theorem dX7_playDay_14 : decode cX7_playDay 14 = .ok (.invokevirtual 120, 3) := by decide +kernel
theorem dX7_playDay_17 : decode cX7_playDay 17 = .ok (.bipush (-6), 2) := by decide +kernel
theorem dX7_playDay_19 : decode cX7_playDay 19 = .ok (.if_icmp .eq 6, 3) := by decide +kernel
theorem dX7_playDay_22 : decode cX7_playDay 22 = .ok (.bipush (-5), 2) := by decide +kernel
theorem dX7_playDay_24 : decode cX7_playDay 24 = .ok (.ireturn, 1) := by decide +kernel
theorem dX7_playDay_25 : decode cX7_playDay 25 = .ok (.aload_n 0, 1) := by decide +kernel
theorem dX7_playDay_26 : decode cX7_playDay 26 = .ok (.getfield 30, 3) := by decide +kernel
theorem dX7_playDay_29 : decode cX7_playDay 29 = .ok (.aload_n 0, 1) := by decide +kernel
theorem dX7_playDay_30 : decode cX7_playDay 30 = .ok (.getfield 23, 3) := by decide +kernel
theorem dX7_playDay_33 : decode cX7_playDay 33 = .ok (.aload_n 0, 1) := by decide +kernel
theorem dX7_playDay_34 : decode cX7_playDay 34 = .ok (.getfield 10, 3) := by decide +kernel
theorem dX7_playDay_37 : decode cX7_playDay 37 = .ok (.getfield 45, 3) := by decide +kernel
theorem dX7_playDay_40 : decode cX7_playDay 40 = .ok (.aload_n 0, 1) := by decide +kernel
theorem dX7_playDay_41 : decode cX7_playDay 41 = .ok (.getfield 10, 3) := by decide +kernel
theorem dX7_playDay_44 : decode cX7_playDay 44 = .ok (.getfield 85, 3) := by decide +kernel
theorem dX7_playDay_47 : decode cX7_playDay 47 = .ok (.invokevirtual 268, 3) := by decide +kernel
theorem dX7_playDay_50 : decode cX7_playDay 50 = .ok (.aload_n 0, 1) := by decide +kernel
theorem dX7_playDay_51 : decode cX7_playDay 51 = .ok (.getfield 30, 3) := by decide +kernel
theorem dX7_playDay_54 : decode cX7_playDay 54 = .ok (.getfield 127, 3) := by decide +kernel
theorem dX7_playDay_57 : decode cX7_playDay 57 = .ok (.bipush (-6), 2) := by decide +kernel
theorem dX7_playDay_59 : decode cX7_playDay 59 = .ok (.if_icmp .ne 7, 3) := by decide +kernel
theorem dX7_playDay_62 : decode cX7_playDay 62 = .ok (.iconst 0, 1) := by decide +kernel
theorem dX7_playDay_63 : decode cX7_playDay 63 = .ok (.goto 5, 3) := by decide +kernel
theorem dX7_playDay_66 : decode cX7_playDay 66 = .ok (.bipush (-3), 2) := by decide +kernel
theorem dX7_playDay_68 : decode cX7_playDay 68 = .ok (.ireturn, 1) := by decide +kernel
set_option maxRecDepth 20000 in
theorem ggX7_canBeRipe_X7_firstMinute : GoodIn wsX7_canBeRipe wsX7_firstMinute := goodIn_r _ [11, 12, 13, 10, 14, 15, 16, 17, 18] (by decide +kernel) (by decide +kernel)
set_option maxRecDepth 20000 in
theorem gX7_canBeRipe_X7_firstMinute : GoodIn wsX7_canBeRipe (va_wsS RX7 160 yX7_firstMinute wsX7_firstMinute) := goodIn_app (goodIn_of _ (by decide +kernel)) ggX7_canBeRipe_X7_firstMinute
set_option maxRecDepth 20000 in
theorem ggX7_canBeRipe_X6_burntFrom : GoodIn wsX7_canBeRipe wsX6_burntFrom := goodIn_r _ [23, 24, 25, 45, 46, 47, 48, 49] (by decide +kernel) (by decide +kernel)
set_option maxRecDepth 20000 in
theorem gX7_canBeRipe_X6_burntFrom : GoodIn wsX7_canBeRipe (wsV RX7 163 RX6 yX6_burntFrom wsX6_burntFrom) := goodIn_app (goodIn_of _ (by decide +kernel)) ggX7_canBeRipe_X6_burntFrom
theorem dX7_canBeRipe_0 : decode cX7_canBeRipe 0 = .ok (.iconst 0, 1) := by decide +kernel
theorem dX7_canBeRipe_1 : decode cX7_canBeRipe 1 = .ok (.istore_n 3, 1) := by decide +kernel
theorem dX7_canBeRipe_2 : decode cX7_canBeRipe 2 = .ok (.iload_n 3, 1) := by decide +kernel
theorem dX7_canBeRipe_3 : decode cX7_canBeRipe 3 = .ok (.aload_n 0, 1) := by decide +kernel
theorem dX7_canBeRipe_4 : decode cX7_canBeRipe 4 = .ok (.getfield 10, 3) := by decide +kernel
theorem dX7_canBeRipe_7 : decode cX7_canBeRipe 7 = .ok (.getfield 45, 3) := by decide +kernel
theorem dX7_canBeRipe_10 : decode cX7_canBeRipe 10 = .ok (.getfield 183, 3) := by decide +kernel
theorem dX7_canBeRipe_13 : decode cX7_canBeRipe 13 = .ok (.if_icmp .ge 87, 3) := by decide +kernel
theorem dX7_canBeRipe_16 : decode cX7_canBeRipe 16 = .ok (.iload_n 2, 1) := by decide +kernel
theorem dX7_canBeRipe_17 : decode cX7_canBeRipe 17 = .ok (.aload_n 0, 1) := by decide +kernel
theorem dX7_canBeRipe_18 : decode cX7_canBeRipe 18 = .ok (.getfield 10, 3) := by decide +kernel
theorem dX7_canBeRipe_21 : decode cX7_canBeRipe 21 = .ok (.getfield 45, 3) := by decide +kernel
theorem dX7_canBeRipe_24 : decode cX7_canBeRipe 24 = .ok (.getfield 78, 3) := by decide +kernel
theorem dX7_canBeRipe_27 : decode cX7_canBeRipe 27 = .ok (.iload_n 3, 1) := by decide +kernel
theorem dX7_canBeRipe_28 : decode cX7_canBeRipe 28 = .ok (.iaload, 1) := by decide +kernel
theorem dX7_canBeRipe_29 : decode cX7_canBeRipe 29 = .ok (.isub, 1) := by decide +kernel
theorem dX7_canBeRipe_30 : decode cX7_canBeRipe 30 = .ok (.istore 4, 2) := by decide +kernel
theorem dX7_canBeRipe_32 : decode cX7_canBeRipe 32 = .ok (.iload 4, 2) := by decide +kernel
theorem dX7_canBeRipe_34 : decode cX7_canBeRipe 34 = .ok (.aload_n 0, 1) := by decide +kernel
theorem dX7_canBeRipe_35 : decode cX7_canBeRipe 35 = .ok (.getfield 10, 3) := by decide +kernel
theorem dX7_canBeRipe_38 : decode cX7_canBeRipe 38 = .ok (.getfield 45, 3) := by decide +kernel
theorem dX7_canBeRipe_41 : decode cX7_canBeRipe 41 = .ok (.getfield 68, 3) := by decide +kernel
theorem dX7_canBeRipe_44 : decode cX7_canBeRipe 44 = .ok (.aload_n 0, 1) := by decide +kernel
theorem dX7_canBeRipe_45 : decode cX7_canBeRipe 45 = .ok (.getfield 10, 3) := by decide +kernel
theorem dX7_canBeRipe_48 : decode cX7_canBeRipe 48 = .ok (.getfield 85, 3) := by decide +kernel
theorem dX7_canBeRipe_51 : decode cX7_canBeRipe 51 = .ok (.getfield 94, 3) := by decide +kernel
theorem dX7_canBeRipe_54 : decode cX7_canBeRipe 54 = .ok (.iload_n 1, 1) := by decide +kernel
theorem dX7_canBeRipe_55 : decode cX7_canBeRipe 55 = .ok (.iaload, 1) := by decide +kernel
theorem dX7_canBeRipe_56 : decode cX7_canBeRipe 56 = .ok (.invokestatic 160, 3) := by decide +kernel
theorem dX7_canBeRipe_59 : decode cX7_canBeRipe 59 = .ok (.istore 5, 2) := by decide +kernel
theorem dX7_canBeRipe_61 : decode cX7_canBeRipe 61 = .ok (.iload 5, 2) := by decide +kernel
theorem dX7_canBeRipe_63 : decode cX7_canBeRipe 63 = .ok (.iload 4, 2) := by decide +kernel
theorem dX7_canBeRipe_65 : decode cX7_canBeRipe 65 = .ok (.aload_n 0, 1) := by decide +kernel
theorem dX7_canBeRipe_66 : decode cX7_canBeRipe 66 = .ok (.getfield 10, 3) := by decide +kernel
theorem dX7_canBeRipe_69 : decode cX7_canBeRipe 69 = .ok (.getfield 45, 3) := by decide +kernel
theorem dX7_canBeRipe_72 : decode cX7_canBeRipe 72 = .ok (.getfield 68, 3) := by decide +kernel
theorem dX7_canBeRipe_75 : decode cX7_canBeRipe 75 = .ok (.aload_n 0, 1) := by decide +kernel
theorem dX7_canBeRipe_76 : decode cX7_canBeRipe 76 = .ok (.getfield 10, 3) := by decide +kernel
theorem dX7_canBeRipe_79 : decode cX7_canBeRipe 79 = .ok (.getfield 85, 3) := by decide +kernel
theorem dX7_canBeRipe_82 : decode cX7_canBeRipe 82 = .ok (.iload_n 1, 1) := by decide +kernel
theorem dX7_canBeRipe_83 : decode cX7_canBeRipe 83 = .ok (.invokevirtual 163, 3) := by decide +kernel
theorem dX7_canBeRipe_86 : decode cX7_canBeRipe 86 = .ok (.invokestatic 160, 3) := by decide +kernel
theorem dX7_canBeRipe_89 : decode cX7_canBeRipe 89 = .ok (.if_icmp .ge 5, 3) := by decide +kernel
theorem dX7_canBeRipe_92 : decode cX7_canBeRipe 92 = .ok (.iconst 1, 1) := by decide +kernel
theorem dX7_canBeRipe_93 : decode cX7_canBeRipe 93 = .ok (.ireturn, 1) := by decide +kernel
theorem dX7_canBeRipe_94 : decode cX7_canBeRipe 94 = .ok (.iinc 3 1, 3) := by decide +kernel
theorem dX7_canBeRipe_97 : decode cX7_canBeRipe 97 = .ok (.goto (-95), 3) := by decide +kernel
theorem dX7_canBeRipe_100 : decode cX7_canBeRipe 100 = .ok (.iconst 0, 1) := by decide +kernel
theorem dX7_canBeRipe_101 : decode cX7_canBeRipe 101 = .ok (.ireturn, 1) := by decide +kernel
set_option maxRecDepth 20000 in
theorem ggX7_firstStay_X3_rateAt : GoodIn wsX7_firstStay wsX3_rateAt := goodIn_r _ [8, 9, 10, 30, 31, 32, 33, 34, 35, 36, 37, 38, 39, 40] (by decide +kernel) (by decide +kernel)
set_option maxRecDepth 20000 in
theorem gX7_firstStay_X3_rateAt : GoodIn wsX7_firstStay (wsV RX7 157 RX3 yX3_rateAt wsX3_rateAt) := goodIn_app (goodIn_of _ (by decide +kernel)) ggX7_firstStay_X3_rateAt
set_option maxRecDepth 20000 in
theorem ggX7_firstStay_X7_firstMinute : GoodIn wsX7_firstStay wsX7_firstMinute := goodIn_r _ [14, 15, 16, 13, 17, 18, 19, 20, 21] (by decide +kernel) (by decide +kernel)
set_option maxRecDepth 20000 in
theorem gX7_firstStay_X7_firstMinute : GoodIn wsX7_firstStay (va_wsS RX7 160 yX7_firstMinute wsX7_firstMinute) := goodIn_app (goodIn_of _ (by decide +kernel)) ggX7_firstStay_X7_firstMinute
theorem dX7_firstStay_0 : decode cX7_firstStay 0 = .ok (.aload_n 0, 1) := by decide +kernel
theorem dX7_firstStay_1 : decode cX7_firstStay 1 = .ok (.getfield 10, 3) := by decide +kernel
theorem dX7_firstStay_4 : decode cX7_firstStay 4 = .ok (.getfield 45, 3) := by decide +kernel
theorem dX7_firstStay_7 : decode cX7_firstStay 7 = .ok (.iload_n 1, 1) := by decide +kernel
theorem dX7_firstStay_8 : decode cX7_firstStay 8 = .ok (.invokevirtual 157, 3) := by decide +kernel
theorem dX7_firstStay_11 : decode cX7_firstStay 11 = .ok (.aload_n 0, 1) := by decide +kernel
theorem dX7_firstStay_12 : decode cX7_firstStay 12 = .ok (.getfield 10, 3) := by decide +kernel
theorem dX7_firstStay_15 : decode cX7_firstStay 15 = .ok (.getfield 45, 3) := by decide +kernel
theorem dX7_firstStay_18 : decode cX7_firstStay 18 = .ok (.getfield 68, 3) := by decide +kernel
theorem dX7_firstStay_21 : decode cX7_firstStay 21 = .ok (.iload_n 2, 1) := by decide +kernel
theorem dX7_firstStay_22 : decode cX7_firstStay 22 = .ok (.invokestatic 160, 3) := by decide +kernel
theorem dX7_firstStay_25 : decode cX7_firstStay 25 = .ok (.ireturn, 1) := by decide +kernel
set_option maxRecDepth 20000 in
theorem ggX7_countStays_X7_firstStay : GoodIn wsX7_countStays wsX7_firstStay := goodIn_r _ [12, 13, 14, 15, 16, 17, 18, 19, 20, 21, 22, 23, 24, 11, 25, 26, 27, 28, 1, 2, 3, 4, 29, 30, 31, 32, 33, 34, 35, 36, 37, 38, 39, 40, 41, 42, 43, 44, 45, 46, 47] (by decide +kernel) (by decide +kernel)
set_option maxRecDepth 20000 in
theorem gX7_countStays_X7_firstStay : GoodIn wsX7_countStays (wsV RX7 223 RX7 yX7_firstStay wsX7_firstStay) := goodIn_app (goodIn_of _ (by decide +kernel)) ggX7_countStays_X7_firstStay
theorem dX7_countStays_0 : decode cX7_countStays 0 = .ok (.aload_n 0, 1) := by decide +kernel
theorem dX7_countStays_1 : decode cX7_countStays 1 = .ok (.iload_n 1, 1) := by decide +kernel
theorem dX7_countStays_2 : decode cX7_countStays 2 = .ok (.iload_n 2, 1) := by decide +kernel
theorem dX7_countStays_3 : decode cX7_countStays 3 = .ok (.iconst 1, 1) := by decide +kernel
theorem dX7_countStays_4 : decode cX7_countStays 4 = .ok (.iadd, 1) := by decide +kernel
theorem dX7_countStays_5 : decode cX7_countStays 5 = .ok (.invokevirtual 223, 3) := by decide +kernel
theorem dX7_countStays_8 : decode cX7_countStays 8 = .ok (.bipush 100, 2) := by decide +kernel
theorem dX7_countStays_10 : decode cX7_countStays 10 = .ok (.invokestatic 272, 3) := by decide +kernel
theorem dX7_countStays_13 : decode cX7_countStays 13 = .ok (.istore_n 3, 1) := by decide +kernel
theorem dX7_countStays_14 : decode cX7_countStays 14 = .ok (.iconst 0, 1) := by decide +kernel
theorem dX7_countStays_15 : decode cX7_countStays 15 = .ok (.iload_n 3, 1) := by decide +kernel
theorem dX7_countStays_16 : decode cX7_countStays 16 = .ok (.aload_n 0, 1) := by decide +kernel
theorem dX7_countStays_17 : decode cX7_countStays 17 = .ok (.iload_n 1, 1) := by decide +kernel
theorem dX7_countStays_18 : decode cX7_countStays 18 = .ok (.iload_n 2, 1) := by decide +kernel
theorem dX7_countStays_19 : decode cX7_countStays 19 = .ok (.invokevirtual 223, 3) := by decide +kernel
theorem dX7_countStays_22 : decode cX7_countStays 22 = .ok (.isub, 1) := by decide +kernel
theorem dX7_countStays_23 : decode cX7_countStays 23 = .ok (.invokestatic 166, 3) := by decide +kernel
theorem dX7_countStays_26 : decode cX7_countStays 26 = .ok (.ireturn, 1) := by decide +kernel
set_option maxRecDepth 20000 in
theorem ggX7_drawnDay_X6_has : GoodIn wsX7_drawnDay wsX6_has := goodIn_r _ [11, 12, 13, 14, 15, 16, 17, 18, 62, 63, 64, 65, 66] (by decide +kernel) (by decide +kernel)
set_option maxRecDepth 20000 in
theorem gX7_drawnDay_X6_has : GoodIn wsX7_drawnDay (wsV RX7 154 RX6 yX6_has wsX6_has) := goodIn_app (goodIn_of _ (by decide +kernel)) ggX7_drawnDay_X6_has
set_option maxRecDepth 20000 in
theorem ggX7_drawnDay_X3_rateAt : GoodIn wsX7_drawnDay wsX3_rateAt := goodIn_r _ [23, 24, 25, 51, 52, 53, 54, 55, 56, 57, 58, 59, 60, 61] (by decide +kernel) (by decide +kernel)
set_option maxRecDepth 20000 in
theorem gX7_drawnDay_X3_rateAt : GoodIn wsX7_drawnDay (wsV RX7 157 RX3 yX3_rateAt wsX3_rateAt) := goodIn_app (goodIn_of _ (by decide +kernel)) ggX7_drawnDay_X3_rateAt
set_option maxRecDepth 20000 in
theorem ggX7_drawnDay_X7_bakedBehind : GoodIn wsX7_drawnDay wsX7_bakedBehind := goodIn_r _ [28, 29, 30, 31, 32] (by decide +kernel) (by decide +kernel)
set_option maxRecDepth 20000 in
theorem gX7_drawnDay_X7_bakedBehind : GoodIn wsX7_drawnDay (va_wsS RX7 275 yX7_bakedBehind wsX7_bakedBehind) := goodIn_app (goodIn_of _ (by decide +kernel)) ggX7_drawnDay_X7_bakedBehind
set_option maxRecDepth 20000 in
theorem ggX7_drawnDay_X6_verdict : GoodIn wsX7_drawnDay wsX6_verdict := goodIn_r _ [36, 37, 38, 39, 40, 10, 41, 42, 62, 63, 64, 65, 66] (by decide +kernel) (by decide +kernel)
set_option maxRecDepth 20000 in
theorem gX7_drawnDay_X6_verdict : GoodIn wsX7_drawnDay (wsV RX7 233 RX6 yX6_verdict wsX6_verdict) := goodIn_app (goodIn_of _ (by decide +kernel)) ggX7_drawnDay_X6_verdict
theorem dX7_drawnDay_0 : decode cX7_drawnDay 0 = .ok (.aload_n 0, 1) := by decide +kernel
theorem dX7_drawnDay_1 : decode cX7_drawnDay 1 = .ok (.getfield 10, 3) := by decide +kernel
theorem dX7_drawnDay_4 : decode cX7_drawnDay 4 = .ok (.getfield 45, 3) := by decide +kernel
theorem dX7_drawnDay_7 : decode cX7_drawnDay 7 = .ok (.astore_n 3, 1) := by decide +kernel
theorem dX7_drawnDay_8 : decode cX7_drawnDay 8 = .ok (.iload_n 1, 1) := by decide +kernel
theorem dX7_drawnDay_9 : decode cX7_drawnDay 9 = .ok (.bipush 6, 2) := by decide +kernel
theorem dX7_drawnDay_11 : decode cX7_drawnDay 11 = .ok (.irem, 1) := by decide +kernel
theorem dX7_drawnDay_12 : decode cX7_drawnDay 12 = .ok (.istore 4, 2) := by decide +kernel
theorem dX7_drawnDay_14 : decode cX7_drawnDay 14 = .ok (.aload_n 0, 1) := by decide +kernel
theorem dX7_drawnDay_15 : decode cX7_drawnDay 15 = .ok (.getfield 10, 3) := by decide +kernel
theorem dX7_drawnDay_18 : decode cX7_drawnDay 18 = .ok (.getfield 85, 3) := by decide +kernel
theorem dX7_drawnDay_21 : decode cX7_drawnDay 21 = .ok (.iload 4, 2) := by decide +kernel
theorem dX7_drawnDay_23 : decode cX7_drawnDay 23 = .ok (.invokevirtual 154, 3) := by decide +kernel
theorem dX7_drawnDay_26 : decode cX7_drawnDay 26 = .ok (.ifCond .eq 10, 3) := by decide +kernel
theorem dX7_drawnDay_29 : decode cX7_drawnDay 29 = .ok (.aload_n 3, 1) := by decide +kernel
theorem dX7_drawnDay_30 : decode cX7_drawnDay 30 = .ok (.getfield 183, 3) := by decide +kernel
theorem dX7_drawnDay_33 : decode cX7_drawnDay 33 = .ok (.ifCond .gt 5, 3) := by decide +kernel
theorem dX7_drawnDay_36 : decode cX7_drawnDay 36 = .ok (.iconst 0, 1) := by decide +kernel
theorem dX7_drawnDay_37 : decode cX7_drawnDay 37 = .ok (.ireturn, 1) := by decide +kernel
theorem dX7_drawnDay_38 : decode cX7_drawnDay 38 = .ok (.iload_n 1, 1) := by decide +kernel
theorem dX7_drawnDay_39 : decode cX7_drawnDay 39 = .ok (.bipush 6, 2) := by decide +kernel
theorem dX7_drawnDay_41 : decode cX7_drawnDay 41 = .ok (.idiv, 1) := by decide +kernel
theorem dX7_drawnDay_42 : decode cX7_drawnDay 42 = .ok (.aload_n 3, 1) := by decide +kernel
theorem dX7_drawnDay_43 : decode cX7_drawnDay 43 = .ok (.getfield 183, 3) := by decide +kernel
theorem dX7_drawnDay_46 : decode cX7_drawnDay 46 = .ok (.irem, 1) := by decide +kernel
theorem dX7_drawnDay_47 : decode cX7_drawnDay 47 = .ok (.istore 5, 2) := by decide +kernel
theorem dX7_drawnDay_49 : decode cX7_drawnDay 49 = .ok (.iconst 1, 1) := by decide +kernel
theorem dX7_drawnDay_50 : decode cX7_drawnDay 50 = .ok (.iload_n 1, 1) := by decide +kernel
theorem dX7_drawnDay_51 : decode cX7_drawnDay 51 = .ok (.bipush 64, 2) := by decide +kernel
theorem dX7_drawnDay_53 : decode cX7_drawnDay 53 = .ok (.idiv, 1) := by decide +kernel
theorem dX7_drawnDay_54 : decode cX7_drawnDay 54 = .ok (.bipush 40, 2) := by decide +kernel
theorem dX7_drawnDay_56 : decode cX7_drawnDay 56 = .ok (.irem, 1) := by decide +kernel
theorem dX7_drawnDay_57 : decode cX7_drawnDay 57 = .ok (.iadd, 1) := by decide +kernel
theorem dX7_drawnDay_58 : decode cX7_drawnDay 58 = .ok (.istore 6, 2) := by decide +kernel
theorem dX7_drawnDay_60 : decode cX7_drawnDay 60 = .ok (.aload_n 0, 1) := by decide +kernel
theorem dX7_drawnDay_61 : decode cX7_drawnDay 61 = .ok (.getfield 10, 3) := by decide +kernel
theorem dX7_drawnDay_64 : decode cX7_drawnDay 64 = .ok (.getfield 85, 3) := by decide +kernel
theorem dX7_drawnDay_67 : decode cX7_drawnDay 67 = .ok (.iload 4, 2) := by decide +kernel
theorem dX7_drawnDay_69 : decode cX7_drawnDay 69 = .ok (.aload_n 3, 1) := by decide +kernel
theorem dX7_drawnDay_70 : decode cX7_drawnDay 70 = .ok (.iload 5, 2) := by decide +kernel
theorem dX7_drawnDay_72 : decode cX7_drawnDay 72 = .ok (.invokevirtual 157, 3) := by decide +kernel
theorem dX7_drawnDay_75 : decode cX7_drawnDay 75 = .ok (.aload_n 3, 1) := by decide +kernel
theorem dX7_drawnDay_76 : decode cX7_drawnDay 76 = .ok (.getfield 68, 3) := by decide +kernel
theorem dX7_drawnDay_79 : decode cX7_drawnDay 79 = .ok (.iload 6, 2) := by decide +kernel
theorem dX7_drawnDay_81 : decode cX7_drawnDay 81 = .ok (.invokestatic 275, 3) := by decide +kernel
theorem dX7_drawnDay_84 : decode cX7_drawnDay 84 = .ok (.invokevirtual 233, 3) := by decide +kernel
theorem dX7_drawnDay_87 : decode cX7_drawnDay 87 = .ok (.istore 7, 2) := by decide +kernel
theorem dX7_drawnDay_89 : decode cX7_drawnDay 89 = .ok (.iload_n 2, 1) := by decide +kernel
theorem dX7_drawnDay_90 : decode cX7_drawnDay 90 = .ok (.iconst 3, 1) := by decide +kernel
theorem dX7_drawnDay_91 : decode cX7_drawnDay 91 = .ok (.if_icmp .ne 27, 3) := by decide +kernel
theorem dX7_drawnDay_94 : decode cX7_drawnDay 94 = .ok (.iload 7, 2) := by decide +kernel
theorem dX7_drawnDay_96 : decode cX7_drawnDay 96 = .ok (.iconst 1, 1) := by decide +kernel
theorem dX7_drawnDay_97 : decode cX7_drawnDay 97 = .ok (.if_icmp .ne 19, 3) := by decide +kernel
theorem dX7_drawnDay_100 : decode cX7_drawnDay 100 = .ok (.aload_n 0, 1) := by decide +kernel
theorem dX7_drawnDay_101 : decode cX7_drawnDay 101 = .ok (.getfield 10, 3) := by decide +kernel
theorem dX7_drawnDay_104 : decode cX7_drawnDay 104 = .ok (.getfield 85, 3) := by decide +kernel
theorem dX7_drawnDay_107 : decode cX7_drawnDay 107 = .ok (.getfield 100, 3) := by decide +kernel
theorem dX7_drawnDay_110 : decode cX7_drawnDay 110 = .ok (.iload 4, 2) := by decide +kernel
theorem dX7_drawnDay_112 : decode cX7_drawnDay 112 = .ok (.iaload, 1) := by decide +kernel
theorem dX7_drawnDay_113 : decode cX7_drawnDay 113 = .ok (.goto 4, 3) := by decide +kernel
theorem dX7_drawnDay_116 : decode cX7_drawnDay 116 = .ok (.iconst 0, 1) := by decide +kernel
theorem dX7_drawnDay_117 : decode cX7_drawnDay 117 = .ok (.ireturn, 1) := by decide +kernel
theorem dX7_drawnDay_118 : decode cX7_drawnDay 118 = .ok (.iload 7, 2) := by decide +kernel
theorem dX7_drawnDay_120 : decode cX7_drawnDay 120 = .ok (.iload_n 2, 1) := by decide +kernel
theorem dX7_drawnDay_121 : decode cX7_drawnDay 121 = .ok (.if_icmp .ne 7, 3) := by decide +kernel
theorem dX7_drawnDay_124 : decode cX7_drawnDay 124 = .ok (.iconst 1, 1) := by decide +kernel
theorem dX7_drawnDay_125 : decode cX7_drawnDay 125 = .ok (.goto 4, 3) := by decide +kernel
theorem dX7_drawnDay_128 : decode cX7_drawnDay 128 = .ok (.iconst 0, 1) := by decide +kernel
theorem dX7_drawnDay_129 : decode cX7_drawnDay 129 = .ok (.ireturn, 1) := by decide +kernel
theorem dX7_bakedBehind_0 : decode cX7_bakedBehind 0 = .ok (.iload_n 0, 1) := by decide +kernel
theorem dX7_bakedBehind_1 : decode cX7_bakedBehind 1 = .ok (.ifCond .gt 5, 3) := by decide +kernel
theorem dX7_bakedBehind_4 : decode cX7_bakedBehind 4 = .ok (.iconst 0, 1) := by decide +kernel
theorem dX7_bakedBehind_5 : decode cX7_bakedBehind 5 = .ok (.ireturn, 1) := by decide +kernel
theorem dX7_bakedBehind_6 : decode cX7_bakedBehind 6 = .ok (.iload_n 2, 1) := by decide +kernel
theorem dX7_bakedBehind_7 : decode cX7_bakedBehind 7 = .ok (.istore_n 3, 1) := by decide +kernel
theorem dX7_bakedBehind_8 : decode cX7_bakedBehind 8 = .ok (.iload_n 1, 1) := by decide +kernel
theorem dX7_bakedBehind_9 : decode cX7_bakedBehind 9 = .ok (.ifCond .le 15, 3) := by decide +kernel
theorem dX7_bakedBehind_12 : decode cX7_bakedBehind 12 = .ok (.iload_n 2, 1) := by decide +kernel
theorem dX7_bakedBehind_13 : decode cX7_bakedBehind 13 = .ok (.iload_n 0, 1) := by decide +kernel
theorem dX7_bakedBehind_14 : decode cX7_bakedBehind 14 = .ok (.iload_n 1, 1) := by decide +kernel
theorem dX7_bakedBehind_15 : decode cX7_bakedBehind 15 = .ok (.iadd, 1) := by decide +kernel
theorem dX7_bakedBehind_16 : decode cX7_bakedBehind 16 = .ok (.iconst 1, 1) := by decide +kernel
theorem dX7_bakedBehind_17 : decode cX7_bakedBehind 17 = .ok (.isub, 1) := by decide +kernel
theorem dX7_bakedBehind_18 : decode cX7_bakedBehind 18 = .ok (.iload_n 1, 1) := by decide +kernel
theorem dX7_bakedBehind_19 : decode cX7_bakedBehind 19 = .ok (.idiv, 1) := by decide +kernel
theorem dX7_bakedBehind_20 : decode cX7_bakedBehind 20 = .ok (.invokestatic 272, 3) := by decide +kernel
theorem dX7_bakedBehind_23 : decode cX7_bakedBehind 23 = .ok (.istore_n 3, 1) := by decide +kernel
theorem dX7_bakedBehind_24 : decode cX7_bakedBehind 24 = .ok (.iload_n 3, 1) := by decide +kernel
theorem dX7_bakedBehind_25 : decode cX7_bakedBehind 25 = .ok (.iload_n 0, 1) := by decide +kernel
theorem dX7_bakedBehind_26 : decode cX7_bakedBehind 26 = .ok (.imul, 1) := by decide +kernel
theorem dX7_bakedBehind_27 : decode cX7_bakedBehind 27 = .ok (.iload_n 1, 1) := by decide +kernel
theorem dX7_bakedBehind_28 : decode cX7_bakedBehind 28 = .ok (.iload_n 3, 1) := by decide +kernel
theorem dX7_bakedBehind_29 : decode cX7_bakedBehind 29 = .ok (.iload_n 3, 1) := by decide +kernel
theorem dX7_bakedBehind_30 : decode cX7_bakedBehind 30 = .ok (.iconst 1, 1) := by decide +kernel
theorem dX7_bakedBehind_31 : decode cX7_bakedBehind 31 = .ok (.isub, 1) := by decide +kernel
theorem dX7_bakedBehind_32 : decode cX7_bakedBehind 32 = .ok (.imul, 1) := by decide +kernel
theorem dX7_bakedBehind_33 : decode cX7_bakedBehind 33 = .ok (.iconst 2, 1) := by decide +kernel
theorem dX7_bakedBehind_34 : decode cX7_bakedBehind 34 = .ok (.idiv, 1) := by decide +kernel
theorem dX7_bakedBehind_35 : decode cX7_bakedBehind 35 = .ok (.imul, 1) := by decide +kernel
theorem dX7_bakedBehind_36 : decode cX7_bakedBehind 36 = .ok (.isub, 1) := by decide +kernel
theorem dX7_bakedBehind_37 : decode cX7_bakedBehind 37 = .ok (.ireturn, 1) := by decide +kernel
set_option maxRecDepth 20000 in
theorem ggX7_firstMinute_X7_bakedBehind : GoodIn wsX7_firstMinute wsX7_bakedBehind := goodIn_r _ [4, 5, 6, 7, 8] (by decide +kernel) (by decide +kernel)
set_option maxRecDepth 20000 in
theorem gX7_firstMinute_X7_bakedBehind : GoodIn wsX7_firstMinute (va_wsS RX7 275 yX7_bakedBehind wsX7_bakedBehind) := goodIn_app (goodIn_of _ (by decide +kernel)) ggX7_firstMinute_X7_bakedBehind
theorem dX7_firstMinute_0 : decode cX7_firstMinute 0 = .ok (.iconst 0, 1) := by decide +kernel
theorem dX7_firstMinute_1 : decode cX7_firstMinute 1 = .ok (.istore_n 3, 1) := by decide +kernel
theorem dX7_firstMinute_2 : decode cX7_firstMinute 2 = .ok (.sipush 512, 3) := by decide +kernel
theorem dX7_firstMinute_5 : decode cX7_firstMinute 5 = .ok (.istore 4, 2) := by decide +kernel
theorem dX7_firstMinute_7 : decode cX7_firstMinute 7 = .ok (.iload 4, 2) := by decide +kernel
theorem dX7_firstMinute_9 : decode cX7_firstMinute 9 = .ok (.ifCond .le 40, 3) := by decide +kernel
theorem dX7_firstMinute_12 : decode cX7_firstMinute 12 = .ok (.iload_n 3, 1) := by decide +kernel
theorem dX7_firstMinute_13 : decode cX7_firstMinute 13 = .ok (.iload 4, 2) := by decide +kernel
theorem dX7_firstMinute_15 : decode cX7_firstMinute 15 = .ok (.iadd, 1) := by decide +kernel
theorem dX7_firstMinute_16 : decode cX7_firstMinute 16 = .ok (.istore 5, 2) := by decide +kernel
theorem dX7_firstMinute_18 : decode cX7_firstMinute 18 = .ok (.iload 5, 2) := by decide +kernel
theorem dX7_firstMinute_20 : decode cX7_firstMinute 20 = .ok (.sipush 999, 3) := by decide +kernel
theorem dX7_firstMinute_23 : decode cX7_firstMinute 23 = .ok (.if_icmp .gt 17, 3) := by decide +kernel
theorem dX7_firstMinute_26 : decode cX7_firstMinute 26 = .ok (.iload_n 0, 1) := by decide +kernel
theorem dX7_firstMinute_27 : decode cX7_firstMinute 27 = .ok (.iload_n 1, 1) := by decide +kernel
theorem dX7_firstMinute_28 : decode cX7_firstMinute 28 = .ok (.iload 5, 2) := by decide +kernel
theorem dX7_firstMinute_30 : decode cX7_firstMinute 30 = .ok (.invokestatic 275, 3) := by decide +kernel
theorem dX7_firstMinute_33 : decode cX7_firstMinute 33 = .ok (.iload_n 2, 1) := by decide +kernel
theorem dX7_firstMinute_34 : decode cX7_firstMinute 34 = .ok (.if_icmp .ge 6, 3) := by decide +kernel
theorem dX7_firstMinute_37 : decode cX7_firstMinute 37 = .ok (.iload 5, 2) := by decide +kernel
theorem dX7_firstMinute_39 : decode cX7_firstMinute 39 = .ok (.istore_n 3, 1) := by decide +kernel
theorem dX7_firstMinute_40 : decode cX7_firstMinute 40 = .ok (.iload 4, 2) := by decide +kernel
theorem dX7_firstMinute_42 : decode cX7_firstMinute 42 = .ok (.iconst 1, 1) := by decide +kernel
theorem dX7_firstMinute_43 : decode cX7_firstMinute 43 = .ok (.ishr, 1) := by decide +kernel
theorem dX7_firstMinute_44 : decode cX7_firstMinute 44 = .ok (.istore 4, 2) := by decide +kernel
theorem dX7_firstMinute_46 : decode cX7_firstMinute 46 = .ok (.goto (-39), 3) := by decide +kernel
theorem dX7_firstMinute_49 : decode cX7_firstMinute 49 = .ok (.iload_n 3, 1) := by decide +kernel
theorem dX7_firstMinute_50 : decode cX7_firstMinute 50 = .ok (.iconst 1, 1) := by decide +kernel
theorem dX7_firstMinute_51 : decode cX7_firstMinute 51 = .ok (.iadd, 1) := by decide +kernel
theorem dX7_firstMinute_52 : decode cX7_firstMinute 52 = .ok (.ireturn, 1) := by decide +kernel
theorem dX7_power_0 : decode cX7_power 0 = .ok (.lconst 1, 1) := by decide +kernel
theorem dX7_power_1 : decode cX7_power 1 = .ok (.lstore_n 2, 1) := by decide +kernel
theorem dX7_power_2 : decode cX7_power 2 = .ok (.iconst 0, 1) := by decide +kernel
theorem dX7_power_3 : decode cX7_power 3 = .ok (.istore 4, 2) := by decide +kernel
theorem dX7_power_5 : decode cX7_power 5 = .ok (.iload 4, 2) := by decide +kernel
theorem dX7_power_7 : decode cX7_power 7 = .ok (.iload_n 1, 1) := by decide +kernel
theorem dX7_power_8 : decode cX7_power 8 = .ok (.if_icmp .ge 14, 3) := by decide +kernel
theorem dX7_power_11 : decode cX7_power 11 = .ok (.lload_n 2, 1) := by decide +kernel
theorem dX7_power_12 : decode cX7_power 12 = .ok (.iload_n 0, 1) := by decide +kernel
theorem dX7_power_13 : decode cX7_power 13 = .ok (.i2l, 1) := by decide +kernel
theorem dX7_power_14 : decode cX7_power 14 = .ok (.lmul, 1) := by decide +kernel
theorem dX7_power_15 : decode cX7_power 15 = .ok (.lstore_n 2, 1) := by decide +kernel
theorem dX7_power_16 : decode cX7_power 16 = .ok (.iinc 4 1, 3) := by decide +kernel
theorem dX7_power_19 : decode cX7_power 19 = .ok (.goto (-14), 3) := by decide +kernel
theorem dX7_power_22 : decode cX7_power 22 = .ok (.lload_n 2, 1) := by decide +kernel
theorem dX7_power_23 : decode cX7_power 23 = .ok (.lreturn, 1) := by decide +kernel
theorem dX7_commonDivisor_0 : decode cX7_commonDivisor 0 = .ok (.lload_n 0, 1) := by decide +kernel
theorem dX7_commonDivisor_1 : decode cX7_commonDivisor 1 = .ok (.lstore 4, 2) := by decide +kernel
theorem dX7_commonDivisor_3 : decode cX7_commonDivisor 3 = .ok (.lload_n 2, 1) := by decide +kernel
theorem dX7_commonDivisor_4 : decode cX7_commonDivisor 4 = .ok (.lstore 6, 2) := by decide +kernel
theorem dX7_commonDivisor_6 : decode cX7_commonDivisor 6 = .ok (.iconst 0, 1) := by decide +kernel
theorem dX7_commonDivisor_7 : decode cX7_commonDivisor 7 = .ok (.istore 8, 2) := by decide +kernel
theorem dX7_commonDivisor_9 : decode cX7_commonDivisor 9 = .ok (.iload 8, 2) := by decide +kernel
theorem dX7_commonDivisor_11 : decode cX7_commonDivisor 11 = .ok (.bipush 100, 2) := by decide +kernel
theorem dX7_commonDivisor_13 : decode cX7_commonDivisor 13 = .ok (.if_icmp .ge 31, 3) := by decide +kernel
theorem dX7_commonDivisor_16 : decode cX7_commonDivisor 16 = .ok (.lload 6, 2) := by decide +kernel
theorem dX7_commonDivisor_18 : decode cX7_commonDivisor 18 = .ok (.lconst 0, 1) := by decide +kernel
theorem dX7_commonDivisor_19 : decode cX7_commonDivisor 19 = .ok (.lcmp, 1) := by decide +kernel
theorem dX7_commonDivisor_20 : decode cX7_commonDivisor 20 = .ok (.ifCond .eq 24, 3) := by decide +kernel
theorem dX7_commonDivisor_23 : decode cX7_commonDivisor 23 = .ok (.lload 4, 2) := by decide +kernel
theorem dX7_commonDivisor_25 : decode cX7_commonDivisor 25 = .ok (.lload 6, 2) := by decide +kernel
theorem dX7_commonDivisor_27 : decode cX7_commonDivisor 27 = .ok (.lrem, 1) := by decide +kernel
theorem dX7_commonDivisor_28 : decode cX7_commonDivisor 28 = .ok (.lstore 9, 2) := by decide +kernel
theorem dX7_commonDivisor_30 : decode cX7_commonDivisor 30 = .ok (.lload 6, 2) := by decide +kernel
theorem dX7_commonDivisor_32 : decode cX7_commonDivisor 32 = .ok (.lstore 4, 2) := by decide +kernel
theorem dX7_commonDivisor_34 : decode cX7_commonDivisor 34 = .ok (.lload 9, 2) := by decide +kernel
theorem dX7_commonDivisor_36 : decode cX7_commonDivisor 36 = .ok (.lstore 6, 2) := by decide +kernel
theorem dX7_commonDivisor_38 : decode cX7_commonDivisor 38 = .ok (.iinc 8 1, 3) := by decide +kernel
theorem dX7_commonDivisor_41 : decode cX7_commonDivisor 41 = .ok (.goto (-32), 3) := by decide +kernel
theorem dX7_commonDivisor_44 : decode cX7_commonDivisor 44 = .ok (.lload 4, 2) := by decide +kernel
theorem dX7_commonDivisor_46 : decode cX7_commonDivisor 46 = .ok (.lreturn, 1) := by decide +kernel
