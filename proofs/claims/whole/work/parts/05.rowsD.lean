theorem dX8_layRipe_0 : decode cX8_layRipe 0 = .ok (.iconst 0, 1) := by decide +kernel
theorem dX8_layRipe_1 : decode cX8_layRipe 1 = .ok (.istore_n 2, 1) := by decide +kernel
theorem dX8_layRipe_2 : decode cX8_layRipe 2 = .ok (.iload_n 2, 1) := by decide +kernel
theorem dX8_layRipe_3 : decode cX8_layRipe 3 = .ok (.bipush 6, 2) := by decide +kernel
theorem dX8_layRipe_5 : decode cX8_layRipe 5 = .ok (.if_icmp .ge 96, 3) := by decide +kernel
theorem dX8_layRipe_8 : decode cX8_layRipe 8 = .ok (.iconst 0, 1) := by decide +kernel
theorem dX8_layRipe_9 : decode cX8_layRipe 9 = .ok (.istore_n 3, 1) := by decide +kernel
theorem dX8_layRipe_10 : decode cX8_layRipe 10 = .ok (.iload_n 3, 1) := by decide +kernel
theorem dX8_layRipe_11 : decode cX8_layRipe 11 = .ok (.aload_n 0, 1) := by decide +kernel
theorem dX8_layRipe_12 : decode cX8_layRipe 12 = .ok (.getfield 84, 3) := by decide +kernel
theorem dX8_layRipe_15 : decode cX8_layRipe 15 = .ok (.if_icmp .ge 80, 3) := by decide +kernel
theorem dX8_layRipe_18 : decode cX8_layRipe 18 = .ok (.aload_n 0, 1) := by decide +kernel
theorem dX8_layRipe_19 : decode cX8_layRipe 19 = .ok (.iload_n 2, 1) := by decide +kernel
theorem dX8_layRipe_20 : decode cX8_layRipe 20 = .ok (.invokevirtual 154, 3) := by decide +kernel
theorem dX8_layRipe_23 : decode cX8_layRipe 23 = .ok (.ifCond .eq 10, 3) := by decide +kernel
theorem dX8_layRipe_26 : decode cX8_layRipe 26 = .ok (.aload_n 0, 1) := by decide +kernel
theorem dX8_layRipe_27 : decode cX8_layRipe 27 = .ok (.iload_n 2, 1) := by decide +kernel
theorem dX8_layRipe_28 : decode cX8_layRipe 28 = .ok (.iload_n 3, 1) := by decide +kernel
theorem dX8_layRipe_29 : decode cX8_layRipe 29 = .ok (.iload_n 1, 1) := by decide +kernel
theorem dX8_layRipe_30 : decode cX8_layRipe 30 = .ok (.invokevirtual 216, 3) := by decide +kernel
theorem dX8_layRipe_33 : decode cX8_layRipe 33 = .ok (.aload_n 0, 1) := by decide +kernel
theorem dX8_layRipe_34 : decode cX8_layRipe 34 = .ok (.getfield 58, 3) := by decide +kernel
theorem dX8_layRipe_37 : decode cX8_layRipe 37 = .ok (.bipush 6, 2) := by decide +kernel
theorem dX8_layRipe_39 : decode cX8_layRipe 39 = .ok (.iload_n 2, 1) := by decide +kernel
theorem dX8_layRipe_40 : decode cX8_layRipe 40 = .ok (.imul, 1) := by decide +kernel
theorem dX8_layRipe_41 : decode cX8_layRipe 41 = .ok (.iload_n 3, 1) := by decide +kernel
theorem dX8_layRipe_42 : decode cX8_layRipe 42 = .ok (.iadd, 1) := by decide +kernel
theorem dX8_layRipe_43 : decode cX8_layRipe 43 = .ok (.aload_n 0, 1) := by decide +kernel
theorem dX8_layRipe_44 : decode cX8_layRipe 44 = .ok (.iload_n 2, 1) := by decide +kernel
theorem dX8_layRipe_45 : decode cX8_layRipe 45 = .ok (.invokevirtual 154, 3) := by decide +kernel
theorem dX8_layRipe_48 : decode cX8_layRipe 48 = .ok (.ifCond .eq 10, 3) := by decide +kernel
theorem dX8_layRipe_51 : decode cX8_layRipe 51 = .ok (.aload_n 0, 1) := by decide +kernel
theorem dX8_layRipe_52 : decode cX8_layRipe 52 = .ok (.getfield 210, 3) := by decide +kernel
theorem dX8_layRipe_55 : decode cX8_layRipe 55 = .ok (.goto 5, 3) := by decide +kernel
theorem dX8_layRipe_58 : decode cX8_layRipe 58 = .ok (.bipush (-6), 2) := by decide +kernel
theorem dX8_layRipe_60 : decode cX8_layRipe 60 = .ok (.iastore, 1) := by decide +kernel
theorem dX8_layRipe_61 : decode cX8_layRipe 61 = .ok (.aload_n 0, 1) := by decide +kernel
theorem dX8_layRipe_62 : decode cX8_layRipe 62 = .ok (.getfield 61, 3) := by decide +kernel
theorem dX8_layRipe_65 : decode cX8_layRipe 65 = .ok (.bipush 6, 2) := by decide +kernel
theorem dX8_layRipe_67 : decode cX8_layRipe 67 = .ok (.iload_n 2, 1) := by decide +kernel
theorem dX8_layRipe_68 : decode cX8_layRipe 68 = .ok (.imul, 1) := by decide +kernel
theorem dX8_layRipe_69 : decode cX8_layRipe 69 = .ok (.iload_n 3, 1) := by decide +kernel
theorem dX8_layRipe_70 : decode cX8_layRipe 70 = .ok (.iadd, 1) := by decide +kernel
theorem dX8_layRipe_71 : decode cX8_layRipe 71 = .ok (.aload_n 0, 1) := by decide +kernel
theorem dX8_layRipe_72 : decode cX8_layRipe 72 = .ok (.iload_n 2, 1) := by decide +kernel
theorem dX8_layRipe_73 : decode cX8_layRipe 73 = .ok (.invokevirtual 154, 3) := by decide +kernel
theorem dX8_layRipe_76 : decode cX8_layRipe 76 = .ok (.ifCond .eq 10, 3) := by decide +kernel
theorem dX8_layRipe_79 : decode cX8_layRipe 79 = .ok (.aload_n 0, 1) := by decide +kernel
theorem dX8_layRipe_80 : decode cX8_layRipe 80 = .ok (.getfield 213, 3) := by decide +kernel
theorem dX8_layRipe_83 : decode cX8_layRipe 83 = .ok (.goto 5, 3) := by decide +kernel
theorem dX8_layRipe_86 : decode cX8_layRipe 86 = .ok (.bipush (-6), 2) := by decide +kernel
theorem dX8_layRipe_88 : decode cX8_layRipe 88 = .ok (.iastore, 1) := by decide +kernel
theorem dX8_layRipe_89 : decode cX8_layRipe 89 = .ok (.iinc 3 1, 3) := by decide +kernel
theorem dX8_layRipe_92 : decode cX8_layRipe 92 = .ok (.goto (-82), 3) := by decide +kernel
theorem dX8_layRipe_95 : decode cX8_layRipe 95 = .ok (.iinc 2 1, 3) := by decide +kernel
theorem dX8_layRipe_98 : decode cX8_layRipe 98 = .ok (.goto (-96), 3) := by decide +kernel
theorem dX8_layRipe_101 : decode cX8_layRipe 101 = .ok (.return_, 1) := by decide +kernel
set_option maxRecDepth 20000 in
theorem ggX8_layLoaves_X8_isSort : GoodIn wsX8_layLoaves wsX8_isSort := goodIn_r _ [7, 8, 9, 10, 6, 11, 12, 13, 14, 15, 16, 17, 18, 19, 20, 21, 22, 23, 24, 25, 26, 27, 28, 29, 30, 31, 32, 33, 34, 35, 36, 37, 38, 39, 40, 41, 42, 43, 44, 45, 46, 47, 48, 49, 50, 51, 52, 53, 54, 55, 56, 57, 58, 59, 60, 61] (by decide +kernel) (by decide +kernel)
set_option maxRecDepth 20000 in
theorem gX8_layLoaves_X8_isSort : GoodIn wsX8_layLoaves (wsV RX8 154 RX8 yX8_isSort wsX8_isSort) := goodIn_app (goodIn_of _ (by decide +kernel)) ggX8_layLoaves_X8_isSort
theorem dX8_layLoaves_0 : decode cX8_layLoaves 0 = .ok (.aload_n 0, 1) := by decide +kernel
theorem dX8_layLoaves_1 : decode cX8_layLoaves 1 = .ok (.iconst 0, 1) := by decide +kernel
theorem dX8_layLoaves_2 : decode cX8_layLoaves 2 = .ok (.putfield 222, 3) := by decide +kernel
theorem dX8_layLoaves_5 : decode cX8_layLoaves 5 = .ok (.iconst 1, 1) := by decide +kernel
theorem dX8_layLoaves_6 : decode cX8_layLoaves 6 = .ok (.istore_n 2, 1) := by decide +kernel
theorem dX8_layLoaves_7 : decode cX8_layLoaves 7 = .ok (.iload_n 1, 1) := by decide +kernel
theorem dX8_layLoaves_8 : decode cX8_layLoaves 8 = .ok (.istore_n 3, 1) := by decide +kernel
theorem dX8_layLoaves_9 : decode cX8_layLoaves 9 = .ok (.iload_n 3, 1) := by decide +kernel
theorem dX8_layLoaves_10 : decode cX8_layLoaves 10 = .ok (.ifCond .le 104, 3) := by decide +kernel
theorem dX8_layLoaves_13 : decode cX8_layLoaves 13 = .ok (.iload_n 3, 1) := by decide +kernel
theorem dX8_layLoaves_14 : decode cX8_layLoaves 14 = .ok (.bipush 10, 2) := by decide +kernel
theorem dX8_layLoaves_16 : decode cX8_layLoaves 16 = .ok (.irem, 1) := by decide +kernel
theorem dX8_layLoaves_17 : decode cX8_layLoaves 17 = .ok (.iconst 1, 1) := by decide +kernel
theorem dX8_layLoaves_18 : decode cX8_layLoaves 18 = .ok (.isub, 1) := by decide +kernel
theorem dX8_layLoaves_19 : decode cX8_layLoaves 19 = .ok (.istore 4, 2) := by decide +kernel
theorem dX8_layLoaves_21 : decode cX8_layLoaves 21 = .ok (.iload_n 2, 1) := by decide +kernel
theorem dX8_layLoaves_22 : decode cX8_layLoaves 22 = .ok (.ifCond .eq 16, 3) := by decide +kernel
theorem dX8_layLoaves_25 : decode cX8_layLoaves 25 = .ok (.aload_n 0, 1) := by decide +kernel
theorem dX8_layLoaves_26 : decode cX8_layLoaves 26 = .ok (.iload 4, 2) := by decide +kernel
theorem dX8_layLoaves_28 : decode cX8_layLoaves 28 = .ok (.invokevirtual 154, 3) := by decide +kernel
theorem dX8_layLoaves_31 : decode cX8_layLoaves 31 = .ok (.ifCond .eq 7, 3) := by decide +kernel
theorem dX8_layLoaves_34 : decode cX8_layLoaves 34 = .ok (.iconst 1, 1) := by decide +kernel
theorem dX8_layLoaves_35 : decode cX8_layLoaves 35 = .ok (.goto 4, 3) := by decide +kernel
theorem dX8_layLoaves_38 : decode cX8_layLoaves 38 = .ok (.iconst 0, 1) := by decide +kernel
theorem dX8_layLoaves_39 : decode cX8_layLoaves 39 = .ok (.istore_n 2, 1) := by decide +kernel
theorem dX8_layLoaves_40 : decode cX8_layLoaves 40 = .ok (.aload_n 0, 1) := by decide +kernel
theorem dX8_layLoaves_41 : decode cX8_layLoaves 41 = .ok (.getfield 222, 3) := by decide +kernel
theorem dX8_layLoaves_44 : decode cX8_layLoaves 44 = .ok (.istore 5, 2) := by decide +kernel
theorem dX8_layLoaves_46 : decode cX8_layLoaves 46 = .ok (.iload 5, 2) := by decide +kernel
theorem dX8_layLoaves_48 : decode cX8_layLoaves 48 = .ok (.ifCond .le 39, 3) := by decide +kernel
theorem dX8_layLoaves_51 : decode cX8_layLoaves 51 = .ok (.aload_n 0, 1) := by decide +kernel
theorem dX8_layLoaves_52 : decode cX8_layLoaves 52 = .ok (.getfield 55, 3) := by decide +kernel
theorem dX8_layLoaves_55 : decode cX8_layLoaves 55 = .ok (.iload 5, 2) := by decide +kernel
theorem dX8_layLoaves_57 : decode cX8_layLoaves 57 = .ok (.iconst 1, 1) := by decide +kernel
theorem dX8_layLoaves_58 : decode cX8_layLoaves 58 = .ok (.isub, 1) := by decide +kernel
theorem dX8_layLoaves_59 : decode cX8_layLoaves 59 = .ok (.iaload, 1) := by decide +kernel
theorem dX8_layLoaves_60 : decode cX8_layLoaves 60 = .ok (.iload 4, 2) := by decide +kernel
theorem dX8_layLoaves_62 : decode cX8_layLoaves 62 = .ok (.if_icmp .le 25, 3) := by decide +kernel
theorem dX8_layLoaves_65 : decode cX8_layLoaves 65 = .ok (.aload_n 0, 1) := by decide +kernel
theorem dX8_layLoaves_66 : decode cX8_layLoaves 66 = .ok (.getfield 55, 3) := by decide +kernel
theorem dX8_layLoaves_69 : decode cX8_layLoaves 69 = .ok (.iload 5, 2) := by decide +kernel
theorem dX8_layLoaves_71 : decode cX8_layLoaves 71 = .ok (.aload_n 0, 1) := by decide +kernel
theorem dX8_layLoaves_72 : decode cX8_layLoaves 72 = .ok (.getfield 55, 3) := by decide +kernel
theorem dX8_layLoaves_75 : decode cX8_layLoaves 75 = .ok (.iload 5, 2) := by decide +kernel
theorem dX8_layLoaves_77 : decode cX8_layLoaves 77 = .ok (.iconst 1, 1) := by decide +kernel
theorem dX8_layLoaves_78 : decode cX8_layLoaves 78 = .ok (.isub, 1) := by decide +kernel
theorem dX8_layLoaves_79 : decode cX8_layLoaves 79 = .ok (.iaload, 1) := by decide +kernel
theorem dX8_layLoaves_80 : decode cX8_layLoaves 80 = .ok (.iastore, 1) := by decide +kernel
theorem dX8_layLoaves_81 : decode cX8_layLoaves 81 = .ok (.iinc 5 (-1), 3) := by decide +kernel
theorem dX8_layLoaves_84 : decode cX8_layLoaves 84 = .ok (.goto (-38), 3) := by decide +kernel
theorem dX8_layLoaves_87 : decode cX8_layLoaves 87 = .ok (.aload_n 0, 1) := by decide +kernel
theorem dX8_layLoaves_88 : decode cX8_layLoaves 88 = .ok (.getfield 55, 3) := by decide +kernel
theorem dX8_layLoaves_91 : decode cX8_layLoaves 91 = .ok (.iload 5, 2) := by decide +kernel
theorem dX8_layLoaves_93 : decode cX8_layLoaves 93 = .ok (.iload 4, 2) := by decide +kernel
theorem dX8_layLoaves_95 : decode cX8_layLoaves 95 = .ok (.iastore, 1) := by decide +kernel
theorem dX8_layLoaves_96 : decode cX8_layLoaves 96 = .ok (.aload_n 0, 1) := by decide +kernel
theorem dX8_layLoaves_97 : decode cX8_layLoaves 97 = .ok (.dup, 1) := by decide +kernel
theorem dX8_layLoaves_98 : decode cX8_layLoaves 98 = .ok (.getfield 222, 3) := by decide +kernel
theorem dX8_layLoaves_101 : decode cX8_layLoaves 101 = .ok (.iconst 1, 1) := by decide +kernel
theorem dX8_layLoaves_102 : decode cX8_layLoaves 102 = .ok (.iadd, 1) := by decide +kernel
theorem dX8_layLoaves_103 : decode cX8_layLoaves 103 = .ok (.putfield 222, 3) := by decide +kernel
theorem dX8_layLoaves_106 : decode cX8_layLoaves 106 = .ok (.iload_n 3, 1) := by decide +kernel
theorem dX8_layLoaves_107 : decode cX8_layLoaves 107 = .ok (.bipush 10, 2) := by decide +kernel
theorem dX8_layLoaves_109 : decode cX8_layLoaves 109 = .ok (.idiv, 1) := by decide +kernel
theorem dX8_layLoaves_110 : decode cX8_layLoaves 110 = .ok (.istore_n 3, 1) := by decide +kernel
theorem dX8_layLoaves_111 : decode cX8_layLoaves 111 = .ok (.goto (-102), 3) := by decide +kernel
theorem dX8_layLoaves_114 : decode cX8_layLoaves 114 = .ok (.iload_n 2, 1) := by decide +kernel
theorem dX8_layLoaves_115 : decode cX8_layLoaves 115 = .ok (.ireturn, 1) := by decide +kernel
set_option maxRecDepth 20000 in
theorem ggX8_isLoaves_X8_in : GoodIn wsX8_isLoaves wsX8_in := goodIn_r _ [5] (by decide +kernel) (by decide +kernel)
set_option maxRecDepth 20000 in
theorem gX8_isLoaves_X8_in : GoodIn wsX8_isLoaves (va_wsS RX8 96 yX8_in wsX8_in) := goodIn_app (goodIn_of _ (by decide +kernel)) ggX8_isLoaves_X8_in
theorem dX8_isLoaves_0 : decode cX8_isLoaves 0 = .ok (.iload_n 0, 1) := by decide +kernel
theorem dX8_isLoaves_1 : decode cX8_isLoaves 1 = .ok (.i2l, 1) := by decide +kernel
theorem dX8_isLoaves_2 : decode cX8_isLoaves 2 = .ok (.lconst 0, 1) := by decide +kernel
theorem dX8_isLoaves_3 : decode cX8_isLoaves 3 = .ok (.ldc2_w 225, 3) := by decide +kernel
theorem dX8_isLoaves_6 : decode cX8_isLoaves 6 = .ok (.invokestatic 96, 3) := by decide +kernel
theorem dX8_isLoaves_9 : decode cX8_isLoaves 9 = .ok (.ireturn, 1) := by decide +kernel
theorem dX8_outBy_0 : decode cX8_outBy 0 = .ok (.iconst 0, 1) := by decide +kernel
theorem dX8_outBy_1 : decode cX8_outBy 1 = .ok (.istore_n 2, 1) := by decide +kernel
theorem dX8_outBy_2 : decode cX8_outBy 2 = .ok (.iload_n 1, 1) := by decide +kernel
theorem dX8_outBy_3 : decode cX8_outBy 3 = .ok (.istore_n 3, 1) := by decide +kernel
theorem dX8_outBy_4 : decode cX8_outBy 4 = .ok (.iload_n 3, 1) := by decide +kernel
theorem dX8_outBy_5 : decode cX8_outBy 5 = .ok (.ifCond .le 14, 3) := by decide +kernel
theorem dX8_outBy_8 : decode cX8_outBy 8 = .ok (.iinc 2 1, 3) := by decide +kernel
theorem dX8_outBy_11 : decode cX8_outBy 11 = .ok (.iload_n 3, 1) := by decide +kernel
theorem dX8_outBy_12 : decode cX8_outBy 12 = .ok (.bipush 10, 2) := by decide +kernel
theorem dX8_outBy_14 : decode cX8_outBy 14 = .ok (.idiv, 1) := by decide +kernel
theorem dX8_outBy_15 : decode cX8_outBy 15 = .ok (.istore_n 3, 1) := by decide +kernel
theorem dX8_outBy_16 : decode cX8_outBy 16 = .ok (.goto (-12), 3) := by decide +kernel
theorem dX8_outBy_19 : decode cX8_outBy 19 = .ok (.iload_n 2, 1) := by decide +kernel
theorem dX8_outBy_20 : decode cX8_outBy 20 = .ok (.aload_n 0, 1) := by decide +kernel
theorem dX8_outBy_21 : decode cX8_outBy 21 = .ok (.getfield 84, 3) := by decide +kernel
theorem dX8_outBy_24 : decode cX8_outBy 24 = .ok (.if_icmp .le 6, 3) := by decide +kernel
theorem dX8_outBy_27 : decode cX8_outBy 27 = .ok (.bipush (-6), 2) := by decide +kernel
theorem dX8_outBy_29 : decode cX8_outBy 29 = .ok (.ireturn, 1) := by decide +kernel
theorem dX8_outBy_30 : decode cX8_outBy 30 = .ok (.iload_n 1, 1) := by decide +kernel
theorem dX8_outBy_31 : decode cX8_outBy 31 = .ok (.ifCond .ne 7, 3) := by decide +kernel
theorem dX8_outBy_34 : decode cX8_outBy 34 = .ok (.iconst 0, 1) := by decide +kernel
theorem dX8_outBy_35 : decode cX8_outBy 35 = .ok (.goto 4, 3) := by decide +kernel
theorem dX8_outBy_38 : decode cX8_outBy 38 = .ok (.iconst 1, 1) := by decide +kernel
theorem dX8_outBy_39 : decode cX8_outBy 39 = .ok (.istore_n 3, 1) := by decide +kernel
theorem dX8_outBy_40 : decode cX8_outBy 40 = .ok (.iload_n 1, 1) := by decide +kernel
theorem dX8_outBy_41 : decode cX8_outBy 41 = .ok (.istore 4, 2) := by decide +kernel
theorem dX8_outBy_43 : decode cX8_outBy 43 = .ok (.iload_n 2, 1) := by decide +kernel
theorem dX8_outBy_44 : decode cX8_outBy 44 = .ok (.iconst 1, 1) := by decide +kernel
theorem dX8_outBy_45 : decode cX8_outBy 45 = .ok (.isub, 1) := by decide +kernel
theorem dX8_outBy_46 : decode cX8_outBy 46 = .ok (.istore 5, 2) := by decide +kernel
theorem dX8_outBy_48 : decode cX8_outBy 48 = .ok (.iload 5, 2) := by decide +kernel
theorem dX8_outBy_50 : decode cX8_outBy 50 = .ok (.ifCond .lt 78, 3) := by decide +kernel
theorem dX8_outBy_53 : decode cX8_outBy 53 = .ok (.bipush 6, 2) := by decide +kernel
theorem dX8_outBy_55 : decode cX8_outBy 55 = .ok (.iload 4, 2) := by decide +kernel
theorem dX8_outBy_57 : decode cX8_outBy 57 = .ok (.bipush 10, 2) := by decide +kernel
theorem dX8_outBy_59 : decode cX8_outBy 59 = .ok (.irem, 1) := by decide +kernel
theorem dX8_outBy_60 : decode cX8_outBy 60 = .ok (.iconst 1, 1) := by decide +kernel
theorem dX8_outBy_61 : decode cX8_outBy 61 = .ok (.isub, 1) := by decide +kernel
theorem dX8_outBy_62 : decode cX8_outBy 62 = .ok (.imul, 1) := by decide +kernel
theorem dX8_outBy_63 : decode cX8_outBy 63 = .ok (.iload 5, 2) := by decide +kernel
theorem dX8_outBy_65 : decode cX8_outBy 65 = .ok (.iadd, 1) := by decide +kernel
theorem dX8_outBy_66 : decode cX8_outBy 66 = .ok (.istore 6, 2) := by decide +kernel
theorem dX8_outBy_68 : decode cX8_outBy 68 = .ok (.aload_n 0, 1) := by decide +kernel
theorem dX8_outBy_69 : decode cX8_outBy 69 = .ok (.getfield 58, 3) := by decide +kernel
theorem dX8_outBy_72 : decode cX8_outBy 72 = .ok (.iload 6, 2) := by decide +kernel
theorem dX8_outBy_74 : decode cX8_outBy 74 = .ok (.iaload, 1) := by decide +kernel
theorem dX8_outBy_75 : decode cX8_outBy 75 = .ok (.iload_n 3, 1) := by decide +kernel
theorem dX8_outBy_76 : decode cX8_outBy 76 = .ok (.if_icmp .le 13, 3) := by decide +kernel
theorem dX8_outBy_79 : decode cX8_outBy 79 = .ok (.aload_n 0, 1) := by decide +kernel
theorem dX8_outBy_80 : decode cX8_outBy 80 = .ok (.getfield 58, 3) := by decide +kernel
theorem dX8_outBy_83 : decode cX8_outBy 83 = .ok (.iload 6, 2) := by decide +kernel
theorem dX8_outBy_85 : decode cX8_outBy 85 = .ok (.iaload, 1) := by decide +kernel
theorem dX8_outBy_86 : decode cX8_outBy 86 = .ok (.goto 4, 3) := by decide +kernel
theorem dX8_outBy_89 : decode cX8_outBy 89 = .ok (.iload_n 3, 1) := by decide +kernel
theorem dX8_outBy_90 : decode cX8_outBy 90 = .ok (.istore_n 3, 1) := by decide +kernel
theorem dX8_outBy_91 : decode cX8_outBy 91 = .ok (.aload_n 0, 1) := by decide +kernel
theorem dX8_outBy_92 : decode cX8_outBy 92 = .ok (.getfield 58, 3) := by decide +kernel
theorem dX8_outBy_95 : decode cX8_outBy 95 = .ok (.iload 6, 2) := by decide +kernel
theorem dX8_outBy_97 : decode cX8_outBy 97 = .ok (.iaload, 1) := by decide +kernel
theorem dX8_outBy_98 : decode cX8_outBy 98 = .ok (.ifCond .lt 14, 3) := by decide +kernel
theorem dX8_outBy_101 : decode cX8_outBy 101 = .ok (.iload_n 3, 1) := by decide +kernel
theorem dX8_outBy_102 : decode cX8_outBy 102 = .ok (.aload_n 0, 1) := by decide +kernel
theorem dX8_outBy_103 : decode cX8_outBy 103 = .ok (.getfield 61, 3) := by decide +kernel
theorem dX8_outBy_106 : decode cX8_outBy 106 = .ok (.iload 6, 2) := by decide +kernel
theorem dX8_outBy_108 : decode cX8_outBy 108 = .ok (.iaload, 1) := by decide +kernel
theorem dX8_outBy_109 : decode cX8_outBy 109 = .ok (.if_icmp .le 6, 3) := by decide +kernel
theorem dX8_outBy_112 : decode cX8_outBy 112 = .ok (.bipush (-6), 2) := by decide +kernel
theorem dX8_outBy_114 : decode cX8_outBy 114 = .ok (.ireturn, 1) := by decide +kernel
theorem dX8_outBy_115 : decode cX8_outBy 115 = .ok (.iload 4, 2) := by decide +kernel
theorem dX8_outBy_117 : decode cX8_outBy 117 = .ok (.bipush 10, 2) := by decide +kernel
theorem dX8_outBy_119 : decode cX8_outBy 119 = .ok (.idiv, 1) := by decide +kernel
theorem dX8_outBy_120 : decode cX8_outBy 120 = .ok (.istore 4, 2) := by decide +kernel
theorem dX8_outBy_122 : decode cX8_outBy 122 = .ok (.iinc 5 (-1), 3) := by decide +kernel
theorem dX8_outBy_125 : decode cX8_outBy 125 = .ok (.goto (-77), 3) := by decide +kernel
theorem dX8_outBy_128 : decode cX8_outBy 128 = .ok (.iload_n 3, 1) := by decide +kernel
theorem dX8_outBy_129 : decode cX8_outBy 129 = .ok (.ireturn, 1) := by decide +kernel
theorem dX8_firstRow_0 : decode cX8_firstRow 0 = .ok (.aload_n 0, 1) := by decide +kernel
theorem dX8_firstRow_1 : decode cX8_firstRow 1 = .ok (.iconst 0, 1) := by decide +kernel
theorem dX8_firstRow_2 : decode cX8_firstRow 2 = .ok (.putfield 227, 3) := by decide +kernel
theorem dX8_firstRow_5 : decode cX8_firstRow 5 = .ok (.iconst 0, 1) := by decide +kernel
theorem dX8_firstRow_6 : decode cX8_firstRow 6 = .ok (.istore_n 2, 1) := by decide +kernel
theorem dX8_firstRow_7 : decode cX8_firstRow 7 = .ok (.iload_n 2, 1) := by decide +kernel
theorem dX8_firstRow_8 : decode cX8_firstRow 8 = .ok (.aload_n 0, 1) := by decide +kernel
theorem dX8_firstRow_9 : decode cX8_firstRow 9 = .ok (.getfield 222, 3) := by decide +kernel
theorem dX8_firstRow_12 : decode cX8_firstRow 12 = .ok (.if_icmp .ge 43, 3) := by decide +kernel
theorem dX8_firstRow_15 : decode cX8_firstRow 15 = .ok (.iload_n 1, 1) := by decide +kernel
theorem dX8_firstRow_16 : decode cX8_firstRow 16 = .ok (.iload_n 2, 1) := by decide +kernel
theorem dX8_firstRow_17 : decode cX8_firstRow 17 = .ok (.ishr, 1) := by decide +kernel
theorem dX8_firstRow_18 : decode cX8_firstRow 18 = .ok (.iconst 1, 1) := by decide +kernel
theorem dX8_firstRow_19 : decode cX8_firstRow 19 = .ok (.iand, 1) := by decide +kernel
theorem dX8_firstRow_20 : decode cX8_firstRow 20 = .ok (.iconst 1, 1) := by decide +kernel
theorem dX8_firstRow_21 : decode cX8_firstRow 21 = .ok (.if_icmp .ne 28, 3) := by decide +kernel
theorem dX8_firstRow_24 : decode cX8_firstRow 24 = .ok (.aload_n 0, 1) := by decide +kernel
theorem dX8_firstRow_25 : decode cX8_firstRow 25 = .ok (.getfield 64, 3) := by decide +kernel
theorem dX8_firstRow_28 : decode cX8_firstRow 28 = .ok (.aload_n 0, 1) := by decide +kernel
theorem dX8_firstRow_29 : decode cX8_firstRow 29 = .ok (.getfield 227, 3) := by decide +kernel
theorem dX8_firstRow_32 : decode cX8_firstRow 32 = .ok (.aload_n 0, 1) := by decide +kernel
theorem dX8_firstRow_33 : decode cX8_firstRow 33 = .ok (.getfield 55, 3) := by decide +kernel
theorem dX8_firstRow_36 : decode cX8_firstRow 36 = .ok (.iload_n 2, 1) := by decide +kernel
theorem dX8_firstRow_37 : decode cX8_firstRow 37 = .ok (.iaload, 1) := by decide +kernel
theorem dX8_firstRow_38 : decode cX8_firstRow 38 = .ok (.iastore, 1) := by decide +kernel
theorem dX8_firstRow_39 : decode cX8_firstRow 39 = .ok (.aload_n 0, 1) := by decide +kernel
theorem dX8_firstRow_40 : decode cX8_firstRow 40 = .ok (.dup, 1) := by decide +kernel
theorem dX8_firstRow_41 : decode cX8_firstRow 41 = .ok (.getfield 227, 3) := by decide +kernel
theorem dX8_firstRow_44 : decode cX8_firstRow 44 = .ok (.iconst 1, 1) := by decide +kernel
theorem dX8_firstRow_45 : decode cX8_firstRow 45 = .ok (.iadd, 1) := by decide +kernel
theorem dX8_firstRow_46 : decode cX8_firstRow 46 = .ok (.putfield 227, 3) := by decide +kernel
theorem dX8_firstRow_49 : decode cX8_firstRow 49 = .ok (.iinc 2 1, 3) := by decide +kernel
theorem dX8_firstRow_52 : decode cX8_firstRow 52 = .ok (.goto (-45), 3) := by decide +kernel
theorem dX8_firstRow_55 : decode cX8_firstRow 55 = .ok (.return_, 1) := by decide +kernel
theorem dX8_rowNumber_0 : decode cX8_rowNumber 0 = .ok (.iconst 0, 1) := by decide +kernel
theorem dX8_rowNumber_1 : decode cX8_rowNumber 1 = .ok (.istore_n 1, 1) := by decide +kernel
theorem dX8_rowNumber_2 : decode cX8_rowNumber 2 = .ok (.iconst 0, 1) := by decide +kernel
theorem dX8_rowNumber_3 : decode cX8_rowNumber 3 = .ok (.istore_n 2, 1) := by decide +kernel
theorem dX8_rowNumber_4 : decode cX8_rowNumber 4 = .ok (.iload_n 2, 1) := by decide +kernel
theorem dX8_rowNumber_5 : decode cX8_rowNumber 5 = .ok (.aload_n 0, 1) := by decide +kernel
theorem dX8_rowNumber_6 : decode cX8_rowNumber 6 = .ok (.getfield 227, 3) := by decide +kernel
theorem dX8_rowNumber_9 : decode cX8_rowNumber 9 = .ok (.if_icmp .ge 23, 3) := by decide +kernel
theorem dX8_rowNumber_12 : decode cX8_rowNumber 12 = .ok (.bipush 10, 2) := by decide +kernel
theorem dX8_rowNumber_14 : decode cX8_rowNumber 14 = .ok (.iload_n 1, 1) := by decide +kernel
theorem dX8_rowNumber_15 : decode cX8_rowNumber 15 = .ok (.imul, 1) := by decide +kernel
theorem dX8_rowNumber_16 : decode cX8_rowNumber 16 = .ok (.aload_n 0, 1) := by decide +kernel
theorem dX8_rowNumber_17 : decode cX8_rowNumber 17 = .ok (.getfield 64, 3) := by decide +kernel
theorem dX8_rowNumber_20 : decode cX8_rowNumber 20 = .ok (.iload_n 2, 1) := by decide +kernel
theorem dX8_rowNumber_21 : decode cX8_rowNumber 21 = .ok (.iaload, 1) := by decide +kernel
theorem dX8_rowNumber_22 : decode cX8_rowNumber 22 = .ok (.iadd, 1) := by decide +kernel
theorem dX8_rowNumber_23 : decode cX8_rowNumber 23 = .ok (.iconst 1, 1) := by decide +kernel
theorem dX8_rowNumber_24 : decode cX8_rowNumber 24 = .ok (.iadd, 1) := by decide +kernel
theorem dX8_rowNumber_25 : decode cX8_rowNumber 25 = .ok (.istore_n 1, 1) := by decide +kernel
theorem dX8_rowNumber_26 : decode cX8_rowNumber 26 = .ok (.iinc 2 1, 3) := by decide +kernel
theorem dX8_rowNumber_29 : decode cX8_rowNumber 29 = .ok (.goto (-25), 3) := by decide +kernel
theorem dX8_rowNumber_32 : decode cX8_rowNumber 32 = .ok (.iload_n 1, 1) := by decide +kernel
theorem dX8_rowNumber_33 : decode cX8_rowNumber 33 = .ok (.ireturn, 1) := by decide +kernel
theorem dX8_change_0 : decode cX8_change 0 = .ok (.aload_n 0, 1) := by decide +kernel
theorem dX8_change_1 : decode cX8_change 1 = .ok (.getfield 64, 3) := by decide +kernel
theorem dX8_change_4 : decode cX8_change 4 = .ok (.iload_n 1, 1) := by decide +kernel
theorem dX8_change_5 : decode cX8_change 5 = .ok (.iaload, 1) := by decide +kernel
theorem dX8_change_6 : decode cX8_change 6 = .ok (.istore_n 3, 1) := by decide +kernel
theorem dX8_change_7 : decode cX8_change 7 = .ok (.aload_n 0, 1) := by decide +kernel
theorem dX8_change_8 : decode cX8_change 8 = .ok (.getfield 64, 3) := by decide +kernel
theorem dX8_change_11 : decode cX8_change 11 = .ok (.iload_n 1, 1) := by decide +kernel
theorem dX8_change_12 : decode cX8_change 12 = .ok (.aload_n 0, 1) := by decide +kernel
theorem dX8_change_13 : decode cX8_change 13 = .ok (.getfield 64, 3) := by decide +kernel
theorem dX8_change_16 : decode cX8_change 16 = .ok (.iload_n 2, 1) := by decide +kernel
theorem dX8_change_17 : decode cX8_change 17 = .ok (.iaload, 1) := by decide +kernel
theorem dX8_change_18 : decode cX8_change 18 = .ok (.iastore, 1) := by decide +kernel
theorem dX8_change_19 : decode cX8_change 19 = .ok (.aload_n 0, 1) := by decide +kernel
theorem dX8_change_20 : decode cX8_change 20 = .ok (.getfield 64, 3) := by decide +kernel
theorem dX8_change_23 : decode cX8_change 23 = .ok (.iload_n 2, 1) := by decide +kernel
theorem dX8_change_24 : decode cX8_change 24 = .ok (.iload_n 3, 1) := by decide +kernel
theorem dX8_change_25 : decode cX8_change 25 = .ok (.iastore, 1) := by decide +kernel
theorem dX8_change_26 : decode cX8_change 26 = .ok (.return_, 1) := by decide +kernel
set_option maxRecDepth 20000 in
theorem ggX8_nextRow_X8_change : GoodIn wsX8_nextRow wsX8_change := goodIn_r _ [7, 2, 8, 9, 10, 11, 12, 13, 14, 15, 16, 17, 18, 19, 20, 21, 22, 23, 24, 25, 26, 27, 28, 29, 30, 31, 32, 33, 34, 35, 36, 37, 38, 39, 40, 41, 42, 43, 44, 45, 46, 47, 48, 49, 50, 51, 52, 53] (by decide +kernel) (by decide +kernel)
set_option maxRecDepth 20000 in
theorem gX8_nextRow_X8_change : GoodIn wsX8_nextRow (wsV RX8 230 RX8 yX8_change wsX8_change) := goodIn_app (goodIn_of _ (by decide +kernel)) ggX8_nextRow_X8_change
theorem dX8_nextRow_0 : decode cX8_nextRow 0 = .ok (.aload_n 0, 1) := by decide +kernel
theorem dX8_nextRow_1 : decode cX8_nextRow 1 = .ok (.getfield 227, 3) := by decide +kernel
theorem dX8_nextRow_4 : decode cX8_nextRow 4 = .ok (.iconst 2, 1) := by decide +kernel
theorem dX8_nextRow_5 : decode cX8_nextRow 5 = .ok (.isub, 1) := by decide +kernel
theorem dX8_nextRow_6 : decode cX8_nextRow 6 = .ok (.istore_n 1, 1) := by decide +kernel
theorem dX8_nextRow_7 : decode cX8_nextRow 7 = .ok (.iload_n 1, 1) := by decide +kernel
theorem dX8_nextRow_8 : decode cX8_nextRow 8 = .ok (.ifCond .lt 26, 3) := by decide +kernel
theorem dX8_nextRow_11 : decode cX8_nextRow 11 = .ok (.aload_n 0, 1) := by decide +kernel
theorem dX8_nextRow_12 : decode cX8_nextRow 12 = .ok (.getfield 64, 3) := by decide +kernel
theorem dX8_nextRow_15 : decode cX8_nextRow 15 = .ok (.iload_n 1, 1) := by decide +kernel
theorem dX8_nextRow_16 : decode cX8_nextRow 16 = .ok (.iaload, 1) := by decide +kernel
theorem dX8_nextRow_17 : decode cX8_nextRow 17 = .ok (.aload_n 0, 1) := by decide +kernel
theorem dX8_nextRow_18 : decode cX8_nextRow 18 = .ok (.getfield 64, 3) := by decide +kernel
theorem dX8_nextRow_21 : decode cX8_nextRow 21 = .ok (.iload_n 1, 1) := by decide +kernel
theorem dX8_nextRow_22 : decode cX8_nextRow 22 = .ok (.iconst 1, 1) := by decide +kernel
theorem dX8_nextRow_23 : decode cX8_nextRow 23 = .ok (.iadd, 1) := by decide +kernel
theorem dX8_nextRow_24 : decode cX8_nextRow 24 = .ok (.iaload, 1) := by decide +kernel
theorem dX8_nextRow_25 : decode cX8_nextRow 25 = .ok (.if_icmp .lt 9, 3) := by decide +kernel
theorem dX8_nextRow_28 : decode cX8_nextRow 28 = .ok (.iinc 1 (-1), 3) := by decide +kernel
theorem dX8_nextRow_31 : decode cX8_nextRow 31 = .ok (.goto (-24), 3) := by decide +kernel
theorem dX8_nextRow_34 : decode cX8_nextRow 34 = .ok (.iload_n 1, 1) := by decide +kernel
theorem dX8_nextRow_35 : decode cX8_nextRow 35 = .ok (.ifCond .ge 5, 3) := by decide +kernel
theorem dX8_nextRow_38 : decode cX8_nextRow 38 = .ok (.iconst 0, 1) := by decide +kernel
theorem dX8_nextRow_39 : decode cX8_nextRow 39 = .ok (.ireturn, 1) := by decide +kernel
theorem dX8_nextRow_40 : decode cX8_nextRow 40 = .ok (.aload_n 0, 1) := by decide +kernel
theorem dX8_nextRow_41 : decode cX8_nextRow 41 = .ok (.getfield 227, 3) := by decide +kernel
theorem dX8_nextRow_44 : decode cX8_nextRow 44 = .ok (.iconst 1, 1) := by decide +kernel
theorem dX8_nextRow_45 : decode cX8_nextRow 45 = .ok (.isub, 1) := by decide +kernel
theorem dX8_nextRow_46 : decode cX8_nextRow 46 = .ok (.istore_n 2, 1) := by decide +kernel
theorem dX8_nextRow_47 : decode cX8_nextRow 47 = .ok (.aload_n 0, 1) := by decide +kernel
theorem dX8_nextRow_48 : decode cX8_nextRow 48 = .ok (.getfield 64, 3) := by decide +kernel
theorem dX8_nextRow_51 : decode cX8_nextRow 51 = .ok (.iload_n 2, 1) := by decide +kernel
theorem dX8_nextRow_52 : decode cX8_nextRow 52 = .ok (.iaload, 1) := by decide +kernel
theorem dX8_nextRow_53 : decode cX8_nextRow 53 = .ok (.aload_n 0, 1) := by decide +kernel
theorem dX8_nextRow_54 : decode cX8_nextRow 54 = .ok (.getfield 64, 3) := by decide +kernel
theorem dX8_nextRow_57 : decode cX8_nextRow 57 = .ok (.iload_n 1, 1) := by decide +kernel
theorem dX8_nextRow_58 : decode cX8_nextRow 58 = .ok (.iaload, 1) := by decide +kernel
theorem dX8_nextRow_59 : decode cX8_nextRow 59 = .ok (.if_icmp .gt 9, 3) := by decide +kernel
theorem dX8_nextRow_62 : decode cX8_nextRow 62 = .ok (.iinc 2 (-1), 3) := by decide +kernel
theorem dX8_nextRow_65 : decode cX8_nextRow 65 = .ok (.goto (-18), 3) := by decide +kernel
theorem dX8_nextRow_68 : decode cX8_nextRow 68 = .ok (.aload_n 0, 1) := by decide +kernel
theorem dX8_nextRow_69 : decode cX8_nextRow 69 = .ok (.iload_n 1, 1) := by decide +kernel
theorem dX8_nextRow_70 : decode cX8_nextRow 70 = .ok (.iload_n 2, 1) := by decide +kernel
theorem dX8_nextRow_71 : decode cX8_nextRow 71 = .ok (.invokevirtual 230, 3) := by decide +kernel
theorem dX8_nextRow_74 : decode cX8_nextRow 74 = .ok (.iload_n 1, 1) := by decide +kernel
theorem dX8_nextRow_75 : decode cX8_nextRow 75 = .ok (.iconst 1, 1) := by decide +kernel
theorem dX8_nextRow_76 : decode cX8_nextRow 76 = .ok (.iadd, 1) := by decide +kernel
theorem dX8_nextRow_77 : decode cX8_nextRow 77 = .ok (.istore_n 3, 1) := by decide +kernel
theorem dX8_nextRow_78 : decode cX8_nextRow 78 = .ok (.aload_n 0, 1) := by decide +kernel
theorem dX8_nextRow_79 : decode cX8_nextRow 79 = .ok (.getfield 227, 3) := by decide +kernel
theorem dX8_nextRow_82 : decode cX8_nextRow 82 = .ok (.iconst 1, 1) := by decide +kernel
theorem dX8_nextRow_83 : decode cX8_nextRow 83 = .ok (.isub, 1) := by decide +kernel
theorem dX8_nextRow_84 : decode cX8_nextRow 84 = .ok (.istore 4, 2) := by decide +kernel
theorem dX8_nextRow_86 : decode cX8_nextRow 86 = .ok (.iload_n 3, 1) := by decide +kernel
theorem dX8_nextRow_87 : decode cX8_nextRow 87 = .ok (.iload 4, 2) := by decide +kernel
theorem dX8_nextRow_89 : decode cX8_nextRow 89 = .ok (.if_icmp .ge 19, 3) := by decide +kernel
theorem dX8_nextRow_92 : decode cX8_nextRow 92 = .ok (.aload_n 0, 1) := by decide +kernel
theorem dX8_nextRow_93 : decode cX8_nextRow 93 = .ok (.iload_n 3, 1) := by decide +kernel
theorem dX8_nextRow_94 : decode cX8_nextRow 94 = .ok (.iload 4, 2) := by decide +kernel
theorem dX8_nextRow_96 : decode cX8_nextRow 96 = .ok (.invokevirtual 230, 3) := by decide +kernel
theorem dX8_nextRow_99 : decode cX8_nextRow 99 = .ok (.iinc 3 1, 3) := by decide +kernel
theorem dX8_nextRow_102 : decode cX8_nextRow 102 = .ok (.iinc 4 (-1), 3) := by decide +kernel
theorem dX8_nextRow_105 : decode cX8_nextRow 105 = .ok (.goto (-19), 3) := by decide +kernel
theorem dX8_nextRow_108 : decode cX8_nextRow 108 = .ok (.iconst 1, 1) := by decide +kernel
theorem dX8_nextRow_109 : decode cX8_nextRow 109 = .ok (.ireturn, 1) := by decide +kernel
set_option maxRecDepth 20000 in
theorem ggX8_goOrders_X8_firstRow : GoodIn wsX8_goOrders wsX8_firstRow := goodIn_r _ [8, 9, 10, 11, 12, 32, 33, 34, 35, 36, 37, 38, 39, 40, 41, 42, 43, 44, 45, 46, 47, 48, 49, 50, 51, 52, 53, 54, 55, 56, 57, 58, 59, 60, 61, 62, 63, 64, 65, 66, 67, 68, 69, 70, 71, 72, 73, 74, 75, 76, 77] (by decide +kernel) (by decide +kernel)
set_option maxRecDepth 20000 in
theorem gX8_goOrders_X8_firstRow : GoodIn wsX8_goOrders (wsV RX8 243 RX8 yX8_firstRow wsX8_firstRow) := goodIn_app (goodIn_of _ (by decide +kernel)) ggX8_goOrders_X8_firstRow
set_option maxRecDepth 20000 in
theorem ggX8_goOrders_X8_rowNumber : GoodIn wsX8_goOrders wsX8_rowNumber := goodIn_r _ [16, 9, 11, 32, 33, 34, 35, 36, 37, 38, 39, 40, 41, 42, 43, 44, 45, 46, 47, 48, 49, 50, 51, 52, 53, 54, 55, 56, 57, 58, 59, 60, 61, 62, 63, 64, 65, 66, 67, 68, 69, 70, 71, 72, 73, 74, 75, 76, 77] (by decide +kernel) (by decide +kernel)
set_option maxRecDepth 20000 in
theorem gX8_goOrders_X8_rowNumber : GoodIn wsX8_goOrders (wsV RX8 246 RX8 yX8_rowNumber wsX8_rowNumber) := goodIn_app (goodIn_of _ (by decide +kernel)) ggX8_goOrders_X8_rowNumber
set_option maxRecDepth 20000 in
theorem ggX8_goOrders_X8_outBy : GoodIn wsX8_goOrders wsX8_outBy := goodIn_r _ [20, 21, 22, 23, 32, 33, 34, 35, 36, 37, 38, 39, 40, 41, 42, 43, 44, 45, 46, 47, 48, 49, 50, 51, 52, 53, 54, 55, 56, 57, 58, 59, 60, 61, 62, 63, 64, 65, 66, 67, 68, 69, 70, 71, 72, 73, 74, 75, 76, 77] (by decide +kernel) (by decide +kernel)
set_option maxRecDepth 20000 in
theorem gX8_goOrders_X8_outBy : GoodIn wsX8_goOrders (wsV RX8 249 RX8 yX8_outBy wsX8_outBy) := goodIn_app (goodIn_of _ (by decide +kernel)) ggX8_goOrders_X8_outBy
set_option maxRecDepth 20000 in
theorem ggX8_goOrders_X8_nextRow : GoodIn wsX8_goOrders wsX8_nextRow := goodIn_r _ [27, 9, 11, 28, 29, 30, 7, 31, 32, 33, 34, 35, 36, 37, 38, 39, 40, 41, 42, 43, 44, 45, 46, 47, 48, 49, 50, 51, 52, 53, 54, 55, 56, 57, 58, 59, 60, 61, 62, 63, 64, 65, 66, 67, 68, 69, 70, 71, 72, 73, 74, 75, 76, 77] (by decide +kernel) (by decide +kernel)
set_option maxRecDepth 20000 in
theorem gX8_goOrders_X8_nextRow : GoodIn wsX8_goOrders (wsV RX8 252 RX8 yX8_nextRow wsX8_nextRow) := goodIn_app (goodIn_of _ (by decide +kernel)) ggX8_goOrders_X8_nextRow
theorem dX8_goOrders_0 : decode cX8_goOrders 0 = .ok (.aload_n 0, 1) := by decide +kernel
theorem dX8_goOrders_1 : decode cX8_goOrders 1 = .ok (.iconst 0, 1) := by decide +kernel
theorem dX8_goOrders_2 : decode cX8_goOrders 2 = .ok (.putfield 234, 3) := by decide +kernel
theorem dX8_goOrders_5 : decode cX8_goOrders 5 = .ok (.aload_n 0, 1) := by decide +kernel
theorem dX8_goOrders_6 : decode cX8_goOrders 6 = .ok (.bipush (-6), 2) := by decide +kernel
theorem dX8_goOrders_8 : decode cX8_goOrders 8 = .ok (.putfield 237, 3) := by decide +kernel
theorem dX8_goOrders_11 : decode cX8_goOrders 11 = .ok (.aload_n 0, 1) := by decide +kernel
theorem dX8_goOrders_12 : decode cX8_goOrders 12 = .ok (.bipush (-6), 2) := by decide +kernel
theorem dX8_goOrders_14 : decode cX8_goOrders 14 = .ok (.putfield 240, 3) := by decide +kernel
theorem dX8_goOrders_17 : decode cX8_goOrders 17 = .ok (.aload_n 0, 1) := by decide +kernel
theorem dX8_goOrders_18 : decode cX8_goOrders 18 = .ok (.iload_n 1, 1) := by decide +kernel
theorem dX8_goOrders_19 : decode cX8_goOrders 19 = .ok (.invokevirtual 243, 3) := by decide +kernel
theorem dX8_goOrders_22 : decode cX8_goOrders 22 = .ok (.iconst 1, 1) := by decide +kernel
theorem dX8_goOrders_23 : decode cX8_goOrders 23 = .ok (.istore_n 2, 1) := by decide +kernel
theorem dX8_goOrders_24 : decode cX8_goOrders 24 = .ok (.iload_n 2, 1) := by decide +kernel
theorem dX8_goOrders_25 : decode cX8_goOrders 25 = .ok (.ifCond .eq 86, 3) := by decide +kernel
theorem dX8_goOrders_28 : decode cX8_goOrders 28 = .ok (.aload_n 0, 1) := by decide +kernel
theorem dX8_goOrders_29 : decode cX8_goOrders 29 = .ok (.invokevirtual 246, 3) := by decide +kernel
theorem dX8_goOrders_32 : decode cX8_goOrders 32 = .ok (.istore_n 3, 1) := by decide +kernel
theorem dX8_goOrders_33 : decode cX8_goOrders 33 = .ok (.aload_n 0, 1) := by decide +kernel
theorem dX8_goOrders_34 : decode cX8_goOrders 34 = .ok (.iload_n 3, 1) := by decide +kernel
theorem dX8_goOrders_35 : decode cX8_goOrders 35 = .ok (.invokevirtual 249, 3) := by decide +kernel
theorem dX8_goOrders_38 : decode cX8_goOrders 38 = .ok (.istore 4, 2) := by decide +kernel
theorem dX8_goOrders_40 : decode cX8_goOrders 40 = .ok (.iload 4, 2) := by decide +kernel
theorem dX8_goOrders_42 : decode cX8_goOrders 42 = .ok (.ifCond .lt 61, 3) := by decide +kernel
theorem dX8_goOrders_45 : decode cX8_goOrders 45 = .ok (.aload_n 0, 1) := by decide +kernel
theorem dX8_goOrders_46 : decode cX8_goOrders 46 = .ok (.aload_n 0, 1) := by decide +kernel
theorem dX8_goOrders_47 : decode cX8_goOrders 47 = .ok (.getfield 234, 3) := by decide +kernel
theorem dX8_goOrders_50 : decode cX8_goOrders 50 = .ok (.ifCond .ne 7, 3) := by decide +kernel
theorem dX8_goOrders_53 : decode cX8_goOrders 53 = .ok (.iload_n 3, 1) := by decide +kernel
theorem dX8_goOrders_54 : decode cX8_goOrders 54 = .ok (.goto 7, 3) := by decide +kernel
theorem dX8_goOrders_57 : decode cX8_goOrders 57 = .ok (.aload_n 0, 1) := by decide +kernel
theorem dX8_goOrders_58 : decode cX8_goOrders 58 = .ok (.getfield 237, 3) := by decide +kernel
theorem dX8_goOrders_61 : decode cX8_goOrders 61 = .ok (.putfield 237, 3) := by decide +kernel
theorem dX8_goOrders_64 : decode cX8_goOrders 64 = .ok (.aload_n 0, 1) := by decide +kernel
theorem dX8_goOrders_65 : decode cX8_goOrders 65 = .ok (.aload_n 0, 1) := by decide +kernel
theorem dX8_goOrders_66 : decode cX8_goOrders 66 = .ok (.getfield 234, 3) := by decide +kernel
theorem dX8_goOrders_69 : decode cX8_goOrders 69 = .ok (.ifCond .eq 12, 3) := by decide +kernel
theorem dX8_goOrders_72 : decode cX8_goOrders 72 = .ok (.iload 4, 2) := by decide +kernel
theorem dX8_goOrders_74 : decode cX8_goOrders 74 = .ok (.aload_n 0, 1) := by decide +kernel
theorem dX8_goOrders_75 : decode cX8_goOrders 75 = .ok (.getfield 240, 3) := by decide +kernel
theorem dX8_goOrders_78 : decode cX8_goOrders 78 = .ok (.if_icmp .ge 8, 3) := by decide +kernel
theorem dX8_goOrders_81 : decode cX8_goOrders 81 = .ok (.iload 4, 2) := by decide +kernel
theorem dX8_goOrders_83 : decode cX8_goOrders 83 = .ok (.goto 7, 3) := by decide +kernel
theorem dX8_goOrders_86 : decode cX8_goOrders 86 = .ok (.aload_n 0, 1) := by decide +kernel
theorem dX8_goOrders_87 : decode cX8_goOrders 87 = .ok (.getfield 240, 3) := by decide +kernel
theorem dX8_goOrders_90 : decode cX8_goOrders 90 = .ok (.putfield 240, 3) := by decide +kernel
theorem dX8_goOrders_93 : decode cX8_goOrders 93 = .ok (.aload_n 0, 1) := by decide +kernel
theorem dX8_goOrders_94 : decode cX8_goOrders 94 = .ok (.dup, 1) := by decide +kernel
theorem dX8_goOrders_95 : decode cX8_goOrders 95 = .ok (.getfield 234, 3) := by decide +kernel
theorem dX8_goOrders_98 : decode cX8_goOrders 98 = .ok (.iconst 1, 1) := by decide +kernel
theorem dX8_goOrders_99 : decode cX8_goOrders 99 = .ok (.iadd, 1) := by decide +kernel
theorem dX8_goOrders_100 : decode cX8_goOrders 100 = .ok (.putfield 234, 3) := by decide +kernel
theorem dX8_goOrders_103 : decode cX8_goOrders 103 = .ok (.aload_n 0, 1) := by decide +kernel
theorem dX8_goOrders_104 : decode cX8_goOrders 104 = .ok (.invokevirtual 252, 3) := by decide +kernel
theorem dX8_goOrders_107 : decode cX8_goOrders 107 = .ok (.istore_n 2, 1) := by decide +kernel
theorem dX8_goOrders_108 : decode cX8_goOrders 108 = .ok (.goto (-84), 3) := by decide +kernel
theorem dX8_goOrders_111 : decode cX8_goOrders 111 = .ok (.return_, 1) := by decide +kernel
set_option maxRecDepth 20000 in
theorem ggX8_orders_X8_in : GoodIn wsX8_orders wsX8_in := goodIn_r _ [10] (by decide +kernel) (by decide +kernel)
set_option maxRecDepth 20000 in
theorem gX8_orders_X8_in : GoodIn wsX8_orders (va_wsS RX8 96 yX8_in wsX8_in) := goodIn_app (goodIn_of _ (by decide +kernel)) ggX8_orders_X8_in
set_option maxRecDepth 20000 in
theorem ggX8_orders_X8_isLoaves : GoodIn wsX8_orders wsX8_isLoaves := goodIn_r _ [13, 14, 7, 8, 9, 10] (by decide +kernel) (by decide +kernel)
set_option maxRecDepth 20000 in
theorem gX8_orders_X8_isLoaves : GoodIn wsX8_orders (va_wsS RX8 255 yX8_isLoaves wsX8_isLoaves) := goodIn_app (goodIn_of _ (by decide +kernel)) ggX8_orders_X8_isLoaves
set_option maxRecDepth 20000 in
theorem ggX8_orders_X8_layLoaves : GoodIn wsX8_orders wsX8_layLoaves := goodIn_r _ [18, 3, 19, 20, 21, 22, 9, 23, 24, 25, 26, 27, 28, 7, 8, 10, 76, 77, 78, 79, 80, 81, 82, 83, 84, 85, 86, 87, 88, 89, 90, 91, 92, 93, 94, 95, 96, 97, 98, 99, 100, 101, 102, 103, 104, 105, 106, 107, 108, 109, 110, 111, 112, 113, 114, 115, 116, 117, 118, 119, 120, 121] (by decide +kernel) (by decide +kernel)
set_option maxRecDepth 20000 in
theorem gX8_orders_X8_layLoaves : GoodIn wsX8_orders (wsV RX8 258 RX8 yX8_layLoaves wsX8_layLoaves) := goodIn_app (goodIn_of _ (by decide +kernel)) ggX8_orders_X8_layLoaves
set_option maxRecDepth 20000 in
theorem ggX8_orders_X8_layRipe : GoodIn wsX8_orders wsX8_layRipe := goodIn_r _ [32, 33, 34, 35, 36, 37, 20, 21, 22, 9, 23, 24, 25, 26, 27, 28, 7, 8, 10, 38, 39, 40, 41, 42, 43, 44, 45, 46, 47, 48, 49, 76, 77, 78, 79, 80, 81, 82, 83, 84, 85, 86, 87, 88, 89, 90, 91, 92, 93, 94, 95, 96, 97, 98, 99, 100, 101, 102, 103, 104, 105, 106, 107, 108, 109, 110, 111, 112, 113, 114, 115, 116, 117, 118, 119, 120, 121] (by decide +kernel) (by decide +kernel)
set_option maxRecDepth 20000 in
theorem gX8_orders_X8_layRipe : GoodIn wsX8_orders (wsV RX8 261 RX8 yX8_layRipe wsX8_layRipe) := goodIn_app (goodIn_of _ (by decide +kernel)) ggX8_orders_X8_layRipe
set_option maxRecDepth 20000 in
theorem ggX8_orders_X8_goOrders : GoodIn wsX8_orders wsX8_goOrders := goodIn_r _ [53, 4, 5, 6, 54, 55, 56, 9, 57, 58, 3, 59, 19, 60, 61, 62, 63, 64, 65, 66, 67, 33, 34, 36, 68, 69, 70, 71, 72, 73, 74, 75, 76, 77, 78, 79, 80, 81, 82, 83, 84, 85, 86, 87, 88, 89, 90, 91, 92, 93, 94, 95, 96, 97, 98, 99, 100, 101, 102, 103, 104, 105, 106, 107, 108, 109, 110, 111, 112, 113, 114, 115, 116, 117, 118, 119, 120, 121] (by decide +kernel) (by decide +kernel)
set_option maxRecDepth 20000 in
theorem gX8_orders_X8_goOrders : GoodIn wsX8_orders (wsV RX8 264 RX8 yX8_goOrders wsX8_goOrders) := goodIn_app (goodIn_of _ (by decide +kernel)) ggX8_orders_X8_goOrders
theorem dX8_orders_0 : decode cX8_orders 0 = .ok (.iload_n 2, 1) := by decide +kernel
theorem dX8_orders_1 : decode cX8_orders 1 = .ok (.i2l, 1) := by decide +kernel
theorem dX8_orders_2 : decode cX8_orders 2 = .ok (.lconst 0, 1) := by decide +kernel
theorem dX8_orders_3 : decode cX8_orders 3 = .ok (.ldc2_w 119, 3) := by decide +kernel
theorem dX8_orders_6 : decode cX8_orders 6 = .ok (.invokestatic 96, 3) := by decide +kernel
theorem dX8_orders_9 : decode cX8_orders 9 = .ok (.ifCond .eq 10, 3) := by decide +kernel
theorem dX8_orders_12 : decode cX8_orders 12 = .ok (.iload_n 1, 1) := by decide +kernel
theorem dX8_orders_13 : decode cX8_orders 13 = .ok (.invokestatic 255, 3) := by decide +kernel
theorem dX8_orders_16 : decode cX8_orders 16 = .ok (.ifCond .ne 6, 3) := by decide +kernel
theorem dX8_orders_19 : decode cX8_orders 19 = .ok (.bipush (-2), 2) := by decide +kernel
theorem dX8_orders_21 : decode cX8_orders 21 = .ok (.ireturn, 1) := by decide +kernel
theorem dX8_orders_22 : decode cX8_orders 22 = .ok (.aload_n 0, 1) := by decide +kernel
theorem dX8_orders_23 : decode cX8_orders 23 = .ok (.iload_n 1, 1) := by decide +kernel
theorem dX8_orders_24 : decode cX8_orders 24 = .ok (.invokevirtual 258, 3) := by decide +kernel
theorem dX8_orders_27 : decode cX8_orders 27 = .ok (.ifCond .ne 5, 3) := by decide +kernel
theorem dX8_orders_30 : decode cX8_orders 30 = .ok (.iconst (-1), 1) := by decide +kernel
theorem dX8_orders_31 : decode cX8_orders 31 = .ok (.ireturn, 1) := by decide +kernel
theorem dX8_orders_32 : decode cX8_orders 32 = .ok (.aload_n 0, 1) := by decide +kernel
theorem dX8_orders_33 : decode cX8_orders 33 = .ok (.aload_n 0, 1) := by decide +kernel
theorem dX8_orders_34 : decode cX8_orders 34 = .ok (.getfield 87, 3) := by decide +kernel
theorem dX8_orders_37 : decode cX8_orders 37 = .ok (.invokevirtual 261, 3) := by decide +kernel
theorem dX8_orders_40 : decode cX8_orders 40 = .ok (.aload_n 0, 1) := by decide +kernel
theorem dX8_orders_41 : decode cX8_orders 41 = .ok (.iconst 1, 1) := by decide +kernel
theorem dX8_orders_42 : decode cX8_orders 42 = .ok (.aload_n 0, 1) := by decide +kernel
theorem dX8_orders_43 : decode cX8_orders 43 = .ok (.getfield 222, 3) := by decide +kernel
theorem dX8_orders_46 : decode cX8_orders 46 = .ok (.ishl, 1) := by decide +kernel
theorem dX8_orders_47 : decode cX8_orders 47 = .ok (.iconst 1, 1) := by decide +kernel
theorem dX8_orders_48 : decode cX8_orders 48 = .ok (.isub, 1) := by decide +kernel
theorem dX8_orders_49 : decode cX8_orders 49 = .ok (.invokevirtual 264, 3) := by decide +kernel
theorem dX8_orders_52 : decode cX8_orders 52 = .ok (.iload_n 2, 1) := by decide +kernel
theorem dX8_orders_53 : decode cX8_orders 53 = .ok (.ifCond .ne 10, 3) := by decide +kernel
theorem dX8_orders_56 : decode cX8_orders 56 = .ok (.aload_n 0, 1) := by decide +kernel
theorem dX8_orders_57 : decode cX8_orders 57 = .ok (.getfield 234, 3) := by decide +kernel
theorem dX8_orders_60 : decode cX8_orders 60 = .ok (.goto 19, 3) := by decide +kernel
theorem dX8_orders_63 : decode cX8_orders 63 = .ok (.iload_n 2, 1) := by decide +kernel
theorem dX8_orders_64 : decode cX8_orders 64 = .ok (.iconst 1, 1) := by decide +kernel
theorem dX8_orders_65 : decode cX8_orders 65 = .ok (.if_icmp .ne 10, 3) := by decide +kernel
theorem dX8_orders_68 : decode cX8_orders 68 = .ok (.aload_n 0, 1) := by decide +kernel
theorem dX8_orders_69 : decode cX8_orders 69 = .ok (.getfield 237, 3) := by decide +kernel
theorem dX8_orders_72 : decode cX8_orders 72 = .ok (.goto 7, 3) := by decide +kernel
theorem dX8_orders_75 : decode cX8_orders 75 = .ok (.aload_n 0, 1) := by decide +kernel
theorem dX8_orders_76 : decode cX8_orders 76 = .ok (.getfield 240, 3) := by decide +kernel
theorem dX8_orders_79 : decode cX8_orders 79 = .ok (.ireturn, 1) := by decide +kernel
theorem dX8_worthOf_0 : decode cX8_worthOf 0 = .ok (.iconst 0, 1) := by decide +kernel
theorem dX8_worthOf_1 : decode cX8_worthOf 1 = .ok (.istore_n 2, 1) := by decide +kernel
theorem dX8_worthOf_2 : decode cX8_worthOf 2 = .ok (.iconst 0, 1) := by decide +kernel
theorem dX8_worthOf_3 : decode cX8_worthOf 3 = .ok (.istore_n 3, 1) := by decide +kernel
theorem dX8_worthOf_4 : decode cX8_worthOf 4 = .ok (.iload_n 3, 1) := by decide +kernel
theorem dX8_worthOf_5 : decode cX8_worthOf 5 = .ok (.aload_n 0, 1) := by decide +kernel
theorem dX8_worthOf_6 : decode cX8_worthOf 6 = .ok (.getfield 222, 3) := by decide +kernel
theorem dX8_worthOf_9 : decode cX8_worthOf 9 = .ok (.if_icmp .ge 36, 3) := by decide +kernel
theorem dX8_worthOf_12 : decode cX8_worthOf 12 = .ok (.iload_n 2, 1) := by decide +kernel
theorem dX8_worthOf_13 : decode cX8_worthOf 13 = .ok (.iload_n 1, 1) := by decide +kernel
theorem dX8_worthOf_14 : decode cX8_worthOf 14 = .ok (.iload_n 3, 1) := by decide +kernel
theorem dX8_worthOf_15 : decode cX8_worthOf 15 = .ok (.ishr, 1) := by decide +kernel
theorem dX8_worthOf_16 : decode cX8_worthOf 16 = .ok (.iconst 1, 1) := by decide +kernel
theorem dX8_worthOf_17 : decode cX8_worthOf 17 = .ok (.iand, 1) := by decide +kernel
theorem dX8_worthOf_18 : decode cX8_worthOf 18 = .ok (.iconst 1, 1) := by decide +kernel
theorem dX8_worthOf_19 : decode cX8_worthOf 19 = .ok (.if_icmp .ne 17, 3) := by decide +kernel
theorem dX8_worthOf_22 : decode cX8_worthOf 22 = .ok (.aload_n 0, 1) := by decide +kernel
theorem dX8_worthOf_23 : decode cX8_worthOf 23 = .ok (.getfield 19, 3) := by decide +kernel
theorem dX8_worthOf_26 : decode cX8_worthOf 26 = .ok (.aload_n 0, 1) := by decide +kernel
theorem dX8_worthOf_27 : decode cX8_worthOf 27 = .ok (.getfield 55, 3) := by decide +kernel
theorem dX8_worthOf_30 : decode cX8_worthOf 30 = .ok (.iload_n 3, 1) := by decide +kernel
theorem dX8_worthOf_31 : decode cX8_worthOf 31 = .ok (.iaload, 1) := by decide +kernel
theorem dX8_worthOf_32 : decode cX8_worthOf 32 = .ok (.iaload, 1) := by decide +kernel
theorem dX8_worthOf_33 : decode cX8_worthOf 33 = .ok (.goto 4, 3) := by decide +kernel
theorem dX8_worthOf_36 : decode cX8_worthOf 36 = .ok (.iconst 0, 1) := by decide +kernel
theorem dX8_worthOf_37 : decode cX8_worthOf 37 = .ok (.iadd, 1) := by decide +kernel
theorem dX8_worthOf_38 : decode cX8_worthOf 38 = .ok (.istore_n 2, 1) := by decide +kernel
theorem dX8_worthOf_39 : decode cX8_worthOf 39 = .ok (.iinc 3 1, 3) := by decide +kernel
theorem dX8_worthOf_42 : decode cX8_worthOf 42 = .ok (.goto (-38), 3) := by decide +kernel
theorem dX8_worthOf_45 : decode cX8_worthOf 45 = .ok (.iload_n 2, 1) := by decide +kernel
theorem dX8_worthOf_46 : decode cX8_worthOf 46 = .ok (.ireturn, 1) := by decide +kernel
set_option maxRecDepth 20000 in
theorem ggX8_two_X8_in : GoodIn wsX8_two wsX8_in := goodIn_r _ [10] (by decide +kernel) (by decide +kernel)
set_option maxRecDepth 20000 in
theorem gX8_two_X8_in : GoodIn wsX8_two (va_wsS RX8 96 yX8_in wsX8_in) := goodIn_app (goodIn_of _ (by decide +kernel)) ggX8_two_X8_in
set_option maxRecDepth 20000 in
theorem ggX8_two_X8_isLoaves : GoodIn wsX8_two wsX8_isLoaves := goodIn_r _ [13, 14, 7, 8, 9, 10] (by decide +kernel) (by decide +kernel)
set_option maxRecDepth 20000 in
theorem gX8_two_X8_isLoaves : GoodIn wsX8_two (va_wsS RX8 255 yX8_isLoaves wsX8_isLoaves) := goodIn_app (goodIn_of _ (by decide +kernel)) ggX8_two_X8_isLoaves
set_option maxRecDepth 20000 in
theorem ggX8_two_X8_layLoaves : GoodIn wsX8_two wsX8_layLoaves := goodIn_r _ [18, 2, 19, 20, 21, 22, 9, 23, 24, 25, 26, 27, 28, 7, 8, 10, 83, 84, 85, 86, 87, 88, 89, 90, 91, 92, 93, 94, 95, 96, 97, 98, 99, 100, 101, 102, 103, 104, 105, 106, 107, 108, 109, 110, 111, 112, 113, 114, 115, 116, 117, 118, 119, 120, 121, 122, 123, 124, 125, 126, 127, 128] (by decide +kernel) (by decide +kernel)
set_option maxRecDepth 20000 in
theorem gX8_two_X8_layLoaves : GoodIn wsX8_two (wsV RX8 258 RX8 yX8_layLoaves wsX8_layLoaves) := goodIn_app (goodIn_of _ (by decide +kernel)) ggX8_two_X8_layLoaves
set_option maxRecDepth 20000 in
theorem ggX8_two_X8_layRipe : GoodIn wsX8_two wsX8_layRipe := goodIn_r _ [32, 33, 34, 35, 36, 37, 20, 21, 22, 9, 23, 24, 25, 26, 27, 28, 7, 8, 10, 38, 39, 40, 41, 42, 43, 44, 45, 46, 47, 48, 49, 83, 84, 85, 86, 87, 88, 89, 90, 91, 92, 93, 94, 95, 96, 97, 98, 99, 100, 101, 102, 103, 104, 105, 106, 107, 108, 109, 110, 111, 112, 113, 114, 115, 116, 117, 118, 119, 120, 121, 122, 123, 124, 125, 126, 127, 128] (by decide +kernel) (by decide +kernel)
set_option maxRecDepth 20000 in
theorem gX8_two_X8_layRipe : GoodIn wsX8_two (wsV RX8 261 RX8 yX8_layRipe wsX8_layRipe) := goodIn_app (goodIn_of _ (by decide +kernel)) ggX8_two_X8_layRipe
set_option maxRecDepth 20000 in
theorem ggX8_two_X8_goOrders : GoodIn wsX8_two wsX8_goOrders := goodIn_r _ [53, 54, 6, 55, 56, 57, 58, 9, 59, 60, 2, 61, 19, 62, 63, 64, 65, 66, 67, 68, 69, 33, 34, 36, 70, 71, 72, 73, 74, 75, 76, 77, 83, 84, 85, 86, 87, 88, 89, 90, 91, 92, 93, 94, 95, 96, 97, 98, 99, 100, 101, 102, 103, 104, 105, 106, 107, 108, 109, 110, 111, 112, 113, 114, 115, 116, 117, 118, 119, 120, 121, 122, 123, 124, 125, 126, 127, 128] (by decide +kernel) (by decide +kernel)
set_option maxRecDepth 20000 in
theorem gX8_two_X8_goOrders : GoodIn wsX8_two (wsV RX8 264 RX8 yX8_goOrders wsX8_goOrders) := goodIn_app (goodIn_of _ (by decide +kernel)) ggX8_two_X8_goOrders
set_option maxRecDepth 20000 in
theorem ggX8_two_X8_worthOf : GoodIn wsX8_two wsX8_worthOf := goodIn_r _ [81, 2, 82, 19, 83, 84, 85, 86, 87, 88, 89, 90, 91, 92, 93, 94, 95, 96, 97, 98, 99, 100, 101, 102, 103, 104, 105, 106, 107, 108, 109, 110, 111, 112, 113, 114, 115, 116, 117, 118, 119, 120, 121, 122, 123, 124, 125, 126, 127, 128] (by decide +kernel) (by decide +kernel)
set_option maxRecDepth 20000 in
theorem gX8_two_X8_worthOf : GoodIn wsX8_two (wsV RX8 267 RX8 yX8_worthOf wsX8_worthOf) := goodIn_app (goodIn_of _ (by decide +kernel)) ggX8_two_X8_worthOf
theorem dX8_two_0 : decode cX8_two 0 = .ok (.iload_n 2, 1) := by decide +kernel
theorem dX8_two_1 : decode cX8_two 1 = .ok (.i2l, 1) := by decide +kernel
theorem dX8_two_2 : decode cX8_two 2 = .ok (.lconst 0, 1) := by decide +kernel
theorem dX8_two_3 : decode cX8_two 3 = .ok (.ldc2_w 119, 3) := by decide +kernel
theorem dX8_two_6 : decode cX8_two 6 = .ok (.invokestatic 96, 3) := by decide +kernel
theorem dX8_two_9 : decode cX8_two 9 = .ok (.ifCond .eq 10, 3) := by decide +kernel
theorem dX8_two_12 : decode cX8_two 12 = .ok (.iload_n 1, 1) := by decide +kernel
theorem dX8_two_13 : decode cX8_two 13 = .ok (.invokestatic 255, 3) := by decide +kernel
theorem dX8_two_16 : decode cX8_two 16 = .ok (.ifCond .ne 6, 3) := by decide +kernel
theorem dX8_two_19 : decode cX8_two 19 = .ok (.bipush (-2), 2) := by decide +kernel
theorem dX8_two_21 : decode cX8_two 21 = .ok (.ireturn, 1) := by decide +kernel
theorem dX8_two_22 : decode cX8_two 22 = .ok (.aload_n 0, 1) := by decide +kernel
theorem dX8_two_23 : decode cX8_two 23 = .ok (.iload_n 1, 1) := by decide +kernel
theorem dX8_two_24 : decode cX8_two 24 = .ok (.invokevirtual 258, 3) := by decide +kernel
theorem dX8_two_27 : decode cX8_two 27 = .ok (.ifCond .ne 5, 3) := by decide +kernel
theorem dX8_two_30 : decode cX8_two 30 = .ok (.iconst (-1), 1) := by decide +kernel
theorem dX8_two_31 : decode cX8_two 31 = .ok (.ireturn, 1) := by decide +kernel
theorem dX8_two_32 : decode cX8_two 32 = .ok (.aload_n 0, 1) := by decide +kernel
theorem dX8_two_33 : decode cX8_two 33 = .ok (.getfield 222, 3) := by decide +kernel
theorem dX8_two_36 : decode cX8_two 36 = .ok (.iconst 4, 1) := by decide +kernel
theorem dX8_two_37 : decode cX8_two 37 = .ok (.if_icmp .le 6, 3) := by decide +kernel
theorem dX8_two_40 : decode cX8_two 40 = .ok (.bipush (-4), 2) := by decide +kernel
theorem dX8_two_42 : decode cX8_two 42 = .ok (.ireturn, 1) := by decide +kernel
theorem dX8_two_43 : decode cX8_two 43 = .ok (.aload_n 0, 1) := by decide +kernel
theorem dX8_two_44 : decode cX8_two 44 = .ok (.getfield 80, 3) := by decide +kernel
theorem dX8_two_47 : decode cX8_two 47 = .ok (.iconst 1, 1) := by decide +kernel
theorem dX8_two_48 : decode cX8_two 48 = .ok (.if_icmp .ne 6, 3) := by decide +kernel
theorem dX8_two_51 : decode cX8_two 51 = .ok (.bipush (-3), 2) := by decide +kernel
theorem dX8_two_53 : decode cX8_two 53 = .ok (.ireturn, 1) := by decide +kernel
theorem dX8_two_54 : decode cX8_two 54 = .ok (.aload_n 0, 1) := by decide +kernel
theorem dX8_two_55 : decode cX8_two 55 = .ok (.aload_n 0, 1) := by decide +kernel
theorem dX8_two_56 : decode cX8_two 56 = .ok (.getfield 87, 3) := by decide +kernel
theorem dX8_two_59 : decode cX8_two 59 = .ok (.invokevirtual 261, 3) := by decide +kernel
theorem dX8_two_62 : decode cX8_two 62 = .ok (.iconst 1, 1) := by decide +kernel
theorem dX8_two_63 : decode cX8_two 63 = .ok (.aload_n 0, 1) := by decide +kernel
theorem dX8_two_64 : decode cX8_two 64 = .ok (.getfield 222, 3) := by decide +kernel
theorem dX8_two_67 : decode cX8_two 67 = .ok (.ishl, 1) := by decide +kernel
theorem dX8_two_68 : decode cX8_two 68 = .ok (.istore_n 3, 1) := by decide +kernel
theorem dX8_two_69 : decode cX8_two 69 = .ok (.iconst 0, 1) := by decide +kernel
theorem dX8_two_70 : decode cX8_two 70 = .ok (.istore 4, 2) := by decide +kernel
theorem dX8_two_72 : decode cX8_two 72 = .ok (.iload 4, 2) := by decide +kernel
theorem dX8_two_74 : decode cX8_two 74 = .ok (.iload_n 3, 1) := by decide +kernel
theorem dX8_two_75 : decode cX8_two 75 = .ok (.if_icmp .ge 26, 3) := by decide +kernel
theorem dX8_two_78 : decode cX8_two 78 = .ok (.aload_n 0, 1) := by decide +kernel
theorem dX8_two_79 : decode cX8_two 79 = .ok (.iload 4, 2) := by decide +kernel
theorem dX8_two_81 : decode cX8_two 81 = .ok (.invokevirtual 264, 3) := by decide +kernel
theorem dX8_two_84 : decode cX8_two 84 = .ok (.aload_n 0, 1) := by decide +kernel
theorem dX8_two_85 : decode cX8_two 85 = .ok (.getfield 67, 3) := by decide +kernel
theorem dX8_two_88 : decode cX8_two 88 = .ok (.iload 4, 2) := by decide +kernel
theorem dX8_two_90 : decode cX8_two 90 = .ok (.aload_n 0, 1) := by decide +kernel
theorem dX8_two_91 : decode cX8_two 91 = .ok (.getfield 237, 3) := by decide +kernel
theorem dX8_two_94 : decode cX8_two 94 = .ok (.iastore, 1) := by decide +kernel
theorem dX8_two_95 : decode cX8_two 95 = .ok (.iinc 4 1, 3) := by decide +kernel
theorem dX8_two_98 : decode cX8_two 98 = .ok (.goto (-26), 3) := by decide +kernel
theorem dX8_two_101 : decode cX8_two 101 = .ok (.bipush (-6), 2) := by decide +kernel
theorem dX8_two_103 : decode cX8_two 103 = .ok (.istore 4, 2) := by decide +kernel
theorem dX8_two_105 : decode cX8_two 105 = .ok (.iconst 0, 1) := by decide +kernel
theorem dX8_two_106 : decode cX8_two 106 = .ok (.istore 5, 2) := by decide +kernel
theorem dX8_two_108 : decode cX8_two 108 = .ok (.iconst 0, 1) := by decide +kernel
theorem dX8_two_109 : decode cX8_two 109 = .ok (.istore 6, 2) := by decide +kernel
theorem dX8_two_111 : decode cX8_two 111 = .ok (.iconst 0, 1) := by decide +kernel
theorem dX8_two_112 : decode cX8_two 112 = .ok (.istore 7, 2) := by decide +kernel
theorem dX8_two_114 : decode cX8_two 114 = .ok (.iload 7, 2) := by decide +kernel
theorem dX8_two_116 : decode cX8_two 116 = .ok (.iload_n 3, 1) := by decide +kernel
theorem dX8_two_117 : decode cX8_two 117 = .ok (.iload_n 3, 1) := by decide +kernel
theorem dX8_two_118 : decode cX8_two 118 = .ok (.imul, 1) := by decide +kernel
theorem dX8_two_119 : decode cX8_two 119 = .ok (.if_icmp .ge 156, 3) := by decide +kernel
theorem dX8_two_122 : decode cX8_two 122 = .ok (.iload 7, 2) := by decide +kernel
theorem dX8_two_124 : decode cX8_two 124 = .ok (.iload_n 3, 1) := by decide +kernel
theorem dX8_two_125 : decode cX8_two 125 = .ok (.idiv, 1) := by decide +kernel
theorem dX8_two_126 : decode cX8_two 126 = .ok (.istore 8, 2) := by decide +kernel
theorem dX8_two_128 : decode cX8_two 128 = .ok (.iload 7, 2) := by decide +kernel
theorem dX8_two_130 : decode cX8_two 130 = .ok (.iload_n 3, 1) := by decide +kernel
theorem dX8_two_131 : decode cX8_two 131 = .ok (.irem, 1) := by decide +kernel
theorem dX8_two_132 : decode cX8_two 132 = .ok (.istore 9, 2) := by decide +kernel
theorem dX8_two_134 : decode cX8_two 134 = .ok (.iload 8, 2) := by decide +kernel
theorem dX8_two_136 : decode cX8_two 136 = .ok (.iload 9, 2) := by decide +kernel
theorem dX8_two_138 : decode cX8_two 138 = .ok (.iand, 1) := by decide +kernel
theorem dX8_two_139 : decode cX8_two 139 = .ok (.ifCond .ne 130, 3) := by decide +kernel
theorem dX8_two_142 : decode cX8_two 142 = .ok (.aload_n 0, 1) := by decide +kernel
theorem dX8_two_143 : decode cX8_two 143 = .ok (.getfield 67, 3) := by decide +kernel
theorem dX8_two_146 : decode cX8_two 146 = .ok (.iload 8, 2) := by decide +kernel
theorem dX8_two_148 : decode cX8_two 148 = .ok (.iaload, 1) := by decide +kernel
theorem dX8_two_149 : decode cX8_two 149 = .ok (.ifCond .lt 120, 3) := by decide +kernel
theorem dX8_two_152 : decode cX8_two 152 = .ok (.aload_n 0, 1) := by decide +kernel
theorem dX8_two_153 : decode cX8_two 153 = .ok (.getfield 67, 3) := by decide +kernel
theorem dX8_two_156 : decode cX8_two 156 = .ok (.iload 9, 2) := by decide +kernel
theorem dX8_two_158 : decode cX8_two 158 = .ok (.iaload, 1) := by decide +kernel
theorem dX8_two_159 : decode cX8_two 159 = .ok (.ifCond .lt 110, 3) := by decide +kernel
theorem dX8_two_162 : decode cX8_two 162 = .ok (.aload_n 0, 1) := by decide +kernel
theorem dX8_two_163 : decode cX8_two 163 = .ok (.iload 8, 2) := by decide +kernel
theorem dX8_two_165 : decode cX8_two 165 = .ok (.iload 9, 2) := by decide +kernel
theorem dX8_two_167 : decode cX8_two 167 = .ok (.ior, 1) := by decide +kernel
theorem dX8_two_168 : decode cX8_two 168 = .ok (.invokevirtual 267, 3) := by decide +kernel
theorem dX8_two_171 : decode cX8_two 171 = .ok (.istore 10, 2) := by decide +kernel
theorem dX8_two_173 : decode cX8_two 173 = .ok (.iload 10, 2) := by decide +kernel
theorem dX8_two_175 : decode cX8_two 175 = .ok (.iload 4, 2) := by decide +kernel
theorem dX8_two_177 : decode cX8_two 177 = .ok (.if_icmp .ne 7, 3) := by decide +kernel
theorem dX8_two_180 : decode cX8_two 180 = .ok (.iconst 1, 1) := by decide +kernel
theorem dX8_two_181 : decode cX8_two 181 = .ok (.goto 4, 3) := by decide +kernel
theorem dX8_two_184 : decode cX8_two 184 = .ok (.iconst 0, 1) := by decide +kernel
theorem dX8_two_185 : decode cX8_two 185 = .ok (.istore 11, 2) := by decide +kernel
theorem dX8_two_187 : decode cX8_two 187 = .ok (.aload_n 0, 1) := by decide +kernel
theorem dX8_two_188 : decode cX8_two 188 = .ok (.getfield 67, 3) := by decide +kernel
theorem dX8_two_191 : decode cX8_two 191 = .ok (.iload 8, 2) := by decide +kernel
theorem dX8_two_193 : decode cX8_two 193 = .ok (.iaload, 1) := by decide +kernel
theorem dX8_two_194 : decode cX8_two 194 = .ok (.iload 5, 2) := by decide +kernel
theorem dX8_two_196 : decode cX8_two 196 = .ok (.if_icmp .lt 27, 3) := by decide +kernel
theorem dX8_two_199 : decode cX8_two 199 = .ok (.aload_n 0, 1) := by decide +kernel
theorem dX8_two_200 : decode cX8_two 200 = .ok (.getfield 67, 3) := by decide +kernel
theorem dX8_two_203 : decode cX8_two 203 = .ok (.iload 8, 2) := by decide +kernel
theorem dX8_two_205 : decode cX8_two 205 = .ok (.iaload, 1) := by decide +kernel
theorem dX8_two_206 : decode cX8_two 206 = .ok (.iload 5, 2) := by decide +kernel
theorem dX8_two_208 : decode cX8_two 208 = .ok (.if_icmp .ne 19, 3) := by decide +kernel
theorem dX8_two_211 : decode cX8_two 211 = .ok (.aload_n 0, 1) := by decide +kernel
theorem dX8_two_212 : decode cX8_two 212 = .ok (.getfield 67, 3) := by decide +kernel
theorem dX8_two_215 : decode cX8_two 215 = .ok (.iload 9, 2) := by decide +kernel
theorem dX8_two_217 : decode cX8_two 217 = .ok (.iaload, 1) := by decide +kernel
theorem dX8_two_218 : decode cX8_two 218 = .ok (.iload 6, 2) := by decide +kernel
theorem dX8_two_220 : decode cX8_two 220 = .ok (.if_icmp .ge 7, 3) := by decide +kernel
theorem dX8_two_223 : decode cX8_two 223 = .ok (.iconst 1, 1) := by decide +kernel
theorem dX8_two_224 : decode cX8_two 224 = .ok (.goto 4, 3) := by decide +kernel
theorem dX8_two_227 : decode cX8_two 227 = .ok (.iconst 0, 1) := by decide +kernel
theorem dX8_two_228 : decode cX8_two 228 = .ok (.istore 12, 2) := by decide +kernel
theorem dX8_two_230 : decode cX8_two 230 = .ok (.iload 10, 2) := by decide +kernel
theorem dX8_two_232 : decode cX8_two 232 = .ok (.iload 4, 2) := by decide +kernel
theorem dX8_two_234 : decode cX8_two 234 = .ok (.if_icmp .gt 13, 3) := by decide +kernel
theorem dX8_two_237 : decode cX8_two 237 = .ok (.iload 11, 2) := by decide +kernel
theorem dX8_two_239 : decode cX8_two 239 = .ok (.ifCond .eq 30, 3) := by decide +kernel
theorem dX8_two_242 : decode cX8_two 242 = .ok (.iload 12, 2) := by decide +kernel
theorem dX8_two_244 : decode cX8_two 244 = .ok (.ifCond .eq 25, 3) := by decide +kernel
theorem dX8_two_247 : decode cX8_two 247 = .ok (.iload 10, 2) := by decide +kernel
theorem dX8_two_249 : decode cX8_two 249 = .ok (.istore 4, 2) := by decide +kernel
theorem dX8_two_251 : decode cX8_two 251 = .ok (.aload_n 0, 1) := by decide +kernel
theorem dX8_two_252 : decode cX8_two 252 = .ok (.getfield 67, 3) := by decide +kernel
theorem dX8_two_255 : decode cX8_two 255 = .ok (.iload 8, 2) := by decide +kernel
theorem dX8_two_257 : decode cX8_two 257 = .ok (.iaload, 1) := by decide +kernel
theorem dX8_two_258 : decode cX8_two 258 = .ok (.istore 5, 2) := by decide +kernel
theorem dX8_two_260 : decode cX8_two 260 = .ok (.aload_n 0, 1) := by decide +kernel
theorem dX8_two_261 : decode cX8_two 261 = .ok (.getfield 67, 3) := by decide +kernel
theorem dX8_two_264 : decode cX8_two 264 = .ok (.iload 9, 2) := by decide +kernel
theorem dX8_two_266 : decode cX8_two 266 = .ok (.iaload, 1) := by decide +kernel
theorem dX8_two_267 : decode cX8_two 267 = .ok (.istore 6, 2) := by decide +kernel
theorem dX8_two_269 : decode cX8_two 269 = .ok (.iinc 7 1, 3) := by decide +kernel
theorem dX8_two_272 : decode cX8_two 272 = .ok (.goto (-158), 3) := by decide +kernel
theorem dX8_two_275 : decode cX8_two 275 = .ok (.iload_n 2, 1) := by decide +kernel
theorem dX8_two_276 : decode cX8_two 276 = .ok (.ifCond .ne 8, 3) := by decide +kernel
theorem dX8_two_279 : decode cX8_two 279 = .ok (.iload 4, 2) := by decide +kernel
theorem dX8_two_281 : decode cX8_two 281 = .ok (.goto 15, 3) := by decide +kernel
theorem dX8_two_284 : decode cX8_two 284 = .ok (.iload_n 2, 1) := by decide +kernel
theorem dX8_two_285 : decode cX8_two 285 = .ok (.iconst 1, 1) := by decide +kernel
theorem dX8_two_286 : decode cX8_two 286 = .ok (.if_icmp .ne 8, 3) := by decide +kernel
theorem dX8_two_289 : decode cX8_two 289 = .ok (.iload 5, 2) := by decide +kernel
theorem dX8_two_291 : decode cX8_two 291 = .ok (.goto 5, 3) := by decide +kernel
theorem dX8_two_294 : decode cX8_two 294 = .ok (.iload 6, 2) := by decide +kernel
theorem dX8_two_296 : decode cX8_two 296 = .ok (.ireturn, 1) := by decide +kernel
set_option maxRecDepth 20000 in
theorem ggX8_warm_X8_isLoaves : GoodIn wsX8_warm wsX8_isLoaves := goodIn_r _ [6, 7, 8, 9, 5, 10] (by decide +kernel) (by decide +kernel)
set_option maxRecDepth 20000 in
theorem gX8_warm_X8_isLoaves : GoodIn wsX8_warm (va_wsS RX8 255 yX8_isLoaves wsX8_isLoaves) := goodIn_app (goodIn_of _ (by decide +kernel)) ggX8_warm_X8_isLoaves
set_option maxRecDepth 20000 in
theorem ggX8_warm_X8_layLoaves : GoodIn wsX8_warm wsX8_layLoaves := goodIn_r _ [14, 1, 15, 16, 17, 18, 5, 19, 20, 21, 22, 23, 24, 8, 9, 10, 74, 75, 76, 77, 78, 79, 80, 81, 82, 83, 84, 85, 86, 87, 88, 89, 90, 91, 92, 93, 94, 95, 96, 97, 98, 99, 100, 101, 102, 103, 104, 105, 106, 107, 108, 109, 110, 111, 112, 113, 114, 115, 116, 117, 118, 119] (by decide +kernel) (by decide +kernel)
set_option maxRecDepth 20000 in
theorem gX8_warm_X8_layLoaves : GoodIn wsX8_warm (wsV RX8 258 RX8 yX8_layLoaves wsX8_layLoaves) := goodIn_app (goodIn_of _ (by decide +kernel)) ggX8_warm_X8_layLoaves
set_option maxRecDepth 20000 in
theorem ggX8_warm_X8_layRipe : GoodIn wsX8_warm wsX8_layRipe := goodIn_r _ [28, 29, 30, 31, 32, 33, 16, 17, 18, 5, 19, 20, 21, 22, 23, 24, 8, 9, 10, 34, 35, 36, 37, 38, 39, 40, 41, 42, 43, 44, 45, 74, 75, 76, 77, 78, 79, 80, 81, 82, 83, 84, 85, 86, 87, 88, 89, 90, 91, 92, 93, 94, 95, 96, 97, 98, 99, 100, 101, 102, 103, 104, 105, 106, 107, 108, 109, 110, 111, 112, 113, 114, 115, 116, 117, 118, 119] (by decide +kernel) (by decide +kernel)
set_option maxRecDepth 20000 in
theorem gX8_warm_X8_layRipe : GoodIn wsX8_warm (wsV RX8 261 RX8 yX8_layRipe wsX8_layRipe) := goodIn_app (goodIn_of _ (by decide +kernel)) ggX8_warm_X8_layRipe
set_option maxRecDepth 20000 in
theorem ggX8_warm_X8_goOrders : GoodIn wsX8_warm wsX8_goOrders := goodIn_r _ [49, 2, 50, 51, 52, 53, 54, 5, 55, 56, 1, 57, 15, 58, 59, 60, 61, 62, 63, 64, 65, 29, 30, 32, 66, 67, 68, 69, 70, 71, 72, 73, 74, 75, 76, 77, 78, 79, 80, 81, 82, 83, 84, 85, 86, 87, 88, 89, 90, 91, 92, 93, 94, 95, 96, 97, 98, 99, 100, 101, 102, 103, 104, 105, 106, 107, 108, 109, 110, 111, 112, 113, 114, 115, 116, 117, 118, 119] (by decide +kernel) (by decide +kernel)
set_option maxRecDepth 20000 in
theorem gX8_warm_X8_goOrders : GoodIn wsX8_warm (wsV RX8 264 RX8 yX8_goOrders wsX8_goOrders) := goodIn_app (goodIn_of _ (by decide +kernel)) ggX8_warm_X8_goOrders
theorem dX8_warm_0 : decode cX8_warm 0 = .ok (.iload_n 1, 1) := by decide +kernel
theorem dX8_warm_1 : decode cX8_warm 1 = .ok (.invokestatic 255, 3) := by decide +kernel
theorem dX8_warm_4 : decode cX8_warm 4 = .ok (.ifCond .ne 6, 3) := by decide +kernel
theorem dX8_warm_7 : decode cX8_warm 7 = .ok (.bipush (-2), 2) := by decide +kernel
theorem dX8_warm_9 : decode cX8_warm 9 = .ok (.ireturn, 1) := by decide +kernel
theorem dX8_warm_10 : decode cX8_warm 10 = .ok (.aload_n 0, 1) := by decide +kernel
theorem dX8_warm_11 : decode cX8_warm 11 = .ok (.iload_n 1, 1) := by decide +kernel
theorem dX8_warm_12 : decode cX8_warm 12 = .ok (.invokevirtual 258, 3) := by decide +kernel
theorem dX8_warm_15 : decode cX8_warm 15 = .ok (.ifCond .ne 5, 3) := by decide +kernel
theorem dX8_warm_18 : decode cX8_warm 18 = .ok (.iconst (-1), 1) := by decide +kernel
theorem dX8_warm_19 : decode cX8_warm 19 = .ok (.ireturn, 1) := by decide +kernel
theorem dX8_warm_20 : decode cX8_warm 20 = .ok (.iconst 0, 1) := by decide +kernel
theorem dX8_warm_21 : decode cX8_warm 21 = .ok (.istore_n 2, 1) := by decide +kernel
theorem dX8_warm_22 : decode cX8_warm 22 = .ok (.iload_n 2, 1) := by decide +kernel
theorem dX8_warm_23 : decode cX8_warm 23 = .ok (.bipush 100, 2) := by decide +kernel
theorem dX8_warm_25 : decode cX8_warm 25 = .ok (.if_icmp .ge 35, 3) := by decide +kernel
theorem dX8_warm_28 : decode cX8_warm 28 = .ok (.aload_n 0, 1) := by decide +kernel
theorem dX8_warm_29 : decode cX8_warm 29 = .ok (.iload_n 2, 1) := by decide +kernel
theorem dX8_warm_30 : decode cX8_warm 30 = .ok (.invokevirtual 261, 3) := by decide +kernel
theorem dX8_warm_33 : decode cX8_warm 33 = .ok (.aload_n 0, 1) := by decide +kernel
theorem dX8_warm_34 : decode cX8_warm 34 = .ok (.iconst 1, 1) := by decide +kernel
theorem dX8_warm_35 : decode cX8_warm 35 = .ok (.aload_n 0, 1) := by decide +kernel
theorem dX8_warm_36 : decode cX8_warm 36 = .ok (.getfield 222, 3) := by decide +kernel
theorem dX8_warm_39 : decode cX8_warm 39 = .ok (.ishl, 1) := by decide +kernel
theorem dX8_warm_40 : decode cX8_warm 40 = .ok (.iconst 1, 1) := by decide +kernel
theorem dX8_warm_41 : decode cX8_warm 41 = .ok (.isub, 1) := by decide +kernel
theorem dX8_warm_42 : decode cX8_warm 42 = .ok (.invokevirtual 264, 3) := by decide +kernel
theorem dX8_warm_45 : decode cX8_warm 45 = .ok (.aload_n 0, 1) := by decide +kernel
theorem dX8_warm_46 : decode cX8_warm 46 = .ok (.getfield 234, 3) := by decide +kernel
theorem dX8_warm_49 : decode cX8_warm 49 = .ok (.ifCond .le 5, 3) := by decide +kernel
theorem dX8_warm_52 : decode cX8_warm 52 = .ok (.iload_n 2, 1) := by decide +kernel
theorem dX8_warm_53 : decode cX8_warm 53 = .ok (.ireturn, 1) := by decide +kernel
theorem dX8_warm_54 : decode cX8_warm 54 = .ok (.iinc 2 1, 3) := by decide +kernel
theorem dX8_warm_57 : decode cX8_warm 57 = .ok (.goto (-35), 3) := by decide +kernel
theorem dX8_warm_60 : decode cX8_warm 60 = .ok (.bipush (-6), 2) := by decide +kernel
theorem dX8_warm_62 : decode cX8_warm 62 = .ok (.ireturn, 1) := by decide +kernel
set_option maxRecDepth 20000 in
theorem ggX8_seen_X8_in : GoodIn wsX8_seen wsX8_in := goodIn_r _ [7] (by decide +kernel) (by decide +kernel)
set_option maxRecDepth 20000 in
theorem gX8_seen_X8_in : GoodIn wsX8_seen (va_wsS RX8 96 yX8_in wsX8_in) := goodIn_app (goodIn_of _ (by decide +kernel)) ggX8_seen_X8_in
theorem dX8_seen_0 : decode cX8_seen 0 = .ok (.iload_n 1, 1) := by decide +kernel
theorem dX8_seen_1 : decode cX8_seen 1 = .ok (.i2l, 1) := by decide +kernel
theorem dX8_seen_2 : decode cX8_seen 2 = .ok (.lconst 0, 1) := by decide +kernel
theorem dX8_seen_3 : decode cX8_seen 3 = .ok (.ldc2_w 270, 3) := by decide +kernel
theorem dX8_seen_6 : decode cX8_seen 6 = .ok (.invokestatic 96, 3) := by decide +kernel
theorem dX8_seen_9 : decode cX8_seen 9 = .ok (.ifCond .ne 6, 3) := by decide +kernel
theorem dX8_seen_12 : decode cX8_seen 12 = .ok (.bipush (-2), 2) := by decide +kernel
theorem dX8_seen_14 : decode cX8_seen 14 = .ok (.ireturn, 1) := by decide +kernel
theorem dX8_seen_15 : decode cX8_seen 15 = .ok (.aload_n 0, 1) := by decide +kernel
theorem dX8_seen_16 : decode cX8_seen 16 = .ok (.getfield 116, 3) := by decide +kernel
theorem dX8_seen_19 : decode cX8_seen 19 = .ok (.bipush 6, 2) := by decide +kernel
theorem dX8_seen_21 : decode cX8_seen 21 = .ok (.if_icmp .ne 6, 3) := by decide +kernel
theorem dX8_seen_24 : decode cX8_seen 24 = .ok (.bipush (-4), 2) := by decide +kernel
theorem dX8_seen_26 : decode cX8_seen 26 = .ok (.ireturn, 1) := by decide +kernel
theorem dX8_seen_27 : decode cX8_seen 27 = .ok (.aload_n 0, 1) := by decide +kernel
theorem dX8_seen_28 : decode cX8_seen 28 = .ok (.getfield 37, 3) := by decide +kernel
theorem dX8_seen_31 : decode cX8_seen 31 = .ok (.aload_n 0, 1) := by decide +kernel
theorem dX8_seen_32 : decode cX8_seen 32 = .ok (.getfield 116, 3) := by decide +kernel
theorem dX8_seen_35 : decode cX8_seen 35 = .ok (.iload_n 1, 1) := by decide +kernel
theorem dX8_seen_36 : decode cX8_seen 36 = .ok (.iastore, 1) := by decide +kernel
theorem dX8_seen_37 : decode cX8_seen 37 = .ok (.aload_n 0, 1) := by decide +kernel
theorem dX8_seen_38 : decode cX8_seen 38 = .ok (.dup, 1) := by decide +kernel
theorem dX8_seen_39 : decode cX8_seen 39 = .ok (.getfield 116, 3) := by decide +kernel
theorem dX8_seen_42 : decode cX8_seen 42 = .ok (.iconst 1, 1) := by decide +kernel
theorem dX8_seen_43 : decode cX8_seen 43 = .ok (.iadd, 1) := by decide +kernel
theorem dX8_seen_44 : decode cX8_seen 44 = .ok (.putfield 116, 3) := by decide +kernel
theorem dX8_seen_47 : decode cX8_seen 47 = .ok (.aload_n 0, 1) := by decide +kernel
theorem dX8_seen_48 : decode cX8_seen 48 = .ok (.getfield 116, 3) := by decide +kernel
theorem dX8_seen_51 : decode cX8_seen 51 = .ok (.ireturn, 1) := by decide +kernel
theorem dX8_forget_0 : decode cX8_forget 0 = .ok (.aload_n 0, 1) := by decide +kernel
theorem dX8_forget_1 : decode cX8_forget 1 = .ok (.getfield 116, 3) := by decide +kernel
theorem dX8_forget_4 : decode cX8_forget 4 = .ok (.istore_n 1, 1) := by decide +kernel
theorem dX8_forget_5 : decode cX8_forget 5 = .ok (.aload_n 0, 1) := by decide +kernel
theorem dX8_forget_6 : decode cX8_forget 6 = .ok (.iconst 0, 1) := by decide +kernel
theorem dX8_forget_7 : decode cX8_forget 7 = .ok (.putfield 116, 3) := by decide +kernel
theorem dX8_forget_10 : decode cX8_forget 10 = .ok (.iload_n 1, 1) := by decide +kernel
theorem dX8_forget_11 : decode cX8_forget 11 = .ok (.ireturn, 1) := by decide +kernel
theorem dX8_findStood_0 : decode cX8_findStood 0 = .ok (.bipush (-6), 2) := by decide +kernel
theorem dX8_findStood_2 : decode cX8_findStood 2 = .ok (.istore 4, 2) := by decide +kernel
theorem dX8_findStood_4 : decode cX8_findStood 4 = .ok (.aload_n 0, 1) := by decide +kernel
theorem dX8_findStood_5 : decode cX8_findStood 5 = .ok (.getfield 87, 3) := by decide +kernel
theorem dX8_findStood_8 : decode cX8_findStood 8 = .ok (.istore 5, 2) := by decide +kernel
theorem dX8_findStood_10 : decode cX8_findStood 10 = .ok (.iconst 0, 1) := by decide +kernel
theorem dX8_findStood_11 : decode cX8_findStood 11 = .ok (.istore 6, 2) := by decide +kernel
theorem dX8_findStood_13 : decode cX8_findStood 13 = .ok (.iconst 1, 1) := by decide +kernel
theorem dX8_findStood_14 : decode cX8_findStood 14 = .ok (.istore 7, 2) := by decide +kernel
theorem dX8_findStood_16 : decode cX8_findStood 16 = .ok (.iload 7, 2) := by decide +kernel
theorem dX8_findStood_18 : decode cX8_findStood 18 = .ok (.bipush 99, 2) := by decide +kernel
theorem dX8_findStood_20 : decode cX8_findStood 20 = .ok (.if_icmp .gt 98, 3) := by decide +kernel
theorem dX8_findStood_23 : decode cX8_findStood 23 = .ok (.iload 6, 2) := by decide +kernel
theorem dX8_findStood_25 : decode cX8_findStood 25 = .ok (.iload 5, 2) := by decide +kernel
theorem dX8_findStood_27 : decode cX8_findStood 27 = .ok (.aload_n 0, 1) := by decide +kernel
theorem dX8_findStood_28 : decode cX8_findStood 28 = .ok (.getfield 7, 3) := by decide +kernel
theorem dX8_findStood_31 : decode cX8_findStood 31 = .ok (.iload_n 1, 1) := by decide +kernel
theorem dX8_findStood_32 : decode cX8_findStood 32 = .ok (.iaload, 1) := by decide +kernel
theorem dX8_findStood_33 : decode cX8_findStood 33 = .ok (.if_icmp .le 15, 3) := by decide +kernel
theorem dX8_findStood_36 : decode cX8_findStood 36 = .ok (.iload 5, 2) := by decide +kernel
theorem dX8_findStood_38 : decode cX8_findStood 38 = .ok (.aload_n 0, 1) := by decide +kernel
theorem dX8_findStood_39 : decode cX8_findStood 39 = .ok (.getfield 7, 3) := by decide +kernel
theorem dX8_findStood_42 : decode cX8_findStood 42 = .ok (.iload_n 1, 1) := by decide +kernel
theorem dX8_findStood_43 : decode cX8_findStood 43 = .ok (.iaload, 1) := by decide +kernel
theorem dX8_findStood_44 : decode cX8_findStood 44 = .ok (.isub, 1) := by decide +kernel
theorem dX8_findStood_45 : decode cX8_findStood 45 = .ok (.goto 4, 3) := by decide +kernel
theorem dX8_findStood_48 : decode cX8_findStood 48 = .ok (.iconst 0, 1) := by decide +kernel
theorem dX8_findStood_49 : decode cX8_findStood 49 = .ok (.iadd, 1) := by decide +kernel
theorem dX8_findStood_50 : decode cX8_findStood 50 = .ok (.istore 6, 2) := by decide +kernel
theorem dX8_findStood_52 : decode cX8_findStood 52 = .ok (.iload 5, 2) := by decide +kernel
theorem dX8_findStood_54 : decode cX8_findStood 54 = .ok (.aload_n 0, 1) := by decide +kernel
theorem dX8_findStood_55 : decode cX8_findStood 55 = .ok (.getfield 90, 3) := by decide +kernel
theorem dX8_findStood_58 : decode cX8_findStood 58 = .ok (.if_icmp .le 13, 3) := by decide +kernel
theorem dX8_findStood_61 : decode cX8_findStood 61 = .ok (.iload 5, 2) := by decide +kernel
theorem dX8_findStood_63 : decode cX8_findStood 63 = .ok (.aload_n 0, 1) := by decide +kernel
theorem dX8_findStood_64 : decode cX8_findStood 64 = .ok (.getfield 90, 3) := by decide +kernel
theorem dX8_findStood_67 : decode cX8_findStood 67 = .ok (.isub, 1) := by decide +kernel
theorem dX8_findStood_68 : decode cX8_findStood 68 = .ok (.goto 4, 3) := by decide +kernel
theorem dX8_findStood_71 : decode cX8_findStood 71 = .ok (.iconst 0, 1) := by decide +kernel
theorem dX8_findStood_72 : decode cX8_findStood 72 = .ok (.istore 5, 2) := by decide +kernel
theorem dX8_findStood_74 : decode cX8_findStood 74 = .ok (.iload 6, 2) := by decide +kernel
theorem dX8_findStood_76 : decode cX8_findStood 76 = .ok (.iload_n 2, 1) := by decide +kernel
theorem dX8_findStood_77 : decode cX8_findStood 77 = .ok (.if_icmp .ne 35, 3) := by decide +kernel
theorem dX8_findStood_80 : decode cX8_findStood 80 = .ok (.aload_n 0, 1) := by decide +kernel
theorem dX8_findStood_81 : decode cX8_findStood 81 = .ok (.getfield 272, 3) := by decide +kernel
theorem dX8_findStood_84 : decode cX8_findStood 84 = .ok (.iload_n 3, 1) := by decide +kernel
theorem dX8_findStood_85 : decode cX8_findStood 85 = .ok (.if_icmp .ne 13, 3) := by decide +kernel
theorem dX8_findStood_88 : decode cX8_findStood 88 = .ok (.bipush 100, 2) := by decide +kernel
theorem dX8_findStood_90 : decode cX8_findStood 90 = .ok (.iload_n 1, 1) := by decide +kernel
theorem dX8_findStood_91 : decode cX8_findStood 91 = .ok (.imul, 1) := by decide +kernel
theorem dX8_findStood_92 : decode cX8_findStood 92 = .ok (.iload 7, 2) := by decide +kernel
theorem dX8_findStood_94 : decode cX8_findStood 94 = .ok (.iadd, 1) := by decide +kernel
theorem dX8_findStood_95 : decode cX8_findStood 95 = .ok (.goto 5, 3) := by decide +kernel
theorem dX8_findStood_98 : decode cX8_findStood 98 = .ok (.iload 4, 2) := by decide +kernel
theorem dX8_findStood_100 : decode cX8_findStood 100 = .ok (.istore 4, 2) := by decide +kernel
theorem dX8_findStood_102 : decode cX8_findStood 102 = .ok (.aload_n 0, 1) := by decide +kernel
theorem dX8_findStood_103 : decode cX8_findStood 103 = .ok (.dup, 1) := by decide +kernel
theorem dX8_findStood_104 : decode cX8_findStood 104 = .ok (.getfield 272, 3) := by decide +kernel
theorem dX8_findStood_107 : decode cX8_findStood 107 = .ok (.iconst 1, 1) := by decide +kernel
theorem dX8_findStood_108 : decode cX8_findStood 108 = .ok (.iadd, 1) := by decide +kernel
theorem dX8_findStood_109 : decode cX8_findStood 109 = .ok (.putfield 272, 3) := by decide +kernel
theorem dX8_findStood_112 : decode cX8_findStood 112 = .ok (.iinc 7 1, 3) := by decide +kernel
theorem dX8_findStood_115 : decode cX8_findStood 115 = .ok (.goto (-99), 3) := by decide +kernel
theorem dX8_findStood_118 : decode cX8_findStood 118 = .ok (.iload 4, 2) := by decide +kernel
theorem dX8_findStood_120 : decode cX8_findStood 120 = .ok (.ireturn, 1) := by decide +kernel
set_option maxRecDepth 20000 in
theorem ggX8_stood_X8_in : GoodIn wsX8_stood wsX8_in := goodIn_r _ [8] (by decide +kernel) (by decide +kernel)
set_option maxRecDepth 20000 in
theorem gX8_stood_X8_in : GoodIn wsX8_stood (va_wsS RX8 96 yX8_in wsX8_in) := goodIn_app (goodIn_of _ (by decide +kernel)) ggX8_stood_X8_in
set_option maxRecDepth 20000 in
theorem ggX8_stood_X8_findStood : GoodIn wsX8_stood wsX8_findStood := goodIn_r _ [12, 13, 14, 15, 2, 16, 17, 18, 19, 20, 21, 22, 23, 24, 25, 26, 27, 28, 29, 30, 31, 32, 33, 34, 35, 36, 37, 38, 39, 40, 41, 42, 43, 44, 45, 46, 47, 48, 49, 50, 51, 52, 53, 54, 55, 56, 57, 58, 59, 60, 61] (by decide +kernel) (by decide +kernel)
set_option maxRecDepth 20000 in
theorem gX8_stood_X8_findStood : GoodIn wsX8_stood (wsV RX8 275 RX8 yX8_findStood wsX8_findStood) := goodIn_app (goodIn_of _ (by decide +kernel)) ggX8_stood_X8_findStood
theorem dX8_stood_0 : decode cX8_stood 0 = .ok (.iload_n 1, 1) := by decide +kernel
theorem dX8_stood_1 : decode cX8_stood 1 = .ok (.i2l, 1) := by decide +kernel
theorem dX8_stood_2 : decode cX8_stood 2 = .ok (.lconst 0, 1) := by decide +kernel
theorem dX8_stood_3 : decode cX8_stood 3 = .ok (.aload_n 0, 1) := by decide +kernel
theorem dX8_stood_4 : decode cX8_stood 4 = .ok (.getfield 116, 3) := by decide +kernel
theorem dX8_stood_7 : decode cX8_stood 7 = .ok (.iconst 1, 1) := by decide +kernel
theorem dX8_stood_8 : decode cX8_stood 8 = .ok (.isub, 1) := by decide +kernel
theorem dX8_stood_9 : decode cX8_stood 9 = .ok (.i2l, 1) := by decide +kernel
theorem dX8_stood_10 : decode cX8_stood 10 = .ok (.invokestatic 96, 3) := by decide +kernel
theorem dX8_stood_13 : decode cX8_stood 13 = .ok (.ifCond .ne 6, 3) := by decide +kernel
theorem dX8_stood_16 : decode cX8_stood 16 = .ok (.bipush (-2), 2) := by decide +kernel
theorem dX8_stood_18 : decode cX8_stood 18 = .ok (.ireturn, 1) := by decide +kernel
theorem dX8_stood_19 : decode cX8_stood 19 = .ok (.aload_n 0, 1) := by decide +kernel
theorem dX8_stood_20 : decode cX8_stood 20 = .ok (.iconst 0, 1) := by decide +kernel
theorem dX8_stood_21 : decode cX8_stood 21 = .ok (.putfield 272, 3) := by decide +kernel
theorem dX8_stood_24 : decode cX8_stood 24 = .ok (.bipush (-6), 2) := by decide +kernel
theorem dX8_stood_26 : decode cX8_stood 26 = .ok (.istore_n 3, 1) := by decide +kernel
theorem dX8_stood_27 : decode cX8_stood 27 = .ok (.iconst 0, 1) := by decide +kernel
theorem dX8_stood_28 : decode cX8_stood 28 = .ok (.istore 4, 2) := by decide +kernel
theorem dX8_stood_30 : decode cX8_stood 30 = .ok (.iload 4, 2) := by decide +kernel
theorem dX8_stood_32 : decode cX8_stood 32 = .ok (.aload_n 0, 1) := by decide +kernel
theorem dX8_stood_33 : decode cX8_stood 33 = .ok (.getfield 84, 3) := by decide +kernel
theorem dX8_stood_36 : decode cX8_stood 36 = .ok (.if_icmp .ge 36, 3) := by decide +kernel
theorem dX8_stood_39 : decode cX8_stood 39 = .ok (.aload_n 0, 1) := by decide +kernel
theorem dX8_stood_40 : decode cX8_stood 40 = .ok (.iload 4, 2) := by decide +kernel
theorem dX8_stood_42 : decode cX8_stood 42 = .ok (.aload_n 0, 1) := by decide +kernel
theorem dX8_stood_43 : decode cX8_stood 43 = .ok (.getfield 37, 3) := by decide +kernel
theorem dX8_stood_46 : decode cX8_stood 46 = .ok (.iload_n 1, 1) := by decide +kernel
theorem dX8_stood_47 : decode cX8_stood 47 = .ok (.iaload, 1) := by decide +kernel
theorem dX8_stood_48 : decode cX8_stood 48 = .ok (.iload_n 2, 1) := by decide +kernel
theorem dX8_stood_49 : decode cX8_stood 49 = .ok (.invokevirtual 275, 3) := by decide +kernel
theorem dX8_stood_52 : decode cX8_stood 52 = .ok (.istore 5, 2) := by decide +kernel
theorem dX8_stood_54 : decode cX8_stood 54 = .ok (.iload 5, 2) := by decide +kernel
theorem dX8_stood_56 : decode cX8_stood 56 = .ok (.ifCond .lt 8, 3) := by decide +kernel
theorem dX8_stood_59 : decode cX8_stood 59 = .ok (.iload 5, 2) := by decide +kernel
theorem dX8_stood_61 : decode cX8_stood 61 = .ok (.goto 4, 3) := by decide +kernel
theorem dX8_stood_64 : decode cX8_stood 64 = .ok (.iload_n 3, 1) := by decide +kernel
theorem dX8_stood_65 : decode cX8_stood 65 = .ok (.istore_n 3, 1) := by decide +kernel
theorem dX8_stood_66 : decode cX8_stood 66 = .ok (.iinc 4 1, 3) := by decide +kernel
theorem dX8_stood_69 : decode cX8_stood 69 = .ok (.goto (-39), 3) := by decide +kernel
theorem dX8_stood_72 : decode cX8_stood 72 = .ok (.iload_n 2, 1) := by decide +kernel
theorem dX8_stood_73 : decode cX8_stood 73 = .ok (.iconst (-1), 1) := by decide +kernel
theorem dX8_stood_74 : decode cX8_stood 74 = .ok (.if_icmp .ne 10, 3) := by decide +kernel
theorem dX8_stood_77 : decode cX8_stood 77 = .ok (.aload_n 0, 1) := by decide +kernel
theorem dX8_stood_78 : decode cX8_stood 78 = .ok (.getfield 272, 3) := by decide +kernel
theorem dX8_stood_81 : decode cX8_stood 81 = .ok (.goto 4, 3) := by decide +kernel
theorem dX8_stood_84 : decode cX8_stood 84 = .ok (.iload_n 3, 1) := by decide +kernel
theorem dX8_stood_85 : decode cX8_stood 85 = .ok (.ireturn, 1) := by decide +kernel
set_option maxRecDepth 20000 in
theorem ggX8_both_X8_findStood : GoodIn wsX8_both wsX8_findStood := goodIn_r _ [9, 10, 11, 12, 3, 13, 14, 15, 16, 17, 18, 19, 20, 21, 22, 23, 24, 25, 26, 27, 28, 29, 30, 31, 32, 33, 34, 35, 36, 37, 38, 39, 40, 41, 42, 43, 44, 45, 46, 47, 48, 49, 50, 51, 52, 53, 54, 55, 56, 57, 58] (by decide +kernel) (by decide +kernel)
set_option maxRecDepth 20000 in
theorem gX8_both_X8_findStood : GoodIn wsX8_both (wsV RX8 275 RX8 yX8_findStood wsX8_findStood) := goodIn_app (goodIn_of _ (by decide +kernel)) ggX8_both_X8_findStood
theorem dX8_both_0 : decode cX8_both 0 = .ok (.iconst 0, 1) := by decide +kernel
theorem dX8_both_1 : decode cX8_both 1 = .ok (.istore_n 1, 1) := by decide +kernel
theorem dX8_both_2 : decode cX8_both 2 = .ok (.iconst 0, 1) := by decide +kernel
theorem dX8_both_3 : decode cX8_both 3 = .ok (.istore_n 2, 1) := by decide +kernel
theorem dX8_both_4 : decode cX8_both 4 = .ok (.iload_n 2, 1) := by decide +kernel
theorem dX8_both_5 : decode cX8_both 5 = .ok (.aload_n 0, 1) := by decide +kernel
theorem dX8_both_6 : decode cX8_both 6 = .ok (.getfield 84, 3) := by decide +kernel
theorem dX8_both_9 : decode cX8_both 9 = .ok (.if_icmp .ge 80, 3) := by decide +kernel
theorem dX8_both_12 : decode cX8_both 12 = .ok (.iconst 1, 1) := by decide +kernel
theorem dX8_both_13 : decode cX8_both 13 = .ok (.istore_n 3, 1) := by decide +kernel
theorem dX8_both_14 : decode cX8_both 14 = .ok (.iconst 0, 1) := by decide +kernel
theorem dX8_both_15 : decode cX8_both 15 = .ok (.istore 4, 2) := by decide +kernel
theorem dX8_both_17 : decode cX8_both 17 = .ok (.iload 4, 2) := by decide +kernel
theorem dX8_both_19 : decode cX8_both 19 = .ok (.aload_n 0, 1) := by decide +kernel
theorem dX8_both_20 : decode cX8_both 20 = .ok (.getfield 116, 3) := by decide +kernel
theorem dX8_both_23 : decode cX8_both 23 = .ok (.if_icmp .ge 46, 3) := by decide +kernel
theorem dX8_both_26 : decode cX8_both 26 = .ok (.aload_n 0, 1) := by decide +kernel
theorem dX8_both_27 : decode cX8_both 27 = .ok (.iconst 0, 1) := by decide +kernel
theorem dX8_both_28 : decode cX8_both 28 = .ok (.putfield 272, 3) := by decide +kernel
theorem dX8_both_31 : decode cX8_both 31 = .ok (.aload_n 0, 1) := by decide +kernel
theorem dX8_both_32 : decode cX8_both 32 = .ok (.iload_n 2, 1) := by decide +kernel
theorem dX8_both_33 : decode cX8_both 33 = .ok (.aload_n 0, 1) := by decide +kernel
theorem dX8_both_34 : decode cX8_both 34 = .ok (.getfield 37, 3) := by decide +kernel
theorem dX8_both_37 : decode cX8_both 37 = .ok (.iload 4, 2) := by decide +kernel
theorem dX8_both_39 : decode cX8_both 39 = .ok (.iaload, 1) := by decide +kernel
theorem dX8_both_40 : decode cX8_both 40 = .ok (.bipush (-6), 2) := by decide +kernel
theorem dX8_both_42 : decode cX8_both 42 = .ok (.invokevirtual 275, 3) := by decide +kernel
theorem dX8_both_45 : decode cX8_both 45 = .ok (.pop, 1) := by decide +kernel
theorem dX8_both_46 : decode cX8_both 46 = .ok (.iload_n 3, 1) := by decide +kernel
theorem dX8_both_47 : decode cX8_both 47 = .ok (.ifCond .eq 14, 3) := by decide +kernel
theorem dX8_both_50 : decode cX8_both 50 = .ok (.aload_n 0, 1) := by decide +kernel
theorem dX8_both_51 : decode cX8_both 51 = .ok (.getfield 272, 3) := by decide +kernel
theorem dX8_both_54 : decode cX8_both 54 = .ok (.ifCond .le 7, 3) := by decide +kernel
theorem dX8_both_57 : decode cX8_both 57 = .ok (.iconst 1, 1) := by decide +kernel
theorem dX8_both_58 : decode cX8_both 58 = .ok (.goto 4, 3) := by decide +kernel
theorem dX8_both_61 : decode cX8_both 61 = .ok (.iconst 0, 1) := by decide +kernel
theorem dX8_both_62 : decode cX8_both 62 = .ok (.istore_n 3, 1) := by decide +kernel
theorem dX8_both_63 : decode cX8_both 63 = .ok (.iinc 4 1, 3) := by decide +kernel
theorem dX8_both_66 : decode cX8_both 66 = .ok (.goto (-49), 3) := by decide +kernel
theorem dX8_both_69 : decode cX8_both 69 = .ok (.iload_n 1, 1) := by decide +kernel
theorem dX8_both_70 : decode cX8_both 70 = .ok (.iload_n 3, 1) := by decide +kernel
theorem dX8_both_71 : decode cX8_both 71 = .ok (.ifCond .eq 9, 3) := by decide +kernel
theorem dX8_both_74 : decode cX8_both 74 = .ok (.iconst 1, 1) := by decide +kernel
theorem dX8_both_75 : decode cX8_both 75 = .ok (.iload_n 2, 1) := by decide +kernel
theorem dX8_both_76 : decode cX8_both 76 = .ok (.ishl, 1) := by decide +kernel
theorem dX8_both_77 : decode cX8_both 77 = .ok (.goto 4, 3) := by decide +kernel
theorem dX8_both_80 : decode cX8_both 80 = .ok (.iconst 0, 1) := by decide +kernel
theorem dX8_both_81 : decode cX8_both 81 = .ok (.ior, 1) := by decide +kernel
theorem dX8_both_82 : decode cX8_both 82 = .ok (.istore_n 1, 1) := by decide +kernel
theorem dX8_both_83 : decode cX8_both 83 = .ok (.iinc 2 1, 3) := by decide +kernel
theorem dX8_both_86 : decode cX8_both 86 = .ok (.goto (-82), 3) := by decide +kernel
theorem dX8_both_89 : decode cX8_both 89 = .ok (.iload_n 1, 1) := by decide +kernel
theorem dX8_both_90 : decode cX8_both 90 = .ok (.ireturn, 1) := by decide +kernel
theorem dX8_lowest_0 : decode cX8_lowest 0 = .ok (.lload_n 2, 1) := by decide +kernel
theorem dX8_lowest_1 : decode cX8_lowest 1 = .ok (.lstore 5, 2) := by decide +kernel
theorem dX8_lowest_3 : decode cX8_lowest 3 = .ok (.lload_n 0, 1) := by decide +kernel
theorem dX8_lowest_4 : decode cX8_lowest 4 = .ok (.lstore 7, 2) := by decide +kernel
theorem dX8_lowest_6 : decode cX8_lowest 6 = .ok (.lload 7, 2) := by decide +kernel
theorem dX8_lowest_8 : decode cX8_lowest 8 = .ok (.lconst 0, 1) := by decide +kernel
theorem dX8_lowest_9 : decode cX8_lowest 9 = .ok (.lcmp, 1) := by decide +kernel
theorem dX8_lowest_10 : decode cX8_lowest 10 = .ok (.ifCond .eq 21, 3) := by decide +kernel
theorem dX8_lowest_13 : decode cX8_lowest 13 = .ok (.lload 5, 2) := by decide +kernel
theorem dX8_lowest_15 : decode cX8_lowest 15 = .ok (.lload 7, 2) := by decide +kernel
theorem dX8_lowest_17 : decode cX8_lowest 17 = .ok (.lrem, 1) := by decide +kernel
theorem dX8_lowest_18 : decode cX8_lowest 18 = .ok (.lstore 9, 2) := by decide +kernel
theorem dX8_lowest_20 : decode cX8_lowest 20 = .ok (.lload 7, 2) := by decide +kernel
theorem dX8_lowest_22 : decode cX8_lowest 22 = .ok (.lstore 5, 2) := by decide +kernel
theorem dX8_lowest_24 : decode cX8_lowest 24 = .ok (.lload 9, 2) := by decide +kernel
theorem dX8_lowest_26 : decode cX8_lowest 26 = .ok (.lstore 7, 2) := by decide +kernel
theorem dX8_lowest_28 : decode cX8_lowest 28 = .ok (.goto (-22), 3) := by decide +kernel
theorem dX8_lowest_31 : decode cX8_lowest 31 = .ok (.iload 4, 2) := by decide +kernel
theorem dX8_lowest_33 : decode cX8_lowest 33 = .ok (.ifCond .ne 10, 3) := by decide +kernel
theorem dX8_lowest_36 : decode cX8_lowest 36 = .ok (.lload_n 0, 1) := by decide +kernel
theorem dX8_lowest_37 : decode cX8_lowest 37 = .ok (.lload 5, 2) := by decide +kernel
theorem dX8_lowest_39 : decode cX8_lowest 39 = .ok (.ldiv, 1) := by decide +kernel
theorem dX8_lowest_40 : decode cX8_lowest 40 = .ok (.goto 7, 3) := by decide +kernel
theorem dX8_lowest_43 : decode cX8_lowest 43 = .ok (.lload_n 2, 1) := by decide +kernel
theorem dX8_lowest_44 : decode cX8_lowest 44 = .ok (.lload 5, 2) := by decide +kernel
theorem dX8_lowest_46 : decode cX8_lowest 46 = .ok (.ldiv, 1) := by decide +kernel
theorem dX8_lowest_47 : decode cX8_lowest 47 = .ok (.lreturn, 1) := by decide +kernel
theorem dX8_bakedBy_0 : decode cX8_bakedBy 0 = .ok (.aload_n 0, 1) := by decide +kernel
theorem dX8_bakedBy_1 : decode cX8_bakedBy 1 = .ok (.getfield 87, 3) := by decide +kernel
theorem dX8_bakedBy_4 : decode cX8_bakedBy 4 = .ok (.istore 4, 2) := by decide +kernel
theorem dX8_bakedBy_6 : decode cX8_bakedBy 6 = .ok (.iconst 0, 1) := by decide +kernel
theorem dX8_bakedBy_7 : decode cX8_bakedBy 7 = .ok (.istore 5, 2) := by decide +kernel
theorem dX8_bakedBy_9 : decode cX8_bakedBy 9 = .ok (.iconst 0, 1) := by decide +kernel
theorem dX8_bakedBy_10 : decode cX8_bakedBy 10 = .ok (.istore 6, 2) := by decide +kernel
theorem dX8_bakedBy_12 : decode cX8_bakedBy 12 = .ok (.iload 6, 2) := by decide +kernel
theorem dX8_bakedBy_14 : decode cX8_bakedBy 14 = .ok (.iload_n 2, 1) := by decide +kernel
theorem dX8_bakedBy_15 : decode cX8_bakedBy 15 = .ok (.if_icmp .ge 79, 3) := by decide +kernel
theorem dX8_bakedBy_18 : decode cX8_bakedBy 18 = .ok (.iload 5, 2) := by decide +kernel
theorem dX8_bakedBy_20 : decode cX8_bakedBy 20 = .ok (.iload 4, 2) := by decide +kernel
theorem dX8_bakedBy_22 : decode cX8_bakedBy 22 = .ok (.aload_n 0, 1) := by decide +kernel
theorem dX8_bakedBy_23 : decode cX8_bakedBy 23 = .ok (.getfield 7, 3) := by decide +kernel
theorem dX8_bakedBy_26 : decode cX8_bakedBy 26 = .ok (.iload_n 1, 1) := by decide +kernel
theorem dX8_bakedBy_27 : decode cX8_bakedBy 27 = .ok (.iaload, 1) := by decide +kernel
theorem dX8_bakedBy_28 : decode cX8_bakedBy 28 = .ok (.if_icmp .le 15, 3) := by decide +kernel
theorem dX8_bakedBy_31 : decode cX8_bakedBy 31 = .ok (.iload 4, 2) := by decide +kernel
theorem dX8_bakedBy_33 : decode cX8_bakedBy 33 = .ok (.aload_n 0, 1) := by decide +kernel
theorem dX8_bakedBy_34 : decode cX8_bakedBy 34 = .ok (.getfield 7, 3) := by decide +kernel
theorem dX8_bakedBy_37 : decode cX8_bakedBy 37 = .ok (.iload_n 1, 1) := by decide +kernel
theorem dX8_bakedBy_38 : decode cX8_bakedBy 38 = .ok (.iaload, 1) := by decide +kernel
theorem dX8_bakedBy_39 : decode cX8_bakedBy 39 = .ok (.isub, 1) := by decide +kernel
theorem dX8_bakedBy_40 : decode cX8_bakedBy 40 = .ok (.goto 4, 3) := by decide +kernel
theorem dX8_bakedBy_43 : decode cX8_bakedBy 43 = .ok (.iconst 0, 1) := by decide +kernel
theorem dX8_bakedBy_44 : decode cX8_bakedBy 44 = .ok (.iadd, 1) := by decide +kernel
theorem dX8_bakedBy_45 : decode cX8_bakedBy 45 = .ok (.istore 5, 2) := by decide +kernel
theorem dX8_bakedBy_47 : decode cX8_bakedBy 47 = .ok (.iload 4, 2) := by decide +kernel
theorem dX8_bakedBy_49 : decode cX8_bakedBy 49 = .ok (.aload_n 0, 1) := by decide +kernel
theorem dX8_bakedBy_50 : decode cX8_bakedBy 50 = .ok (.getfield 90, 3) := by decide +kernel
theorem dX8_bakedBy_53 : decode cX8_bakedBy 53 = .ok (.iload_n 3, 1) := by decide +kernel
theorem dX8_bakedBy_54 : decode cX8_bakedBy 54 = .ok (.iload 6, 2) := by decide +kernel
theorem dX8_bakedBy_56 : decode cX8_bakedBy 56 = .ok (.ishr, 1) := by decide +kernel
theorem dX8_bakedBy_57 : decode cX8_bakedBy 57 = .ok (.iconst 1, 1) := by decide +kernel
theorem dX8_bakedBy_58 : decode cX8_bakedBy 58 = .ok (.iand, 1) := by decide +kernel
theorem dX8_bakedBy_59 : decode cX8_bakedBy 59 = .ok (.iconst 1, 1) := by decide +kernel
theorem dX8_bakedBy_60 : decode cX8_bakedBy 60 = .ok (.if_icmp .ne 10, 3) := by decide +kernel
theorem dX8_bakedBy_63 : decode cX8_bakedBy 63 = .ok (.aload_n 0, 1) := by decide +kernel
theorem dX8_bakedBy_64 : decode cX8_bakedBy 64 = .ok (.getfield 93, 3) := by decide +kernel
theorem dX8_bakedBy_67 : decode cX8_bakedBy 67 = .ok (.goto 4, 3) := by decide +kernel
theorem dX8_bakedBy_70 : decode cX8_bakedBy 70 = .ok (.iconst 0, 1) := by decide +kernel
theorem dX8_bakedBy_71 : decode cX8_bakedBy 71 = .ok (.iadd, 1) := by decide +kernel
theorem dX8_bakedBy_72 : decode cX8_bakedBy 72 = .ok (.isub, 1) := by decide +kernel
theorem dX8_bakedBy_73 : decode cX8_bakedBy 73 = .ok (.istore 4, 2) := by decide +kernel
theorem dX8_bakedBy_75 : decode cX8_bakedBy 75 = .ok (.iload 4, 2) := by decide +kernel
theorem dX8_bakedBy_77 : decode cX8_bakedBy 77 = .ok (.ifCond .ge 7, 3) := by decide +kernel
theorem dX8_bakedBy_80 : decode cX8_bakedBy 80 = .ok (.iconst 0, 1) := by decide +kernel
theorem dX8_bakedBy_81 : decode cX8_bakedBy 81 = .ok (.goto 5, 3) := by decide +kernel
theorem dX8_bakedBy_84 : decode cX8_bakedBy 84 = .ok (.iload 4, 2) := by decide +kernel
theorem dX8_bakedBy_86 : decode cX8_bakedBy 86 = .ok (.istore 4, 2) := by decide +kernel
theorem dX8_bakedBy_88 : decode cX8_bakedBy 88 = .ok (.iinc 6 1, 3) := by decide +kernel
theorem dX8_bakedBy_91 : decode cX8_bakedBy 91 = .ok (.goto (-79), 3) := by decide +kernel
theorem dX8_bakedBy_94 : decode cX8_bakedBy 94 = .ok (.iload 5, 2) := by decide +kernel
theorem dX8_bakedBy_96 : decode cX8_bakedBy 96 = .ok (.ireturn, 1) := by decide +kernel
set_option maxRecDepth 20000 in
theorem ggX8_winds_X8_isSort : GoodIn wsX8_winds wsX8_isSort := goodIn_r _ [8, 9, 10, 11, 7, 12, 13, 14, 15, 16, 39, 40, 41, 42, 43, 44, 45, 46, 47, 48, 49, 50, 51, 52, 53, 54, 55, 56, 57, 58, 59, 60, 61, 62, 63, 64, 65, 66, 67, 68, 69, 70, 71, 72, 73, 74, 75, 76, 77, 78, 79, 80, 81, 82, 83, 84] (by decide +kernel) (by decide +kernel)
set_option maxRecDepth 20000 in
theorem gX8_winds_X8_isSort : GoodIn wsX8_winds (wsV RX8 154 RX8 yX8_isSort wsX8_isSort) := goodIn_app (goodIn_of _ (by decide +kernel)) ggX8_winds_X8_isSort
set_option maxRecDepth 20000 in
theorem ggX8_winds_X8_isPlace : GoodIn wsX8_winds wsX8_isPlace := goodIn_r _ [20, 21, 14, 15, 7, 16, 39, 40, 41, 42, 43, 44, 45, 46, 47, 48, 49, 50, 51, 52, 53, 54, 55, 56, 57, 58, 59, 60, 61, 62, 63, 64, 65, 66, 67, 68, 69, 70, 71, 72, 73, 74, 75, 76, 77, 78, 79, 80, 81, 82, 83, 84] (by decide +kernel) (by decide +kernel)
set_option maxRecDepth 20000 in
theorem gX8_winds_X8_isPlace : GoodIn wsX8_winds (wsV RX8 125 RX8 yX8_isPlace wsX8_isPlace) := goodIn_app (goodIn_of _ (by decide +kernel)) ggX8_winds_X8_isPlace
set_option maxRecDepth 20000 in
theorem ggX8_winds_X8_in : GoodIn wsX8_winds wsX8_in := goodIn_r _ [16] (by decide +kernel) (by decide +kernel)
set_option maxRecDepth 20000 in
theorem gX8_winds_X8_in : GoodIn wsX8_winds (va_wsS RX8 96 yX8_in wsX8_in) := goodIn_app (goodIn_of _ (by decide +kernel)) ggX8_winds_X8_in
set_option maxRecDepth 20000 in
theorem ggX8_winds_X8_bakedBy : GoodIn wsX8_winds wsX8_bakedBy := goodIn_r _ [25, 26, 27, 28, 29, 39, 40, 41, 42, 43, 44, 45, 46, 47, 48, 49, 50, 51, 52, 53, 54, 55, 56, 57, 58, 59, 60, 61, 62, 63, 64, 65, 66, 67, 68, 69, 70, 71, 72, 73, 74, 75, 76, 77, 78, 79, 80, 81, 82, 83, 84] (by decide +kernel) (by decide +kernel)
set_option maxRecDepth 20000 in
theorem gX8_winds_X8_bakedBy : GoodIn wsX8_winds (wsV RX8 284 RX8 yX8_bakedBy wsX8_bakedBy) := goodIn_app (goodIn_of _ (by decide +kernel)) ggX8_winds_X8_bakedBy
set_option maxRecDepth 20000 in
theorem ggX8_winds_X8_ripeness : GoodIn wsX8_winds wsX8_ripeness := goodIn_r _ [33, 34, 35, 39, 40, 41, 42, 43, 44, 45, 46, 47, 48, 49, 50, 51, 52, 53, 54, 55, 56, 57, 58, 59, 60, 61, 62, 63, 64, 65, 66, 67, 68, 69, 70, 71, 72, 73, 74, 75, 76, 77, 78, 79, 80, 81, 82, 83, 84] (by decide +kernel) (by decide +kernel)
set_option maxRecDepth 20000 in
theorem gX8_winds_X8_ripeness : GoodIn wsX8_winds (wsV RX8 160 RX8 yX8_ripeness wsX8_ripeness) := goodIn_app (goodIn_of _ (by decide +kernel)) ggX8_winds_X8_ripeness
set_option maxRecDepth 20000 in
theorem ggX8_winds_X8_lowest : GoodIn wsX8_winds wsX8_lowest := goodIn_r _ [38] (by decide +kernel) (by decide +kernel)
set_option maxRecDepth 20000 in
theorem gX8_winds_X8_lowest : GoodIn wsX8_winds (va_wsS RX8 287 yX8_lowest wsX8_lowest) := goodIn_app (goodIn_of _ (by decide +kernel)) ggX8_winds_X8_lowest
theorem dX8_winds_0 : decode cX8_winds 0 = .ok (.aload_n 0, 1) := by decide +kernel
theorem dX8_winds_1 : decode cX8_winds 1 = .ok (.iload_n 1, 1) := by decide +kernel
theorem dX8_winds_2 : decode cX8_winds 2 = .ok (.invokevirtual 154, 3) := by decide +kernel
theorem dX8_winds_5 : decode cX8_winds 5 = .ok (.ifCond .eq 11, 3) := by decide +kernel
theorem dX8_winds_8 : decode cX8_winds 8 = .ok (.aload_n 0, 1) := by decide +kernel
theorem dX8_winds_9 : decode cX8_winds 9 = .ok (.iload_n 2, 1) := by decide +kernel
theorem dX8_winds_10 : decode cX8_winds 10 = .ok (.invokevirtual 125, 3) := by decide +kernel
theorem dX8_winds_13 : decode cX8_winds 13 = .ok (.ifCond .ne 7, 3) := by decide +kernel
theorem dX8_winds_16 : decode cX8_winds 16 = .ok (.ldc2_w 278, 3) := by decide +kernel
theorem dX8_winds_19 : decode cX8_winds 19 = .ok (.lreturn, 1) := by decide +kernel
theorem dX8_winds_20 : decode cX8_winds 20 = .ok (.iload_n 3, 1) := by decide +kernel
theorem dX8_winds_21 : decode cX8_winds 21 = .ok (.i2l, 1) := by decide +kernel
theorem dX8_winds_22 : decode cX8_winds 22 = .ok (.lconst 0, 1) := by decide +kernel
theorem dX8_winds_23 : decode cX8_winds 23 = .ok (.ldc2_w 280, 3) := by decide +kernel
theorem dX8_winds_26 : decode cX8_winds 26 = .ok (.invokestatic 96, 3) := by decide +kernel
theorem dX8_winds_29 : decode cX8_winds 29 = .ok (.ifCond .eq 27, 3) := by decide +kernel
theorem dX8_winds_32 : decode cX8_winds 32 = .ok (.iload 4, 2) := by decide +kernel
theorem dX8_winds_34 : decode cX8_winds 34 = .ok (.i2l, 1) := by decide +kernel
theorem dX8_winds_35 : decode cX8_winds 35 = .ok (.lconst 0, 1) := by decide +kernel
theorem dX8_winds_36 : decode cX8_winds 36 = .ok (.ldc2_w 280, 3) := by decide +kernel
theorem dX8_winds_39 : decode cX8_winds 39 = .ok (.invokestatic 96, 3) := by decide +kernel
theorem dX8_winds_42 : decode cX8_winds 42 = .ok (.ifCond .eq 14, 3) := by decide +kernel
theorem dX8_winds_45 : decode cX8_winds 45 = .ok (.iload 5, 2) := by decide +kernel
theorem dX8_winds_47 : decode cX8_winds 47 = .ok (.i2l, 1) := by decide +kernel
theorem dX8_winds_48 : decode cX8_winds 48 = .ok (.lconst 0, 1) := by decide +kernel
theorem dX8_winds_49 : decode cX8_winds 49 = .ok (.lconst 1, 1) := by decide +kernel
theorem dX8_winds_50 : decode cX8_winds 50 = .ok (.invokestatic 96, 3) := by decide +kernel
theorem dX8_winds_53 : decode cX8_winds 53 = .ok (.ifCond .ne 7, 3) := by decide +kernel
theorem dX8_winds_56 : decode cX8_winds 56 = .ok (.ldc2_w 282, 3) := by decide +kernel
theorem dX8_winds_59 : decode cX8_winds 59 = .ok (.lreturn, 1) := by decide +kernel
theorem dX8_winds_60 : decode cX8_winds 60 = .ok (.lconst 0, 1) := by decide +kernel
theorem dX8_winds_61 : decode cX8_winds 61 = .ok (.lstore 6, 2) := by decide +kernel
theorem dX8_winds_63 : decode cX8_winds 63 = .ok (.lconst 0, 1) := by decide +kernel
theorem dX8_winds_64 : decode cX8_winds 64 = .ok (.lstore 8, 2) := by decide +kernel
theorem dX8_winds_66 : decode cX8_winds 66 = .ok (.iconst 0, 1) := by decide +kernel
theorem dX8_winds_67 : decode cX8_winds 67 = .ok (.istore 10, 2) := by decide +kernel
theorem dX8_winds_69 : decode cX8_winds 69 = .ok (.iload 10, 2) := by decide +kernel
theorem dX8_winds_71 : decode cX8_winds 71 = .ok (.iconst 1, 1) := by decide +kernel
theorem dX8_winds_72 : decode cX8_winds 72 = .ok (.iload 4, 2) := by decide +kernel
theorem dX8_winds_74 : decode cX8_winds 74 = .ok (.ishl, 1) := by decide +kernel
theorem dX8_winds_75 : decode cX8_winds 75 = .ok (.if_icmp .ge 90, 3) := by decide +kernel
theorem dX8_winds_78 : decode cX8_winds 78 = .ok (.lconst 1, 1) := by decide +kernel
theorem dX8_winds_79 : decode cX8_winds 79 = .ok (.lstore 11, 2) := by decide +kernel
theorem dX8_winds_81 : decode cX8_winds 81 = .ok (.iconst 0, 1) := by decide +kernel
theorem dX8_winds_82 : decode cX8_winds 82 = .ok (.istore 13, 2) := by decide +kernel
theorem dX8_winds_84 : decode cX8_winds 84 = .ok (.iload 13, 2) := by decide +kernel
theorem dX8_winds_86 : decode cX8_winds 86 = .ok (.iload 4, 2) := by decide +kernel
theorem dX8_winds_88 : decode cX8_winds 88 = .ok (.if_icmp .ge 35, 3) := by decide +kernel
theorem dX8_winds_91 : decode cX8_winds 91 = .ok (.lload 11, 2) := by decide +kernel
theorem dX8_winds_93 : decode cX8_winds 93 = .ok (.iload 10, 2) := by decide +kernel
theorem dX8_winds_95 : decode cX8_winds 95 = .ok (.iload 13, 2) := by decide +kernel
theorem dX8_winds_97 : decode cX8_winds 97 = .ok (.ishr, 1) := by decide +kernel
theorem dX8_winds_98 : decode cX8_winds 98 = .ok (.iconst 1, 1) := by decide +kernel
theorem dX8_winds_99 : decode cX8_winds 99 = .ok (.iand, 1) := by decide +kernel
theorem dX8_winds_100 : decode cX8_winds 100 = .ok (.iconst 1, 1) := by decide +kernel
theorem dX8_winds_101 : decode cX8_winds 101 = .ok (.if_icmp .ne 8, 3) := by decide +kernel
theorem dX8_winds_104 : decode cX8_winds 104 = .ok (.iload_n 3, 1) := by decide +kernel
theorem dX8_winds_105 : decode cX8_winds 105 = .ok (.i2l, 1) := by decide +kernel
theorem dX8_winds_106 : decode cX8_winds 106 = .ok (.goto 8, 3) := by decide +kernel
theorem dX8_winds_109 : decode cX8_winds 109 = .ok (.bipush 10, 2) := by decide +kernel
theorem dX8_winds_111 : decode cX8_winds 111 = .ok (.iload_n 3, 1) := by decide +kernel
theorem dX8_winds_112 : decode cX8_winds 112 = .ok (.isub, 1) := by decide +kernel
theorem dX8_winds_113 : decode cX8_winds 113 = .ok (.i2l, 1) := by decide +kernel
theorem dX8_winds_114 : decode cX8_winds 114 = .ok (.lmul, 1) := by decide +kernel
theorem dX8_winds_115 : decode cX8_winds 115 = .ok (.lstore 11, 2) := by decide +kernel
theorem dX8_winds_117 : decode cX8_winds 117 = .ok (.iinc 13 1, 3) := by decide +kernel
theorem dX8_winds_120 : decode cX8_winds 120 = .ok (.goto (-36), 3) := by decide +kernel
theorem dX8_winds_123 : decode cX8_winds 123 = .ok (.lload 8, 2) := by decide +kernel
theorem dX8_winds_125 : decode cX8_winds 125 = .ok (.lload 11, 2) := by decide +kernel
theorem dX8_winds_127 : decode cX8_winds 127 = .ok (.ladd, 1) := by decide +kernel
theorem dX8_winds_128 : decode cX8_winds 128 = .ok (.lstore 8, 2) := by decide +kernel
theorem dX8_winds_130 : decode cX8_winds 130 = .ok (.lload 6, 2) := by decide +kernel
theorem dX8_winds_132 : decode cX8_winds 132 = .ok (.aload_n 0, 1) := by decide +kernel
theorem dX8_winds_133 : decode cX8_winds 133 = .ok (.iload_n 1, 1) := by decide +kernel
theorem dX8_winds_134 : decode cX8_winds 134 = .ok (.aload_n 0, 1) := by decide +kernel
theorem dX8_winds_135 : decode cX8_winds 135 = .ok (.iload_n 2, 1) := by decide +kernel
theorem dX8_winds_136 : decode cX8_winds 136 = .ok (.iload 4, 2) := by decide +kernel
theorem dX8_winds_138 : decode cX8_winds 138 = .ok (.iload 10, 2) := by decide +kernel
theorem dX8_winds_140 : decode cX8_winds 140 = .ok (.invokevirtual 284, 3) := by decide +kernel
theorem dX8_winds_143 : decode cX8_winds 143 = .ok (.invokevirtual 160, 3) := by decide +kernel
theorem dX8_winds_146 : decode cX8_winds 146 = .ok (.iconst 1, 1) := by decide +kernel
theorem dX8_winds_147 : decode cX8_winds 147 = .ok (.if_icmp .ne 8, 3) := by decide +kernel
theorem dX8_winds_150 : decode cX8_winds 150 = .ok (.lload 11, 2) := by decide +kernel
theorem dX8_winds_152 : decode cX8_winds 152 = .ok (.goto 4, 3) := by decide +kernel
theorem dX8_winds_155 : decode cX8_winds 155 = .ok (.lconst 0, 1) := by decide +kernel
theorem dX8_winds_156 : decode cX8_winds 156 = .ok (.ladd, 1) := by decide +kernel
theorem dX8_winds_157 : decode cX8_winds 157 = .ok (.lstore 6, 2) := by decide +kernel
theorem dX8_winds_159 : decode cX8_winds 159 = .ok (.iinc 10 1, 3) := by decide +kernel
theorem dX8_winds_162 : decode cX8_winds 162 = .ok (.goto (-93), 3) := by decide +kernel
theorem dX8_winds_165 : decode cX8_winds 165 = .ok (.lload 6, 2) := by decide +kernel
theorem dX8_winds_167 : decode cX8_winds 167 = .ok (.lload 8, 2) := by decide +kernel
theorem dX8_winds_169 : decode cX8_winds 169 = .ok (.iload 5, 2) := by decide +kernel
theorem dX8_winds_171 : decode cX8_winds 171 = .ok (.invokestatic 287, 3) := by decide +kernel
theorem dX8_winds_174 : decode cX8_winds 174 = .ok (.lreturn, 1) := by decide +kernel
set_option maxRecDepth 20000 in
theorem ggX8_year_X8_in : GoodIn wsX8_year wsX8_in := goodIn_r _ [13] (by decide +kernel) (by decide +kernel)
set_option maxRecDepth 20000 in
theorem gX8_year_X8_in : GoodIn wsX8_year (va_wsS RX8 96 yX8_in wsX8_in) := goodIn_app (goodIn_of _ (by decide +kernel)) ggX8_year_X8_in
set_option maxRecDepth 20000 in
theorem ggX8_year_X8_isSort : GoodIn wsX8_year wsX8_isSort := goodIn_r _ [17, 18, 19, 20, 12, 21, 22, 10, 11, 13, 37, 38, 39, 40, 41, 42, 43, 44, 45, 46, 47, 48, 49, 50, 51, 52, 53, 54, 55, 56, 57, 58, 59, 60, 61, 62, 63, 64, 65, 66, 67, 68, 69, 70, 71, 72, 73, 74, 75, 76, 77, 78, 79, 80, 81, 82] (by decide +kernel) (by decide +kernel)
set_option maxRecDepth 20000 in
theorem gX8_year_X8_isSort : GoodIn wsX8_year (wsV RX8 154 RX8 yX8_isSort wsX8_isSort) := goodIn_app (goodIn_of _ (by decide +kernel)) ggX8_year_X8_isSort
set_option maxRecDepth 20000 in
theorem ggX8_year_X8_bakedBy : GoodIn wsX8_year wsX8_bakedBy := goodIn_r _ [26, 27, 28, 29, 30, 37, 38, 39, 40, 41, 42, 43, 44, 45, 46, 47, 48, 49, 50, 51, 52, 53, 54, 55, 56, 57, 58, 59, 60, 61, 62, 63, 64, 65, 66, 67, 68, 69, 70, 71, 72, 73, 74, 75, 76, 77, 78, 79, 80, 81, 82] (by decide +kernel) (by decide +kernel)
set_option maxRecDepth 20000 in
theorem gX8_year_X8_bakedBy : GoodIn wsX8_year (wsV RX8 284 RX8 yX8_bakedBy wsX8_bakedBy) := goodIn_app (goodIn_of _ (by decide +kernel)) ggX8_year_X8_bakedBy
set_option maxRecDepth 20000 in
theorem ggX8_year_X8_ripeness : GoodIn wsX8_year wsX8_ripeness := goodIn_r _ [34, 35, 36, 37, 38, 39, 40, 41, 42, 43, 44, 45, 46, 47, 48, 49, 50, 51, 52, 53, 54, 55, 56, 57, 58, 59, 60, 61, 62, 63, 64, 65, 66, 67, 68, 69, 70, 71, 72, 73, 74, 75, 76, 77, 78, 79, 80, 81, 82] (by decide +kernel) (by decide +kernel)
set_option maxRecDepth 20000 in
theorem gX8_year_X8_ripeness : GoodIn wsX8_year (wsV RX8 160 RX8 yX8_ripeness wsX8_ripeness) := goodIn_app (goodIn_of _ (by decide +kernel)) ggX8_year_X8_ripeness
theorem dX8_year_0 : decode cX8_year 0 = .ok (.iload_n 1, 1) := by decide +kernel
theorem dX8_year_1 : decode cX8_year 1 = .ok (.i2l, 1) := by decide +kernel
theorem dX8_year_2 : decode cX8_year 2 = .ok (.lconst 0, 1) := by decide +kernel
theorem dX8_year_3 : decode cX8_year 3 = .ok (.ldc2_w 291, 3) := by decide +kernel
theorem dX8_year_6 : decode cX8_year 6 = .ok (.invokestatic 96, 3) := by decide +kernel
theorem dX8_year_9 : decode cX8_year 9 = .ok (.ifCond .eq 27, 3) := by decide +kernel
theorem dX8_year_12 : decode cX8_year 12 = .ok (.iload_n 2, 1) := by decide +kernel
theorem dX8_year_13 : decode cX8_year 13 = .ok (.i2l, 1) := by decide +kernel
theorem dX8_year_14 : decode cX8_year 14 = .ok (.lconst 1, 1) := by decide +kernel
theorem dX8_year_15 : decode cX8_year 15 = .ok (.ldc2_w 121, 3) := by decide +kernel
theorem dX8_year_18 : decode cX8_year 18 = .ok (.invokestatic 96, 3) := by decide +kernel
theorem dX8_year_21 : decode cX8_year 21 = .ok (.ifCond .eq 15, 3) := by decide +kernel
theorem dX8_year_24 : decode cX8_year 24 = .ok (.iload_n 3, 1) := by decide +kernel
theorem dX8_year_25 : decode cX8_year 25 = .ok (.i2l, 1) := by decide +kernel
theorem dX8_year_26 : decode cX8_year 26 = .ok (.lconst 0, 1) := by decide +kernel
theorem dX8_year_27 : decode cX8_year 27 = .ok (.ldc2_w 208, 3) := by decide +kernel
theorem dX8_year_30 : decode cX8_year 30 = .ok (.invokestatic 96, 3) := by decide +kernel
theorem dX8_year_33 : decode cX8_year 33 = .ok (.ifCond .ne 6, 3) := by decide +kernel
theorem dX8_year_36 : decode cX8_year 36 = .ok (.bipush (-2), 2) := by decide +kernel
theorem dX8_year_38 : decode cX8_year 38 = .ok (.ireturn, 1) := by decide +kernel
theorem dX8_year_39 : decode cX8_year 39 = .ok (.iconst 0, 1) := by decide +kernel
theorem dX8_year_40 : decode cX8_year 40 = .ok (.istore 4, 2) := by decide +kernel
theorem dX8_year_42 : decode cX8_year 42 = .ok (.iload 4, 2) := by decide +kernel
theorem dX8_year_44 : decode cX8_year 44 = .ok (.iconst 4, 1) := by decide +kernel
theorem dX8_year_45 : decode cX8_year 45 = .ok (.if_icmp .ge 17, 3) := by decide +kernel
theorem dX8_year_48 : decode cX8_year 48 = .ok (.aload_n 0, 1) := by decide +kernel
theorem dX8_year_49 : decode cX8_year 49 = .ok (.getfield 70, 3) := by decide +kernel
theorem dX8_year_52 : decode cX8_year 52 = .ok (.iload 4, 2) := by decide +kernel
theorem dX8_year_54 : decode cX8_year 54 = .ok (.iconst 0, 1) := by decide +kernel
theorem dX8_year_55 : decode cX8_year 55 = .ok (.iastore, 1) := by decide +kernel
theorem dX8_year_56 : decode cX8_year 56 = .ok (.iinc 4 1, 3) := by decide +kernel
theorem dX8_year_59 : decode cX8_year 59 = .ok (.goto (-17), 3) := by decide +kernel
theorem dX8_year_62 : decode cX8_year 62 = .ok (.iload_n 1, 1) := by decide +kernel
theorem dX8_year_63 : decode cX8_year 63 = .ok (.istore 4, 2) := by decide +kernel
theorem dX8_year_65 : decode cX8_year 65 = .ok (.iconst 0, 1) := by decide +kernel
theorem dX8_year_66 : decode cX8_year 66 = .ok (.istore 5, 2) := by decide +kernel
theorem dX8_year_68 : decode cX8_year 68 = .ok (.iload 5, 2) := by decide +kernel
theorem dX8_year_70 : decode cX8_year 70 = .ok (.iload_n 2, 1) := by decide +kernel
theorem dX8_year_71 : decode cX8_year 71 = .ok (.if_icmp .ge 113, 3) := by decide +kernel
theorem dX8_year_74 : decode cX8_year 74 = .ok (.ldc2_w 293, 3) := by decide +kernel
theorem dX8_year_77 : decode cX8_year 77 = .ok (.iload 4, 2) := by decide +kernel
theorem dX8_year_79 : decode cX8_year 79 = .ok (.i2l, 1) := by decide +kernel
theorem dX8_year_80 : decode cX8_year 80 = .ok (.lmul, 1) := by decide +kernel
theorem dX8_year_81 : decode cX8_year 81 = .ok (.ldc2_w 295, 3) := by decide +kernel
theorem dX8_year_84 : decode cX8_year 84 = .ok (.ladd, 1) := by decide +kernel
theorem dX8_year_85 : decode cX8_year 85 = .ok (.ldc2_w 297, 3) := by decide +kernel
theorem dX8_year_88 : decode cX8_year 88 = .ok (.lrem, 1) := by decide +kernel
theorem dX8_year_89 : decode cX8_year 89 = .ok (.l2i, 1) := by decide +kernel
theorem dX8_year_90 : decode cX8_year 90 = .ok (.istore 4, 2) := by decide +kernel
theorem dX8_year_92 : decode cX8_year 92 = .ok (.iload 4, 2) := by decide +kernel
theorem dX8_year_94 : decode cX8_year 94 = .ok (.bipush 6, 2) := by decide +kernel
theorem dX8_year_96 : decode cX8_year 96 = .ok (.irem, 1) := by decide +kernel
theorem dX8_year_97 : decode cX8_year 97 = .ok (.istore 6, 2) := by decide +kernel
theorem dX8_year_99 : decode cX8_year 99 = .ok (.aload_n 0, 1) := by decide +kernel
theorem dX8_year_100 : decode cX8_year 100 = .ok (.iload 6, 2) := by decide +kernel
theorem dX8_year_102 : decode cX8_year 102 = .ok (.invokevirtual 154, 3) := by decide +kernel
theorem dX8_year_105 : decode cX8_year 105 = .ok (.ifCond .eq 73, 3) := by decide +kernel
theorem dX8_year_108 : decode cX8_year 108 = .ok (.aload_n 0, 1) := by decide +kernel
theorem dX8_year_109 : decode cX8_year 109 = .ok (.iload 6, 2) := by decide +kernel
theorem dX8_year_111 : decode cX8_year 111 = .ok (.aload_n 0, 1) := by decide +kernel
theorem dX8_year_112 : decode cX8_year 112 = .ok (.iload 4, 2) := by decide +kernel
theorem dX8_year_114 : decode cX8_year 114 = .ok (.bipush 6, 2) := by decide +kernel
theorem dX8_year_116 : decode cX8_year 116 = .ok (.idiv, 1) := by decide +kernel
theorem dX8_year_117 : decode cX8_year 117 = .ok (.aload_n 0, 1) := by decide +kernel
theorem dX8_year_118 : decode cX8_year 118 = .ok (.getfield 84, 3) := by decide +kernel
theorem dX8_year_121 : decode cX8_year 121 = .ok (.irem, 1) := by decide +kernel
theorem dX8_year_122 : decode cX8_year 122 = .ok (.iconst 1, 1) := by decide +kernel
theorem dX8_year_123 : decode cX8_year 123 = .ok (.iload 4, 2) := by decide +kernel
theorem dX8_year_125 : decode cX8_year 125 = .ok (.bipush 64, 2) := by decide +kernel
theorem dX8_year_127 : decode cX8_year 127 = .ok (.idiv, 1) := by decide +kernel
theorem dX8_year_128 : decode cX8_year 128 = .ok (.bipush 40, 2) := by decide +kernel
theorem dX8_year_130 : decode cX8_year 130 = .ok (.irem, 1) := by decide +kernel
theorem dX8_year_131 : decode cX8_year 131 = .ok (.iadd, 1) := by decide +kernel
theorem dX8_year_132 : decode cX8_year 132 = .ok (.iconst 0, 1) := by decide +kernel
theorem dX8_year_133 : decode cX8_year 133 = .ok (.invokevirtual 284, 3) := by decide +kernel
theorem dX8_year_136 : decode cX8_year 136 = .ok (.invokevirtual 160, 3) := by decide +kernel
theorem dX8_year_139 : decode cX8_year 139 = .ok (.istore 7, 2) := by decide +kernel
theorem dX8_year_141 : decode cX8_year 141 = .ok (.aload_n 0, 1) := by decide +kernel
theorem dX8_year_142 : decode cX8_year 142 = .ok (.getfield 70, 3) := by decide +kernel
theorem dX8_year_145 : decode cX8_year 145 = .ok (.iload 7, 2) := by decide +kernel
theorem dX8_year_147 : decode cX8_year 147 = .ok (.dup2, 1) := by decide +kernel
theorem dX8_year_148 : decode cX8_year 148 = .ok (.iaload, 1) := by decide +kernel
theorem dX8_year_149 : decode cX8_year 149 = .ok (.iconst 1, 1) := by decide +kernel
theorem dX8_year_150 : decode cX8_year 150 = .ok (.iadd, 1) := by decide +kernel
theorem dX8_year_151 : decode cX8_year 151 = .ok (.iastore, 1) := by decide +kernel
theorem dX8_year_152 : decode cX8_year 152 = .ok (.aload_n 0, 1) := by decide +kernel
theorem dX8_year_153 : decode cX8_year 153 = .ok (.getfield 70, 3) := by decide +kernel
theorem dX8_year_156 : decode cX8_year 156 = .ok (.iconst 3, 1) := by decide +kernel
theorem dX8_year_157 : decode cX8_year 157 = .ok (.dup2, 1) := by decide +kernel
theorem dX8_year_158 : decode cX8_year 158 = .ok (.iaload, 1) := by decide +kernel
theorem dX8_year_159 : decode cX8_year 159 = .ok (.iload 7, 2) := by decide +kernel
theorem dX8_year_161 : decode cX8_year 161 = .ok (.iconst 1, 1) := by decide +kernel
theorem dX8_year_162 : decode cX8_year 162 = .ok (.if_icmp .ne 13, 3) := by decide +kernel
theorem dX8_year_165 : decode cX8_year 165 = .ok (.aload_n 0, 1) := by decide +kernel
theorem dX8_year_166 : decode cX8_year 166 = .ok (.getfield 19, 3) := by decide +kernel
theorem dX8_year_169 : decode cX8_year 169 = .ok (.iload 6, 2) := by decide +kernel
theorem dX8_year_171 : decode cX8_year 171 = .ok (.iaload, 1) := by decide +kernel
theorem dX8_year_172 : decode cX8_year 172 = .ok (.goto 4, 3) := by decide +kernel
theorem dX8_year_175 : decode cX8_year 175 = .ok (.iconst 0, 1) := by decide +kernel
theorem dX8_year_176 : decode cX8_year 176 = .ok (.iadd, 1) := by decide +kernel
theorem dX8_year_177 : decode cX8_year 177 = .ok (.iastore, 1) := by decide +kernel
theorem dX8_year_178 : decode cX8_year 178 = .ok (.iinc 5 1, 3) := by decide +kernel
theorem dX8_year_181 : decode cX8_year 181 = .ok (.goto (-113), 3) := by decide +kernel
theorem dX8_year_184 : decode cX8_year 184 = .ok (.aload_n 0, 1) := by decide +kernel
theorem dX8_year_185 : decode cX8_year 185 = .ok (.getfield 70, 3) := by decide +kernel
theorem dX8_year_188 : decode cX8_year 188 = .ok (.iload_n 3, 1) := by decide +kernel
theorem dX8_year_189 : decode cX8_year 189 = .ok (.iaload, 1) := by decide +kernel
theorem dX8_year_190 : decode cX8_year 190 = .ok (.ireturn, 1) := by decide +kernel
theorem dX8_pass_0 : decode cX8_pass 0 = .ok (.aload_n 0, 1) := by decide +kernel
theorem dX8_pass_1 : decode cX8_pass 1 = .ok (.getfield 299, 3) := by decide +kernel
theorem dX8_pass_4 : decode cX8_pass 4 = .ok (.ifCond .eq 7, 3) := by decide +kernel
theorem dX8_pass_7 : decode cX8_pass 7 = .ok (.iload_n 1, 1) := by decide +kernel
theorem dX8_pass_8 : decode cX8_pass 8 = .ok (.goto 12, 3) := by decide +kernel
theorem dX8_pass_11 : decode cX8_pass 11 = .ok (.aload_n 0, 1) := by decide +kernel
theorem dX8_pass_12 : decode cX8_pass 12 = .ok (.getfield 73, 3) := by decide +kernel
theorem dX8_pass_15 : decode cX8_pass 15 = .ok (.aload_n 0, 1) := by decide +kernel
theorem dX8_pass_16 : decode cX8_pass 16 = .ok (.getfield 303, 3) := by decide +kernel
theorem dX8_pass_19 : decode cX8_pass 19 = .ok (.iaload, 1) := by decide +kernel
theorem dX8_pass_20 : decode cX8_pass 20 = .ok (.istore_n 2, 1) := by decide +kernel
theorem dX8_pass_21 : decode cX8_pass 21 = .ok (.aload_n 0, 1) := by decide +kernel
theorem dX8_pass_22 : decode cX8_pass 22 = .ok (.getfield 73, 3) := by decide +kernel
theorem dX8_pass_25 : decode cX8_pass 25 = .ok (.aload_n 0, 1) := by decide +kernel
theorem dX8_pass_26 : decode cX8_pass 26 = .ok (.getfield 303, 3) := by decide +kernel
theorem dX8_pass_29 : decode cX8_pass 29 = .ok (.iload_n 2, 1) := by decide +kernel
theorem dX8_pass_30 : decode cX8_pass 30 = .ok (.iastore, 1) := by decide +kernel
theorem dX8_pass_31 : decode cX8_pass 31 = .ok (.aload_n 0, 1) := by decide +kernel
theorem dX8_pass_32 : decode cX8_pass 32 = .ok (.dup, 1) := by decide +kernel
theorem dX8_pass_33 : decode cX8_pass 33 = .ok (.getfield 303, 3) := by decide +kernel
theorem dX8_pass_36 : decode cX8_pass 36 = .ok (.iconst 1, 1) := by decide +kernel
theorem dX8_pass_37 : decode cX8_pass 37 = .ok (.iadd, 1) := by decide +kernel
theorem dX8_pass_38 : decode cX8_pass 38 = .ok (.putfield 303, 3) := by decide +kernel
theorem dX8_pass_41 : decode cX8_pass 41 = .ok (.iload_n 2, 1) := by decide +kernel
theorem dX8_pass_42 : decode cX8_pass 42 = .ok (.ireturn, 1) := by decide +kernel
set_option maxRecDepth 20000 in
theorem ggX8_passAll_X8_pass : GoodIn wsX8_passAll wsX8_pass := goodIn_r _ [23, 24, 25, 26, 27, 28, 29, 30, 31, 32, 33, 34, 35, 36, 37, 38, 39, 40, 41, 42, 43, 44, 45, 46, 47, 48, 49, 50, 51, 52, 53, 54, 55, 56, 57, 58, 59, 60, 61, 62, 63, 64, 65, 66, 67, 68, 69, 70, 71, 72] (by decide +kernel) (by decide +kernel)
set_option maxRecDepth 20000 in
theorem gX8_passAll_X8_pass : GoodIn wsX8_passAll (wsV RX8 306 RX8 yX8_pass wsX8_pass) := goodIn_app (goodIn_of _ (by decide +kernel)) ggX8_passAll_X8_pass
theorem dX8_passAll_0 : decode cX8_passAll 0 = .ok (.aload_n 0, 1) := by decide +kernel
theorem dX8_passAll_1 : decode cX8_passAll 1 = .ok (.aload_n 0, 1) := by decide +kernel
theorem dX8_passAll_2 : decode cX8_passAll 2 = .ok (.aload_n 0, 1) := by decide +kernel
theorem dX8_passAll_3 : decode cX8_passAll 3 = .ok (.getfield 80, 3) := by decide +kernel
theorem dX8_passAll_6 : decode cX8_passAll 6 = .ok (.invokevirtual 306, 3) := by decide +kernel
theorem dX8_passAll_9 : decode cX8_passAll 9 = .ok (.putfield 80, 3) := by decide +kernel
theorem dX8_passAll_12 : decode cX8_passAll 12 = .ok (.aload_n 0, 1) := by decide +kernel
theorem dX8_passAll_13 : decode cX8_passAll 13 = .ok (.aload_n 0, 1) := by decide +kernel
theorem dX8_passAll_14 : decode cX8_passAll 14 = .ok (.aload_n 0, 1) := by decide +kernel
theorem dX8_passAll_15 : decode cX8_passAll 15 = .ok (.getfield 84, 3) := by decide +kernel
theorem dX8_passAll_18 : decode cX8_passAll 18 = .ok (.invokevirtual 306, 3) := by decide +kernel
theorem dX8_passAll_21 : decode cX8_passAll 21 = .ok (.putfield 84, 3) := by decide +kernel
theorem dX8_passAll_24 : decode cX8_passAll 24 = .ok (.aload_n 0, 1) := by decide +kernel
theorem dX8_passAll_25 : decode cX8_passAll 25 = .ok (.aload_n 0, 1) := by decide +kernel
theorem dX8_passAll_26 : decode cX8_passAll 26 = .ok (.aload_n 0, 1) := by decide +kernel
theorem dX8_passAll_27 : decode cX8_passAll 27 = .ok (.getfield 87, 3) := by decide +kernel
theorem dX8_passAll_30 : decode cX8_passAll 30 = .ok (.invokevirtual 306, 3) := by decide +kernel
theorem dX8_passAll_33 : decode cX8_passAll 33 = .ok (.putfield 87, 3) := by decide +kernel
theorem dX8_passAll_36 : decode cX8_passAll 36 = .ok (.aload_n 0, 1) := by decide +kernel
theorem dX8_passAll_37 : decode cX8_passAll 37 = .ok (.aload_n 0, 1) := by decide +kernel
theorem dX8_passAll_38 : decode cX8_passAll 38 = .ok (.aload_n 0, 1) := by decide +kernel
theorem dX8_passAll_39 : decode cX8_passAll 39 = .ok (.getfield 90, 3) := by decide +kernel
theorem dX8_passAll_42 : decode cX8_passAll 42 = .ok (.invokevirtual 306, 3) := by decide +kernel
theorem dX8_passAll_45 : decode cX8_passAll 45 = .ok (.putfield 90, 3) := by decide +kernel
theorem dX8_passAll_48 : decode cX8_passAll 48 = .ok (.aload_n 0, 1) := by decide +kernel
theorem dX8_passAll_49 : decode cX8_passAll 49 = .ok (.aload_n 0, 1) := by decide +kernel
theorem dX8_passAll_50 : decode cX8_passAll 50 = .ok (.aload_n 0, 1) := by decide +kernel
theorem dX8_passAll_51 : decode cX8_passAll 51 = .ok (.getfield 93, 3) := by decide +kernel
theorem dX8_passAll_54 : decode cX8_passAll 54 = .ok (.invokevirtual 306, 3) := by decide +kernel
theorem dX8_passAll_57 : decode cX8_passAll 57 = .ok (.putfield 93, 3) := by decide +kernel
theorem dX8_passAll_60 : decode cX8_passAll 60 = .ok (.aload_n 0, 1) := by decide +kernel
theorem dX8_passAll_61 : decode cX8_passAll 61 = .ok (.aload_n 0, 1) := by decide +kernel
theorem dX8_passAll_62 : decode cX8_passAll 62 = .ok (.aload_n 0, 1) := by decide +kernel
theorem dX8_passAll_63 : decode cX8_passAll 63 = .ok (.getfield 113, 3) := by decide +kernel
theorem dX8_passAll_66 : decode cX8_passAll 66 = .ok (.invokevirtual 306, 3) := by decide +kernel
theorem dX8_passAll_69 : decode cX8_passAll 69 = .ok (.putfield 113, 3) := by decide +kernel
theorem dX8_passAll_72 : decode cX8_passAll 72 = .ok (.aload_n 0, 1) := by decide +kernel
theorem dX8_passAll_73 : decode cX8_passAll 73 = .ok (.aload_n 0, 1) := by decide +kernel
theorem dX8_passAll_74 : decode cX8_passAll 74 = .ok (.aload_n 0, 1) := by decide +kernel
theorem dX8_passAll_75 : decode cX8_passAll 75 = .ok (.getfield 106, 3) := by decide +kernel
theorem dX8_passAll_78 : decode cX8_passAll 78 = .ok (.invokevirtual 306, 3) := by decide +kernel
theorem dX8_passAll_81 : decode cX8_passAll 81 = .ok (.putfield 106, 3) := by decide +kernel
theorem dX8_passAll_84 : decode cX8_passAll 84 = .ok (.aload_n 0, 1) := by decide +kernel
theorem dX8_passAll_85 : decode cX8_passAll 85 = .ok (.aload_n 0, 1) := by decide +kernel
theorem dX8_passAll_86 : decode cX8_passAll 86 = .ok (.aload_n 0, 1) := by decide +kernel
theorem dX8_passAll_87 : decode cX8_passAll 87 = .ok (.getfield 116, 3) := by decide +kernel
theorem dX8_passAll_90 : decode cX8_passAll 90 = .ok (.invokevirtual 306, 3) := by decide +kernel
theorem dX8_passAll_93 : decode cX8_passAll 93 = .ok (.putfield 116, 3) := by decide +kernel
theorem dX8_passAll_96 : decode cX8_passAll 96 = .ok (.iconst 0, 1) := by decide +kernel
theorem dX8_passAll_97 : decode cX8_passAll 97 = .ok (.istore_n 1, 1) := by decide +kernel
theorem dX8_passAll_98 : decode cX8_passAll 98 = .ok (.iload_n 1, 1) := by decide +kernel
theorem dX8_passAll_99 : decode cX8_passAll 99 = .ok (.bipush 6, 2) := by decide +kernel
theorem dX8_passAll_101 : decode cX8_passAll 101 = .ok (.if_icmp .ge 105, 3) := by decide +kernel
theorem dX8_passAll_104 : decode cX8_passAll 104 = .ok (.aload_n 0, 1) := by decide +kernel
theorem dX8_passAll_105 : decode cX8_passAll 105 = .ok (.getfield 7, 3) := by decide +kernel
theorem dX8_passAll_108 : decode cX8_passAll 108 = .ok (.iload_n 1, 1) := by decide +kernel
theorem dX8_passAll_109 : decode cX8_passAll 109 = .ok (.aload_n 0, 1) := by decide +kernel
theorem dX8_passAll_110 : decode cX8_passAll 110 = .ok (.aload_n 0, 1) := by decide +kernel
theorem dX8_passAll_111 : decode cX8_passAll 111 = .ok (.getfield 7, 3) := by decide +kernel
theorem dX8_passAll_114 : decode cX8_passAll 114 = .ok (.iload_n 1, 1) := by decide +kernel
theorem dX8_passAll_115 : decode cX8_passAll 115 = .ok (.iaload, 1) := by decide +kernel
theorem dX8_passAll_116 : decode cX8_passAll 116 = .ok (.invokevirtual 306, 3) := by decide +kernel
theorem dX8_passAll_119 : decode cX8_passAll 119 = .ok (.iastore, 1) := by decide +kernel
theorem dX8_passAll_120 : decode cX8_passAll 120 = .ok (.aload_n 0, 1) := by decide +kernel
theorem dX8_passAll_121 : decode cX8_passAll 121 = .ok (.getfield 13, 3) := by decide +kernel
theorem dX8_passAll_124 : decode cX8_passAll 124 = .ok (.iload_n 1, 1) := by decide +kernel
theorem dX8_passAll_125 : decode cX8_passAll 125 = .ok (.aload_n 0, 1) := by decide +kernel
theorem dX8_passAll_126 : decode cX8_passAll 126 = .ok (.aload_n 0, 1) := by decide +kernel
theorem dX8_passAll_127 : decode cX8_passAll 127 = .ok (.getfield 13, 3) := by decide +kernel
theorem dX8_passAll_130 : decode cX8_passAll 130 = .ok (.iload_n 1, 1) := by decide +kernel
theorem dX8_passAll_131 : decode cX8_passAll 131 = .ok (.iaload, 1) := by decide +kernel
theorem dX8_passAll_132 : decode cX8_passAll 132 = .ok (.invokevirtual 306, 3) := by decide +kernel
theorem dX8_passAll_135 : decode cX8_passAll 135 = .ok (.iastore, 1) := by decide +kernel
theorem dX8_passAll_136 : decode cX8_passAll 136 = .ok (.aload_n 0, 1) := by decide +kernel
theorem dX8_passAll_137 : decode cX8_passAll 137 = .ok (.getfield 16, 3) := by decide +kernel
theorem dX8_passAll_140 : decode cX8_passAll 140 = .ok (.iload_n 1, 1) := by decide +kernel
theorem dX8_passAll_141 : decode cX8_passAll 141 = .ok (.aload_n 0, 1) := by decide +kernel
theorem dX8_passAll_142 : decode cX8_passAll 142 = .ok (.aload_n 0, 1) := by decide +kernel
theorem dX8_passAll_143 : decode cX8_passAll 143 = .ok (.getfield 16, 3) := by decide +kernel
theorem dX8_passAll_146 : decode cX8_passAll 146 = .ok (.iload_n 1, 1) := by decide +kernel
theorem dX8_passAll_147 : decode cX8_passAll 147 = .ok (.iaload, 1) := by decide +kernel
theorem dX8_passAll_148 : decode cX8_passAll 148 = .ok (.invokevirtual 306, 3) := by decide +kernel
theorem dX8_passAll_151 : decode cX8_passAll 151 = .ok (.iastore, 1) := by decide +kernel
theorem dX8_passAll_152 : decode cX8_passAll 152 = .ok (.aload_n 0, 1) := by decide +kernel
theorem dX8_passAll_153 : decode cX8_passAll 153 = .ok (.getfield 19, 3) := by decide +kernel
theorem dX8_passAll_156 : decode cX8_passAll 156 = .ok (.iload_n 1, 1) := by decide +kernel
theorem dX8_passAll_157 : decode cX8_passAll 157 = .ok (.aload_n 0, 1) := by decide +kernel
theorem dX8_passAll_158 : decode cX8_passAll 158 = .ok (.aload_n 0, 1) := by decide +kernel
theorem dX8_passAll_159 : decode cX8_passAll 159 = .ok (.getfield 19, 3) := by decide +kernel
theorem dX8_passAll_162 : decode cX8_passAll 162 = .ok (.iload_n 1, 1) := by decide +kernel
theorem dX8_passAll_163 : decode cX8_passAll 163 = .ok (.iaload, 1) := by decide +kernel
theorem dX8_passAll_164 : decode cX8_passAll 164 = .ok (.invokevirtual 306, 3) := by decide +kernel
theorem dX8_passAll_167 : decode cX8_passAll 167 = .ok (.iastore, 1) := by decide +kernel
theorem dX8_passAll_168 : decode cX8_passAll 168 = .ok (.aload_n 0, 1) := by decide +kernel
theorem dX8_passAll_169 : decode cX8_passAll 169 = .ok (.getfield 22, 3) := by decide +kernel
theorem dX8_passAll_172 : decode cX8_passAll 172 = .ok (.iload_n 1, 1) := by decide +kernel
theorem dX8_passAll_173 : decode cX8_passAll 173 = .ok (.aload_n 0, 1) := by decide +kernel
theorem dX8_passAll_174 : decode cX8_passAll 174 = .ok (.aload_n 0, 1) := by decide +kernel
theorem dX8_passAll_175 : decode cX8_passAll 175 = .ok (.getfield 22, 3) := by decide +kernel
theorem dX8_passAll_178 : decode cX8_passAll 178 = .ok (.iload_n 1, 1) := by decide +kernel
theorem dX8_passAll_179 : decode cX8_passAll 179 = .ok (.iaload, 1) := by decide +kernel
theorem dX8_passAll_180 : decode cX8_passAll 180 = .ok (.invokevirtual 306, 3) := by decide +kernel
theorem dX8_passAll_183 : decode cX8_passAll 183 = .ok (.iastore, 1) := by decide +kernel
theorem dX8_passAll_184 : decode cX8_passAll 184 = .ok (.aload_n 0, 1) := by decide +kernel
theorem dX8_passAll_185 : decode cX8_passAll 185 = .ok (.getfield 37, 3) := by decide +kernel
theorem dX8_passAll_188 : decode cX8_passAll 188 = .ok (.iload_n 1, 1) := by decide +kernel
theorem dX8_passAll_189 : decode cX8_passAll 189 = .ok (.aload_n 0, 1) := by decide +kernel
theorem dX8_passAll_190 : decode cX8_passAll 190 = .ok (.aload_n 0, 1) := by decide +kernel
theorem dX8_passAll_191 : decode cX8_passAll 191 = .ok (.getfield 37, 3) := by decide +kernel
theorem dX8_passAll_194 : decode cX8_passAll 194 = .ok (.iload_n 1, 1) := by decide +kernel
theorem dX8_passAll_195 : decode cX8_passAll 195 = .ok (.iaload, 1) := by decide +kernel
theorem dX8_passAll_196 : decode cX8_passAll 196 = .ok (.invokevirtual 306, 3) := by decide +kernel
theorem dX8_passAll_199 : decode cX8_passAll 199 = .ok (.iastore, 1) := by decide +kernel
theorem dX8_passAll_200 : decode cX8_passAll 200 = .ok (.iinc 1 1, 3) := by decide +kernel
theorem dX8_passAll_203 : decode cX8_passAll 203 = .ok (.goto (-105), 3) := by decide +kernel
theorem dX8_passAll_206 : decode cX8_passAll 206 = .ok (.iconst 0, 1) := by decide +kernel
theorem dX8_passAll_207 : decode cX8_passAll 207 = .ok (.istore_n 1, 1) := by decide +kernel
theorem dX8_passAll_208 : decode cX8_passAll 208 = .ok (.iload_n 1, 1) := by decide +kernel
theorem dX8_passAll_209 : decode cX8_passAll 209 = .ok (.iconst 4, 1) := by decide +kernel
theorem dX8_passAll_210 : decode cX8_passAll 210 = .ok (.if_icmp .ge 41, 3) := by decide +kernel
theorem dX8_passAll_213 : decode cX8_passAll 213 = .ok (.aload_n 0, 1) := by decide +kernel
theorem dX8_passAll_214 : decode cX8_passAll 214 = .ok (.getfield 25, 3) := by decide +kernel
theorem dX8_passAll_217 : decode cX8_passAll 217 = .ok (.iload_n 1, 1) := by decide +kernel
theorem dX8_passAll_218 : decode cX8_passAll 218 = .ok (.aload_n 0, 1) := by decide +kernel
theorem dX8_passAll_219 : decode cX8_passAll 219 = .ok (.aload_n 0, 1) := by decide +kernel
theorem dX8_passAll_220 : decode cX8_passAll 220 = .ok (.getfield 25, 3) := by decide +kernel
theorem dX8_passAll_223 : decode cX8_passAll 223 = .ok (.iload_n 1, 1) := by decide +kernel
theorem dX8_passAll_224 : decode cX8_passAll 224 = .ok (.iaload, 1) := by decide +kernel
theorem dX8_passAll_225 : decode cX8_passAll 225 = .ok (.invokevirtual 306, 3) := by decide +kernel
theorem dX8_passAll_228 : decode cX8_passAll 228 = .ok (.iastore, 1) := by decide +kernel
theorem dX8_passAll_229 : decode cX8_passAll 229 = .ok (.aload_n 0, 1) := by decide +kernel
theorem dX8_passAll_230 : decode cX8_passAll 230 = .ok (.getfield 34, 3) := by decide +kernel
theorem dX8_passAll_233 : decode cX8_passAll 233 = .ok (.iload_n 1, 1) := by decide +kernel
theorem dX8_passAll_234 : decode cX8_passAll 234 = .ok (.aload_n 0, 1) := by decide +kernel
theorem dX8_passAll_235 : decode cX8_passAll 235 = .ok (.aload_n 0, 1) := by decide +kernel
theorem dX8_passAll_236 : decode cX8_passAll 236 = .ok (.getfield 34, 3) := by decide +kernel
theorem dX8_passAll_239 : decode cX8_passAll 239 = .ok (.iload_n 1, 1) := by decide +kernel
theorem dX8_passAll_240 : decode cX8_passAll 240 = .ok (.iaload, 1) := by decide +kernel
theorem dX8_passAll_241 : decode cX8_passAll 241 = .ok (.invokevirtual 306, 3) := by decide +kernel
theorem dX8_passAll_244 : decode cX8_passAll 244 = .ok (.iastore, 1) := by decide +kernel
theorem dX8_passAll_245 : decode cX8_passAll 245 = .ok (.iinc 1 1, 3) := by decide +kernel
theorem dX8_passAll_248 : decode cX8_passAll 248 = .ok (.goto (-40), 3) := by decide +kernel
theorem dX8_passAll_251 : decode cX8_passAll 251 = .ok (.iconst 0, 1) := by decide +kernel
theorem dX8_passAll_252 : decode cX8_passAll 252 = .ok (.istore_n 1, 1) := by decide +kernel
theorem dX8_passAll_253 : decode cX8_passAll 253 = .ok (.iload_n 1, 1) := by decide +kernel
theorem dX8_passAll_254 : decode cX8_passAll 254 = .ok (.bipush 24, 2) := by decide +kernel
theorem dX8_passAll_256 : decode cX8_passAll 256 = .ok (.if_icmp .ge 41, 3) := by decide +kernel
theorem dX8_passAll_259 : decode cX8_passAll 259 = .ok (.aload_n 0, 1) := by decide +kernel
theorem dX8_passAll_260 : decode cX8_passAll 260 = .ok (.getfield 28, 3) := by decide +kernel
theorem dX8_passAll_263 : decode cX8_passAll 263 = .ok (.iload_n 1, 1) := by decide +kernel
theorem dX8_passAll_264 : decode cX8_passAll 264 = .ok (.aload_n 0, 1) := by decide +kernel
theorem dX8_passAll_265 : decode cX8_passAll 265 = .ok (.aload_n 0, 1) := by decide +kernel
theorem dX8_passAll_266 : decode cX8_passAll 266 = .ok (.getfield 28, 3) := by decide +kernel
theorem dX8_passAll_269 : decode cX8_passAll 269 = .ok (.iload_n 1, 1) := by decide +kernel
theorem dX8_passAll_270 : decode cX8_passAll 270 = .ok (.iaload, 1) := by decide +kernel
theorem dX8_passAll_271 : decode cX8_passAll 271 = .ok (.invokevirtual 306, 3) := by decide +kernel
theorem dX8_passAll_274 : decode cX8_passAll 274 = .ok (.iastore, 1) := by decide +kernel
theorem dX8_passAll_275 : decode cX8_passAll 275 = .ok (.aload_n 0, 1) := by decide +kernel
theorem dX8_passAll_276 : decode cX8_passAll 276 = .ok (.getfield 31, 3) := by decide +kernel
theorem dX8_passAll_279 : decode cX8_passAll 279 = .ok (.iload_n 1, 1) := by decide +kernel
theorem dX8_passAll_280 : decode cX8_passAll 280 = .ok (.aload_n 0, 1) := by decide +kernel
theorem dX8_passAll_281 : decode cX8_passAll 281 = .ok (.aload_n 0, 1) := by decide +kernel
theorem dX8_passAll_282 : decode cX8_passAll 282 = .ok (.getfield 31, 3) := by decide +kernel
theorem dX8_passAll_285 : decode cX8_passAll 285 = .ok (.iload_n 1, 1) := by decide +kernel
theorem dX8_passAll_286 : decode cX8_passAll 286 = .ok (.iaload, 1) := by decide +kernel
theorem dX8_passAll_287 : decode cX8_passAll 287 = .ok (.invokevirtual 306, 3) := by decide +kernel
theorem dX8_passAll_290 : decode cX8_passAll 290 = .ok (.iastore, 1) := by decide +kernel
theorem dX8_passAll_291 : decode cX8_passAll 291 = .ok (.iinc 1 1, 3) := by decide +kernel
theorem dX8_passAll_294 : decode cX8_passAll 294 = .ok (.goto (-41), 3) := by decide +kernel
theorem dX8_passAll_297 : decode cX8_passAll 297 = .ok (.return_, 1) := by decide +kernel
set_option maxRecDepth 20000 in
theorem ggX8_image_X8_in : GoodIn wsX8_image wsX8_in := goodIn_r _ [7] (by decide +kernel) (by decide +kernel)
set_option maxRecDepth 20000 in
theorem gX8_image_X8_in : GoodIn wsX8_image (va_wsS RX8 96 yX8_in wsX8_in) := goodIn_app (goodIn_of _ (by decide +kernel)) ggX8_image_X8_in
set_option maxRecDepth 20000 in
theorem ggX8_image_X8_passAll : GoodIn wsX8_image wsX8_passAll := goodIn_r _ [11, 12, 13, 14, 15, 16, 17, 18, 19, 20, 21, 22, 23, 24, 25, 26, 27, 28, 29, 30, 31, 32, 6, 33, 2, 34, 1, 35, 36, 37, 38, 39, 40, 41, 42, 43, 44, 45, 46, 47, 48, 49, 50, 51, 52, 53, 54, 55, 56, 57, 58, 59, 60, 61, 62, 63, 64, 65, 66, 67, 68, 69, 70, 71, 72, 73, 74, 75, 76, 77, 78, 79, 80] (by decide +kernel) (by decide +kernel)
set_option maxRecDepth 20000 in
theorem gX8_image_X8_passAll : GoodIn wsX8_image (wsV RX8 309 RX8 yX8_passAll wsX8_passAll) := goodIn_app (goodIn_of _ (by decide +kernel)) ggX8_image_X8_passAll
theorem dX8_image_0 : decode cX8_image 0 = .ok (.iload_n 1, 1) := by decide +kernel
theorem dX8_image_1 : decode cX8_image 1 = .ok (.i2l, 1) := by decide +kernel
theorem dX8_image_2 : decode cX8_image 2 = .ok (.lconst 0, 1) := by decide +kernel
theorem dX8_image_3 : decode cX8_image 3 = .ok (.lconst 1, 1) := by decide +kernel
theorem dX8_image_4 : decode cX8_image 4 = .ok (.invokestatic 96, 3) := by decide +kernel
theorem dX8_image_7 : decode cX8_image 7 = .ok (.ifCond .ne 6, 3) := by decide +kernel
theorem dX8_image_10 : decode cX8_image 10 = .ok (.bipush (-2), 2) := by decide +kernel
theorem dX8_image_12 : decode cX8_image 12 = .ok (.ireturn, 1) := by decide +kernel
theorem dX8_image_13 : decode cX8_image 13 = .ok (.aload_n 0, 1) := by decide +kernel
theorem dX8_image_14 : decode cX8_image 14 = .ok (.bipush 120, 2) := by decide +kernel
theorem dX8_image_16 : decode cX8_image 16 = .ok (.iload_n 1, 1) := by decide +kernel
theorem dX8_image_17 : decode cX8_image 17 = .ok (.imul, 1) := by decide +kernel
theorem dX8_image_18 : decode cX8_image 18 = .ok (.putfield 303, 3) := by decide +kernel
theorem dX8_image_21 : decode cX8_image 21 = .ok (.aload_n 0, 1) := by decide +kernel
theorem dX8_image_22 : decode cX8_image 22 = .ok (.iconst 1, 1) := by decide +kernel
theorem dX8_image_23 : decode cX8_image 23 = .ok (.putfield 299, 3) := by decide +kernel
theorem dX8_image_26 : decode cX8_image 26 = .ok (.aload_n 0, 1) := by decide +kernel
theorem dX8_image_27 : decode cX8_image 27 = .ok (.invokevirtual 309, 3) := by decide +kernel
theorem dX8_image_30 : decode cX8_image 30 = .ok (.aload_n 0, 1) := by decide +kernel
theorem dX8_image_31 : decode cX8_image 31 = .ok (.getfield 76, 3) := by decide +kernel
theorem dX8_image_34 : decode cX8_image 34 = .ok (.iload_n 1, 1) := by decide +kernel
theorem dX8_image_35 : decode cX8_image 35 = .ok (.iconst 1, 1) := by decide +kernel
theorem dX8_image_36 : decode cX8_image 36 = .ok (.bastore, 1) := by decide +kernel
theorem dX8_image_37 : decode cX8_image 37 = .ok (.iconst 1, 1) := by decide +kernel
theorem dX8_image_38 : decode cX8_image 38 = .ok (.ireturn, 1) := by decide +kernel
set_option maxRecDepth 20000 in
theorem ggX8_restore_X8_in : GoodIn wsX8_restore wsX8_in := goodIn_r _ [7] (by decide +kernel) (by decide +kernel)
set_option maxRecDepth 20000 in
theorem gX8_restore_X8_in : GoodIn wsX8_restore (va_wsS RX8 96 yX8_in wsX8_in) := goodIn_app (goodIn_of _ (by decide +kernel)) ggX8_restore_X8_in
set_option maxRecDepth 20000 in
theorem ggX8_restore_X8_passAll : GoodIn wsX8_restore wsX8_passAll := goodIn_r _ [11, 12, 13, 14, 15, 16, 17, 18, 19, 20, 21, 22, 23, 24, 25, 26, 27, 28, 29, 30, 31, 32, 6, 33, 3, 34, 2, 35, 36, 37, 38, 39, 40, 41, 42, 43, 44, 45, 46, 47, 48, 49, 50, 51, 52, 53, 54, 55, 56, 57, 58, 59, 60, 61, 62, 63, 64, 65, 66, 67, 68, 69, 70, 71, 72, 73, 74, 75, 76, 77, 78, 79, 80] (by decide +kernel) (by decide +kernel)
set_option maxRecDepth 20000 in
theorem gX8_restore_X8_passAll : GoodIn wsX8_restore (wsV RX8 309 RX8 yX8_passAll wsX8_passAll) := goodIn_app (goodIn_of _ (by decide +kernel)) ggX8_restore_X8_passAll
theorem dX8_restore_0 : decode cX8_restore 0 = .ok (.iload_n 1, 1) := by decide +kernel
theorem dX8_restore_1 : decode cX8_restore 1 = .ok (.i2l, 1) := by decide +kernel
theorem dX8_restore_2 : decode cX8_restore 2 = .ok (.lconst 0, 1) := by decide +kernel
theorem dX8_restore_3 : decode cX8_restore 3 = .ok (.lconst 1, 1) := by decide +kernel
theorem dX8_restore_4 : decode cX8_restore 4 = .ok (.invokestatic 96, 3) := by decide +kernel
theorem dX8_restore_7 : decode cX8_restore 7 = .ok (.ifCond .ne 6, 3) := by decide +kernel
theorem dX8_restore_10 : decode cX8_restore 10 = .ok (.bipush (-2), 2) := by decide +kernel
theorem dX8_restore_12 : decode cX8_restore 12 = .ok (.ireturn, 1) := by decide +kernel
theorem dX8_restore_13 : decode cX8_restore 13 = .ok (.aload_n 0, 1) := by decide +kernel
theorem dX8_restore_14 : decode cX8_restore 14 = .ok (.getfield 76, 3) := by decide +kernel
theorem dX8_restore_17 : decode cX8_restore 17 = .ok (.iload_n 1, 1) := by decide +kernel
theorem dX8_restore_18 : decode cX8_restore 18 = .ok (.baload, 1) := by decide +kernel
theorem dX8_restore_19 : decode cX8_restore 19 = .ok (.ifCond .ne 6, 3) := by decide +kernel
theorem dX8_restore_22 : decode cX8_restore 22 = .ok (.bipush (-3), 2) := by decide +kernel
theorem dX8_restore_24 : decode cX8_restore 24 = .ok (.ireturn, 1) := by decide +kernel
theorem dX8_restore_25 : decode cX8_restore 25 = .ok (.aload_n 0, 1) := by decide +kernel
theorem dX8_restore_26 : decode cX8_restore 26 = .ok (.bipush 120, 2) := by decide +kernel
theorem dX8_restore_28 : decode cX8_restore 28 = .ok (.iload_n 1, 1) := by decide +kernel
theorem dX8_restore_29 : decode cX8_restore 29 = .ok (.imul, 1) := by decide +kernel
theorem dX8_restore_30 : decode cX8_restore 30 = .ok (.putfield 303, 3) := by decide +kernel
theorem dX8_restore_33 : decode cX8_restore 33 = .ok (.aload_n 0, 1) := by decide +kernel
theorem dX8_restore_34 : decode cX8_restore 34 = .ok (.iconst 0, 1) := by decide +kernel
theorem dX8_restore_35 : decode cX8_restore 35 = .ok (.putfield 299, 3) := by decide +kernel
theorem dX8_restore_38 : decode cX8_restore 38 = .ok (.aload_n 0, 1) := by decide +kernel
theorem dX8_restore_39 : decode cX8_restore 39 = .ok (.invokevirtual 309, 3) := by decide +kernel
theorem dX8_restore_42 : decode cX8_restore 42 = .ok (.iconst 1, 1) := by decide +kernel
theorem dX8_restore_43 : decode cX8_restore 43 = .ok (.ireturn, 1) := by decide +kernel
set_option maxRecDepth 20000 in
theorem ggX8_toldOfSort_X8_isSort : GoodIn wsX8_toldOfSort wsX8_isSort := goodIn_r _ [9, 10, 11, 12, 8, 13, 14, 15, 16, 17, 18, 19, 20, 21, 22, 23, 24, 25, 26, 27, 28, 29, 30, 31, 32, 33, 34, 35, 36, 37, 38, 39, 40, 41, 42, 43, 44, 45, 46, 47, 48, 49, 50, 51, 52, 53, 54, 55, 56, 57, 58, 59, 60, 61, 62, 63] (by decide +kernel) (by decide +kernel)
set_option maxRecDepth 20000 in
theorem gX8_toldOfSort_X8_isSort : GoodIn wsX8_toldOfSort (wsV RX8 154 RX8 yX8_isSort wsX8_isSort) := goodIn_app (goodIn_of _ (by decide +kernel)) ggX8_toldOfSort_X8_isSort
theorem dX8_toldOfSort_0 : decode cX8_toldOfSort 0 = .ok (.aload_n 0, 1) := by decide +kernel
theorem dX8_toldOfSort_1 : decode cX8_toldOfSort 1 = .ok (.iload_n 1, 1) := by decide +kernel
theorem dX8_toldOfSort_2 : decode cX8_toldOfSort 2 = .ok (.invokevirtual 154, 3) := by decide +kernel
theorem dX8_toldOfSort_5 : decode cX8_toldOfSort 5 = .ok (.ifCond .ne 6, 3) := by decide +kernel
theorem dX8_toldOfSort_8 : decode cX8_toldOfSort 8 = .ok (.bipush (-2), 2) := by decide +kernel
theorem dX8_toldOfSort_10 : decode cX8_toldOfSort 10 = .ok (.ireturn, 1) := by decide +kernel
theorem dX8_toldOfSort_11 : decode cX8_toldOfSort 11 = .ok (.iload_n 2, 1) := by decide +kernel
theorem dX8_toldOfSort_12 : decode cX8_toldOfSort 12 = .ok (.ifCond .ne 12, 3) := by decide +kernel
theorem dX8_toldOfSort_15 : decode cX8_toldOfSort 15 = .ok (.aload_n 0, 1) := by decide +kernel
theorem dX8_toldOfSort_16 : decode cX8_toldOfSort 16 = .ok (.getfield 13, 3) := by decide +kernel
theorem dX8_toldOfSort_19 : decode cX8_toldOfSort 19 = .ok (.iload_n 1, 1) := by decide +kernel
theorem dX8_toldOfSort_20 : decode cX8_toldOfSort 20 = .ok (.iaload, 1) := by decide +kernel
theorem dX8_toldOfSort_21 : decode cX8_toldOfSort 21 = .ok (.goto 47, 3) := by decide +kernel
theorem dX8_toldOfSort_24 : decode cX8_toldOfSort 24 = .ok (.iload_n 2, 1) := by decide +kernel
theorem dX8_toldOfSort_25 : decode cX8_toldOfSort 25 = .ok (.iconst 1, 1) := by decide +kernel
theorem dX8_toldOfSort_26 : decode cX8_toldOfSort 26 = .ok (.if_icmp .ne 12, 3) := by decide +kernel
theorem dX8_toldOfSort_29 : decode cX8_toldOfSort 29 = .ok (.aload_n 0, 1) := by decide +kernel
theorem dX8_toldOfSort_30 : decode cX8_toldOfSort 30 = .ok (.getfield 16, 3) := by decide +kernel
theorem dX8_toldOfSort_33 : decode cX8_toldOfSort 33 = .ok (.iload_n 1, 1) := by decide +kernel
theorem dX8_toldOfSort_34 : decode cX8_toldOfSort 34 = .ok (.iaload, 1) := by decide +kernel
theorem dX8_toldOfSort_35 : decode cX8_toldOfSort 35 = .ok (.goto 33, 3) := by decide +kernel
theorem dX8_toldOfSort_38 : decode cX8_toldOfSort 38 = .ok (.iload_n 2, 1) := by decide +kernel
theorem dX8_toldOfSort_39 : decode cX8_toldOfSort 39 = .ok (.iconst 2, 1) := by decide +kernel
theorem dX8_toldOfSort_40 : decode cX8_toldOfSort 40 = .ok (.if_icmp .ne 12, 3) := by decide +kernel
theorem dX8_toldOfSort_43 : decode cX8_toldOfSort 43 = .ok (.aload_n 0, 1) := by decide +kernel
theorem dX8_toldOfSort_44 : decode cX8_toldOfSort 44 = .ok (.getfield 19, 3) := by decide +kernel
theorem dX8_toldOfSort_47 : decode cX8_toldOfSort 47 = .ok (.iload_n 1, 1) := by decide +kernel
theorem dX8_toldOfSort_48 : decode cX8_toldOfSort 48 = .ok (.iaload, 1) := by decide +kernel
theorem dX8_toldOfSort_49 : decode cX8_toldOfSort 49 = .ok (.goto 19, 3) := by decide +kernel
theorem dX8_toldOfSort_52 : decode cX8_toldOfSort 52 = .ok (.iload_n 2, 1) := by decide +kernel
theorem dX8_toldOfSort_53 : decode cX8_toldOfSort 53 = .ok (.iconst 3, 1) := by decide +kernel
theorem dX8_toldOfSort_54 : decode cX8_toldOfSort 54 = .ok (.if_icmp .ne 12, 3) := by decide +kernel
theorem dX8_toldOfSort_57 : decode cX8_toldOfSort 57 = .ok (.aload_n 0, 1) := by decide +kernel
theorem dX8_toldOfSort_58 : decode cX8_toldOfSort 58 = .ok (.getfield 22, 3) := by decide +kernel
theorem dX8_toldOfSort_61 : decode cX8_toldOfSort 61 = .ok (.iload_n 1, 1) := by decide +kernel
theorem dX8_toldOfSort_62 : decode cX8_toldOfSort 62 = .ok (.iaload, 1) := by decide +kernel
theorem dX8_toldOfSort_63 : decode cX8_toldOfSort 63 = .ok (.goto 5, 3) := by decide +kernel
theorem dX8_toldOfSort_66 : decode cX8_toldOfSort 66 = .ok (.bipush (-2), 2) := by decide +kernel
theorem dX8_toldOfSort_68 : decode cX8_toldOfSort 68 = .ok (.ireturn, 1) := by decide +kernel
theorem dX8_toldNow_0 : decode cX8_toldNow 0 = .ok (.iload_n 1, 1) := by decide +kernel
theorem dX8_toldNow_1 : decode cX8_toldNow 1 = .ok (.ifCond .ne 10, 3) := by decide +kernel
theorem dX8_toldNow_4 : decode cX8_toldNow 4 = .ok (.aload_n 0, 1) := by decide +kernel
theorem dX8_toldNow_5 : decode cX8_toldNow 5 = .ok (.getfield 138, 3) := by decide +kernel
theorem dX8_toldNow_8 : decode cX8_toldNow 8 = .ok (.goto 104, 3) := by decide +kernel
theorem dX8_toldNow_11 : decode cX8_toldNow 11 = .ok (.iload_n 1, 1) := by decide +kernel
theorem dX8_toldNow_12 : decode cX8_toldNow 12 = .ok (.iconst 1, 1) := by decide +kernel
theorem dX8_toldNow_13 : decode cX8_toldNow 13 = .ok (.if_icmp .ne 10, 3) := by decide +kernel
theorem dX8_toldNow_16 : decode cX8_toldNow 16 = .ok (.aload_n 0, 1) := by decide +kernel
theorem dX8_toldNow_17 : decode cX8_toldNow 17 = .ok (.getfield 80, 3) := by decide +kernel
theorem dX8_toldNow_20 : decode cX8_toldNow 20 = .ok (.goto 92, 3) := by decide +kernel
theorem dX8_toldNow_23 : decode cX8_toldNow 23 = .ok (.iload_n 1, 1) := by decide +kernel
theorem dX8_toldNow_24 : decode cX8_toldNow 24 = .ok (.iconst 2, 1) := by decide +kernel
theorem dX8_toldNow_25 : decode cX8_toldNow 25 = .ok (.if_icmp .ne 10, 3) := by decide +kernel
theorem dX8_toldNow_28 : decode cX8_toldNow 28 = .ok (.aload_n 0, 1) := by decide +kernel
theorem dX8_toldNow_29 : decode cX8_toldNow 29 = .ok (.getfield 84, 3) := by decide +kernel
theorem dX8_toldNow_32 : decode cX8_toldNow 32 = .ok (.goto 80, 3) := by decide +kernel
theorem dX8_toldNow_35 : decode cX8_toldNow 35 = .ok (.iload_n 1, 1) := by decide +kernel
theorem dX8_toldNow_36 : decode cX8_toldNow 36 = .ok (.iconst 3, 1) := by decide +kernel
theorem dX8_toldNow_37 : decode cX8_toldNow 37 = .ok (.if_icmp .ne 10, 3) := by decide +kernel
theorem dX8_toldNow_40 : decode cX8_toldNow 40 = .ok (.aload_n 0, 1) := by decide +kernel
theorem dX8_toldNow_41 : decode cX8_toldNow 41 = .ok (.getfield 87, 3) := by decide +kernel
theorem dX8_toldNow_44 : decode cX8_toldNow 44 = .ok (.goto 68, 3) := by decide +kernel
theorem dX8_toldNow_47 : decode cX8_toldNow 47 = .ok (.iload_n 1, 1) := by decide +kernel
theorem dX8_toldNow_48 : decode cX8_toldNow 48 = .ok (.iconst 4, 1) := by decide +kernel
theorem dX8_toldNow_49 : decode cX8_toldNow 49 = .ok (.if_icmp .ne 10, 3) := by decide +kernel
theorem dX8_toldNow_52 : decode cX8_toldNow 52 = .ok (.aload_n 0, 1) := by decide +kernel
theorem dX8_toldNow_53 : decode cX8_toldNow 53 = .ok (.getfield 90, 3) := by decide +kernel
theorem dX8_toldNow_56 : decode cX8_toldNow 56 = .ok (.goto 56, 3) := by decide +kernel
theorem dX8_toldNow_59 : decode cX8_toldNow 59 = .ok (.iload_n 1, 1) := by decide +kernel
theorem dX8_toldNow_60 : decode cX8_toldNow 60 = .ok (.iconst 5, 1) := by decide +kernel
theorem dX8_toldNow_61 : decode cX8_toldNow 61 = .ok (.if_icmp .ne 10, 3) := by decide +kernel
theorem dX8_toldNow_64 : decode cX8_toldNow 64 = .ok (.aload_n 0, 1) := by decide +kernel
theorem dX8_toldNow_65 : decode cX8_toldNow 65 = .ok (.getfield 93, 3) := by decide +kernel
theorem dX8_toldNow_68 : decode cX8_toldNow 68 = .ok (.goto 44, 3) := by decide +kernel
theorem dX8_toldNow_71 : decode cX8_toldNow 71 = .ok (.iload_n 1, 1) := by decide +kernel
theorem dX8_toldNow_72 : decode cX8_toldNow 72 = .ok (.bipush 6, 2) := by decide +kernel
theorem dX8_toldNow_74 : decode cX8_toldNow 74 = .ok (.if_icmp .ne 10, 3) := by decide +kernel
theorem dX8_toldNow_77 : decode cX8_toldNow 77 = .ok (.aload_n 0, 1) := by decide +kernel
theorem dX8_toldNow_78 : decode cX8_toldNow 78 = .ok (.getfield 106, 3) := by decide +kernel
theorem dX8_toldNow_81 : decode cX8_toldNow 81 = .ok (.goto 31, 3) := by decide +kernel
theorem dX8_toldNow_84 : decode cX8_toldNow 84 = .ok (.iload_n 1, 1) := by decide +kernel
theorem dX8_toldNow_85 : decode cX8_toldNow 85 = .ok (.bipush 7, 2) := by decide +kernel
theorem dX8_toldNow_87 : decode cX8_toldNow 87 = .ok (.if_icmp .ne 10, 3) := by decide +kernel
theorem dX8_toldNow_90 : decode cX8_toldNow 90 = .ok (.aload_n 0, 1) := by decide +kernel
theorem dX8_toldNow_91 : decode cX8_toldNow 91 = .ok (.getfield 116, 3) := by decide +kernel
theorem dX8_toldNow_94 : decode cX8_toldNow 94 = .ok (.goto 18, 3) := by decide +kernel
theorem dX8_toldNow_97 : decode cX8_toldNow 97 = .ok (.iload_n 1, 1) := by decide +kernel
theorem dX8_toldNow_98 : decode cX8_toldNow 98 = .ok (.bipush 8, 2) := by decide +kernel
theorem dX8_toldNow_100 : decode cX8_toldNow 100 = .ok (.if_icmp .ne 10, 3) := by decide +kernel
theorem dX8_toldNow_103 : decode cX8_toldNow 103 = .ok (.aload_n 0, 1) := by decide +kernel
theorem dX8_toldNow_104 : decode cX8_toldNow 104 = .ok (.getfield 113, 3) := by decide +kernel
theorem dX8_toldNow_107 : decode cX8_toldNow 107 = .ok (.goto 5, 3) := by decide +kernel
theorem dX8_toldNow_110 : decode cX8_toldNow 110 = .ok (.bipush (-2), 2) := by decide +kernel
theorem dX8_toldNow_112 : decode cX8_toldNow 112 = .ok (.ireturn, 1) := by decide +kernel
set_option maxRecDepth 20000 in
theorem ggX8_told_X8_in : GoodIn wsX8_told wsX8_in := goodIn_r _ [10] (by decide +kernel) (by decide +kernel)
set_option maxRecDepth 20000 in
theorem gX8_told_X8_in : GoodIn wsX8_told (va_wsS RX8 96 yX8_in wsX8_in) := goodIn_app (goodIn_of _ (by decide +kernel)) ggX8_told_X8_in
set_option maxRecDepth 20000 in
theorem ggX8_told_X8_toldOfSort : GoodIn wsX8_told wsX8_toldOfSort := goodIn_r _ [14, 15, 16, 17, 18, 19, 20, 21, 9, 22, 23, 24, 25, 26, 27, 7, 8, 10, 39, 40, 41, 42, 43, 44, 45, 46, 47, 48, 49, 50, 51, 52, 53, 54, 55, 56, 57, 58, 59, 60, 61, 62, 63, 64, 65, 66, 67, 68, 69, 70, 71, 72, 73, 74, 75, 76, 77, 78, 79, 80, 81, 82, 83, 84] (by decide +kernel) (by decide +kernel)
set_option maxRecDepth 20000 in
theorem gX8_told_X8_toldOfSort : GoodIn wsX8_told (wsV RX8 316 RX8 yX8_toldOfSort wsX8_toldOfSort) := goodIn_app (goodIn_of _ (by decide +kernel)) ggX8_told_X8_toldOfSort
set_option maxRecDepth 20000 in
theorem ggX8_told_X8_toldNow : GoodIn wsX8_told wsX8_toldNow := goodIn_r _ [31, 32, 33, 5, 34, 35, 36, 23, 37, 38, 39, 40, 41, 42, 43, 44, 45, 46, 47, 48, 49, 50, 51, 52, 53, 54, 55, 56, 57, 58, 59, 60, 61, 62, 63, 64, 65, 66, 67, 68, 69, 70, 71, 72, 73, 74, 75, 76, 77, 78, 79, 80, 81, 82, 83, 84] (by decide +kernel) (by decide +kernel)
set_option maxRecDepth 20000 in
theorem gX8_told_X8_toldNow : GoodIn wsX8_told (wsV RX8 319 RX8 yX8_toldNow wsX8_toldNow) := goodIn_app (goodIn_of _ (by decide +kernel)) ggX8_told_X8_toldNow
theorem dX8_told_0 : decode cX8_told 0 = .ok (.iload_n 1, 1) := by decide +kernel
theorem dX8_told_1 : decode cX8_told 1 = .ok (.i2l, 1) := by decide +kernel
theorem dX8_told_2 : decode cX8_told 2 = .ok (.ldc2_w 312, 3) := by decide +kernel
theorem dX8_told_5 : decode cX8_told 5 = .ok (.ldc2_w 314, 3) := by decide +kernel
theorem dX8_told_8 : decode cX8_told 8 = .ok (.invokestatic 96, 3) := by decide +kernel
theorem dX8_told_11 : decode cX8_told 11 = .ok (.ifCond .eq 18, 3) := by decide +kernel
theorem dX8_told_14 : decode cX8_told 14 = .ok (.aload_n 0, 1) := by decide +kernel
theorem dX8_told_15 : decode cX8_told 15 = .ok (.iload_n 1, 1) := by decide +kernel
theorem dX8_told_16 : decode cX8_told 16 = .ok (.bipush 10, 2) := by decide +kernel
theorem dX8_told_18 : decode cX8_told 18 = .ok (.idiv, 1) := by decide +kernel
theorem dX8_told_19 : decode cX8_told 19 = .ok (.iconst 2, 1) := by decide +kernel
theorem dX8_told_20 : decode cX8_told 20 = .ok (.isub, 1) := by decide +kernel
theorem dX8_told_21 : decode cX8_told 21 = .ok (.iload_n 1, 1) := by decide +kernel
theorem dX8_told_22 : decode cX8_told 22 = .ok (.bipush 10, 2) := by decide +kernel
theorem dX8_told_24 : decode cX8_told 24 = .ok (.irem, 1) := by decide +kernel
theorem dX8_told_25 : decode cX8_told 25 = .ok (.invokevirtual 316, 3) := by decide +kernel
theorem dX8_told_28 : decode cX8_told 28 = .ok (.ireturn, 1) := by decide +kernel
theorem dX8_told_29 : decode cX8_told 29 = .ok (.iload_n 1, 1) := by decide +kernel
theorem dX8_told_30 : decode cX8_told 30 = .ok (.i2l, 1) := by decide +kernel
theorem dX8_told_31 : decode cX8_told 31 = .ok (.ldc2_w 280, 3) := by decide +kernel
theorem dX8_told_34 : decode cX8_told 34 = .ok (.ldc2_w 123, 3) := by decide +kernel
theorem dX8_told_37 : decode cX8_told 37 = .ok (.aload_n 0, 1) := by decide +kernel
theorem dX8_told_38 : decode cX8_told 38 = .ok (.getfield 84, 3) := by decide +kernel
theorem dX8_told_41 : decode cX8_told 41 = .ok (.i2l, 1) := by decide +kernel
theorem dX8_told_42 : decode cX8_told 42 = .ok (.ladd, 1) := by decide +kernel
theorem dX8_told_43 : decode cX8_told 43 = .ok (.invokestatic 96, 3) := by decide +kernel
theorem dX8_told_46 : decode cX8_told 46 = .ok (.ifCond .eq 15, 3) := by decide +kernel
theorem dX8_told_49 : decode cX8_told 49 = .ok (.aload_n 0, 1) := by decide +kernel
theorem dX8_told_50 : decode cX8_told 50 = .ok (.getfield 7, 3) := by decide +kernel
theorem dX8_told_53 : decode cX8_told 53 = .ok (.iload_n 1, 1) := by decide +kernel
theorem dX8_told_54 : decode cX8_told 54 = .ok (.bipush 10, 2) := by decide +kernel
theorem dX8_told_56 : decode cX8_told 56 = .ok (.isub, 1) := by decide +kernel
theorem dX8_told_57 : decode cX8_told 57 = .ok (.iaload, 1) := by decide +kernel
theorem dX8_told_58 : decode cX8_told 58 = .ok (.goto 8, 3) := by decide +kernel
theorem dX8_told_61 : decode cX8_told 61 = .ok (.aload_n 0, 1) := by decide +kernel
theorem dX8_told_62 : decode cX8_told 62 = .ok (.iload_n 1, 1) := by decide +kernel
theorem dX8_told_63 : decode cX8_told 63 = .ok (.invokevirtual 319, 3) := by decide +kernel
theorem dX8_told_66 : decode cX8_told 66 = .ok (.ireturn, 1) := by decide +kernel
