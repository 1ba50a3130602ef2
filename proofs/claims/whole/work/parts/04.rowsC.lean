theorem dX8_init_0 : decode cX8_init 0 = .ok (.aload_n 0, 1) := by decide +kernel
theorem dX8_init_1 : decode cX8_init 1 = .ok (.invokespecial 1, 3) := by decide +kernel
theorem dX8_init_4 : decode cX8_init 4 = .ok (.aload_n 0, 1) := by decide +kernel
theorem dX8_init_5 : decode cX8_init 5 = .ok (.bipush 6, 2) := by decide +kernel
theorem dX8_init_7 : decode cX8_init 7 = .ok (.newarray .int, 2) := by decide +kernel
theorem dX8_init_9 : decode cX8_init 9 = .ok (.putfield 7, 3) := by decide +kernel
theorem dX8_init_12 : decode cX8_init 12 = .ok (.aload_n 0, 1) := by decide +kernel
theorem dX8_init_13 : decode cX8_init 13 = .ok (.bipush 6, 2) := by decide +kernel
theorem dX8_init_15 : decode cX8_init 15 = .ok (.newarray .int, 2) := by decide +kernel
theorem dX8_init_17 : decode cX8_init 17 = .ok (.putfield 13, 3) := by decide +kernel
theorem dX8_init_20 : decode cX8_init 20 = .ok (.aload_n 0, 1) := by decide +kernel
theorem dX8_init_21 : decode cX8_init 21 = .ok (.bipush 6, 2) := by decide +kernel
theorem dX8_init_23 : decode cX8_init 23 = .ok (.newarray .int, 2) := by decide +kernel
theorem dX8_init_25 : decode cX8_init 25 = .ok (.putfield 16, 3) := by decide +kernel
theorem dX8_init_28 : decode cX8_init 28 = .ok (.aload_n 0, 1) := by decide +kernel
theorem dX8_init_29 : decode cX8_init 29 = .ok (.bipush 6, 2) := by decide +kernel
theorem dX8_init_31 : decode cX8_init 31 = .ok (.newarray .int, 2) := by decide +kernel
theorem dX8_init_33 : decode cX8_init 33 = .ok (.putfield 19, 3) := by decide +kernel
theorem dX8_init_36 : decode cX8_init 36 = .ok (.aload_n 0, 1) := by decide +kernel
theorem dX8_init_37 : decode cX8_init 37 = .ok (.bipush 6, 2) := by decide +kernel
theorem dX8_init_39 : decode cX8_init 39 = .ok (.newarray .int, 2) := by decide +kernel
theorem dX8_init_41 : decode cX8_init 41 = .ok (.putfield 22, 3) := by decide +kernel
theorem dX8_init_44 : decode cX8_init 44 = .ok (.aload_n 0, 1) := by decide +kernel
theorem dX8_init_45 : decode cX8_init 45 = .ok (.iconst 4, 1) := by decide +kernel
theorem dX8_init_46 : decode cX8_init 46 = .ok (.newarray .int, 2) := by decide +kernel
theorem dX8_init_48 : decode cX8_init 48 = .ok (.putfield 25, 3) := by decide +kernel
theorem dX8_init_51 : decode cX8_init 51 = .ok (.aload_n 0, 1) := by decide +kernel
theorem dX8_init_52 : decode cX8_init 52 = .ok (.bipush 24, 2) := by decide +kernel
theorem dX8_init_54 : decode cX8_init 54 = .ok (.newarray .int, 2) := by decide +kernel
theorem dX8_init_56 : decode cX8_init 56 = .ok (.putfield 28, 3) := by decide +kernel
theorem dX8_init_59 : decode cX8_init 59 = .ok (.aload_n 0, 1) := by decide +kernel
theorem dX8_init_60 : decode cX8_init 60 = .ok (.bipush 24, 2) := by decide +kernel
theorem dX8_init_62 : decode cX8_init 62 = .ok (.newarray .int, 2) := by decide +kernel
theorem dX8_init_64 : decode cX8_init 64 = .ok (.putfield 31, 3) := by decide +kernel
theorem dX8_init_67 : decode cX8_init 67 = .ok (.aload_n 0, 1) := by decide +kernel
theorem dX8_init_68 : decode cX8_init 68 = .ok (.iconst 4, 1) := by decide +kernel
theorem dX8_init_69 : decode cX8_init 69 = .ok (.newarray .int, 2) := by decide +kernel
theorem dX8_init_71 : decode cX8_init 71 = .ok (.putfield 34, 3) := by decide +kernel
theorem dX8_init_74 : decode cX8_init 74 = .ok (.aload_n 0, 1) := by decide +kernel
theorem dX8_init_75 : decode cX8_init 75 = .ok (.bipush 6, 2) := by decide +kernel
theorem dX8_init_77 : decode cX8_init 77 = .ok (.newarray .int, 2) := by decide +kernel
theorem dX8_init_79 : decode cX8_init 79 = .ok (.putfield 37, 3) := by decide +kernel
theorem dX8_init_82 : decode cX8_init 82 = .ok (.aload_n 0, 1) := by decide +kernel
theorem dX8_init_83 : decode cX8_init 83 = .ok (.bipush 60, 2) := by decide +kernel
theorem dX8_init_85 : decode cX8_init 85 = .ok (.newarray .int, 2) := by decide +kernel
theorem dX8_init_87 : decode cX8_init 87 = .ok (.putfield 40, 3) := by decide +kernel
theorem dX8_init_90 : decode cX8_init 90 = .ok (.aload_n 0, 1) := by decide +kernel
theorem dX8_init_91 : decode cX8_init 91 = .ok (.bipush 60, 2) := by decide +kernel
theorem dX8_init_93 : decode cX8_init 93 = .ok (.newarray .int, 2) := by decide +kernel
theorem dX8_init_95 : decode cX8_init 95 = .ok (.putfield 43, 3) := by decide +kernel
theorem dX8_init_98 : decode cX8_init 98 = .ok (.aload_n 0, 1) := by decide +kernel
theorem dX8_init_99 : decode cX8_init 99 = .ok (.bipush 60, 2) := by decide +kernel
theorem dX8_init_101 : decode cX8_init 101 = .ok (.newarray .int, 2) := by decide +kernel
theorem dX8_init_103 : decode cX8_init 103 = .ok (.putfield 46, 3) := by decide +kernel
theorem dX8_init_106 : decode cX8_init 106 = .ok (.aload_n 0, 1) := by decide +kernel
theorem dX8_init_107 : decode cX8_init 107 = .ok (.bipush 58, 2) := by decide +kernel
theorem dX8_init_109 : decode cX8_init 109 = .ok (.newarray .int, 2) := by decide +kernel
theorem dX8_init_111 : decode cX8_init 111 = .ok (.putfield 49, 3) := by decide +kernel
theorem dX8_init_114 : decode cX8_init 114 = .ok (.aload_n 0, 1) := by decide +kernel
theorem dX8_init_115 : decode cX8_init 115 = .ok (.iconst 4, 1) := by decide +kernel
theorem dX8_init_116 : decode cX8_init 116 = .ok (.newarray .int, 2) := by decide +kernel
theorem dX8_init_118 : decode cX8_init 118 = .ok (.putfield 52, 3) := by decide +kernel
theorem dX8_init_121 : decode cX8_init 121 = .ok (.aload_n 0, 1) := by decide +kernel
theorem dX8_init_122 : decode cX8_init 122 = .ok (.bipush 6, 2) := by decide +kernel
theorem dX8_init_124 : decode cX8_init 124 = .ok (.newarray .int, 2) := by decide +kernel
theorem dX8_init_126 : decode cX8_init 126 = .ok (.putfield 55, 3) := by decide +kernel
theorem dX8_init_129 : decode cX8_init 129 = .ok (.aload_n 0, 1) := by decide +kernel
theorem dX8_init_130 : decode cX8_init 130 = .ok (.bipush 36, 2) := by decide +kernel
theorem dX8_init_132 : decode cX8_init 132 = .ok (.newarray .int, 2) := by decide +kernel
theorem dX8_init_134 : decode cX8_init 134 = .ok (.putfield 58, 3) := by decide +kernel
theorem dX8_init_137 : decode cX8_init 137 = .ok (.aload_n 0, 1) := by decide +kernel
theorem dX8_init_138 : decode cX8_init 138 = .ok (.bipush 36, 2) := by decide +kernel
theorem dX8_init_140 : decode cX8_init 140 = .ok (.newarray .int, 2) := by decide +kernel
theorem dX8_init_142 : decode cX8_init 142 = .ok (.putfield 61, 3) := by decide +kernel
theorem dX8_init_145 : decode cX8_init 145 = .ok (.aload_n 0, 1) := by decide +kernel
theorem dX8_init_146 : decode cX8_init 146 = .ok (.bipush 6, 2) := by decide +kernel
theorem dX8_init_148 : decode cX8_init 148 = .ok (.newarray .int, 2) := by decide +kernel
theorem dX8_init_150 : decode cX8_init 150 = .ok (.putfield 64, 3) := by decide +kernel
theorem dX8_init_153 : decode cX8_init 153 = .ok (.aload_n 0, 1) := by decide +kernel
theorem dX8_init_154 : decode cX8_init 154 = .ok (.bipush 16, 2) := by decide +kernel
theorem dX8_init_156 : decode cX8_init 156 = .ok (.newarray .int, 2) := by decide +kernel
theorem dX8_init_158 : decode cX8_init 158 = .ok (.putfield 67, 3) := by decide +kernel
theorem dX8_init_161 : decode cX8_init 161 = .ok (.aload_n 0, 1) := by decide +kernel
theorem dX8_init_162 : decode cX8_init 162 = .ok (.iconst 4, 1) := by decide +kernel
theorem dX8_init_163 : decode cX8_init 163 = .ok (.newarray .int, 2) := by decide +kernel
theorem dX8_init_165 : decode cX8_init 165 = .ok (.putfield 70, 3) := by decide +kernel
theorem dX8_init_168 : decode cX8_init 168 = .ok (.aload_n 0, 1) := by decide +kernel
theorem dX8_init_169 : decode cX8_init 169 = .ok (.sipush 240, 3) := by decide +kernel
theorem dX8_init_172 : decode cX8_init 172 = .ok (.newarray .int, 2) := by decide +kernel
theorem dX8_init_174 : decode cX8_init 174 = .ok (.putfield 73, 3) := by decide +kernel
theorem dX8_init_177 : decode cX8_init 177 = .ok (.aload_n 0, 1) := by decide +kernel
theorem dX8_init_178 : decode cX8_init 178 = .ok (.iconst 2, 1) := by decide +kernel
theorem dX8_init_179 : decode cX8_init 179 = .ok (.newarray .boolean, 2) := by decide +kernel
theorem dX8_init_181 : decode cX8_init 181 = .ok (.putfield 76, 3) := by decide +kernel
theorem dX8_init_184 : decode cX8_init 184 = .ok (.aload_n 0, 1) := by decide +kernel
theorem dX8_init_185 : decode cX8_init 185 = .ok (.iconst 2, 1) := by decide +kernel
theorem dX8_init_186 : decode cX8_init 186 = .ok (.putfield 80, 3) := by decide +kernel
theorem dX8_init_189 : decode cX8_init 189 = .ok (.aload_n 0, 1) := by decide +kernel
theorem dX8_init_190 : decode cX8_init 190 = .ok (.iconst 4, 1) := by decide +kernel
theorem dX8_init_191 : decode cX8_init 191 = .ok (.putfield 84, 3) := by decide +kernel
theorem dX8_init_194 : decode cX8_init 194 = .ok (.aload_n 0, 1) := by decide +kernel
theorem dX8_init_195 : decode cX8_init 195 = .ok (.bipush 30, 2) := by decide +kernel
theorem dX8_init_197 : decode cX8_init 197 = .ok (.putfield 87, 3) := by decide +kernel
theorem dX8_init_200 : decode cX8_init 200 = .ok (.aload_n 0, 1) := by decide +kernel
theorem dX8_init_201 : decode cX8_init 201 = .ok (.iconst 1, 1) := by decide +kernel
theorem dX8_init_202 : decode cX8_init 202 = .ok (.putfield 90, 3) := by decide +kernel
theorem dX8_init_205 : decode cX8_init 205 = .ok (.aload_n 0, 1) := by decide +kernel
theorem dX8_init_206 : decode cX8_init 206 = .ok (.iconst 2, 1) := by decide +kernel
theorem dX8_init_207 : decode cX8_init 207 = .ok (.putfield 93, 3) := by decide +kernel
theorem dX8_init_210 : decode cX8_init 210 = .ok (.return_, 1) := by decide +kernel
theorem dX8_in_0 : decode cX8_in 0 = .ok (.lload_n 0, 1) := by decide +kernel
theorem dX8_in_1 : decode cX8_in 1 = .ok (.lload_n 2, 1) := by decide +kernel
theorem dX8_in_2 : decode cX8_in 2 = .ok (.lcmp, 1) := by decide +kernel
theorem dX8_in_3 : decode cX8_in 3 = .ok (.ifCond .lt 14, 3) := by decide +kernel
theorem dX8_in_6 : decode cX8_in 6 = .ok (.lload_n 0, 1) := by decide +kernel
theorem dX8_in_7 : decode cX8_in 7 = .ok (.lload 4, 2) := by decide +kernel
theorem dX8_in_9 : decode cX8_in 9 = .ok (.lcmp, 1) := by decide +kernel
theorem dX8_in_10 : decode cX8_in 10 = .ok (.ifCond .gt 7, 3) := by decide +kernel
theorem dX8_in_13 : decode cX8_in 13 = .ok (.iconst 1, 1) := by decide +kernel
theorem dX8_in_14 : decode cX8_in 14 = .ok (.goto 4, 3) := by decide +kernel
theorem dX8_in_17 : decode cX8_in 17 = .ok (.iconst 0, 1) := by decide +kernel
theorem dX8_in_18 : decode cX8_in 18 = .ok (.ireturn, 1) := by decide +kernel
set_option maxRecDepth 20000 in
theorem ggX8_isRow_X8_in : GoodIn wsX8_isRow wsX8_in := goodIn_r _ [5] (by decide +kernel) (by decide +kernel)
set_option maxRecDepth 20000 in
theorem gX8_isRow_X8_in : GoodIn wsX8_isRow (va_wsS RX8 96 yX8_in wsX8_in) := goodIn_app (goodIn_of _ (by decide +kernel)) ggX8_isRow_X8_in
theorem dX8_isRow_0 : decode cX8_isRow 0 = .ok (.iload_n 1, 1) := by decide +kernel
theorem dX8_isRow_1 : decode cX8_isRow 1 = .ok (.i2l, 1) := by decide +kernel
theorem dX8_isRow_2 : decode cX8_isRow 2 = .ok (.lconst 0, 1) := by decide +kernel
theorem dX8_isRow_3 : decode cX8_isRow 3 = .ok (.aload_n 0, 1) := by decide +kernel
theorem dX8_isRow_4 : decode cX8_isRow 4 = .ok (.getfield 80, 3) := by decide +kernel
theorem dX8_isRow_7 : decode cX8_isRow 7 = .ok (.iconst 1, 1) := by decide +kernel
theorem dX8_isRow_8 : decode cX8_isRow 8 = .ok (.isub, 1) := by decide +kernel
theorem dX8_isRow_9 : decode cX8_isRow 9 = .ok (.i2l, 1) := by decide +kernel
theorem dX8_isRow_10 : decode cX8_isRow 10 = .ok (.invokestatic 96, 3) := by decide +kernel
theorem dX8_isRow_13 : decode cX8_isRow 13 = .ok (.ireturn, 1) := by decide +kernel
set_option maxRecDepth 20000 in
theorem ggX8_isPlace_X8_in : GoodIn wsX8_isPlace wsX8_in := goodIn_r _ [5] (by decide +kernel) (by decide +kernel)
set_option maxRecDepth 20000 in
theorem gX8_isPlace_X8_in : GoodIn wsX8_isPlace (va_wsS RX8 96 yX8_in wsX8_in) := goodIn_app (goodIn_of _ (by decide +kernel)) ggX8_isPlace_X8_in
theorem dX8_isPlace_0 : decode cX8_isPlace 0 = .ok (.iload_n 1, 1) := by decide +kernel
theorem dX8_isPlace_1 : decode cX8_isPlace 1 = .ok (.i2l, 1) := by decide +kernel
theorem dX8_isPlace_2 : decode cX8_isPlace 2 = .ok (.lconst 0, 1) := by decide +kernel
theorem dX8_isPlace_3 : decode cX8_isPlace 3 = .ok (.aload_n 0, 1) := by decide +kernel
theorem dX8_isPlace_4 : decode cX8_isPlace 4 = .ok (.getfield 84, 3) := by decide +kernel
theorem dX8_isPlace_7 : decode cX8_isPlace 7 = .ok (.iconst 1, 1) := by decide +kernel
theorem dX8_isPlace_8 : decode cX8_isPlace 8 = .ok (.isub, 1) := by decide +kernel
theorem dX8_isPlace_9 : decode cX8_isPlace 9 = .ok (.i2l, 1) := by decide +kernel
theorem dX8_isPlace_10 : decode cX8_isPlace 10 = .ok (.invokestatic 96, 3) := by decide +kernel
theorem dX8_isPlace_13 : decode cX8_isPlace 13 = .ok (.ireturn, 1) := by decide +kernel
set_option maxRecDepth 20000 in
theorem ggX8_isNumber_X8_in : GoodIn wsX8_isNumber wsX8_in := goodIn_r _ [5] (by decide +kernel) (by decide +kernel)
set_option maxRecDepth 20000 in
theorem gX8_isNumber_X8_in : GoodIn wsX8_isNumber (va_wsS RX8 96 yX8_in wsX8_in) := goodIn_app (goodIn_of _ (by decide +kernel)) ggX8_isNumber_X8_in
theorem dX8_isNumber_0 : decode cX8_isNumber 0 = .ok (.iload_n 0, 1) := by decide +kernel
theorem dX8_isNumber_1 : decode cX8_isNumber 1 = .ok (.i2l, 1) := by decide +kernel
theorem dX8_isNumber_2 : decode cX8_isNumber 2 = .ok (.lconst 0, 1) := by decide +kernel
theorem dX8_isNumber_3 : decode cX8_isNumber 3 = .ok (.ldc2_w 100, 3) := by decide +kernel
theorem dX8_isNumber_6 : decode cX8_isNumber 6 = .ok (.invokestatic 96, 3) := by decide +kernel
theorem dX8_isNumber_9 : decode cX8_isNumber 9 = .ok (.ireturn, 1) := by decide +kernel
set_option maxRecDepth 20000 in
theorem ggX8_isSort_X8_isNumber : GoodIn wsX8_isSort wsX8_isNumber := goodIn_r _ [5, 6, 7, 8, 4, 9] (by decide +kernel) (by decide +kernel)
set_option maxRecDepth 20000 in
theorem gX8_isSort_X8_isNumber : GoodIn wsX8_isSort (va_wsS RX8 102 yX8_isNumber wsX8_isNumber) := goodIn_app (goodIn_of _ (by decide +kernel)) ggX8_isSort_X8_isNumber
theorem dX8_isSort_0 : decode cX8_isSort 0 = .ok (.iload_n 1, 1) := by decide +kernel
theorem dX8_isSort_1 : decode cX8_isSort 1 = .ok (.invokestatic 102, 3) := by decide +kernel
theorem dX8_isSort_4 : decode cX8_isSort 4 = .ok (.ifCond .eq 19, 3) := by decide +kernel
theorem dX8_isSort_7 : decode cX8_isSort 7 = .ok (.aload_n 0, 1) := by decide +kernel
theorem dX8_isSort_8 : decode cX8_isSort 8 = .ok (.getfield 106, 3) := by decide +kernel
theorem dX8_isSort_11 : decode cX8_isSort 11 = .ok (.iload_n 1, 1) := by decide +kernel
theorem dX8_isSort_12 : decode cX8_isSort 12 = .ok (.ishr, 1) := by decide +kernel
theorem dX8_isSort_13 : decode cX8_isSort 13 = .ok (.iconst 1, 1) := by decide +kernel
theorem dX8_isSort_14 : decode cX8_isSort 14 = .ok (.iand, 1) := by decide +kernel
theorem dX8_isSort_15 : decode cX8_isSort 15 = .ok (.iconst 1, 1) := by decide +kernel
theorem dX8_isSort_16 : decode cX8_isSort 16 = .ok (.if_icmp .ne 7, 3) := by decide +kernel
theorem dX8_isSort_19 : decode cX8_isSort 19 = .ok (.iconst 1, 1) := by decide +kernel
theorem dX8_isSort_20 : decode cX8_isSort 20 = .ok (.goto 4, 3) := by decide +kernel
theorem dX8_isSort_23 : decode cX8_isSort 23 = .ok (.iconst 0, 1) := by decide +kernel
theorem dX8_isSort_24 : decode cX8_isSort 24 = .ok (.ireturn, 1) := by decide +kernel
set_option maxRecDepth 20000 in
theorem ggX8_oven_X8_in : GoodIn wsX8_oven wsX8_in := goodIn_r _ [13] (by decide +kernel) (by decide +kernel)
set_option maxRecDepth 20000 in
theorem gX8_oven_X8_in : GoodIn wsX8_oven (va_wsS RX8 96 yX8_in wsX8_in) := goodIn_app (goodIn_of _ (by decide +kernel)) ggX8_oven_X8_in
theorem dX8_oven_0 : decode cX8_oven 0 = .ok (.iload_n 1, 1) := by decide +kernel
theorem dX8_oven_1 : decode cX8_oven 1 = .ok (.i2l, 1) := by decide +kernel
theorem dX8_oven_2 : decode cX8_oven 2 = .ok (.lconst 1, 1) := by decide +kernel
theorem dX8_oven_3 : decode cX8_oven 3 = .ok (.ldc2_w 109, 3) := by decide +kernel
theorem dX8_oven_6 : decode cX8_oven 6 = .ok (.invokestatic 96, 3) := by decide +kernel
theorem dX8_oven_9 : decode cX8_oven 9 = .ok (.ifCond .eq 15, 3) := by decide +kernel
theorem dX8_oven_12 : decode cX8_oven 12 = .ok (.iload_n 2, 1) := by decide +kernel
theorem dX8_oven_13 : decode cX8_oven 13 = .ok (.i2l, 1) := by decide +kernel
theorem dX8_oven_14 : decode cX8_oven 14 = .ok (.lconst 1, 1) := by decide +kernel
theorem dX8_oven_15 : decode cX8_oven 15 = .ok (.ldc2_w 111, 3) := by decide +kernel
theorem dX8_oven_18 : decode cX8_oven 18 = .ok (.invokestatic 96, 3) := by decide +kernel
theorem dX8_oven_21 : decode cX8_oven 21 = .ok (.ifCond .ne 6, 3) := by decide +kernel
theorem dX8_oven_24 : decode cX8_oven 24 = .ok (.bipush (-2), 2) := by decide +kernel
theorem dX8_oven_26 : decode cX8_oven 26 = .ok (.ireturn, 1) := by decide +kernel
theorem dX8_oven_27 : decode cX8_oven 27 = .ok (.aload_n 0, 1) := by decide +kernel
theorem dX8_oven_28 : decode cX8_oven 28 = .ok (.iload_n 1, 1) := by decide +kernel
theorem dX8_oven_29 : decode cX8_oven 29 = .ok (.putfield 80, 3) := by decide +kernel
theorem dX8_oven_32 : decode cX8_oven 32 = .ok (.aload_n 0, 1) := by decide +kernel
theorem dX8_oven_33 : decode cX8_oven 33 = .ok (.iload_n 2, 1) := by decide +kernel
theorem dX8_oven_34 : decode cX8_oven 34 = .ok (.putfield 84, 3) := by decide +kernel
theorem dX8_oven_37 : decode cX8_oven 37 = .ok (.aload_n 0, 1) := by decide +kernel
theorem dX8_oven_38 : decode cX8_oven 38 = .ok (.iconst 0, 1) := by decide +kernel
theorem dX8_oven_39 : decode cX8_oven 39 = .ok (.putfield 113, 3) := by decide +kernel
theorem dX8_oven_42 : decode cX8_oven 42 = .ok (.aload_n 0, 1) := by decide +kernel
theorem dX8_oven_43 : decode cX8_oven 43 = .ok (.iconst 0, 1) := by decide +kernel
theorem dX8_oven_44 : decode cX8_oven 44 = .ok (.putfield 116, 3) := by decide +kernel
theorem dX8_oven_47 : decode cX8_oven 47 = .ok (.iconst 0, 1) := by decide +kernel
theorem dX8_oven_48 : decode cX8_oven 48 = .ok (.istore_n 3, 1) := by decide +kernel
theorem dX8_oven_49 : decode cX8_oven 49 = .ok (.iload_n 3, 1) := by decide +kernel
theorem dX8_oven_50 : decode cX8_oven 50 = .ok (.iconst 4, 1) := by decide +kernel
theorem dX8_oven_51 : decode cX8_oven 51 = .ok (.if_icmp .ge 23, 3) := by decide +kernel
theorem dX8_oven_54 : decode cX8_oven 54 = .ok (.aload_n 0, 1) := by decide +kernel
theorem dX8_oven_55 : decode cX8_oven 55 = .ok (.getfield 25, 3) := by decide +kernel
theorem dX8_oven_58 : decode cX8_oven 58 = .ok (.iload_n 3, 1) := by decide +kernel
theorem dX8_oven_59 : decode cX8_oven 59 = .ok (.iconst 0, 1) := by decide +kernel
theorem dX8_oven_60 : decode cX8_oven 60 = .ok (.iastore, 1) := by decide +kernel
theorem dX8_oven_61 : decode cX8_oven 61 = .ok (.aload_n 0, 1) := by decide +kernel
theorem dX8_oven_62 : decode cX8_oven 62 = .ok (.getfield 34, 3) := by decide +kernel
theorem dX8_oven_65 : decode cX8_oven 65 = .ok (.iload_n 3, 1) := by decide +kernel
theorem dX8_oven_66 : decode cX8_oven 66 = .ok (.iconst 0, 1) := by decide +kernel
theorem dX8_oven_67 : decode cX8_oven 67 = .ok (.iastore, 1) := by decide +kernel
theorem dX8_oven_68 : decode cX8_oven 68 = .ok (.iinc 3 1, 3) := by decide +kernel
theorem dX8_oven_71 : decode cX8_oven 71 = .ok (.goto (-22), 3) := by decide +kernel
theorem dX8_oven_74 : decode cX8_oven 74 = .ok (.iconst 0, 1) := by decide +kernel
theorem dX8_oven_75 : decode cX8_oven 75 = .ok (.istore_n 3, 1) := by decide +kernel
theorem dX8_oven_76 : decode cX8_oven 76 = .ok (.iload_n 3, 1) := by decide +kernel
theorem dX8_oven_77 : decode cX8_oven 77 = .ok (.bipush 6, 2) := by decide +kernel
theorem dX8_oven_79 : decode cX8_oven 79 = .ok (.if_icmp .ge 16, 3) := by decide +kernel
theorem dX8_oven_82 : decode cX8_oven 82 = .ok (.aload_n 0, 1) := by decide +kernel
theorem dX8_oven_83 : decode cX8_oven 83 = .ok (.getfield 7, 3) := by decide +kernel
theorem dX8_oven_86 : decode cX8_oven 86 = .ok (.iload_n 3, 1) := by decide +kernel
theorem dX8_oven_87 : decode cX8_oven 87 = .ok (.iconst 0, 1) := by decide +kernel
theorem dX8_oven_88 : decode cX8_oven 88 = .ok (.iastore, 1) := by decide +kernel
theorem dX8_oven_89 : decode cX8_oven 89 = .ok (.iinc 3 1, 3) := by decide +kernel
theorem dX8_oven_92 : decode cX8_oven 92 = .ok (.goto (-16), 3) := by decide +kernel
theorem dX8_oven_95 : decode cX8_oven 95 = .ok (.iload_n 1, 1) := by decide +kernel
theorem dX8_oven_96 : decode cX8_oven 96 = .ok (.iload_n 2, 1) := by decide +kernel
theorem dX8_oven_97 : decode cX8_oven 97 = .ok (.imul, 1) := by decide +kernel
theorem dX8_oven_98 : decode cX8_oven 98 = .ok (.ireturn, 1) := by decide +kernel
set_option maxRecDepth 20000 in
theorem ggX8_set_X8_in : GoodIn wsX8_set wsX8_in := goodIn_r _ [10] (by decide +kernel) (by decide +kernel)
set_option maxRecDepth 20000 in
theorem gX8_set_X8_in : GoodIn wsX8_set (va_wsS RX8 96 yX8_in wsX8_in) := goodIn_app (goodIn_of _ (by decide +kernel)) ggX8_set_X8_in
theorem dX8_set_0 : decode cX8_set 0 = .ok (.iload_n 1, 1) := by decide +kernel
theorem dX8_set_1 : decode cX8_set 1 = .ok (.i2l, 1) := by decide +kernel
theorem dX8_set_2 : decode cX8_set 2 = .ok (.lconst 0, 1) := by decide +kernel
theorem dX8_set_3 : decode cX8_set 3 = .ok (.ldc2_w 119, 3) := by decide +kernel
theorem dX8_set_6 : decode cX8_set 6 = .ok (.invokestatic 96, 3) := by decide +kernel
theorem dX8_set_9 : decode cX8_set 9 = .ok (.ifCond .eq 25, 3) := by decide +kernel
theorem dX8_set_12 : decode cX8_set 12 = .ok (.iload_n 2, 1) := by decide +kernel
theorem dX8_set_13 : decode cX8_set 13 = .ok (.i2l, 1) := by decide +kernel
theorem dX8_set_14 : decode cX8_set 14 = .ok (.lconst 0, 1) := by decide +kernel
theorem dX8_set_15 : decode cX8_set 15 = .ok (.iload_n 1, 1) := by decide +kernel
theorem dX8_set_16 : decode cX8_set 16 = .ok (.ifCond .ne 9, 3) := by decide +kernel
theorem dX8_set_19 : decode cX8_set 19 = .ok (.ldc2_w 121, 3) := by decide +kernel
theorem dX8_set_22 : decode cX8_set 22 = .ok (.goto 6, 3) := by decide +kernel
theorem dX8_set_25 : decode cX8_set 25 = .ok (.ldc2_w 123, 3) := by decide +kernel
theorem dX8_set_28 : decode cX8_set 28 = .ok (.invokestatic 96, 3) := by decide +kernel
theorem dX8_set_31 : decode cX8_set 31 = .ok (.ifCond .ne 6, 3) := by decide +kernel
theorem dX8_set_34 : decode cX8_set 34 = .ok (.bipush (-2), 2) := by decide +kernel
theorem dX8_set_36 : decode cX8_set 36 = .ok (.ireturn, 1) := by decide +kernel
theorem dX8_set_37 : decode cX8_set 37 = .ok (.iload_n 1, 1) := by decide +kernel
theorem dX8_set_38 : decode cX8_set 38 = .ok (.ifCond .ne 10, 3) := by decide +kernel
theorem dX8_set_41 : decode cX8_set 41 = .ok (.aload_n 0, 1) := by decide +kernel
theorem dX8_set_42 : decode cX8_set 42 = .ok (.getfield 87, 3) := by decide +kernel
theorem dX8_set_45 : decode cX8_set 45 = .ok (.goto 19, 3) := by decide +kernel
theorem dX8_set_48 : decode cX8_set 48 = .ok (.iload_n 1, 1) := by decide +kernel
theorem dX8_set_49 : decode cX8_set 49 = .ok (.iconst 1, 1) := by decide +kernel
theorem dX8_set_50 : decode cX8_set 50 = .ok (.if_icmp .ne 10, 3) := by decide +kernel
theorem dX8_set_53 : decode cX8_set 53 = .ok (.aload_n 0, 1) := by decide +kernel
theorem dX8_set_54 : decode cX8_set 54 = .ok (.getfield 90, 3) := by decide +kernel
theorem dX8_set_57 : decode cX8_set 57 = .ok (.goto 7, 3) := by decide +kernel
theorem dX8_set_60 : decode cX8_set 60 = .ok (.aload_n 0, 1) := by decide +kernel
theorem dX8_set_61 : decode cX8_set 61 = .ok (.getfield 93, 3) := by decide +kernel
theorem dX8_set_64 : decode cX8_set 64 = .ok (.istore_n 3, 1) := by decide +kernel
theorem dX8_set_65 : decode cX8_set 65 = .ok (.aload_n 0, 1) := by decide +kernel
theorem dX8_set_66 : decode cX8_set 66 = .ok (.iload_n 1, 1) := by decide +kernel
theorem dX8_set_67 : decode cX8_set 67 = .ok (.ifCond .ne 7, 3) := by decide +kernel
theorem dX8_set_70 : decode cX8_set 70 = .ok (.iload_n 2, 1) := by decide +kernel
theorem dX8_set_71 : decode cX8_set 71 = .ok (.goto 7, 3) := by decide +kernel
theorem dX8_set_74 : decode cX8_set 74 = .ok (.aload_n 0, 1) := by decide +kernel
theorem dX8_set_75 : decode cX8_set 75 = .ok (.getfield 87, 3) := by decide +kernel
theorem dX8_set_78 : decode cX8_set 78 = .ok (.putfield 87, 3) := by decide +kernel
theorem dX8_set_81 : decode cX8_set 81 = .ok (.aload_n 0, 1) := by decide +kernel
theorem dX8_set_82 : decode cX8_set 82 = .ok (.iload_n 1, 1) := by decide +kernel
theorem dX8_set_83 : decode cX8_set 83 = .ok (.iconst 1, 1) := by decide +kernel
theorem dX8_set_84 : decode cX8_set 84 = .ok (.if_icmp .ne 7, 3) := by decide +kernel
theorem dX8_set_87 : decode cX8_set 87 = .ok (.iload_n 2, 1) := by decide +kernel
theorem dX8_set_88 : decode cX8_set 88 = .ok (.goto 7, 3) := by decide +kernel
theorem dX8_set_91 : decode cX8_set 91 = .ok (.aload_n 0, 1) := by decide +kernel
theorem dX8_set_92 : decode cX8_set 92 = .ok (.getfield 90, 3) := by decide +kernel
theorem dX8_set_95 : decode cX8_set 95 = .ok (.putfield 90, 3) := by decide +kernel
theorem dX8_set_98 : decode cX8_set 98 = .ok (.aload_n 0, 1) := by decide +kernel
theorem dX8_set_99 : decode cX8_set 99 = .ok (.iload_n 1, 1) := by decide +kernel
theorem dX8_set_100 : decode cX8_set 100 = .ok (.iconst 2, 1) := by decide +kernel
theorem dX8_set_101 : decode cX8_set 101 = .ok (.if_icmp .ne 7, 3) := by decide +kernel
theorem dX8_set_104 : decode cX8_set 104 = .ok (.iload_n 2, 1) := by decide +kernel
theorem dX8_set_105 : decode cX8_set 105 = .ok (.goto 7, 3) := by decide +kernel
theorem dX8_set_108 : decode cX8_set 108 = .ok (.aload_n 0, 1) := by decide +kernel
theorem dX8_set_109 : decode cX8_set 109 = .ok (.getfield 93, 3) := by decide +kernel
theorem dX8_set_112 : decode cX8_set 112 = .ok (.putfield 93, 3) := by decide +kernel
theorem dX8_set_115 : decode cX8_set 115 = .ok (.iload_n 3, 1) := by decide +kernel
theorem dX8_set_116 : decode cX8_set 116 = .ok (.ireturn, 1) := by decide +kernel
set_option maxRecDepth 20000 in
theorem ggX8_less_X8_isPlace : GoodIn wsX8_less wsX8_isPlace := goodIn_r _ [7, 8, 9, 10, 6, 11, 12, 13, 14, 15, 16, 17, 18, 19, 20, 21, 22, 23, 24, 25, 26, 27, 28, 29, 30, 31, 32, 33, 34, 35, 36, 37, 38, 39, 40, 41, 42, 43, 44, 45, 46, 47, 48, 49, 50, 51, 52, 53, 54, 55, 56, 57] (by decide +kernel) (by decide +kernel)
set_option maxRecDepth 20000 in
theorem gX8_less_X8_isPlace : GoodIn wsX8_less (wsV RX8 125 RX8 yX8_isPlace wsX8_isPlace) := goodIn_app (goodIn_of _ (by decide +kernel)) ggX8_less_X8_isPlace
set_option maxRecDepth 20000 in
theorem ggX8_less_X8_in : GoodIn wsX8_less wsX8_in := goodIn_r _ [11] (by decide +kernel) (by decide +kernel)
set_option maxRecDepth 20000 in
theorem gX8_less_X8_in : GoodIn wsX8_less (va_wsS RX8 96 yX8_in wsX8_in) := goodIn_app (goodIn_of _ (by decide +kernel)) ggX8_less_X8_in
theorem dX8_less_0 : decode cX8_less 0 = .ok (.aload_n 0, 1) := by decide +kernel
theorem dX8_less_1 : decode cX8_less 1 = .ok (.iload_n 1, 1) := by decide +kernel
theorem dX8_less_2 : decode cX8_less 2 = .ok (.invokevirtual 125, 3) := by decide +kernel
theorem dX8_less_5 : decode cX8_less 5 = .ok (.ifCond .ne 5, 3) := by decide +kernel
theorem dX8_less_8 : decode cX8_less 8 = .ok (.iconst (-1), 1) := by decide +kernel
theorem dX8_less_9 : decode cX8_less 9 = .ok (.ireturn, 1) := by decide +kernel
theorem dX8_less_10 : decode cX8_less 10 = .ok (.iload_n 2, 1) := by decide +kernel
theorem dX8_less_11 : decode cX8_less 11 = .ok (.i2l, 1) := by decide +kernel
theorem dX8_less_12 : decode cX8_less 12 = .ok (.lconst 0, 1) := by decide +kernel
theorem dX8_less_13 : decode cX8_less 13 = .ok (.ldc2_w 123, 3) := by decide +kernel
theorem dX8_less_16 : decode cX8_less 16 = .ok (.invokestatic 96, 3) := by decide +kernel
theorem dX8_less_19 : decode cX8_less 19 = .ok (.ifCond .ne 6, 3) := by decide +kernel
theorem dX8_less_22 : decode cX8_less 22 = .ok (.bipush (-2), 2) := by decide +kernel
theorem dX8_less_24 : decode cX8_less 24 = .ok (.ireturn, 1) := by decide +kernel
theorem dX8_less_25 : decode cX8_less 25 = .ok (.aload_n 0, 1) := by decide +kernel
theorem dX8_less_26 : decode cX8_less 26 = .ok (.getfield 7, 3) := by decide +kernel
theorem dX8_less_29 : decode cX8_less 29 = .ok (.iload_n 1, 1) := by decide +kernel
theorem dX8_less_30 : decode cX8_less 30 = .ok (.iaload, 1) := by decide +kernel
theorem dX8_less_31 : decode cX8_less 31 = .ok (.istore_n 3, 1) := by decide +kernel
theorem dX8_less_32 : decode cX8_less 32 = .ok (.aload_n 0, 1) := by decide +kernel
theorem dX8_less_33 : decode cX8_less 33 = .ok (.getfield 7, 3) := by decide +kernel
theorem dX8_less_36 : decode cX8_less 36 = .ok (.iload_n 1, 1) := by decide +kernel
theorem dX8_less_37 : decode cX8_less 37 = .ok (.iload_n 2, 1) := by decide +kernel
theorem dX8_less_38 : decode cX8_less 38 = .ok (.iastore, 1) := by decide +kernel
theorem dX8_less_39 : decode cX8_less 39 = .ok (.iload_n 3, 1) := by decide +kernel
theorem dX8_less_40 : decode cX8_less 40 = .ok (.ireturn, 1) := by decide +kernel
theorem dX8_ones_0 : decode cX8_ones 0 = .ok (.iconst 0, 1) := by decide +kernel
theorem dX8_ones_1 : decode cX8_ones 1 = .ok (.istore_n 1, 1) := by decide +kernel
theorem dX8_ones_2 : decode cX8_ones 2 = .ok (.iload_n 0, 1) := by decide +kernel
theorem dX8_ones_3 : decode cX8_ones 3 = .ok (.istore_n 2, 1) := by decide +kernel
theorem dX8_ones_4 : decode cX8_ones 4 = .ok (.iload_n 2, 1) := by decide +kernel
theorem dX8_ones_5 : decode cX8_ones 5 = .ok (.ifCond .eq 15, 3) := by decide +kernel
theorem dX8_ones_8 : decode cX8_ones 8 = .ok (.iinc 1 1, 3) := by decide +kernel
theorem dX8_ones_11 : decode cX8_ones 11 = .ok (.iload_n 2, 1) := by decide +kernel
theorem dX8_ones_12 : decode cX8_ones 12 = .ok (.iload_n 2, 1) := by decide +kernel
theorem dX8_ones_13 : decode cX8_ones 13 = .ok (.iconst 1, 1) := by decide +kernel
theorem dX8_ones_14 : decode cX8_ones 14 = .ok (.isub, 1) := by decide +kernel
theorem dX8_ones_15 : decode cX8_ones 15 = .ok (.iand, 1) := by decide +kernel
theorem dX8_ones_16 : decode cX8_ones 16 = .ok (.istore_n 2, 1) := by decide +kernel
theorem dX8_ones_17 : decode cX8_ones 17 = .ok (.goto (-13), 3) := by decide +kernel
theorem dX8_ones_20 : decode cX8_ones 20 = .ok (.iload_n 1, 1) := by decide +kernel
theorem dX8_ones_21 : decode cX8_ones 21 = .ok (.ireturn, 1) := by decide +kernel
set_option maxRecDepth 20000 in
theorem ggX8_sort_X8_isNumber : GoodIn wsX8_sort wsX8_isNumber := goodIn_r _ [10, 11, 12, 13, 9, 14] (by decide +kernel) (by decide +kernel)
set_option maxRecDepth 20000 in
theorem gX8_sort_X8_isNumber : GoodIn wsX8_sort (va_wsS RX8 102 yX8_isNumber wsX8_isNumber) := goodIn_app (goodIn_of _ (by decide +kernel)) ggX8_sort_X8_isNumber
set_option maxRecDepth 20000 in
theorem ggX8_sort_X8_in : GoodIn wsX8_sort wsX8_in := goodIn_r _ [14] (by decide +kernel) (by decide +kernel)
set_option maxRecDepth 20000 in
theorem gX8_sort_X8_in : GoodIn wsX8_sort (va_wsS RX8 96 yX8_in wsX8_in) := goodIn_app (goodIn_of _ (by decide +kernel)) ggX8_sort_X8_in
set_option maxRecDepth 20000 in
theorem ggX8_sort_X8_ones : GoodIn wsX8_sort wsX8_ones := goodIn_r _ [17] (by decide +kernel) (by decide +kernel)
set_option maxRecDepth 20000 in
theorem gX8_sort_X8_ones : GoodIn wsX8_sort (va_wsS RX8 130 yX8_ones wsX8_ones) := goodIn_app (goodIn_of _ (by decide +kernel)) ggX8_sort_X8_ones
theorem dX8_sort_0 : decode cX8_sort 0 = .ok (.iload_n 1, 1) := by decide +kernel
theorem dX8_sort_1 : decode cX8_sort 1 = .ok (.invokestatic 102, 3) := by decide +kernel
theorem dX8_sort_4 : decode cX8_sort 4 = .ok (.ifCond .ne 5, 3) := by decide +kernel
theorem dX8_sort_7 : decode cX8_sort 7 = .ok (.iconst (-1), 1) := by decide +kernel
theorem dX8_sort_8 : decode cX8_sort 8 = .ok (.ireturn, 1) := by decide +kernel
theorem dX8_sort_9 : decode cX8_sort 9 = .ok (.iload_n 2, 1) := by decide +kernel
theorem dX8_sort_10 : decode cX8_sort 10 = .ok (.i2l, 1) := by decide +kernel
theorem dX8_sort_11 : decode cX8_sort 11 = .ok (.lconst 1, 1) := by decide +kernel
theorem dX8_sort_12 : decode cX8_sort 12 = .ok (.ldc2_w 128, 3) := by decide +kernel
theorem dX8_sort_15 : decode cX8_sort 15 = .ok (.invokestatic 96, 3) := by decide +kernel
theorem dX8_sort_18 : decode cX8_sort 18 = .ok (.ifCond .eq 28, 3) := by decide +kernel
theorem dX8_sort_21 : decode cX8_sort 21 = .ok (.iload_n 3, 1) := by decide +kernel
theorem dX8_sort_22 : decode cX8_sort 22 = .ok (.i2l, 1) := by decide +kernel
theorem dX8_sort_23 : decode cX8_sort 23 = .ok (.lconst 0, 1) := by decide +kernel
theorem dX8_sort_24 : decode cX8_sort 24 = .ok (.ldc2_w 128, 3) := by decide +kernel
theorem dX8_sort_27 : decode cX8_sort 27 = .ok (.invokestatic 96, 3) := by decide +kernel
theorem dX8_sort_30 : decode cX8_sort 30 = .ok (.ifCond .eq 16, 3) := by decide +kernel
theorem dX8_sort_33 : decode cX8_sort 33 = .ok (.iload 4, 2) := by decide +kernel
theorem dX8_sort_35 : decode cX8_sort 35 = .ok (.i2l, 1) := by decide +kernel
theorem dX8_sort_36 : decode cX8_sort 36 = .ok (.lconst 0, 1) := by decide +kernel
theorem dX8_sort_37 : decode cX8_sort 37 = .ok (.ldc2_w 121, 3) := by decide +kernel
theorem dX8_sort_40 : decode cX8_sort 40 = .ok (.invokestatic 96, 3) := by decide +kernel
theorem dX8_sort_43 : decode cX8_sort 43 = .ok (.ifCond .ne 6, 3) := by decide +kernel
theorem dX8_sort_46 : decode cX8_sort 46 = .ok (.bipush (-2), 2) := by decide +kernel
theorem dX8_sort_48 : decode cX8_sort 48 = .ok (.ireturn, 1) := by decide +kernel
theorem dX8_sort_49 : decode cX8_sort 49 = .ok (.aload_n 0, 1) := by decide +kernel
theorem dX8_sort_50 : decode cX8_sort 50 = .ok (.getfield 13, 3) := by decide +kernel
theorem dX8_sort_53 : decode cX8_sort 53 = .ok (.iload_n 1, 1) := by decide +kernel
theorem dX8_sort_54 : decode cX8_sort 54 = .ok (.iload_n 2, 1) := by decide +kernel
theorem dX8_sort_55 : decode cX8_sort 55 = .ok (.iastore, 1) := by decide +kernel
theorem dX8_sort_56 : decode cX8_sort 56 = .ok (.aload_n 0, 1) := by decide +kernel
theorem dX8_sort_57 : decode cX8_sort 57 = .ok (.getfield 16, 3) := by decide +kernel
theorem dX8_sort_60 : decode cX8_sort 60 = .ok (.iload_n 1, 1) := by decide +kernel
theorem dX8_sort_61 : decode cX8_sort 61 = .ok (.iload_n 3, 1) := by decide +kernel
theorem dX8_sort_62 : decode cX8_sort 62 = .ok (.iastore, 1) := by decide +kernel
theorem dX8_sort_63 : decode cX8_sort 63 = .ok (.aload_n 0, 1) := by decide +kernel
theorem dX8_sort_64 : decode cX8_sort 64 = .ok (.getfield 19, 3) := by decide +kernel
theorem dX8_sort_67 : decode cX8_sort 67 = .ok (.iload_n 1, 1) := by decide +kernel
theorem dX8_sort_68 : decode cX8_sort 68 = .ok (.iload 4, 2) := by decide +kernel
theorem dX8_sort_70 : decode cX8_sort 70 = .ok (.iastore, 1) := by decide +kernel
theorem dX8_sort_71 : decode cX8_sort 71 = .ok (.aload_n 0, 1) := by decide +kernel
theorem dX8_sort_72 : decode cX8_sort 72 = .ok (.dup, 1) := by decide +kernel
theorem dX8_sort_73 : decode cX8_sort 73 = .ok (.getfield 106, 3) := by decide +kernel
theorem dX8_sort_76 : decode cX8_sort 76 = .ok (.iconst 1, 1) := by decide +kernel
theorem dX8_sort_77 : decode cX8_sort 77 = .ok (.iload_n 1, 1) := by decide +kernel
theorem dX8_sort_78 : decode cX8_sort 78 = .ok (.ishl, 1) := by decide +kernel
theorem dX8_sort_79 : decode cX8_sort 79 = .ok (.ior, 1) := by decide +kernel
theorem dX8_sort_80 : decode cX8_sort 80 = .ok (.putfield 106, 3) := by decide +kernel
theorem dX8_sort_83 : decode cX8_sort 83 = .ok (.aload_n 0, 1) := by decide +kernel
theorem dX8_sort_84 : decode cX8_sort 84 = .ok (.getfield 106, 3) := by decide +kernel
theorem dX8_sort_87 : decode cX8_sort 87 = .ok (.invokestatic 130, 3) := by decide +kernel
theorem dX8_sort_90 : decode cX8_sort 90 = .ok (.ireturn, 1) := by decide +kernel
set_option maxRecDepth 20000 in
theorem ggX8_apart_X8_isNumber : GoodIn wsX8_apart wsX8_isNumber := goodIn_r _ [5, 6, 7, 8, 4, 9] (by decide +kernel) (by decide +kernel)
set_option maxRecDepth 20000 in
theorem gX8_apart_X8_isNumber : GoodIn wsX8_apart (va_wsS RX8 102 yX8_isNumber wsX8_isNumber) := goodIn_app (goodIn_of _ (by decide +kernel)) ggX8_apart_X8_isNumber
theorem dX8_apart_0 : decode cX8_apart 0 = .ok (.iload_n 1, 1) := by decide +kernel
theorem dX8_apart_1 : decode cX8_apart 1 = .ok (.invokestatic 102, 3) := by decide +kernel
theorem dX8_apart_4 : decode cX8_apart 4 = .ok (.ifCond .eq 10, 3) := by decide +kernel
theorem dX8_apart_7 : decode cX8_apart 7 = .ok (.iload_n 2, 1) := by decide +kernel
theorem dX8_apart_8 : decode cX8_apart 8 = .ok (.invokestatic 102, 3) := by decide +kernel
theorem dX8_apart_11 : decode cX8_apart 11 = .ok (.ifCond .ne 5, 3) := by decide +kernel
theorem dX8_apart_14 : decode cX8_apart 14 = .ok (.iconst (-1), 1) := by decide +kernel
theorem dX8_apart_15 : decode cX8_apart 15 = .ok (.ireturn, 1) := by decide +kernel
theorem dX8_apart_16 : decode cX8_apart 16 = .ok (.aload_n 0, 1) := by decide +kernel
theorem dX8_apart_17 : decode cX8_apart 17 = .ok (.getfield 22, 3) := by decide +kernel
theorem dX8_apart_20 : decode cX8_apart 20 = .ok (.iload_n 1, 1) := by decide +kernel
theorem dX8_apart_21 : decode cX8_apart 21 = .ok (.iload_n 3, 1) := by decide +kernel
theorem dX8_apart_22 : decode cX8_apart 22 = .ok (.ifCond .eq 16, 3) := by decide +kernel
theorem dX8_apart_25 : decode cX8_apart 25 = .ok (.aload_n 0, 1) := by decide +kernel
theorem dX8_apart_26 : decode cX8_apart 26 = .ok (.getfield 22, 3) := by decide +kernel
theorem dX8_apart_29 : decode cX8_apart 29 = .ok (.iload_n 1, 1) := by decide +kernel
theorem dX8_apart_30 : decode cX8_apart 30 = .ok (.iaload, 1) := by decide +kernel
theorem dX8_apart_31 : decode cX8_apart 31 = .ok (.iconst 1, 1) := by decide +kernel
theorem dX8_apart_32 : decode cX8_apart 32 = .ok (.iload_n 2, 1) := by decide +kernel
theorem dX8_apart_33 : decode cX8_apart 33 = .ok (.ishl, 1) := by decide +kernel
theorem dX8_apart_34 : decode cX8_apart 34 = .ok (.ior, 1) := by decide +kernel
theorem dX8_apart_35 : decode cX8_apart 35 = .ok (.goto 15, 3) := by decide +kernel
theorem dX8_apart_38 : decode cX8_apart 38 = .ok (.aload_n 0, 1) := by decide +kernel
theorem dX8_apart_39 : decode cX8_apart 39 = .ok (.getfield 22, 3) := by decide +kernel
theorem dX8_apart_42 : decode cX8_apart 42 = .ok (.iload_n 1, 1) := by decide +kernel
theorem dX8_apart_43 : decode cX8_apart 43 = .ok (.iaload, 1) := by decide +kernel
theorem dX8_apart_44 : decode cX8_apart 44 = .ok (.iconst 1, 1) := by decide +kernel
theorem dX8_apart_45 : decode cX8_apart 45 = .ok (.iload_n 2, 1) := by decide +kernel
theorem dX8_apart_46 : decode cX8_apart 46 = .ok (.ishl, 1) := by decide +kernel
theorem dX8_apart_47 : decode cX8_apart 47 = .ok (.iconst (-1), 1) := by decide +kernel
theorem dX8_apart_48 : decode cX8_apart 48 = .ok (.ixor, 1) := by decide +kernel
theorem dX8_apart_49 : decode cX8_apart 49 = .ok (.iand, 1) := by decide +kernel
theorem dX8_apart_50 : decode cX8_apart 50 = .ok (.iastore, 1) := by decide +kernel
theorem dX8_apart_51 : decode cX8_apart 51 = .ok (.aload_n 0, 1) := by decide +kernel
theorem dX8_apart_52 : decode cX8_apart 52 = .ok (.getfield 22, 3) := by decide +kernel
theorem dX8_apart_55 : decode cX8_apart 55 = .ok (.iload_n 2, 1) := by decide +kernel
theorem dX8_apart_56 : decode cX8_apart 56 = .ok (.iload_n 3, 1) := by decide +kernel
theorem dX8_apart_57 : decode cX8_apart 57 = .ok (.ifCond .eq 16, 3) := by decide +kernel
theorem dX8_apart_60 : decode cX8_apart 60 = .ok (.aload_n 0, 1) := by decide +kernel
theorem dX8_apart_61 : decode cX8_apart 61 = .ok (.getfield 22, 3) := by decide +kernel
theorem dX8_apart_64 : decode cX8_apart 64 = .ok (.iload_n 2, 1) := by decide +kernel
theorem dX8_apart_65 : decode cX8_apart 65 = .ok (.iaload, 1) := by decide +kernel
theorem dX8_apart_66 : decode cX8_apart 66 = .ok (.iconst 1, 1) := by decide +kernel
theorem dX8_apart_67 : decode cX8_apart 67 = .ok (.iload_n 1, 1) := by decide +kernel
theorem dX8_apart_68 : decode cX8_apart 68 = .ok (.ishl, 1) := by decide +kernel
theorem dX8_apart_69 : decode cX8_apart 69 = .ok (.ior, 1) := by decide +kernel
theorem dX8_apart_70 : decode cX8_apart 70 = .ok (.goto 15, 3) := by decide +kernel
theorem dX8_apart_73 : decode cX8_apart 73 = .ok (.aload_n 0, 1) := by decide +kernel
theorem dX8_apart_74 : decode cX8_apart 74 = .ok (.getfield 22, 3) := by decide +kernel
theorem dX8_apart_77 : decode cX8_apart 77 = .ok (.iload_n 2, 1) := by decide +kernel
theorem dX8_apart_78 : decode cX8_apart 78 = .ok (.iaload, 1) := by decide +kernel
theorem dX8_apart_79 : decode cX8_apart 79 = .ok (.iconst 1, 1) := by decide +kernel
theorem dX8_apart_80 : decode cX8_apart 80 = .ok (.iload_n 1, 1) := by decide +kernel
theorem dX8_apart_81 : decode cX8_apart 81 = .ok (.ishl, 1) := by decide +kernel
theorem dX8_apart_82 : decode cX8_apart 82 = .ok (.iconst (-1), 1) := by decide +kernel
theorem dX8_apart_83 : decode cX8_apart 83 = .ok (.ixor, 1) := by decide +kernel
theorem dX8_apart_84 : decode cX8_apart 84 = .ok (.iand, 1) := by decide +kernel
theorem dX8_apart_85 : decode cX8_apart 85 = .ok (.iastore, 1) := by decide +kernel
theorem dX8_apart_86 : decode cX8_apart 86 = .ok (.iconst 1, 1) := by decide +kernel
theorem dX8_apart_87 : decode cX8_apart 87 = .ok (.ireturn, 1) := by decide +kernel
set_option maxRecDepth 20000 in
theorem ggX8_say_X8_in : GoodIn wsX8_say wsX8_in := goodIn_r _ [8] (by decide +kernel) (by decide +kernel)
set_option maxRecDepth 20000 in
theorem gX8_say_X8_in : GoodIn wsX8_say (va_wsS RX8 96 yX8_in wsX8_in) := goodIn_app (goodIn_of _ (by decide +kernel)) ggX8_say_X8_in
theorem dX8_say_0 : decode cX8_say 0 = .ok (.iload_n 1, 1) := by decide +kernel
theorem dX8_say_1 : decode cX8_say 1 = .ok (.i2l, 1) := by decide +kernel
theorem dX8_say_2 : decode cX8_say 2 = .ok (.ldc2_w 134, 3) := by decide +kernel
theorem dX8_say_5 : decode cX8_say 5 = .ok (.ldc2_w 136, 3) := by decide +kernel
theorem dX8_say_8 : decode cX8_say 8 = .ok (.invokestatic 96, 3) := by decide +kernel
theorem dX8_say_11 : decode cX8_say 11 = .ok (.ifCond .ne 6, 3) := by decide +kernel
theorem dX8_say_14 : decode cX8_say 14 = .ok (.bipush (-2), 2) := by decide +kernel
theorem dX8_say_16 : decode cX8_say 16 = .ok (.ireturn, 1) := by decide +kernel
theorem dX8_say_17 : decode cX8_say 17 = .ok (.aload_n 0, 1) := by decide +kernel
theorem dX8_say_18 : decode cX8_say 18 = .ok (.getfield 138, 3) := by decide +kernel
theorem dX8_say_21 : decode cX8_say 21 = .ok (.bipush 60, 2) := by decide +kernel
theorem dX8_say_23 : decode cX8_say 23 = .ok (.if_icmp .ne 6, 3) := by decide +kernel
theorem dX8_say_26 : decode cX8_say 26 = .ok (.bipush (-4), 2) := by decide +kernel
theorem dX8_say_28 : decode cX8_say 28 = .ok (.ireturn, 1) := by decide +kernel
theorem dX8_say_29 : decode cX8_say 29 = .ok (.aload_n 0, 1) := by decide +kernel
theorem dX8_say_30 : decode cX8_say 30 = .ok (.getfield 40, 3) := by decide +kernel
theorem dX8_say_33 : decode cX8_say 33 = .ok (.aload_n 0, 1) := by decide +kernel
theorem dX8_say_34 : decode cX8_say 34 = .ok (.getfield 138, 3) := by decide +kernel
theorem dX8_say_37 : decode cX8_say 37 = .ok (.iload_n 1, 1) := by decide +kernel
theorem dX8_say_38 : decode cX8_say 38 = .ok (.iastore, 1) := by decide +kernel
theorem dX8_say_39 : decode cX8_say 39 = .ok (.aload_n 0, 1) := by decide +kernel
theorem dX8_say_40 : decode cX8_say 40 = .ok (.dup, 1) := by decide +kernel
theorem dX8_say_41 : decode cX8_say 41 = .ok (.getfield 138, 3) := by decide +kernel
theorem dX8_say_44 : decode cX8_say 44 = .ok (.iconst 1, 1) := by decide +kernel
theorem dX8_say_45 : decode cX8_say 45 = .ok (.iadd, 1) := by decide +kernel
theorem dX8_say_46 : decode cX8_say 46 = .ok (.putfield 138, 3) := by decide +kernel
theorem dX8_say_49 : decode cX8_say 49 = .ok (.aload_n 0, 1) := by decide +kernel
theorem dX8_say_50 : decode cX8_say 50 = .ok (.getfield 138, 3) := by decide +kernel
theorem dX8_say_53 : decode cX8_say 53 = .ok (.ireturn, 1) := by decide +kernel
theorem dX8_wipe_0 : decode cX8_wipe 0 = .ok (.aload_n 0, 1) := by decide +kernel
theorem dX8_wipe_1 : decode cX8_wipe 1 = .ok (.getfield 138, 3) := by decide +kernel
theorem dX8_wipe_4 : decode cX8_wipe 4 = .ok (.istore_n 1, 1) := by decide +kernel
theorem dX8_wipe_5 : decode cX8_wipe 5 = .ok (.aload_n 0, 1) := by decide +kernel
theorem dX8_wipe_6 : decode cX8_wipe 6 = .ok (.iconst 0, 1) := by decide +kernel
theorem dX8_wipe_7 : decode cX8_wipe 7 = .ok (.putfield 138, 3) := by decide +kernel
theorem dX8_wipe_10 : decode cX8_wipe 10 = .ok (.iload_n 1, 1) := by decide +kernel
theorem dX8_wipe_11 : decode cX8_wipe 11 = .ok (.ireturn, 1) := by decide +kernel
theorem dX8_isTime_0 : decode cX8_isTime 0 = .ok (.iload_n 0, 1) := by decide +kernel
theorem dX8_isTime_1 : decode cX8_isTime 1 = .ok (.bipush 46, 2) := by decide +kernel
theorem dX8_isTime_3 : decode cX8_isTime 3 = .ok (.if_icmp .eq 9, 3) := by decide +kernel
theorem dX8_isTime_6 : decode cX8_isTime 6 = .ok (.iload_n 0, 1) := by decide +kernel
theorem dX8_isTime_7 : decode cX8_isTime 7 = .ok (.bipush 58, 2) := by decide +kernel
theorem dX8_isTime_9 : decode cX8_isTime 9 = .ok (.if_icmp .ne 7, 3) := by decide +kernel
theorem dX8_isTime_12 : decode cX8_isTime 12 = .ok (.iconst 1, 1) := by decide +kernel
theorem dX8_isTime_13 : decode cX8_isTime 13 = .ok (.goto 4, 3) := by decide +kernel
theorem dX8_isTime_16 : decode cX8_isTime 16 = .ok (.iconst 0, 1) := by decide +kernel
theorem dX8_isTime_17 : decode cX8_isTime 17 = .ok (.ireturn, 1) := by decide +kernel
set_option maxRecDepth 20000 in
theorem ggX8_fault_X8_isNumber : GoodIn wsX8_fault wsX8_isNumber := goodIn_r _ [11, 12, 13, 14, 10, 15] (by decide +kernel) (by decide +kernel)
set_option maxRecDepth 20000 in
theorem gX8_fault_X8_isNumber : GoodIn wsX8_fault (va_wsS RX8 102 yX8_isNumber wsX8_isNumber) := goodIn_app (goodIn_of _ (by decide +kernel)) ggX8_fault_X8_isNumber
set_option maxRecDepth 20000 in
theorem ggX8_fault_X8_isTime : GoodIn wsX8_fault wsX8_isTime := goodIn_r _ [18] (by decide +kernel) (by decide +kernel)
set_option maxRecDepth 20000 in
theorem gX8_fault_X8_isTime : GoodIn wsX8_fault (va_wsS RX8 144 yX8_isTime wsX8_isTime) := goodIn_app (goodIn_of _ (by decide +kernel)) ggX8_fault_X8_isTime
set_option maxRecDepth 20000 in
theorem ggX8_fault_X8_in : GoodIn wsX8_fault wsX8_in := goodIn_r _ [15] (by decide +kernel) (by decide +kernel)
set_option maxRecDepth 20000 in
theorem gX8_fault_X8_in : GoodIn wsX8_fault (va_wsS RX8 96 yX8_in wsX8_in) := goodIn_app (goodIn_of _ (by decide +kernel)) ggX8_fault_X8_in
set_option maxRecDepth 20000 in
theorem ggX8_fault_X8_isRow : GoodIn wsX8_fault wsX8_isRow := goodIn_r _ [22, 23, 13, 14, 10, 15, 24, 25, 26, 27, 28, 29, 30, 31, 32, 33, 34, 35, 36, 37, 38, 39, 40, 41, 42, 43, 44, 45, 46, 47, 48, 49, 50, 51, 52, 53, 54, 55, 56, 57, 58, 59, 60, 61, 62, 63, 64, 65, 66, 67, 68, 69] (by decide +kernel) (by decide +kernel)
set_option maxRecDepth 20000 in
theorem gX8_fault_X8_isRow : GoodIn wsX8_fault (wsV RX8 151 RX8 yX8_isRow wsX8_isRow) := goodIn_app (goodIn_of _ (by decide +kernel)) ggX8_fault_X8_isRow
theorem dX8_fault_0 : decode cX8_fault 0 = .ok (.aload_n 0, 1) := by decide +kernel
theorem dX8_fault_1 : decode cX8_fault 1 = .ok (.iconst 0, 1) := by decide +kernel
theorem dX8_fault_2 : decode cX8_fault 2 = .ok (.putfield 141, 3) := by decide +kernel
theorem dX8_fault_5 : decode cX8_fault 5 = .ok (.iconst 0, 1) := by decide +kernel
theorem dX8_fault_6 : decode cX8_fault 6 = .ok (.istore_n 1, 1) := by decide +kernel
theorem dX8_fault_7 : decode cX8_fault 7 = .ok (.iconst 0, 1) := by decide +kernel
theorem dX8_fault_8 : decode cX8_fault 8 = .ok (.istore_n 2, 1) := by decide +kernel
theorem dX8_fault_9 : decode cX8_fault 9 = .ok (.iload_n 2, 1) := by decide +kernel
theorem dX8_fault_10 : decode cX8_fault 10 = .ok (.aload_n 0, 1) := by decide +kernel
theorem dX8_fault_11 : decode cX8_fault 11 = .ok (.getfield 138, 3) := by decide +kernel
theorem dX8_fault_14 : decode cX8_fault 14 = .ok (.if_icmp .ge 203, 3) := by decide +kernel
theorem dX8_fault_17 : decode cX8_fault 17 = .ok (.aload_n 0, 1) := by decide +kernel
theorem dX8_fault_18 : decode cX8_fault 18 = .ok (.getfield 40, 3) := by decide +kernel
theorem dX8_fault_21 : decode cX8_fault 21 = .ok (.iload_n 2, 1) := by decide +kernel
theorem dX8_fault_22 : decode cX8_fault 22 = .ok (.iaload, 1) := by decide +kernel
theorem dX8_fault_23 : decode cX8_fault 23 = .ok (.istore_n 3, 1) := by decide +kernel
theorem dX8_fault_24 : decode cX8_fault 24 = .ok (.iload_n 1, 1) := by decide +kernel
theorem dX8_fault_25 : decode cX8_fault 25 = .ok (.ifCond .eq 27, 3) := by decide +kernel
theorem dX8_fault_28 : decode cX8_fault 28 = .ok (.iload_n 3, 1) := by decide +kernel
theorem dX8_fault_29 : decode cX8_fault 29 = .ok (.bipush 45, 2) := by decide +kernel
theorem dX8_fault_31 : decode cX8_fault 31 = .ok (.if_icmp .eq 13, 3) := by decide +kernel
theorem dX8_fault_34 : decode cX8_fault 34 = .ok (.iload_n 3, 1) := by decide +kernel
theorem dX8_fault_35 : decode cX8_fault 35 = .ok (.bipush 97, 2) := by decide +kernel
theorem dX8_fault_37 : decode cX8_fault 37 = .ok (.isub, 1) := by decide +kernel
theorem dX8_fault_38 : decode cX8_fault 38 = .ok (.invokestatic 102, 3) := by decide +kernel
theorem dX8_fault_41 : decode cX8_fault 41 = .ok (.ifCond .eq 7, 3) := by decide +kernel
theorem dX8_fault_44 : decode cX8_fault 44 = .ok (.iconst 1, 1) := by decide +kernel
theorem dX8_fault_45 : decode cX8_fault 45 = .ok (.goto 44, 3) := by decide +kernel
theorem dX8_fault_48 : decode cX8_fault 48 = .ok (.iconst 0, 1) := by decide +kernel
theorem dX8_fault_49 : decode cX8_fault 49 = .ok (.goto 40, 3) := by decide +kernel
theorem dX8_fault_52 : decode cX8_fault 52 = .ok (.iload_n 3, 1) := by decide +kernel
theorem dX8_fault_53 : decode cX8_fault 53 = .ok (.invokestatic 144, 3) := by decide +kernel
theorem dX8_fault_56 : decode cX8_fault 56 = .ok (.ifCond .ne 28, 3) := by decide +kernel
theorem dX8_fault_59 : decode cX8_fault 59 = .ok (.iload_n 3, 1) := by decide +kernel
theorem dX8_fault_60 : decode cX8_fault 60 = .ok (.i2l, 1) := by decide +kernel
theorem dX8_fault_61 : decode cX8_fault 61 = .ok (.ldc2_w 147, 3) := by decide +kernel
theorem dX8_fault_64 : decode cX8_fault 64 = .ok (.ldc2_w 149, 3) := by decide +kernel
theorem dX8_fault_67 : decode cX8_fault 67 = .ok (.invokestatic 96, 3) := by decide +kernel
theorem dX8_fault_70 : decode cX8_fault 70 = .ok (.ifCond .eq 18, 3) := by decide +kernel
theorem dX8_fault_73 : decode cX8_fault 73 = .ok (.aload_n 0, 1) := by decide +kernel
theorem dX8_fault_74 : decode cX8_fault 74 = .ok (.iload_n 3, 1) := by decide +kernel
theorem dX8_fault_75 : decode cX8_fault 75 = .ok (.bipush 48, 2) := by decide +kernel
theorem dX8_fault_77 : decode cX8_fault 77 = .ok (.isub, 1) := by decide +kernel
theorem dX8_fault_78 : decode cX8_fault 78 = .ok (.invokevirtual 151, 3) := by decide +kernel
theorem dX8_fault_81 : decode cX8_fault 81 = .ok (.ifCond .eq 7, 3) := by decide +kernel
theorem dX8_fault_84 : decode cX8_fault 84 = .ok (.iconst 1, 1) := by decide +kernel
theorem dX8_fault_85 : decode cX8_fault 85 = .ok (.goto 4, 3) := by decide +kernel
theorem dX8_fault_88 : decode cX8_fault 88 = .ok (.iconst 0, 1) := by decide +kernel
theorem dX8_fault_89 : decode cX8_fault 89 = .ok (.istore 4, 2) := by decide +kernel
theorem dX8_fault_91 : decode cX8_fault 91 = .ok (.iload 4, 2) := by decide +kernel
theorem dX8_fault_93 : decode cX8_fault 93 = .ok (.ifCond .ne 5, 3) := by decide +kernel
theorem dX8_fault_96 : decode cX8_fault 96 = .ok (.iload_n 2, 1) := by decide +kernel
theorem dX8_fault_97 : decode cX8_fault 97 = .ok (.ireturn, 1) := by decide +kernel
theorem dX8_fault_98 : decode cX8_fault 98 = .ok (.iload_n 1, 1) := by decide +kernel
theorem dX8_fault_99 : decode cX8_fault 99 = .ok (.ifCond .eq 40, 3) := by decide +kernel
theorem dX8_fault_102 : decode cX8_fault 102 = .ok (.aload_n 0, 1) := by decide +kernel
theorem dX8_fault_103 : decode cX8_fault 103 = .ok (.getfield 43, 3) := by decide +kernel
theorem dX8_fault_106 : decode cX8_fault 106 = .ok (.aload_n 0, 1) := by decide +kernel
theorem dX8_fault_107 : decode cX8_fault 107 = .ok (.getfield 141, 3) := by decide +kernel
theorem dX8_fault_110 : decode cX8_fault 110 = .ok (.iload_n 3, 1) := by decide +kernel
theorem dX8_fault_111 : decode cX8_fault 111 = .ok (.bipush 45, 2) := by decide +kernel
theorem dX8_fault_113 : decode cX8_fault 113 = .ok (.if_icmp .ne 8, 3) := by decide +kernel
theorem dX8_fault_116 : decode cX8_fault 116 = .ok (.bipush 6, 2) := by decide +kernel
theorem dX8_fault_118 : decode cX8_fault 118 = .ok (.goto 7, 3) := by decide +kernel
theorem dX8_fault_121 : decode cX8_fault 121 = .ok (.iload_n 3, 1) := by decide +kernel
theorem dX8_fault_122 : decode cX8_fault 122 = .ok (.bipush 97, 2) := by decide +kernel
theorem dX8_fault_124 : decode cX8_fault 124 = .ok (.isub, 1) := by decide +kernel
theorem dX8_fault_125 : decode cX8_fault 125 = .ok (.iastore, 1) := by decide +kernel
theorem dX8_fault_126 : decode cX8_fault 126 = .ok (.aload_n 0, 1) := by decide +kernel
theorem dX8_fault_127 : decode cX8_fault 127 = .ok (.dup, 1) := by decide +kernel
theorem dX8_fault_128 : decode cX8_fault 128 = .ok (.getfield 141, 3) := by decide +kernel
theorem dX8_fault_131 : decode cX8_fault 131 = .ok (.iconst 1, 1) := by decide +kernel
theorem dX8_fault_132 : decode cX8_fault 132 = .ok (.iadd, 1) := by decide +kernel
theorem dX8_fault_133 : decode cX8_fault 133 = .ok (.putfield 141, 3) := by decide +kernel
theorem dX8_fault_136 : decode cX8_fault 136 = .ok (.goto 58, 3) := by decide +kernel
theorem dX8_fault_139 : decode cX8_fault 139 = .ok (.iload_n 3, 1) := by decide +kernel
theorem dX8_fault_140 : decode cX8_fault 140 = .ok (.invokestatic 144, 3) := by decide +kernel
theorem dX8_fault_143 : decode cX8_fault 143 = .ok (.ifCond .eq 38, 3) := by decide +kernel
theorem dX8_fault_146 : decode cX8_fault 146 = .ok (.aload_n 0, 1) := by decide +kernel
theorem dX8_fault_147 : decode cX8_fault 147 = .ok (.getfield 43, 3) := by decide +kernel
theorem dX8_fault_150 : decode cX8_fault 150 = .ok (.aload_n 0, 1) := by decide +kernel
theorem dX8_fault_151 : decode cX8_fault 151 = .ok (.getfield 141, 3) := by decide +kernel
theorem dX8_fault_154 : decode cX8_fault 154 = .ok (.iload_n 3, 1) := by decide +kernel
theorem dX8_fault_155 : decode cX8_fault 155 = .ok (.bipush 46, 2) := by decide +kernel
theorem dX8_fault_157 : decode cX8_fault 157 = .ok (.if_icmp .ne 8, 3) := by decide +kernel
theorem dX8_fault_160 : decode cX8_fault 160 = .ok (.bipush 7, 2) := by decide +kernel
theorem dX8_fault_162 : decode cX8_fault 162 = .ok (.goto 5, 3) := by decide +kernel
theorem dX8_fault_165 : decode cX8_fault 165 = .ok (.bipush 8, 2) := by decide +kernel
theorem dX8_fault_167 : decode cX8_fault 167 = .ok (.iastore, 1) := by decide +kernel
theorem dX8_fault_168 : decode cX8_fault 168 = .ok (.aload_n 0, 1) := by decide +kernel
theorem dX8_fault_169 : decode cX8_fault 169 = .ok (.dup, 1) := by decide +kernel
theorem dX8_fault_170 : decode cX8_fault 170 = .ok (.getfield 141, 3) := by decide +kernel
theorem dX8_fault_173 : decode cX8_fault 173 = .ok (.iconst 1, 1) := by decide +kernel
theorem dX8_fault_174 : decode cX8_fault 174 = .ok (.iadd, 1) := by decide +kernel
theorem dX8_fault_175 : decode cX8_fault 175 = .ok (.putfield 141, 3) := by decide +kernel
theorem dX8_fault_178 : decode cX8_fault 178 = .ok (.goto 16, 3) := by decide +kernel
theorem dX8_fault_181 : decode cX8_fault 181 = .ok (.aload_n 0, 1) := by decide +kernel
theorem dX8_fault_182 : decode cX8_fault 182 = .ok (.getfield 46, 3) := by decide +kernel
theorem dX8_fault_185 : decode cX8_fault 185 = .ok (.aload_n 0, 1) := by decide +kernel
theorem dX8_fault_186 : decode cX8_fault 186 = .ok (.getfield 141, 3) := by decide +kernel
theorem dX8_fault_189 : decode cX8_fault 189 = .ok (.iload_n 3, 1) := by decide +kernel
theorem dX8_fault_190 : decode cX8_fault 190 = .ok (.bipush 48, 2) := by decide +kernel
theorem dX8_fault_192 : decode cX8_fault 192 = .ok (.isub, 1) := by decide +kernel
theorem dX8_fault_193 : decode cX8_fault 193 = .ok (.iastore, 1) := by decide +kernel
theorem dX8_fault_194 : decode cX8_fault 194 = .ok (.iload_n 1, 1) := by decide +kernel
theorem dX8_fault_195 : decode cX8_fault 195 = .ok (.ifCond .ne 14, 3) := by decide +kernel
theorem dX8_fault_198 : decode cX8_fault 198 = .ok (.iload_n 3, 1) := by decide +kernel
theorem dX8_fault_199 : decode cX8_fault 199 = .ok (.invokestatic 144, 3) := by decide +kernel
theorem dX8_fault_202 : decode cX8_fault 202 = .ok (.ifCond .ne 7, 3) := by decide +kernel
theorem dX8_fault_205 : decode cX8_fault 205 = .ok (.iconst 1, 1) := by decide +kernel
theorem dX8_fault_206 : decode cX8_fault 206 = .ok (.goto 4, 3) := by decide +kernel
theorem dX8_fault_209 : decode cX8_fault 209 = .ok (.iconst 0, 1) := by decide +kernel
theorem dX8_fault_210 : decode cX8_fault 210 = .ok (.istore_n 1, 1) := by decide +kernel
theorem dX8_fault_211 : decode cX8_fault 211 = .ok (.iinc 2 1, 3) := by decide +kernel
theorem dX8_fault_214 : decode cX8_fault 214 = .ok (.goto (-205), 3) := by decide +kernel
theorem dX8_fault_217 : decode cX8_fault 217 = .ok (.iload_n 1, 1) := by decide +kernel
theorem dX8_fault_218 : decode cX8_fault 218 = .ok (.ifCond .eq 10, 3) := by decide +kernel
theorem dX8_fault_221 : decode cX8_fault 221 = .ok (.aload_n 0, 1) := by decide +kernel
theorem dX8_fault_222 : decode cX8_fault 222 = .ok (.getfield 138, 3) := by decide +kernel
theorem dX8_fault_225 : decode cX8_fault 225 = .ok (.goto 5, 3) := by decide +kernel
theorem dX8_fault_228 : decode cX8_fault 228 = .ok (.bipush (-6), 2) := by decide +kernel
theorem dX8_fault_230 : decode cX8_fault 230 = .ok (.ireturn, 1) := by decide +kernel
theorem dX8_passMinute_0 : decode cX8_passMinute 0 = .ok (.iconst 0, 1) := by decide +kernel
theorem dX8_passMinute_1 : decode cX8_passMinute 1 = .ok (.istore_n 1, 1) := by decide +kernel
theorem dX8_passMinute_2 : decode cX8_passMinute 2 = .ok (.iload_n 1, 1) := by decide +kernel
theorem dX8_passMinute_3 : decode cX8_passMinute 3 = .ok (.aload_n 0, 1) := by decide +kernel
theorem dX8_passMinute_4 : decode cX8_passMinute 4 = .ok (.getfield 80, 3) := by decide +kernel
theorem dX8_passMinute_7 : decode cX8_passMinute 7 = .ok (.if_icmp .ge 62, 3) := by decide +kernel
theorem dX8_passMinute_10 : decode cX8_passMinute 10 = .ok (.iconst 0, 1) := by decide +kernel
theorem dX8_passMinute_11 : decode cX8_passMinute 11 = .ok (.istore_n 2, 1) := by decide +kernel
theorem dX8_passMinute_12 : decode cX8_passMinute 12 = .ok (.iload_n 2, 1) := by decide +kernel
theorem dX8_passMinute_13 : decode cX8_passMinute 13 = .ok (.aload_n 0, 1) := by decide +kernel
theorem dX8_passMinute_14 : decode cX8_passMinute 14 = .ok (.getfield 25, 3) := by decide +kernel
theorem dX8_passMinute_17 : decode cX8_passMinute 17 = .ok (.iload_n 1, 1) := by decide +kernel
theorem dX8_passMinute_18 : decode cX8_passMinute 18 = .ok (.iaload, 1) := by decide +kernel
theorem dX8_passMinute_19 : decode cX8_passMinute 19 = .ok (.if_icmp .ge 44, 3) := by decide +kernel
theorem dX8_passMinute_22 : decode cX8_passMinute 22 = .ok (.aload_n 0, 1) := by decide +kernel
theorem dX8_passMinute_23 : decode cX8_passMinute 23 = .ok (.getfield 87, 3) := by decide +kernel
theorem dX8_passMinute_26 : decode cX8_passMinute 26 = .ok (.aload_n 0, 1) := by decide +kernel
theorem dX8_passMinute_27 : decode cX8_passMinute 27 = .ok (.getfield 7, 3) := by decide +kernel
theorem dX8_passMinute_30 : decode cX8_passMinute 30 = .ok (.iload_n 2, 1) := by decide +kernel
theorem dX8_passMinute_31 : decode cX8_passMinute 31 = .ok (.iaload, 1) := by decide +kernel
theorem dX8_passMinute_32 : decode cX8_passMinute 32 = .ok (.isub, 1) := by decide +kernel
theorem dX8_passMinute_33 : decode cX8_passMinute 33 = .ok (.istore_n 3, 1) := by decide +kernel
theorem dX8_passMinute_34 : decode cX8_passMinute 34 = .ok (.aload_n 0, 1) := by decide +kernel
theorem dX8_passMinute_35 : decode cX8_passMinute 35 = .ok (.getfield 31, 3) := by decide +kernel
theorem dX8_passMinute_38 : decode cX8_passMinute 38 = .ok (.bipush 6, 2) := by decide +kernel
theorem dX8_passMinute_40 : decode cX8_passMinute 40 = .ok (.iload_n 1, 1) := by decide +kernel
theorem dX8_passMinute_41 : decode cX8_passMinute 41 = .ok (.imul, 1) := by decide +kernel
theorem dX8_passMinute_42 : decode cX8_passMinute 42 = .ok (.iload_n 2, 1) := by decide +kernel
theorem dX8_passMinute_43 : decode cX8_passMinute 43 = .ok (.iadd, 1) := by decide +kernel
theorem dX8_passMinute_44 : decode cX8_passMinute 44 = .ok (.dup2, 1) := by decide +kernel
theorem dX8_passMinute_45 : decode cX8_passMinute 45 = .ok (.iaload, 1) := by decide +kernel
theorem dX8_passMinute_46 : decode cX8_passMinute 46 = .ok (.iload_n 3, 1) := by decide +kernel
theorem dX8_passMinute_47 : decode cX8_passMinute 47 = .ok (.ifCond .le 7, 3) := by decide +kernel
theorem dX8_passMinute_50 : decode cX8_passMinute 50 = .ok (.iload_n 3, 1) := by decide +kernel
theorem dX8_passMinute_51 : decode cX8_passMinute 51 = .ok (.goto 4, 3) := by decide +kernel
theorem dX8_passMinute_54 : decode cX8_passMinute 54 = .ok (.iconst 0, 1) := by decide +kernel
theorem dX8_passMinute_55 : decode cX8_passMinute 55 = .ok (.iadd, 1) := by decide +kernel
theorem dX8_passMinute_56 : decode cX8_passMinute 56 = .ok (.iastore, 1) := by decide +kernel
theorem dX8_passMinute_57 : decode cX8_passMinute 57 = .ok (.iinc 2 1, 3) := by decide +kernel
theorem dX8_passMinute_60 : decode cX8_passMinute 60 = .ok (.goto (-48), 3) := by decide +kernel
theorem dX8_passMinute_63 : decode cX8_passMinute 63 = .ok (.iinc 1 1, 3) := by decide +kernel
theorem dX8_passMinute_66 : decode cX8_passMinute 66 = .ok (.goto (-64), 3) := by decide +kernel
theorem dX8_passMinute_69 : decode cX8_passMinute 69 = .ok (.aload_n 0, 1) := by decide +kernel
theorem dX8_passMinute_70 : decode cX8_passMinute 70 = .ok (.dup, 1) := by decide +kernel
theorem dX8_passMinute_71 : decode cX8_passMinute 71 = .ok (.getfield 87, 3) := by decide +kernel
theorem dX8_passMinute_74 : decode cX8_passMinute 74 = .ok (.aload_n 0, 1) := by decide +kernel
theorem dX8_passMinute_75 : decode cX8_passMinute 75 = .ok (.getfield 90, 3) := by decide +kernel
theorem dX8_passMinute_78 : decode cX8_passMinute 78 = .ok (.aload_n 0, 1) := by decide +kernel
theorem dX8_passMinute_79 : decode cX8_passMinute 79 = .ok (.getfield 113, 3) := by decide +kernel
theorem dX8_passMinute_82 : decode cX8_passMinute 82 = .ok (.iconst 1, 1) := by decide +kernel
theorem dX8_passMinute_83 : decode cX8_passMinute 83 = .ok (.if_icmp .ne 10, 3) := by decide +kernel
theorem dX8_passMinute_86 : decode cX8_passMinute 86 = .ok (.aload_n 0, 1) := by decide +kernel
theorem dX8_passMinute_87 : decode cX8_passMinute 87 = .ok (.getfield 93, 3) := by decide +kernel
theorem dX8_passMinute_90 : decode cX8_passMinute 90 = .ok (.goto 4, 3) := by decide +kernel
theorem dX8_passMinute_93 : decode cX8_passMinute 93 = .ok (.iconst 0, 1) := by decide +kernel
theorem dX8_passMinute_94 : decode cX8_passMinute 94 = .ok (.iadd, 1) := by decide +kernel
theorem dX8_passMinute_95 : decode cX8_passMinute 95 = .ok (.isub, 1) := by decide +kernel
theorem dX8_passMinute_96 : decode cX8_passMinute 96 = .ok (.putfield 87, 3) := by decide +kernel
theorem dX8_passMinute_99 : decode cX8_passMinute 99 = .ok (.aload_n 0, 1) := by decide +kernel
theorem dX8_passMinute_100 : decode cX8_passMinute 100 = .ok (.aload_n 0, 1) := by decide +kernel
theorem dX8_passMinute_101 : decode cX8_passMinute 101 = .ok (.getfield 87, 3) := by decide +kernel
theorem dX8_passMinute_104 : decode cX8_passMinute 104 = .ok (.ifCond .ge 7, 3) := by decide +kernel
theorem dX8_passMinute_107 : decode cX8_passMinute 107 = .ok (.iconst 0, 1) := by decide +kernel
theorem dX8_passMinute_108 : decode cX8_passMinute 108 = .ok (.goto 7, 3) := by decide +kernel
theorem dX8_passMinute_111 : decode cX8_passMinute 111 = .ok (.aload_n 0, 1) := by decide +kernel
theorem dX8_passMinute_112 : decode cX8_passMinute 112 = .ok (.getfield 87, 3) := by decide +kernel
theorem dX8_passMinute_115 : decode cX8_passMinute 115 = .ok (.putfield 87, 3) := by decide +kernel
theorem dX8_passMinute_118 : decode cX8_passMinute 118 = .ok (.aload_n 0, 1) := by decide +kernel
theorem dX8_passMinute_119 : decode cX8_passMinute 119 = .ok (.iconst 0, 1) := by decide +kernel
theorem dX8_passMinute_120 : decode cX8_passMinute 120 = .ok (.putfield 113, 3) := by decide +kernel
theorem dX8_passMinute_123 : decode cX8_passMinute 123 = .ok (.return_, 1) := by decide +kernel
theorem dX8_ripeness_0 : decode cX8_ripeness 0 = .ok (.iload_n 2, 1) := by decide +kernel
theorem dX8_ripeness_1 : decode cX8_ripeness 1 = .ok (.aload_n 0, 1) := by decide +kernel
theorem dX8_ripeness_2 : decode cX8_ripeness 2 = .ok (.getfield 13, 3) := by decide +kernel
theorem dX8_ripeness_5 : decode cX8_ripeness 5 = .ok (.iload_n 1, 1) := by decide +kernel
theorem dX8_ripeness_6 : decode cX8_ripeness 6 = .ok (.iaload, 1) := by decide +kernel
theorem dX8_ripeness_7 : decode cX8_ripeness 7 = .ok (.if_icmp .ge 7, 3) := by decide +kernel
theorem dX8_ripeness_10 : decode cX8_ripeness 10 = .ok (.iconst 0, 1) := by decide +kernel
theorem dX8_ripeness_11 : decode cX8_ripeness 11 = .ok (.goto 25, 3) := by decide +kernel
theorem dX8_ripeness_14 : decode cX8_ripeness 14 = .ok (.iload_n 2, 1) := by decide +kernel
theorem dX8_ripeness_15 : decode cX8_ripeness 15 = .ok (.aload_n 0, 1) := by decide +kernel
theorem dX8_ripeness_16 : decode cX8_ripeness 16 = .ok (.getfield 13, 3) := by decide +kernel
theorem dX8_ripeness_19 : decode cX8_ripeness 19 = .ok (.iload_n 1, 1) := by decide +kernel
theorem dX8_ripeness_20 : decode cX8_ripeness 20 = .ok (.iaload, 1) := by decide +kernel
theorem dX8_ripeness_21 : decode cX8_ripeness 21 = .ok (.aload_n 0, 1) := by decide +kernel
theorem dX8_ripeness_22 : decode cX8_ripeness 22 = .ok (.getfield 16, 3) := by decide +kernel
theorem dX8_ripeness_25 : decode cX8_ripeness 25 = .ok (.iload_n 1, 1) := by decide +kernel
theorem dX8_ripeness_26 : decode cX8_ripeness 26 = .ok (.iaload, 1) := by decide +kernel
theorem dX8_ripeness_27 : decode cX8_ripeness 27 = .ok (.iadd, 1) := by decide +kernel
theorem dX8_ripeness_28 : decode cX8_ripeness 28 = .ok (.if_icmp .gt 7, 3) := by decide +kernel
theorem dX8_ripeness_31 : decode cX8_ripeness 31 = .ok (.iconst 1, 1) := by decide +kernel
theorem dX8_ripeness_32 : decode cX8_ripeness 32 = .ok (.goto 4, 3) := by decide +kernel
theorem dX8_ripeness_35 : decode cX8_ripeness 35 = .ok (.iconst 2, 1) := by decide +kernel
theorem dX8_ripeness_36 : decode cX8_ripeness 36 = .ok (.ireturn, 1) := by decide +kernel
set_option maxRecDepth 20000 in
theorem ggX8_whyNot_X8_isSort : GoodIn wsX8_whyNot wsX8_isSort := goodIn_r _ [9, 10, 11, 12, 8, 13, 14, 15, 16, 17, 18, 19, 20, 21, 22, 23, 24, 25, 26, 27, 28, 29, 30, 31, 32, 33, 34, 35, 36, 37, 38, 39, 40, 41, 42, 43, 44, 45, 46, 47, 48, 49, 50, 51, 52, 53, 54, 55, 56, 57, 58, 59, 60, 61, 62, 63] (by decide +kernel) (by decide +kernel)
set_option maxRecDepth 20000 in
theorem gX8_whyNot_X8_isSort : GoodIn wsX8_whyNot (wsV RX8 154 RX8 yX8_isSort wsX8_isSort) := goodIn_app (goodIn_of _ (by decide +kernel)) ggX8_whyNot_X8_isSort
theorem dX8_whyNot_0 : decode cX8_whyNot 0 = .ok (.aload_n 0, 1) := by decide +kernel
theorem dX8_whyNot_1 : decode cX8_whyNot 1 = .ok (.getfield 43, 3) := by decide +kernel
theorem dX8_whyNot_4 : decode cX8_whyNot 4 = .ok (.iload_n 1, 1) := by decide +kernel
theorem dX8_whyNot_5 : decode cX8_whyNot 5 = .ok (.iaload, 1) := by decide +kernel
theorem dX8_whyNot_6 : decode cX8_whyNot 6 = .ok (.bipush 6, 2) := by decide +kernel
theorem dX8_whyNot_8 : decode cX8_whyNot 8 = .ok (.if_icmp .le 5, 3) := by decide +kernel
theorem dX8_whyNot_11 : decode cX8_whyNot 11 = .ok (.iconst 0, 1) := by decide +kernel
theorem dX8_whyNot_12 : decode cX8_whyNot 12 = .ok (.ireturn, 1) := by decide +kernel
theorem dX8_whyNot_13 : decode cX8_whyNot 13 = .ok (.aload_n 0, 1) := by decide +kernel
theorem dX8_whyNot_14 : decode cX8_whyNot 14 = .ok (.getfield 46, 3) := by decide +kernel
theorem dX8_whyNot_17 : decode cX8_whyNot 17 = .ok (.iload_n 1, 1) := by decide +kernel
theorem dX8_whyNot_18 : decode cX8_whyNot 18 = .ok (.iaload, 1) := by decide +kernel
theorem dX8_whyNot_19 : decode cX8_whyNot 19 = .ok (.istore_n 2, 1) := by decide +kernel
theorem dX8_whyNot_20 : decode cX8_whyNot 20 = .ok (.aload_n 0, 1) := by decide +kernel
theorem dX8_whyNot_21 : decode cX8_whyNot 21 = .ok (.getfield 43, 3) := by decide +kernel
theorem dX8_whyNot_24 : decode cX8_whyNot 24 = .ok (.iload_n 1, 1) := by decide +kernel
theorem dX8_whyNot_25 : decode cX8_whyNot 25 = .ok (.iaload, 1) := by decide +kernel
theorem dX8_whyNot_26 : decode cX8_whyNot 26 = .ok (.bipush 6, 2) := by decide +kernel
theorem dX8_whyNot_28 : decode cX8_whyNot 28 = .ok (.if_icmp .ne 18, 3) := by decide +kernel
theorem dX8_whyNot_31 : decode cX8_whyNot 31 = .ok (.aload_n 0, 1) := by decide +kernel
theorem dX8_whyNot_32 : decode cX8_whyNot 32 = .ok (.getfield 25, 3) := by decide +kernel
theorem dX8_whyNot_35 : decode cX8_whyNot 35 = .ok (.iload_n 2, 1) := by decide +kernel
theorem dX8_whyNot_36 : decode cX8_whyNot 36 = .ok (.iaload, 1) := by decide +kernel
theorem dX8_whyNot_37 : decode cX8_whyNot 37 = .ok (.ifCond .ne 7, 3) := by decide +kernel
theorem dX8_whyNot_40 : decode cX8_whyNot 40 = .ok (.iconst 3, 1) := by decide +kernel
theorem dX8_whyNot_41 : decode cX8_whyNot 41 = .ok (.goto 4, 3) := by decide +kernel
theorem dX8_whyNot_44 : decode cX8_whyNot 44 = .ok (.iconst 0, 1) := by decide +kernel
theorem dX8_whyNot_45 : decode cX8_whyNot 45 = .ok (.ireturn, 1) := by decide +kernel
theorem dX8_whyNot_46 : decode cX8_whyNot 46 = .ok (.aload_n 0, 1) := by decide +kernel
theorem dX8_whyNot_47 : decode cX8_whyNot 47 = .ok (.aload_n 0, 1) := by decide +kernel
theorem dX8_whyNot_48 : decode cX8_whyNot 48 = .ok (.getfield 43, 3) := by decide +kernel
theorem dX8_whyNot_51 : decode cX8_whyNot 51 = .ok (.iload_n 1, 1) := by decide +kernel
theorem dX8_whyNot_52 : decode cX8_whyNot 52 = .ok (.iaload, 1) := by decide +kernel
theorem dX8_whyNot_53 : decode cX8_whyNot 53 = .ok (.invokevirtual 154, 3) := by decide +kernel
theorem dX8_whyNot_56 : decode cX8_whyNot 56 = .ok (.ifCond .ne 7, 3) := by decide +kernel
theorem dX8_whyNot_59 : decode cX8_whyNot 59 = .ok (.iconst 1, 1) := by decide +kernel
theorem dX8_whyNot_60 : decode cX8_whyNot 60 = .ok (.goto 21, 3) := by decide +kernel
theorem dX8_whyNot_63 : decode cX8_whyNot 63 = .ok (.aload_n 0, 1) := by decide +kernel
theorem dX8_whyNot_64 : decode cX8_whyNot 64 = .ok (.getfield 25, 3) := by decide +kernel
theorem dX8_whyNot_67 : decode cX8_whyNot 67 = .ok (.iload_n 2, 1) := by decide +kernel
theorem dX8_whyNot_68 : decode cX8_whyNot 68 = .ok (.iaload, 1) := by decide +kernel
theorem dX8_whyNot_69 : decode cX8_whyNot 69 = .ok (.aload_n 0, 1) := by decide +kernel
theorem dX8_whyNot_70 : decode cX8_whyNot 70 = .ok (.getfield 84, 3) := by decide +kernel
theorem dX8_whyNot_73 : decode cX8_whyNot 73 = .ok (.if_icmp .ne 7, 3) := by decide +kernel
theorem dX8_whyNot_76 : decode cX8_whyNot 76 = .ok (.iconst 2, 1) := by decide +kernel
theorem dX8_whyNot_77 : decode cX8_whyNot 77 = .ok (.goto 4, 3) := by decide +kernel
theorem dX8_whyNot_80 : decode cX8_whyNot 80 = .ok (.iconst 0, 1) := by decide +kernel
theorem dX8_whyNot_81 : decode cX8_whyNot 81 = .ok (.ireturn, 1) := by decide +kernel
set_option maxRecDepth 20000 in
theorem ggX8_happen_X8_passMinute : GoodIn wsX8_happen wsX8_passMinute := goodIn_r _ [13, 14, 3, 15, 16, 5, 17, 8, 18, 25, 26, 27, 28, 29, 30, 31, 32, 33, 34, 35, 36, 37, 38, 39, 40, 41, 42, 43, 44, 45, 46, 47, 48, 49, 50, 51, 52, 53, 54, 55, 56, 57, 58, 59, 60, 61, 62, 63, 64, 65, 66, 67, 68, 69, 70] (by decide +kernel) (by decide +kernel)
set_option maxRecDepth 20000 in
theorem gX8_happen_X8_passMinute : GoodIn wsX8_happen (wsV RX8 157 RX8 yX8_passMinute wsX8_passMinute) := goodIn_app (goodIn_of _ (by decide +kernel)) ggX8_happen_X8_passMinute
set_option maxRecDepth 20000 in
theorem ggX8_happen_X8_ripeness : GoodIn wsX8_happen wsX8_ripeness := goodIn_r _ [22, 23, 24, 25, 26, 27, 28, 29, 30, 31, 32, 33, 34, 35, 36, 37, 38, 39, 40, 41, 42, 43, 44, 45, 46, 47, 48, 49, 50, 51, 52, 53, 54, 55, 56, 57, 58, 59, 60, 61, 62, 63, 64, 65, 66, 67, 68, 69, 70] (by decide +kernel) (by decide +kernel)
set_option maxRecDepth 20000 in
theorem gX8_happen_X8_ripeness : GoodIn wsX8_happen (wsV RX8 160 RX8 yX8_ripeness wsX8_ripeness) := goodIn_app (goodIn_of _ (by decide +kernel)) ggX8_happen_X8_ripeness
theorem dX8_happen_0 : decode cX8_happen 0 = .ok (.aload_n 0, 1) := by decide +kernel
theorem dX8_happen_1 : decode cX8_happen 1 = .ok (.getfield 46, 3) := by decide +kernel
theorem dX8_happen_4 : decode cX8_happen 4 = .ok (.iload_n 1, 1) := by decide +kernel
theorem dX8_happen_5 : decode cX8_happen 5 = .ok (.iaload, 1) := by decide +kernel
theorem dX8_happen_6 : decode cX8_happen 6 = .ok (.istore_n 2, 1) := by decide +kernel
theorem dX8_happen_7 : decode cX8_happen 7 = .ok (.aload_n 0, 1) := by decide +kernel
theorem dX8_happen_8 : decode cX8_happen 8 = .ok (.getfield 43, 3) := by decide +kernel
theorem dX8_happen_11 : decode cX8_happen 11 = .ok (.iload_n 1, 1) := by decide +kernel
theorem dX8_happen_12 : decode cX8_happen 12 = .ok (.iaload, 1) := by decide +kernel
theorem dX8_happen_13 : decode cX8_happen 13 = .ok (.bipush 6, 2) := by decide +kernel
theorem dX8_happen_15 : decode cX8_happen 15 = .ok (.if_icmp .le 40, 3) := by decide +kernel
theorem dX8_happen_18 : decode cX8_happen 18 = .ok (.aload_n 0, 1) := by decide +kernel
theorem dX8_happen_19 : decode cX8_happen 19 = .ok (.getfield 43, 3) := by decide +kernel
theorem dX8_happen_22 : decode cX8_happen 22 = .ok (.iload_n 1, 1) := by decide +kernel
theorem dX8_happen_23 : decode cX8_happen 23 = .ok (.iaload, 1) := by decide +kernel
theorem dX8_happen_24 : decode cX8_happen 24 = .ok (.bipush 7, 2) := by decide +kernel
theorem dX8_happen_26 : decode cX8_happen 26 = .ok (.if_icmp .ne 8, 3) := by decide +kernel
theorem dX8_happen_29 : decode cX8_happen 29 = .ok (.bipush 9, 2) := by decide +kernel
theorem dX8_happen_31 : decode cX8_happen 31 = .ok (.goto 4, 3) := by decide +kernel
theorem dX8_happen_34 : decode cX8_happen 34 = .ok (.iconst 0, 1) := by decide +kernel
theorem dX8_happen_35 : decode cX8_happen 35 = .ok (.istore_n 3, 1) := by decide +kernel
theorem dX8_happen_36 : decode cX8_happen 36 = .ok (.iload_n 3, 1) := by decide +kernel
theorem dX8_happen_37 : decode cX8_happen 37 = .ok (.bipush 10, 2) := by decide +kernel
theorem dX8_happen_39 : decode cX8_happen 39 = .ok (.if_icmp .ge 13, 3) := by decide +kernel
theorem dX8_happen_42 : decode cX8_happen 42 = .ok (.aload_n 0, 1) := by decide +kernel
theorem dX8_happen_43 : decode cX8_happen 43 = .ok (.invokevirtual 157, 3) := by decide +kernel
theorem dX8_happen_46 : decode cX8_happen 46 = .ok (.iinc 3 1, 3) := by decide +kernel
theorem dX8_happen_49 : decode cX8_happen 49 = .ok (.goto (-13), 3) := by decide +kernel
theorem dX8_happen_52 : decode cX8_happen 52 = .ok (.goto 149, 3) := by decide +kernel
theorem dX8_happen_55 : decode cX8_happen 55 = .ok (.aload_n 0, 1) := by decide +kernel
theorem dX8_happen_56 : decode cX8_happen 56 = .ok (.getfield 43, 3) := by decide +kernel
theorem dX8_happen_59 : decode cX8_happen 59 = .ok (.iload_n 1, 1) := by decide +kernel
theorem dX8_happen_60 : decode cX8_happen 60 = .ok (.iaload, 1) := by decide +kernel
theorem dX8_happen_61 : decode cX8_happen 61 = .ok (.bipush 6, 2) := by decide +kernel
theorem dX8_happen_63 : decode cX8_happen 63 = .ok (.if_icmp .ne 92, 3) := by decide +kernel
theorem dX8_happen_66 : decode cX8_happen 66 = .ok (.aload_n 0, 1) := by decide +kernel
theorem dX8_happen_67 : decode cX8_happen 67 = .ok (.getfield 25, 3) := by decide +kernel
theorem dX8_happen_70 : decode cX8_happen 70 = .ok (.iload_n 2, 1) := by decide +kernel
theorem dX8_happen_71 : decode cX8_happen 71 = .ok (.dup2, 1) := by decide +kernel
theorem dX8_happen_72 : decode cX8_happen 72 = .ok (.iaload, 1) := by decide +kernel
theorem dX8_happen_73 : decode cX8_happen 73 = .ok (.iconst 1, 1) := by decide +kernel
theorem dX8_happen_74 : decode cX8_happen 74 = .ok (.isub, 1) := by decide +kernel
theorem dX8_happen_75 : decode cX8_happen 75 = .ok (.iastore, 1) := by decide +kernel
theorem dX8_happen_76 : decode cX8_happen 76 = .ok (.bipush 6, 2) := by decide +kernel
theorem dX8_happen_78 : decode cX8_happen 78 = .ok (.iload_n 2, 1) := by decide +kernel
theorem dX8_happen_79 : decode cX8_happen 79 = .ok (.imul, 1) := by decide +kernel
theorem dX8_happen_80 : decode cX8_happen 80 = .ok (.aload_n 0, 1) := by decide +kernel
theorem dX8_happen_81 : decode cX8_happen 81 = .ok (.getfield 25, 3) := by decide +kernel
theorem dX8_happen_84 : decode cX8_happen 84 = .ok (.iload_n 2, 1) := by decide +kernel
theorem dX8_happen_85 : decode cX8_happen 85 = .ok (.iaload, 1) := by decide +kernel
theorem dX8_happen_86 : decode cX8_happen 86 = .ok (.iadd, 1) := by decide +kernel
theorem dX8_happen_87 : decode cX8_happen 87 = .ok (.istore_n 3, 1) := by decide +kernel
theorem dX8_happen_88 : decode cX8_happen 88 = .ok (.aload_n 0, 1) := by decide +kernel
theorem dX8_happen_89 : decode cX8_happen 89 = .ok (.aload_n 0, 1) := by decide +kernel
theorem dX8_happen_90 : decode cX8_happen 90 = .ok (.getfield 28, 3) := by decide +kernel
theorem dX8_happen_93 : decode cX8_happen 93 = .ok (.iload_n 3, 1) := by decide +kernel
theorem dX8_happen_94 : decode cX8_happen 94 = .ok (.iaload, 1) := by decide +kernel
theorem dX8_happen_95 : decode cX8_happen 95 = .ok (.aload_n 0, 1) := by decide +kernel
theorem dX8_happen_96 : decode cX8_happen 96 = .ok (.getfield 31, 3) := by decide +kernel
theorem dX8_happen_99 : decode cX8_happen 99 = .ok (.iload_n 3, 1) := by decide +kernel
theorem dX8_happen_100 : decode cX8_happen 100 = .ok (.iaload, 1) := by decide +kernel
theorem dX8_happen_101 : decode cX8_happen 101 = .ok (.invokevirtual 160, 3) := by decide +kernel
theorem dX8_happen_104 : decode cX8_happen 104 = .ok (.istore 4, 2) := by decide +kernel
theorem dX8_happen_106 : decode cX8_happen 106 = .ok (.aload_n 0, 1) := by decide +kernel
theorem dX8_happen_107 : decode cX8_happen 107 = .ok (.getfield 34, 3) := by decide +kernel
theorem dX8_happen_110 : decode cX8_happen 110 = .ok (.iload 4, 2) := by decide +kernel
theorem dX8_happen_112 : decode cX8_happen 112 = .ok (.dup2, 1) := by decide +kernel
theorem dX8_happen_113 : decode cX8_happen 113 = .ok (.iaload, 1) := by decide +kernel
theorem dX8_happen_114 : decode cX8_happen 114 = .ok (.iconst 1, 1) := by decide +kernel
theorem dX8_happen_115 : decode cX8_happen 115 = .ok (.iadd, 1) := by decide +kernel
theorem dX8_happen_116 : decode cX8_happen 116 = .ok (.iastore, 1) := by decide +kernel
theorem dX8_happen_117 : decode cX8_happen 117 = .ok (.aload_n 0, 1) := by decide +kernel
theorem dX8_happen_118 : decode cX8_happen 118 = .ok (.getfield 34, 3) := by decide +kernel
theorem dX8_happen_121 : decode cX8_happen 121 = .ok (.iconst 3, 1) := by decide +kernel
theorem dX8_happen_122 : decode cX8_happen 122 = .ok (.dup2, 1) := by decide +kernel
theorem dX8_happen_123 : decode cX8_happen 123 = .ok (.iaload, 1) := by decide +kernel
theorem dX8_happen_124 : decode cX8_happen 124 = .ok (.iload 4, 2) := by decide +kernel
theorem dX8_happen_126 : decode cX8_happen 126 = .ok (.iconst 1, 1) := by decide +kernel
theorem dX8_happen_127 : decode cX8_happen 127 = .ok (.if_icmp .ne 17, 3) := by decide +kernel
theorem dX8_happen_130 : decode cX8_happen 130 = .ok (.aload_n 0, 1) := by decide +kernel
theorem dX8_happen_131 : decode cX8_happen 131 = .ok (.getfield 19, 3) := by decide +kernel
theorem dX8_happen_134 : decode cX8_happen 134 = .ok (.aload_n 0, 1) := by decide +kernel
theorem dX8_happen_135 : decode cX8_happen 135 = .ok (.getfield 28, 3) := by decide +kernel
theorem dX8_happen_138 : decode cX8_happen 138 = .ok (.iload_n 3, 1) := by decide +kernel
theorem dX8_happen_139 : decode cX8_happen 139 = .ok (.iaload, 1) := by decide +kernel
theorem dX8_happen_140 : decode cX8_happen 140 = .ok (.iaload, 1) := by decide +kernel
theorem dX8_happen_141 : decode cX8_happen 141 = .ok (.goto 4, 3) := by decide +kernel
theorem dX8_happen_144 : decode cX8_happen 144 = .ok (.iconst 0, 1) := by decide +kernel
theorem dX8_happen_145 : decode cX8_happen 145 = .ok (.iadd, 1) := by decide +kernel
theorem dX8_happen_146 : decode cX8_happen 146 = .ok (.iastore, 1) := by decide +kernel
theorem dX8_happen_147 : decode cX8_happen 147 = .ok (.aload_n 0, 1) := by decide +kernel
theorem dX8_happen_148 : decode cX8_happen 148 = .ok (.iconst 1, 1) := by decide +kernel
theorem dX8_happen_149 : decode cX8_happen 149 = .ok (.putfield 113, 3) := by decide +kernel
theorem dX8_happen_152 : decode cX8_happen 152 = .ok (.goto 49, 3) := by decide +kernel
theorem dX8_happen_155 : decode cX8_happen 155 = .ok (.bipush 6, 2) := by decide +kernel
theorem dX8_happen_157 : decode cX8_happen 157 = .ok (.iload_n 2, 1) := by decide +kernel
theorem dX8_happen_158 : decode cX8_happen 158 = .ok (.imul, 1) := by decide +kernel
theorem dX8_happen_159 : decode cX8_happen 159 = .ok (.aload_n 0, 1) := by decide +kernel
theorem dX8_happen_160 : decode cX8_happen 160 = .ok (.getfield 25, 3) := by decide +kernel
theorem dX8_happen_163 : decode cX8_happen 163 = .ok (.iload_n 2, 1) := by decide +kernel
theorem dX8_happen_164 : decode cX8_happen 164 = .ok (.iaload, 1) := by decide +kernel
theorem dX8_happen_165 : decode cX8_happen 165 = .ok (.iadd, 1) := by decide +kernel
theorem dX8_happen_166 : decode cX8_happen 166 = .ok (.istore_n 3, 1) := by decide +kernel
theorem dX8_happen_167 : decode cX8_happen 167 = .ok (.aload_n 0, 1) := by decide +kernel
theorem dX8_happen_168 : decode cX8_happen 168 = .ok (.getfield 28, 3) := by decide +kernel
theorem dX8_happen_171 : decode cX8_happen 171 = .ok (.iload_n 3, 1) := by decide +kernel
theorem dX8_happen_172 : decode cX8_happen 172 = .ok (.aload_n 0, 1) := by decide +kernel
theorem dX8_happen_173 : decode cX8_happen 173 = .ok (.getfield 43, 3) := by decide +kernel
theorem dX8_happen_176 : decode cX8_happen 176 = .ok (.iload_n 1, 1) := by decide +kernel
theorem dX8_happen_177 : decode cX8_happen 177 = .ok (.iaload, 1) := by decide +kernel
theorem dX8_happen_178 : decode cX8_happen 178 = .ok (.iastore, 1) := by decide +kernel
theorem dX8_happen_179 : decode cX8_happen 179 = .ok (.aload_n 0, 1) := by decide +kernel
theorem dX8_happen_180 : decode cX8_happen 180 = .ok (.getfield 31, 3) := by decide +kernel
theorem dX8_happen_183 : decode cX8_happen 183 = .ok (.iload_n 3, 1) := by decide +kernel
theorem dX8_happen_184 : decode cX8_happen 184 = .ok (.iconst 0, 1) := by decide +kernel
theorem dX8_happen_185 : decode cX8_happen 185 = .ok (.iastore, 1) := by decide +kernel
theorem dX8_happen_186 : decode cX8_happen 186 = .ok (.aload_n 0, 1) := by decide +kernel
theorem dX8_happen_187 : decode cX8_happen 187 = .ok (.getfield 25, 3) := by decide +kernel
theorem dX8_happen_190 : decode cX8_happen 190 = .ok (.iload_n 2, 1) := by decide +kernel
theorem dX8_happen_191 : decode cX8_happen 191 = .ok (.dup2, 1) := by decide +kernel
theorem dX8_happen_192 : decode cX8_happen 192 = .ok (.iaload, 1) := by decide +kernel
theorem dX8_happen_193 : decode cX8_happen 193 = .ok (.iconst 1, 1) := by decide +kernel
theorem dX8_happen_194 : decode cX8_happen 194 = .ok (.iadd, 1) := by decide +kernel
theorem dX8_happen_195 : decode cX8_happen 195 = .ok (.iastore, 1) := by decide +kernel
theorem dX8_happen_196 : decode cX8_happen 196 = .ok (.aload_n 0, 1) := by decide +kernel
theorem dX8_happen_197 : decode cX8_happen 197 = .ok (.iconst 1, 1) := by decide +kernel
theorem dX8_happen_198 : decode cX8_happen 198 = .ok (.putfield 113, 3) := by decide +kernel
theorem dX8_happen_201 : decode cX8_happen 201 = .ok (.return_, 1) := by decide +kernel
theorem dX8_areFoes_0 : decode cX8_areFoes 0 = .ok (.aload_n 0, 1) := by decide +kernel
theorem dX8_areFoes_1 : decode cX8_areFoes 1 = .ok (.getfield 22, 3) := by decide +kernel
theorem dX8_areFoes_4 : decode cX8_areFoes 4 = .ok (.aload_n 0, 1) := by decide +kernel
theorem dX8_areFoes_5 : decode cX8_areFoes 5 = .ok (.getfield 28, 3) := by decide +kernel
theorem dX8_areFoes_8 : decode cX8_areFoes 8 = .ok (.iload_n 1, 1) := by decide +kernel
theorem dX8_areFoes_9 : decode cX8_areFoes 9 = .ok (.iaload, 1) := by decide +kernel
theorem dX8_areFoes_10 : decode cX8_areFoes 10 = .ok (.iaload, 1) := by decide +kernel
theorem dX8_areFoes_11 : decode cX8_areFoes 11 = .ok (.aload_n 0, 1) := by decide +kernel
theorem dX8_areFoes_12 : decode cX8_areFoes 12 = .ok (.getfield 28, 3) := by decide +kernel
theorem dX8_areFoes_15 : decode cX8_areFoes 15 = .ok (.iload_n 2, 1) := by decide +kernel
theorem dX8_areFoes_16 : decode cX8_areFoes 16 = .ok (.iaload, 1) := by decide +kernel
theorem dX8_areFoes_17 : decode cX8_areFoes 17 = .ok (.ishr, 1) := by decide +kernel
theorem dX8_areFoes_18 : decode cX8_areFoes 18 = .ok (.iconst 1, 1) := by decide +kernel
theorem dX8_areFoes_19 : decode cX8_areFoes 19 = .ok (.iand, 1) := by decide +kernel
theorem dX8_areFoes_20 : decode cX8_areFoes 20 = .ok (.iconst 1, 1) := by decide +kernel
theorem dX8_areFoes_21 : decode cX8_areFoes 21 = .ok (.if_icmp .ne 7, 3) := by decide +kernel
theorem dX8_areFoes_24 : decode cX8_areFoes 24 = .ok (.iconst 1, 1) := by decide +kernel
theorem dX8_areFoes_25 : decode cX8_areFoes 25 = .ok (.goto 4, 3) := by decide +kernel
theorem dX8_areFoes_28 : decode cX8_areFoes 28 = .ok (.iconst 0, 1) := by decide +kernel
theorem dX8_areFoes_29 : decode cX8_areFoes 29 = .ok (.ireturn, 1) := by decide +kernel
set_option maxRecDepth 20000 in
theorem ggX8_isSpoilt_X8_areFoes : GoodIn wsX8_isSpoilt wsX8_areFoes := goodIn_r _ [7, 8, 9, 10, 11, 12, 13, 14, 15, 16, 17, 18, 19, 20, 21, 22, 23, 24, 25, 26, 27, 28, 29, 30, 31, 32, 33, 34, 35, 36, 37, 38, 39, 40, 41, 42, 43, 44, 45, 46, 47, 48, 49, 50, 51, 52, 53, 54, 55] (by decide +kernel) (by decide +kernel)
set_option maxRecDepth 20000 in
theorem gX8_isSpoilt_X8_areFoes : GoodIn wsX8_isSpoilt (wsV RX8 164 RX8 yX8_areFoes wsX8_areFoes) := goodIn_app (goodIn_of _ (by decide +kernel)) ggX8_isSpoilt_X8_areFoes
theorem dX8_isSpoilt_0 : decode cX8_isSpoilt 0 = .ok (.iconst 0, 1) := by decide +kernel
theorem dX8_isSpoilt_1 : decode cX8_isSpoilt 1 = .ok (.istore_n 1, 1) := by decide +kernel
theorem dX8_isSpoilt_2 : decode cX8_isSpoilt 2 = .ok (.iconst 0, 1) := by decide +kernel
theorem dX8_isSpoilt_3 : decode cX8_isSpoilt 3 = .ok (.istore_n 2, 1) := by decide +kernel
theorem dX8_isSpoilt_4 : decode cX8_isSpoilt 4 = .ok (.iload_n 2, 1) := by decide +kernel
theorem dX8_isSpoilt_5 : decode cX8_isSpoilt 5 = .ok (.aload_n 0, 1) := by decide +kernel
theorem dX8_isSpoilt_6 : decode cX8_isSpoilt 6 = .ok (.getfield 80, 3) := by decide +kernel
theorem dX8_isSpoilt_9 : decode cX8_isSpoilt 9 = .ok (.if_icmp .ge 116, 3) := by decide +kernel
theorem dX8_isSpoilt_12 : decode cX8_isSpoilt 12 = .ok (.iconst 0, 1) := by decide +kernel
theorem dX8_isSpoilt_13 : decode cX8_isSpoilt 13 = .ok (.istore_n 3, 1) := by decide +kernel
theorem dX8_isSpoilt_14 : decode cX8_isSpoilt 14 = .ok (.iload_n 3, 1) := by decide +kernel
theorem dX8_isSpoilt_15 : decode cX8_isSpoilt 15 = .ok (.aload_n 0, 1) := by decide +kernel
theorem dX8_isSpoilt_16 : decode cX8_isSpoilt 16 = .ok (.getfield 25, 3) := by decide +kernel
theorem dX8_isSpoilt_19 : decode cX8_isSpoilt 19 = .ok (.iload_n 2, 1) := by decide +kernel
theorem dX8_isSpoilt_20 : decode cX8_isSpoilt 20 = .ok (.iaload, 1) := by decide +kernel
theorem dX8_isSpoilt_21 : decode cX8_isSpoilt 21 = .ok (.if_icmp .ge 98, 3) := by decide +kernel
theorem dX8_isSpoilt_24 : decode cX8_isSpoilt 24 = .ok (.bipush 6, 2) := by decide +kernel
theorem dX8_isSpoilt_26 : decode cX8_isSpoilt 26 = .ok (.iload_n 2, 1) := by decide +kernel
theorem dX8_isSpoilt_27 : decode cX8_isSpoilt 27 = .ok (.imul, 1) := by decide +kernel
theorem dX8_isSpoilt_28 : decode cX8_isSpoilt 28 = .ok (.iload_n 3, 1) := by decide +kernel
theorem dX8_isSpoilt_29 : decode cX8_isSpoilt 29 = .ok (.iadd, 1) := by decide +kernel
theorem dX8_isSpoilt_30 : decode cX8_isSpoilt 30 = .ok (.istore 4, 2) := by decide +kernel
theorem dX8_isSpoilt_32 : decode cX8_isSpoilt 32 = .ok (.iload_n 1, 1) := by decide +kernel
theorem dX8_isSpoilt_33 : decode cX8_isSpoilt 33 = .ok (.ifCond .ne 28, 3) := by decide +kernel
theorem dX8_isSpoilt_36 : decode cX8_isSpoilt 36 = .ok (.iload_n 3, 1) := by decide +kernel
theorem dX8_isSpoilt_37 : decode cX8_isSpoilt 37 = .ok (.iconst 1, 1) := by decide +kernel
theorem dX8_isSpoilt_38 : decode cX8_isSpoilt 38 = .ok (.iadd, 1) := by decide +kernel
theorem dX8_isSpoilt_39 : decode cX8_isSpoilt 39 = .ok (.aload_n 0, 1) := by decide +kernel
theorem dX8_isSpoilt_40 : decode cX8_isSpoilt 40 = .ok (.getfield 25, 3) := by decide +kernel
theorem dX8_isSpoilt_43 : decode cX8_isSpoilt 43 = .ok (.iload_n 2, 1) := by decide +kernel
theorem dX8_isSpoilt_44 : decode cX8_isSpoilt 44 = .ok (.iaload, 1) := by decide +kernel
theorem dX8_isSpoilt_45 : decode cX8_isSpoilt 45 = .ok (.if_icmp .ge 20, 3) := by decide +kernel
theorem dX8_isSpoilt_48 : decode cX8_isSpoilt 48 = .ok (.aload_n 0, 1) := by decide +kernel
theorem dX8_isSpoilt_49 : decode cX8_isSpoilt 49 = .ok (.iload 4, 2) := by decide +kernel
theorem dX8_isSpoilt_51 : decode cX8_isSpoilt 51 = .ok (.iload 4, 2) := by decide +kernel
theorem dX8_isSpoilt_53 : decode cX8_isSpoilt 53 = .ok (.iconst 1, 1) := by decide +kernel
theorem dX8_isSpoilt_54 : decode cX8_isSpoilt 54 = .ok (.iadd, 1) := by decide +kernel
theorem dX8_isSpoilt_55 : decode cX8_isSpoilt 55 = .ok (.invokevirtual 164, 3) := by decide +kernel
theorem dX8_isSpoilt_58 : decode cX8_isSpoilt 58 = .ok (.ifCond .eq 7, 3) := by decide +kernel
theorem dX8_isSpoilt_61 : decode cX8_isSpoilt 61 = .ok (.iconst 1, 1) := by decide +kernel
theorem dX8_isSpoilt_62 : decode cX8_isSpoilt 62 = .ok (.goto 4, 3) := by decide +kernel
theorem dX8_isSpoilt_65 : decode cX8_isSpoilt 65 = .ok (.iconst 0, 1) := by decide +kernel
theorem dX8_isSpoilt_66 : decode cX8_isSpoilt 66 = .ok (.istore_n 1, 1) := by decide +kernel
theorem dX8_isSpoilt_67 : decode cX8_isSpoilt 67 = .ok (.iload_n 1, 1) := by decide +kernel
theorem dX8_isSpoilt_68 : decode cX8_isSpoilt 68 = .ok (.ifCond .ne 39, 3) := by decide +kernel
theorem dX8_isSpoilt_71 : decode cX8_isSpoilt 71 = .ok (.iload_n 2, 1) := by decide +kernel
theorem dX8_isSpoilt_72 : decode cX8_isSpoilt 72 = .ok (.iconst 1, 1) := by decide +kernel
theorem dX8_isSpoilt_73 : decode cX8_isSpoilt 73 = .ok (.iadd, 1) := by decide +kernel
theorem dX8_isSpoilt_74 : decode cX8_isSpoilt 74 = .ok (.aload_n 0, 1) := by decide +kernel
theorem dX8_isSpoilt_75 : decode cX8_isSpoilt 75 = .ok (.getfield 80, 3) := by decide +kernel
theorem dX8_isSpoilt_78 : decode cX8_isSpoilt 78 = .ok (.if_icmp .ge 33, 3) := by decide +kernel
theorem dX8_isSpoilt_81 : decode cX8_isSpoilt 81 = .ok (.iload_n 3, 1) := by decide +kernel
theorem dX8_isSpoilt_82 : decode cX8_isSpoilt 82 = .ok (.aload_n 0, 1) := by decide +kernel
theorem dX8_isSpoilt_83 : decode cX8_isSpoilt 83 = .ok (.getfield 25, 3) := by decide +kernel
theorem dX8_isSpoilt_86 : decode cX8_isSpoilt 86 = .ok (.iload_n 2, 1) := by decide +kernel
theorem dX8_isSpoilt_87 : decode cX8_isSpoilt 87 = .ok (.iconst 1, 1) := by decide +kernel
theorem dX8_isSpoilt_88 : decode cX8_isSpoilt 88 = .ok (.iadd, 1) := by decide +kernel
theorem dX8_isSpoilt_89 : decode cX8_isSpoilt 89 = .ok (.iaload, 1) := by decide +kernel
theorem dX8_isSpoilt_90 : decode cX8_isSpoilt 90 = .ok (.if_icmp .ge 21, 3) := by decide +kernel
theorem dX8_isSpoilt_93 : decode cX8_isSpoilt 93 = .ok (.aload_n 0, 1) := by decide +kernel
theorem dX8_isSpoilt_94 : decode cX8_isSpoilt 94 = .ok (.iload 4, 2) := by decide +kernel
theorem dX8_isSpoilt_96 : decode cX8_isSpoilt 96 = .ok (.iload 4, 2) := by decide +kernel
theorem dX8_isSpoilt_98 : decode cX8_isSpoilt 98 = .ok (.bipush 6, 2) := by decide +kernel
theorem dX8_isSpoilt_100 : decode cX8_isSpoilt 100 = .ok (.iadd, 1) := by decide +kernel
theorem dX8_isSpoilt_101 : decode cX8_isSpoilt 101 = .ok (.invokevirtual 164, 3) := by decide +kernel
theorem dX8_isSpoilt_104 : decode cX8_isSpoilt 104 = .ok (.ifCond .eq 7, 3) := by decide +kernel
theorem dX8_isSpoilt_107 : decode cX8_isSpoilt 107 = .ok (.iconst 1, 1) := by decide +kernel
theorem dX8_isSpoilt_108 : decode cX8_isSpoilt 108 = .ok (.goto 4, 3) := by decide +kernel
theorem dX8_isSpoilt_111 : decode cX8_isSpoilt 111 = .ok (.iconst 0, 1) := by decide +kernel
theorem dX8_isSpoilt_112 : decode cX8_isSpoilt 112 = .ok (.istore_n 1, 1) := by decide +kernel
theorem dX8_isSpoilt_113 : decode cX8_isSpoilt 113 = .ok (.iinc 3 1, 3) := by decide +kernel
theorem dX8_isSpoilt_116 : decode cX8_isSpoilt 116 = .ok (.goto (-102), 3) := by decide +kernel
theorem dX8_isSpoilt_119 : decode cX8_isSpoilt 119 = .ok (.iinc 2 1, 3) := by decide +kernel
theorem dX8_isSpoilt_122 : decode cX8_isSpoilt 122 = .ok (.goto (-118), 3) := by decide +kernel
theorem dX8_isSpoilt_125 : decode cX8_isSpoilt 125 = .ok (.iload_n 1, 1) := by decide +kernel
theorem dX8_isSpoilt_126 : decode cX8_isSpoilt 126 = .ok (.ireturn, 1) := by decide +kernel
theorem dX8_keepNow_0 : decode cX8_keepNow 0 = .ok (.iconst 0, 1) := by decide +kernel
theorem dX8_keepNow_1 : decode cX8_keepNow 1 = .ok (.istore_n 1, 1) := by decide +kernel
theorem dX8_keepNow_2 : decode cX8_keepNow 2 = .ok (.iload_n 1, 1) := by decide +kernel
theorem dX8_keepNow_3 : decode cX8_keepNow 3 = .ok (.bipush 24, 2) := by decide +kernel
theorem dX8_keepNow_5 : decode cX8_keepNow 5 = .ok (.if_icmp .ge 36, 3) := by decide +kernel
theorem dX8_keepNow_8 : decode cX8_keepNow 8 = .ok (.aload_n 0, 1) := by decide +kernel
theorem dX8_keepNow_9 : decode cX8_keepNow 9 = .ok (.getfield 49, 3) := by decide +kernel
theorem dX8_keepNow_12 : decode cX8_keepNow 12 = .ok (.iload_n 1, 1) := by decide +kernel
theorem dX8_keepNow_13 : decode cX8_keepNow 13 = .ok (.aload_n 0, 1) := by decide +kernel
theorem dX8_keepNow_14 : decode cX8_keepNow 14 = .ok (.getfield 28, 3) := by decide +kernel
theorem dX8_keepNow_17 : decode cX8_keepNow 17 = .ok (.iload_n 1, 1) := by decide +kernel
theorem dX8_keepNow_18 : decode cX8_keepNow 18 = .ok (.iaload, 1) := by decide +kernel
theorem dX8_keepNow_19 : decode cX8_keepNow 19 = .ok (.iastore, 1) := by decide +kernel
theorem dX8_keepNow_20 : decode cX8_keepNow 20 = .ok (.aload_n 0, 1) := by decide +kernel
theorem dX8_keepNow_21 : decode cX8_keepNow 21 = .ok (.getfield 49, 3) := by decide +kernel
theorem dX8_keepNow_24 : decode cX8_keepNow 24 = .ok (.bipush 24, 2) := by decide +kernel
theorem dX8_keepNow_26 : decode cX8_keepNow 26 = .ok (.iload_n 1, 1) := by decide +kernel
theorem dX8_keepNow_27 : decode cX8_keepNow 27 = .ok (.iadd, 1) := by decide +kernel
theorem dX8_keepNow_28 : decode cX8_keepNow 28 = .ok (.aload_n 0, 1) := by decide +kernel
theorem dX8_keepNow_29 : decode cX8_keepNow 29 = .ok (.getfield 31, 3) := by decide +kernel
theorem dX8_keepNow_32 : decode cX8_keepNow 32 = .ok (.iload_n 1, 1) := by decide +kernel
theorem dX8_keepNow_33 : decode cX8_keepNow 33 = .ok (.iaload, 1) := by decide +kernel
theorem dX8_keepNow_34 : decode cX8_keepNow 34 = .ok (.iastore, 1) := by decide +kernel
theorem dX8_keepNow_35 : decode cX8_keepNow 35 = .ok (.iinc 1 1, 3) := by decide +kernel
theorem dX8_keepNow_38 : decode cX8_keepNow 38 = .ok (.goto (-36), 3) := by decide +kernel
theorem dX8_keepNow_41 : decode cX8_keepNow 41 = .ok (.iconst 0, 1) := by decide +kernel
theorem dX8_keepNow_42 : decode cX8_keepNow 42 = .ok (.istore_n 1, 1) := by decide +kernel
theorem dX8_keepNow_43 : decode cX8_keepNow 43 = .ok (.iload_n 1, 1) := by decide +kernel
theorem dX8_keepNow_44 : decode cX8_keepNow 44 = .ok (.iconst 4, 1) := by decide +kernel
theorem dX8_keepNow_45 : decode cX8_keepNow 45 = .ok (.if_icmp .ge 39, 3) := by decide +kernel
theorem dX8_keepNow_48 : decode cX8_keepNow 48 = .ok (.aload_n 0, 1) := by decide +kernel
theorem dX8_keepNow_49 : decode cX8_keepNow 49 = .ok (.getfield 49, 3) := by decide +kernel
theorem dX8_keepNow_52 : decode cX8_keepNow 52 = .ok (.bipush 48, 2) := by decide +kernel
theorem dX8_keepNow_54 : decode cX8_keepNow 54 = .ok (.iload_n 1, 1) := by decide +kernel
theorem dX8_keepNow_55 : decode cX8_keepNow 55 = .ok (.iadd, 1) := by decide +kernel
theorem dX8_keepNow_56 : decode cX8_keepNow 56 = .ok (.aload_n 0, 1) := by decide +kernel
theorem dX8_keepNow_57 : decode cX8_keepNow 57 = .ok (.getfield 25, 3) := by decide +kernel
theorem dX8_keepNow_60 : decode cX8_keepNow 60 = .ok (.iload_n 1, 1) := by decide +kernel
theorem dX8_keepNow_61 : decode cX8_keepNow 61 = .ok (.iaload, 1) := by decide +kernel
theorem dX8_keepNow_62 : decode cX8_keepNow 62 = .ok (.iastore, 1) := by decide +kernel
theorem dX8_keepNow_63 : decode cX8_keepNow 63 = .ok (.aload_n 0, 1) := by decide +kernel
theorem dX8_keepNow_64 : decode cX8_keepNow 64 = .ok (.getfield 49, 3) := by decide +kernel
theorem dX8_keepNow_67 : decode cX8_keepNow 67 = .ok (.bipush 52, 2) := by decide +kernel
theorem dX8_keepNow_69 : decode cX8_keepNow 69 = .ok (.iload_n 1, 1) := by decide +kernel
theorem dX8_keepNow_70 : decode cX8_keepNow 70 = .ok (.iadd, 1) := by decide +kernel
theorem dX8_keepNow_71 : decode cX8_keepNow 71 = .ok (.aload_n 0, 1) := by decide +kernel
theorem dX8_keepNow_72 : decode cX8_keepNow 72 = .ok (.getfield 34, 3) := by decide +kernel
theorem dX8_keepNow_75 : decode cX8_keepNow 75 = .ok (.iload_n 1, 1) := by decide +kernel
theorem dX8_keepNow_76 : decode cX8_keepNow 76 = .ok (.iaload, 1) := by decide +kernel
theorem dX8_keepNow_77 : decode cX8_keepNow 77 = .ok (.iastore, 1) := by decide +kernel
theorem dX8_keepNow_78 : decode cX8_keepNow 78 = .ok (.iinc 1 1, 3) := by decide +kernel
theorem dX8_keepNow_81 : decode cX8_keepNow 81 = .ok (.goto (-38), 3) := by decide +kernel
theorem dX8_keepNow_84 : decode cX8_keepNow 84 = .ok (.aload_n 0, 1) := by decide +kernel
theorem dX8_keepNow_85 : decode cX8_keepNow 85 = .ok (.getfield 49, 3) := by decide +kernel
theorem dX8_keepNow_88 : decode cX8_keepNow 88 = .ok (.bipush 56, 2) := by decide +kernel
theorem dX8_keepNow_90 : decode cX8_keepNow 90 = .ok (.aload_n 0, 1) := by decide +kernel
theorem dX8_keepNow_91 : decode cX8_keepNow 91 = .ok (.getfield 87, 3) := by decide +kernel
theorem dX8_keepNow_94 : decode cX8_keepNow 94 = .ok (.iastore, 1) := by decide +kernel
theorem dX8_keepNow_95 : decode cX8_keepNow 95 = .ok (.aload_n 0, 1) := by decide +kernel
theorem dX8_keepNow_96 : decode cX8_keepNow 96 = .ok (.getfield 49, 3) := by decide +kernel
theorem dX8_keepNow_99 : decode cX8_keepNow 99 = .ok (.bipush 57, 2) := by decide +kernel
theorem dX8_keepNow_101 : decode cX8_keepNow 101 = .ok (.aload_n 0, 1) := by decide +kernel
theorem dX8_keepNow_102 : decode cX8_keepNow 102 = .ok (.getfield 113, 3) := by decide +kernel
theorem dX8_keepNow_105 : decode cX8_keepNow 105 = .ok (.iastore, 1) := by decide +kernel
theorem dX8_keepNow_106 : decode cX8_keepNow 106 = .ok (.return_, 1) := by decide +kernel
theorem dX8_putBack_0 : decode cX8_putBack 0 = .ok (.iconst 0, 1) := by decide +kernel
theorem dX8_putBack_1 : decode cX8_putBack 1 = .ok (.istore_n 1, 1) := by decide +kernel
theorem dX8_putBack_2 : decode cX8_putBack 2 = .ok (.iload_n 1, 1) := by decide +kernel
theorem dX8_putBack_3 : decode cX8_putBack 3 = .ok (.bipush 24, 2) := by decide +kernel
theorem dX8_putBack_5 : decode cX8_putBack 5 = .ok (.if_icmp .ge 36, 3) := by decide +kernel
theorem dX8_putBack_8 : decode cX8_putBack 8 = .ok (.aload_n 0, 1) := by decide +kernel
theorem dX8_putBack_9 : decode cX8_putBack 9 = .ok (.getfield 28, 3) := by decide +kernel
theorem dX8_putBack_12 : decode cX8_putBack 12 = .ok (.iload_n 1, 1) := by decide +kernel
theorem dX8_putBack_13 : decode cX8_putBack 13 = .ok (.aload_n 0, 1) := by decide +kernel
theorem dX8_putBack_14 : decode cX8_putBack 14 = .ok (.getfield 49, 3) := by decide +kernel
theorem dX8_putBack_17 : decode cX8_putBack 17 = .ok (.iload_n 1, 1) := by decide +kernel
theorem dX8_putBack_18 : decode cX8_putBack 18 = .ok (.iaload, 1) := by decide +kernel
theorem dX8_putBack_19 : decode cX8_putBack 19 = .ok (.iastore, 1) := by decide +kernel
theorem dX8_putBack_20 : decode cX8_putBack 20 = .ok (.aload_n 0, 1) := by decide +kernel
theorem dX8_putBack_21 : decode cX8_putBack 21 = .ok (.getfield 31, 3) := by decide +kernel
theorem dX8_putBack_24 : decode cX8_putBack 24 = .ok (.iload_n 1, 1) := by decide +kernel
theorem dX8_putBack_25 : decode cX8_putBack 25 = .ok (.aload_n 0, 1) := by decide +kernel
theorem dX8_putBack_26 : decode cX8_putBack 26 = .ok (.getfield 49, 3) := by decide +kernel
theorem dX8_putBack_29 : decode cX8_putBack 29 = .ok (.bipush 24, 2) := by decide +kernel
theorem dX8_putBack_31 : decode cX8_putBack 31 = .ok (.iload_n 1, 1) := by decide +kernel
theorem dX8_putBack_32 : decode cX8_putBack 32 = .ok (.iadd, 1) := by decide +kernel
theorem dX8_putBack_33 : decode cX8_putBack 33 = .ok (.iaload, 1) := by decide +kernel
theorem dX8_putBack_34 : decode cX8_putBack 34 = .ok (.iastore, 1) := by decide +kernel
theorem dX8_putBack_35 : decode cX8_putBack 35 = .ok (.iinc 1 1, 3) := by decide +kernel
theorem dX8_putBack_38 : decode cX8_putBack 38 = .ok (.goto (-36), 3) := by decide +kernel
theorem dX8_putBack_41 : decode cX8_putBack 41 = .ok (.iconst 0, 1) := by decide +kernel
theorem dX8_putBack_42 : decode cX8_putBack 42 = .ok (.istore_n 1, 1) := by decide +kernel
theorem dX8_putBack_43 : decode cX8_putBack 43 = .ok (.iload_n 1, 1) := by decide +kernel
theorem dX8_putBack_44 : decode cX8_putBack 44 = .ok (.iconst 4, 1) := by decide +kernel
theorem dX8_putBack_45 : decode cX8_putBack 45 = .ok (.if_icmp .ge 39, 3) := by decide +kernel
theorem dX8_putBack_48 : decode cX8_putBack 48 = .ok (.aload_n 0, 1) := by decide +kernel
theorem dX8_putBack_49 : decode cX8_putBack 49 = .ok (.getfield 25, 3) := by decide +kernel
theorem dX8_putBack_52 : decode cX8_putBack 52 = .ok (.iload_n 1, 1) := by decide +kernel
theorem dX8_putBack_53 : decode cX8_putBack 53 = .ok (.aload_n 0, 1) := by decide +kernel
theorem dX8_putBack_54 : decode cX8_putBack 54 = .ok (.getfield 49, 3) := by decide +kernel
theorem dX8_putBack_57 : decode cX8_putBack 57 = .ok (.bipush 48, 2) := by decide +kernel
theorem dX8_putBack_59 : decode cX8_putBack 59 = .ok (.iload_n 1, 1) := by decide +kernel
theorem dX8_putBack_60 : decode cX8_putBack 60 = .ok (.iadd, 1) := by decide +kernel
theorem dX8_putBack_61 : decode cX8_putBack 61 = .ok (.iaload, 1) := by decide +kernel
theorem dX8_putBack_62 : decode cX8_putBack 62 = .ok (.iastore, 1) := by decide +kernel
theorem dX8_putBack_63 : decode cX8_putBack 63 = .ok (.aload_n 0, 1) := by decide +kernel
theorem dX8_putBack_64 : decode cX8_putBack 64 = .ok (.getfield 34, 3) := by decide +kernel
theorem dX8_putBack_67 : decode cX8_putBack 67 = .ok (.iload_n 1, 1) := by decide +kernel
theorem dX8_putBack_68 : decode cX8_putBack 68 = .ok (.aload_n 0, 1) := by decide +kernel
theorem dX8_putBack_69 : decode cX8_putBack 69 = .ok (.getfield 49, 3) := by decide +kernel
theorem dX8_putBack_72 : decode cX8_putBack 72 = .ok (.bipush 52, 2) := by decide +kernel
theorem dX8_putBack_74 : decode cX8_putBack 74 = .ok (.iload_n 1, 1) := by decide +kernel
theorem dX8_putBack_75 : decode cX8_putBack 75 = .ok (.iadd, 1) := by decide +kernel
theorem dX8_putBack_76 : decode cX8_putBack 76 = .ok (.iaload, 1) := by decide +kernel
theorem dX8_putBack_77 : decode cX8_putBack 77 = .ok (.iastore, 1) := by decide +kernel
theorem dX8_putBack_78 : decode cX8_putBack 78 = .ok (.iinc 1 1, 3) := by decide +kernel
theorem dX8_putBack_81 : decode cX8_putBack 81 = .ok (.goto (-38), 3) := by decide +kernel
theorem dX8_putBack_84 : decode cX8_putBack 84 = .ok (.aload_n 0, 1) := by decide +kernel
theorem dX8_putBack_85 : decode cX8_putBack 85 = .ok (.aload_n 0, 1) := by decide +kernel
theorem dX8_putBack_86 : decode cX8_putBack 86 = .ok (.getfield 49, 3) := by decide +kernel
theorem dX8_putBack_89 : decode cX8_putBack 89 = .ok (.bipush 56, 2) := by decide +kernel
theorem dX8_putBack_91 : decode cX8_putBack 91 = .ok (.iaload, 1) := by decide +kernel
theorem dX8_putBack_92 : decode cX8_putBack 92 = .ok (.putfield 87, 3) := by decide +kernel
theorem dX8_putBack_95 : decode cX8_putBack 95 = .ok (.aload_n 0, 1) := by decide +kernel
theorem dX8_putBack_96 : decode cX8_putBack 96 = .ok (.aload_n 0, 1) := by decide +kernel
theorem dX8_putBack_97 : decode cX8_putBack 97 = .ok (.getfield 49, 3) := by decide +kernel
theorem dX8_putBack_100 : decode cX8_putBack 100 = .ok (.bipush 57, 2) := by decide +kernel
theorem dX8_putBack_102 : decode cX8_putBack 102 = .ok (.iaload, 1) := by decide +kernel
theorem dX8_putBack_103 : decode cX8_putBack 103 = .ok (.putfield 113, 3) := by decide +kernel
theorem dX8_putBack_106 : decode cX8_putBack 106 = .ok (.return_, 1) := by decide +kernel
set_option maxRecDepth 20000 in
theorem ggX8_goDay_X8_whyNot : GoodIn wsX8_goDay wsX8_whyNot := goodIn_r _ [9, 10, 11, 12, 13, 14, 15, 16, 8, 17, 18, 19, 20, 21, 22, 23, 24, 25, 59, 60, 61, 62, 63, 64, 65, 66, 67, 68, 69, 70, 71, 72, 73, 74, 75, 76, 77, 78, 79, 80, 81, 82, 83, 84, 85, 86, 87, 88, 89, 90, 91, 92, 93, 94, 95, 96, 97, 98, 99, 100, 101, 102, 103, 104] (by decide +kernel) (by decide +kernel)
set_option maxRecDepth 20000 in
theorem gX8_goDay_X8_whyNot : GoodIn wsX8_goDay (wsV RX8 177 RX8 yX8_whyNot wsX8_whyNot) := goodIn_app (goodIn_of _ (by decide +kernel)) ggX8_goDay_X8_whyNot
set_option maxRecDepth 20000 in
theorem ggX8_goDay_X8_happen : GoodIn wsX8_goDay wsX8_happen := goodIn_r _ [29, 11, 10, 12, 30, 31, 32, 33, 34, 35, 36, 37, 8, 38, 39, 40, 41, 42, 43, 44, 45, 46, 47, 48, 49, 59, 60, 61, 62, 63, 64, 65, 66, 67, 68, 69, 70, 71, 72, 73, 74, 75, 76, 77, 78, 79, 80, 81, 82, 83, 84, 85, 86, 87, 88, 89, 90, 91, 92, 93, 94, 95, 96, 97, 98, 99, 100, 101, 102, 103, 104] (by decide +kernel) (by decide +kernel)
set_option maxRecDepth 20000 in
theorem gX8_goDay_X8_happen : GoodIn wsX8_goDay (wsV RX8 180 RX8 yX8_happen wsX8_happen) := goodIn_app (goodIn_of _ (by decide +kernel)) ggX8_goDay_X8_happen
set_option maxRecDepth 20000 in
theorem ggX8_goDay_X8_isSpoilt : GoodIn wsX8_goDay wsX8_isSpoilt := goodIn_r _ [53, 39, 12, 54, 55, 56, 8, 57, 58, 30, 59, 60, 61, 62, 63, 64, 65, 66, 67, 68, 69, 70, 71, 72, 73, 74, 75, 76, 77, 78, 79, 80, 81, 82, 83, 84, 85, 86, 87, 88, 89, 90, 91, 92, 93, 94, 95, 96, 97, 98, 99, 100, 101, 102, 103, 104] (by decide +kernel) (by decide +kernel)
set_option maxRecDepth 20000 in
theorem gX8_goDay_X8_isSpoilt : GoodIn wsX8_goDay (wsV RX8 184 RX8 yX8_isSpoilt wsX8_isSpoilt) := goodIn_app (goodIn_of _ (by decide +kernel)) ggX8_goDay_X8_isSpoilt
theorem dX8_goDay_0 : decode cX8_goDay 0 = .ok (.aload_n 0, 1) := by decide +kernel
theorem dX8_goDay_1 : decode cX8_goDay 1 = .ok (.bipush (-6), 2) := by decide +kernel
theorem dX8_goDay_3 : decode cX8_goDay 3 = .ok (.putfield 168, 3) := by decide +kernel
theorem dX8_goDay_6 : decode cX8_goDay 6 = .ok (.aload_n 0, 1) := by decide +kernel
theorem dX8_goDay_7 : decode cX8_goDay 7 = .ok (.bipush (-6), 2) := by decide +kernel
theorem dX8_goDay_9 : decode cX8_goDay 9 = .ok (.putfield 171, 3) := by decide +kernel
theorem dX8_goDay_12 : decode cX8_goDay 12 = .ok (.aload_n 0, 1) := by decide +kernel
theorem dX8_goDay_13 : decode cX8_goDay 13 = .ok (.bipush (-6), 2) := by decide +kernel
theorem dX8_goDay_15 : decode cX8_goDay 15 = .ok (.putfield 174, 3) := by decide +kernel
theorem dX8_goDay_18 : decode cX8_goDay 18 = .ok (.iconst 0, 1) := by decide +kernel
theorem dX8_goDay_19 : decode cX8_goDay 19 = .ok (.istore_n 1, 1) := by decide +kernel
theorem dX8_goDay_20 : decode cX8_goDay 20 = .ok (.iload_n 1, 1) := by decide +kernel
theorem dX8_goDay_21 : decode cX8_goDay 21 = .ok (.aload_n 0, 1) := by decide +kernel
theorem dX8_goDay_22 : decode cX8_goDay 22 = .ok (.getfield 141, 3) := by decide +kernel
theorem dX8_goDay_25 : decode cX8_goDay 25 = .ok (.if_icmp .ge 85, 3) := by decide +kernel
theorem dX8_goDay_28 : decode cX8_goDay 28 = .ok (.aload_n 0, 1) := by decide +kernel
theorem dX8_goDay_29 : decode cX8_goDay 29 = .ok (.getfield 168, 3) := by decide +kernel
theorem dX8_goDay_32 : decode cX8_goDay 32 = .ok (.ifCond .ge 78, 3) := by decide +kernel
theorem dX8_goDay_35 : decode cX8_goDay 35 = .ok (.aload_n 0, 1) := by decide +kernel
theorem dX8_goDay_36 : decode cX8_goDay 36 = .ok (.iload_n 1, 1) := by decide +kernel
theorem dX8_goDay_37 : decode cX8_goDay 37 = .ok (.invokevirtual 177, 3) := by decide +kernel
theorem dX8_goDay_40 : decode cX8_goDay 40 = .ok (.istore_n 2, 1) := by decide +kernel
theorem dX8_goDay_41 : decode cX8_goDay 41 = .ok (.aload_n 0, 1) := by decide +kernel
theorem dX8_goDay_42 : decode cX8_goDay 42 = .ok (.iload_n 2, 1) := by decide +kernel
theorem dX8_goDay_43 : decode cX8_goDay 43 = .ok (.ifCond .le 7, 3) := by decide +kernel
theorem dX8_goDay_46 : decode cX8_goDay 46 = .ok (.iload_n 1, 1) := by decide +kernel
theorem dX8_goDay_47 : decode cX8_goDay 47 = .ok (.goto 5, 3) := by decide +kernel
theorem dX8_goDay_50 : decode cX8_goDay 50 = .ok (.bipush (-6), 2) := by decide +kernel
theorem dX8_goDay_52 : decode cX8_goDay 52 = .ok (.putfield 168, 3) := by decide +kernel
theorem dX8_goDay_55 : decode cX8_goDay 55 = .ok (.aload_n 0, 1) := by decide +kernel
theorem dX8_goDay_56 : decode cX8_goDay 56 = .ok (.iload_n 2, 1) := by decide +kernel
theorem dX8_goDay_57 : decode cX8_goDay 57 = .ok (.ifCond .le 7, 3) := by decide +kernel
theorem dX8_goDay_60 : decode cX8_goDay 60 = .ok (.iload_n 2, 1) := by decide +kernel
theorem dX8_goDay_61 : decode cX8_goDay 61 = .ok (.goto 5, 3) := by decide +kernel
theorem dX8_goDay_64 : decode cX8_goDay 64 = .ok (.bipush (-6), 2) := by decide +kernel
theorem dX8_goDay_66 : decode cX8_goDay 66 = .ok (.putfield 171, 3) := by decide +kernel
theorem dX8_goDay_69 : decode cX8_goDay 69 = .ok (.iload_n 2, 1) := by decide +kernel
theorem dX8_goDay_70 : decode cX8_goDay 70 = .ok (.ifCond .ne 34, 3) := by decide +kernel
theorem dX8_goDay_73 : decode cX8_goDay 73 = .ok (.aload_n 0, 1) := by decide +kernel
theorem dX8_goDay_74 : decode cX8_goDay 74 = .ok (.iload_n 1, 1) := by decide +kernel
theorem dX8_goDay_75 : decode cX8_goDay 75 = .ok (.invokevirtual 180, 3) := by decide +kernel
theorem dX8_goDay_78 : decode cX8_goDay 78 = .ok (.aload_n 0, 1) := by decide +kernel
theorem dX8_goDay_79 : decode cX8_goDay 79 = .ok (.aload_n 0, 1) := by decide +kernel
theorem dX8_goDay_80 : decode cX8_goDay 80 = .ok (.getfield 174, 3) := by decide +kernel
theorem dX8_goDay_83 : decode cX8_goDay 83 = .ok (.ifCond .ge 14, 3) := by decide +kernel
theorem dX8_goDay_86 : decode cX8_goDay 86 = .ok (.aload_n 0, 1) := by decide +kernel
theorem dX8_goDay_87 : decode cX8_goDay 87 = .ok (.invokevirtual 184, 3) := by decide +kernel
theorem dX8_goDay_90 : decode cX8_goDay 90 = .ok (.ifCond .eq 7, 3) := by decide +kernel
theorem dX8_goDay_93 : decode cX8_goDay 93 = .ok (.iload_n 1, 1) := by decide +kernel
theorem dX8_goDay_94 : decode cX8_goDay 94 = .ok (.goto 7, 3) := by decide +kernel
theorem dX8_goDay_97 : decode cX8_goDay 97 = .ok (.aload_n 0, 1) := by decide +kernel
theorem dX8_goDay_98 : decode cX8_goDay 98 = .ok (.getfield 174, 3) := by decide +kernel
theorem dX8_goDay_101 : decode cX8_goDay 101 = .ok (.putfield 174, 3) := by decide +kernel
theorem dX8_goDay_104 : decode cX8_goDay 104 = .ok (.iinc 1 1, 3) := by decide +kernel
theorem dX8_goDay_107 : decode cX8_goDay 107 = .ok (.goto (-87), 3) := by decide +kernel
theorem dX8_goDay_110 : decode cX8_goDay 110 = .ok (.return_, 1) := by decide +kernel
set_option maxRecDepth 20000 in
theorem ggX8_refusal_X8_fault : GoodIn wsX8_refusal wsX8_fault := goodIn_r _ [9, 10, 11, 12, 13, 14, 15, 16, 17, 18, 8, 19, 20, 21, 22, 23, 24, 25, 26, 27, 28, 29, 30, 31, 88, 89, 90, 91, 92, 93, 94, 95, 96, 97, 98, 99, 100, 101, 102, 103, 104, 105, 106, 107, 108, 109, 110, 111, 112, 113, 114, 115, 116, 117, 118, 119, 120, 121, 122, 123, 124, 125, 126, 127, 128, 129, 130, 131, 132, 133] (by decide +kernel) (by decide +kernel)
set_option maxRecDepth 20000 in
theorem gX8_refusal_X8_fault : GoodIn wsX8_refusal (wsV RX8 188 RX8 yX8_fault wsX8_fault) := goodIn_app (goodIn_of _ (by decide +kernel)) ggX8_refusal_X8_fault
set_option maxRecDepth 20000 in
theorem ggX8_refusal_X8_keepNow : GoodIn wsX8_refusal wsX8_keepNow := goodIn_r _ [35, 3, 36, 37, 38, 2, 39, 40, 88, 89, 90, 91, 92, 93, 94, 95, 96, 97, 98, 99, 100, 101, 102, 103, 104, 105, 106, 107, 108, 109, 110, 111, 112, 113, 114, 115, 116, 117, 118, 119, 120, 121, 122, 123, 124, 125, 126, 127, 128, 129, 130, 131, 132, 133] (by decide +kernel) (by decide +kernel)
set_option maxRecDepth 20000 in
theorem gX8_refusal_X8_keepNow : GoodIn wsX8_refusal (wsV RX8 192 RX8 yX8_keepNow wsX8_keepNow) := goodIn_app (goodIn_of _ (by decide +kernel)) ggX8_refusal_X8_keepNow
set_option maxRecDepth 20000 in
theorem ggX8_refusal_X8_goDay : GoodIn wsX8_refusal wsX8_goDay := goodIn_r _ [44, 4, 45, 46, 10, 47, 48, 49, 8, 50, 15, 16, 38, 51, 52, 53, 54, 55, 56, 17, 18, 19, 20, 21, 22, 23, 57, 58, 59, 60, 36, 37, 2, 61, 40, 62, 63, 64, 65, 31, 39, 66, 67, 68, 69, 70, 71, 72, 73, 74, 75, 76, 77, 78, 79, 80, 81, 82, 83, 88, 89, 90, 91, 92, 93, 94, 95, 96, 97, 98, 99, 100, 101, 102, 103, 104, 105, 106, 107, 108, 109, 110, 111, 112, 113, 114, 115, 116, 117, 118, 119, 120, 121, 122, 123, 124, 125, 126, 127, 128, 129, 130, 131, 132, 133] (by decide +kernel) (by decide +kernel)
set_option maxRecDepth 20000 in
theorem gX8_refusal_X8_goDay : GoodIn wsX8_refusal (wsV RX8 195 RX8 yX8_goDay wsX8_goDay) := goodIn_app (goodIn_of _ (by decide +kernel)) ggX8_refusal_X8_goDay
set_option maxRecDepth 20000 in
theorem ggX8_refusal_X8_putBack : GoodIn wsX8_refusal wsX8_putBack := goodIn_r _ [87, 36, 3, 37, 38, 2, 39, 40, 88, 89, 90, 91, 92, 93, 94, 95, 96, 97, 98, 99, 100, 101, 102, 103, 104, 105, 106, 107, 108, 109, 110, 111, 112, 113, 114, 115, 116, 117, 118, 119, 120, 121, 122, 123, 124, 125, 126, 127, 128, 129, 130, 131, 132, 133] (by decide +kernel) (by decide +kernel)
set_option maxRecDepth 20000 in
theorem gX8_refusal_X8_putBack : GoodIn wsX8_refusal (wsV RX8 198 RX8 yX8_putBack wsX8_putBack) := goodIn_app (goodIn_of _ (by decide +kernel)) ggX8_refusal_X8_putBack
theorem dX8_refusal_0 : decode cX8_refusal 0 = .ok (.aload_n 0, 1) := by decide +kernel
theorem dX8_refusal_1 : decode cX8_refusal 1 = .ok (.invokevirtual 188, 3) := by decide +kernel
theorem dX8_refusal_4 : decode cX8_refusal 4 = .ok (.ifCond .lt 6, 3) := by decide +kernel
theorem dX8_refusal_7 : decode cX8_refusal 7 = .ok (.bipush (-5), 2) := by decide +kernel
theorem dX8_refusal_9 : decode cX8_refusal 9 = .ok (.ireturn, 1) := by decide +kernel
theorem dX8_refusal_10 : decode cX8_refusal 10 = .ok (.aload_n 0, 1) := by decide +kernel
theorem dX8_refusal_11 : decode cX8_refusal 11 = .ok (.invokevirtual 192, 3) := by decide +kernel
theorem dX8_refusal_14 : decode cX8_refusal 14 = .ok (.aload_n 0, 1) := by decide +kernel
theorem dX8_refusal_15 : decode cX8_refusal 15 = .ok (.invokevirtual 195, 3) := by decide +kernel
theorem dX8_refusal_18 : decode cX8_refusal 18 = .ok (.iconst 0, 1) := by decide +kernel
theorem dX8_refusal_19 : decode cX8_refusal 19 = .ok (.istore_n 1, 1) := by decide +kernel
theorem dX8_refusal_20 : decode cX8_refusal 20 = .ok (.iload_n 1, 1) := by decide +kernel
theorem dX8_refusal_21 : decode cX8_refusal 21 = .ok (.iconst 4, 1) := by decide +kernel
theorem dX8_refusal_22 : decode cX8_refusal 22 = .ok (.if_icmp .ge 31, 3) := by decide +kernel
theorem dX8_refusal_25 : decode cX8_refusal 25 = .ok (.aload_n 0, 1) := by decide +kernel
theorem dX8_refusal_26 : decode cX8_refusal 26 = .ok (.getfield 52, 3) := by decide +kernel
theorem dX8_refusal_29 : decode cX8_refusal 29 = .ok (.iload_n 1, 1) := by decide +kernel
theorem dX8_refusal_30 : decode cX8_refusal 30 = .ok (.aload_n 0, 1) := by decide +kernel
theorem dX8_refusal_31 : decode cX8_refusal 31 = .ok (.getfield 34, 3) := by decide +kernel
theorem dX8_refusal_34 : decode cX8_refusal 34 = .ok (.iload_n 1, 1) := by decide +kernel
theorem dX8_refusal_35 : decode cX8_refusal 35 = .ok (.iaload, 1) := by decide +kernel
theorem dX8_refusal_36 : decode cX8_refusal 36 = .ok (.aload_n 0, 1) := by decide +kernel
theorem dX8_refusal_37 : decode cX8_refusal 37 = .ok (.getfield 49, 3) := by decide +kernel
theorem dX8_refusal_40 : decode cX8_refusal 40 = .ok (.bipush 52, 2) := by decide +kernel
theorem dX8_refusal_42 : decode cX8_refusal 42 = .ok (.iload_n 1, 1) := by decide +kernel
theorem dX8_refusal_43 : decode cX8_refusal 43 = .ok (.iadd, 1) := by decide +kernel
theorem dX8_refusal_44 : decode cX8_refusal 44 = .ok (.iaload, 1) := by decide +kernel
theorem dX8_refusal_45 : decode cX8_refusal 45 = .ok (.isub, 1) := by decide +kernel
theorem dX8_refusal_46 : decode cX8_refusal 46 = .ok (.iastore, 1) := by decide +kernel
theorem dX8_refusal_47 : decode cX8_refusal 47 = .ok (.iinc 1 1, 3) := by decide +kernel
theorem dX8_refusal_50 : decode cX8_refusal 50 = .ok (.goto (-30), 3) := by decide +kernel
theorem dX8_refusal_53 : decode cX8_refusal 53 = .ok (.aload_n 0, 1) := by decide +kernel
theorem dX8_refusal_54 : decode cX8_refusal 54 = .ok (.invokevirtual 198, 3) := by decide +kernel
theorem dX8_refusal_57 : decode cX8_refusal 57 = .ok (.aload_n 0, 1) := by decide +kernel
theorem dX8_refusal_58 : decode cX8_refusal 58 = .ok (.getfield 168, 3) := by decide +kernel
theorem dX8_refusal_61 : decode cX8_refusal 61 = .ok (.ifCond .lt 8, 3) := by decide +kernel
theorem dX8_refusal_64 : decode cX8_refusal 64 = .ok (.bipush (-3), 2) := by decide +kernel
theorem dX8_refusal_66 : decode cX8_refusal 66 = .ok (.goto 5, 3) := by decide +kernel
theorem dX8_refusal_69 : decode cX8_refusal 69 = .ok (.bipush (-6), 2) := by decide +kernel
theorem dX8_refusal_71 : decode cX8_refusal 71 = .ok (.ireturn, 1) := by decide +kernel
set_option maxRecDepth 20000 in
theorem ggX8_judge_X8_in : GoodIn wsX8_judge wsX8_in := goodIn_r _ [8] (by decide +kernel) (by decide +kernel)
set_option maxRecDepth 20000 in
theorem gX8_judge_X8_in : GoodIn wsX8_judge (va_wsS RX8 96 yX8_in wsX8_in) := goodIn_app (goodIn_of _ (by decide +kernel)) ggX8_judge_X8_in
set_option maxRecDepth 20000 in
theorem ggX8_judge_X8_refusal : GoodIn wsX8_judge wsX8_refusal := goodIn_r _ [12, 4, 13, 14, 2, 15, 16, 17, 7, 18, 19, 20, 21, 22, 23, 24, 25, 26, 27, 28, 1, 5, 6, 8, 29, 30, 31, 32, 33, 34, 35, 36, 37, 38, 39, 40, 41, 42, 43, 44, 45, 46, 47, 48, 49, 3, 50, 51, 52, 53, 54, 55, 56, 57, 58, 59, 60, 61, 62, 63, 64, 65, 66, 67, 68, 69, 70, 71, 72, 73, 74, 75, 76, 77, 78, 79, 80, 81, 82, 83, 84, 85, 86, 87, 88, 89, 90, 91, 92, 93, 94, 95, 96, 97, 98, 99, 100, 101, 102, 103, 104, 105, 106, 107, 108, 109, 110, 111, 112, 113, 114, 115, 116, 117, 118, 119, 120, 121, 122, 123, 124, 125, 126, 127, 128, 129, 130, 131, 132, 133, 134, 135, 136, 137] (by decide +kernel) (by decide +kernel)
set_option maxRecDepth 20000 in
theorem gX8_judge_X8_refusal : GoodIn wsX8_judge (wsV RX8 201 RX8 yX8_refusal wsX8_refusal) := goodIn_app (goodIn_of _ (by decide +kernel)) ggX8_judge_X8_refusal
theorem dX8_judge_0 : decode cX8_judge 0 = .ok (.iload_n 1, 1) := by decide +kernel
theorem dX8_judge_1 : decode cX8_judge 1 = .ok (.i2l, 1) := by decide +kernel
theorem dX8_judge_2 : decode cX8_judge 2 = .ok (.lconst 0, 1) := by decide +kernel
theorem dX8_judge_3 : decode cX8_judge 3 = .ok (.ldc2_w 100, 3) := by decide +kernel
theorem dX8_judge_6 : decode cX8_judge 6 = .ok (.invokestatic 96, 3) := by decide +kernel
theorem dX8_judge_9 : decode cX8_judge 9 = .ok (.ifCond .ne 6, 3) := by decide +kernel
theorem dX8_judge_12 : decode cX8_judge 12 = .ok (.bipush (-2), 2) := by decide +kernel
theorem dX8_judge_14 : decode cX8_judge 14 = .ok (.ireturn, 1) := by decide +kernel
theorem dX8_judge_15 : decode cX8_judge 15 = .ok (.aload_n 0, 1) := by decide +kernel
theorem dX8_judge_16 : decode cX8_judge 16 = .ok (.invokevirtual 201, 3) := by decide +kernel
theorem dX8_judge_19 : decode cX8_judge 19 = .ok (.istore_n 2, 1) := by decide +kernel
theorem dX8_judge_20 : decode cX8_judge 20 = .ok (.iload_n 2, 1) := by decide +kernel
theorem dX8_judge_21 : decode cX8_judge 21 = .ok (.bipush (-5), 2) := by decide +kernel
theorem dX8_judge_23 : decode cX8_judge 23 = .ok (.if_icmp .eq 14, 3) := by decide +kernel
theorem dX8_judge_26 : decode cX8_judge 26 = .ok (.iload_n 1, 1) := by decide +kernel
theorem dX8_judge_27 : decode cX8_judge 27 = .ok (.iconst 1, 1) := by decide +kernel
theorem dX8_judge_28 : decode cX8_judge 28 = .ok (.if_icmp .le 11, 3) := by decide +kernel
theorem dX8_judge_31 : decode cX8_judge 31 = .ok (.iload_n 2, 1) := by decide +kernel
theorem dX8_judge_32 : decode cX8_judge 32 = .ok (.bipush (-3), 2) := by decide +kernel
theorem dX8_judge_34 : decode cX8_judge 34 = .ok (.if_icmp .ne 5, 3) := by decide +kernel
theorem dX8_judge_37 : decode cX8_judge 37 = .ok (.iload_n 2, 1) := by decide +kernel
theorem dX8_judge_38 : decode cX8_judge 38 = .ok (.ireturn, 1) := by decide +kernel
theorem dX8_judge_39 : decode cX8_judge 39 = .ok (.iload_n 1, 1) := by decide +kernel
theorem dX8_judge_40 : decode cX8_judge 40 = .ok (.ifCond .ne 10, 3) := by decide +kernel
theorem dX8_judge_43 : decode cX8_judge 43 = .ok (.aload_n 0, 1) := by decide +kernel
theorem dX8_judge_44 : decode cX8_judge 44 = .ok (.getfield 168, 3) := by decide +kernel
theorem dX8_judge_47 : decode cX8_judge 47 = .ok (.goto 23, 3) := by decide +kernel
theorem dX8_judge_50 : decode cX8_judge 50 = .ok (.iload_n 1, 1) := by decide +kernel
theorem dX8_judge_51 : decode cX8_judge 51 = .ok (.iconst 1, 1) := by decide +kernel
theorem dX8_judge_52 : decode cX8_judge 52 = .ok (.if_icmp .ne 10, 3) := by decide +kernel
theorem dX8_judge_55 : decode cX8_judge 55 = .ok (.aload_n 0, 1) := by decide +kernel
theorem dX8_judge_56 : decode cX8_judge 56 = .ok (.getfield 171, 3) := by decide +kernel
theorem dX8_judge_59 : decode cX8_judge 59 = .ok (.goto 11, 3) := by decide +kernel
theorem dX8_judge_62 : decode cX8_judge 62 = .ok (.aload_n 0, 1) := by decide +kernel
theorem dX8_judge_63 : decode cX8_judge 63 = .ok (.getfield 52, 3) := by decide +kernel
theorem dX8_judge_66 : decode cX8_judge 66 = .ok (.iload_n 1, 1) := by decide +kernel
theorem dX8_judge_67 : decode cX8_judge 67 = .ok (.iconst 2, 1) := by decide +kernel
theorem dX8_judge_68 : decode cX8_judge 68 = .ok (.isub, 1) := by decide +kernel
theorem dX8_judge_69 : decode cX8_judge 69 = .ok (.iaload, 1) := by decide +kernel
theorem dX8_judge_70 : decode cX8_judge 70 = .ok (.ireturn, 1) := by decide +kernel
set_option maxRecDepth 20000 in
theorem ggX8_heat_X8_refusal : GoodIn wsX8_heat wsX8_refusal := goodIn_r _ [6, 7, 8, 9, 10, 11, 12, 13, 5, 14, 15, 16, 17, 18, 19, 20, 21, 22, 23, 24, 25, 26, 27, 28, 29, 30, 31, 32, 33, 34, 35, 36, 37, 38, 39, 40, 41, 42, 43, 1, 44, 45, 46, 47, 48, 49, 50, 51, 52, 53, 54, 55, 56, 57, 58, 59, 60, 61, 62, 63, 64, 65, 66, 67, 68, 69, 70, 71, 72, 73, 74, 75, 76, 77, 78, 79, 80, 81, 82, 83, 84, 85, 86, 87, 88, 89, 90, 91, 92, 93, 94, 95, 96, 97, 98, 99, 100, 101, 102, 103, 104, 105, 106, 107, 108, 109, 110, 111, 112, 113, 114, 115, 116, 117, 118, 119, 120, 121, 122, 123, 124, 125, 126, 127, 128, 129, 130, 131, 132, 133, 134, 135, 136, 137] (by decide +kernel) (by decide +kernel)
set_option maxRecDepth 20000 in
theorem gX8_heat_X8_refusal : GoodIn wsX8_heat (wsV RX8 201 RX8 yX8_refusal wsX8_refusal) := goodIn_app (goodIn_of _ (by decide +kernel)) ggX8_heat_X8_refusal
set_option maxRecDepth 20000 in
theorem ggX8_heat_X8_goDay : GoodIn wsX8_heat wsX8_goDay := goodIn_r _ [48, 10, 49, 50, 15, 51, 52, 53, 5, 54, 20, 21, 43, 55, 56, 57, 58, 59, 60, 22, 23, 24, 25, 26, 27, 28, 61, 62, 63, 64, 41, 42, 8, 65, 44, 66, 67, 68, 69, 36, 1, 70, 71, 72, 73, 74, 75, 76, 77, 78, 79, 80, 81, 82, 83, 84, 85, 86, 87, 92, 93, 94, 95, 96, 97, 98, 99, 100, 101, 102, 103, 104, 105, 106, 107, 108, 109, 110, 111, 112, 113, 114, 115, 116, 117, 118, 119, 120, 121, 122, 123, 124, 125, 126, 127, 128, 129, 130, 131, 132, 133, 134, 135, 136, 137] (by decide +kernel) (by decide +kernel)
set_option maxRecDepth 20000 in
theorem gX8_heat_X8_goDay : GoodIn wsX8_heat (wsV RX8 195 RX8 yX8_goDay wsX8_goDay) := goodIn_app (goodIn_of _ (by decide +kernel)) ggX8_heat_X8_goDay
set_option maxRecDepth 20000 in
theorem ggX8_heat_X8_putBack : GoodIn wsX8_heat wsX8_putBack := goodIn_r _ [91, 41, 9, 42, 43, 8, 1, 44, 92, 93, 94, 95, 96, 97, 98, 99, 100, 101, 102, 103, 104, 105, 106, 107, 108, 109, 110, 111, 112, 113, 114, 115, 116, 117, 118, 119, 120, 121, 122, 123, 124, 125, 126, 127, 128, 129, 130, 131, 132, 133, 134, 135, 136, 137] (by decide +kernel) (by decide +kernel)
set_option maxRecDepth 20000 in
theorem gX8_heat_X8_putBack : GoodIn wsX8_heat (wsV RX8 198 RX8 yX8_putBack wsX8_putBack) := goodIn_app (goodIn_of _ (by decide +kernel)) ggX8_heat_X8_putBack
theorem dX8_heat_0 : decode cX8_heat 0 = .ok (.aload_n 0, 1) := by decide +kernel
theorem dX8_heat_1 : decode cX8_heat 1 = .ok (.invokevirtual 201, 3) := by decide +kernel
theorem dX8_heat_4 : decode cX8_heat 4 = .ok (.istore_n 1, 1) := by decide +kernel
theorem dX8_heat_5 : decode cX8_heat 5 = .ok (.iload_n 1, 1) := by decide +kernel
theorem dX8_heat_6 : decode cX8_heat 6 = .ok (.bipush (-6), 2) := by decide +kernel
theorem dX8_heat_8 : decode cX8_heat 8 = .ok (.if_icmp .eq 5, 3) := by decide +kernel
theorem dX8_heat_11 : decode cX8_heat 11 = .ok (.iload_n 1, 1) := by decide +kernel
theorem dX8_heat_12 : decode cX8_heat 12 = .ok (.ireturn, 1) := by decide +kernel
theorem dX8_heat_13 : decode cX8_heat 13 = .ok (.aload_n 0, 1) := by decide +kernel
theorem dX8_heat_14 : decode cX8_heat 14 = .ok (.invokevirtual 195, 3) := by decide +kernel
theorem dX8_heat_17 : decode cX8_heat 17 = .ok (.aload_n 0, 1) := by decide +kernel
theorem dX8_heat_18 : decode cX8_heat 18 = .ok (.getfield 87, 3) := by decide +kernel
theorem dX8_heat_21 : decode cX8_heat 21 = .ok (.istore_n 2, 1) := by decide +kernel
theorem dX8_heat_22 : decode cX8_heat 22 = .ok (.aload_n 0, 1) := by decide +kernel
theorem dX8_heat_23 : decode cX8_heat 23 = .ok (.invokevirtual 198, 3) := by decide +kernel
theorem dX8_heat_26 : decode cX8_heat 26 = .ok (.iload_n 2, 1) := by decide +kernel
theorem dX8_heat_27 : decode cX8_heat 27 = .ok (.ireturn, 1) := by decide +kernel
theorem dX8_toldOf_0 : decode cX8_toldOf 0 = .ok (.bipush 6, 2) := by decide +kernel
theorem dX8_toldOf_2 : decode cX8_toldOf 2 = .ok (.iload_n 1, 1) := by decide +kernel
theorem dX8_toldOf_3 : decode cX8_toldOf 3 = .ok (.imul, 1) := by decide +kernel
theorem dX8_toldOf_4 : decode cX8_toldOf 4 = .ok (.iload_n 2, 1) := by decide +kernel
theorem dX8_toldOf_5 : decode cX8_toldOf 5 = .ok (.iadd, 1) := by decide +kernel
theorem dX8_toldOf_6 : decode cX8_toldOf 6 = .ok (.istore 4, 2) := by decide +kernel
theorem dX8_toldOf_8 : decode cX8_toldOf 8 = .ok (.iload_n 2, 1) := by decide +kernel
theorem dX8_toldOf_9 : decode cX8_toldOf 9 = .ok (.aload_n 0, 1) := by decide +kernel
theorem dX8_toldOf_10 : decode cX8_toldOf 10 = .ok (.getfield 25, 3) := by decide +kernel
theorem dX8_toldOf_13 : decode cX8_toldOf 13 = .ok (.iload_n 1, 1) := by decide +kernel
theorem dX8_toldOf_14 : decode cX8_toldOf 14 = .ok (.iaload, 1) := by decide +kernel
theorem dX8_toldOf_15 : decode cX8_toldOf 15 = .ok (.if_icmp .lt 8, 3) := by decide +kernel
theorem dX8_toldOf_18 : decode cX8_toldOf 18 = .ok (.bipush (-6), 2) := by decide +kernel
theorem dX8_toldOf_20 : decode cX8_toldOf 20 = .ok (.goto 24, 3) := by decide +kernel
theorem dX8_toldOf_23 : decode cX8_toldOf 23 = .ok (.iload_n 3, 1) := by decide +kernel
theorem dX8_toldOf_24 : decode cX8_toldOf 24 = .ok (.ifCond .ne 13, 3) := by decide +kernel
theorem dX8_toldOf_27 : decode cX8_toldOf 27 = .ok (.aload_n 0, 1) := by decide +kernel
theorem dX8_toldOf_28 : decode cX8_toldOf 28 = .ok (.getfield 28, 3) := by decide +kernel
theorem dX8_toldOf_31 : decode cX8_toldOf 31 = .ok (.iload 4, 2) := by decide +kernel
theorem dX8_toldOf_33 : decode cX8_toldOf 33 = .ok (.iaload, 1) := by decide +kernel
theorem dX8_toldOf_34 : decode cX8_toldOf 34 = .ok (.goto 10, 3) := by decide +kernel
theorem dX8_toldOf_37 : decode cX8_toldOf 37 = .ok (.aload_n 0, 1) := by decide +kernel
theorem dX8_toldOf_38 : decode cX8_toldOf 38 = .ok (.getfield 31, 3) := by decide +kernel
theorem dX8_toldOf_41 : decode cX8_toldOf 41 = .ok (.iload 4, 2) := by decide +kernel
theorem dX8_toldOf_43 : decode cX8_toldOf 43 = .ok (.iaload, 1) := by decide +kernel
theorem dX8_toldOf_44 : decode cX8_toldOf 44 = .ok (.ireturn, 1) := by decide +kernel
set_option maxRecDepth 20000 in
theorem ggX8_behind_X8_isRow : GoodIn wsX8_behind wsX8_isRow := goodIn_r _ [5, 6, 7, 8, 4, 9, 100, 101, 102, 103, 104, 105, 106, 107, 108, 109, 110, 111, 112, 113, 114, 115, 116, 117, 118, 119, 120, 121, 122, 123, 124, 125, 126, 127, 128, 129, 130, 131, 132, 133, 134, 135, 136, 137, 138, 139, 140, 141, 142, 143, 144, 145] (by decide +kernel) (by decide +kernel)
set_option maxRecDepth 20000 in
theorem gX8_behind_X8_isRow : GoodIn wsX8_behind (wsV RX8 151 RX8 yX8_isRow wsX8_isRow) := goodIn_app (goodIn_of _ (by decide +kernel)) ggX8_behind_X8_isRow
set_option maxRecDepth 20000 in
theorem ggX8_behind_X8_isPlace : GoodIn wsX8_behind wsX8_isPlace := goodIn_r _ [13, 14, 7, 8, 4, 9, 100, 101, 102, 103, 104, 105, 106, 107, 108, 109, 110, 111, 112, 113, 114, 115, 116, 117, 118, 119, 120, 121, 122, 123, 124, 125, 126, 127, 128, 129, 130, 131, 132, 133, 134, 135, 136, 137, 138, 139, 140, 141, 142, 143, 144, 145] (by decide +kernel) (by decide +kernel)
set_option maxRecDepth 20000 in
theorem gX8_behind_X8_isPlace : GoodIn wsX8_behind (wsV RX8 125 RX8 yX8_isPlace wsX8_isPlace) := goodIn_app (goodIn_of _ (by decide +kernel)) ggX8_behind_X8_isPlace
set_option maxRecDepth 20000 in
theorem ggX8_behind_X8_in : GoodIn wsX8_behind wsX8_in := goodIn_r _ [9] (by decide +kernel) (by decide +kernel)
set_option maxRecDepth 20000 in
theorem gX8_behind_X8_in : GoodIn wsX8_behind (va_wsS RX8 96 yX8_in wsX8_in) := goodIn_app (goodIn_of _ (by decide +kernel)) ggX8_behind_X8_in
set_option maxRecDepth 20000 in
theorem ggX8_behind_X8_refusal : GoodIn wsX8_behind wsX8_refusal := goodIn_r _ [18, 19, 20, 21, 22, 23, 24, 25, 4, 26, 27, 28, 29, 30, 31, 32, 33, 34, 35, 36, 37, 7, 8, 9, 38, 39, 40, 1, 2, 3, 5, 6, 41, 42, 43, 44, 45, 46, 47, 48, 49, 50, 51, 52, 53, 54, 55, 56, 57, 58, 59, 14, 60, 61, 62, 63, 64, 65, 66, 67, 68, 69, 70, 71, 72, 73, 74, 75, 76, 77, 78, 79, 80, 81, 82, 83, 84, 85, 86, 87, 88, 89, 90, 91, 92, 93, 94, 95, 100, 101, 102, 103, 104, 105, 106, 107, 108, 109, 110, 111, 112, 113, 114, 115, 116, 117, 118, 119, 120, 121, 122, 123, 124, 125, 126, 127, 128, 129, 130, 131, 132, 133, 134, 135, 136, 137, 138, 139, 140, 141, 142, 143, 144, 145] (by decide +kernel) (by decide +kernel)
set_option maxRecDepth 20000 in
theorem gX8_behind_X8_refusal : GoodIn wsX8_behind (wsV RX8 201 RX8 yX8_refusal wsX8_refusal) := goodIn_app (goodIn_of _ (by decide +kernel)) ggX8_behind_X8_refusal
set_option maxRecDepth 20000 in
theorem ggX8_behind_X8_goDay : GoodIn wsX8_behind wsX8_goDay := goodIn_r _ [53, 22, 54, 55, 27, 56, 57, 58, 4, 59, 32, 33, 47, 14, 60, 61, 62, 63, 64, 34, 35, 36, 37, 7, 8, 9, 65, 66, 67, 68, 45, 46, 20, 69, 49, 70, 71, 72, 73, 6, 48, 74, 75, 76, 77, 78, 79, 80, 81, 82, 83, 84, 85, 86, 87, 88, 89, 90, 91, 100, 101, 102, 103, 104, 105, 106, 107, 108, 109, 110, 111, 112, 113, 114, 115, 116, 117, 118, 119, 120, 121, 122, 123, 124, 125, 126, 127, 128, 129, 130, 131, 132, 133, 134, 135, 136, 137, 138, 139, 140, 141, 142, 143, 144, 145] (by decide +kernel) (by decide +kernel)
set_option maxRecDepth 20000 in
theorem gX8_behind_X8_goDay : GoodIn wsX8_behind (wsV RX8 195 RX8 yX8_goDay wsX8_goDay) := goodIn_app (goodIn_of _ (by decide +kernel)) ggX8_behind_X8_goDay
set_option maxRecDepth 20000 in
theorem ggX8_behind_X8_toldOf : GoodIn wsX8_behind wsX8_toldOf := goodIn_r _ [99, 47, 45, 46, 100, 101, 102, 103, 104, 105, 106, 107, 108, 109, 110, 111, 112, 113, 114, 115, 116, 117, 118, 119, 120, 121, 122, 123, 124, 125, 126, 127, 128, 129, 130, 131, 132, 133, 134, 135, 136, 137, 138, 139, 140, 141, 142, 143, 144, 145] (by decide +kernel) (by decide +kernel)
set_option maxRecDepth 20000 in
theorem gX8_behind_X8_toldOf : GoodIn wsX8_behind (wsV RX8 204 RX8 yX8_toldOf wsX8_toldOf) := goodIn_app (goodIn_of _ (by decide +kernel)) ggX8_behind_X8_toldOf
set_option maxRecDepth 20000 in
theorem ggX8_behind_X8_putBack : GoodIn wsX8_behind wsX8_putBack := goodIn_r _ [95, 45, 21, 46, 47, 20, 48, 49, 100, 101, 102, 103, 104, 105, 106, 107, 108, 109, 110, 111, 112, 113, 114, 115, 116, 117, 118, 119, 120, 121, 122, 123, 124, 125, 126, 127, 128, 129, 130, 131, 132, 133, 134, 135, 136, 137, 138, 139, 140, 141, 142, 143, 144, 145] (by decide +kernel) (by decide +kernel)
set_option maxRecDepth 20000 in
theorem gX8_behind_X8_putBack : GoodIn wsX8_behind (wsV RX8 198 RX8 yX8_putBack wsX8_putBack) := goodIn_app (goodIn_of _ (by decide +kernel)) ggX8_behind_X8_putBack
theorem dX8_behind_0 : decode cX8_behind 0 = .ok (.aload_n 0, 1) := by decide +kernel
theorem dX8_behind_1 : decode cX8_behind 1 = .ok (.iload_n 1, 1) := by decide +kernel
theorem dX8_behind_2 : decode cX8_behind 2 = .ok (.invokevirtual 151, 3) := by decide +kernel
theorem dX8_behind_5 : decode cX8_behind 5 = .ok (.ifCond .eq 11, 3) := by decide +kernel
theorem dX8_behind_8 : decode cX8_behind 8 = .ok (.aload_n 0, 1) := by decide +kernel
theorem dX8_behind_9 : decode cX8_behind 9 = .ok (.iload_n 2, 1) := by decide +kernel
theorem dX8_behind_10 : decode cX8_behind 10 = .ok (.invokevirtual 125, 3) := by decide +kernel
theorem dX8_behind_13 : decode cX8_behind 13 = .ok (.ifCond .ne 5, 3) := by decide +kernel
theorem dX8_behind_16 : decode cX8_behind 16 = .ok (.iconst (-1), 1) := by decide +kernel
theorem dX8_behind_17 : decode cX8_behind 17 = .ok (.ireturn, 1) := by decide +kernel
theorem dX8_behind_18 : decode cX8_behind 18 = .ok (.iload_n 3, 1) := by decide +kernel
theorem dX8_behind_19 : decode cX8_behind 19 = .ok (.i2l, 1) := by decide +kernel
theorem dX8_behind_20 : decode cX8_behind 20 = .ok (.lconst 0, 1) := by decide +kernel
theorem dX8_behind_21 : decode cX8_behind 21 = .ok (.lconst 1, 1) := by decide +kernel
theorem dX8_behind_22 : decode cX8_behind 22 = .ok (.invokestatic 96, 3) := by decide +kernel
theorem dX8_behind_25 : decode cX8_behind 25 = .ok (.ifCond .ne 6, 3) := by decide +kernel
theorem dX8_behind_28 : decode cX8_behind 28 = .ok (.bipush (-2), 2) := by decide +kernel
theorem dX8_behind_30 : decode cX8_behind 30 = .ok (.ireturn, 1) := by decide +kernel
theorem dX8_behind_31 : decode cX8_behind 31 = .ok (.aload_n 0, 1) := by decide +kernel
theorem dX8_behind_32 : decode cX8_behind 32 = .ok (.invokevirtual 201, 3) := by decide +kernel
theorem dX8_behind_35 : decode cX8_behind 35 = .ok (.istore 4, 2) := by decide +kernel
theorem dX8_behind_37 : decode cX8_behind 37 = .ok (.iload 4, 2) := by decide +kernel
theorem dX8_behind_39 : decode cX8_behind 39 = .ok (.bipush (-6), 2) := by decide +kernel
theorem dX8_behind_41 : decode cX8_behind 41 = .ok (.if_icmp .eq 6, 3) := by decide +kernel
theorem dX8_behind_44 : decode cX8_behind 44 = .ok (.iload 4, 2) := by decide +kernel
theorem dX8_behind_46 : decode cX8_behind 46 = .ok (.ireturn, 1) := by decide +kernel
theorem dX8_behind_47 : decode cX8_behind 47 = .ok (.aload_n 0, 1) := by decide +kernel
theorem dX8_behind_48 : decode cX8_behind 48 = .ok (.invokevirtual 195, 3) := by decide +kernel
theorem dX8_behind_51 : decode cX8_behind 51 = .ok (.aload_n 0, 1) := by decide +kernel
theorem dX8_behind_52 : decode cX8_behind 52 = .ok (.iload_n 1, 1) := by decide +kernel
theorem dX8_behind_53 : decode cX8_behind 53 = .ok (.iload_n 2, 1) := by decide +kernel
theorem dX8_behind_54 : decode cX8_behind 54 = .ok (.iload_n 3, 1) := by decide +kernel
theorem dX8_behind_55 : decode cX8_behind 55 = .ok (.invokevirtual 204, 3) := by decide +kernel
theorem dX8_behind_58 : decode cX8_behind 58 = .ok (.istore 5, 2) := by decide +kernel
theorem dX8_behind_60 : decode cX8_behind 60 = .ok (.aload_n 0, 1) := by decide +kernel
theorem dX8_behind_61 : decode cX8_behind 61 = .ok (.invokevirtual 198, 3) := by decide +kernel
theorem dX8_behind_64 : decode cX8_behind 64 = .ok (.iload 5, 2) := by decide +kernel
theorem dX8_behind_66 : decode cX8_behind 66 = .ok (.ireturn, 1) := by decide +kernel
set_option maxRecDepth 20000 in
theorem ggX8_done_X8_refusal : GoodIn wsX8_done wsX8_refusal := goodIn_r _ [7, 8, 9, 10, 11, 12, 13, 14, 6, 15, 2, 1, 16, 17, 18, 19, 20, 21, 22, 23, 24, 25, 26, 27, 28, 29, 30, 31, 32, 33, 34, 35, 36, 37, 38, 39, 40, 41, 42, 43, 44, 45, 46, 47, 48, 49, 50, 51, 52, 53, 54, 55, 56, 57, 58, 59, 60, 61, 62, 63, 64, 65, 66, 67, 68, 69, 70, 71, 72, 73, 74, 75, 76, 77, 78, 79, 80, 81, 82, 83, 84, 85, 86, 87, 88, 89, 90, 91, 92, 93, 94, 95, 96, 97, 98, 99, 100, 101, 102, 103, 104, 105, 106, 107, 108, 109, 110, 111, 112, 113, 114, 115, 116, 117, 118, 119, 120, 121, 122, 123, 124, 125, 126, 127, 128, 129, 130, 131, 132, 133, 134, 135, 136, 137] (by decide +kernel) (by decide +kernel)
set_option maxRecDepth 20000 in
theorem gX8_done_X8_refusal : GoodIn wsX8_done (wsV RX8 201 RX8 yX8_refusal wsX8_refusal) := goodIn_app (goodIn_of _ (by decide +kernel)) ggX8_done_X8_refusal
set_option maxRecDepth 20000 in
theorem ggX8_done_X8_goDay : GoodIn wsX8_done wsX8_goDay := goodIn_r _ [48, 11, 49, 50, 2, 51, 52, 53, 6, 54, 19, 20, 42, 55, 56, 57, 58, 59, 60, 21, 22, 23, 24, 25, 26, 27, 61, 62, 63, 64, 40, 41, 9, 65, 44, 66, 67, 68, 69, 35, 43, 70, 71, 72, 73, 74, 75, 76, 77, 78, 79, 80, 81, 82, 83, 84, 85, 86, 87, 92, 93, 94, 95, 96, 97, 98, 99, 100, 101, 102, 103, 104, 105, 106, 107, 108, 109, 110, 111, 112, 113, 114, 115, 116, 117, 118, 119, 120, 121, 122, 123, 124, 125, 126, 127, 128, 129, 130, 131, 132, 133, 134, 135, 136, 137] (by decide +kernel) (by decide +kernel)
set_option maxRecDepth 20000 in
theorem gX8_done_X8_goDay : GoodIn wsX8_done (wsV RX8 195 RX8 yX8_goDay wsX8_goDay) := goodIn_app (goodIn_of _ (by decide +kernel)) ggX8_done_X8_goDay
theorem dX8_done_0 : decode cX8_done 0 = .ok (.aload_n 0, 1) := by decide +kernel
theorem dX8_done_1 : decode cX8_done 1 = .ok (.invokevirtual 201, 3) := by decide +kernel
theorem dX8_done_4 : decode cX8_done 4 = .ok (.istore_n 1, 1) := by decide +kernel
theorem dX8_done_5 : decode cX8_done 5 = .ok (.iload_n 1, 1) := by decide +kernel
theorem dX8_done_6 : decode cX8_done 6 = .ok (.bipush (-6), 2) := by decide +kernel
theorem dX8_done_8 : decode cX8_done 8 = .ok (.if_icmp .eq 5, 3) := by decide +kernel
theorem dX8_done_11 : decode cX8_done 11 = .ok (.iload_n 1, 1) := by decide +kernel
theorem dX8_done_12 : decode cX8_done 12 = .ok (.ireturn, 1) := by decide +kernel
theorem dX8_done_13 : decode cX8_done 13 = .ok (.aload_n 0, 1) := by decide +kernel
theorem dX8_done_14 : decode cX8_done 14 = .ok (.invokevirtual 195, 3) := by decide +kernel
theorem dX8_done_17 : decode cX8_done 17 = .ok (.aload_n 0, 1) := by decide +kernel
theorem dX8_done_18 : decode cX8_done 18 = .ok (.iconst 0, 1) := by decide +kernel
theorem dX8_done_19 : decode cX8_done 19 = .ok (.putfield 138, 3) := by decide +kernel
theorem dX8_done_22 : decode cX8_done 22 = .ok (.aload_n 0, 1) := by decide +kernel
theorem dX8_done_23 : decode cX8_done 23 = .ok (.getfield 141, 3) := by decide +kernel
theorem dX8_done_26 : decode cX8_done 26 = .ok (.ireturn, 1) := by decide +kernel
set_option maxRecDepth 20000 in
theorem ggX8_out_X8_in : GoodIn wsX8_out wsX8_in := goodIn_r _ [6] (by decide +kernel) (by decide +kernel)
set_option maxRecDepth 20000 in
theorem gX8_out_X8_in : GoodIn wsX8_out (va_wsS RX8 96 yX8_in wsX8_in) := goodIn_app (goodIn_of _ (by decide +kernel)) ggX8_out_X8_in
theorem dX8_out_0 : decode cX8_out 0 = .ok (.iload_n 1, 1) := by decide +kernel
theorem dX8_out_1 : decode cX8_out 1 = .ok (.i2l, 1) := by decide +kernel
theorem dX8_out_2 : decode cX8_out 2 = .ok (.lconst 0, 1) := by decide +kernel
theorem dX8_out_3 : decode cX8_out 3 = .ok (.ldc2_w 208, 3) := by decide +kernel
theorem dX8_out_6 : decode cX8_out 6 = .ok (.invokestatic 96, 3) := by decide +kernel
theorem dX8_out_9 : decode cX8_out 9 = .ok (.ifCond .eq 12, 3) := by decide +kernel
theorem dX8_out_12 : decode cX8_out 12 = .ok (.aload_n 0, 1) := by decide +kernel
theorem dX8_out_13 : decode cX8_out 13 = .ok (.getfield 34, 3) := by decide +kernel
theorem dX8_out_16 : decode cX8_out 16 = .ok (.iload_n 1, 1) := by decide +kernel
theorem dX8_out_17 : decode cX8_out 17 = .ok (.iaload, 1) := by decide +kernel
theorem dX8_out_18 : decode cX8_out 18 = .ok (.goto 5, 3) := by decide +kernel
theorem dX8_out_21 : decode cX8_out 21 = .ok (.bipush (-2), 2) := by decide +kernel
theorem dX8_out_23 : decode cX8_out 23 = .ok (.ireturn, 1) := by decide +kernel
set_option maxRecDepth 20000 in
theorem ggX8_state_X8_isRow : GoodIn wsX8_state wsX8_isRow := goodIn_r _ [5, 6, 7, 8, 4, 9, 22, 23, 24, 25, 26, 27, 28, 29, 30, 31, 32, 33, 34, 35, 36, 37, 38, 39, 40, 41, 42, 43, 44, 45, 46, 47, 48, 49, 50, 51, 52, 53, 54, 55, 56, 57, 58, 59, 60, 61, 62, 63, 64, 65, 66, 67] (by decide +kernel) (by decide +kernel)
set_option maxRecDepth 20000 in
theorem gX8_state_X8_isRow : GoodIn wsX8_state (wsV RX8 151 RX8 yX8_isRow wsX8_isRow) := goodIn_app (goodIn_of _ (by decide +kernel)) ggX8_state_X8_isRow
set_option maxRecDepth 20000 in
theorem ggX8_state_X8_isPlace : GoodIn wsX8_state wsX8_isPlace := goodIn_r _ [13, 14, 7, 8, 4, 9, 22, 23, 24, 25, 26, 27, 28, 29, 30, 31, 32, 33, 34, 35, 36, 37, 38, 39, 40, 41, 42, 43, 44, 45, 46, 47, 48, 49, 50, 51, 52, 53, 54, 55, 56, 57, 58, 59, 60, 61, 62, 63, 64, 65, 66, 67] (by decide +kernel) (by decide +kernel)
set_option maxRecDepth 20000 in
theorem gX8_state_X8_isPlace : GoodIn wsX8_state (wsV RX8 125 RX8 yX8_isPlace wsX8_isPlace) := goodIn_app (goodIn_of _ (by decide +kernel)) ggX8_state_X8_isPlace
set_option maxRecDepth 20000 in
theorem ggX8_state_X8_in : GoodIn wsX8_state wsX8_in := goodIn_r _ [9] (by decide +kernel) (by decide +kernel)
set_option maxRecDepth 20000 in
theorem gX8_state_X8_in : GoodIn wsX8_state (va_wsS RX8 96 yX8_in wsX8_in) := goodIn_app (goodIn_of _ (by decide +kernel)) ggX8_state_X8_in
set_option maxRecDepth 20000 in
theorem ggX8_state_X8_toldOf : GoodIn wsX8_state wsX8_toldOf := goodIn_r _ [18, 19, 20, 21, 22, 23, 24, 25, 26, 27, 28, 29, 30, 31, 32, 33, 34, 35, 36, 37, 38, 39, 40, 41, 42, 43, 44, 45, 46, 47, 48, 49, 50, 51, 52, 53, 54, 55, 56, 57, 58, 59, 60, 61, 62, 63, 64, 65, 66, 67] (by decide +kernel) (by decide +kernel)
set_option maxRecDepth 20000 in
theorem gX8_state_X8_toldOf : GoodIn wsX8_state (wsV RX8 204 RX8 yX8_toldOf wsX8_toldOf) := goodIn_app (goodIn_of _ (by decide +kernel)) ggX8_state_X8_toldOf
theorem dX8_state_0 : decode cX8_state 0 = .ok (.aload_n 0, 1) := by decide +kernel
theorem dX8_state_1 : decode cX8_state 1 = .ok (.iload_n 1, 1) := by decide +kernel
theorem dX8_state_2 : decode cX8_state 2 = .ok (.invokevirtual 151, 3) := by decide +kernel
theorem dX8_state_5 : decode cX8_state 5 = .ok (.ifCond .eq 11, 3) := by decide +kernel
theorem dX8_state_8 : decode cX8_state 8 = .ok (.aload_n 0, 1) := by decide +kernel
theorem dX8_state_9 : decode cX8_state 9 = .ok (.iload_n 2, 1) := by decide +kernel
theorem dX8_state_10 : decode cX8_state 10 = .ok (.invokevirtual 125, 3) := by decide +kernel
theorem dX8_state_13 : decode cX8_state 13 = .ok (.ifCond .ne 5, 3) := by decide +kernel
theorem dX8_state_16 : decode cX8_state 16 = .ok (.iconst (-1), 1) := by decide +kernel
theorem dX8_state_17 : decode cX8_state 17 = .ok (.ireturn, 1) := by decide +kernel
theorem dX8_state_18 : decode cX8_state 18 = .ok (.iload_n 3, 1) := by decide +kernel
theorem dX8_state_19 : decode cX8_state 19 = .ok (.i2l, 1) := by decide +kernel
theorem dX8_state_20 : decode cX8_state 20 = .ok (.lconst 0, 1) := by decide +kernel
theorem dX8_state_21 : decode cX8_state 21 = .ok (.lconst 1, 1) := by decide +kernel
theorem dX8_state_22 : decode cX8_state 22 = .ok (.invokestatic 96, 3) := by decide +kernel
theorem dX8_state_25 : decode cX8_state 25 = .ok (.ifCond .eq 13, 3) := by decide +kernel
theorem dX8_state_28 : decode cX8_state 28 = .ok (.aload_n 0, 1) := by decide +kernel
theorem dX8_state_29 : decode cX8_state 29 = .ok (.iload_n 1, 1) := by decide +kernel
theorem dX8_state_30 : decode cX8_state 30 = .ok (.iload_n 2, 1) := by decide +kernel
theorem dX8_state_31 : decode cX8_state 31 = .ok (.iload_n 3, 1) := by decide +kernel
theorem dX8_state_32 : decode cX8_state 32 = .ok (.invokevirtual 204, 3) := by decide +kernel
theorem dX8_state_35 : decode cX8_state 35 = .ok (.goto 5, 3) := by decide +kernel
theorem dX8_state_38 : decode cX8_state 38 = .ok (.bipush (-2), 2) := by decide +kernel
theorem dX8_state_40 : decode cX8_state 40 = .ok (.ireturn, 1) := by decide +kernel
set_option maxRecDepth 20000 in
theorem ggX8_spoilt_X8_refusal : GoodIn wsX8_spoilt wsX8_refusal := goodIn_r _ [6, 7, 8, 9, 10, 11, 12, 13, 5, 14, 15, 16, 17, 18, 19, 20, 21, 22, 23, 24, 25, 26, 27, 28, 29, 30, 31, 32, 33, 34, 35, 36, 37, 38, 39, 40, 41, 42, 43, 44, 45, 46, 47, 48, 49, 50, 1, 51, 52, 53, 54, 55, 56, 57, 58, 59, 60, 61, 62, 63, 64, 65, 66, 67, 68, 69, 70, 71, 72, 73, 74, 75, 76, 77, 78, 79, 80, 81, 82, 83, 84, 85, 86, 87, 88, 89, 90, 91, 92, 93, 94, 95, 96, 97, 98, 99, 100, 101, 102, 103, 104, 105, 106, 107, 108, 109, 110, 111, 112, 113, 114, 115, 116, 117, 118, 119, 120, 121, 122, 123, 124, 125, 126, 127, 128, 129, 130, 131, 132, 133, 134, 135, 136, 137] (by decide +kernel) (by decide +kernel)
set_option maxRecDepth 20000 in
theorem gX8_spoilt_X8_refusal : GoodIn wsX8_spoilt (wsV RX8 201 RX8 yX8_refusal wsX8_refusal) := goodIn_app (goodIn_of _ (by decide +kernel)) ggX8_spoilt_X8_refusal
theorem dX8_spoilt_0 : decode cX8_spoilt 0 = .ok (.aload_n 0, 1) := by decide +kernel
theorem dX8_spoilt_1 : decode cX8_spoilt 1 = .ok (.invokevirtual 201, 3) := by decide +kernel
theorem dX8_spoilt_4 : decode cX8_spoilt 4 = .ok (.istore_n 1, 1) := by decide +kernel
theorem dX8_spoilt_5 : decode cX8_spoilt 5 = .ok (.iload_n 1, 1) := by decide +kernel
theorem dX8_spoilt_6 : decode cX8_spoilt 6 = .ok (.bipush (-6), 2) := by decide +kernel
theorem dX8_spoilt_8 : decode cX8_spoilt 8 = .ok (.if_icmp .eq 7, 3) := by decide +kernel
theorem dX8_spoilt_11 : decode cX8_spoilt 11 = .ok (.iload_n 1, 1) := by decide +kernel
theorem dX8_spoilt_12 : decode cX8_spoilt 12 = .ok (.goto 7, 3) := by decide +kernel
theorem dX8_spoilt_15 : decode cX8_spoilt 15 = .ok (.aload_n 0, 1) := by decide +kernel
theorem dX8_spoilt_16 : decode cX8_spoilt 16 = .ok (.getfield 174, 3) := by decide +kernel
theorem dX8_spoilt_19 : decode cX8_spoilt 19 = .ok (.ireturn, 1) := by decide +kernel
set_option maxRecDepth 20000 in
theorem ggX8_findRipe_X8_ripeness : GoodIn wsX8_findRipe wsX8_ripeness := goodIn_r _ [9, 10, 11, 12, 13, 14, 15, 16, 17, 18, 19, 20, 21, 22, 23, 24, 25, 26, 27, 28, 29, 30, 31, 32, 33, 34, 35, 36, 37, 38, 39, 40, 41, 42, 43, 44, 45, 46, 47, 48, 49, 50, 51, 52, 53, 54, 55, 56, 57] (by decide +kernel) (by decide +kernel)
set_option maxRecDepth 20000 in
theorem gX8_findRipe_X8_ripeness : GoodIn wsX8_findRipe (wsV RX8 160 RX8 yX8_ripeness wsX8_ripeness) := goodIn_app (goodIn_of _ (by decide +kernel)) ggX8_findRipe_X8_ripeness
theorem dX8_findRipe_0 : decode cX8_findRipe 0 = .ok (.aload_n 0, 1) := by decide +kernel
theorem dX8_findRipe_1 : decode cX8_findRipe 1 = .ok (.bipush (-6), 2) := by decide +kernel
theorem dX8_findRipe_3 : decode cX8_findRipe 3 = .ok (.putfield 210, 3) := by decide +kernel
theorem dX8_findRipe_6 : decode cX8_findRipe 6 = .ok (.aload_n 0, 1) := by decide +kernel
theorem dX8_findRipe_7 : decode cX8_findRipe 7 = .ok (.bipush (-6), 2) := by decide +kernel
theorem dX8_findRipe_9 : decode cX8_findRipe 9 = .ok (.putfield 213, 3) := by decide +kernel
theorem dX8_findRipe_12 : decode cX8_findRipe 12 = .ok (.iload_n 3, 1) := by decide +kernel
theorem dX8_findRipe_13 : decode cX8_findRipe 13 = .ok (.istore 4, 2) := by decide +kernel
theorem dX8_findRipe_15 : decode cX8_findRipe 15 = .ok (.iconst 0, 1) := by decide +kernel
theorem dX8_findRipe_16 : decode cX8_findRipe 16 = .ok (.istore 5, 2) := by decide +kernel
theorem dX8_findRipe_18 : decode cX8_findRipe 18 = .ok (.iconst 1, 1) := by decide +kernel
theorem dX8_findRipe_19 : decode cX8_findRipe 19 = .ok (.istore 6, 2) := by decide +kernel
theorem dX8_findRipe_21 : decode cX8_findRipe 21 = .ok (.iload 6, 2) := by decide +kernel
theorem dX8_findRipe_23 : decode cX8_findRipe 23 = .ok (.sipush 999, 3) := by decide +kernel
theorem dX8_findRipe_26 : decode cX8_findRipe 26 = .ok (.if_icmp .gt 97, 3) := by decide +kernel
theorem dX8_findRipe_29 : decode cX8_findRipe 29 = .ok (.iload 5, 2) := by decide +kernel
theorem dX8_findRipe_31 : decode cX8_findRipe 31 = .ok (.iload 4, 2) := by decide +kernel
theorem dX8_findRipe_33 : decode cX8_findRipe 33 = .ok (.aload_n 0, 1) := by decide +kernel
theorem dX8_findRipe_34 : decode cX8_findRipe 34 = .ok (.getfield 7, 3) := by decide +kernel
theorem dX8_findRipe_37 : decode cX8_findRipe 37 = .ok (.iload_n 2, 1) := by decide +kernel
theorem dX8_findRipe_38 : decode cX8_findRipe 38 = .ok (.iaload, 1) := by decide +kernel
theorem dX8_findRipe_39 : decode cX8_findRipe 39 = .ok (.if_icmp .le 15, 3) := by decide +kernel
theorem dX8_findRipe_42 : decode cX8_findRipe 42 = .ok (.iload 4, 2) := by decide +kernel
theorem dX8_findRipe_44 : decode cX8_findRipe 44 = .ok (.aload_n 0, 1) := by decide +kernel
theorem dX8_findRipe_45 : decode cX8_findRipe 45 = .ok (.getfield 7, 3) := by decide +kernel
theorem dX8_findRipe_48 : decode cX8_findRipe 48 = .ok (.iload_n 2, 1) := by decide +kernel
theorem dX8_findRipe_49 : decode cX8_findRipe 49 = .ok (.iaload, 1) := by decide +kernel
theorem dX8_findRipe_50 : decode cX8_findRipe 50 = .ok (.isub, 1) := by decide +kernel
theorem dX8_findRipe_51 : decode cX8_findRipe 51 = .ok (.goto 4, 3) := by decide +kernel
theorem dX8_findRipe_54 : decode cX8_findRipe 54 = .ok (.iconst 0, 1) := by decide +kernel
theorem dX8_findRipe_55 : decode cX8_findRipe 55 = .ok (.iadd, 1) := by decide +kernel
theorem dX8_findRipe_56 : decode cX8_findRipe 56 = .ok (.istore 5, 2) := by decide +kernel
theorem dX8_findRipe_58 : decode cX8_findRipe 58 = .ok (.iload 4, 2) := by decide +kernel
theorem dX8_findRipe_60 : decode cX8_findRipe 60 = .ok (.aload_n 0, 1) := by decide +kernel
theorem dX8_findRipe_61 : decode cX8_findRipe 61 = .ok (.getfield 90, 3) := by decide +kernel
theorem dX8_findRipe_64 : decode cX8_findRipe 64 = .ok (.if_icmp .le 13, 3) := by decide +kernel
theorem dX8_findRipe_67 : decode cX8_findRipe 67 = .ok (.iload 4, 2) := by decide +kernel
theorem dX8_findRipe_69 : decode cX8_findRipe 69 = .ok (.aload_n 0, 1) := by decide +kernel
theorem dX8_findRipe_70 : decode cX8_findRipe 70 = .ok (.getfield 90, 3) := by decide +kernel
theorem dX8_findRipe_73 : decode cX8_findRipe 73 = .ok (.isub, 1) := by decide +kernel
theorem dX8_findRipe_74 : decode cX8_findRipe 74 = .ok (.goto 4, 3) := by decide +kernel
theorem dX8_findRipe_77 : decode cX8_findRipe 77 = .ok (.iconst 0, 1) := by decide +kernel
theorem dX8_findRipe_78 : decode cX8_findRipe 78 = .ok (.istore 4, 2) := by decide +kernel
theorem dX8_findRipe_80 : decode cX8_findRipe 80 = .ok (.aload_n 0, 1) := by decide +kernel
theorem dX8_findRipe_81 : decode cX8_findRipe 81 = .ok (.iload_n 1, 1) := by decide +kernel
theorem dX8_findRipe_82 : decode cX8_findRipe 82 = .ok (.iload 5, 2) := by decide +kernel
theorem dX8_findRipe_84 : decode cX8_findRipe 84 = .ok (.invokevirtual 160, 3) := by decide +kernel
theorem dX8_findRipe_87 : decode cX8_findRipe 87 = .ok (.iconst 1, 1) := by decide +kernel
theorem dX8_findRipe_88 : decode cX8_findRipe 88 = .ok (.if_icmp .ne 29, 3) := by decide +kernel
theorem dX8_findRipe_91 : decode cX8_findRipe 91 = .ok (.aload_n 0, 1) := by decide +kernel
theorem dX8_findRipe_92 : decode cX8_findRipe 92 = .ok (.aload_n 0, 1) := by decide +kernel
theorem dX8_findRipe_93 : decode cX8_findRipe 93 = .ok (.getfield 210, 3) := by decide +kernel
theorem dX8_findRipe_96 : decode cX8_findRipe 96 = .ok (.ifCond .ge 8, 3) := by decide +kernel
theorem dX8_findRipe_99 : decode cX8_findRipe 99 = .ok (.iload 6, 2) := by decide +kernel
theorem dX8_findRipe_101 : decode cX8_findRipe 101 = .ok (.goto 7, 3) := by decide +kernel
theorem dX8_findRipe_104 : decode cX8_findRipe 104 = .ok (.aload_n 0, 1) := by decide +kernel
theorem dX8_findRipe_105 : decode cX8_findRipe 105 = .ok (.getfield 210, 3) := by decide +kernel
theorem dX8_findRipe_108 : decode cX8_findRipe 108 = .ok (.putfield 210, 3) := by decide +kernel
theorem dX8_findRipe_111 : decode cX8_findRipe 111 = .ok (.aload_n 0, 1) := by decide +kernel
theorem dX8_findRipe_112 : decode cX8_findRipe 112 = .ok (.iload 6, 2) := by decide +kernel
theorem dX8_findRipe_114 : decode cX8_findRipe 114 = .ok (.putfield 213, 3) := by decide +kernel
theorem dX8_findRipe_117 : decode cX8_findRipe 117 = .ok (.iinc 6 1, 3) := by decide +kernel
theorem dX8_findRipe_120 : decode cX8_findRipe 120 = .ok (.goto (-99), 3) := by decide +kernel
theorem dX8_findRipe_123 : decode cX8_findRipe 123 = .ok (.return_, 1) := by decide +kernel
set_option maxRecDepth 20000 in
theorem ggX8_ripe_X8_isSort : GoodIn wsX8_ripe wsX8_isSort := goodIn_r _ [8, 9, 10, 11, 7, 12, 13, 14, 15, 16, 34, 35, 36, 37, 38, 39, 40, 41, 42, 43, 44, 45, 46, 47, 48, 49, 50, 51, 52, 53, 54, 55, 56, 57, 58, 59, 60, 61, 62, 63, 64, 65, 66, 67, 68, 69, 70, 71, 72, 73, 74, 75, 76, 77, 78, 79] (by decide +kernel) (by decide +kernel)
set_option maxRecDepth 20000 in
theorem gX8_ripe_X8_isSort : GoodIn wsX8_ripe (wsV RX8 154 RX8 yX8_isSort wsX8_isSort) := goodIn_app (goodIn_of _ (by decide +kernel)) ggX8_ripe_X8_isSort
set_option maxRecDepth 20000 in
theorem ggX8_ripe_X8_isPlace : GoodIn wsX8_ripe wsX8_isPlace := goodIn_r _ [20, 21, 14, 15, 7, 16, 34, 35, 36, 37, 38, 39, 40, 41, 42, 43, 44, 45, 46, 47, 48, 49, 50, 51, 52, 53, 54, 55, 56, 57, 58, 59, 60, 61, 62, 63, 64, 65, 66, 67, 68, 69, 70, 71, 72, 73, 74, 75, 76, 77, 78, 79] (by decide +kernel) (by decide +kernel)
set_option maxRecDepth 20000 in
theorem gX8_ripe_X8_isPlace : GoodIn wsX8_ripe (wsV RX8 125 RX8 yX8_isPlace wsX8_isPlace) := goodIn_app (goodIn_of _ (by decide +kernel)) ggX8_ripe_X8_isPlace
set_option maxRecDepth 20000 in
theorem ggX8_ripe_X8_in : GoodIn wsX8_ripe wsX8_in := goodIn_r _ [16] (by decide +kernel) (by decide +kernel)
set_option maxRecDepth 20000 in
theorem gX8_ripe_X8_in : GoodIn wsX8_ripe (va_wsS RX8 96 yX8_in wsX8_in) := goodIn_app (goodIn_of _ (by decide +kernel)) ggX8_ripe_X8_in
set_option maxRecDepth 20000 in
theorem ggX8_ripe_X8_findRipe : GoodIn wsX8_ripe wsX8_findRipe := goodIn_r _ [25, 2, 3, 26, 27, 28, 29, 30, 7, 31, 32, 33, 34, 35, 36, 37, 38, 39, 40, 41, 42, 43, 44, 45, 46, 47, 48, 49, 50, 51, 52, 53, 54, 55, 56, 57, 58, 59, 60, 61, 62, 63, 64, 65, 66, 67, 68, 69, 70, 71, 72, 73, 74, 75, 76, 77, 78, 79] (by decide +kernel) (by decide +kernel)
set_option maxRecDepth 20000 in
theorem gX8_ripe_X8_findRipe : GoodIn wsX8_ripe (wsV RX8 216 RX8 yX8_findRipe wsX8_findRipe) := goodIn_app (goodIn_of _ (by decide +kernel)) ggX8_ripe_X8_findRipe
theorem dX8_ripe_0 : decode cX8_ripe 0 = .ok (.aload_n 0, 1) := by decide +kernel
theorem dX8_ripe_1 : decode cX8_ripe 1 = .ok (.iload_n 1, 1) := by decide +kernel
theorem dX8_ripe_2 : decode cX8_ripe 2 = .ok (.invokevirtual 154, 3) := by decide +kernel
theorem dX8_ripe_5 : decode cX8_ripe 5 = .ok (.ifCond .eq 11, 3) := by decide +kernel
theorem dX8_ripe_8 : decode cX8_ripe 8 = .ok (.aload_n 0, 1) := by decide +kernel
theorem dX8_ripe_9 : decode cX8_ripe 9 = .ok (.iload_n 2, 1) := by decide +kernel
theorem dX8_ripe_10 : decode cX8_ripe 10 = .ok (.invokevirtual 125, 3) := by decide +kernel
theorem dX8_ripe_13 : decode cX8_ripe 13 = .ok (.ifCond .ne 5, 3) := by decide +kernel
theorem dX8_ripe_16 : decode cX8_ripe 16 = .ok (.iconst (-1), 1) := by decide +kernel
theorem dX8_ripe_17 : decode cX8_ripe 17 = .ok (.ireturn, 1) := by decide +kernel
theorem dX8_ripe_18 : decode cX8_ripe 18 = .ok (.iload_n 3, 1) := by decide +kernel
theorem dX8_ripe_19 : decode cX8_ripe 19 = .ok (.i2l, 1) := by decide +kernel
theorem dX8_ripe_20 : decode cX8_ripe 20 = .ok (.lconst 0, 1) := by decide +kernel
theorem dX8_ripe_21 : decode cX8_ripe 21 = .ok (.lconst 1, 1) := by decide +kernel
theorem dX8_ripe_22 : decode cX8_ripe 22 = .ok (.invokestatic 96, 3) := by decide +kernel
theorem dX8_ripe_25 : decode cX8_ripe 25 = .ok (.ifCond .ne 6, 3) := by decide +kernel
theorem dX8_ripe_28 : decode cX8_ripe 28 = .ok (.bipush (-2), 2) := by decide +kernel
theorem dX8_ripe_30 : decode cX8_ripe 30 = .ok (.ireturn, 1) := by decide +kernel
theorem dX8_ripe_31 : decode cX8_ripe 31 = .ok (.aload_n 0, 1) := by decide +kernel
theorem dX8_ripe_32 : decode cX8_ripe 32 = .ok (.iload_n 1, 1) := by decide +kernel
theorem dX8_ripe_33 : decode cX8_ripe 33 = .ok (.iload_n 2, 1) := by decide +kernel
theorem dX8_ripe_34 : decode cX8_ripe 34 = .ok (.aload_n 0, 1) := by decide +kernel
theorem dX8_ripe_35 : decode cX8_ripe 35 = .ok (.getfield 87, 3) := by decide +kernel
theorem dX8_ripe_38 : decode cX8_ripe 38 = .ok (.invokevirtual 216, 3) := by decide +kernel
theorem dX8_ripe_41 : decode cX8_ripe 41 = .ok (.iload_n 3, 1) := by decide +kernel
theorem dX8_ripe_42 : decode cX8_ripe 42 = .ok (.ifCond .ne 10, 3) := by decide +kernel
theorem dX8_ripe_45 : decode cX8_ripe 45 = .ok (.aload_n 0, 1) := by decide +kernel
theorem dX8_ripe_46 : decode cX8_ripe 46 = .ok (.getfield 210, 3) := by decide +kernel
theorem dX8_ripe_49 : decode cX8_ripe 49 = .ok (.goto 7, 3) := by decide +kernel
theorem dX8_ripe_52 : decode cX8_ripe 52 = .ok (.aload_n 0, 1) := by decide +kernel
theorem dX8_ripe_53 : decode cX8_ripe 53 = .ok (.getfield 213, 3) := by decide +kernel
theorem dX8_ripe_56 : decode cX8_ripe 56 = .ok (.ireturn, 1) := by decide +kernel
set_option maxRecDepth 20000 in
theorem ggX8_hot_X8_in : GoodIn wsX8_hot wsX8_in := goodIn_r _ [7] (by decide +kernel) (by decide +kernel)
set_option maxRecDepth 20000 in
theorem gX8_hot_X8_in : GoodIn wsX8_hot (va_wsS RX8 96 yX8_in wsX8_in) := goodIn_app (goodIn_of _ (by decide +kernel)) ggX8_hot_X8_in
theorem dX8_hot_0 : decode cX8_hot 0 = .ok (.iload_n 1, 1) := by decide +kernel
theorem dX8_hot_1 : decode cX8_hot 1 = .ok (.i2l, 1) := by decide +kernel
theorem dX8_hot_2 : decode cX8_hot 2 = .ok (.lconst 0, 1) := by decide +kernel
theorem dX8_hot_3 : decode cX8_hot 3 = .ok (.ldc2_w 121, 3) := by decide +kernel
theorem dX8_hot_6 : decode cX8_hot 6 = .ok (.invokestatic 96, 3) := by decide +kernel
theorem dX8_hot_9 : decode cX8_hot 9 = .ok (.ifCond .ne 6, 3) := by decide +kernel
theorem dX8_hot_12 : decode cX8_hot 12 = .ok (.bipush (-2), 2) := by decide +kernel
theorem dX8_hot_14 : decode cX8_hot 14 = .ok (.ireturn, 1) := by decide +kernel
theorem dX8_hot_15 : decode cX8_hot 15 = .ok (.aload_n 0, 1) := by decide +kernel
theorem dX8_hot_16 : decode cX8_hot 16 = .ok (.getfield 87, 3) := by decide +kernel
theorem dX8_hot_19 : decode cX8_hot 19 = .ok (.istore_n 2, 1) := by decide +kernel
theorem dX8_hot_20 : decode cX8_hot 20 = .ok (.iconst 0, 1) := by decide +kernel
theorem dX8_hot_21 : decode cX8_hot 21 = .ok (.istore_n 3, 1) := by decide +kernel
theorem dX8_hot_22 : decode cX8_hot 22 = .ok (.iload_n 2, 1) := by decide +kernel
theorem dX8_hot_23 : decode cX8_hot 23 = .ok (.iload_n 1, 1) := by decide +kernel
theorem dX8_hot_24 : decode cX8_hot 24 = .ok (.if_icmp .lt 39, 3) := by decide +kernel
theorem dX8_hot_27 : decode cX8_hot 27 = .ok (.aload_n 0, 1) := by decide +kernel
theorem dX8_hot_28 : decode cX8_hot 28 = .ok (.getfield 90, 3) := by decide +kernel
theorem dX8_hot_31 : decode cX8_hot 31 = .ok (.ifCond .le 32, 3) := by decide +kernel
theorem dX8_hot_34 : decode cX8_hot 34 = .ok (.iload_n 2, 1) := by decide +kernel
theorem dX8_hot_35 : decode cX8_hot 35 = .ok (.ifCond .le 28, 3) := by decide +kernel
theorem dX8_hot_38 : decode cX8_hot 38 = .ok (.iload_n 2, 1) := by decide +kernel
theorem dX8_hot_39 : decode cX8_hot 39 = .ok (.aload_n 0, 1) := by decide +kernel
theorem dX8_hot_40 : decode cX8_hot 40 = .ok (.getfield 90, 3) := by decide +kernel
theorem dX8_hot_43 : decode cX8_hot 43 = .ok (.if_icmp .le 12, 3) := by decide +kernel
theorem dX8_hot_46 : decode cX8_hot 46 = .ok (.iload_n 2, 1) := by decide +kernel
theorem dX8_hot_47 : decode cX8_hot 47 = .ok (.aload_n 0, 1) := by decide +kernel
theorem dX8_hot_48 : decode cX8_hot 48 = .ok (.getfield 90, 3) := by decide +kernel
theorem dX8_hot_51 : decode cX8_hot 51 = .ok (.isub, 1) := by decide +kernel
theorem dX8_hot_52 : decode cX8_hot 52 = .ok (.goto 4, 3) := by decide +kernel
theorem dX8_hot_55 : decode cX8_hot 55 = .ok (.iconst 0, 1) := by decide +kernel
theorem dX8_hot_56 : decode cX8_hot 56 = .ok (.istore_n 2, 1) := by decide +kernel
theorem dX8_hot_57 : decode cX8_hot 57 = .ok (.iinc 3 1, 3) := by decide +kernel
theorem dX8_hot_60 : decode cX8_hot 60 = .ok (.goto (-38), 3) := by decide +kernel
theorem dX8_hot_63 : decode cX8_hot 63 = .ok (.iload_n 2, 1) := by decide +kernel
theorem dX8_hot_64 : decode cX8_hot 64 = .ok (.iload_n 1, 1) := by decide +kernel
theorem dX8_hot_65 : decode cX8_hot 65 = .ok (.if_icmp .ge 7, 3) := by decide +kernel
theorem dX8_hot_68 : decode cX8_hot 68 = .ok (.iload_n 3, 1) := by decide +kernel
theorem dX8_hot_69 : decode cX8_hot 69 = .ok (.goto 5, 3) := by decide +kernel
theorem dX8_hot_72 : decode cX8_hot 72 = .ok (.bipush (-6), 2) := by decide +kernel
theorem dX8_hot_74 : decode cX8_hot 74 = .ok (.ireturn, 1) := by decide +kernel
set_option maxRecDepth 20000 in
theorem ggX8_still_X8_in : GoodIn wsX8_still wsX8_in := goodIn_r _ [9] (by decide +kernel) (by decide +kernel)
set_option maxRecDepth 20000 in
theorem gX8_still_X8_in : GoodIn wsX8_still (va_wsS RX8 96 yX8_in wsX8_in) := goodIn_app (goodIn_of _ (by decide +kernel)) ggX8_still_X8_in
set_option maxRecDepth 20000 in
theorem ggX8_still_X8_isSort : GoodIn wsX8_still wsX8_isSort := goodIn_r _ [13, 14, 15, 16, 8, 17, 18, 6, 7, 9, 31, 32, 33, 34, 35, 36, 37, 38, 39, 40, 41, 42, 43, 44, 45, 46, 47, 48, 49, 50, 51, 52, 53, 54, 55, 56, 57, 58, 59, 60, 61, 62, 63, 64, 65, 66, 67, 68, 69, 70, 71, 72, 73, 74, 75, 76] (by decide +kernel) (by decide +kernel)
set_option maxRecDepth 20000 in
theorem gX8_still_X8_isSort : GoodIn wsX8_still (wsV RX8 154 RX8 yX8_isSort wsX8_isSort) := goodIn_app (goodIn_of _ (by decide +kernel)) ggX8_still_X8_isSort
set_option maxRecDepth 20000 in
theorem ggX8_still_X8_findRipe : GoodIn wsX8_still wsX8_findRipe := goodIn_r _ [22, 5, 23, 24, 3, 25, 26, 27, 8, 28, 29, 30, 31, 32, 33, 34, 35, 36, 37, 38, 39, 40, 41, 42, 43, 44, 45, 46, 47, 48, 49, 50, 51, 52, 53, 54, 55, 56, 57, 58, 59, 60, 61, 62, 63, 64, 65, 66, 67, 68, 69, 70, 71, 72, 73, 74, 75, 76] (by decide +kernel) (by decide +kernel)
set_option maxRecDepth 20000 in
theorem gX8_still_X8_findRipe : GoodIn wsX8_still (wsV RX8 216 RX8 yX8_findRipe wsX8_findRipe) := goodIn_app (goodIn_of _ (by decide +kernel)) ggX8_still_X8_findRipe
theorem dX8_still_0 : decode cX8_still 0 = .ok (.iload_n 1, 1) := by decide +kernel
theorem dX8_still_1 : decode cX8_still 1 = .ok (.i2l, 1) := by decide +kernel
theorem dX8_still_2 : decode cX8_still 2 = .ok (.lconst 0, 1) := by decide +kernel
theorem dX8_still_3 : decode cX8_still 3 = .ok (.ldc2_w 220, 3) := by decide +kernel
theorem dX8_still_6 : decode cX8_still 6 = .ok (.invokestatic 96, 3) := by decide +kernel
theorem dX8_still_9 : decode cX8_still 9 = .ok (.ifCond .ne 6, 3) := by decide +kernel
theorem dX8_still_12 : decode cX8_still 12 = .ok (.bipush (-2), 2) := by decide +kernel
theorem dX8_still_14 : decode cX8_still 14 = .ok (.ireturn, 1) := by decide +kernel
theorem dX8_still_15 : decode cX8_still 15 = .ok (.aload_n 0, 1) := by decide +kernel
theorem dX8_still_16 : decode cX8_still 16 = .ok (.getfield 87, 3) := by decide +kernel
theorem dX8_still_19 : decode cX8_still 19 = .ok (.aload_n 0, 1) := by decide +kernel
theorem dX8_still_20 : decode cX8_still 20 = .ok (.getfield 90, 3) := by decide +kernel
theorem dX8_still_23 : decode cX8_still 23 = .ok (.iload_n 1, 1) := by decide +kernel
theorem dX8_still_24 : decode cX8_still 24 = .ok (.imul, 1) := by decide +kernel
theorem dX8_still_25 : decode cX8_still 25 = .ok (.isub, 1) := by decide +kernel
theorem dX8_still_26 : decode cX8_still 26 = .ok (.istore_n 2, 1) := by decide +kernel
theorem dX8_still_27 : decode cX8_still 27 = .ok (.iconst 0, 1) := by decide +kernel
theorem dX8_still_28 : decode cX8_still 28 = .ok (.istore_n 3, 1) := by decide +kernel
theorem dX8_still_29 : decode cX8_still 29 = .ok (.iconst 0, 1) := by decide +kernel
theorem dX8_still_30 : decode cX8_still 30 = .ok (.istore 4, 2) := by decide +kernel
theorem dX8_still_32 : decode cX8_still 32 = .ok (.iload 4, 2) := by decide +kernel
theorem dX8_still_34 : decode cX8_still 34 = .ok (.bipush 6, 2) := by decide +kernel
theorem dX8_still_36 : decode cX8_still 36 = .ok (.if_icmp .ge 71, 3) := by decide +kernel
theorem dX8_still_39 : decode cX8_still 39 = .ok (.iconst 0, 1) := by decide +kernel
theorem dX8_still_40 : decode cX8_still 40 = .ok (.istore 5, 2) := by decide +kernel
theorem dX8_still_42 : decode cX8_still 42 = .ok (.iload 5, 2) := by decide +kernel
theorem dX8_still_44 : decode cX8_still 44 = .ok (.aload_n 0, 1) := by decide +kernel
theorem dX8_still_45 : decode cX8_still 45 = .ok (.getfield 84, 3) := by decide +kernel
theorem dX8_still_48 : decode cX8_still 48 = .ok (.if_icmp .ge 53, 3) := by decide +kernel
theorem dX8_still_51 : decode cX8_still 51 = .ok (.aload_n 0, 1) := by decide +kernel
theorem dX8_still_52 : decode cX8_still 52 = .ok (.iload 4, 2) := by decide +kernel
theorem dX8_still_54 : decode cX8_still 54 = .ok (.invokevirtual 154, 3) := by decide +kernel
theorem dX8_still_57 : decode cX8_still 57 = .ok (.ifCond .eq 44, 3) := by decide +kernel
theorem dX8_still_60 : decode cX8_still 60 = .ok (.aload_n 0, 1) := by decide +kernel
theorem dX8_still_61 : decode cX8_still 61 = .ok (.iload 4, 2) := by decide +kernel
theorem dX8_still_63 : decode cX8_still 63 = .ok (.iload 5, 2) := by decide +kernel
theorem dX8_still_65 : decode cX8_still 65 = .ok (.iload_n 2, 1) := by decide +kernel
theorem dX8_still_66 : decode cX8_still 66 = .ok (.ifCond .ge 7, 3) := by decide +kernel
theorem dX8_still_69 : decode cX8_still 69 = .ok (.iconst 0, 1) := by decide +kernel
theorem dX8_still_70 : decode cX8_still 70 = .ok (.goto 4, 3) := by decide +kernel
theorem dX8_still_73 : decode cX8_still 73 = .ok (.iload_n 2, 1) := by decide +kernel
theorem dX8_still_74 : decode cX8_still 74 = .ok (.invokevirtual 216, 3) := by decide +kernel
theorem dX8_still_77 : decode cX8_still 77 = .ok (.iload_n 3, 1) := by decide +kernel
theorem dX8_still_78 : decode cX8_still 78 = .ok (.aload_n 0, 1) := by decide +kernel
theorem dX8_still_79 : decode cX8_still 79 = .ok (.getfield 210, 3) := by decide +kernel
theorem dX8_still_82 : decode cX8_still 82 = .ok (.ifCond .le 10, 3) := by decide +kernel
theorem dX8_still_85 : decode cX8_still 85 = .ok (.iconst 1, 1) := by decide +kernel
theorem dX8_still_86 : decode cX8_still 86 = .ok (.iload 4, 2) := by decide +kernel
theorem dX8_still_88 : decode cX8_still 88 = .ok (.ishl, 1) := by decide +kernel
theorem dX8_still_89 : decode cX8_still 89 = .ok (.goto 4, 3) := by decide +kernel
theorem dX8_still_92 : decode cX8_still 92 = .ok (.iconst 0, 1) := by decide +kernel
theorem dX8_still_93 : decode cX8_still 93 = .ok (.ior, 1) := by decide +kernel
theorem dX8_still_94 : decode cX8_still 94 = .ok (.istore_n 3, 1) := by decide +kernel
theorem dX8_still_95 : decode cX8_still 95 = .ok (.iinc 5 1, 3) := by decide +kernel
theorem dX8_still_98 : decode cX8_still 98 = .ok (.goto (-56), 3) := by decide +kernel
theorem dX8_still_101 : decode cX8_still 101 = .ok (.iinc 4 1, 3) := by decide +kernel
theorem dX8_still_104 : decode cX8_still 104 = .ok (.goto (-72), 3) := by decide +kernel
theorem dX8_still_107 : decode cX8_still 107 = .ok (.iload_n 3, 1) := by decide +kernel
theorem dX8_still_108 : decode cX8_still 108 = .ok (.ireturn, 1) := by decide +kernel
set_option maxRecDepth 20000 in
theorem ggX8_layRipe_X8_isSort : GoodIn wsX8_layRipe wsX8_isSort := goodIn_r _ [10, 11, 12, 13, 9, 14, 15, 16, 17, 18, 31, 32, 33, 34, 35, 36, 37, 38, 39, 40, 41, 42, 43, 44, 45, 46, 47, 48, 49, 50, 51, 52, 53, 54, 55, 56, 57, 58, 59, 60, 61, 62, 63, 64, 65, 66, 67, 68, 69, 70, 71, 72, 73, 74, 75, 76] (by decide +kernel) (by decide +kernel)
set_option maxRecDepth 20000 in
theorem gX8_layRipe_X8_isSort : GoodIn wsX8_layRipe (wsV RX8 154 RX8 yX8_isSort wsX8_isSort) := goodIn_app (goodIn_of _ (by decide +kernel)) ggX8_layRipe_X8_isSort
set_option maxRecDepth 20000 in
theorem ggX8_layRipe_X8_findRipe : GoodIn wsX8_layRipe wsX8_findRipe := goodIn_r _ [22, 3, 5, 23, 24, 25, 26, 27, 9, 28, 29, 30, 31, 32, 33, 34, 35, 36, 37, 38, 39, 40, 41, 42, 43, 44, 45, 46, 47, 48, 49, 50, 51, 52, 53, 54, 55, 56, 57, 58, 59, 60, 61, 62, 63, 64, 65, 66, 67, 68, 69, 70, 71, 72, 73, 74, 75, 76] (by decide +kernel) (by decide +kernel)
set_option maxRecDepth 20000 in
theorem gX8_layRipe_X8_findRipe : GoodIn wsX8_layRipe (wsV RX8 216 RX8 yX8_findRipe wsX8_findRipe) := goodIn_app (goodIn_of _ (by decide +kernel)) ggX8_layRipe_X8_findRipe
