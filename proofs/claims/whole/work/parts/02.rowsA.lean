set_option maxRecDepth 20000 in
theorem ggX0_init_X3_init : GoodIn wsX0_init wsX3_init := goodIn_r _ [17, 18, 2, 3, 19, 20, 21, 22, 23, 24, 25, 26, 27, 28, 29, 41, 42, 43, 44, 45, 46, 47, 48, 49, 50, 51] (by decide +kernel) (by decide +kernel)
set_option maxRecDepth 20000 in
theorem gX0_init_X3_init_n9 : GoodIn wsX0_init (wsX3_init) := ggX0_init_X3_init
set_option maxRecDepth 20000 in
theorem ggX0_init_X6_init : GoodIn wsX0_init wsX6_init := goodIn_r _ [31, 32, 2, 3, 24, 33, 34, 35, 36, 55, 56, 57, 58, 59] (by decide +kernel) (by decide +kernel)
set_option maxRecDepth 20000 in
theorem gX0_init_X6_init_n18 : GoodIn wsX0_init (wsX6_init) := ggX0_init_X6_init
set_option maxRecDepth 20000 in
theorem ggX0_init_X5_init : GoodIn wsX0_init wsX5_init := goodIn_r _ [38, 39, 2, 3, 24, 40, 60, 61] (by decide +kernel) (by decide +kernel)
set_option maxRecDepth 20000 in
theorem gX0_init_X5_init_n25 : GoodIn wsX0_init (wsX5_init) := ggX0_init_X5_init
theorem dX0_init_0 : decode cX0_init 0 = .ok (.aload_n 0, 1) := by decide +kernel
theorem dX0_init_1 : decode cX0_init 1 = .ok (.invokespecial 1, 3) := by decide +kernel
theorem dX0_init_4 : decode cX0_init 4 = .ok (.aload_n 0, 1) := by decide +kernel
theorem dX0_init_5 : decode cX0_init 5 = .ok (.new 7, 3) := by decide +kernel
theorem dX0_init_8 : decode cX0_init 8 = .ok (.dup, 1) := by decide +kernel
theorem dX0_init_9 : decode cX0_init 9 = .ok (.invokespecial 9, 3) := by decide +kernel
theorem dX0_init_12 : decode cX0_init 12 = .ok (.putfield 10, 3) := by decide +kernel
theorem dX0_init_15 : decode cX0_init 15 = .ok (.aload_n 0, 1) := by decide +kernel
theorem dX0_init_16 : decode cX0_init 16 = .ok (.new 16, 3) := by decide +kernel
theorem dX0_init_19 : decode cX0_init 19 = .ok (.dup, 1) := by decide +kernel
theorem dX0_init_20 : decode cX0_init 20 = .ok (.invokespecial 18, 3) := by decide +kernel
theorem dX0_init_23 : decode cX0_init 23 = .ok (.putfield 19, 3) := by decide +kernel
theorem dX0_init_26 : decode cX0_init 26 = .ok (.aload_n 0, 1) := by decide +kernel
theorem dX0_init_27 : decode cX0_init 27 = .ok (.new 23, 3) := by decide +kernel
theorem dX0_init_30 : decode cX0_init 30 = .ok (.dup, 1) := by decide +kernel
theorem dX0_init_31 : decode cX0_init 31 = .ok (.invokespecial 25, 3) := by decide +kernel
theorem dX0_init_34 : decode cX0_init 34 = .ok (.putfield 26, 3) := by decide +kernel
theorem dX0_init_37 : decode cX0_init 37 = .ok (.return_, 1) := by decide +kernel
set_option maxRecDepth 20000 in
theorem ggX0_copyFrom_X3_copyFrom : GoodIn wsX0_copyFrom wsX3_copyFrom := goodIn_r _ [8, 9, 10, 11, 12, 13, 14, 15, 16, 17, 18, 19, 20, 21, 22, 23, 46, 47, 48, 49, 50, 51, 52, 53, 54, 55, 56] (by decide +kernel) (by decide +kernel)
set_option maxRecDepth 20000 in
theorem gX0_copyFrom_X3_copyFrom : GoodIn wsX0_copyFrom (wsV RX0 30 RX3 yX3_copyFrom wsX3_copyFrom) := goodIn_app (goodIn_of _ (by decide +kernel)) ggX0_copyFrom_X3_copyFrom
set_option maxRecDepth 20000 in
theorem ggX0_copyFrom_X6_copyFrom : GoodIn wsX0_copyFrom wsX6_copyFrom := goodIn_r _ [28, 29, 30, 31, 17, 18, 19, 32, 33, 34, 57, 58, 59, 60, 61] (by decide +kernel) (by decide +kernel)
set_option maxRecDepth 20000 in
theorem gX0_copyFrom_X6_copyFrom : GoodIn wsX0_copyFrom (wsV RX0 34 RX6 yX6_copyFrom wsX6_copyFrom) := goodIn_app (goodIn_of _ (by decide +kernel)) ggX0_copyFrom_X6_copyFrom
set_option maxRecDepth 20000 in
theorem ggX0_copyFrom_X5_copyFrom : GoodIn wsX0_copyFrom wsX5_copyFrom := goodIn_r _ [39, 40, 41, 42, 17, 18, 19, 62, 63] (by decide +kernel) (by decide +kernel)
set_option maxRecDepth 20000 in
theorem gX0_copyFrom_X5_copyFrom : GoodIn wsX0_copyFrom (wsV RX0 37 RX5 yX5_copyFrom wsX5_copyFrom) := goodIn_app (goodIn_of _ (by decide +kernel)) ggX0_copyFrom_X5_copyFrom
theorem dX0_copyFrom_0 : decode cX0_copyFrom 0 = .ok (.aload_n 0, 1) := by decide +kernel
theorem dX0_copyFrom_1 : decode cX0_copyFrom 1 = .ok (.getfield 10, 3) := by decide +kernel
theorem dX0_copyFrom_4 : decode cX0_copyFrom 4 = .ok (.aload_n 1, 1) := by decide +kernel
theorem dX0_copyFrom_5 : decode cX0_copyFrom 5 = .ok (.getfield 10, 3) := by decide +kernel
theorem dX0_copyFrom_8 : decode cX0_copyFrom 8 = .ok (.invokevirtual 30, 3) := by decide +kernel
theorem dX0_copyFrom_11 : decode cX0_copyFrom 11 = .ok (.aload_n 0, 1) := by decide +kernel
theorem dX0_copyFrom_12 : decode cX0_copyFrom 12 = .ok (.getfield 19, 3) := by decide +kernel
theorem dX0_copyFrom_15 : decode cX0_copyFrom 15 = .ok (.aload_n 1, 1) := by decide +kernel
theorem dX0_copyFrom_16 : decode cX0_copyFrom 16 = .ok (.getfield 19, 3) := by decide +kernel
theorem dX0_copyFrom_19 : decode cX0_copyFrom 19 = .ok (.invokevirtual 34, 3) := by decide +kernel
theorem dX0_copyFrom_22 : decode cX0_copyFrom 22 = .ok (.aload_n 0, 1) := by decide +kernel
theorem dX0_copyFrom_23 : decode cX0_copyFrom 23 = .ok (.getfield 26, 3) := by decide +kernel
theorem dX0_copyFrom_26 : decode cX0_copyFrom 26 = .ok (.aload_n 1, 1) := by decide +kernel
theorem dX0_copyFrom_27 : decode cX0_copyFrom 27 = .ok (.getfield 26, 3) := by decide +kernel
theorem dX0_copyFrom_30 : decode cX0_copyFrom 30 = .ok (.invokevirtual 37, 3) := by decide +kernel
theorem dX0_copyFrom_33 : decode cX0_copyFrom 33 = .ok (.return_, 1) := by decide +kernel
theorem dX1_init_0 : decode cX1_init 0 = .ok (.aload_n 0, 1) := by decide +kernel
theorem dX1_init_1 : decode cX1_init 1 = .ok (.invokespecial 3, 3) := by decide +kernel
theorem dX1_init_4 : decode cX1_init 4 = .ok (.aload_n 0, 1) := by decide +kernel
theorem dX1_init_5 : decode cX1_init 5 = .ok (.bipush 6, 2) := by decide +kernel
theorem dX1_init_7 : decode cX1_init 7 = .ok (.newarray .int, 2) := by decide +kernel
theorem dX1_init_9 : decode cX1_init 9 = .ok (.putfield 9, 3) := by decide +kernel
theorem dX1_init_12 : decode cX1_init 12 = .ok (.aload_n 0, 1) := by decide +kernel
theorem dX1_init_13 : decode cX1_init 13 = .ok (.bipush 36, 2) := by decide +kernel
theorem dX1_init_15 : decode cX1_init 15 = .ok (.newarray .int, 2) := by decide +kernel
theorem dX1_init_17 : decode cX1_init 17 = .ok (.putfield 15, 3) := by decide +kernel
theorem dX1_init_20 : decode cX1_init 20 = .ok (.aload_n 0, 1) := by decide +kernel
theorem dX1_init_21 : decode cX1_init 21 = .ok (.bipush 36, 2) := by decide +kernel
theorem dX1_init_23 : decode cX1_init 23 = .ok (.newarray .int, 2) := by decide +kernel
theorem dX1_init_25 : decode cX1_init 25 = .ok (.putfield 18, 3) := by decide +kernel
theorem dX1_init_28 : decode cX1_init 28 = .ok (.aload_n 0, 1) := by decide +kernel
theorem dX1_init_29 : decode cX1_init 29 = .ok (.bipush 6, 2) := by decide +kernel
theorem dX1_init_31 : decode cX1_init 31 = .ok (.newarray .int, 2) := by decide +kernel
theorem dX1_init_33 : decode cX1_init 33 = .ok (.putfield 21, 3) := by decide +kernel
theorem dX1_init_36 : decode cX1_init 36 = .ok (.aload_n 0, 1) := by decide +kernel
theorem dX1_init_37 : decode cX1_init 37 = .ok (.bipush 64, 2) := by decide +kernel
theorem dX1_init_39 : decode cX1_init 39 = .ok (.newarray .int, 2) := by decide +kernel
theorem dX1_init_41 : decode cX1_init 41 = .ok (.putfield 24, 3) := by decide +kernel
theorem dX1_init_44 : decode cX1_init 44 = .ok (.aload_n 0, 1) := by decide +kernel
theorem dX1_init_45 : decode cX1_init 45 = .ok (.bipush 16, 2) := by decide +kernel
theorem dX1_init_47 : decode cX1_init 47 = .ok (.newarray .int, 2) := by decide +kernel
theorem dX1_init_49 : decode cX1_init 49 = .ok (.putfield 27, 3) := by decide +kernel
theorem dX1_init_52 : decode cX1_init 52 = .ok (.aload_n 0, 1) := by decide +kernel
theorem dX1_init_53 : decode cX1_init 53 = .ok (.bipush 16, 2) := by decide +kernel
theorem dX1_init_55 : decode cX1_init 55 = .ok (.newarray .int, 2) := by decide +kernel
theorem dX1_init_57 : decode cX1_init 57 = .ok (.putfield 30, 3) := by decide +kernel
theorem dX1_init_60 : decode cX1_init 60 = .ok (.return_, 1) := by decide +kernel
theorem dX1_at_0 : decode cX1_at 0 = .ok (.iload_n 0, 1) := by decide +kernel
theorem dX1_at_1 : decode cX1_at 1 = .ok (.bipush 6, 2) := by decide +kernel
theorem dX1_at_3 : decode cX1_at 3 = .ok (.imul, 1) := by decide +kernel
theorem dX1_at_4 : decode cX1_at 4 = .ok (.iload_n 1, 1) := by decide +kernel
theorem dX1_at_5 : decode cX1_at 5 = .ok (.iadd, 1) := by decide +kernel
theorem dX1_at_6 : decode cX1_at 6 = .ok (.ireturn, 1) := by decide +kernel
set_option maxRecDepth 20000 in
theorem ggX1_read_X6_has : GoodIn wsX1_read wsX6_has := goodIn_r _ [6, 7, 8, 9, 10, 11, 12, 13, 34, 35, 36, 37, 38] (by decide +kernel) (by decide +kernel)
set_option maxRecDepth 20000 in
theorem gX1_read_X6_has : GoodIn wsX1_read (wsV RX1 37 RX6 yX6_has wsX6_has) := goodIn_app (goodIn_of _ (by decide +kernel)) ggX1_read_X6_has
set_option maxRecDepth 20000 in
theorem ggX1_read_X1_insert : GoodIn wsX1_read wsX1_insert := goodIn_r _ [18, 1, 19, 20, 21, 22, 23, 24, 25, 26, 27, 28, 29, 30, 31, 32, 33] (by decide +kernel) (by decide +kernel)
set_option maxRecDepth 20000 in
theorem gX1_read_X1_insert : GoodIn wsX1_read (wsV RX1 43 RX1 yX1_insert wsX1_insert) := goodIn_app (goodIn_of _ (by decide +kernel)) ggX1_read_X1_insert
theorem dX1_read_0 : decode cX1_read 0 = .ok (.aload_n 0, 1) := by decide +kernel
theorem dX1_read_1 : decode cX1_read 1 = .ok (.iconst 0, 1) := by decide +kernel
theorem dX1_read_2 : decode cX1_read 2 = .ok (.putfield 33, 3) := by decide +kernel
theorem dX1_read_5 : decode cX1_read 5 = .ok (.iload_n 1, 1) := by decide +kernel
theorem dX1_read_6 : decode cX1_read 6 = .ok (.istore_n 3, 1) := by decide +kernel
theorem dX1_read_7 : decode cX1_read 7 = .ok (.iconst 0, 1) := by decide +kernel
theorem dX1_read_8 : decode cX1_read 8 = .ok (.istore 4, 2) := by decide +kernel
theorem dX1_read_10 : decode cX1_read 10 = .ok (.iload 4, 2) := by decide +kernel
theorem dX1_read_12 : decode cX1_read 12 = .ok (.bipush 6, 2) := by decide +kernel
theorem dX1_read_14 : decode cX1_read 14 = .ok (.if_icmp .ge 43, 3) := by decide +kernel
theorem dX1_read_17 : decode cX1_read 17 = .ok (.iload_n 3, 1) := by decide +kernel
theorem dX1_read_18 : decode cX1_read 18 = .ok (.ifCond .le 39, 3) := by decide +kernel
theorem dX1_read_21 : decode cX1_read 21 = .ok (.iload_n 3, 1) := by decide +kernel
theorem dX1_read_22 : decode cX1_read 22 = .ok (.bipush 10, 2) := by decide +kernel
theorem dX1_read_24 : decode cX1_read 24 = .ok (.irem, 1) := by decide +kernel
theorem dX1_read_25 : decode cX1_read 25 = .ok (.iconst 1, 1) := by decide +kernel
theorem dX1_read_26 : decode cX1_read 26 = .ok (.isub, 1) := by decide +kernel
theorem dX1_read_27 : decode cX1_read 27 = .ok (.istore 5, 2) := by decide +kernel
theorem dX1_read_29 : decode cX1_read 29 = .ok (.aload_n 2, 1) := by decide +kernel
theorem dX1_read_30 : decode cX1_read 30 = .ok (.iload 5, 2) := by decide +kernel
theorem dX1_read_32 : decode cX1_read 32 = .ok (.invokevirtual 37, 3) := by decide +kernel
theorem dX1_read_35 : decode cX1_read 35 = .ok (.ifCond .ne 5, 3) := by decide +kernel
theorem dX1_read_38 : decode cX1_read 38 = .ok (.iconst 0, 1) := by decide +kernel
theorem dX1_read_39 : decode cX1_read 39 = .ok (.ireturn, 1) := by decide +kernel
theorem dX1_read_40 : decode cX1_read 40 = .ok (.aload_n 0, 1) := by decide +kernel
theorem dX1_read_41 : decode cX1_read 41 = .ok (.iload 5, 2) := by decide +kernel
theorem dX1_read_43 : decode cX1_read 43 = .ok (.invokevirtual 43, 3) := by decide +kernel
theorem dX1_read_46 : decode cX1_read 46 = .ok (.iload_n 3, 1) := by decide +kernel
theorem dX1_read_47 : decode cX1_read 47 = .ok (.bipush 10, 2) := by decide +kernel
theorem dX1_read_49 : decode cX1_read 49 = .ok (.idiv, 1) := by decide +kernel
theorem dX1_read_50 : decode cX1_read 50 = .ok (.istore_n 3, 1) := by decide +kernel
theorem dX1_read_51 : decode cX1_read 51 = .ok (.iinc 4 1, 3) := by decide +kernel
theorem dX1_read_54 : decode cX1_read 54 = .ok (.goto (-44), 3) := by decide +kernel
theorem dX1_read_57 : decode cX1_read 57 = .ok (.iconst 1, 1) := by decide +kernel
theorem dX1_read_58 : decode cX1_read 58 = .ok (.ireturn, 1) := by decide +kernel
theorem dX1_insert_0 : decode cX1_insert 0 = .ok (.aload_n 0, 1) := by decide +kernel
theorem dX1_insert_1 : decode cX1_insert 1 = .ok (.getfield 33, 3) := by decide +kernel
theorem dX1_insert_4 : decode cX1_insert 4 = .ok (.istore_n 2, 1) := by decide +kernel
theorem dX1_insert_5 : decode cX1_insert 5 = .ok (.iload_n 2, 1) := by decide +kernel
theorem dX1_insert_6 : decode cX1_insert 6 = .ok (.ifCond .le 35, 3) := by decide +kernel
theorem dX1_insert_9 : decode cX1_insert 9 = .ok (.aload_n 0, 1) := by decide +kernel
theorem dX1_insert_10 : decode cX1_insert 10 = .ok (.getfield 9, 3) := by decide +kernel
theorem dX1_insert_13 : decode cX1_insert 13 = .ok (.iload_n 2, 1) := by decide +kernel
theorem dX1_insert_14 : decode cX1_insert 14 = .ok (.iconst 1, 1) := by decide +kernel
theorem dX1_insert_15 : decode cX1_insert 15 = .ok (.isub, 1) := by decide +kernel
theorem dX1_insert_16 : decode cX1_insert 16 = .ok (.iaload, 1) := by decide +kernel
theorem dX1_insert_17 : decode cX1_insert 17 = .ok (.iload_n 1, 1) := by decide +kernel
theorem dX1_insert_18 : decode cX1_insert 18 = .ok (.if_icmp .le 23, 3) := by decide +kernel
theorem dX1_insert_21 : decode cX1_insert 21 = .ok (.aload_n 0, 1) := by decide +kernel
theorem dX1_insert_22 : decode cX1_insert 22 = .ok (.getfield 9, 3) := by decide +kernel
theorem dX1_insert_25 : decode cX1_insert 25 = .ok (.iload_n 2, 1) := by decide +kernel
theorem dX1_insert_26 : decode cX1_insert 26 = .ok (.aload_n 0, 1) := by decide +kernel
theorem dX1_insert_27 : decode cX1_insert 27 = .ok (.getfield 9, 3) := by decide +kernel
theorem dX1_insert_30 : decode cX1_insert 30 = .ok (.iload_n 2, 1) := by decide +kernel
theorem dX1_insert_31 : decode cX1_insert 31 = .ok (.iconst 1, 1) := by decide +kernel
theorem dX1_insert_32 : decode cX1_insert 32 = .ok (.isub, 1) := by decide +kernel
theorem dX1_insert_33 : decode cX1_insert 33 = .ok (.iaload, 1) := by decide +kernel
theorem dX1_insert_34 : decode cX1_insert 34 = .ok (.iastore, 1) := by decide +kernel
theorem dX1_insert_35 : decode cX1_insert 35 = .ok (.iinc 2 (-1), 3) := by decide +kernel
theorem dX1_insert_38 : decode cX1_insert 38 = .ok (.goto (-33), 3) := by decide +kernel
theorem dX1_insert_41 : decode cX1_insert 41 = .ok (.aload_n 0, 1) := by decide +kernel
theorem dX1_insert_42 : decode cX1_insert 42 = .ok (.getfield 9, 3) := by decide +kernel
theorem dX1_insert_45 : decode cX1_insert 45 = .ok (.iload_n 2, 1) := by decide +kernel
theorem dX1_insert_46 : decode cX1_insert 46 = .ok (.iload_n 1, 1) := by decide +kernel
theorem dX1_insert_47 : decode cX1_insert 47 = .ok (.iastore, 1) := by decide +kernel
theorem dX1_insert_48 : decode cX1_insert 48 = .ok (.aload_n 0, 1) := by decide +kernel
theorem dX1_insert_49 : decode cX1_insert 49 = .ok (.dup, 1) := by decide +kernel
theorem dX1_insert_50 : decode cX1_insert 50 = .ok (.getfield 33, 3) := by decide +kernel
theorem dX1_insert_53 : decode cX1_insert 53 = .ok (.iconst 1, 1) := by decide +kernel
theorem dX1_insert_54 : decode cX1_insert 54 = .ok (.iadd, 1) := by decide +kernel
theorem dX1_insert_55 : decode cX1_insert 55 = .ok (.putfield 33, 3) := by decide +kernel
theorem dX1_insert_58 : decode cX1_insert 58 = .ok (.return_, 1) := by decide +kernel
set_option maxRecDepth 20000 in
theorem ggX1_foresee_X1_at : GoodIn wsX1_foresee wsX1_at := goodIn_r _ [16] (by decide +kernel) (by decide +kernel)
set_option maxRecDepth 20000 in
theorem gX1_foresee_X1_at : GoodIn wsX1_foresee (va_wsS RX1 61 yX1_at wsX1_at) := goodIn_app (goodIn_of _ (by decide +kernel)) ggX1_foresee_X1_at
set_option maxRecDepth 20000 in
theorem ggX1_foresee_X7_firstMinute : GoodIn wsX1_foresee wsX7_firstMinute := goodIn_r _ [19, 20, 21, 18, 22, 23, 4, 5, 6] (by decide +kernel) (by decide +kernel)
set_option maxRecDepth 20000 in
theorem gX1_foresee_X7_firstMinute_n70 : GoodIn wsX1_foresee (wsX7_firstMinute) := ggX1_foresee_X7_firstMinute
set_option maxRecDepth 20000 in
theorem ggX1_foresee_X6_burntFrom : GoodIn wsX1_foresee wsX6_burntFrom := goodIn_r _ [28, 29, 30, 56, 57, 58, 59, 60] (by decide +kernel) (by decide +kernel)
set_option maxRecDepth 20000 in
theorem gX1_foresee_X6_burntFrom : GoodIn wsX1_foresee (wsV RX1 74 RX6 yX6_burntFrom wsX6_burntFrom) := goodIn_app (goodIn_of _ (by decide +kernel)) ggX1_foresee_X6_burntFrom
theorem dX1_foresee_0 : decode cX1_foresee 0 = .ok (.aload_n 0, 1) := by decide +kernel
theorem dX1_foresee_1 : decode cX1_foresee 1 = .ok (.getfield 33, 3) := by decide +kernel
theorem dX1_foresee_4 : decode cX1_foresee 4 = .ok (.aload_n 2, 1) := by decide +kernel
theorem dX1_foresee_5 : decode cX1_foresee 5 = .ok (.getfield 47, 3) := by decide +kernel
theorem dX1_foresee_8 : decode cX1_foresee 8 = .ok (.invokestatic 52, 3) := by decide +kernel
theorem dX1_foresee_11 : decode cX1_foresee 11 = .ok (.istore 4, 2) := by decide +kernel
theorem dX1_foresee_13 : decode cX1_foresee 13 = .ok (.iconst 0, 1) := by decide +kernel
theorem dX1_foresee_14 : decode cX1_foresee 14 = .ok (.istore 5, 2) := by decide +kernel
theorem dX1_foresee_16 : decode cX1_foresee 16 = .ok (.iload 5, 2) := by decide +kernel
theorem dX1_foresee_18 : decode cX1_foresee 18 = .ok (.aload_n 0, 1) := by decide +kernel
theorem dX1_foresee_19 : decode cX1_foresee 19 = .ok (.getfield 33, 3) := by decide +kernel
theorem dX1_foresee_22 : decode cX1_foresee 22 = .ok (.if_icmp .ge 122, 3) := by decide +kernel
theorem dX1_foresee_25 : decode cX1_foresee 25 = .ok (.aload_n 0, 1) := by decide +kernel
theorem dX1_foresee_26 : decode cX1_foresee 26 = .ok (.getfield 9, 3) := by decide +kernel
theorem dX1_foresee_29 : decode cX1_foresee 29 = .ok (.iload 5, 2) := by decide +kernel
theorem dX1_foresee_31 : decode cX1_foresee 31 = .ok (.iaload, 1) := by decide +kernel
theorem dX1_foresee_32 : decode cX1_foresee 32 = .ok (.istore 6, 2) := by decide +kernel
theorem dX1_foresee_34 : decode cX1_foresee 34 = .ok (.iload 5, 2) := by decide +kernel
theorem dX1_foresee_36 : decode cX1_foresee 36 = .ok (.ifCond .le 20, 3) := by decide +kernel
theorem dX1_foresee_39 : decode cX1_foresee 39 = .ok (.aload_n 0, 1) := by decide +kernel
theorem dX1_foresee_40 : decode cX1_foresee 40 = .ok (.getfield 9, 3) := by decide +kernel
theorem dX1_foresee_43 : decode cX1_foresee 43 = .ok (.iload 5, 2) := by decide +kernel
theorem dX1_foresee_45 : decode cX1_foresee 45 = .ok (.iconst 1, 1) := by decide +kernel
theorem dX1_foresee_46 : decode cX1_foresee 46 = .ok (.isub, 1) := by decide +kernel
theorem dX1_foresee_47 : decode cX1_foresee 47 = .ok (.iaload, 1) := by decide +kernel
theorem dX1_foresee_48 : decode cX1_foresee 48 = .ok (.iload 6, 2) := by decide +kernel
theorem dX1_foresee_50 : decode cX1_foresee 50 = .ok (.if_icmp .ne 6, 3) := by decide +kernel
theorem dX1_foresee_53 : decode cX1_foresee 53 = .ok (.goto 85, 3) := by decide +kernel
theorem dX1_foresee_56 : decode cX1_foresee 56 = .ok (.iconst 0, 1) := by decide +kernel
theorem dX1_foresee_57 : decode cX1_foresee 57 = .ok (.istore 7, 2) := by decide +kernel
theorem dX1_foresee_59 : decode cX1_foresee 59 = .ok (.iload 7, 2) := by decide +kernel
theorem dX1_foresee_61 : decode cX1_foresee 61 = .ok (.iload 4, 2) := by decide +kernel
theorem dX1_foresee_63 : decode cX1_foresee 63 = .ok (.if_icmp .ge 75, 3) := by decide +kernel
theorem dX1_foresee_66 : decode cX1_foresee 66 = .ok (.iload_n 1, 1) := by decide +kernel
theorem dX1_foresee_67 : decode cX1_foresee 67 = .ok (.aload_n 2, 1) := by decide +kernel
theorem dX1_foresee_68 : decode cX1_foresee 68 = .ok (.getfield 58, 3) := by decide +kernel
theorem dX1_foresee_71 : decode cX1_foresee 71 = .ok (.iload 7, 2) := by decide +kernel
theorem dX1_foresee_73 : decode cX1_foresee 73 = .ok (.iaload, 1) := by decide +kernel
theorem dX1_foresee_74 : decode cX1_foresee 74 = .ok (.isub, 1) := by decide +kernel
theorem dX1_foresee_75 : decode cX1_foresee 75 = .ok (.istore 8, 2) := by decide +kernel
theorem dX1_foresee_77 : decode cX1_foresee 77 = .ok (.aload_n 0, 1) := by decide +kernel
theorem dX1_foresee_78 : decode cX1_foresee 78 = .ok (.getfield 15, 3) := by decide +kernel
theorem dX1_foresee_81 : decode cX1_foresee 81 = .ok (.iload 6, 2) := by decide +kernel
theorem dX1_foresee_83 : decode cX1_foresee 83 = .ok (.iload 7, 2) := by decide +kernel
theorem dX1_foresee_85 : decode cX1_foresee 85 = .ok (.invokestatic 61, 3) := by decide +kernel
theorem dX1_foresee_88 : decode cX1_foresee 88 = .ok (.iload 8, 2) := by decide +kernel
theorem dX1_foresee_90 : decode cX1_foresee 90 = .ok (.aload_n 2, 1) := by decide +kernel
theorem dX1_foresee_91 : decode cX1_foresee 91 = .ok (.getfield 64, 3) := by decide +kernel
theorem dX1_foresee_94 : decode cX1_foresee 94 = .ok (.aload_n 3, 1) := by decide +kernel
theorem dX1_foresee_95 : decode cX1_foresee 95 = .ok (.getfield 67, 3) := by decide +kernel
theorem dX1_foresee_98 : decode cX1_foresee 98 = .ok (.iload 6, 2) := by decide +kernel
theorem dX1_foresee_100 : decode cX1_foresee 100 = .ok (.iaload, 1) := by decide +kernel
theorem dX1_foresee_101 : decode cX1_foresee 101 = .ok (.invokestatic 70, 3) := by decide +kernel
theorem dX1_foresee_104 : decode cX1_foresee 104 = .ok (.iastore, 1) := by decide +kernel
theorem dX1_foresee_105 : decode cX1_foresee 105 = .ok (.aload_n 0, 1) := by decide +kernel
theorem dX1_foresee_106 : decode cX1_foresee 106 = .ok (.getfield 18, 3) := by decide +kernel
theorem dX1_foresee_109 : decode cX1_foresee 109 = .ok (.iload 6, 2) := by decide +kernel
theorem dX1_foresee_111 : decode cX1_foresee 111 = .ok (.iload 7, 2) := by decide +kernel
theorem dX1_foresee_113 : decode cX1_foresee 113 = .ok (.invokestatic 61, 3) := by decide +kernel
theorem dX1_foresee_116 : decode cX1_foresee 116 = .ok (.iload 8, 2) := by decide +kernel
theorem dX1_foresee_118 : decode cX1_foresee 118 = .ok (.aload_n 2, 1) := by decide +kernel
theorem dX1_foresee_119 : decode cX1_foresee 119 = .ok (.getfield 64, 3) := by decide +kernel
theorem dX1_foresee_122 : decode cX1_foresee 122 = .ok (.aload_n 3, 1) := by decide +kernel
theorem dX1_foresee_123 : decode cX1_foresee 123 = .ok (.iload 6, 2) := by decide +kernel
theorem dX1_foresee_125 : decode cX1_foresee 125 = .ok (.invokevirtual 74, 3) := by decide +kernel
theorem dX1_foresee_128 : decode cX1_foresee 128 = .ok (.invokestatic 70, 3) := by decide +kernel
theorem dX1_foresee_131 : decode cX1_foresee 131 = .ok (.iastore, 1) := by decide +kernel
theorem dX1_foresee_132 : decode cX1_foresee 132 = .ok (.iinc 7 1, 3) := by decide +kernel
theorem dX1_foresee_135 : decode cX1_foresee 135 = .ok (.goto (-76), 3) := by decide +kernel
theorem dX1_foresee_138 : decode cX1_foresee 138 = .ok (.iinc 5 1, 3) := by decide +kernel
theorem dX1_foresee_141 : decode cX1_foresee 141 = .ok (.goto (-125), 3) := by decide +kernel
theorem dX1_foresee_144 : decode cX1_foresee 144 = .ok (.return_, 1) := by decide +kernel
set_option maxRecDepth 20000 in
theorem ggX1_tryAllLoaves_X1_tryOrders : GoodIn wsX1_tryAllLoaves wsX1_tryOrders := goodIn_r _ [12, 13, 14, 15, 16, 17, 18, 19, 20, 21, 22, 11, 23, 2, 24, 25, 26, 27, 28, 29, 30, 31, 32, 33, 34, 35, 36, 37, 38, 39, 40, 41, 42, 43, 44, 45, 46, 47, 48, 49, 50, 51, 52, 53, 54, 55, 56, 57] (by decide +kernel) (by decide +kernel)
set_option maxRecDepth 20000 in
theorem gX1_tryAllLoaves_X1_tryOrders : GoodIn wsX1_tryAllLoaves (wsV RX1 84 RX1 yX1_tryOrders wsX1_tryOrders) := goodIn_app (goodIn_of _ (by decide +kernel)) ggX1_tryAllLoaves_X1_tryOrders
theorem dX1_tryAllLoaves_0 : decode cX1_tryAllLoaves 0 = .ok (.aload_n 0, 1) := by decide +kernel
theorem dX1_tryAllLoaves_1 : decode cX1_tryAllLoaves 1 = .ok (.getfield 9, 3) := by decide +kernel
theorem dX1_tryAllLoaves_4 : decode cX1_tryAllLoaves 4 = .ok (.iconst 0, 1) := by decide +kernel
theorem dX1_tryAllLoaves_5 : decode cX1_tryAllLoaves 5 = .ok (.aload_n 0, 1) := by decide +kernel
theorem dX1_tryAllLoaves_6 : decode cX1_tryAllLoaves 6 = .ok (.getfield 21, 3) := by decide +kernel
theorem dX1_tryAllLoaves_9 : decode cX1_tryAllLoaves 9 = .ok (.iconst 0, 1) := by decide +kernel
theorem dX1_tryAllLoaves_10 : decode cX1_tryAllLoaves 10 = .ok (.aload_n 0, 1) := by decide +kernel
theorem dX1_tryAllLoaves_11 : decode cX1_tryAllLoaves 11 = .ok (.getfield 33, 3) := by decide +kernel
theorem dX1_tryAllLoaves_14 : decode cX1_tryAllLoaves 14 = .ok (.invokestatic 78, 3) := by decide +kernel
theorem dX1_tryAllLoaves_17 : decode cX1_tryAllLoaves 17 = .ok (.aload_n 0, 1) := by decide +kernel
theorem dX1_tryAllLoaves_18 : decode cX1_tryAllLoaves 18 = .ok (.aload_n 0, 1) := by decide +kernel
theorem dX1_tryAllLoaves_19 : decode cX1_tryAllLoaves 19 = .ok (.getfield 33, 3) := by decide +kernel
theorem dX1_tryAllLoaves_22 : decode cX1_tryAllLoaves 22 = .ok (.iload_n 1, 1) := by decide +kernel
theorem dX1_tryAllLoaves_23 : decode cX1_tryAllLoaves 23 = .ok (.invokevirtual 84, 3) := by decide +kernel
theorem dX1_tryAllLoaves_26 : decode cX1_tryAllLoaves 26 = .ok (.return_, 1) := by decide +kernel
set_option maxRecDepth 20000 in
theorem ggX1_tryOrders_X1_minuteAllOut : GoodIn wsX1_tryOrders wsX1_minuteAllOut := goodIn_r _ [12, 13, 14, 15, 16, 6, 17, 18, 19, 20, 11, 21, 34, 35, 36, 37, 38, 39, 40, 41, 42, 43, 44, 45, 46, 47] (by decide +kernel) (by decide +kernel)
set_option maxRecDepth 20000 in
theorem gX1_tryOrders_X1_minuteAllOut : GoodIn wsX1_tryOrders (wsV RX1 97 RX1 yX1_minuteAllOut wsX1_minuteAllOut) := goodIn_app (goodIn_of _ (by decide +kernel)) ggX1_tryOrders_X1_minuteAllOut
set_option maxRecDepth 20000 in
theorem ggX1_tryOrders_X1_numberOf : GoodIn wsX1_tryOrders wsX1_numberOf := goodIn_r _ [25, 13, 34, 35, 36, 37, 38, 39, 40, 41, 42, 43, 44, 45, 46, 47] (by decide +kernel) (by decide +kernel)
set_option maxRecDepth 20000 in
theorem gX1_tryOrders_X1_numberOf : GoodIn wsX1_tryOrders (wsV RX1 100 RX1 yX1_numberOf wsX1_numberOf) := goodIn_app (goodIn_of _ (by decide +kernel)) ggX1_tryOrders_X1_numberOf
set_option maxRecDepth 20000 in
theorem ggX1_tryOrders_X1_stepOrder : GoodIn wsX1_tryOrders wsX1_stepOrder := goodIn_r _ [29, 13, 30, 31, 32, 11, 33, 34, 35, 36, 37, 38, 39, 40, 41, 42, 43, 44, 45, 46, 47] (by decide +kernel) (by decide +kernel)
set_option maxRecDepth 20000 in
theorem gX1_tryOrders_X1_stepOrder : GoodIn wsX1_tryOrders (wsV RX1 103 RX1 yX1_stepOrder wsX1_stepOrder) := goodIn_app (goodIn_of _ (by decide +kernel)) ggX1_tryOrders_X1_stepOrder
theorem dX1_tryOrders_0 : decode cX1_tryOrders 0 = .ok (.aload_n 0, 1) := by decide +kernel
theorem dX1_tryOrders_1 : decode cX1_tryOrders 1 = .ok (.iconst 0, 1) := by decide +kernel
theorem dX1_tryOrders_2 : decode cX1_tryOrders 2 = .ok (.putfield 88, 3) := by decide +kernel
theorem dX1_tryOrders_5 : decode cX1_tryOrders 5 = .ok (.aload_n 0, 1) := by decide +kernel
theorem dX1_tryOrders_6 : decode cX1_tryOrders 6 = .ok (.bipush (-6), 2) := by decide +kernel
theorem dX1_tryOrders_8 : decode cX1_tryOrders 8 = .ok (.putfield 91, 3) := by decide +kernel
theorem dX1_tryOrders_11 : decode cX1_tryOrders 11 = .ok (.aload_n 0, 1) := by decide +kernel
theorem dX1_tryOrders_12 : decode cX1_tryOrders 12 = .ok (.bipush (-6), 2) := by decide +kernel
theorem dX1_tryOrders_14 : decode cX1_tryOrders 14 = .ok (.putfield 94, 3) := by decide +kernel
theorem dX1_tryOrders_17 : decode cX1_tryOrders 17 = .ok (.iload_n 1, 1) := by decide +kernel
theorem dX1_tryOrders_18 : decode cX1_tryOrders 18 = .ok (.iload_n 2, 1) := by decide +kernel
theorem dX1_tryOrders_19 : decode cX1_tryOrders 19 = .ok (.if_icmp .gt 7, 3) := by decide +kernel
theorem dX1_tryOrders_22 : decode cX1_tryOrders 22 = .ok (.iconst 1, 1) := by decide +kernel
theorem dX1_tryOrders_23 : decode cX1_tryOrders 23 = .ok (.goto 4, 3) := by decide +kernel
theorem dX1_tryOrders_26 : decode cX1_tryOrders 26 = .ok (.iconst 0, 1) := by decide +kernel
theorem dX1_tryOrders_27 : decode cX1_tryOrders 27 = .ok (.istore_n 3, 1) := by decide +kernel
theorem dX1_tryOrders_28 : decode cX1_tryOrders 28 = .ok (.iconst 0, 1) := by decide +kernel
theorem dX1_tryOrders_29 : decode cX1_tryOrders 29 = .ok (.istore 4, 2) := by decide +kernel
theorem dX1_tryOrders_31 : decode cX1_tryOrders 31 = .ok (.iload 4, 2) := by decide +kernel
theorem dX1_tryOrders_33 : decode cX1_tryOrders 33 = .ok (.sipush 720, 3) := by decide +kernel
theorem dX1_tryOrders_36 : decode cX1_tryOrders 36 = .ok (.if_icmp .ge 84, 3) := by decide +kernel
theorem dX1_tryOrders_39 : decode cX1_tryOrders 39 = .ok (.iload_n 3, 1) := by decide +kernel
theorem dX1_tryOrders_40 : decode cX1_tryOrders 40 = .ok (.ifCond .eq 80, 3) := by decide +kernel
theorem dX1_tryOrders_43 : decode cX1_tryOrders 43 = .ok (.aload_n 0, 1) := by decide +kernel
theorem dX1_tryOrders_44 : decode cX1_tryOrders 44 = .ok (.iload_n 1, 1) := by decide +kernel
theorem dX1_tryOrders_45 : decode cX1_tryOrders 45 = .ok (.invokevirtual 97, 3) := by decide +kernel
theorem dX1_tryOrders_48 : decode cX1_tryOrders 48 = .ok (.istore 5, 2) := by decide +kernel
theorem dX1_tryOrders_50 : decode cX1_tryOrders 50 = .ok (.iload 5, 2) := by decide +kernel
theorem dX1_tryOrders_52 : decode cX1_tryOrders 52 = .ok (.bipush (-6), 2) := by decide +kernel
theorem dX1_tryOrders_54 : decode cX1_tryOrders 54 = .ok (.if_icmp .eq 54, 3) := by decide +kernel
theorem dX1_tryOrders_57 : decode cX1_tryOrders 57 = .ok (.aload_n 0, 1) := by decide +kernel
theorem dX1_tryOrders_58 : decode cX1_tryOrders 58 = .ok (.getfield 88, 3) := by decide +kernel
theorem dX1_tryOrders_61 : decode cX1_tryOrders 61 = .ok (.ifCond .ne 12, 3) := by decide +kernel
theorem dX1_tryOrders_64 : decode cX1_tryOrders 64 = .ok (.aload_n 0, 1) := by decide +kernel
theorem dX1_tryOrders_65 : decode cX1_tryOrders 65 = .ok (.aload_n 0, 1) := by decide +kernel
theorem dX1_tryOrders_66 : decode cX1_tryOrders 66 = .ok (.iload_n 1, 1) := by decide +kernel
theorem dX1_tryOrders_67 : decode cX1_tryOrders 67 = .ok (.invokevirtual 100, 3) := by decide +kernel
theorem dX1_tryOrders_70 : decode cX1_tryOrders 70 = .ok (.putfield 91, 3) := by decide +kernel
theorem dX1_tryOrders_73 : decode cX1_tryOrders 73 = .ok (.aload_n 0, 1) := by decide +kernel
theorem dX1_tryOrders_74 : decode cX1_tryOrders 74 = .ok (.aload_n 0, 1) := by decide +kernel
theorem dX1_tryOrders_75 : decode cX1_tryOrders 75 = .ok (.getfield 88, 3) := by decide +kernel
theorem dX1_tryOrders_78 : decode cX1_tryOrders 78 = .ok (.ifCond .ne 8, 3) := by decide +kernel
theorem dX1_tryOrders_81 : decode cX1_tryOrders 81 = .ok (.iload 5, 2) := by decide +kernel
theorem dX1_tryOrders_83 : decode cX1_tryOrders 83 = .ok (.goto 12, 3) := by decide +kernel
theorem dX1_tryOrders_86 : decode cX1_tryOrders 86 = .ok (.aload_n 0, 1) := by decide +kernel
theorem dX1_tryOrders_87 : decode cX1_tryOrders 87 = .ok (.getfield 94, 3) := by decide +kernel
theorem dX1_tryOrders_90 : decode cX1_tryOrders 90 = .ok (.iload 5, 2) := by decide +kernel
theorem dX1_tryOrders_92 : decode cX1_tryOrders 92 = .ok (.invokestatic 52, 3) := by decide +kernel
theorem dX1_tryOrders_95 : decode cX1_tryOrders 95 = .ok (.putfield 94, 3) := by decide +kernel
theorem dX1_tryOrders_98 : decode cX1_tryOrders 98 = .ok (.aload_n 0, 1) := by decide +kernel
theorem dX1_tryOrders_99 : decode cX1_tryOrders 99 = .ok (.dup, 1) := by decide +kernel
theorem dX1_tryOrders_100 : decode cX1_tryOrders 100 = .ok (.getfield 88, 3) := by decide +kernel
theorem dX1_tryOrders_103 : decode cX1_tryOrders 103 = .ok (.iconst 1, 1) := by decide +kernel
theorem dX1_tryOrders_104 : decode cX1_tryOrders 104 = .ok (.iadd, 1) := by decide +kernel
theorem dX1_tryOrders_105 : decode cX1_tryOrders 105 = .ok (.putfield 88, 3) := by decide +kernel
theorem dX1_tryOrders_108 : decode cX1_tryOrders 108 = .ok (.aload_n 0, 1) := by decide +kernel
theorem dX1_tryOrders_109 : decode cX1_tryOrders 109 = .ok (.iload_n 1, 1) := by decide +kernel
theorem dX1_tryOrders_110 : decode cX1_tryOrders 110 = .ok (.invokevirtual 103, 3) := by decide +kernel
theorem dX1_tryOrders_113 : decode cX1_tryOrders 113 = .ok (.istore_n 3, 1) := by decide +kernel
theorem dX1_tryOrders_114 : decode cX1_tryOrders 114 = .ok (.iinc 4 1, 3) := by decide +kernel
theorem dX1_tryOrders_117 : decode cX1_tryOrders 117 = .ok (.goto (-86), 3) := by decide +kernel
theorem dX1_tryOrders_120 : decode cX1_tryOrders 120 = .ok (.return_, 1) := by decide +kernel
set_option maxRecDepth 20000 in
theorem ggX1_minuteAllOut_X1_at : GoodIn wsX1_minuteAllOut wsX1_at := goodIn_r _ [11] (by decide +kernel) (by decide +kernel)
set_option maxRecDepth 20000 in
theorem gX1_minuteAllOut_X1_at : GoodIn wsX1_minuteAllOut (va_wsS RX1 61 yX1_at wsX1_at) := goodIn_app (goodIn_of _ (by decide +kernel)) ggX1_minuteAllOut_X1_at
theorem dX1_minuteAllOut_0 : decode cX1_minuteAllOut 0 = .ok (.iconst 0, 1) := by decide +kernel
theorem dX1_minuteAllOut_1 : decode cX1_minuteAllOut 1 = .ok (.istore_n 2, 1) := by decide +kernel
theorem dX1_minuteAllOut_2 : decode cX1_minuteAllOut 2 = .ok (.iload_n 1, 1) := by decide +kernel
theorem dX1_minuteAllOut_3 : decode cX1_minuteAllOut 3 = .ok (.iconst 1, 1) := by decide +kernel
theorem dX1_minuteAllOut_4 : decode cX1_minuteAllOut 4 = .ok (.isub, 1) := by decide +kernel
theorem dX1_minuteAllOut_5 : decode cX1_minuteAllOut 5 = .ok (.istore_n 3, 1) := by decide +kernel
theorem dX1_minuteAllOut_6 : decode cX1_minuteAllOut 6 = .ok (.iload_n 3, 1) := by decide +kernel
theorem dX1_minuteAllOut_7 : decode cX1_minuteAllOut 7 = .ok (.ifCond .lt 47, 3) := by decide +kernel
theorem dX1_minuteAllOut_10 : decode cX1_minuteAllOut 10 = .ok (.aload_n 0, 1) := by decide +kernel
theorem dX1_minuteAllOut_11 : decode cX1_minuteAllOut 11 = .ok (.getfield 21, 3) := by decide +kernel
theorem dX1_minuteAllOut_14 : decode cX1_minuteAllOut 14 = .ok (.iload_n 3, 1) := by decide +kernel
theorem dX1_minuteAllOut_15 : decode cX1_minuteAllOut 15 = .ok (.iaload, 1) := by decide +kernel
theorem dX1_minuteAllOut_16 : decode cX1_minuteAllOut 16 = .ok (.iload_n 3, 1) := by decide +kernel
theorem dX1_minuteAllOut_17 : decode cX1_minuteAllOut 17 = .ok (.invokestatic 61, 3) := by decide +kernel
theorem dX1_minuteAllOut_20 : decode cX1_minuteAllOut 20 = .ok (.istore 4, 2) := by decide +kernel
theorem dX1_minuteAllOut_22 : decode cX1_minuteAllOut 22 = .ok (.iload_n 2, 1) := by decide +kernel
theorem dX1_minuteAllOut_23 : decode cX1_minuteAllOut 23 = .ok (.aload_n 0, 1) := by decide +kernel
theorem dX1_minuteAllOut_24 : decode cX1_minuteAllOut 24 = .ok (.getfield 15, 3) := by decide +kernel
theorem dX1_minuteAllOut_27 : decode cX1_minuteAllOut 27 = .ok (.iload 4, 2) := by decide +kernel
theorem dX1_minuteAllOut_29 : decode cX1_minuteAllOut 29 = .ok (.iaload, 1) := by decide +kernel
theorem dX1_minuteAllOut_30 : decode cX1_minuteAllOut 30 = .ok (.invokestatic 106, 3) := by decide +kernel
theorem dX1_minuteAllOut_33 : decode cX1_minuteAllOut 33 = .ok (.istore_n 2, 1) := by decide +kernel
theorem dX1_minuteAllOut_34 : decode cX1_minuteAllOut 34 = .ok (.iload_n 2, 1) := by decide +kernel
theorem dX1_minuteAllOut_35 : decode cX1_minuteAllOut 35 = .ok (.aload_n 0, 1) := by decide +kernel
theorem dX1_minuteAllOut_36 : decode cX1_minuteAllOut 36 = .ok (.getfield 18, 3) := by decide +kernel
theorem dX1_minuteAllOut_39 : decode cX1_minuteAllOut 39 = .ok (.iload 4, 2) := by decide +kernel
theorem dX1_minuteAllOut_41 : decode cX1_minuteAllOut 41 = .ok (.iaload, 1) := by decide +kernel
theorem dX1_minuteAllOut_42 : decode cX1_minuteAllOut 42 = .ok (.if_icmp .lt 6, 3) := by decide +kernel
theorem dX1_minuteAllOut_45 : decode cX1_minuteAllOut 45 = .ok (.bipush (-6), 2) := by decide +kernel
theorem dX1_minuteAllOut_47 : decode cX1_minuteAllOut 47 = .ok (.ireturn, 1) := by decide +kernel
theorem dX1_minuteAllOut_48 : decode cX1_minuteAllOut 48 = .ok (.iinc 3 (-1), 3) := by decide +kernel
theorem dX1_minuteAllOut_51 : decode cX1_minuteAllOut 51 = .ok (.goto (-45), 3) := by decide +kernel
theorem dX1_minuteAllOut_54 : decode cX1_minuteAllOut 54 = .ok (.iload_n 2, 1) := by decide +kernel
theorem dX1_minuteAllOut_55 : decode cX1_minuteAllOut 55 = .ok (.ireturn, 1) := by decide +kernel
theorem dX1_numberOf_0 : decode cX1_numberOf 0 = .ok (.iconst 0, 1) := by decide +kernel
theorem dX1_numberOf_1 : decode cX1_numberOf 1 = .ok (.istore_n 2, 1) := by decide +kernel
theorem dX1_numberOf_2 : decode cX1_numberOf 2 = .ok (.iconst 0, 1) := by decide +kernel
theorem dX1_numberOf_3 : decode cX1_numberOf 3 = .ok (.istore_n 3, 1) := by decide +kernel
theorem dX1_numberOf_4 : decode cX1_numberOf 4 = .ok (.iload_n 3, 1) := by decide +kernel
theorem dX1_numberOf_5 : decode cX1_numberOf 5 = .ok (.iload_n 1, 1) := by decide +kernel
theorem dX1_numberOf_6 : decode cX1_numberOf 6 = .ok (.if_icmp .ge 23, 3) := by decide +kernel
theorem dX1_numberOf_9 : decode cX1_numberOf 9 = .ok (.iload_n 2, 1) := by decide +kernel
theorem dX1_numberOf_10 : decode cX1_numberOf 10 = .ok (.bipush 10, 2) := by decide +kernel
theorem dX1_numberOf_12 : decode cX1_numberOf 12 = .ok (.imul, 1) := by decide +kernel
theorem dX1_numberOf_13 : decode cX1_numberOf 13 = .ok (.aload_n 0, 1) := by decide +kernel
theorem dX1_numberOf_14 : decode cX1_numberOf 14 = .ok (.getfield 21, 3) := by decide +kernel
theorem dX1_numberOf_17 : decode cX1_numberOf 17 = .ok (.iload_n 3, 1) := by decide +kernel
theorem dX1_numberOf_18 : decode cX1_numberOf 18 = .ok (.iaload, 1) := by decide +kernel
theorem dX1_numberOf_19 : decode cX1_numberOf 19 = .ok (.iadd, 1) := by decide +kernel
theorem dX1_numberOf_20 : decode cX1_numberOf 20 = .ok (.iconst 1, 1) := by decide +kernel
theorem dX1_numberOf_21 : decode cX1_numberOf 21 = .ok (.iadd, 1) := by decide +kernel
theorem dX1_numberOf_22 : decode cX1_numberOf 22 = .ok (.istore_n 2, 1) := by decide +kernel
theorem dX1_numberOf_23 : decode cX1_numberOf 23 = .ok (.iinc 3 1, 3) := by decide +kernel
theorem dX1_numberOf_26 : decode cX1_numberOf 26 = .ok (.goto (-22), 3) := by decide +kernel
theorem dX1_numberOf_29 : decode cX1_numberOf 29 = .ok (.iload_n 2, 1) := by decide +kernel
theorem dX1_numberOf_30 : decode cX1_numberOf 30 = .ok (.ireturn, 1) := by decide +kernel
set_option maxRecDepth 20000 in
theorem ggX1_stepOrder_X1_swap : GoodIn wsX1_stepOrder wsX1_swap := goodIn_r _ [6, 1, 7, 8, 9, 10, 11, 12, 13, 14, 15, 16, 17, 18, 19, 20] (by decide +kernel) (by decide +kernel)
set_option maxRecDepth 20000 in
theorem gX1_stepOrder_X1_swap : GoodIn wsX1_stepOrder (wsV RX1 109 RX1 yX1_swap wsX1_swap) := goodIn_app (goodIn_of _ (by decide +kernel)) ggX1_stepOrder_X1_swap
theorem dX1_stepOrder_0 : decode cX1_stepOrder 0 = .ok (.iload_n 1, 1) := by decide +kernel
theorem dX1_stepOrder_1 : decode cX1_stepOrder 1 = .ok (.iconst 2, 1) := by decide +kernel
theorem dX1_stepOrder_2 : decode cX1_stepOrder 2 = .ok (.isub, 1) := by decide +kernel
theorem dX1_stepOrder_3 : decode cX1_stepOrder 3 = .ok (.istore_n 2, 1) := by decide +kernel
theorem dX1_stepOrder_4 : decode cX1_stepOrder 4 = .ok (.iload_n 2, 1) := by decide +kernel
theorem dX1_stepOrder_5 : decode cX1_stepOrder 5 = .ok (.ifCond .lt 26, 3) := by decide +kernel
theorem dX1_stepOrder_8 : decode cX1_stepOrder 8 = .ok (.aload_n 0, 1) := by decide +kernel
theorem dX1_stepOrder_9 : decode cX1_stepOrder 9 = .ok (.getfield 21, 3) := by decide +kernel
theorem dX1_stepOrder_12 : decode cX1_stepOrder 12 = .ok (.iload_n 2, 1) := by decide +kernel
theorem dX1_stepOrder_13 : decode cX1_stepOrder 13 = .ok (.iaload, 1) := by decide +kernel
theorem dX1_stepOrder_14 : decode cX1_stepOrder 14 = .ok (.aload_n 0, 1) := by decide +kernel
theorem dX1_stepOrder_15 : decode cX1_stepOrder 15 = .ok (.getfield 21, 3) := by decide +kernel
theorem dX1_stepOrder_18 : decode cX1_stepOrder 18 = .ok (.iload_n 2, 1) := by decide +kernel
theorem dX1_stepOrder_19 : decode cX1_stepOrder 19 = .ok (.iconst 1, 1) := by decide +kernel
theorem dX1_stepOrder_20 : decode cX1_stepOrder 20 = .ok (.iadd, 1) := by decide +kernel
theorem dX1_stepOrder_21 : decode cX1_stepOrder 21 = .ok (.iaload, 1) := by decide +kernel
theorem dX1_stepOrder_22 : decode cX1_stepOrder 22 = .ok (.if_icmp .lt 9, 3) := by decide +kernel
theorem dX1_stepOrder_25 : decode cX1_stepOrder 25 = .ok (.iinc 2 (-1), 3) := by decide +kernel
theorem dX1_stepOrder_28 : decode cX1_stepOrder 28 = .ok (.goto (-24), 3) := by decide +kernel
theorem dX1_stepOrder_31 : decode cX1_stepOrder 31 = .ok (.iload_n 2, 1) := by decide +kernel
theorem dX1_stepOrder_32 : decode cX1_stepOrder 32 = .ok (.ifCond .ge 5, 3) := by decide +kernel
theorem dX1_stepOrder_35 : decode cX1_stepOrder 35 = .ok (.iconst 0, 1) := by decide +kernel
theorem dX1_stepOrder_36 : decode cX1_stepOrder 36 = .ok (.ireturn, 1) := by decide +kernel
theorem dX1_stepOrder_37 : decode cX1_stepOrder 37 = .ok (.iload_n 1, 1) := by decide +kernel
theorem dX1_stepOrder_38 : decode cX1_stepOrder 38 = .ok (.iconst 1, 1) := by decide +kernel
theorem dX1_stepOrder_39 : decode cX1_stepOrder 39 = .ok (.isub, 1) := by decide +kernel
theorem dX1_stepOrder_40 : decode cX1_stepOrder 40 = .ok (.istore_n 3, 1) := by decide +kernel
theorem dX1_stepOrder_41 : decode cX1_stepOrder 41 = .ok (.iload_n 3, 1) := by decide +kernel
theorem dX1_stepOrder_42 : decode cX1_stepOrder 42 = .ok (.iload_n 2, 1) := by decide +kernel
theorem dX1_stepOrder_43 : decode cX1_stepOrder 43 = .ok (.iconst 1, 1) := by decide +kernel
theorem dX1_stepOrder_44 : decode cX1_stepOrder 44 = .ok (.iadd, 1) := by decide +kernel
theorem dX1_stepOrder_45 : decode cX1_stepOrder 45 = .ok (.if_icmp .le 24, 3) := by decide +kernel
theorem dX1_stepOrder_48 : decode cX1_stepOrder 48 = .ok (.aload_n 0, 1) := by decide +kernel
theorem dX1_stepOrder_49 : decode cX1_stepOrder 49 = .ok (.getfield 21, 3) := by decide +kernel
theorem dX1_stepOrder_52 : decode cX1_stepOrder 52 = .ok (.iload_n 3, 1) := by decide +kernel
theorem dX1_stepOrder_53 : decode cX1_stepOrder 53 = .ok (.iaload, 1) := by decide +kernel
theorem dX1_stepOrder_54 : decode cX1_stepOrder 54 = .ok (.aload_n 0, 1) := by decide +kernel
theorem dX1_stepOrder_55 : decode cX1_stepOrder 55 = .ok (.getfield 21, 3) := by decide +kernel
theorem dX1_stepOrder_58 : decode cX1_stepOrder 58 = .ok (.iload_n 2, 1) := by decide +kernel
theorem dX1_stepOrder_59 : decode cX1_stepOrder 59 = .ok (.iaload, 1) := by decide +kernel
theorem dX1_stepOrder_60 : decode cX1_stepOrder 60 = .ok (.if_icmp .gt 9, 3) := by decide +kernel
theorem dX1_stepOrder_63 : decode cX1_stepOrder 63 = .ok (.iinc 3 (-1), 3) := by decide +kernel
theorem dX1_stepOrder_66 : decode cX1_stepOrder 66 = .ok (.goto (-25), 3) := by decide +kernel
theorem dX1_stepOrder_69 : decode cX1_stepOrder 69 = .ok (.aload_n 0, 1) := by decide +kernel
theorem dX1_stepOrder_70 : decode cX1_stepOrder 70 = .ok (.iload_n 2, 1) := by decide +kernel
theorem dX1_stepOrder_71 : decode cX1_stepOrder 71 = .ok (.iload_n 3, 1) := by decide +kernel
theorem dX1_stepOrder_72 : decode cX1_stepOrder 72 = .ok (.invokevirtual 109, 3) := by decide +kernel
theorem dX1_stepOrder_75 : decode cX1_stepOrder 75 = .ok (.iload_n 1, 1) := by decide +kernel
theorem dX1_stepOrder_76 : decode cX1_stepOrder 76 = .ok (.iconst 1, 1) := by decide +kernel
theorem dX1_stepOrder_77 : decode cX1_stepOrder 77 = .ok (.isub, 1) := by decide +kernel
theorem dX1_stepOrder_78 : decode cX1_stepOrder 78 = .ok (.istore 4, 2) := by decide +kernel
theorem dX1_stepOrder_80 : decode cX1_stepOrder 80 = .ok (.iload_n 2, 1) := by decide +kernel
theorem dX1_stepOrder_81 : decode cX1_stepOrder 81 = .ok (.iconst 1, 1) := by decide +kernel
theorem dX1_stepOrder_82 : decode cX1_stepOrder 82 = .ok (.iadd, 1) := by decide +kernel
theorem dX1_stepOrder_83 : decode cX1_stepOrder 83 = .ok (.istore 5, 2) := by decide +kernel
theorem dX1_stepOrder_85 : decode cX1_stepOrder 85 = .ok (.iload 5, 2) := by decide +kernel
theorem dX1_stepOrder_87 : decode cX1_stepOrder 87 = .ok (.iload 4, 2) := by decide +kernel
theorem dX1_stepOrder_89 : decode cX1_stepOrder 89 = .ok (.if_icmp .ge 20, 3) := by decide +kernel
theorem dX1_stepOrder_92 : decode cX1_stepOrder 92 = .ok (.aload_n 0, 1) := by decide +kernel
theorem dX1_stepOrder_93 : decode cX1_stepOrder 93 = .ok (.iload 5, 2) := by decide +kernel
theorem dX1_stepOrder_95 : decode cX1_stepOrder 95 = .ok (.iload 4, 2) := by decide +kernel
theorem dX1_stepOrder_97 : decode cX1_stepOrder 97 = .ok (.invokevirtual 109, 3) := by decide +kernel
theorem dX1_stepOrder_100 : decode cX1_stepOrder 100 = .ok (.iinc 4 (-1), 3) := by decide +kernel
theorem dX1_stepOrder_103 : decode cX1_stepOrder 103 = .ok (.iinc 5 1, 3) := by decide +kernel
theorem dX1_stepOrder_106 : decode cX1_stepOrder 106 = .ok (.goto (-21), 3) := by decide +kernel
theorem dX1_stepOrder_109 : decode cX1_stepOrder 109 = .ok (.iconst 1, 1) := by decide +kernel
theorem dX1_stepOrder_110 : decode cX1_stepOrder 110 = .ok (.ireturn, 1) := by decide +kernel
theorem dX1_swap_0 : decode cX1_swap 0 = .ok (.aload_n 0, 1) := by decide +kernel
theorem dX1_swap_1 : decode cX1_swap 1 = .ok (.getfield 21, 3) := by decide +kernel
theorem dX1_swap_4 : decode cX1_swap 4 = .ok (.iload_n 1, 1) := by decide +kernel
theorem dX1_swap_5 : decode cX1_swap 5 = .ok (.iaload, 1) := by decide +kernel
theorem dX1_swap_6 : decode cX1_swap 6 = .ok (.istore_n 3, 1) := by decide +kernel
theorem dX1_swap_7 : decode cX1_swap 7 = .ok (.aload_n 0, 1) := by decide +kernel
theorem dX1_swap_8 : decode cX1_swap 8 = .ok (.getfield 21, 3) := by decide +kernel
theorem dX1_swap_11 : decode cX1_swap 11 = .ok (.iload_n 1, 1) := by decide +kernel
theorem dX1_swap_12 : decode cX1_swap 12 = .ok (.aload_n 0, 1) := by decide +kernel
theorem dX1_swap_13 : decode cX1_swap 13 = .ok (.getfield 21, 3) := by decide +kernel
theorem dX1_swap_16 : decode cX1_swap 16 = .ok (.iload_n 2, 1) := by decide +kernel
theorem dX1_swap_17 : decode cX1_swap 17 = .ok (.iaload, 1) := by decide +kernel
theorem dX1_swap_18 : decode cX1_swap 18 = .ok (.iastore, 1) := by decide +kernel
theorem dX1_swap_19 : decode cX1_swap 19 = .ok (.aload_n 0, 1) := by decide +kernel
theorem dX1_swap_20 : decode cX1_swap 20 = .ok (.getfield 21, 3) := by decide +kernel
theorem dX1_swap_23 : decode cX1_swap 23 = .ok (.iload_n 2, 1) := by decide +kernel
theorem dX1_swap_24 : decode cX1_swap 24 = .ok (.iload_n 3, 1) := by decide +kernel
theorem dX1_swap_25 : decode cX1_swap 25 = .ok (.iastore, 1) := by decide +kernel
theorem dX1_swap_26 : decode cX1_swap 26 = .ok (.return_, 1) := by decide +kernel
set_option maxRecDepth 20000 in
theorem ggX1_hasSomeOrder_J6_bitCount_0f7a4 : GoodIn wsX1_hasSomeOrder wsJ6_bitCount_0f7a4 := goodIn_r _ [6, 7, 8, 9] (by decide +kernel) (by decide +kernel)
set_option maxRecDepth 20000 in
theorem gX1_hasSomeOrder_J6_bitCount_0f7a4 : GoodIn wsX1_hasSomeOrder (va_wsS RX1 112 yJ6_bitCount_0f7a4 wsJ6_bitCount_0f7a4) := goodIn_app (goodIn_of _ (by decide +kernel)) ggX1_hasSomeOrder_J6_bitCount_0f7a4
set_option maxRecDepth 20000 in
theorem ggX1_hasSomeOrder_X1_latestOf : GoodIn wsX1_hasSomeOrder wsX1_latestOf := goodIn_r _ [14, 1, 15, 2, 16, 17, 18, 19, 20, 21, 22, 23, 24, 25, 26, 13, 27, 28, 29, 30, 31, 32, 33, 34, 35, 36, 37, 38, 39, 40, 41] (by decide +kernel) (by decide +kernel)
set_option maxRecDepth 20000 in
theorem gX1_hasSomeOrder_X1_latestOf : GoodIn wsX1_hasSomeOrder (wsV RX1 117 RX1 yX1_latestOf wsX1_latestOf) := goodIn_app (goodIn_of _ (by decide +kernel)) ggX1_hasSomeOrder_X1_latestOf
theorem dX1_hasSomeOrder_0 : decode cX1_hasSomeOrder 0 = .ok (.iconst 1, 1) := by decide +kernel
theorem dX1_hasSomeOrder_1 : decode cX1_hasSomeOrder 1 = .ok (.aload_n 0, 1) := by decide +kernel
theorem dX1_hasSomeOrder_2 : decode cX1_hasSomeOrder 2 = .ok (.getfield 33, 3) := by decide +kernel
theorem dX1_hasSomeOrder_5 : decode cX1_hasSomeOrder 5 = .ok (.ishl, 1) := by decide +kernel
theorem dX1_hasSomeOrder_6 : decode cX1_hasSomeOrder 6 = .ok (.istore_n 1, 1) := by decide +kernel
theorem dX1_hasSomeOrder_7 : decode cX1_hasSomeOrder 7 = .ok (.aload_n 0, 1) := by decide +kernel
theorem dX1_hasSomeOrder_8 : decode cX1_hasSomeOrder 8 = .ok (.getfield 24, 3) := by decide +kernel
theorem dX1_hasSomeOrder_11 : decode cX1_hasSomeOrder 11 = .ok (.iconst 0, 1) := by decide +kernel
theorem dX1_hasSomeOrder_12 : decode cX1_hasSomeOrder 12 = .ok (.sipush 999, 3) := by decide +kernel
theorem dX1_hasSomeOrder_15 : decode cX1_hasSomeOrder 15 = .ok (.iastore, 1) := by decide +kernel
theorem dX1_hasSomeOrder_16 : decode cX1_hasSomeOrder 16 = .ok (.iconst 1, 1) := by decide +kernel
theorem dX1_hasSomeOrder_17 : decode cX1_hasSomeOrder 17 = .ok (.istore_n 2, 1) := by decide +kernel
theorem dX1_hasSomeOrder_18 : decode cX1_hasSomeOrder 18 = .ok (.iload_n 2, 1) := by decide +kernel
theorem dX1_hasSomeOrder_19 : decode cX1_hasSomeOrder 19 = .ok (.iload_n 1, 1) := by decide +kernel
theorem dX1_hasSomeOrder_20 : decode cX1_hasSomeOrder 20 = .ok (.if_icmp .ge 26, 3) := by decide +kernel
theorem dX1_hasSomeOrder_23 : decode cX1_hasSomeOrder 23 = .ok (.aload_n 0, 1) := by decide +kernel
theorem dX1_hasSomeOrder_24 : decode cX1_hasSomeOrder 24 = .ok (.getfield 24, 3) := by decide +kernel
theorem dX1_hasSomeOrder_27 : decode cX1_hasSomeOrder 27 = .ok (.iload_n 2, 1) := by decide +kernel
theorem dX1_hasSomeOrder_28 : decode cX1_hasSomeOrder 28 = .ok (.aload_n 0, 1) := by decide +kernel
theorem dX1_hasSomeOrder_29 : decode cX1_hasSomeOrder 29 = .ok (.iload_n 2, 1) := by decide +kernel
theorem dX1_hasSomeOrder_30 : decode cX1_hasSomeOrder 30 = .ok (.iload_n 2, 1) := by decide +kernel
theorem dX1_hasSomeOrder_31 : decode cX1_hasSomeOrder 31 = .ok (.invokestatic 112, 3) := by decide +kernel
theorem dX1_hasSomeOrder_34 : decode cX1_hasSomeOrder 34 = .ok (.iconst 1, 1) := by decide +kernel
theorem dX1_hasSomeOrder_35 : decode cX1_hasSomeOrder 35 = .ok (.isub, 1) := by decide +kernel
theorem dX1_hasSomeOrder_36 : decode cX1_hasSomeOrder 36 = .ok (.invokevirtual 117, 3) := by decide +kernel
theorem dX1_hasSomeOrder_39 : decode cX1_hasSomeOrder 39 = .ok (.iastore, 1) := by decide +kernel
theorem dX1_hasSomeOrder_40 : decode cX1_hasSomeOrder 40 = .ok (.iinc 2 1, 3) := by decide +kernel
theorem dX1_hasSomeOrder_43 : decode cX1_hasSomeOrder 43 = .ok (.goto (-25), 3) := by decide +kernel
theorem dX1_hasSomeOrder_46 : decode cX1_hasSomeOrder 46 = .ok (.aload_n 0, 1) := by decide +kernel
theorem dX1_hasSomeOrder_47 : decode cX1_hasSomeOrder 47 = .ok (.getfield 24, 3) := by decide +kernel
theorem dX1_hasSomeOrder_50 : decode cX1_hasSomeOrder 50 = .ok (.iload_n 1, 1) := by decide +kernel
theorem dX1_hasSomeOrder_51 : decode cX1_hasSomeOrder 51 = .ok (.iconst 1, 1) := by decide +kernel
theorem dX1_hasSomeOrder_52 : decode cX1_hasSomeOrder 52 = .ok (.isub, 1) := by decide +kernel
theorem dX1_hasSomeOrder_53 : decode cX1_hasSomeOrder 53 = .ok (.iaload, 1) := by decide +kernel
theorem dX1_hasSomeOrder_54 : decode cX1_hasSomeOrder 54 = .ok (.ifCond .le 7, 3) := by decide +kernel
theorem dX1_hasSomeOrder_57 : decode cX1_hasSomeOrder 57 = .ok (.iconst 1, 1) := by decide +kernel
theorem dX1_hasSomeOrder_58 : decode cX1_hasSomeOrder 58 = .ok (.goto 4, 3) := by decide +kernel
theorem dX1_hasSomeOrder_61 : decode cX1_hasSomeOrder 61 = .ok (.iconst 0, 1) := by decide +kernel
theorem dX1_hasSomeOrder_62 : decode cX1_hasSomeOrder 62 = .ok (.ireturn, 1) := by decide +kernel
set_option maxRecDepth 20000 in
theorem ggX1_latestOf_X1_at : GoodIn wsX1_latestOf wsX1_at := goodIn_r _ [16] (by decide +kernel) (by decide +kernel)
set_option maxRecDepth 20000 in
theorem gX1_latestOf_X1_at : GoodIn wsX1_latestOf (va_wsS RX1 61 yX1_at wsX1_at) := goodIn_app (goodIn_of _ (by decide +kernel)) ggX1_latestOf_X1_at
theorem dX1_latestOf_0 : decode cX1_latestOf 0 = .ok (.iconst 0, 1) := by decide +kernel
theorem dX1_latestOf_1 : decode cX1_latestOf 1 = .ok (.istore_n 3, 1) := by decide +kernel
theorem dX1_latestOf_2 : decode cX1_latestOf 2 = .ok (.iconst 0, 1) := by decide +kernel
theorem dX1_latestOf_3 : decode cX1_latestOf 3 = .ok (.istore 4, 2) := by decide +kernel
theorem dX1_latestOf_5 : decode cX1_latestOf 5 = .ok (.iload 4, 2) := by decide +kernel
theorem dX1_latestOf_7 : decode cX1_latestOf 7 = .ok (.aload_n 0, 1) := by decide +kernel
theorem dX1_latestOf_8 : decode cX1_latestOf 8 = .ok (.getfield 33, 3) := by decide +kernel
theorem dX1_latestOf_11 : decode cX1_latestOf 11 = .ok (.if_icmp .ge 78, 3) := by decide +kernel
theorem dX1_latestOf_14 : decode cX1_latestOf 14 = .ok (.iload_n 1, 1) := by decide +kernel
theorem dX1_latestOf_15 : decode cX1_latestOf 15 = .ok (.iload 4, 2) := by decide +kernel
theorem dX1_latestOf_17 : decode cX1_latestOf 17 = .ok (.ishr, 1) := by decide +kernel
theorem dX1_latestOf_18 : decode cX1_latestOf 18 = .ok (.iconst 1, 1) := by decide +kernel
theorem dX1_latestOf_19 : decode cX1_latestOf 19 = .ok (.iand, 1) := by decide +kernel
theorem dX1_latestOf_20 : decode cX1_latestOf 20 = .ok (.iconst 1, 1) := by decide +kernel
theorem dX1_latestOf_21 : decode cX1_latestOf 21 = .ok (.if_icmp .ne 62, 3) := by decide +kernel
theorem dX1_latestOf_24 : decode cX1_latestOf 24 = .ok (.aload_n 0, 1) := by decide +kernel
theorem dX1_latestOf_25 : decode cX1_latestOf 25 = .ok (.getfield 9, 3) := by decide +kernel
theorem dX1_latestOf_28 : decode cX1_latestOf 28 = .ok (.iload 4, 2) := by decide +kernel
theorem dX1_latestOf_30 : decode cX1_latestOf 30 = .ok (.iaload, 1) := by decide +kernel
theorem dX1_latestOf_31 : decode cX1_latestOf 31 = .ok (.iload_n 2, 1) := by decide +kernel
theorem dX1_latestOf_32 : decode cX1_latestOf 32 = .ok (.invokestatic 61, 3) := by decide +kernel
theorem dX1_latestOf_35 : decode cX1_latestOf 35 = .ok (.istore 5, 2) := by decide +kernel
theorem dX1_latestOf_37 : decode cX1_latestOf 37 = .ok (.aload_n 0, 1) := by decide +kernel
theorem dX1_latestOf_38 : decode cX1_latestOf 38 = .ok (.getfield 24, 3) := by decide +kernel
theorem dX1_latestOf_41 : decode cX1_latestOf 41 = .ok (.iload_n 1, 1) := by decide +kernel
theorem dX1_latestOf_42 : decode cX1_latestOf 42 = .ok (.iconst 1, 1) := by decide +kernel
theorem dX1_latestOf_43 : decode cX1_latestOf 43 = .ok (.iload 4, 2) := by decide +kernel
theorem dX1_latestOf_45 : decode cX1_latestOf 45 = .ok (.ishl, 1) := by decide +kernel
theorem dX1_latestOf_46 : decode cX1_latestOf 46 = .ok (.iconst (-1), 1) := by decide +kernel
theorem dX1_latestOf_47 : decode cX1_latestOf 47 = .ok (.ixor, 1) := by decide +kernel
theorem dX1_latestOf_48 : decode cX1_latestOf 48 = .ok (.iand, 1) := by decide +kernel
theorem dX1_latestOf_49 : decode cX1_latestOf 49 = .ok (.iaload, 1) := by decide +kernel
theorem dX1_latestOf_50 : decode cX1_latestOf 50 = .ok (.aload_n 0, 1) := by decide +kernel
theorem dX1_latestOf_51 : decode cX1_latestOf 51 = .ok (.getfield 18, 3) := by decide +kernel
theorem dX1_latestOf_54 : decode cX1_latestOf 54 = .ok (.iload 5, 2) := by decide +kernel
theorem dX1_latestOf_56 : decode cX1_latestOf 56 = .ok (.iaload, 1) := by decide +kernel
theorem dX1_latestOf_57 : decode cX1_latestOf 57 = .ok (.iconst 1, 1) := by decide +kernel
theorem dX1_latestOf_58 : decode cX1_latestOf 58 = .ok (.isub, 1) := by decide +kernel
theorem dX1_latestOf_59 : decode cX1_latestOf 59 = .ok (.invokestatic 52, 3) := by decide +kernel
theorem dX1_latestOf_62 : decode cX1_latestOf 62 = .ok (.istore 6, 2) := by decide +kernel
theorem dX1_latestOf_64 : decode cX1_latestOf 64 = .ok (.iload 6, 2) := by decide +kernel
theorem dX1_latestOf_66 : decode cX1_latestOf 66 = .ok (.aload_n 0, 1) := by decide +kernel
theorem dX1_latestOf_67 : decode cX1_latestOf 67 = .ok (.getfield 15, 3) := by decide +kernel
theorem dX1_latestOf_70 : decode cX1_latestOf 70 = .ok (.iload 5, 2) := by decide +kernel
theorem dX1_latestOf_72 : decode cX1_latestOf 72 = .ok (.iaload, 1) := by decide +kernel
theorem dX1_latestOf_73 : decode cX1_latestOf 73 = .ok (.if_icmp .lt 10, 3) := by decide +kernel
theorem dX1_latestOf_76 : decode cX1_latestOf 76 = .ok (.iload_n 3, 1) := by decide +kernel
theorem dX1_latestOf_77 : decode cX1_latestOf 77 = .ok (.iload 6, 2) := by decide +kernel
theorem dX1_latestOf_79 : decode cX1_latestOf 79 = .ok (.invokestatic 106, 3) := by decide +kernel
theorem dX1_latestOf_82 : decode cX1_latestOf 82 = .ok (.istore_n 3, 1) := by decide +kernel
theorem dX1_latestOf_83 : decode cX1_latestOf 83 = .ok (.iinc 4 1, 3) := by decide +kernel
theorem dX1_latestOf_86 : decode cX1_latestOf 86 = .ok (.goto (-81), 3) := by decide +kernel
theorem dX1_latestOf_89 : decode cX1_latestOf 89 = .ok (.iload_n 3, 1) := by decide +kernel
theorem dX1_latestOf_90 : decode cX1_latestOf 90 = .ok (.ireturn, 1) := by decide +kernel
set_option maxRecDepth 20000 in
theorem ggX1_shareOut_X1_lookAtSet : GoodIn wsX1_shareOut wsX1_lookAtSet := goodIn_r _ [13, 1, 14, 15, 16, 7, 17, 8, 18, 19, 20, 12, 21, 22, 23, 2, 3, 4, 5, 24, 25, 26, 27, 28, 29, 30, 31, 32, 33, 34, 35, 36, 37, 38, 39, 40, 41, 42, 43, 44, 45, 46, 47, 54, 55, 56, 57, 58, 59, 60, 61, 62, 63, 64, 65, 66, 67, 68, 69, 70, 71, 72] (by decide +kernel) (by decide +kernel)
set_option maxRecDepth 20000 in
theorem gX1_shareOut_X1_lookAtSet : GoodIn wsX1_shareOut (wsV RX1 120 RX1 yX1_lookAtSet wsX1_lookAtSet) := goodIn_app (goodIn_of _ (by decide +kernel)) ggX1_shareOut_X1_lookAtSet
set_option maxRecDepth 20000 in
theorem ggX1_shareOut_X1_keepBetter : GoodIn wsX1_shareOut wsX1_keepBetter := goodIn_r _ [51, 6, 52, 53, 54, 55, 56, 57, 58, 59, 60, 61, 62, 63, 64, 65, 66, 67] (by decide +kernel) (by decide +kernel)
set_option maxRecDepth 20000 in
theorem gX1_shareOut_X1_keepBetter : GoodIn wsX1_shareOut (wsV RX1 127 RX1 yX1_keepBetter wsX1_keepBetter) := goodIn_app (goodIn_of _ (by decide +kernel)) ggX1_shareOut_X1_keepBetter
theorem dX1_shareOut_0 : decode cX1_shareOut 0 = .ok (.iconst 1, 1) := by decide +kernel
theorem dX1_shareOut_1 : decode cX1_shareOut 1 = .ok (.aload_n 0, 1) := by decide +kernel
theorem dX1_shareOut_2 : decode cX1_shareOut 2 = .ok (.getfield 33, 3) := by decide +kernel
theorem dX1_shareOut_5 : decode cX1_shareOut 5 = .ok (.iconst 4, 1) := by decide +kernel
theorem dX1_shareOut_6 : decode cX1_shareOut 6 = .ok (.invokestatic 52, 3) := by decide +kernel
theorem dX1_shareOut_9 : decode cX1_shareOut 9 = .ok (.ishl, 1) := by decide +kernel
theorem dX1_shareOut_10 : decode cX1_shareOut 10 = .ok (.istore_n 3, 1) := by decide +kernel
theorem dX1_shareOut_11 : decode cX1_shareOut 11 = .ok (.iconst 0, 1) := by decide +kernel
theorem dX1_shareOut_12 : decode cX1_shareOut 12 = .ok (.istore 4, 2) := by decide +kernel
theorem dX1_shareOut_14 : decode cX1_shareOut 14 = .ok (.iload 4, 2) := by decide +kernel
theorem dX1_shareOut_16 : decode cX1_shareOut 16 = .ok (.iload_n 3, 1) := by decide +kernel
theorem dX1_shareOut_17 : decode cX1_shareOut 17 = .ok (.if_icmp .ge 17, 3) := by decide +kernel
theorem dX1_shareOut_20 : decode cX1_shareOut 20 = .ok (.aload_n 0, 1) := by decide +kernel
theorem dX1_shareOut_21 : decode cX1_shareOut 21 = .ok (.iload 4, 2) := by decide +kernel
theorem dX1_shareOut_23 : decode cX1_shareOut 23 = .ok (.iload_n 1, 1) := by decide +kernel
theorem dX1_shareOut_24 : decode cX1_shareOut 24 = .ok (.aload_n 2, 1) := by decide +kernel
theorem dX1_shareOut_25 : decode cX1_shareOut 25 = .ok (.invokevirtual 120, 3) := by decide +kernel
theorem dX1_shareOut_28 : decode cX1_shareOut 28 = .ok (.iinc 4 1, 3) := by decide +kernel
theorem dX1_shareOut_31 : decode cX1_shareOut 31 = .ok (.goto (-17), 3) := by decide +kernel
theorem dX1_shareOut_34 : decode cX1_shareOut 34 = .ok (.aload_n 0, 1) := by decide +kernel
theorem dX1_shareOut_35 : decode cX1_shareOut 35 = .ok (.bipush (-6), 2) := by decide +kernel
theorem dX1_shareOut_37 : decode cX1_shareOut 37 = .ok (.putfield 124, 3) := by decide +kernel
theorem dX1_shareOut_40 : decode cX1_shareOut 40 = .ok (.iconst 0, 1) := by decide +kernel
theorem dX1_shareOut_41 : decode cX1_shareOut 41 = .ok (.istore 4, 2) := by decide +kernel
theorem dX1_shareOut_43 : decode cX1_shareOut 43 = .ok (.iload 4, 2) := by decide +kernel
theorem dX1_shareOut_45 : decode cX1_shareOut 45 = .ok (.iload_n 3, 1) := by decide +kernel
theorem dX1_shareOut_46 : decode cX1_shareOut 46 = .ok (.if_icmp .ge 89, 3) := by decide +kernel
theorem dX1_shareOut_49 : decode cX1_shareOut 49 = .ok (.iconst 0, 1) := by decide +kernel
theorem dX1_shareOut_50 : decode cX1_shareOut 50 = .ok (.istore 5, 2) := by decide +kernel
theorem dX1_shareOut_52 : decode cX1_shareOut 52 = .ok (.iload 5, 2) := by decide +kernel
theorem dX1_shareOut_54 : decode cX1_shareOut 54 = .ok (.iload_n 3, 1) := by decide +kernel
theorem dX1_shareOut_55 : decode cX1_shareOut 55 = .ok (.if_icmp .ge 74, 3) := by decide +kernel
theorem dX1_shareOut_58 : decode cX1_shareOut 58 = .ok (.iload 4, 2) := by decide +kernel
theorem dX1_shareOut_60 : decode cX1_shareOut 60 = .ok (.iload 5, 2) := by decide +kernel
theorem dX1_shareOut_62 : decode cX1_shareOut 62 = .ok (.iand, 1) := by decide +kernel
theorem dX1_shareOut_63 : decode cX1_shareOut 63 = .ok (.ifCond .ne 60, 3) := by decide +kernel
theorem dX1_shareOut_66 : decode cX1_shareOut 66 = .ok (.aload_n 0, 1) := by decide +kernel
theorem dX1_shareOut_67 : decode cX1_shareOut 67 = .ok (.getfield 27, 3) := by decide +kernel
theorem dX1_shareOut_70 : decode cX1_shareOut 70 = .ok (.iload 4, 2) := by decide +kernel
theorem dX1_shareOut_72 : decode cX1_shareOut 72 = .ok (.iaload, 1) := by decide +kernel
theorem dX1_shareOut_73 : decode cX1_shareOut 73 = .ok (.bipush (-6), 2) := by decide +kernel
theorem dX1_shareOut_75 : decode cX1_shareOut 75 = .ok (.if_icmp .eq 48, 3) := by decide +kernel
theorem dX1_shareOut_78 : decode cX1_shareOut 78 = .ok (.aload_n 0, 1) := by decide +kernel
theorem dX1_shareOut_79 : decode cX1_shareOut 79 = .ok (.getfield 27, 3) := by decide +kernel
theorem dX1_shareOut_82 : decode cX1_shareOut 82 = .ok (.iload 5, 2) := by decide +kernel
theorem dX1_shareOut_84 : decode cX1_shareOut 84 = .ok (.iaload, 1) := by decide +kernel
theorem dX1_shareOut_85 : decode cX1_shareOut 85 = .ok (.bipush (-6), 2) := by decide +kernel
theorem dX1_shareOut_87 : decode cX1_shareOut 87 = .ok (.if_icmp .eq 36, 3) := by decide +kernel
theorem dX1_shareOut_90 : decode cX1_shareOut 90 = .ok (.aload_n 0, 1) := by decide +kernel
theorem dX1_shareOut_91 : decode cX1_shareOut 91 = .ok (.aload_n 0, 1) := by decide +kernel
theorem dX1_shareOut_92 : decode cX1_shareOut 92 = .ok (.getfield 30, 3) := by decide +kernel
theorem dX1_shareOut_95 : decode cX1_shareOut 95 = .ok (.iload 4, 2) := by decide +kernel
theorem dX1_shareOut_97 : decode cX1_shareOut 97 = .ok (.iaload, 1) := by decide +kernel
theorem dX1_shareOut_98 : decode cX1_shareOut 98 = .ok (.aload_n 0, 1) := by decide +kernel
theorem dX1_shareOut_99 : decode cX1_shareOut 99 = .ok (.getfield 30, 3) := by decide +kernel
theorem dX1_shareOut_102 : decode cX1_shareOut 102 = .ok (.iload 5, 2) := by decide +kernel
theorem dX1_shareOut_104 : decode cX1_shareOut 104 = .ok (.iaload, 1) := by decide +kernel
theorem dX1_shareOut_105 : decode cX1_shareOut 105 = .ok (.iadd, 1) := by decide +kernel
theorem dX1_shareOut_106 : decode cX1_shareOut 106 = .ok (.aload_n 0, 1) := by decide +kernel
theorem dX1_shareOut_107 : decode cX1_shareOut 107 = .ok (.getfield 27, 3) := by decide +kernel
theorem dX1_shareOut_110 : decode cX1_shareOut 110 = .ok (.iload 4, 2) := by decide +kernel
theorem dX1_shareOut_112 : decode cX1_shareOut 112 = .ok (.iaload, 1) := by decide +kernel
theorem dX1_shareOut_113 : decode cX1_shareOut 113 = .ok (.aload_n 0, 1) := by decide +kernel
theorem dX1_shareOut_114 : decode cX1_shareOut 114 = .ok (.getfield 27, 3) := by decide +kernel
theorem dX1_shareOut_117 : decode cX1_shareOut 117 = .ok (.iload 5, 2) := by decide +kernel
theorem dX1_shareOut_119 : decode cX1_shareOut 119 = .ok (.iaload, 1) := by decide +kernel
theorem dX1_shareOut_120 : decode cX1_shareOut 120 = .ok (.invokevirtual 127, 3) := by decide +kernel
theorem dX1_shareOut_123 : decode cX1_shareOut 123 = .ok (.iinc 5 1, 3) := by decide +kernel
theorem dX1_shareOut_126 : decode cX1_shareOut 126 = .ok (.goto (-74), 3) := by decide +kernel
theorem dX1_shareOut_129 : decode cX1_shareOut 129 = .ok (.iinc 4 1, 3) := by decide +kernel
theorem dX1_shareOut_132 : decode cX1_shareOut 132 = .ok (.goto (-89), 3) := by decide +kernel
theorem dX1_shareOut_135 : decode cX1_shareOut 135 = .ok (.return_, 1) := by decide +kernel
set_option maxRecDepth 20000 in
theorem ggX1_lookAtSet_X1_tryOrders : GoodIn wsX1_lookAtSet wsX1_tryOrders := goodIn_r _ [12, 13, 6, 14, 15, 16, 17, 18, 19, 20, 21, 11, 22, 2, 23, 24, 25, 26, 27, 28, 29, 30, 31, 32, 33, 34, 35, 36, 37, 38, 39, 40, 41, 42, 43, 44, 45, 46, 47, 48, 49, 50, 51, 52, 53, 54, 55, 56] (by decide +kernel) (by decide +kernel)
set_option maxRecDepth 20000 in
theorem gX1_lookAtSet_X1_tryOrders : GoodIn wsX1_lookAtSet (wsV RX1 84 RX1 yX1_tryOrders wsX1_tryOrders) := goodIn_app (goodIn_of _ (by decide +kernel)) ggX1_lookAtSet_X1_tryOrders
theorem dX1_lookAtSet_0 : decode cX1_lookAtSet 0 = .ok (.iconst 0, 1) := by decide +kernel
theorem dX1_lookAtSet_1 : decode cX1_lookAtSet 1 = .ok (.istore 4, 2) := by decide +kernel
theorem dX1_lookAtSet_3 : decode cX1_lookAtSet 3 = .ok (.iconst 0, 1) := by decide +kernel
theorem dX1_lookAtSet_4 : decode cX1_lookAtSet 4 = .ok (.istore 5, 2) := by decide +kernel
theorem dX1_lookAtSet_6 : decode cX1_lookAtSet 6 = .ok (.iconst 0, 1) := by decide +kernel
theorem dX1_lookAtSet_7 : decode cX1_lookAtSet 7 = .ok (.istore 6, 2) := by decide +kernel
theorem dX1_lookAtSet_9 : decode cX1_lookAtSet 9 = .ok (.iload 6, 2) := by decide +kernel
theorem dX1_lookAtSet_11 : decode cX1_lookAtSet 11 = .ok (.aload_n 0, 1) := by decide +kernel
theorem dX1_lookAtSet_12 : decode cX1_lookAtSet 12 = .ok (.getfield 33, 3) := by decide +kernel
theorem dX1_lookAtSet_15 : decode cX1_lookAtSet 15 = .ok (.if_icmp .ge 53, 3) := by decide +kernel
theorem dX1_lookAtSet_18 : decode cX1_lookAtSet 18 = .ok (.iload_n 1, 1) := by decide +kernel
theorem dX1_lookAtSet_19 : decode cX1_lookAtSet 19 = .ok (.iload 6, 2) := by decide +kernel
theorem dX1_lookAtSet_21 : decode cX1_lookAtSet 21 = .ok (.ishr, 1) := by decide +kernel
theorem dX1_lookAtSet_22 : decode cX1_lookAtSet 22 = .ok (.iconst 1, 1) := by decide +kernel
theorem dX1_lookAtSet_23 : decode cX1_lookAtSet 23 = .ok (.iand, 1) := by decide +kernel
theorem dX1_lookAtSet_24 : decode cX1_lookAtSet 24 = .ok (.iconst 1, 1) := by decide +kernel
theorem dX1_lookAtSet_25 : decode cX1_lookAtSet 25 = .ok (.if_icmp .ne 37, 3) := by decide +kernel
theorem dX1_lookAtSet_28 : decode cX1_lookAtSet 28 = .ok (.aload_n 0, 1) := by decide +kernel
theorem dX1_lookAtSet_29 : decode cX1_lookAtSet 29 = .ok (.getfield 21, 3) := by decide +kernel
theorem dX1_lookAtSet_32 : decode cX1_lookAtSet 32 = .ok (.iload 4, 2) := by decide +kernel
theorem dX1_lookAtSet_34 : decode cX1_lookAtSet 34 = .ok (.aload_n 0, 1) := by decide +kernel
theorem dX1_lookAtSet_35 : decode cX1_lookAtSet 35 = .ok (.getfield 9, 3) := by decide +kernel
theorem dX1_lookAtSet_38 : decode cX1_lookAtSet 38 = .ok (.iload 6, 2) := by decide +kernel
theorem dX1_lookAtSet_40 : decode cX1_lookAtSet 40 = .ok (.iaload, 1) := by decide +kernel
theorem dX1_lookAtSet_41 : decode cX1_lookAtSet 41 = .ok (.iastore, 1) := by decide +kernel
theorem dX1_lookAtSet_42 : decode cX1_lookAtSet 42 = .ok (.iload 5, 2) := by decide +kernel
theorem dX1_lookAtSet_44 : decode cX1_lookAtSet 44 = .ok (.aload_n 3, 1) := by decide +kernel
theorem dX1_lookAtSet_45 : decode cX1_lookAtSet 45 = .ok (.getfield 131, 3) := by decide +kernel
theorem dX1_lookAtSet_48 : decode cX1_lookAtSet 48 = .ok (.aload_n 0, 1) := by decide +kernel
theorem dX1_lookAtSet_49 : decode cX1_lookAtSet 49 = .ok (.getfield 9, 3) := by decide +kernel
theorem dX1_lookAtSet_52 : decode cX1_lookAtSet 52 = .ok (.iload 6, 2) := by decide +kernel
theorem dX1_lookAtSet_54 : decode cX1_lookAtSet 54 = .ok (.iaload, 1) := by decide +kernel
theorem dX1_lookAtSet_55 : decode cX1_lookAtSet 55 = .ok (.iaload, 1) := by decide +kernel
theorem dX1_lookAtSet_56 : decode cX1_lookAtSet 56 = .ok (.iadd, 1) := by decide +kernel
theorem dX1_lookAtSet_57 : decode cX1_lookAtSet 57 = .ok (.istore 5, 2) := by decide +kernel
theorem dX1_lookAtSet_59 : decode cX1_lookAtSet 59 = .ok (.iinc 4 1, 3) := by decide +kernel
theorem dX1_lookAtSet_62 : decode cX1_lookAtSet 62 = .ok (.iinc 6 1, 3) := by decide +kernel
theorem dX1_lookAtSet_65 : decode cX1_lookAtSet 65 = .ok (.goto (-56), 3) := by decide +kernel
theorem dX1_lookAtSet_68 : decode cX1_lookAtSet 68 = .ok (.aload_n 0, 1) := by decide +kernel
theorem dX1_lookAtSet_69 : decode cX1_lookAtSet 69 = .ok (.iload 4, 2) := by decide +kernel
theorem dX1_lookAtSet_71 : decode cX1_lookAtSet 71 = .ok (.iload_n 2, 1) := by decide +kernel
theorem dX1_lookAtSet_72 : decode cX1_lookAtSet 72 = .ok (.invokevirtual 84, 3) := by decide +kernel
theorem dX1_lookAtSet_75 : decode cX1_lookAtSet 75 = .ok (.aload_n 0, 1) := by decide +kernel
theorem dX1_lookAtSet_76 : decode cX1_lookAtSet 76 = .ok (.getfield 27, 3) := by decide +kernel
theorem dX1_lookAtSet_79 : decode cX1_lookAtSet 79 = .ok (.iload_n 1, 1) := by decide +kernel
theorem dX1_lookAtSet_80 : decode cX1_lookAtSet 80 = .ok (.aload_n 0, 1) := by decide +kernel
theorem dX1_lookAtSet_81 : decode cX1_lookAtSet 81 = .ok (.getfield 91, 3) := by decide +kernel
theorem dX1_lookAtSet_84 : decode cX1_lookAtSet 84 = .ok (.iastore, 1) := by decide +kernel
theorem dX1_lookAtSet_85 : decode cX1_lookAtSet 85 = .ok (.aload_n 0, 1) := by decide +kernel
theorem dX1_lookAtSet_86 : decode cX1_lookAtSet 86 = .ok (.getfield 30, 3) := by decide +kernel
theorem dX1_lookAtSet_89 : decode cX1_lookAtSet 89 = .ok (.iload_n 1, 1) := by decide +kernel
theorem dX1_lookAtSet_90 : decode cX1_lookAtSet 90 = .ok (.iload 5, 2) := by decide +kernel
theorem dX1_lookAtSet_92 : decode cX1_lookAtSet 92 = .ok (.iastore, 1) := by decide +kernel
theorem dX1_lookAtSet_93 : decode cX1_lookAtSet 93 = .ok (.return_, 1) := by decide +kernel
theorem dX1_keepBetter_0 : decode cX1_keepBetter 0 = .ok (.iload_n 1, 1) := by decide +kernel
theorem dX1_keepBetter_1 : decode cX1_keepBetter 1 = .ok (.aload_n 0, 1) := by decide +kernel
theorem dX1_keepBetter_2 : decode cX1_keepBetter 2 = .ok (.getfield 124, 3) := by decide +kernel
theorem dX1_keepBetter_5 : decode cX1_keepBetter 5 = .ok (.if_icmp .ne 7, 3) := by decide +kernel
theorem dX1_keepBetter_8 : decode cX1_keepBetter 8 = .ok (.iconst 1, 1) := by decide +kernel
theorem dX1_keepBetter_9 : decode cX1_keepBetter 9 = .ok (.goto 4, 3) := by decide +kernel
theorem dX1_keepBetter_12 : decode cX1_keepBetter 12 = .ok (.iconst 0, 1) := by decide +kernel
theorem dX1_keepBetter_13 : decode cX1_keepBetter 13 = .ok (.istore 4, 2) := by decide +kernel
theorem dX1_keepBetter_15 : decode cX1_keepBetter 15 = .ok (.iload_n 2, 1) := by decide +kernel
theorem dX1_keepBetter_16 : decode cX1_keepBetter 16 = .ok (.aload_n 0, 1) := by decide +kernel
theorem dX1_keepBetter_17 : decode cX1_keepBetter 17 = .ok (.getfield 134, 3) := by decide +kernel
theorem dX1_keepBetter_20 : decode cX1_keepBetter 20 = .ok (.if_icmp .lt 19, 3) := by decide +kernel
theorem dX1_keepBetter_23 : decode cX1_keepBetter 23 = .ok (.iload_n 2, 1) := by decide +kernel
theorem dX1_keepBetter_24 : decode cX1_keepBetter 24 = .ok (.aload_n 0, 1) := by decide +kernel
theorem dX1_keepBetter_25 : decode cX1_keepBetter 25 = .ok (.getfield 134, 3) := by decide +kernel
theorem dX1_keepBetter_28 : decode cX1_keepBetter 28 = .ok (.if_icmp .ne 15, 3) := by decide +kernel
theorem dX1_keepBetter_31 : decode cX1_keepBetter 31 = .ok (.iload_n 3, 1) := by decide +kernel
theorem dX1_keepBetter_32 : decode cX1_keepBetter 32 = .ok (.aload_n 0, 1) := by decide +kernel
theorem dX1_keepBetter_33 : decode cX1_keepBetter 33 = .ok (.getfield 137, 3) := by decide +kernel
theorem dX1_keepBetter_36 : decode cX1_keepBetter 36 = .ok (.if_icmp .ge 7, 3) := by decide +kernel
theorem dX1_keepBetter_39 : decode cX1_keepBetter 39 = .ok (.iconst 1, 1) := by decide +kernel
theorem dX1_keepBetter_40 : decode cX1_keepBetter 40 = .ok (.goto 4, 3) := by decide +kernel
theorem dX1_keepBetter_43 : decode cX1_keepBetter 43 = .ok (.iconst 0, 1) := by decide +kernel
theorem dX1_keepBetter_44 : decode cX1_keepBetter 44 = .ok (.istore 5, 2) := by decide +kernel
theorem dX1_keepBetter_46 : decode cX1_keepBetter 46 = .ok (.iload_n 1, 1) := by decide +kernel
theorem dX1_keepBetter_47 : decode cX1_keepBetter 47 = .ok (.aload_n 0, 1) := by decide +kernel
theorem dX1_keepBetter_48 : decode cX1_keepBetter 48 = .ok (.getfield 124, 3) := by decide +kernel
theorem dX1_keepBetter_51 : decode cX1_keepBetter 51 = .ok (.if_icmp .gt 13, 3) := by decide +kernel
theorem dX1_keepBetter_54 : decode cX1_keepBetter 54 = .ok (.iload 4, 2) := by decide +kernel
theorem dX1_keepBetter_56 : decode cX1_keepBetter 56 = .ok (.ifCond .eq 23, 3) := by decide +kernel
theorem dX1_keepBetter_59 : decode cX1_keepBetter 59 = .ok (.iload 5, 2) := by decide +kernel
theorem dX1_keepBetter_61 : decode cX1_keepBetter 61 = .ok (.ifCond .eq 18, 3) := by decide +kernel
theorem dX1_keepBetter_64 : decode cX1_keepBetter 64 = .ok (.aload_n 0, 1) := by decide +kernel
theorem dX1_keepBetter_65 : decode cX1_keepBetter 65 = .ok (.iload_n 1, 1) := by decide +kernel
theorem dX1_keepBetter_66 : decode cX1_keepBetter 66 = .ok (.putfield 124, 3) := by decide +kernel
theorem dX1_keepBetter_69 : decode cX1_keepBetter 69 = .ok (.aload_n 0, 1) := by decide +kernel
theorem dX1_keepBetter_70 : decode cX1_keepBetter 70 = .ok (.iload_n 2, 1) := by decide +kernel
theorem dX1_keepBetter_71 : decode cX1_keepBetter 71 = .ok (.putfield 134, 3) := by decide +kernel
theorem dX1_keepBetter_74 : decode cX1_keepBetter 74 = .ok (.aload_n 0, 1) := by decide +kernel
theorem dX1_keepBetter_75 : decode cX1_keepBetter 75 = .ok (.iload_n 3, 1) := by decide +kernel
theorem dX1_keepBetter_76 : decode cX1_keepBetter 76 = .ok (.putfield 137, 3) := by decide +kernel
theorem dX1_keepBetter_79 : decode cX1_keepBetter 79 = .ok (.return_, 1) := by decide +kernel
set_option maxRecDepth 20000 in
theorem ggX2_init_X3_init : GoodIn wsX2_init wsX3_init := goodIn_r _ [9, 10, 2, 3, 11, 12, 13, 14, 15, 16, 17, 18, 19, 20, 21, 22, 23, 24, 25, 26, 27, 28, 29, 30, 31, 32] (by decide +kernel) (by decide +kernel)
set_option maxRecDepth 20000 in
theorem gX2_init_X3_init_n11 : GoodIn wsX2_init (wsX3_init) := ggX2_init_X3_init
theorem dX2_init_0 : decode cX2_init 0 = .ok (.aload_n 0, 1) := by decide +kernel
theorem dX2_init_1 : decode cX2_init 1 = .ok (.invokespecial 3, 3) := by decide +kernel
theorem dX2_init_4 : decode cX2_init 4 = .ok (.aload_n 0, 1) := by decide +kernel
theorem dX2_init_5 : decode cX2_init 5 = .ok (.new 9, 3) := by decide +kernel
theorem dX2_init_8 : decode cX2_init 8 = .ok (.dup, 1) := by decide +kernel
theorem dX2_init_9 : decode cX2_init 9 = .ok (.invokespecial 11, 3) := by decide +kernel
theorem dX2_init_12 : decode cX2_init 12 = .ok (.putfield 12, 3) := by decide +kernel
theorem dX2_init_15 : decode cX2_init 15 = .ok (.return_, 1) := by decide +kernel
set_option maxRecDepth 20000 in
theorem ggX2_play_X3_copyFrom : GoodIn wsX2_play wsX3_copyFrom := goodIn_r _ [12, 13, 14, 15, 16, 17, 18, 19, 20, 21, 22, 23, 24, 25, 26, 27, 117, 118, 119, 120, 121, 122, 123, 124, 125, 126, 127] (by decide +kernel) (by decide +kernel)
set_option maxRecDepth 20000 in
theorem gX2_play_X3_copyFrom : GoodIn wsX2_play (wsV RX2 18 RX3 yX3_copyFrom wsX3_copyFrom) := goodIn_app (goodIn_of _ (by decide +kernel)) ggX2_play_X3_copyFrom
set_option maxRecDepth 20000 in
theorem ggX2_play_X3_hasRow : GoodIn wsX2_play wsX3_hasRow := goodIn_r _ [31, 13, 32, 33, 34, 117, 118, 119, 120, 121, 122, 123, 124, 125, 126, 127] (by decide +kernel) (by decide +kernel)
set_option maxRecDepth 20000 in
theorem gX2_play_X3_hasRow : GoodIn wsX2_play (wsV RX2 44 RX3 yX3_hasRow wsX3_hasRow) := goodIn_app (goodIn_of _ (by decide +kernel)) ggX2_play_X3_hasRow
set_option maxRecDepth 20000 in
theorem ggX2_play_X2_playPart : GoodIn wsX2_play wsX2_playPart := goodIn_r _ [39, 4, 2, 3, 5, 1, 40, 41, 42, 38, 43, 44, 45, 46, 11, 47, 24, 48, 49, 50, 51, 52, 53, 54, 33, 55, 56, 32, 34, 57, 58, 59, 60, 14, 61, 62, 63, 64, 65, 66, 67, 68, 13, 26, 69, 70, 71, 72, 15, 16, 18, 17, 73, 74, 75, 76, 77, 78, 79, 19, 80, 81, 82, 83, 25, 27, 84, 85, 86, 87, 88, 89, 90, 91, 92, 93, 94, 95, 96, 97, 98, 99, 100, 101, 102, 103, 104, 105, 106, 107, 108, 109, 110, 111, 112, 113, 114, 117, 118, 119, 120, 121, 122, 123, 124, 125, 126, 127, 128, 129, 130, 131, 132] (by decide +kernel) (by decide +kernel)
set_option maxRecDepth 20000 in
theorem gX2_play_X2_playPart : GoodIn wsX2_play (wsV RX2 48 RX2 yX2_playPart wsX2_playPart) := goodIn_app (goodIn_of _ (by decide +kernel)) ggX2_play_X2_playPart
theorem dX2_play_0 : decode cX2_play 0 = .ok (.aload_n 0, 1) := by decide +kernel
theorem dX2_play_1 : decode cX2_play 1 = .ok (.getfield 12, 3) := by decide +kernel
theorem dX2_play_4 : decode cX2_play 4 = .ok (.aload_n 2, 1) := by decide +kernel
theorem dX2_play_5 : decode cX2_play 5 = .ok (.invokevirtual 18, 3) := by decide +kernel
theorem dX2_play_8 : decode cX2_play 8 = .ok (.aload_n 0, 1) := by decide +kernel
theorem dX2_play_9 : decode cX2_play 9 = .ok (.iconst 0, 1) := by decide +kernel
theorem dX2_play_10 : decode cX2_play 10 = .ok (.putfield 22, 3) := by decide +kernel
theorem dX2_play_13 : decode cX2_play 13 = .ok (.aload_n 0, 1) := by decide +kernel
theorem dX2_play_14 : decode cX2_play 14 = .ok (.bipush (-6), 2) := by decide +kernel
theorem dX2_play_16 : decode cX2_play 16 = .ok (.putfield 26, 3) := by decide +kernel
theorem dX2_play_19 : decode cX2_play 19 = .ok (.aload_n 0, 1) := by decide +kernel
theorem dX2_play_20 : decode cX2_play 20 = .ok (.bipush (-6), 2) := by decide +kernel
theorem dX2_play_22 : decode cX2_play 22 = .ok (.putfield 29, 3) := by decide +kernel
theorem dX2_play_25 : decode cX2_play 25 = .ok (.aload_n 0, 1) := by decide +kernel
theorem dX2_play_26 : decode cX2_play 26 = .ok (.bipush (-6), 2) := by decide +kernel
theorem dX2_play_28 : decode cX2_play 28 = .ok (.putfield 32, 3) := by decide +kernel
theorem dX2_play_31 : decode cX2_play 31 = .ok (.iconst 0, 1) := by decide +kernel
theorem dX2_play_32 : decode cX2_play 32 = .ok (.istore 4, 2) := by decide +kernel
theorem dX2_play_34 : decode cX2_play 34 = .ok (.iconst 0, 1) := by decide +kernel
theorem dX2_play_35 : decode cX2_play 35 = .ok (.istore 5, 2) := by decide +kernel
theorem dX2_play_37 : decode cX2_play 37 = .ok (.iload 5, 2) := by decide +kernel
theorem dX2_play_39 : decode cX2_play 39 = .ok (.aload_n 1, 1) := by decide +kernel
theorem dX2_play_40 : decode cX2_play 40 = .ok (.getfield 35, 3) := by decide +kernel
theorem dX2_play_43 : decode cX2_play 43 = .ok (.if_icmp .ge 61, 3) := by decide +kernel
theorem dX2_play_46 : decode cX2_play 46 = .ok (.aload_n 0, 1) := by decide +kernel
theorem dX2_play_47 : decode cX2_play 47 = .ok (.getfield 26, 3) := by decide +kernel
theorem dX2_play_50 : decode cX2_play 50 = .ok (.bipush (-6), 2) := by decide +kernel
theorem dX2_play_52 : decode cX2_play 52 = .ok (.if_icmp .ne 52, 3) := by decide +kernel
theorem dX2_play_55 : decode cX2_play 55 = .ok (.aload_n 1, 1) := by decide +kernel
theorem dX2_play_56 : decode cX2_play 56 = .ok (.getfield 40, 3) := by decide +kernel
theorem dX2_play_59 : decode cX2_play 59 = .ok (.iload 5, 2) := by decide +kernel
theorem dX2_play_61 : decode cX2_play 61 = .ok (.iaload, 1) := by decide +kernel
theorem dX2_play_62 : decode cX2_play 62 = .ok (.istore 6, 2) := by decide +kernel
theorem dX2_play_64 : decode cX2_play 64 = .ok (.aload_n 0, 1) := by decide +kernel
theorem dX2_play_65 : decode cX2_play 65 = .ok (.getfield 12, 3) := by decide +kernel
theorem dX2_play_68 : decode cX2_play 68 = .ok (.iload 6, 2) := by decide +kernel
theorem dX2_play_70 : decode cX2_play 70 = .ok (.bipush 48, 2) := by decide +kernel
theorem dX2_play_72 : decode cX2_play 72 = .ok (.isub, 1) := by decide +kernel
theorem dX2_play_73 : decode cX2_play 73 = .ok (.invokevirtual 44, 3) := by decide +kernel
theorem dX2_play_76 : decode cX2_play 76 = .ok (.ifCond .eq 13, 3) := by decide +kernel
theorem dX2_play_79 : decode cX2_play 79 = .ok (.iload 6, 2) := by decide +kernel
theorem dX2_play_81 : decode cX2_play 81 = .ok (.bipush 48, 2) := by decide +kernel
theorem dX2_play_83 : decode cX2_play 83 = .ok (.isub, 1) := by decide +kernel
theorem dX2_play_84 : decode cX2_play 84 = .ok (.istore 4, 2) := by decide +kernel
theorem dX2_play_86 : decode cX2_play 86 = .ok (.goto 12, 3) := by decide +kernel
theorem dX2_play_89 : decode cX2_play 89 = .ok (.aload_n 0, 1) := by decide +kernel
theorem dX2_play_90 : decode cX2_play 90 = .ok (.iload 6, 2) := by decide +kernel
theorem dX2_play_92 : decode cX2_play 92 = .ok (.iload 4, 2) := by decide +kernel
theorem dX2_play_94 : decode cX2_play 94 = .ok (.aload_n 3, 1) := by decide +kernel
theorem dX2_play_95 : decode cX2_play 95 = .ok (.invokevirtual 48, 3) := by decide +kernel
theorem dX2_play_98 : decode cX2_play 98 = .ok (.iinc 5 1, 3) := by decide +kernel
theorem dX2_play_101 : decode cX2_play 101 = .ok (.goto (-64), 3) := by decide +kernel
theorem dX2_play_104 : decode cX2_play 104 = .ok (.return_, 1) := by decide +kernel
set_option maxRecDepth 20000 in
theorem ggX2_playPart_X2_reasonAgainst : GoodIn wsX2_playPart wsX2_reasonAgainst := goodIn_r _ [10, 5, 11, 12, 13, 14, 15, 16, 17, 18, 19, 20, 21, 22, 23, 24, 25, 26, 27, 28, 29, 30, 31, 32, 33, 92, 93, 94, 95, 96, 97, 98, 99, 100, 101, 102, 103, 104, 105, 106, 107, 108, 109, 110, 111, 112] (by decide +kernel) (by decide +kernel)
set_option maxRecDepth 20000 in
theorem gX2_playPart_X2_reasonAgainst : GoodIn wsX2_playPart (wsV RX2 52 RX2 yX2_reasonAgainst wsX2_reasonAgainst) := goodIn_app (goodIn_of _ (by decide +kernel)) ggX2_playPart_X2_reasonAgainst
set_option maxRecDepth 20000 in
theorem ggX2_playPart_X2_act : GoodIn wsX2_playPart wsX2_act := goodIn_r _ [37, 5, 38, 39, 40, 14, 41, 42, 16, 43, 44, 45, 46, 47, 48, 49, 50, 51, 52, 53, 54, 55, 56, 57, 58, 59, 60, 61, 62, 63, 64, 65, 66, 67, 12, 13, 15, 68, 69, 70, 20, 71, 72, 73, 74, 75, 76, 77, 78, 79, 80, 81, 82, 30, 31, 32, 33, 92, 93, 94, 95, 96, 97, 98, 99, 100, 101, 102, 103, 104, 105, 106, 107, 108, 109, 110, 111, 112] (by decide +kernel) (by decide +kernel)
set_option maxRecDepth 20000 in
theorem gX2_playPart_X2_act : GoodIn wsX2_playPart (wsV RX2 56 RX2 yX2_act wsX2_act) := goodIn_app (goodIn_of _ (by decide +kernel)) ggX2_playPart_X2_act
set_option maxRecDepth 20000 in
theorem ggX2_playPart_X3_hasBadNeighbours : GoodIn wsX2_playPart wsX3_hasBadNeighbours := goodIn_r _ [86, 42, 16, 64, 52, 53, 14, 54, 87, 88, 89, 20, 90, 91, 97, 98, 99, 100, 101, 102, 103, 104, 105, 106, 107, 108, 109, 110, 111, 112] (by decide +kernel) (by decide +kernel)
set_option maxRecDepth 20000 in
theorem gX2_playPart_X3_hasBadNeighbours : GoodIn wsX2_playPart (wsV RX2 59 RX3 yX3_hasBadNeighbours wsX3_hasBadNeighbours) := goodIn_app (goodIn_of _ (by decide +kernel)) ggX2_playPart_X3_hasBadNeighbours
theorem dX2_playPart_0 : decode cX2_playPart 0 = .ok (.aload_n 0, 1) := by decide +kernel
theorem dX2_playPart_1 : decode cX2_playPart 1 = .ok (.aload_n 0, 1) := by decide +kernel
theorem dX2_playPart_2 : decode cX2_playPart 2 = .ok (.iload_n 1, 1) := by decide +kernel
theorem dX2_playPart_3 : decode cX2_playPart 3 = .ok (.iload_n 2, 1) := by decide +kernel
theorem dX2_playPart_4 : decode cX2_playPart 4 = .ok (.aload_n 3, 1) := by decide +kernel
theorem dX2_playPart_5 : decode cX2_playPart 5 = .ok (.invokevirtual 52, 3) := by decide +kernel
theorem dX2_playPart_8 : decode cX2_playPart 8 = .ok (.putfield 29, 3) := by decide +kernel
theorem dX2_playPart_11 : decode cX2_playPart 11 = .ok (.aload_n 0, 1) := by decide +kernel
theorem dX2_playPart_12 : decode cX2_playPart 12 = .ok (.getfield 29, 3) := by decide +kernel
theorem dX2_playPart_15 : decode cX2_playPart 15 = .ok (.bipush (-6), 2) := by decide +kernel
theorem dX2_playPart_17 : decode cX2_playPart 17 = .ok (.if_icmp .eq 12, 3) := by decide +kernel
theorem dX2_playPart_20 : decode cX2_playPart 20 = .ok (.aload_n 0, 1) := by decide +kernel
theorem dX2_playPart_21 : decode cX2_playPart 21 = .ok (.aload_n 0, 1) := by decide +kernel
theorem dX2_playPart_22 : decode cX2_playPart 22 = .ok (.getfield 22, 3) := by decide +kernel
theorem dX2_playPart_25 : decode cX2_playPart 25 = .ok (.putfield 26, 3) := by decide +kernel
theorem dX2_playPart_28 : decode cX2_playPart 28 = .ok (.return_, 1) := by decide +kernel
theorem dX2_playPart_29 : decode cX2_playPart 29 = .ok (.aload_n 0, 1) := by decide +kernel
theorem dX2_playPart_30 : decode cX2_playPart 30 = .ok (.iload_n 1, 1) := by decide +kernel
theorem dX2_playPart_31 : decode cX2_playPart 31 = .ok (.iload_n 2, 1) := by decide +kernel
theorem dX2_playPart_32 : decode cX2_playPart 32 = .ok (.aload_n 3, 1) := by decide +kernel
theorem dX2_playPart_33 : decode cX2_playPart 33 = .ok (.invokevirtual 56, 3) := by decide +kernel
theorem dX2_playPart_36 : decode cX2_playPart 36 = .ok (.aload_n 0, 1) := by decide +kernel
theorem dX2_playPart_37 : decode cX2_playPart 37 = .ok (.getfield 32, 3) := by decide +kernel
theorem dX2_playPart_40 : decode cX2_playPart 40 = .ok (.bipush (-6), 2) := by decide +kernel
theorem dX2_playPart_42 : decode cX2_playPart 42 = .ok (.if_icmp .ne 22, 3) := by decide +kernel
theorem dX2_playPart_45 : decode cX2_playPart 45 = .ok (.aload_n 0, 1) := by decide +kernel
theorem dX2_playPart_46 : decode cX2_playPart 46 = .ok (.getfield 12, 3) := by decide +kernel
theorem dX2_playPart_49 : decode cX2_playPart 49 = .ok (.aload_n 3, 1) := by decide +kernel
theorem dX2_playPart_50 : decode cX2_playPart 50 = .ok (.invokevirtual 59, 3) := by decide +kernel
theorem dX2_playPart_53 : decode cX2_playPart 53 = .ok (.ifCond .eq 11, 3) := by decide +kernel
theorem dX2_playPart_56 : decode cX2_playPart 56 = .ok (.aload_n 0, 1) := by decide +kernel
theorem dX2_playPart_57 : decode cX2_playPart 57 = .ok (.aload_n 0, 1) := by decide +kernel
theorem dX2_playPart_58 : decode cX2_playPart 58 = .ok (.getfield 22, 3) := by decide +kernel
theorem dX2_playPart_61 : decode cX2_playPart 61 = .ok (.putfield 32, 3) := by decide +kernel
theorem dX2_playPart_64 : decode cX2_playPart 64 = .ok (.aload_n 0, 1) := by decide +kernel
theorem dX2_playPart_65 : decode cX2_playPart 65 = .ok (.dup, 1) := by decide +kernel
theorem dX2_playPart_66 : decode cX2_playPart 66 = .ok (.getfield 22, 3) := by decide +kernel
theorem dX2_playPart_69 : decode cX2_playPart 69 = .ok (.iconst 1, 1) := by decide +kernel
theorem dX2_playPart_70 : decode cX2_playPart 70 = .ok (.iadd, 1) := by decide +kernel
theorem dX2_playPart_71 : decode cX2_playPart 71 = .ok (.putfield 22, 3) := by decide +kernel
theorem dX2_playPart_74 : decode cX2_playPart 74 = .ok (.return_, 1) := by decide +kernel
set_option maxRecDepth 20000 in
theorem ggX2_reasonAgainst_X3_isEmpty : GoodIn wsX2_reasonAgainst wsX3_isEmpty := goodIn_r _ [6, 7, 30, 31, 32, 33, 34, 35, 36, 37, 38, 39, 40] (by decide +kernel) (by decide +kernel)
set_option maxRecDepth 20000 in
theorem gX2_reasonAgainst_X3_isEmpty : GoodIn wsX2_reasonAgainst (wsV RX2 63 RX3 yX3_isEmpty wsX3_isEmpty) := goodIn_app (goodIn_of _ (by decide +kernel)) ggX2_reasonAgainst_X3_isEmpty
set_option maxRecDepth 20000 in
theorem ggX2_reasonAgainst_X6_has : GoodIn wsX2_reasonAgainst wsX6_has := goodIn_r _ [12, 13, 14, 15, 16, 17, 18, 19, 41, 42, 43, 44, 45] (by decide +kernel) (by decide +kernel)
set_option maxRecDepth 20000 in
theorem gX2_reasonAgainst_X6_has : GoodIn wsX2_reasonAgainst (wsV RX2 66 RX6 yX6_has wsX6_has) := goodIn_app (goodIn_of _ (by decide +kernel)) ggX2_reasonAgainst_X6_has
set_option maxRecDepth 20000 in
theorem ggX2_reasonAgainst_X3_isFull : GoodIn wsX2_reasonAgainst wsX3_isFull := goodIn_r _ [23, 7, 24, 30, 31, 32, 33, 34, 35, 36, 37, 38, 39, 40] (by decide +kernel) (by decide +kernel)
set_option maxRecDepth 20000 in
theorem gX2_reasonAgainst_X3_isFull : GoodIn wsX2_reasonAgainst (wsV RX2 71 RX3 yX3_isFull wsX3_isFull) := goodIn_app (goodIn_of _ (by decide +kernel)) ggX2_reasonAgainst_X3_isFull
theorem dX2_reasonAgainst_0 : decode cX2_reasonAgainst 0 = .ok (.iload_n 1, 1) := by decide +kernel
theorem dX2_reasonAgainst_1 : decode cX2_reasonAgainst 1 = .ok (.bipush 46, 2) := by decide +kernel
theorem dX2_reasonAgainst_3 : decode cX2_reasonAgainst 3 = .ok (.if_icmp .eq 9, 3) := by decide +kernel
theorem dX2_reasonAgainst_6 : decode cX2_reasonAgainst 6 = .ok (.iload_n 1, 1) := by decide +kernel
theorem dX2_reasonAgainst_7 : decode cX2_reasonAgainst 7 = .ok (.bipush 58, 2) := by decide +kernel
theorem dX2_reasonAgainst_9 : decode cX2_reasonAgainst 9 = .ok (.if_icmp .ne 6, 3) := by decide +kernel
theorem dX2_reasonAgainst_12 : decode cX2_reasonAgainst 12 = .ok (.bipush (-6), 2) := by decide +kernel
theorem dX2_reasonAgainst_14 : decode cX2_reasonAgainst 14 = .ok (.ireturn, 1) := by decide +kernel
theorem dX2_reasonAgainst_15 : decode cX2_reasonAgainst 15 = .ok (.iload_n 1, 1) := by decide +kernel
theorem dX2_reasonAgainst_16 : decode cX2_reasonAgainst 16 = .ok (.bipush 45, 2) := by decide +kernel
theorem dX2_reasonAgainst_18 : decode cX2_reasonAgainst 18 = .ok (.if_icmp .ne 21, 3) := by decide +kernel
theorem dX2_reasonAgainst_21 : decode cX2_reasonAgainst 21 = .ok (.aload_n 0, 1) := by decide +kernel
theorem dX2_reasonAgainst_22 : decode cX2_reasonAgainst 22 = .ok (.getfield 12, 3) := by decide +kernel
theorem dX2_reasonAgainst_25 : decode cX2_reasonAgainst 25 = .ok (.iload_n 2, 1) := by decide +kernel
theorem dX2_reasonAgainst_26 : decode cX2_reasonAgainst 26 = .ok (.invokevirtual 63, 3) := by decide +kernel
theorem dX2_reasonAgainst_29 : decode cX2_reasonAgainst 29 = .ok (.ifCond .eq 7, 3) := by decide +kernel
theorem dX2_reasonAgainst_32 : decode cX2_reasonAgainst 32 = .ok (.iconst 3, 1) := by decide +kernel
theorem dX2_reasonAgainst_33 : decode cX2_reasonAgainst 33 = .ok (.goto 5, 3) := by decide +kernel
theorem dX2_reasonAgainst_36 : decode cX2_reasonAgainst 36 = .ok (.bipush (-6), 2) := by decide +kernel
theorem dX2_reasonAgainst_38 : decode cX2_reasonAgainst 38 = .ok (.ireturn, 1) := by decide +kernel
theorem dX2_reasonAgainst_39 : decode cX2_reasonAgainst 39 = .ok (.aload_n 3, 1) := by decide +kernel
theorem dX2_reasonAgainst_40 : decode cX2_reasonAgainst 40 = .ok (.iload_n 1, 1) := by decide +kernel
theorem dX2_reasonAgainst_41 : decode cX2_reasonAgainst 41 = .ok (.bipush 97, 2) := by decide +kernel
theorem dX2_reasonAgainst_43 : decode cX2_reasonAgainst 43 = .ok (.isub, 1) := by decide +kernel
theorem dX2_reasonAgainst_44 : decode cX2_reasonAgainst 44 = .ok (.invokevirtual 66, 3) := by decide +kernel
theorem dX2_reasonAgainst_47 : decode cX2_reasonAgainst 47 = .ok (.ifCond .ne 5, 3) := by decide +kernel
theorem dX2_reasonAgainst_50 : decode cX2_reasonAgainst 50 = .ok (.iconst 1, 1) := by decide +kernel
theorem dX2_reasonAgainst_51 : decode cX2_reasonAgainst 51 = .ok (.ireturn, 1) := by decide +kernel
theorem dX2_reasonAgainst_52 : decode cX2_reasonAgainst 52 = .ok (.aload_n 0, 1) := by decide +kernel
theorem dX2_reasonAgainst_53 : decode cX2_reasonAgainst 53 = .ok (.getfield 12, 3) := by decide +kernel
theorem dX2_reasonAgainst_56 : decode cX2_reasonAgainst 56 = .ok (.iload_n 2, 1) := by decide +kernel
theorem dX2_reasonAgainst_57 : decode cX2_reasonAgainst 57 = .ok (.invokevirtual 71, 3) := by decide +kernel
theorem dX2_reasonAgainst_60 : decode cX2_reasonAgainst 60 = .ok (.ifCond .eq 7, 3) := by decide +kernel
theorem dX2_reasonAgainst_63 : decode cX2_reasonAgainst 63 = .ok (.iconst 2, 1) := by decide +kernel
theorem dX2_reasonAgainst_64 : decode cX2_reasonAgainst 64 = .ok (.goto 5, 3) := by decide +kernel
theorem dX2_reasonAgainst_67 : decode cX2_reasonAgainst 67 = .ok (.bipush (-6), 2) := by decide +kernel
theorem dX2_reasonAgainst_69 : decode cX2_reasonAgainst 69 = .ok (.ireturn, 1) := by decide +kernel
set_option maxRecDepth 20000 in
theorem ggX2_act_X3_bakeMinute : GoodIn wsX2_act wsX3_bakeMinute := goodIn_r _ [6, 7, 8, 9, 10, 11, 12, 13, 14, 15, 16, 17, 18, 19, 5, 20, 21, 22, 23, 24, 25, 62, 63, 64, 65, 66, 67, 68, 69, 70, 71, 72] (by decide +kernel) (by decide +kernel)
set_option maxRecDepth 20000 in
theorem gX2_act_X3_bakeMinute : GoodIn wsX2_act (wsV RX2 74 RX3 yX3_bakeMinute wsX3_bakeMinute) := goodIn_app (goodIn_of _ (by decide +kernel)) ggX2_act_X3_bakeMinute
set_option maxRecDepth 20000 in
theorem ggX2_act_X3_takeFrom : GoodIn wsX2_act wsX3_takeFrom := goodIn_r _ [29, 8, 30, 9, 31, 32, 16, 33, 34, 35, 5, 36, 18, 19, 20, 37, 38, 39, 40, 41, 42, 43, 44, 45, 46, 47, 62, 63, 64, 65, 66, 67, 68, 69, 70, 71, 72, 73, 74, 75, 76, 77] (by decide +kernel) (by decide +kernel)
set_option maxRecDepth 20000 in
theorem gX2_act_X3_takeFrom : GoodIn wsX2_act (wsV RX2 77 RX3 yX3_takeFrom wsX3_takeFrom) := goodIn_app (goodIn_of _ (by decide +kernel)) ggX2_act_X3_takeFrom
set_option maxRecDepth 20000 in
theorem ggX2_act_X3_putIn : GoodIn wsX2_act wsX3_putIn := goodIn_r _ [51, 8, 30, 9, 16, 52, 53, 54, 5, 55, 56, 18, 19, 20, 62, 63, 64, 65, 66, 67, 68, 69, 70, 71, 72] (by decide +kernel) (by decide +kernel)
set_option maxRecDepth 20000 in
theorem gX2_act_X3_putIn : GoodIn wsX2_act (wsV RX2 81 RX3 yX3_putIn wsX3_putIn) := goodIn_app (goodIn_of _ (by decide +kernel)) ggX2_act_X3_putIn
theorem dX2_act_0 : decode cX2_act 0 = .ok (.iload_n 1, 1) := by decide +kernel
theorem dX2_act_1 : decode cX2_act 1 = .ok (.bipush 46, 2) := by decide +kernel
theorem dX2_act_3 : decode cX2_act 3 = .ok (.if_icmp .eq 9, 3) := by decide +kernel
theorem dX2_act_6 : decode cX2_act 6 = .ok (.iload_n 1, 1) := by decide +kernel
theorem dX2_act_7 : decode cX2_act 7 = .ok (.bipush 58, 2) := by decide +kernel
theorem dX2_act_9 : decode cX2_act 9 = .ok (.if_icmp .ne 43, 3) := by decide +kernel
theorem dX2_act_12 : decode cX2_act 12 = .ok (.iload_n 1, 1) := by decide +kernel
theorem dX2_act_13 : decode cX2_act 13 = .ok (.bipush 46, 2) := by decide +kernel
theorem dX2_act_15 : decode cX2_act 15 = .ok (.if_icmp .ne 7, 3) := by decide +kernel
theorem dX2_act_18 : decode cX2_act 18 = .ok (.iconst 1, 1) := by decide +kernel
theorem dX2_act_19 : decode cX2_act 19 = .ok (.goto 5, 3) := by decide +kernel
theorem dX2_act_22 : decode cX2_act 22 = .ok (.bipush 10, 2) := by decide +kernel
theorem dX2_act_24 : decode cX2_act 24 = .ok (.istore 4, 2) := by decide +kernel
theorem dX2_act_26 : decode cX2_act 26 = .ok (.iconst 0, 1) := by decide +kernel
theorem dX2_act_27 : decode cX2_act 27 = .ok (.istore 5, 2) := by decide +kernel
theorem dX2_act_29 : decode cX2_act 29 = .ok (.iload 5, 2) := by decide +kernel
theorem dX2_act_31 : decode cX2_act 31 = .ok (.iload 4, 2) := by decide +kernel
theorem dX2_act_33 : decode cX2_act 33 = .ok (.if_icmp .ge 16, 3) := by decide +kernel
theorem dX2_act_36 : decode cX2_act 36 = .ok (.aload_n 0, 1) := by decide +kernel
theorem dX2_act_37 : decode cX2_act 37 = .ok (.getfield 12, 3) := by decide +kernel
theorem dX2_act_40 : decode cX2_act 40 = .ok (.invokevirtual 74, 3) := by decide +kernel
theorem dX2_act_43 : decode cX2_act 43 = .ok (.iinc 5 1, 3) := by decide +kernel
theorem dX2_act_46 : decode cX2_act 46 = .ok (.goto (-17), 3) := by decide +kernel
theorem dX2_act_49 : decode cX2_act 49 = .ok (.goto 33, 3) := by decide +kernel
theorem dX2_act_52 : decode cX2_act 52 = .ok (.iload_n 1, 1) := by decide +kernel
theorem dX2_act_53 : decode cX2_act 53 = .ok (.bipush 45, 2) := by decide +kernel
theorem dX2_act_55 : decode cX2_act 55 = .ok (.if_icmp .ne 15, 3) := by decide +kernel
theorem dX2_act_58 : decode cX2_act 58 = .ok (.aload_n 0, 1) := by decide +kernel
theorem dX2_act_59 : decode cX2_act 59 = .ok (.getfield 12, 3) := by decide +kernel
theorem dX2_act_62 : decode cX2_act 62 = .ok (.iload_n 2, 1) := by decide +kernel
theorem dX2_act_63 : decode cX2_act 63 = .ok (.aload_n 3, 1) := by decide +kernel
theorem dX2_act_64 : decode cX2_act 64 = .ok (.invokevirtual 77, 3) := by decide +kernel
theorem dX2_act_67 : decode cX2_act 67 = .ok (.goto 15, 3) := by decide +kernel
theorem dX2_act_70 : decode cX2_act 70 = .ok (.aload_n 0, 1) := by decide +kernel
theorem dX2_act_71 : decode cX2_act 71 = .ok (.getfield 12, 3) := by decide +kernel
theorem dX2_act_74 : decode cX2_act 74 = .ok (.iload_n 2, 1) := by decide +kernel
theorem dX2_act_75 : decode cX2_act 75 = .ok (.iload_n 1, 1) := by decide +kernel
theorem dX2_act_76 : decode cX2_act 76 = .ok (.bipush 97, 2) := by decide +kernel
theorem dX2_act_78 : decode cX2_act 78 = .ok (.isub, 1) := by decide +kernel
theorem dX2_act_79 : decode cX2_act 79 = .ok (.invokevirtual 81, 3) := by decide +kernel
theorem dX2_act_82 : decode cX2_act 82 = .ok (.return_, 1) := by decide +kernel
theorem dX3_init_0 : decode cX3_init 0 = .ok (.aload_n 0, 1) := by decide +kernel
theorem dX3_init_1 : decode cX3_init 1 = .ok (.invokespecial 3, 3) := by decide +kernel
theorem dX3_init_4 : decode cX3_init 4 = .ok (.aload_n 0, 1) := by decide +kernel
theorem dX3_init_5 : decode cX3_init 5 = .ok (.iconst 2, 1) := by decide +kernel
theorem dX3_init_6 : decode cX3_init 6 = .ok (.putfield 9, 3) := by decide +kernel
theorem dX3_init_9 : decode cX3_init 9 = .ok (.aload_n 0, 1) := by decide +kernel
theorem dX3_init_10 : decode cX3_init 10 = .ok (.iconst 4, 1) := by decide +kernel
theorem dX3_init_11 : decode cX3_init 11 = .ok (.putfield 15, 3) := by decide +kernel
theorem dX3_init_14 : decode cX3_init 14 = .ok (.aload_n 0, 1) := by decide +kernel
theorem dX3_init_15 : decode cX3_init 15 = .ok (.bipush 30, 2) := by decide +kernel
theorem dX3_init_17 : decode cX3_init 17 = .ok (.putfield 18, 3) := by decide +kernel
theorem dX3_init_20 : decode cX3_init 20 = .ok (.aload_n 0, 1) := by decide +kernel
theorem dX3_init_21 : decode cX3_init 21 = .ok (.iconst 1, 1) := by decide +kernel
theorem dX3_init_22 : decode cX3_init 22 = .ok (.putfield 21, 3) := by decide +kernel
theorem dX3_init_25 : decode cX3_init 25 = .ok (.aload_n 0, 1) := by decide +kernel
theorem dX3_init_26 : decode cX3_init 26 = .ok (.iconst 2, 1) := by decide +kernel
theorem dX3_init_27 : decode cX3_init 27 = .ok (.putfield 24, 3) := by decide +kernel
theorem dX3_init_30 : decode cX3_init 30 = .ok (.aload_n 0, 1) := by decide +kernel
theorem dX3_init_31 : decode cX3_init 31 = .ok (.bipush 6, 2) := by decide +kernel
theorem dX3_init_33 : decode cX3_init 33 = .ok (.newarray .int, 2) := by decide +kernel
theorem dX3_init_35 : decode cX3_init 35 = .ok (.putfield 27, 3) := by decide +kernel
theorem dX3_init_38 : decode cX3_init 38 = .ok (.aload_n 0, 1) := by decide +kernel
theorem dX3_init_39 : decode cX3_init 39 = .ok (.iconst 4, 1) := by decide +kernel
theorem dX3_init_40 : decode cX3_init 40 = .ok (.newarray .int, 2) := by decide +kernel
theorem dX3_init_42 : decode cX3_init 42 = .ok (.putfield 31, 3) := by decide +kernel
theorem dX3_init_45 : decode cX3_init 45 = .ok (.aload_n 0, 1) := by decide +kernel
theorem dX3_init_46 : decode cX3_init 46 = .ok (.bipush 24, 2) := by decide +kernel
theorem dX3_init_48 : decode cX3_init 48 = .ok (.newarray .int, 2) := by decide +kernel
theorem dX3_init_50 : decode cX3_init 50 = .ok (.putfield 34, 3) := by decide +kernel
theorem dX3_init_53 : decode cX3_init 53 = .ok (.aload_n 0, 1) := by decide +kernel
theorem dX3_init_54 : decode cX3_init 54 = .ok (.bipush 24, 2) := by decide +kernel
theorem dX3_init_56 : decode cX3_init 56 = .ok (.newarray .int, 2) := by decide +kernel
theorem dX3_init_58 : decode cX3_init 58 = .ok (.putfield 37, 3) := by decide +kernel
theorem dX3_init_61 : decode cX3_init 61 = .ok (.aload_n 0, 1) := by decide +kernel
theorem dX3_init_62 : decode cX3_init 62 = .ok (.iconst 4, 1) := by decide +kernel
theorem dX3_init_63 : decode cX3_init 63 = .ok (.newarray .int, 2) := by decide +kernel
theorem dX3_init_65 : decode cX3_init 65 = .ok (.putfield 40, 3) := by decide +kernel
theorem dX3_init_68 : decode cX3_init 68 = .ok (.return_, 1) := by decide +kernel
theorem dX3_copyFrom_0 : decode cX3_copyFrom 0 = .ok (.aload_n 0, 1) := by decide +kernel
theorem dX3_copyFrom_1 : decode cX3_copyFrom 1 = .ok (.aload_n 1, 1) := by decide +kernel
theorem dX3_copyFrom_2 : decode cX3_copyFrom 2 = .ok (.getfield 9, 3) := by decide +kernel
theorem dX3_copyFrom_5 : decode cX3_copyFrom 5 = .ok (.putfield 9, 3) := by decide +kernel
theorem dX3_copyFrom_8 : decode cX3_copyFrom 8 = .ok (.aload_n 0, 1) := by decide +kernel
theorem dX3_copyFrom_9 : decode cX3_copyFrom 9 = .ok (.aload_n 1, 1) := by decide +kernel
theorem dX3_copyFrom_10 : decode cX3_copyFrom 10 = .ok (.getfield 15, 3) := by decide +kernel
theorem dX3_copyFrom_13 : decode cX3_copyFrom 13 = .ok (.putfield 15, 3) := by decide +kernel
theorem dX3_copyFrom_16 : decode cX3_copyFrom 16 = .ok (.aload_n 0, 1) := by decide +kernel
theorem dX3_copyFrom_17 : decode cX3_copyFrom 17 = .ok (.aload_n 1, 1) := by decide +kernel
theorem dX3_copyFrom_18 : decode cX3_copyFrom 18 = .ok (.getfield 18, 3) := by decide +kernel
theorem dX3_copyFrom_21 : decode cX3_copyFrom 21 = .ok (.putfield 18, 3) := by decide +kernel
theorem dX3_copyFrom_24 : decode cX3_copyFrom 24 = .ok (.aload_n 0, 1) := by decide +kernel
theorem dX3_copyFrom_25 : decode cX3_copyFrom 25 = .ok (.aload_n 1, 1) := by decide +kernel
theorem dX3_copyFrom_26 : decode cX3_copyFrom 26 = .ok (.getfield 21, 3) := by decide +kernel
theorem dX3_copyFrom_29 : decode cX3_copyFrom 29 = .ok (.putfield 21, 3) := by decide +kernel
theorem dX3_copyFrom_32 : decode cX3_copyFrom 32 = .ok (.aload_n 0, 1) := by decide +kernel
theorem dX3_copyFrom_33 : decode cX3_copyFrom 33 = .ok (.aload_n 1, 1) := by decide +kernel
theorem dX3_copyFrom_34 : decode cX3_copyFrom 34 = .ok (.getfield 24, 3) := by decide +kernel
theorem dX3_copyFrom_37 : decode cX3_copyFrom 37 = .ok (.putfield 24, 3) := by decide +kernel
theorem dX3_copyFrom_40 : decode cX3_copyFrom 40 = .ok (.aload_n 0, 1) := by decide +kernel
theorem dX3_copyFrom_41 : decode cX3_copyFrom 41 = .ok (.aload_n 1, 1) := by decide +kernel
theorem dX3_copyFrom_42 : decode cX3_copyFrom 42 = .ok (.getfield 43, 3) := by decide +kernel
theorem dX3_copyFrom_45 : decode cX3_copyFrom 45 = .ok (.putfield 43, 3) := by decide +kernel
theorem dX3_copyFrom_48 : decode cX3_copyFrom 48 = .ok (.aload_n 1, 1) := by decide +kernel
theorem dX3_copyFrom_49 : decode cX3_copyFrom 49 = .ok (.getfield 27, 3) := by decide +kernel
theorem dX3_copyFrom_52 : decode cX3_copyFrom 52 = .ok (.iconst 0, 1) := by decide +kernel
theorem dX3_copyFrom_53 : decode cX3_copyFrom 53 = .ok (.aload_n 0, 1) := by decide +kernel
theorem dX3_copyFrom_54 : decode cX3_copyFrom 54 = .ok (.getfield 27, 3) := by decide +kernel
theorem dX3_copyFrom_57 : decode cX3_copyFrom 57 = .ok (.iconst 0, 1) := by decide +kernel
theorem dX3_copyFrom_58 : decode cX3_copyFrom 58 = .ok (.bipush 6, 2) := by decide +kernel
theorem dX3_copyFrom_60 : decode cX3_copyFrom 60 = .ok (.invokestatic 47, 3) := by decide +kernel
theorem dX3_copyFrom_63 : decode cX3_copyFrom 63 = .ok (.aload_n 1, 1) := by decide +kernel
theorem dX3_copyFrom_64 : decode cX3_copyFrom 64 = .ok (.getfield 31, 3) := by decide +kernel
theorem dX3_copyFrom_67 : decode cX3_copyFrom 67 = .ok (.iconst 0, 1) := by decide +kernel
theorem dX3_copyFrom_68 : decode cX3_copyFrom 68 = .ok (.aload_n 0, 1) := by decide +kernel
theorem dX3_copyFrom_69 : decode cX3_copyFrom 69 = .ok (.getfield 31, 3) := by decide +kernel
theorem dX3_copyFrom_72 : decode cX3_copyFrom 72 = .ok (.iconst 0, 1) := by decide +kernel
theorem dX3_copyFrom_73 : decode cX3_copyFrom 73 = .ok (.iconst 4, 1) := by decide +kernel
theorem dX3_copyFrom_74 : decode cX3_copyFrom 74 = .ok (.invokestatic 47, 3) := by decide +kernel
theorem dX3_copyFrom_77 : decode cX3_copyFrom 77 = .ok (.aload_n 1, 1) := by decide +kernel
theorem dX3_copyFrom_78 : decode cX3_copyFrom 78 = .ok (.getfield 34, 3) := by decide +kernel
theorem dX3_copyFrom_81 : decode cX3_copyFrom 81 = .ok (.iconst 0, 1) := by decide +kernel
theorem dX3_copyFrom_82 : decode cX3_copyFrom 82 = .ok (.aload_n 0, 1) := by decide +kernel
theorem dX3_copyFrom_83 : decode cX3_copyFrom 83 = .ok (.getfield 34, 3) := by decide +kernel
theorem dX3_copyFrom_86 : decode cX3_copyFrom 86 = .ok (.iconst 0, 1) := by decide +kernel
theorem dX3_copyFrom_87 : decode cX3_copyFrom 87 = .ok (.bipush 24, 2) := by decide +kernel
theorem dX3_copyFrom_89 : decode cX3_copyFrom 89 = .ok (.invokestatic 47, 3) := by decide +kernel
theorem dX3_copyFrom_92 : decode cX3_copyFrom 92 = .ok (.aload_n 1, 1) := by decide +kernel
theorem dX3_copyFrom_93 : decode cX3_copyFrom 93 = .ok (.getfield 37, 3) := by decide +kernel
theorem dX3_copyFrom_96 : decode cX3_copyFrom 96 = .ok (.iconst 0, 1) := by decide +kernel
theorem dX3_copyFrom_97 : decode cX3_copyFrom 97 = .ok (.aload_n 0, 1) := by decide +kernel
theorem dX3_copyFrom_98 : decode cX3_copyFrom 98 = .ok (.getfield 37, 3) := by decide +kernel
theorem dX3_copyFrom_101 : decode cX3_copyFrom 101 = .ok (.iconst 0, 1) := by decide +kernel
theorem dX3_copyFrom_102 : decode cX3_copyFrom 102 = .ok (.bipush 24, 2) := by decide +kernel
theorem dX3_copyFrom_104 : decode cX3_copyFrom 104 = .ok (.invokestatic 47, 3) := by decide +kernel
theorem dX3_copyFrom_107 : decode cX3_copyFrom 107 = .ok (.aload_n 1, 1) := by decide +kernel
theorem dX3_copyFrom_108 : decode cX3_copyFrom 108 = .ok (.getfield 40, 3) := by decide +kernel
theorem dX3_copyFrom_111 : decode cX3_copyFrom 111 = .ok (.iconst 0, 1) := by decide +kernel
theorem dX3_copyFrom_112 : decode cX3_copyFrom 112 = .ok (.aload_n 0, 1) := by decide +kernel
theorem dX3_copyFrom_113 : decode cX3_copyFrom 113 = .ok (.getfield 40, 3) := by decide +kernel
theorem dX3_copyFrom_116 : decode cX3_copyFrom 116 = .ok (.iconst 0, 1) := by decide +kernel
theorem dX3_copyFrom_117 : decode cX3_copyFrom 117 = .ok (.iconst 4, 1) := by decide +kernel
theorem dX3_copyFrom_118 : decode cX3_copyFrom 118 = .ok (.invokestatic 47, 3) := by decide +kernel
theorem dX3_copyFrom_121 : decode cX3_copyFrom 121 = .ok (.return_, 1) := by decide +kernel
set_option maxRecDepth 20000 in
theorem ggX3_rebuild_J7_fill_53178 : GoodIn wsX3_rebuild wsJ7_fill_53178 := goodIn_r _ [10] (by decide +kernel) (by decide +kernel)
set_option maxRecDepth 20000 in
theorem gX3_rebuild_J7_fill_53178 : GoodIn wsX3_rebuild (va_wsS RX3 53 yJ7_fill_53178 wsJ7_fill_53178) := goodIn_app (goodIn_of _ (by decide +kernel)) ggX3_rebuild_J7_fill_53178
theorem dX3_rebuild_0 : decode cX3_rebuild 0 = .ok (.aload_n 0, 1) := by decide +kernel
theorem dX3_rebuild_1 : decode cX3_rebuild 1 = .ok (.iload_n 1, 1) := by decide +kernel
theorem dX3_rebuild_2 : decode cX3_rebuild 2 = .ok (.putfield 9, 3) := by decide +kernel
theorem dX3_rebuild_5 : decode cX3_rebuild 5 = .ok (.aload_n 0, 1) := by decide +kernel
theorem dX3_rebuild_6 : decode cX3_rebuild 6 = .ok (.iload_n 2, 1) := by decide +kernel
theorem dX3_rebuild_7 : decode cX3_rebuild 7 = .ok (.putfield 15, 3) := by decide +kernel
theorem dX3_rebuild_10 : decode cX3_rebuild 10 = .ok (.aload_n 0, 1) := by decide +kernel
theorem dX3_rebuild_11 : decode cX3_rebuild 11 = .ok (.iconst 0, 1) := by decide +kernel
theorem dX3_rebuild_12 : decode cX3_rebuild 12 = .ok (.putfield 43, 3) := by decide +kernel
theorem dX3_rebuild_15 : decode cX3_rebuild 15 = .ok (.aload_n 0, 1) := by decide +kernel
theorem dX3_rebuild_16 : decode cX3_rebuild 16 = .ok (.getfield 27, 3) := by decide +kernel
theorem dX3_rebuild_19 : decode cX3_rebuild 19 = .ok (.iconst 0, 1) := by decide +kernel
theorem dX3_rebuild_20 : decode cX3_rebuild 20 = .ok (.invokestatic 53, 3) := by decide +kernel
theorem dX3_rebuild_23 : decode cX3_rebuild 23 = .ok (.aload_n 0, 1) := by decide +kernel
theorem dX3_rebuild_24 : decode cX3_rebuild 24 = .ok (.getfield 31, 3) := by decide +kernel
theorem dX3_rebuild_27 : decode cX3_rebuild 27 = .ok (.iconst 0, 1) := by decide +kernel
theorem dX3_rebuild_28 : decode cX3_rebuild 28 = .ok (.invokestatic 53, 3) := by decide +kernel
theorem dX3_rebuild_31 : decode cX3_rebuild 31 = .ok (.aload_n 0, 1) := by decide +kernel
theorem dX3_rebuild_32 : decode cX3_rebuild 32 = .ok (.getfield 40, 3) := by decide +kernel
theorem dX3_rebuild_35 : decode cX3_rebuild 35 = .ok (.iconst 0, 1) := by decide +kernel
theorem dX3_rebuild_36 : decode cX3_rebuild 36 = .ok (.invokestatic 53, 3) := by decide +kernel
theorem dX3_rebuild_39 : decode cX3_rebuild 39 = .ok (.return_, 1) := by decide +kernel
set_option maxRecDepth 20000 in
theorem ggX3_hasRow_X7_within : GoodIn wsX3_hasRow wsX7_within := goodIn_r _ [4] (by decide +kernel) (by decide +kernel)
set_option maxRecDepth 20000 in
theorem gX3_hasRow_X7_within_n59 : GoodIn wsX3_hasRow (wsX7_within) := ggX3_hasRow_X7_within
theorem dX3_hasRow_0 : decode cX3_hasRow 0 = .ok (.iload_n 1, 1) := by decide +kernel
theorem dX3_hasRow_1 : decode cX3_hasRow 1 = .ok (.iconst 0, 1) := by decide +kernel
theorem dX3_hasRow_2 : decode cX3_hasRow 2 = .ok (.aload_n 0, 1) := by decide +kernel
theorem dX3_hasRow_3 : decode cX3_hasRow 3 = .ok (.getfield 9, 3) := by decide +kernel
theorem dX3_hasRow_6 : decode cX3_hasRow 6 = .ok (.iconst 1, 1) := by decide +kernel
theorem dX3_hasRow_7 : decode cX3_hasRow 7 = .ok (.isub, 1) := by decide +kernel
theorem dX3_hasRow_8 : decode cX3_hasRow 8 = .ok (.invokestatic 59, 3) := by decide +kernel
theorem dX3_hasRow_11 : decode cX3_hasRow 11 = .ok (.ireturn, 1) := by decide +kernel
set_option maxRecDepth 20000 in
theorem ggX3_hasPlace_X7_within : GoodIn wsX3_hasPlace wsX7_within := goodIn_r _ [4] (by decide +kernel) (by decide +kernel)
set_option maxRecDepth 20000 in
theorem gX3_hasPlace_X7_within_n59 : GoodIn wsX3_hasPlace (wsX7_within) := ggX3_hasPlace_X7_within
theorem dX3_hasPlace_0 : decode cX3_hasPlace 0 = .ok (.iload_n 1, 1) := by decide +kernel
theorem dX3_hasPlace_1 : decode cX3_hasPlace 1 = .ok (.iconst 0, 1) := by decide +kernel
theorem dX3_hasPlace_2 : decode cX3_hasPlace 2 = .ok (.aload_n 0, 1) := by decide +kernel
theorem dX3_hasPlace_3 : decode cX3_hasPlace 3 = .ok (.getfield 15, 3) := by decide +kernel
theorem dX3_hasPlace_6 : decode cX3_hasPlace 6 = .ok (.iconst 1, 1) := by decide +kernel
theorem dX3_hasPlace_7 : decode cX3_hasPlace 7 = .ok (.isub, 1) := by decide +kernel
theorem dX3_hasPlace_8 : decode cX3_hasPlace 8 = .ok (.invokestatic 59, 3) := by decide +kernel
theorem dX3_hasPlace_11 : decode cX3_hasPlace 11 = .ok (.ireturn, 1) := by decide +kernel
theorem dX3_rateAt_0 : decode cX3_rateAt 0 = .ok (.aload_n 0, 1) := by decide +kernel
theorem dX3_rateAt_1 : decode cX3_rateAt 1 = .ok (.getfield 18, 3) := by decide +kernel
theorem dX3_rateAt_4 : decode cX3_rateAt 4 = .ok (.aload_n 0, 1) := by decide +kernel
theorem dX3_rateAt_5 : decode cX3_rateAt 5 = .ok (.getfield 27, 3) := by decide +kernel
theorem dX3_rateAt_8 : decode cX3_rateAt 8 = .ok (.iload_n 1, 1) := by decide +kernel
theorem dX3_rateAt_9 : decode cX3_rateAt 9 = .ok (.iaload, 1) := by decide +kernel
theorem dX3_rateAt_10 : decode cX3_rateAt 10 = .ok (.isub, 1) := by decide +kernel
theorem dX3_rateAt_11 : decode cX3_rateAt 11 = .ok (.ireturn, 1) := by decide +kernel
theorem dX3_cell_0 : decode cX3_cell 0 = .ok (.iload_n 0, 1) := by decide +kernel
theorem dX3_cell_1 : decode cX3_cell 1 = .ok (.bipush 6, 2) := by decide +kernel
theorem dX3_cell_3 : decode cX3_cell 3 = .ok (.imul, 1) := by decide +kernel
theorem dX3_cell_4 : decode cX3_cell 4 = .ok (.iload_n 1, 1) := by decide +kernel
theorem dX3_cell_5 : decode cX3_cell 5 = .ok (.iadd, 1) := by decide +kernel
theorem dX3_cell_6 : decode cX3_cell 6 = .ok (.ireturn, 1) := by decide +kernel
set_option maxRecDepth 20000 in
theorem ggX3_tellCell_X3_cell : GoodIn wsX3_tellCell wsX3_cell := goodIn_r _ [7] (by decide +kernel) (by decide +kernel)
set_option maxRecDepth 20000 in
theorem gX3_tellCell_X3_cell : GoodIn wsX3_tellCell (va_wsS RX3 63 yX3_cell wsX3_cell) := goodIn_app (goodIn_of _ (by decide +kernel)) ggX3_tellCell_X3_cell
theorem dX3_tellCell_0 : decode cX3_tellCell 0 = .ok (.iload_n 2, 1) := by decide +kernel
theorem dX3_tellCell_1 : decode cX3_tellCell 1 = .ok (.aload_n 0, 1) := by decide +kernel
theorem dX3_tellCell_2 : decode cX3_tellCell 2 = .ok (.getfield 31, 3) := by decide +kernel
theorem dX3_tellCell_5 : decode cX3_tellCell 5 = .ok (.iload_n 1, 1) := by decide +kernel
theorem dX3_tellCell_6 : decode cX3_tellCell 6 = .ok (.iaload, 1) := by decide +kernel
theorem dX3_tellCell_7 : decode cX3_tellCell 7 = .ok (.if_icmp .lt 6, 3) := by decide +kernel
theorem dX3_tellCell_10 : decode cX3_tellCell 10 = .ok (.bipush (-6), 2) := by decide +kernel
theorem dX3_tellCell_12 : decode cX3_tellCell 12 = .ok (.ireturn, 1) := by decide +kernel
theorem dX3_tellCell_13 : decode cX3_tellCell 13 = .ok (.iload_n 3, 1) := by decide +kernel
theorem dX3_tellCell_14 : decode cX3_tellCell 14 = .ok (.ifCond .ne 16, 3) := by decide +kernel
theorem dX3_tellCell_17 : decode cX3_tellCell 17 = .ok (.aload_n 0, 1) := by decide +kernel
theorem dX3_tellCell_18 : decode cX3_tellCell 18 = .ok (.getfield 34, 3) := by decide +kernel
theorem dX3_tellCell_21 : decode cX3_tellCell 21 = .ok (.iload_n 1, 1) := by decide +kernel
theorem dX3_tellCell_22 : decode cX3_tellCell 22 = .ok (.iload_n 2, 1) := by decide +kernel
theorem dX3_tellCell_23 : decode cX3_tellCell 23 = .ok (.invokestatic 63, 3) := by decide +kernel
theorem dX3_tellCell_26 : decode cX3_tellCell 26 = .ok (.iaload, 1) := by decide +kernel
theorem dX3_tellCell_27 : decode cX3_tellCell 27 = .ok (.goto 13, 3) := by decide +kernel
theorem dX3_tellCell_30 : decode cX3_tellCell 30 = .ok (.aload_n 0, 1) := by decide +kernel
theorem dX3_tellCell_31 : decode cX3_tellCell 31 = .ok (.getfield 37, 3) := by decide +kernel
theorem dX3_tellCell_34 : decode cX3_tellCell 34 = .ok (.iload_n 1, 1) := by decide +kernel
theorem dX3_tellCell_35 : decode cX3_tellCell 35 = .ok (.iload_n 2, 1) := by decide +kernel
theorem dX3_tellCell_36 : decode cX3_tellCell 36 = .ok (.invokestatic 63, 3) := by decide +kernel
theorem dX3_tellCell_39 : decode cX3_tellCell 39 = .ok (.iaload, 1) := by decide +kernel
theorem dX3_tellCell_40 : decode cX3_tellCell 40 = .ok (.ireturn, 1) := by decide +kernel
theorem dX3_isFull_0 : decode cX3_isFull 0 = .ok (.aload_n 0, 1) := by decide +kernel
theorem dX3_isFull_1 : decode cX3_isFull 1 = .ok (.getfield 31, 3) := by decide +kernel
theorem dX3_isFull_4 : decode cX3_isFull 4 = .ok (.iload_n 1, 1) := by decide +kernel
theorem dX3_isFull_5 : decode cX3_isFull 5 = .ok (.iaload, 1) := by decide +kernel
theorem dX3_isFull_6 : decode cX3_isFull 6 = .ok (.aload_n 0, 1) := by decide +kernel
theorem dX3_isFull_7 : decode cX3_isFull 7 = .ok (.getfield 15, 3) := by decide +kernel
theorem dX3_isFull_10 : decode cX3_isFull 10 = .ok (.if_icmp .lt 7, 3) := by decide +kernel
theorem dX3_isFull_13 : decode cX3_isFull 13 = .ok (.iconst 1, 1) := by decide +kernel
theorem dX3_isFull_14 : decode cX3_isFull 14 = .ok (.goto 4, 3) := by decide +kernel
theorem dX3_isFull_17 : decode cX3_isFull 17 = .ok (.iconst 0, 1) := by decide +kernel
theorem dX3_isFull_18 : decode cX3_isFull 18 = .ok (.ireturn, 1) := by decide +kernel
theorem dX3_isEmpty_0 : decode cX3_isEmpty 0 = .ok (.aload_n 0, 1) := by decide +kernel
theorem dX3_isEmpty_1 : decode cX3_isEmpty 1 = .ok (.getfield 31, 3) := by decide +kernel
theorem dX3_isEmpty_4 : decode cX3_isEmpty 4 = .ok (.iload_n 1, 1) := by decide +kernel
theorem dX3_isEmpty_5 : decode cX3_isEmpty 5 = .ok (.iaload, 1) := by decide +kernel
theorem dX3_isEmpty_6 : decode cX3_isEmpty 6 = .ok (.ifCond .gt 7, 3) := by decide +kernel
theorem dX3_isEmpty_9 : decode cX3_isEmpty 9 = .ok (.iconst 1, 1) := by decide +kernel
theorem dX3_isEmpty_10 : decode cX3_isEmpty 10 = .ok (.goto 4, 3) := by decide +kernel
theorem dX3_isEmpty_13 : decode cX3_isEmpty 13 = .ok (.iconst 0, 1) := by decide +kernel
theorem dX3_isEmpty_14 : decode cX3_isEmpty 14 = .ok (.ireturn, 1) := by decide +kernel
set_option maxRecDepth 20000 in
theorem ggX3_putIn_X3_isFull : GoodIn wsX3_putIn wsX3_isFull := goodIn_r _ [9, 1, 10, 14, 15, 16, 17, 18, 19, 20, 21, 22, 23, 24] (by decide +kernel) (by decide +kernel)
set_option maxRecDepth 20000 in
theorem gX3_putIn_X3_isFull : GoodIn wsX3_putIn (wsV RX3 67 RX3 yX3_isFull wsX3_isFull) := goodIn_app (goodIn_of _ (by decide +kernel)) ggX3_putIn_X3_isFull
set_option maxRecDepth 20000 in
theorem ggX3_putIn_X3_cell : GoodIn wsX3_putIn wsX3_cell := goodIn_r _ [13] (by decide +kernel) (by decide +kernel)
set_option maxRecDepth 20000 in
theorem gX3_putIn_X3_cell : GoodIn wsX3_putIn (va_wsS RX3 63 yX3_cell wsX3_cell) := goodIn_app (goodIn_of _ (by decide +kernel)) ggX3_putIn_X3_cell
theorem dX3_putIn_0 : decode cX3_putIn 0 = .ok (.aload_n 0, 1) := by decide +kernel
theorem dX3_putIn_1 : decode cX3_putIn 1 = .ok (.iload_n 1, 1) := by decide +kernel
theorem dX3_putIn_2 : decode cX3_putIn 2 = .ok (.invokevirtual 67, 3) := by decide +kernel
theorem dX3_putIn_5 : decode cX3_putIn 5 = .ok (.ifCond .eq 4, 3) := by decide +kernel
theorem dX3_putIn_8 : decode cX3_putIn 8 = .ok (.return_, 1) := by decide +kernel
theorem dX3_putIn_9 : decode cX3_putIn 9 = .ok (.iload_n 1, 1) := by decide +kernel
theorem dX3_putIn_10 : decode cX3_putIn 10 = .ok (.aload_n 0, 1) := by decide +kernel
theorem dX3_putIn_11 : decode cX3_putIn 11 = .ok (.getfield 31, 3) := by decide +kernel
theorem dX3_putIn_14 : decode cX3_putIn 14 = .ok (.iload_n 1, 1) := by decide +kernel
theorem dX3_putIn_15 : decode cX3_putIn 15 = .ok (.iaload, 1) := by decide +kernel
theorem dX3_putIn_16 : decode cX3_putIn 16 = .ok (.invokestatic 63, 3) := by decide +kernel
theorem dX3_putIn_19 : decode cX3_putIn 19 = .ok (.istore_n 3, 1) := by decide +kernel
theorem dX3_putIn_20 : decode cX3_putIn 20 = .ok (.aload_n 0, 1) := by decide +kernel
theorem dX3_putIn_21 : decode cX3_putIn 21 = .ok (.getfield 34, 3) := by decide +kernel
theorem dX3_putIn_24 : decode cX3_putIn 24 = .ok (.iload_n 3, 1) := by decide +kernel
theorem dX3_putIn_25 : decode cX3_putIn 25 = .ok (.iload_n 2, 1) := by decide +kernel
theorem dX3_putIn_26 : decode cX3_putIn 26 = .ok (.iastore, 1) := by decide +kernel
theorem dX3_putIn_27 : decode cX3_putIn 27 = .ok (.aload_n 0, 1) := by decide +kernel
theorem dX3_putIn_28 : decode cX3_putIn 28 = .ok (.getfield 37, 3) := by decide +kernel
theorem dX3_putIn_31 : decode cX3_putIn 31 = .ok (.iload_n 3, 1) := by decide +kernel
theorem dX3_putIn_32 : decode cX3_putIn 32 = .ok (.iconst 0, 1) := by decide +kernel
theorem dX3_putIn_33 : decode cX3_putIn 33 = .ok (.iastore, 1) := by decide +kernel
theorem dX3_putIn_34 : decode cX3_putIn 34 = .ok (.aload_n 0, 1) := by decide +kernel
theorem dX3_putIn_35 : decode cX3_putIn 35 = .ok (.getfield 31, 3) := by decide +kernel
theorem dX3_putIn_38 : decode cX3_putIn 38 = .ok (.iload_n 1, 1) := by decide +kernel
theorem dX3_putIn_39 : decode cX3_putIn 39 = .ok (.dup2, 1) := by decide +kernel
theorem dX3_putIn_40 : decode cX3_putIn 40 = .ok (.iaload, 1) := by decide +kernel
theorem dX3_putIn_41 : decode cX3_putIn 41 = .ok (.iconst 1, 1) := by decide +kernel
theorem dX3_putIn_42 : decode cX3_putIn 42 = .ok (.iadd, 1) := by decide +kernel
theorem dX3_putIn_43 : decode cX3_putIn 43 = .ok (.iastore, 1) := by decide +kernel
theorem dX3_putIn_44 : decode cX3_putIn 44 = .ok (.aload_n 0, 1) := by decide +kernel
theorem dX3_putIn_45 : decode cX3_putIn 45 = .ok (.iconst 1, 1) := by decide +kernel
theorem dX3_putIn_46 : decode cX3_putIn 46 = .ok (.putfield 43, 3) := by decide +kernel
theorem dX3_putIn_49 : decode cX3_putIn 49 = .ok (.return_, 1) := by decide +kernel
set_option maxRecDepth 20000 in
theorem ggX3_takeFrom_X3_isEmpty : GoodIn wsX3_takeFrom wsX3_isEmpty := goodIn_r _ [11, 1, 26, 27, 28, 29, 30, 31, 32, 33, 34, 35, 36] (by decide +kernel) (by decide +kernel)
set_option maxRecDepth 20000 in
theorem gX3_takeFrom_X3_isEmpty : GoodIn wsX3_takeFrom (wsV RX3 71 RX3 yX3_isEmpty wsX3_isEmpty) := goodIn_app (goodIn_of _ (by decide +kernel)) ggX3_takeFrom_X3_isEmpty
set_option maxRecDepth 20000 in
theorem ggX3_takeFrom_X3_cell : GoodIn wsX3_takeFrom wsX3_cell := goodIn_r _ [14] (by decide +kernel) (by decide +kernel)
set_option maxRecDepth 20000 in
theorem gX3_takeFrom_X3_cell : GoodIn wsX3_takeFrom (va_wsS RX3 63 yX3_cell wsX3_cell) := goodIn_app (goodIn_of _ (by decide +kernel)) ggX3_takeFrom_X3_cell
set_option maxRecDepth 20000 in
theorem ggX3_takeFrom_X6_verdict : GoodIn wsX3_takeFrom wsX6_verdict := goodIn_r _ [19, 20, 21, 22, 23, 18, 24, 25, 37, 38, 39, 40, 41] (by decide +kernel) (by decide +kernel)
set_option maxRecDepth 20000 in
theorem gX3_takeFrom_X6_verdict : GoodIn wsX3_takeFrom (wsV RX3 74 RX6 yX6_verdict wsX6_verdict) := goodIn_app (goodIn_of _ (by decide +kernel)) ggX3_takeFrom_X6_verdict
theorem dX3_takeFrom_0 : decode cX3_takeFrom 0 = .ok (.aload_n 0, 1) := by decide +kernel
theorem dX3_takeFrom_1 : decode cX3_takeFrom 1 = .ok (.iload_n 1, 1) := by decide +kernel
theorem dX3_takeFrom_2 : decode cX3_takeFrom 2 = .ok (.invokevirtual 71, 3) := by decide +kernel
theorem dX3_takeFrom_5 : decode cX3_takeFrom 5 = .ok (.ifCond .eq 4, 3) := by decide +kernel
theorem dX3_takeFrom_8 : decode cX3_takeFrom 8 = .ok (.return_, 1) := by decide +kernel
theorem dX3_takeFrom_9 : decode cX3_takeFrom 9 = .ok (.aload_n 0, 1) := by decide +kernel
theorem dX3_takeFrom_10 : decode cX3_takeFrom 10 = .ok (.getfield 31, 3) := by decide +kernel
theorem dX3_takeFrom_13 : decode cX3_takeFrom 13 = .ok (.iload_n 1, 1) := by decide +kernel
theorem dX3_takeFrom_14 : decode cX3_takeFrom 14 = .ok (.dup2, 1) := by decide +kernel
theorem dX3_takeFrom_15 : decode cX3_takeFrom 15 = .ok (.iaload, 1) := by decide +kernel
theorem dX3_takeFrom_16 : decode cX3_takeFrom 16 = .ok (.iconst 1, 1) := by decide +kernel
theorem dX3_takeFrom_17 : decode cX3_takeFrom 17 = .ok (.isub, 1) := by decide +kernel
theorem dX3_takeFrom_18 : decode cX3_takeFrom 18 = .ok (.iastore, 1) := by decide +kernel
theorem dX3_takeFrom_19 : decode cX3_takeFrom 19 = .ok (.iload_n 1, 1) := by decide +kernel
theorem dX3_takeFrom_20 : decode cX3_takeFrom 20 = .ok (.aload_n 0, 1) := by decide +kernel
theorem dX3_takeFrom_21 : decode cX3_takeFrom 21 = .ok (.getfield 31, 3) := by decide +kernel
theorem dX3_takeFrom_24 : decode cX3_takeFrom 24 = .ok (.iload_n 1, 1) := by decide +kernel
theorem dX3_takeFrom_25 : decode cX3_takeFrom 25 = .ok (.iaload, 1) := by decide +kernel
theorem dX3_takeFrom_26 : decode cX3_takeFrom 26 = .ok (.invokestatic 63, 3) := by decide +kernel
theorem dX3_takeFrom_29 : decode cX3_takeFrom 29 = .ok (.istore_n 3, 1) := by decide +kernel
theorem dX3_takeFrom_30 : decode cX3_takeFrom 30 = .ok (.aload_n 0, 1) := by decide +kernel
theorem dX3_takeFrom_31 : decode cX3_takeFrom 31 = .ok (.getfield 34, 3) := by decide +kernel
theorem dX3_takeFrom_34 : decode cX3_takeFrom 34 = .ok (.iload_n 3, 1) := by decide +kernel
theorem dX3_takeFrom_35 : decode cX3_takeFrom 35 = .ok (.iaload, 1) := by decide +kernel
theorem dX3_takeFrom_36 : decode cX3_takeFrom 36 = .ok (.istore 4, 2) := by decide +kernel
theorem dX3_takeFrom_38 : decode cX3_takeFrom 38 = .ok (.aload_n 2, 1) := by decide +kernel
theorem dX3_takeFrom_39 : decode cX3_takeFrom 39 = .ok (.iload 4, 2) := by decide +kernel
theorem dX3_takeFrom_41 : decode cX3_takeFrom 41 = .ok (.aload_n 0, 1) := by decide +kernel
theorem dX3_takeFrom_42 : decode cX3_takeFrom 42 = .ok (.getfield 37, 3) := by decide +kernel
theorem dX3_takeFrom_45 : decode cX3_takeFrom 45 = .ok (.iload_n 3, 1) := by decide +kernel
theorem dX3_takeFrom_46 : decode cX3_takeFrom 46 = .ok (.iaload, 1) := by decide +kernel
theorem dX3_takeFrom_47 : decode cX3_takeFrom 47 = .ok (.invokevirtual 74, 3) := by decide +kernel
theorem dX3_takeFrom_50 : decode cX3_takeFrom 50 = .ok (.istore 5, 2) := by decide +kernel
theorem dX3_takeFrom_52 : decode cX3_takeFrom 52 = .ok (.aload_n 0, 1) := by decide +kernel
theorem dX3_takeFrom_53 : decode cX3_takeFrom 53 = .ok (.getfield 40, 3) := by decide +kernel
theorem dX3_takeFrom_56 : decode cX3_takeFrom 56 = .ok (.iload 5, 2) := by decide +kernel
theorem dX3_takeFrom_58 : decode cX3_takeFrom 58 = .ok (.dup2, 1) := by decide +kernel
theorem dX3_takeFrom_59 : decode cX3_takeFrom 59 = .ok (.iaload, 1) := by decide +kernel
theorem dX3_takeFrom_60 : decode cX3_takeFrom 60 = .ok (.iconst 1, 1) := by decide +kernel
theorem dX3_takeFrom_61 : decode cX3_takeFrom 61 = .ok (.iadd, 1) := by decide +kernel
theorem dX3_takeFrom_62 : decode cX3_takeFrom 62 = .ok (.iastore, 1) := by decide +kernel
theorem dX3_takeFrom_63 : decode cX3_takeFrom 63 = .ok (.iload 5, 2) := by decide +kernel
theorem dX3_takeFrom_65 : decode cX3_takeFrom 65 = .ok (.iconst 1, 1) := by decide +kernel
theorem dX3_takeFrom_66 : decode cX3_takeFrom 66 = .ok (.if_icmp .ne 19, 3) := by decide +kernel
theorem dX3_takeFrom_69 : decode cX3_takeFrom 69 = .ok (.aload_n 0, 1) := by decide +kernel
theorem dX3_takeFrom_70 : decode cX3_takeFrom 70 = .ok (.getfield 40, 3) := by decide +kernel
theorem dX3_takeFrom_73 : decode cX3_takeFrom 73 = .ok (.iconst 3, 1) := by decide +kernel
theorem dX3_takeFrom_74 : decode cX3_takeFrom 74 = .ok (.dup2, 1) := by decide +kernel
theorem dX3_takeFrom_75 : decode cX3_takeFrom 75 = .ok (.iaload, 1) := by decide +kernel
theorem dX3_takeFrom_76 : decode cX3_takeFrom 76 = .ok (.aload_n 2, 1) := by decide +kernel
theorem dX3_takeFrom_77 : decode cX3_takeFrom 77 = .ok (.getfield 79, 3) := by decide +kernel
theorem dX3_takeFrom_80 : decode cX3_takeFrom 80 = .ok (.iload 4, 2) := by decide +kernel
theorem dX3_takeFrom_82 : decode cX3_takeFrom 82 = .ok (.iaload, 1) := by decide +kernel
theorem dX3_takeFrom_83 : decode cX3_takeFrom 83 = .ok (.iadd, 1) := by decide +kernel
theorem dX3_takeFrom_84 : decode cX3_takeFrom 84 = .ok (.iastore, 1) := by decide +kernel
theorem dX3_takeFrom_85 : decode cX3_takeFrom 85 = .ok (.aload_n 0, 1) := by decide +kernel
theorem dX3_takeFrom_86 : decode cX3_takeFrom 86 = .ok (.iconst 1, 1) := by decide +kernel
theorem dX3_takeFrom_87 : decode cX3_takeFrom 87 = .ok (.putfield 43, 3) := by decide +kernel
theorem dX3_takeFrom_90 : decode cX3_takeFrom 90 = .ok (.return_, 1) := by decide +kernel
set_option maxRecDepth 20000 in
theorem ggX3_bakeMinute_X3_cell : GoodIn wsX3_bakeMinute wsX3_cell := goodIn_r _ [15] (by decide +kernel) (by decide +kernel)
set_option maxRecDepth 20000 in
theorem gX3_bakeMinute_X3_cell : GoodIn wsX3_bakeMinute (va_wsS RX3 63 yX3_cell wsX3_cell) := goodIn_app (goodIn_of _ (by decide +kernel)) ggX3_bakeMinute_X3_cell
set_option maxRecDepth 20000 in
theorem ggX3_bakeMinute_X3_rateAt : GoodIn wsX3_bakeMinute wsX3_rateAt := goodIn_r _ [19, 8, 20, 21, 22, 23, 24, 25, 26, 27, 28, 29, 30, 31] (by decide +kernel) (by decide +kernel)
set_option maxRecDepth 20000 in
theorem gX3_bakeMinute_X3_rateAt : GoodIn wsX3_bakeMinute (wsV RX3 82 RX3 yX3_rateAt wsX3_rateAt) := goodIn_app (goodIn_of _ (by decide +kernel)) ggX3_bakeMinute_X3_rateAt
theorem dX3_bakeMinute_0 : decode cX3_bakeMinute 0 = .ok (.iconst 0, 1) := by decide +kernel
theorem dX3_bakeMinute_1 : decode cX3_bakeMinute 1 = .ok (.istore_n 1, 1) := by decide +kernel
theorem dX3_bakeMinute_2 : decode cX3_bakeMinute 2 = .ok (.iload_n 1, 1) := by decide +kernel
theorem dX3_bakeMinute_3 : decode cX3_bakeMinute 3 = .ok (.aload_n 0, 1) := by decide +kernel
theorem dX3_bakeMinute_4 : decode cX3_bakeMinute 4 = .ok (.getfield 9, 3) := by decide +kernel
theorem dX3_bakeMinute_7 : decode cX3_bakeMinute 7 = .ok (.if_icmp .ge 49, 3) := by decide +kernel
theorem dX3_bakeMinute_10 : decode cX3_bakeMinute 10 = .ok (.iconst 0, 1) := by decide +kernel
theorem dX3_bakeMinute_11 : decode cX3_bakeMinute 11 = .ok (.istore_n 2, 1) := by decide +kernel
theorem dX3_bakeMinute_12 : decode cX3_bakeMinute 12 = .ok (.iload_n 2, 1) := by decide +kernel
theorem dX3_bakeMinute_13 : decode cX3_bakeMinute 13 = .ok (.aload_n 0, 1) := by decide +kernel
theorem dX3_bakeMinute_14 : decode cX3_bakeMinute 14 = .ok (.getfield 31, 3) := by decide +kernel
theorem dX3_bakeMinute_17 : decode cX3_bakeMinute 17 = .ok (.iload_n 1, 1) := by decide +kernel
theorem dX3_bakeMinute_18 : decode cX3_bakeMinute 18 = .ok (.iaload, 1) := by decide +kernel
theorem dX3_bakeMinute_19 : decode cX3_bakeMinute 19 = .ok (.if_icmp .ge 31, 3) := by decide +kernel
theorem dX3_bakeMinute_22 : decode cX3_bakeMinute 22 = .ok (.aload_n 0, 1) := by decide +kernel
theorem dX3_bakeMinute_23 : decode cX3_bakeMinute 23 = .ok (.getfield 37, 3) := by decide +kernel
theorem dX3_bakeMinute_26 : decode cX3_bakeMinute 26 = .ok (.iload_n 1, 1) := by decide +kernel
theorem dX3_bakeMinute_27 : decode cX3_bakeMinute 27 = .ok (.iload_n 2, 1) := by decide +kernel
theorem dX3_bakeMinute_28 : decode cX3_bakeMinute 28 = .ok (.invokestatic 63, 3) := by decide +kernel
theorem dX3_bakeMinute_31 : decode cX3_bakeMinute 31 = .ok (.dup2, 1) := by decide +kernel
theorem dX3_bakeMinute_32 : decode cX3_bakeMinute 32 = .ok (.iaload, 1) := by decide +kernel
theorem dX3_bakeMinute_33 : decode cX3_bakeMinute 33 = .ok (.iconst 0, 1) := by decide +kernel
theorem dX3_bakeMinute_34 : decode cX3_bakeMinute 34 = .ok (.aload_n 0, 1) := by decide +kernel
theorem dX3_bakeMinute_35 : decode cX3_bakeMinute 35 = .ok (.iload_n 2, 1) := by decide +kernel
theorem dX3_bakeMinute_36 : decode cX3_bakeMinute 36 = .ok (.invokevirtual 82, 3) := by decide +kernel
theorem dX3_bakeMinute_39 : decode cX3_bakeMinute 39 = .ok (.invokestatic 86, 3) := by decide +kernel
theorem dX3_bakeMinute_42 : decode cX3_bakeMinute 42 = .ok (.iadd, 1) := by decide +kernel
theorem dX3_bakeMinute_43 : decode cX3_bakeMinute 43 = .ok (.iastore, 1) := by decide +kernel
theorem dX3_bakeMinute_44 : decode cX3_bakeMinute 44 = .ok (.iinc 2 1, 3) := by decide +kernel
theorem dX3_bakeMinute_47 : decode cX3_bakeMinute 47 = .ok (.goto (-35), 3) := by decide +kernel
theorem dX3_bakeMinute_50 : decode cX3_bakeMinute 50 = .ok (.iinc 1 1, 3) := by decide +kernel
theorem dX3_bakeMinute_53 : decode cX3_bakeMinute 53 = .ok (.goto (-51), 3) := by decide +kernel
theorem dX3_bakeMinute_56 : decode cX3_bakeMinute 56 = .ok (.aload_n 0, 1) := by decide +kernel
theorem dX3_bakeMinute_57 : decode cX3_bakeMinute 57 = .ok (.iconst 0, 1) := by decide +kernel
theorem dX3_bakeMinute_58 : decode cX3_bakeMinute 58 = .ok (.aload_n 0, 1) := by decide +kernel
theorem dX3_bakeMinute_59 : decode cX3_bakeMinute 59 = .ok (.getfield 18, 3) := by decide +kernel
theorem dX3_bakeMinute_62 : decode cX3_bakeMinute 62 = .ok (.aload_n 0, 1) := by decide +kernel
theorem dX3_bakeMinute_63 : decode cX3_bakeMinute 63 = .ok (.getfield 21, 3) := by decide +kernel
theorem dX3_bakeMinute_66 : decode cX3_bakeMinute 66 = .ok (.isub, 1) := by decide +kernel
theorem dX3_bakeMinute_67 : decode cX3_bakeMinute 67 = .ok (.aload_n 0, 1) := by decide +kernel
theorem dX3_bakeMinute_68 : decode cX3_bakeMinute 68 = .ok (.getfield 43, 3) := by decide +kernel
theorem dX3_bakeMinute_71 : decode cX3_bakeMinute 71 = .ok (.ifCond .eq 10, 3) := by decide +kernel
theorem dX3_bakeMinute_74 : decode cX3_bakeMinute 74 = .ok (.aload_n 0, 1) := by decide +kernel
theorem dX3_bakeMinute_75 : decode cX3_bakeMinute 75 = .ok (.getfield 24, 3) := by decide +kernel
theorem dX3_bakeMinute_78 : decode cX3_bakeMinute 78 = .ok (.goto 4, 3) := by decide +kernel
theorem dX3_bakeMinute_81 : decode cX3_bakeMinute 81 = .ok (.iconst 0, 1) := by decide +kernel
theorem dX3_bakeMinute_82 : decode cX3_bakeMinute 82 = .ok (.isub, 1) := by decide +kernel
theorem dX3_bakeMinute_83 : decode cX3_bakeMinute 83 = .ok (.invokestatic 86, 3) := by decide +kernel
theorem dX3_bakeMinute_86 : decode cX3_bakeMinute 86 = .ok (.putfield 18, 3) := by decide +kernel
theorem dX3_bakeMinute_89 : decode cX3_bakeMinute 89 = .ok (.aload_n 0, 1) := by decide +kernel
theorem dX3_bakeMinute_90 : decode cX3_bakeMinute 90 = .ok (.iconst 0, 1) := by decide +kernel
theorem dX3_bakeMinute_91 : decode cX3_bakeMinute 91 = .ok (.putfield 43, 3) := by decide +kernel
theorem dX3_bakeMinute_94 : decode cX3_bakeMinute 94 = .ok (.return_, 1) := by decide +kernel
theorem dX3_bakedByDoors_0 : decode cX3_bakedByDoors 0 = .ok (.iconst 0, 1) := by decide +kernel
theorem dX3_bakedByDoors_1 : decode cX3_bakedByDoors 1 = .ok (.istore 4, 2) := by decide +kernel
theorem dX3_bakedByDoors_3 : decode cX3_bakedByDoors 3 = .ok (.aload_n 0, 1) := by decide +kernel
theorem dX3_bakedByDoors_4 : decode cX3_bakedByDoors 4 = .ok (.getfield 18, 3) := by decide +kernel
theorem dX3_bakedByDoors_7 : decode cX3_bakedByDoors 7 = .ok (.istore 5, 2) := by decide +kernel
theorem dX3_bakedByDoors_9 : decode cX3_bakedByDoors 9 = .ok (.iconst 0, 1) := by decide +kernel
theorem dX3_bakedByDoors_10 : decode cX3_bakedByDoors 10 = .ok (.istore 6, 2) := by decide +kernel
theorem dX3_bakedByDoors_12 : decode cX3_bakedByDoors 12 = .ok (.iload 6, 2) := by decide +kernel
theorem dX3_bakedByDoors_14 : decode cX3_bakedByDoors 14 = .ok (.iload_n 2, 1) := by decide +kernel
theorem dX3_bakedByDoors_15 : decode cX3_bakedByDoors 15 = .ok (.if_icmp .ge 63, 3) := by decide +kernel
theorem dX3_bakedByDoors_18 : decode cX3_bakedByDoors 18 = .ok (.iload 4, 2) := by decide +kernel
theorem dX3_bakedByDoors_20 : decode cX3_bakedByDoors 20 = .ok (.iconst 0, 1) := by decide +kernel
theorem dX3_bakedByDoors_21 : decode cX3_bakedByDoors 21 = .ok (.iload 5, 2) := by decide +kernel
theorem dX3_bakedByDoors_23 : decode cX3_bakedByDoors 23 = .ok (.aload_n 0, 1) := by decide +kernel
theorem dX3_bakedByDoors_24 : decode cX3_bakedByDoors 24 = .ok (.getfield 27, 3) := by decide +kernel
theorem dX3_bakedByDoors_27 : decode cX3_bakedByDoors 27 = .ok (.iload_n 1, 1) := by decide +kernel
theorem dX3_bakedByDoors_28 : decode cX3_bakedByDoors 28 = .ok (.iaload, 1) := by decide +kernel
theorem dX3_bakedByDoors_29 : decode cX3_bakedByDoors 29 = .ok (.isub, 1) := by decide +kernel
theorem dX3_bakedByDoors_30 : decode cX3_bakedByDoors 30 = .ok (.invokestatic 86, 3) := by decide +kernel
theorem dX3_bakedByDoors_33 : decode cX3_bakedByDoors 33 = .ok (.iadd, 1) := by decide +kernel
theorem dX3_bakedByDoors_34 : decode cX3_bakedByDoors 34 = .ok (.istore 4, 2) := by decide +kernel
theorem dX3_bakedByDoors_36 : decode cX3_bakedByDoors 36 = .ok (.iload_n 3, 1) := by decide +kernel
theorem dX3_bakedByDoors_37 : decode cX3_bakedByDoors 37 = .ok (.iload 6, 2) := by decide +kernel
theorem dX3_bakedByDoors_39 : decode cX3_bakedByDoors 39 = .ok (.ishr, 1) := by decide +kernel
theorem dX3_bakedByDoors_40 : decode cX3_bakedByDoors 40 = .ok (.iconst 1, 1) := by decide +kernel
theorem dX3_bakedByDoors_41 : decode cX3_bakedByDoors 41 = .ok (.iand, 1) := by decide +kernel
theorem dX3_bakedByDoors_42 : decode cX3_bakedByDoors 42 = .ok (.iconst 1, 1) := by decide +kernel
theorem dX3_bakedByDoors_43 : decode cX3_bakedByDoors 43 = .ok (.if_icmp .ne 10, 3) := by decide +kernel
theorem dX3_bakedByDoors_46 : decode cX3_bakedByDoors 46 = .ok (.aload_n 0, 1) := by decide +kernel
theorem dX3_bakedByDoors_47 : decode cX3_bakedByDoors 47 = .ok (.getfield 24, 3) := by decide +kernel
theorem dX3_bakedByDoors_50 : decode cX3_bakedByDoors 50 = .ok (.goto 4, 3) := by decide +kernel
theorem dX3_bakedByDoors_53 : decode cX3_bakedByDoors 53 = .ok (.iconst 0, 1) := by decide +kernel
theorem dX3_bakedByDoors_54 : decode cX3_bakedByDoors 54 = .ok (.istore 7, 2) := by decide +kernel
theorem dX3_bakedByDoors_56 : decode cX3_bakedByDoors 56 = .ok (.iconst 0, 1) := by decide +kernel
theorem dX3_bakedByDoors_57 : decode cX3_bakedByDoors 57 = .ok (.iload 5, 2) := by decide +kernel
theorem dX3_bakedByDoors_59 : decode cX3_bakedByDoors 59 = .ok (.aload_n 0, 1) := by decide +kernel
theorem dX3_bakedByDoors_60 : decode cX3_bakedByDoors 60 = .ok (.getfield 21, 3) := by decide +kernel
theorem dX3_bakedByDoors_63 : decode cX3_bakedByDoors 63 = .ok (.isub, 1) := by decide +kernel
theorem dX3_bakedByDoors_64 : decode cX3_bakedByDoors 64 = .ok (.iload 7, 2) := by decide +kernel
theorem dX3_bakedByDoors_66 : decode cX3_bakedByDoors 66 = .ok (.isub, 1) := by decide +kernel
theorem dX3_bakedByDoors_67 : decode cX3_bakedByDoors 67 = .ok (.invokestatic 86, 3) := by decide +kernel
theorem dX3_bakedByDoors_70 : decode cX3_bakedByDoors 70 = .ok (.istore 5, 2) := by decide +kernel
theorem dX3_bakedByDoors_72 : decode cX3_bakedByDoors 72 = .ok (.iinc 6 1, 3) := by decide +kernel
theorem dX3_bakedByDoors_75 : decode cX3_bakedByDoors 75 = .ok (.goto (-63), 3) := by decide +kernel
theorem dX3_bakedByDoors_78 : decode cX3_bakedByDoors 78 = .ok (.iload 4, 2) := by decide +kernel
theorem dX3_bakedByDoors_80 : decode cX3_bakedByDoors 80 = .ok (.ireturn, 1) := by decide +kernel
set_option maxRecDepth 20000 in
theorem ggX3_hasBadNeighbours_X3_cell : GoodIn wsX3_hasBadNeighbours wsX3_cell := goodIn_r _ [7] (by decide +kernel) (by decide +kernel)
set_option maxRecDepth 20000 in
theorem gX3_hasBadNeighbours_X3_cell : GoodIn wsX3_hasBadNeighbours (va_wsS RX3 63 yX3_cell wsX3_cell) := goodIn_app (goodIn_of _ (by decide +kernel)) ggX3_hasBadNeighbours_X3_cell
set_option maxRecDepth 20000 in
theorem ggX3_hasBadNeighbours_X6_mustBeApart : GoodIn wsX3_hasBadNeighbours wsX6_mustBeApart := goodIn_r _ [12, 13, 25, 26, 27, 28, 29] (by decide +kernel) (by decide +kernel)
set_option maxRecDepth 20000 in
theorem gX3_hasBadNeighbours_X6_mustBeApart : GoodIn wsX3_hasBadNeighbours (wsV RX3 91 RX6 yX6_mustBeApart wsX6_mustBeApart) := goodIn_app (goodIn_of _ (by decide +kernel)) ggX3_hasBadNeighbours_X6_mustBeApart
theorem dX3_hasBadNeighbours_0 : decode cX3_hasBadNeighbours 0 = .ok (.iconst 0, 1) := by decide +kernel
theorem dX3_hasBadNeighbours_1 : decode cX3_hasBadNeighbours 1 = .ok (.istore_n 2, 1) := by decide +kernel
theorem dX3_hasBadNeighbours_2 : decode cX3_hasBadNeighbours 2 = .ok (.iload_n 2, 1) := by decide +kernel
theorem dX3_hasBadNeighbours_3 : decode cX3_hasBadNeighbours 3 = .ok (.aload_n 0, 1) := by decide +kernel
theorem dX3_hasBadNeighbours_4 : decode cX3_hasBadNeighbours 4 = .ok (.getfield 9, 3) := by decide +kernel
theorem dX3_hasBadNeighbours_7 : decode cX3_hasBadNeighbours 7 = .ok (.if_icmp .ge 131, 3) := by decide +kernel
theorem dX3_hasBadNeighbours_10 : decode cX3_hasBadNeighbours 10 = .ok (.iconst 0, 1) := by decide +kernel
theorem dX3_hasBadNeighbours_11 : decode cX3_hasBadNeighbours 11 = .ok (.istore_n 3, 1) := by decide +kernel
theorem dX3_hasBadNeighbours_12 : decode cX3_hasBadNeighbours 12 = .ok (.iload_n 3, 1) := by decide +kernel
theorem dX3_hasBadNeighbours_13 : decode cX3_hasBadNeighbours 13 = .ok (.aload_n 0, 1) := by decide +kernel
theorem dX3_hasBadNeighbours_14 : decode cX3_hasBadNeighbours 14 = .ok (.getfield 31, 3) := by decide +kernel
theorem dX3_hasBadNeighbours_17 : decode cX3_hasBadNeighbours 17 = .ok (.iload_n 2, 1) := by decide +kernel
theorem dX3_hasBadNeighbours_18 : decode cX3_hasBadNeighbours 18 = .ok (.iaload, 1) := by decide +kernel
theorem dX3_hasBadNeighbours_19 : decode cX3_hasBadNeighbours 19 = .ok (.if_icmp .ge 113, 3) := by decide +kernel
theorem dX3_hasBadNeighbours_22 : decode cX3_hasBadNeighbours 22 = .ok (.aload_n 0, 1) := by decide +kernel
theorem dX3_hasBadNeighbours_23 : decode cX3_hasBadNeighbours 23 = .ok (.getfield 34, 3) := by decide +kernel
theorem dX3_hasBadNeighbours_26 : decode cX3_hasBadNeighbours 26 = .ok (.iload_n 2, 1) := by decide +kernel
theorem dX3_hasBadNeighbours_27 : decode cX3_hasBadNeighbours 27 = .ok (.iload_n 3, 1) := by decide +kernel
theorem dX3_hasBadNeighbours_28 : decode cX3_hasBadNeighbours 28 = .ok (.invokestatic 63, 3) := by decide +kernel
theorem dX3_hasBadNeighbours_31 : decode cX3_hasBadNeighbours 31 = .ok (.iaload, 1) := by decide +kernel
theorem dX3_hasBadNeighbours_32 : decode cX3_hasBadNeighbours 32 = .ok (.istore 4, 2) := by decide +kernel
theorem dX3_hasBadNeighbours_34 : decode cX3_hasBadNeighbours 34 = .ok (.iload_n 3, 1) := by decide +kernel
theorem dX3_hasBadNeighbours_35 : decode cX3_hasBadNeighbours 35 = .ok (.iconst 1, 1) := by decide +kernel
theorem dX3_hasBadNeighbours_36 : decode cX3_hasBadNeighbours 36 = .ok (.iadd, 1) := by decide +kernel
theorem dX3_hasBadNeighbours_37 : decode cX3_hasBadNeighbours 37 = .ok (.aload_n 0, 1) := by decide +kernel
theorem dX3_hasBadNeighbours_38 : decode cX3_hasBadNeighbours 38 = .ok (.getfield 31, 3) := by decide +kernel
theorem dX3_hasBadNeighbours_41 : decode cX3_hasBadNeighbours 41 = .ok (.iload_n 2, 1) := by decide +kernel
theorem dX3_hasBadNeighbours_42 : decode cX3_hasBadNeighbours 42 = .ok (.iaload, 1) := by decide +kernel
theorem dX3_hasBadNeighbours_43 : decode cX3_hasBadNeighbours 43 = .ok (.if_icmp .ge 26, 3) := by decide +kernel
theorem dX3_hasBadNeighbours_46 : decode cX3_hasBadNeighbours 46 = .ok (.aload_n 1, 1) := by decide +kernel
theorem dX3_hasBadNeighbours_47 : decode cX3_hasBadNeighbours 47 = .ok (.iload 4, 2) := by decide +kernel
theorem dX3_hasBadNeighbours_49 : decode cX3_hasBadNeighbours 49 = .ok (.aload_n 0, 1) := by decide +kernel
theorem dX3_hasBadNeighbours_50 : decode cX3_hasBadNeighbours 50 = .ok (.getfield 34, 3) := by decide +kernel
theorem dX3_hasBadNeighbours_53 : decode cX3_hasBadNeighbours 53 = .ok (.iload_n 2, 1) := by decide +kernel
theorem dX3_hasBadNeighbours_54 : decode cX3_hasBadNeighbours 54 = .ok (.iload_n 3, 1) := by decide +kernel
theorem dX3_hasBadNeighbours_55 : decode cX3_hasBadNeighbours 55 = .ok (.iconst 1, 1) := by decide +kernel
theorem dX3_hasBadNeighbours_56 : decode cX3_hasBadNeighbours 56 = .ok (.iadd, 1) := by decide +kernel
theorem dX3_hasBadNeighbours_57 : decode cX3_hasBadNeighbours 57 = .ok (.invokestatic 63, 3) := by decide +kernel
theorem dX3_hasBadNeighbours_60 : decode cX3_hasBadNeighbours 60 = .ok (.iaload, 1) := by decide +kernel
theorem dX3_hasBadNeighbours_61 : decode cX3_hasBadNeighbours 61 = .ok (.invokevirtual 91, 3) := by decide +kernel
theorem dX3_hasBadNeighbours_64 : decode cX3_hasBadNeighbours 64 = .ok (.ifCond .eq 5, 3) := by decide +kernel
theorem dX3_hasBadNeighbours_67 : decode cX3_hasBadNeighbours 67 = .ok (.iconst 1, 1) := by decide +kernel
theorem dX3_hasBadNeighbours_68 : decode cX3_hasBadNeighbours 68 = .ok (.ireturn, 1) := by decide +kernel
theorem dX3_hasBadNeighbours_69 : decode cX3_hasBadNeighbours 69 = .ok (.iload_n 2, 1) := by decide +kernel
theorem dX3_hasBadNeighbours_70 : decode cX3_hasBadNeighbours 70 = .ok (.iconst 1, 1) := by decide +kernel
theorem dX3_hasBadNeighbours_71 : decode cX3_hasBadNeighbours 71 = .ok (.iadd, 1) := by decide +kernel
theorem dX3_hasBadNeighbours_72 : decode cX3_hasBadNeighbours 72 = .ok (.aload_n 0, 1) := by decide +kernel
theorem dX3_hasBadNeighbours_73 : decode cX3_hasBadNeighbours 73 = .ok (.getfield 9, 3) := by decide +kernel
theorem dX3_hasBadNeighbours_76 : decode cX3_hasBadNeighbours 76 = .ok (.if_icmp .ge 19, 3) := by decide +kernel
theorem dX3_hasBadNeighbours_79 : decode cX3_hasBadNeighbours 79 = .ok (.iload_n 3, 1) := by decide +kernel
theorem dX3_hasBadNeighbours_80 : decode cX3_hasBadNeighbours 80 = .ok (.aload_n 0, 1) := by decide +kernel
theorem dX3_hasBadNeighbours_81 : decode cX3_hasBadNeighbours 81 = .ok (.getfield 31, 3) := by decide +kernel
theorem dX3_hasBadNeighbours_84 : decode cX3_hasBadNeighbours 84 = .ok (.iload_n 2, 1) := by decide +kernel
theorem dX3_hasBadNeighbours_85 : decode cX3_hasBadNeighbours 85 = .ok (.iconst 1, 1) := by decide +kernel
theorem dX3_hasBadNeighbours_86 : decode cX3_hasBadNeighbours 86 = .ok (.iadd, 1) := by decide +kernel
theorem dX3_hasBadNeighbours_87 : decode cX3_hasBadNeighbours 87 = .ok (.iaload, 1) := by decide +kernel
theorem dX3_hasBadNeighbours_88 : decode cX3_hasBadNeighbours 88 = .ok (.if_icmp .ge 7, 3) := by decide +kernel
theorem dX3_hasBadNeighbours_91 : decode cX3_hasBadNeighbours 91 = .ok (.iconst 1, 1) := by decide +kernel
theorem dX3_hasBadNeighbours_92 : decode cX3_hasBadNeighbours 92 = .ok (.goto 4, 3) := by decide +kernel
theorem dX3_hasBadNeighbours_95 : decode cX3_hasBadNeighbours 95 = .ok (.iconst 0, 1) := by decide +kernel
theorem dX3_hasBadNeighbours_96 : decode cX3_hasBadNeighbours 96 = .ok (.istore 5, 2) := by decide +kernel
theorem dX3_hasBadNeighbours_98 : decode cX3_hasBadNeighbours 98 = .ok (.iload 5, 2) := by decide +kernel
theorem dX3_hasBadNeighbours_100 : decode cX3_hasBadNeighbours 100 = .ok (.ifCond .eq 26, 3) := by decide +kernel
theorem dX3_hasBadNeighbours_103 : decode cX3_hasBadNeighbours 103 = .ok (.aload_n 1, 1) := by decide +kernel
theorem dX3_hasBadNeighbours_104 : decode cX3_hasBadNeighbours 104 = .ok (.iload 4, 2) := by decide +kernel
theorem dX3_hasBadNeighbours_106 : decode cX3_hasBadNeighbours 106 = .ok (.aload_n 0, 1) := by decide +kernel
theorem dX3_hasBadNeighbours_107 : decode cX3_hasBadNeighbours 107 = .ok (.getfield 34, 3) := by decide +kernel
theorem dX3_hasBadNeighbours_110 : decode cX3_hasBadNeighbours 110 = .ok (.iload_n 2, 1) := by decide +kernel
theorem dX3_hasBadNeighbours_111 : decode cX3_hasBadNeighbours 111 = .ok (.iconst 1, 1) := by decide +kernel
theorem dX3_hasBadNeighbours_112 : decode cX3_hasBadNeighbours 112 = .ok (.iadd, 1) := by decide +kernel
theorem dX3_hasBadNeighbours_113 : decode cX3_hasBadNeighbours 113 = .ok (.iload_n 3, 1) := by decide +kernel
theorem dX3_hasBadNeighbours_114 : decode cX3_hasBadNeighbours 114 = .ok (.invokestatic 63, 3) := by decide +kernel
theorem dX3_hasBadNeighbours_117 : decode cX3_hasBadNeighbours 117 = .ok (.iaload, 1) := by decide +kernel
theorem dX3_hasBadNeighbours_118 : decode cX3_hasBadNeighbours 118 = .ok (.invokevirtual 91, 3) := by decide +kernel
theorem dX3_hasBadNeighbours_121 : decode cX3_hasBadNeighbours 121 = .ok (.ifCond .eq 5, 3) := by decide +kernel
theorem dX3_hasBadNeighbours_124 : decode cX3_hasBadNeighbours 124 = .ok (.iconst 1, 1) := by decide +kernel
theorem dX3_hasBadNeighbours_125 : decode cX3_hasBadNeighbours 125 = .ok (.ireturn, 1) := by decide +kernel
theorem dX3_hasBadNeighbours_126 : decode cX3_hasBadNeighbours 126 = .ok (.iinc 3 1, 3) := by decide +kernel
theorem dX3_hasBadNeighbours_129 : decode cX3_hasBadNeighbours 129 = .ok (.goto (-117), 3) := by decide +kernel
theorem dX3_hasBadNeighbours_132 : decode cX3_hasBadNeighbours 132 = .ok (.iinc 2 1, 3) := by decide +kernel
theorem dX3_hasBadNeighbours_135 : decode cX3_hasBadNeighbours 135 = .ok (.goto (-133), 3) := by decide +kernel
theorem dX3_hasBadNeighbours_138 : decode cX3_hasBadNeighbours 138 = .ok (.iconst 0, 1) := by decide +kernel
theorem dX3_hasBadNeighbours_139 : decode cX3_hasBadNeighbours 139 = .ok (.ireturn, 1) := by decide +kernel
theorem dX4_init_0 : decode cX4_init 0 = .ok (.aload_n 0, 1) := by decide +kernel
theorem dX4_init_1 : decode cX4_init 1 = .ok (.invokespecial 3, 3) := by decide +kernel
theorem dX4_init_4 : decode cX4_init 4 = .ok (.aload_n 0, 1) := by decide +kernel
theorem dX4_init_5 : decode cX4_init 5 = .ok (.bipush 60, 2) := by decide +kernel
theorem dX4_init_7 : decode cX4_init 7 = .ok (.newarray .int, 2) := by decide +kernel
theorem dX4_init_9 : decode cX4_init 9 = .ok (.putfield 9, 3) := by decide +kernel
theorem dX4_init_12 : decode cX4_init 12 = .ok (.return_, 1) := by decide +kernel
set_option maxRecDepth 20000 in
theorem ggX4_firstFault_X7_within : GoodIn wsX4_firstFault wsX7_within := goodIn_r _ [5] (by decide +kernel) (by decide +kernel)
set_option maxRecDepth 20000 in
theorem gX4_firstFault_X7_within_n19 : GoodIn wsX4_firstFault (wsX7_within) := ggX4_firstFault_X7_within
theorem dX4_firstFault_0 : decode cX4_firstFault 0 = .ok (.iconst 0, 1) := by decide +kernel
theorem dX4_firstFault_1 : decode cX4_firstFault 1 = .ok (.istore_n 2, 1) := by decide +kernel
theorem dX4_firstFault_2 : decode cX4_firstFault 2 = .ok (.iconst 0, 1) := by decide +kernel
theorem dX4_firstFault_3 : decode cX4_firstFault 3 = .ok (.istore_n 3, 1) := by decide +kernel
theorem dX4_firstFault_4 : decode cX4_firstFault 4 = .ok (.iload_n 3, 1) := by decide +kernel
theorem dX4_firstFault_5 : decode cX4_firstFault 5 = .ok (.aload_n 0, 1) := by decide +kernel
theorem dX4_firstFault_6 : decode cX4_firstFault 6 = .ok (.getfield 15, 3) := by decide +kernel
theorem dX4_firstFault_9 : decode cX4_firstFault 9 = .ok (.if_icmp .ge 84, 3) := by decide +kernel
theorem dX4_firstFault_12 : decode cX4_firstFault 12 = .ok (.aload_n 0, 1) := by decide +kernel
theorem dX4_firstFault_13 : decode cX4_firstFault 13 = .ok (.getfield 9, 3) := by decide +kernel
theorem dX4_firstFault_16 : decode cX4_firstFault 16 = .ok (.iload_n 3, 1) := by decide +kernel
theorem dX4_firstFault_17 : decode cX4_firstFault 17 = .ok (.iaload, 1) := by decide +kernel
theorem dX4_firstFault_18 : decode cX4_firstFault 18 = .ok (.istore 4, 2) := by decide +kernel
theorem dX4_firstFault_20 : decode cX4_firstFault 20 = .ok (.iload_n 2, 1) := by decide +kernel
theorem dX4_firstFault_21 : decode cX4_firstFault 21 = .ok (.ifCond .eq 29, 3) := by decide +kernel
theorem dX4_firstFault_24 : decode cX4_firstFault 24 = .ok (.iload 4, 2) := by decide +kernel
theorem dX4_firstFault_26 : decode cX4_firstFault 26 = .ok (.bipush 45, 2) := by decide +kernel
theorem dX4_firstFault_28 : decode cX4_firstFault 28 = .ok (.if_icmp .eq 17, 3) := by decide +kernel
theorem dX4_firstFault_31 : decode cX4_firstFault 31 = .ok (.iload 4, 2) := by decide +kernel
theorem dX4_firstFault_33 : decode cX4_firstFault 33 = .ok (.bipush 97, 2) := by decide +kernel
theorem dX4_firstFault_35 : decode cX4_firstFault 35 = .ok (.bipush 102, 2) := by decide +kernel
theorem dX4_firstFault_37 : decode cX4_firstFault 37 = .ok (.invokestatic 19, 3) := by decide +kernel
theorem dX4_firstFault_40 : decode cX4_firstFault 40 = .ok (.ifCond .ne 5, 3) := by decide +kernel
theorem dX4_firstFault_43 : decode cX4_firstFault 43 = .ok (.iload_n 3, 1) := by decide +kernel
theorem dX4_firstFault_44 : decode cX4_firstFault 44 = .ok (.ireturn, 1) := by decide +kernel
theorem dX4_firstFault_45 : decode cX4_firstFault 45 = .ok (.iconst 0, 1) := by decide +kernel
theorem dX4_firstFault_46 : decode cX4_firstFault 46 = .ok (.istore_n 2, 1) := by decide +kernel
theorem dX4_firstFault_47 : decode cX4_firstFault 47 = .ok (.goto 40, 3) := by decide +kernel
theorem dX4_firstFault_50 : decode cX4_firstFault 50 = .ok (.iload 4, 2) := by decide +kernel
theorem dX4_firstFault_52 : decode cX4_firstFault 52 = .ok (.bipush 48, 2) := by decide +kernel
theorem dX4_firstFault_54 : decode cX4_firstFault 54 = .ok (.bipush 48, 2) := by decide +kernel
theorem dX4_firstFault_56 : decode cX4_firstFault 56 = .ok (.iload_n 1, 1) := by decide +kernel
theorem dX4_firstFault_57 : decode cX4_firstFault 57 = .ok (.iadd, 1) := by decide +kernel
theorem dX4_firstFault_58 : decode cX4_firstFault 58 = .ok (.iconst 1, 1) := by decide +kernel
theorem dX4_firstFault_59 : decode cX4_firstFault 59 = .ok (.isub, 1) := by decide +kernel
theorem dX4_firstFault_60 : decode cX4_firstFault 60 = .ok (.invokestatic 19, 3) := by decide +kernel
theorem dX4_firstFault_63 : decode cX4_firstFault 63 = .ok (.ifCond .eq 8, 3) := by decide +kernel
theorem dX4_firstFault_66 : decode cX4_firstFault 66 = .ok (.iconst 1, 1) := by decide +kernel
theorem dX4_firstFault_67 : decode cX4_firstFault 67 = .ok (.istore_n 2, 1) := by decide +kernel
theorem dX4_firstFault_68 : decode cX4_firstFault 68 = .ok (.goto 19, 3) := by decide +kernel
theorem dX4_firstFault_71 : decode cX4_firstFault 71 = .ok (.iload 4, 2) := by decide +kernel
theorem dX4_firstFault_73 : decode cX4_firstFault 73 = .ok (.bipush 46, 2) := by decide +kernel
theorem dX4_firstFault_75 : decode cX4_firstFault 75 = .ok (.if_icmp .eq 12, 3) := by decide +kernel
theorem dX4_firstFault_78 : decode cX4_firstFault 78 = .ok (.iload 4, 2) := by decide +kernel
theorem dX4_firstFault_80 : decode cX4_firstFault 80 = .ok (.bipush 58, 2) := by decide +kernel
theorem dX4_firstFault_82 : decode cX4_firstFault 82 = .ok (.if_icmp .eq 5, 3) := by decide +kernel
theorem dX4_firstFault_85 : decode cX4_firstFault 85 = .ok (.iload_n 3, 1) := by decide +kernel
theorem dX4_firstFault_86 : decode cX4_firstFault 86 = .ok (.ireturn, 1) := by decide +kernel
theorem dX4_firstFault_87 : decode cX4_firstFault 87 = .ok (.iinc 3 1, 3) := by decide +kernel
theorem dX4_firstFault_90 : decode cX4_firstFault 90 = .ok (.goto (-86), 3) := by decide +kernel
theorem dX4_firstFault_93 : decode cX4_firstFault 93 = .ok (.iload_n 2, 1) := by decide +kernel
theorem dX4_firstFault_94 : decode cX4_firstFault 94 = .ok (.ifCond .eq 10, 3) := by decide +kernel
theorem dX4_firstFault_97 : decode cX4_firstFault 97 = .ok (.aload_n 0, 1) := by decide +kernel
theorem dX4_firstFault_98 : decode cX4_firstFault 98 = .ok (.getfield 15, 3) := by decide +kernel
theorem dX4_firstFault_101 : decode cX4_firstFault 101 = .ok (.goto 5, 3) := by decide +kernel
theorem dX4_firstFault_104 : decode cX4_firstFault 104 = .ok (.bipush (-6), 2) := by decide +kernel
theorem dX4_firstFault_106 : decode cX4_firstFault 106 = .ok (.ireturn, 1) := by decide +kernel
theorem dX5_init_0 : decode cX5_init 0 = .ok (.aload_n 0, 1) := by decide +kernel
theorem dX5_init_1 : decode cX5_init 1 = .ok (.invokespecial 3, 3) := by decide +kernel
theorem dX5_init_4 : decode cX5_init 4 = .ok (.aload_n 0, 1) := by decide +kernel
theorem dX5_init_5 : decode cX5_init 5 = .ok (.bipush 6, 2) := by decide +kernel
theorem dX5_init_7 : decode cX5_init 7 = .ok (.newarray .int, 2) := by decide +kernel
theorem dX5_init_9 : decode cX5_init 9 = .ok (.putfield 9, 3) := by decide +kernel
theorem dX5_init_12 : decode cX5_init 12 = .ok (.return_, 1) := by decide +kernel
theorem dX5_copyFrom_0 : decode cX5_copyFrom 0 = .ok (.aload_n 0, 1) := by decide +kernel
theorem dX5_copyFrom_1 : decode cX5_copyFrom 1 = .ok (.aload_n 1, 1) := by decide +kernel
theorem dX5_copyFrom_2 : decode cX5_copyFrom 2 = .ok (.getfield 15, 3) := by decide +kernel
theorem dX5_copyFrom_5 : decode cX5_copyFrom 5 = .ok (.putfield 15, 3) := by decide +kernel
theorem dX5_copyFrom_8 : decode cX5_copyFrom 8 = .ok (.aload_n 1, 1) := by decide +kernel
theorem dX5_copyFrom_9 : decode cX5_copyFrom 9 = .ok (.getfield 9, 3) := by decide +kernel
theorem dX5_copyFrom_12 : decode cX5_copyFrom 12 = .ok (.iconst 0, 1) := by decide +kernel
theorem dX5_copyFrom_13 : decode cX5_copyFrom 13 = .ok (.aload_n 0, 1) := by decide +kernel
theorem dX5_copyFrom_14 : decode cX5_copyFrom 14 = .ok (.getfield 9, 3) := by decide +kernel
theorem dX5_copyFrom_17 : decode cX5_copyFrom 17 = .ok (.iconst 0, 1) := by decide +kernel
theorem dX5_copyFrom_18 : decode cX5_copyFrom 18 = .ok (.bipush 6, 2) := by decide +kernel
theorem dX5_copyFrom_20 : decode cX5_copyFrom 20 = .ok (.invokestatic 19, 3) := by decide +kernel
theorem dX5_copyFrom_23 : decode cX5_copyFrom 23 = .ok (.return_, 1) := by decide +kernel
theorem dX6_init_0 : decode cX6_init 0 = .ok (.aload_n 0, 1) := by decide +kernel
theorem dX6_init_1 : decode cX6_init 1 = .ok (.invokespecial 3, 3) := by decide +kernel
theorem dX6_init_4 : decode cX6_init 4 = .ok (.aload_n 0, 1) := by decide +kernel
theorem dX6_init_5 : decode cX6_init 5 = .ok (.bipush 6, 2) := by decide +kernel
theorem dX6_init_7 : decode cX6_init 7 = .ok (.newarray .int, 2) := by decide +kernel
theorem dX6_init_9 : decode cX6_init 9 = .ok (.putfield 9, 3) := by decide +kernel
theorem dX6_init_12 : decode cX6_init 12 = .ok (.aload_n 0, 1) := by decide +kernel
theorem dX6_init_13 : decode cX6_init 13 = .ok (.bipush 6, 2) := by decide +kernel
theorem dX6_init_15 : decode cX6_init 15 = .ok (.newarray .int, 2) := by decide +kernel
theorem dX6_init_17 : decode cX6_init 17 = .ok (.putfield 15, 3) := by decide +kernel
theorem dX6_init_20 : decode cX6_init 20 = .ok (.aload_n 0, 1) := by decide +kernel
theorem dX6_init_21 : decode cX6_init 21 = .ok (.bipush 6, 2) := by decide +kernel
theorem dX6_init_23 : decode cX6_init 23 = .ok (.newarray .int, 2) := by decide +kernel
theorem dX6_init_25 : decode cX6_init 25 = .ok (.putfield 18, 3) := by decide +kernel
theorem dX6_init_28 : decode cX6_init 28 = .ok (.aload_n 0, 1) := by decide +kernel
theorem dX6_init_29 : decode cX6_init 29 = .ok (.bipush 6, 2) := by decide +kernel
theorem dX6_init_31 : decode cX6_init 31 = .ok (.newarray .int, 2) := by decide +kernel
theorem dX6_init_33 : decode cX6_init 33 = .ok (.putfield 21, 3) := by decide +kernel
theorem dX6_init_36 : decode cX6_init 36 = .ok (.return_, 1) := by decide +kernel
theorem dX6_copyFrom_0 : decode cX6_copyFrom 0 = .ok (.aload_n 0, 1) := by decide +kernel
theorem dX6_copyFrom_1 : decode cX6_copyFrom 1 = .ok (.aload_n 1, 1) := by decide +kernel
theorem dX6_copyFrom_2 : decode cX6_copyFrom 2 = .ok (.getfield 24, 3) := by decide +kernel
theorem dX6_copyFrom_5 : decode cX6_copyFrom 5 = .ok (.putfield 24, 3) := by decide +kernel
theorem dX6_copyFrom_8 : decode cX6_copyFrom 8 = .ok (.aload_n 1, 1) := by decide +kernel
theorem dX6_copyFrom_9 : decode cX6_copyFrom 9 = .ok (.getfield 9, 3) := by decide +kernel
theorem dX6_copyFrom_12 : decode cX6_copyFrom 12 = .ok (.iconst 0, 1) := by decide +kernel
theorem dX6_copyFrom_13 : decode cX6_copyFrom 13 = .ok (.aload_n 0, 1) := by decide +kernel
theorem dX6_copyFrom_14 : decode cX6_copyFrom 14 = .ok (.getfield 9, 3) := by decide +kernel
theorem dX6_copyFrom_17 : decode cX6_copyFrom 17 = .ok (.iconst 0, 1) := by decide +kernel
theorem dX6_copyFrom_18 : decode cX6_copyFrom 18 = .ok (.bipush 6, 2) := by decide +kernel
theorem dX6_copyFrom_20 : decode cX6_copyFrom 20 = .ok (.invokestatic 28, 3) := by decide +kernel
theorem dX6_copyFrom_23 : decode cX6_copyFrom 23 = .ok (.aload_n 1, 1) := by decide +kernel
theorem dX6_copyFrom_24 : decode cX6_copyFrom 24 = .ok (.getfield 15, 3) := by decide +kernel
theorem dX6_copyFrom_27 : decode cX6_copyFrom 27 = .ok (.iconst 0, 1) := by decide +kernel
theorem dX6_copyFrom_28 : decode cX6_copyFrom 28 = .ok (.aload_n 0, 1) := by decide +kernel
theorem dX6_copyFrom_29 : decode cX6_copyFrom 29 = .ok (.getfield 15, 3) := by decide +kernel
theorem dX6_copyFrom_32 : decode cX6_copyFrom 32 = .ok (.iconst 0, 1) := by decide +kernel
theorem dX6_copyFrom_33 : decode cX6_copyFrom 33 = .ok (.bipush 6, 2) := by decide +kernel
theorem dX6_copyFrom_35 : decode cX6_copyFrom 35 = .ok (.invokestatic 28, 3) := by decide +kernel
theorem dX6_copyFrom_38 : decode cX6_copyFrom 38 = .ok (.aload_n 1, 1) := by decide +kernel
theorem dX6_copyFrom_39 : decode cX6_copyFrom 39 = .ok (.getfield 18, 3) := by decide +kernel
theorem dX6_copyFrom_42 : decode cX6_copyFrom 42 = .ok (.iconst 0, 1) := by decide +kernel
theorem dX6_copyFrom_43 : decode cX6_copyFrom 43 = .ok (.aload_n 0, 1) := by decide +kernel
theorem dX6_copyFrom_44 : decode cX6_copyFrom 44 = .ok (.getfield 18, 3) := by decide +kernel
theorem dX6_copyFrom_47 : decode cX6_copyFrom 47 = .ok (.iconst 0, 1) := by decide +kernel
theorem dX6_copyFrom_48 : decode cX6_copyFrom 48 = .ok (.bipush 6, 2) := by decide +kernel
theorem dX6_copyFrom_50 : decode cX6_copyFrom 50 = .ok (.invokestatic 28, 3) := by decide +kernel
theorem dX6_copyFrom_53 : decode cX6_copyFrom 53 = .ok (.aload_n 1, 1) := by decide +kernel
theorem dX6_copyFrom_54 : decode cX6_copyFrom 54 = .ok (.getfield 21, 3) := by decide +kernel
theorem dX6_copyFrom_57 : decode cX6_copyFrom 57 = .ok (.iconst 0, 1) := by decide +kernel
theorem dX6_copyFrom_58 : decode cX6_copyFrom 58 = .ok (.aload_n 0, 1) := by decide +kernel
theorem dX6_copyFrom_59 : decode cX6_copyFrom 59 = .ok (.getfield 21, 3) := by decide +kernel
theorem dX6_copyFrom_62 : decode cX6_copyFrom 62 = .ok (.iconst 0, 1) := by decide +kernel
theorem dX6_copyFrom_63 : decode cX6_copyFrom 63 = .ok (.bipush 6, 2) := by decide +kernel
theorem dX6_copyFrom_65 : decode cX6_copyFrom 65 = .ok (.invokestatic 28, 3) := by decide +kernel
theorem dX6_copyFrom_68 : decode cX6_copyFrom 68 = .ok (.return_, 1) := by decide +kernel
set_option maxRecDepth 20000 in
theorem ggX6_has_X7_isKind : GoodIn wsX6_has wsX7_isKind := goodIn_r _ [4, 5, 6, 3, 7] (by decide +kernel) (by decide +kernel)
set_option maxRecDepth 20000 in
theorem gX6_has_X7_isKind_n34 : GoodIn wsX6_has (wsX7_isKind) := ggX6_has_X7_isKind
theorem dX6_has_0 : decode cX6_has 0 = .ok (.iload_n 1, 1) := by decide +kernel
theorem dX6_has_1 : decode cX6_has 1 = .ok (.invokestatic 34, 3) := by decide +kernel
theorem dX6_has_4 : decode cX6_has 4 = .ok (.ifCond .eq 19, 3) := by decide +kernel
theorem dX6_has_7 : decode cX6_has 7 = .ok (.aload_n 0, 1) := by decide +kernel
theorem dX6_has_8 : decode cX6_has 8 = .ok (.getfield 24, 3) := by decide +kernel
theorem dX6_has_11 : decode cX6_has 11 = .ok (.iload_n 1, 1) := by decide +kernel
theorem dX6_has_12 : decode cX6_has 12 = .ok (.ishr, 1) := by decide +kernel
theorem dX6_has_13 : decode cX6_has 13 = .ok (.iconst 1, 1) := by decide +kernel
theorem dX6_has_14 : decode cX6_has 14 = .ok (.iand, 1) := by decide +kernel
theorem dX6_has_15 : decode cX6_has 15 = .ok (.iconst 1, 1) := by decide +kernel
theorem dX6_has_16 : decode cX6_has 16 = .ok (.if_icmp .ne 7, 3) := by decide +kernel
theorem dX6_has_19 : decode cX6_has 19 = .ok (.iconst 1, 1) := by decide +kernel
theorem dX6_has_20 : decode cX6_has 20 = .ok (.goto 4, 3) := by decide +kernel
theorem dX6_has_23 : decode cX6_has 23 = .ok (.iconst 0, 1) := by decide +kernel
theorem dX6_has_24 : decode cX6_has 24 = .ok (.ireturn, 1) := by decide +kernel
theorem dX6_tellApart_0 : decode cX6_tellApart 0 = .ok (.iload_n 3, 1) := by decide +kernel
theorem dX6_tellApart_1 : decode cX6_tellApart 1 = .ok (.ifCond .eq 30, 3) := by decide +kernel
theorem dX6_tellApart_4 : decode cX6_tellApart 4 = .ok (.aload_n 0, 1) := by decide +kernel
theorem dX6_tellApart_5 : decode cX6_tellApart 5 = .ok (.getfield 21, 3) := by decide +kernel
theorem dX6_tellApart_8 : decode cX6_tellApart 8 = .ok (.iload_n 1, 1) := by decide +kernel
theorem dX6_tellApart_9 : decode cX6_tellApart 9 = .ok (.dup2, 1) := by decide +kernel
theorem dX6_tellApart_10 : decode cX6_tellApart 10 = .ok (.iaload, 1) := by decide +kernel
theorem dX6_tellApart_11 : decode cX6_tellApart 11 = .ok (.iconst 1, 1) := by decide +kernel
theorem dX6_tellApart_12 : decode cX6_tellApart 12 = .ok (.iload_n 2, 1) := by decide +kernel
theorem dX6_tellApart_13 : decode cX6_tellApart 13 = .ok (.ishl, 1) := by decide +kernel
theorem dX6_tellApart_14 : decode cX6_tellApart 14 = .ok (.ior, 1) := by decide +kernel
theorem dX6_tellApart_15 : decode cX6_tellApart 15 = .ok (.iastore, 1) := by decide +kernel
theorem dX6_tellApart_16 : decode cX6_tellApart 16 = .ok (.aload_n 0, 1) := by decide +kernel
theorem dX6_tellApart_17 : decode cX6_tellApart 17 = .ok (.getfield 21, 3) := by decide +kernel
theorem dX6_tellApart_20 : decode cX6_tellApart 20 = .ok (.iload_n 2, 1) := by decide +kernel
theorem dX6_tellApart_21 : decode cX6_tellApart 21 = .ok (.dup2, 1) := by decide +kernel
theorem dX6_tellApart_22 : decode cX6_tellApart 22 = .ok (.iaload, 1) := by decide +kernel
theorem dX6_tellApart_23 : decode cX6_tellApart 23 = .ok (.iconst 1, 1) := by decide +kernel
theorem dX6_tellApart_24 : decode cX6_tellApart 24 = .ok (.iload_n 1, 1) := by decide +kernel
theorem dX6_tellApart_25 : decode cX6_tellApart 25 = .ok (.ishl, 1) := by decide +kernel
theorem dX6_tellApart_26 : decode cX6_tellApart 26 = .ok (.ior, 1) := by decide +kernel
theorem dX6_tellApart_27 : decode cX6_tellApart 27 = .ok (.iastore, 1) := by decide +kernel
theorem dX6_tellApart_28 : decode cX6_tellApart 28 = .ok (.goto 31, 3) := by decide +kernel
theorem dX6_tellApart_31 : decode cX6_tellApart 31 = .ok (.aload_n 0, 1) := by decide +kernel
theorem dX6_tellApart_32 : decode cX6_tellApart 32 = .ok (.getfield 21, 3) := by decide +kernel
theorem dX6_tellApart_35 : decode cX6_tellApart 35 = .ok (.iload_n 1, 1) := by decide +kernel
theorem dX6_tellApart_36 : decode cX6_tellApart 36 = .ok (.dup2, 1) := by decide +kernel
theorem dX6_tellApart_37 : decode cX6_tellApart 37 = .ok (.iaload, 1) := by decide +kernel
theorem dX6_tellApart_38 : decode cX6_tellApart 38 = .ok (.iconst 1, 1) := by decide +kernel
theorem dX6_tellApart_39 : decode cX6_tellApart 39 = .ok (.iload_n 2, 1) := by decide +kernel
theorem dX6_tellApart_40 : decode cX6_tellApart 40 = .ok (.ishl, 1) := by decide +kernel
theorem dX6_tellApart_41 : decode cX6_tellApart 41 = .ok (.iconst (-1), 1) := by decide +kernel
theorem dX6_tellApart_42 : decode cX6_tellApart 42 = .ok (.ixor, 1) := by decide +kernel
theorem dX6_tellApart_43 : decode cX6_tellApart 43 = .ok (.iand, 1) := by decide +kernel
theorem dX6_tellApart_44 : decode cX6_tellApart 44 = .ok (.iastore, 1) := by decide +kernel
theorem dX6_tellApart_45 : decode cX6_tellApart 45 = .ok (.aload_n 0, 1) := by decide +kernel
theorem dX6_tellApart_46 : decode cX6_tellApart 46 = .ok (.getfield 21, 3) := by decide +kernel
theorem dX6_tellApart_49 : decode cX6_tellApart 49 = .ok (.iload_n 2, 1) := by decide +kernel
theorem dX6_tellApart_50 : decode cX6_tellApart 50 = .ok (.dup2, 1) := by decide +kernel
theorem dX6_tellApart_51 : decode cX6_tellApart 51 = .ok (.iaload, 1) := by decide +kernel
theorem dX6_tellApart_52 : decode cX6_tellApart 52 = .ok (.iconst 1, 1) := by decide +kernel
theorem dX6_tellApart_53 : decode cX6_tellApart 53 = .ok (.iload_n 1, 1) := by decide +kernel
theorem dX6_tellApart_54 : decode cX6_tellApart 54 = .ok (.ishl, 1) := by decide +kernel
theorem dX6_tellApart_55 : decode cX6_tellApart 55 = .ok (.iconst (-1), 1) := by decide +kernel
theorem dX6_tellApart_56 : decode cX6_tellApart 56 = .ok (.ixor, 1) := by decide +kernel
theorem dX6_tellApart_57 : decode cX6_tellApart 57 = .ok (.iand, 1) := by decide +kernel
theorem dX6_tellApart_58 : decode cX6_tellApart 58 = .ok (.iastore, 1) := by decide +kernel
theorem dX6_tellApart_59 : decode cX6_tellApart 59 = .ok (.return_, 1) := by decide +kernel
theorem dX6_mustBeApart_0 : decode cX6_mustBeApart 0 = .ok (.aload_n 0, 1) := by decide +kernel
theorem dX6_mustBeApart_1 : decode cX6_mustBeApart 1 = .ok (.getfield 21, 3) := by decide +kernel
theorem dX6_mustBeApart_4 : decode cX6_mustBeApart 4 = .ok (.iload_n 1, 1) := by decide +kernel
theorem dX6_mustBeApart_5 : decode cX6_mustBeApart 5 = .ok (.iaload, 1) := by decide +kernel
theorem dX6_mustBeApart_6 : decode cX6_mustBeApart 6 = .ok (.iload_n 2, 1) := by decide +kernel
theorem dX6_mustBeApart_7 : decode cX6_mustBeApart 7 = .ok (.ishr, 1) := by decide +kernel
theorem dX6_mustBeApart_8 : decode cX6_mustBeApart 8 = .ok (.iconst 1, 1) := by decide +kernel
theorem dX6_mustBeApart_9 : decode cX6_mustBeApart 9 = .ok (.iand, 1) := by decide +kernel
theorem dX6_mustBeApart_10 : decode cX6_mustBeApart 10 = .ok (.iconst 1, 1) := by decide +kernel
theorem dX6_mustBeApart_11 : decode cX6_mustBeApart 11 = .ok (.if_icmp .ne 7, 3) := by decide +kernel
theorem dX6_mustBeApart_14 : decode cX6_mustBeApart 14 = .ok (.iconst 1, 1) := by decide +kernel
theorem dX6_mustBeApart_15 : decode cX6_mustBeApart 15 = .ok (.goto 4, 3) := by decide +kernel
theorem dX6_mustBeApart_18 : decode cX6_mustBeApart 18 = .ok (.iconst 0, 1) := by decide +kernel
theorem dX6_mustBeApart_19 : decode cX6_mustBeApart 19 = .ok (.ireturn, 1) := by decide +kernel
theorem dX6_burntFrom_0 : decode cX6_burntFrom 0 = .ok (.aload_n 0, 1) := by decide +kernel
theorem dX6_burntFrom_1 : decode cX6_burntFrom 1 = .ok (.getfield 9, 3) := by decide +kernel
theorem dX6_burntFrom_4 : decode cX6_burntFrom 4 = .ok (.iload_n 1, 1) := by decide +kernel
theorem dX6_burntFrom_5 : decode cX6_burntFrom 5 = .ok (.iaload, 1) := by decide +kernel
theorem dX6_burntFrom_6 : decode cX6_burntFrom 6 = .ok (.aload_n 0, 1) := by decide +kernel
theorem dX6_burntFrom_7 : decode cX6_burntFrom 7 = .ok (.getfield 15, 3) := by decide +kernel
theorem dX6_burntFrom_10 : decode cX6_burntFrom 10 = .ok (.iload_n 1, 1) := by decide +kernel
theorem dX6_burntFrom_11 : decode cX6_burntFrom 11 = .ok (.iaload, 1) := by decide +kernel
theorem dX6_burntFrom_12 : decode cX6_burntFrom 12 = .ok (.iadd, 1) := by decide +kernel
theorem dX6_burntFrom_13 : decode cX6_burntFrom 13 = .ok (.iconst 1, 1) := by decide +kernel
theorem dX6_burntFrom_14 : decode cX6_burntFrom 14 = .ok (.iadd, 1) := by decide +kernel
theorem dX6_burntFrom_15 : decode cX6_burntFrom 15 = .ok (.ireturn, 1) := by decide +kernel
set_option maxRecDepth 20000 in
theorem ggX6_verdict_X6_burntFrom : GoodIn wsX6_verdict wsX6_burntFrom := goodIn_r _ [6, 1, 7, 8, 9, 10, 11, 12] (by decide +kernel) (by decide +kernel)
set_option maxRecDepth 20000 in
theorem gX6_verdict_X6_burntFrom : GoodIn wsX6_verdict (wsV RX6 38 RX6 yX6_burntFrom wsX6_burntFrom) := goodIn_app (goodIn_of _ (by decide +kernel)) ggX6_verdict_X6_burntFrom
theorem dX6_verdict_0 : decode cX6_verdict 0 = .ok (.iload_n 2, 1) := by decide +kernel
theorem dX6_verdict_1 : decode cX6_verdict 1 = .ok (.aload_n 0, 1) := by decide +kernel
theorem dX6_verdict_2 : decode cX6_verdict 2 = .ok (.getfield 9, 3) := by decide +kernel
theorem dX6_verdict_5 : decode cX6_verdict 5 = .ok (.iload_n 1, 1) := by decide +kernel
theorem dX6_verdict_6 : decode cX6_verdict 6 = .ok (.iaload, 1) := by decide +kernel
theorem dX6_verdict_7 : decode cX6_verdict 7 = .ok (.if_icmp .ge 5, 3) := by decide +kernel
theorem dX6_verdict_10 : decode cX6_verdict 10 = .ok (.iconst 0, 1) := by decide +kernel
theorem dX6_verdict_11 : decode cX6_verdict 11 = .ok (.ireturn, 1) := by decide +kernel
theorem dX6_verdict_12 : decode cX6_verdict 12 = .ok (.iload_n 2, 1) := by decide +kernel
theorem dX6_verdict_13 : decode cX6_verdict 13 = .ok (.aload_n 0, 1) := by decide +kernel
theorem dX6_verdict_14 : decode cX6_verdict 14 = .ok (.iload_n 1, 1) := by decide +kernel
theorem dX6_verdict_15 : decode cX6_verdict 15 = .ok (.invokevirtual 38, 3) := by decide +kernel
theorem dX6_verdict_18 : decode cX6_verdict 18 = .ok (.if_icmp .ge 7, 3) := by decide +kernel
theorem dX6_verdict_21 : decode cX6_verdict 21 = .ok (.iconst 1, 1) := by decide +kernel
theorem dX6_verdict_22 : decode cX6_verdict 22 = .ok (.goto 4, 3) := by decide +kernel
theorem dX6_verdict_25 : decode cX6_verdict 25 = .ok (.iconst 2, 1) := by decide +kernel
theorem dX6_verdict_26 : decode cX6_verdict 26 = .ok (.ireturn, 1) := by decide +kernel
set_option maxRecDepth 20000 in
theorem ggX6_tellOf_X6_has : GoodIn wsX6_tellOf wsX6_has := goodIn_r _ [9, 10, 11, 12, 13, 14, 15, 16, 17, 18, 19, 20, 21] (by decide +kernel) (by decide +kernel)
set_option maxRecDepth 20000 in
theorem gX6_tellOf_X6_has : GoodIn wsX6_tellOf (wsV RX6 42 RX6 yX6_has wsX6_has) := goodIn_app (goodIn_of _ (by decide +kernel)) ggX6_tellOf_X6_has
theorem dX6_tellOf_0 : decode cX6_tellOf 0 = .ok (.aload_n 0, 1) := by decide +kernel
theorem dX6_tellOf_1 : decode cX6_tellOf 1 = .ok (.iload_n 1, 1) := by decide +kernel
theorem dX6_tellOf_2 : decode cX6_tellOf 2 = .ok (.invokevirtual 42, 3) := by decide +kernel
theorem dX6_tellOf_5 : decode cX6_tellOf 5 = .ok (.ifCond .ne 6, 3) := by decide +kernel
theorem dX6_tellOf_8 : decode cX6_tellOf 8 = .ok (.bipush (-2), 2) := by decide +kernel
theorem dX6_tellOf_10 : decode cX6_tellOf 10 = .ok (.ireturn, 1) := by decide +kernel
theorem dX6_tellOf_11 : decode cX6_tellOf 11 = .ok (.iload_n 2, 1) := by decide +kernel
theorem dX6_tellOf_12 : decode cX6_tellOf 12 = .ok (.tableswitch 60 0 3 #[32, 39, 46, 53], 32) := by decide +kernel
theorem dX6_tellOf_44 : decode cX6_tellOf 44 = .ok (.aload_n 0, 1) := by decide +kernel
theorem dX6_tellOf_45 : decode cX6_tellOf 45 = .ok (.getfield 9, 3) := by decide +kernel
theorem dX6_tellOf_48 : decode cX6_tellOf 48 = .ok (.iload_n 1, 1) := by decide +kernel
theorem dX6_tellOf_49 : decode cX6_tellOf 49 = .ok (.iaload, 1) := by decide +kernel
theorem dX6_tellOf_50 : decode cX6_tellOf 50 = .ok (.ireturn, 1) := by decide +kernel
theorem dX6_tellOf_51 : decode cX6_tellOf 51 = .ok (.aload_n 0, 1) := by decide +kernel
theorem dX6_tellOf_52 : decode cX6_tellOf 52 = .ok (.getfield 15, 3) := by decide +kernel
theorem dX6_tellOf_55 : decode cX6_tellOf 55 = .ok (.iload_n 1, 1) := by decide +kernel
theorem dX6_tellOf_56 : decode cX6_tellOf 56 = .ok (.iaload, 1) := by decide +kernel
theorem dX6_tellOf_57 : decode cX6_tellOf 57 = .ok (.ireturn, 1) := by decide +kernel
theorem dX6_tellOf_58 : decode cX6_tellOf 58 = .ok (.aload_n 0, 1) := by decide +kernel
theorem dX6_tellOf_59 : decode cX6_tellOf 59 = .ok (.getfield 18, 3) := by decide +kernel
theorem dX6_tellOf_62 : decode cX6_tellOf 62 = .ok (.iload_n 1, 1) := by decide +kernel
theorem dX6_tellOf_63 : decode cX6_tellOf 63 = .ok (.iaload, 1) := by decide +kernel
theorem dX6_tellOf_64 : decode cX6_tellOf 64 = .ok (.ireturn, 1) := by decide +kernel
theorem dX6_tellOf_65 : decode cX6_tellOf 65 = .ok (.aload_n 0, 1) := by decide +kernel
theorem dX6_tellOf_66 : decode cX6_tellOf 66 = .ok (.getfield 21, 3) := by decide +kernel
theorem dX6_tellOf_69 : decode cX6_tellOf 69 = .ok (.iload_n 1, 1) := by decide +kernel
theorem dX6_tellOf_70 : decode cX6_tellOf 70 = .ok (.iaload, 1) := by decide +kernel
theorem dX6_tellOf_71 : decode cX6_tellOf 71 = .ok (.ireturn, 1) := by decide +kernel
theorem dX6_tellOf_72 : decode cX6_tellOf 72 = .ok (.bipush (-2), 2) := by decide +kernel
theorem dX6_tellOf_74 : decode cX6_tellOf 74 = .ok (.ireturn, 1) := by decide +kernel
