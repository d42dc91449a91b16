set_option maxRecDepth 20000 in
theorem ggX8_init_X3_init : GoodIn wsX8_init wsX3_init := goodIn_r _ [18, 19, 2, 3, 20, 21, 22, 23, 24, 25, 26, 27, 28, 29, 30, 31, 32, 33, 34, 35, 36, 37, 38, 39, 40, 41, 42, 43, 44, 45, 46, 47, 48, 49, 50, 51, 52, 53, 54, 55, 56, 98, 99, 100, 80, 81, 82, 83, 101, 102, 103, 104, 105, 106, 107] (by decide +kernel) (by decide +kernel)
set_option maxRecDepth 20000 in
theorem gX8_init_X3_init_n9 : GoodIn wsX8_init (wsX3_init) := ggX8_init_X3_init
set_option maxRecDepth 20000 in
theorem ggX8_init_X4_init : GoodIn wsX8_init wsX4_init := goodIn_r _ [58, 59, 2, 3, 45, 60, 61, 62, 63, 29, 30, 64, 65, 66, 67, 68, 47, 48, 49, 50, 69, 70, 71, 72, 89, 90, 91, 92, 93, 94, 103, 104, 108, 109, 110, 111, 112, 113] (by decide +kernel) (by decide +kernel)
set_option maxRecDepth 20000 in
theorem gX8_init_X4_init_n22 : GoodIn wsX8_init (wsX4_init) := ggX8_init_X4_init
set_option maxRecDepth 20000 in
theorem ggX8_init_X5_init : GoodIn wsX8_init wsX5_init := goodIn_r _ [74, 75, 2, 3, 76, 25, 26, 77, 78, 33, 34, 79, 42, 43, 44, 45, 46, 51, 52, 53, 54, 55, 56, 101, 102, 95, 96, 97, 105, 106, 107] (by decide +kernel) (by decide +kernel)
set_option maxRecDepth 20000 in
theorem gX8_init_X5_init_n29 : GoodIn wsX8_init (wsX5_init) := ggX8_init_X5_init
theorem dX8_init_0 : decode cX8_init 0 = .ok (.aload_n 0, 1) := by decide +kernel
theorem dX8_init_1 : decode cX8_init 1 = .ok (.invokespecial 1, 3) := by decide +kernel
theorem dX8_init_4 : decode cX8_init 4 = .ok (.aload_n 0, 1) := by decide +kernel
theorem dX8_init_5 : decode cX8_init 5 = .ok (.new 7, 3) := by decide +kernel
theorem dX8_init_8 : decode cX8_init 8 = .ok (.dup, 1) := by decide +kernel
theorem dX8_init_9 : decode cX8_init 9 = .ok (.invokespecial 9, 3) := by decide +kernel
theorem dX8_init_12 : decode cX8_init 12 = .ok (.putfield 10, 3) := by decide +kernel
theorem dX8_init_15 : decode cX8_init 15 = .ok (.aload_n 0, 1) := by decide +kernel
theorem dX8_init_16 : decode cX8_init 16 = .ok (.iconst 2, 1) := by decide +kernel
theorem dX8_init_17 : decode cX8_init 17 = .ok (.anewarray 7, 3) := by decide +kernel
theorem dX8_init_20 : decode cX8_init 20 = .ok (.dup, 1) := by decide +kernel
theorem dX8_init_21 : decode cX8_init 21 = .ok (.iconst 0, 1) := by decide +kernel
theorem dX8_init_22 : decode cX8_init 22 = .ok (.new 7, 3) := by decide +kernel
theorem dX8_init_25 : decode cX8_init 25 = .ok (.dup, 1) := by decide +kernel
theorem dX8_init_26 : decode cX8_init 26 = .ok (.invokespecial 9, 3) := by decide +kernel
theorem dX8_init_29 : decode cX8_init 29 = .ok (.aastore, 1) := by decide +kernel
theorem dX8_init_30 : decode cX8_init 30 = .ok (.dup, 1) := by decide +kernel
theorem dX8_init_31 : decode cX8_init 31 = .ok (.iconst 1, 1) := by decide +kernel
theorem dX8_init_32 : decode cX8_init 32 = .ok (.new 7, 3) := by decide +kernel
theorem dX8_init_35 : decode cX8_init 35 = .ok (.dup, 1) := by decide +kernel
theorem dX8_init_36 : decode cX8_init 36 = .ok (.invokespecial 9, 3) := by decide +kernel
theorem dX8_init_39 : decode cX8_init 39 = .ok (.aastore, 1) := by decide +kernel
theorem dX8_init_40 : decode cX8_init 40 = .ok (.putfield 16, 3) := by decide +kernel
theorem dX8_init_43 : decode cX8_init 43 = .ok (.aload_n 0, 1) := by decide +kernel
theorem dX8_init_44 : decode cX8_init 44 = .ok (.new 20, 3) := by decide +kernel
theorem dX8_init_47 : decode cX8_init 47 = .ok (.dup, 1) := by decide +kernel
theorem dX8_init_48 : decode cX8_init 48 = .ok (.invokespecial 22, 3) := by decide +kernel
theorem dX8_init_51 : decode cX8_init 51 = .ok (.putfield 23, 3) := by decide +kernel
theorem dX8_init_54 : decode cX8_init 54 = .ok (.aload_n 0, 1) := by decide +kernel
theorem dX8_init_55 : decode cX8_init 55 = .ok (.new 27, 3) := by decide +kernel
theorem dX8_init_58 : decode cX8_init 58 = .ok (.dup, 1) := by decide +kernel
theorem dX8_init_59 : decode cX8_init 59 = .ok (.invokespecial 29, 3) := by decide +kernel
theorem dX8_init_62 : decode cX8_init 62 = .ok (.putfield 30, 3) := by decide +kernel
theorem dX8_init_65 : decode cX8_init 65 = .ok (.return_, 1) := by decide +kernel
set_option maxRecDepth 20000 in
theorem ggX8_rule_X6_highest : GoodIn wsX8_rule wsX6_highest := goodIn_r _ [9, 10, 11, 12, 13, 14, 15, 50, 51] (by decide +kernel) (by decide +kernel)
set_option maxRecDepth 20000 in
theorem gX8_rule_X6_highest : GoodIn wsX8_rule (wsV RX8 38 RX6 yX6_highest wsX6_highest) := goodIn_app (goodIn_of _ (by decide +kernel)) ggX8_rule_X6_highest
set_option maxRecDepth 20000 in
theorem ggX8_rule_X8_topOf : GoodIn wsX8_rule wsX8_topOf := goodIn_r _ [19] (by decide +kernel) (by decide +kernel)
set_option maxRecDepth 20000 in
theorem gX8_rule_X8_topOf : GoodIn wsX8_rule (va_wsS RX8 44 yX8_topOf wsX8_topOf) := goodIn_app (goodIn_of _ (by decide +kernel)) ggX8_rule_X8_topOf
set_option maxRecDepth 20000 in
theorem ggX8_rule_X7_value : GoodIn wsX8_rule wsX7_value := goodIn_r _ [24, 25, 26, 27, 52, 53, 54] (by decide +kernel) (by decide +kernel)
set_option maxRecDepth 20000 in
theorem gX8_rule_X7_value : GoodIn wsX8_rule (wsV RX8 52 RX7 yX7_value wsX7_value) := goodIn_app (goodIn_of _ (by decide +kernel)) ggX8_rule_X7_value
set_option maxRecDepth 20000 in
theorem ggX8_rule_X7_change : GoodIn wsX8_rule wsX7_change := goodIn_r _ [31, 25, 26, 27, 52, 53, 54] (by decide +kernel) (by decide +kernel)
set_option maxRecDepth 20000 in
theorem gX8_rule_X7_change : GoodIn wsX8_rule (wsV RX8 57 RX7 yX7_change wsX7_change) := goodIn_app (goodIn_of _ (by decide +kernel)) ggX8_rule_X7_change
set_option maxRecDepth 20000 in
theorem ggX8_rule_X4_keepOnly : GoodIn wsX8_rule wsX4_keepOnly := goodIn_r _ [36, 37, 38, 39, 40, 55, 56, 57, 58, 59, 60, 61, 62] (by decide +kernel) (by decide +kernel)
set_option maxRecDepth 20000 in
theorem gX8_rule_X4_keepOnly : GoodIn wsX8_rule (wsV RX8 61 RX4 yX4_keepOnly wsX4_keepOnly) := goodIn_app (goodIn_of _ (by decide +kernel)) ggX8_rule_X4_keepOnly
theorem dX8_rule_0 : decode cX8_rule 0 = .ok (.iload_n 1, 1) := by decide +kernel
theorem dX8_rule_1 : decode cX8_rule 1 = .ok (.ifCond .lt 8, 3) := by decide +kernel
theorem dX8_rule_4 : decode cX8_rule 4 = .ok (.iload_n 1, 1) := by decide +kernel
theorem dX8_rule_5 : decode cX8_rule 5 = .ok (.iconst 2, 1) := by decide +kernel
theorem dX8_rule_6 : decode cX8_rule 6 = .ok (.if_icmp .le 6, 3) := by decide +kernel
theorem dX8_rule_9 : decode cX8_rule 9 = .ok (.bipush (-2), 2) := by decide +kernel
theorem dX8_rule_11 : decode cX8_rule 11 = .ok (.ireturn, 1) := by decide +kernel
theorem dX8_rule_12 : decode cX8_rule 12 = .ok (.iload_n 1, 1) := by decide +kernel
theorem dX8_rule_13 : decode cX8_rule 13 = .ok (.ifCond .ne 7, 3) := by decide +kernel
theorem dX8_rule_16 : decode cX8_rule 16 = .ok (.iconst 2, 1) := by decide +kernel
theorem dX8_rule_17 : decode cX8_rule 17 = .ok (.goto 4, 3) := by decide +kernel
theorem dX8_rule_20 : decode cX8_rule 20 = .ok (.iconst 1, 1) := by decide +kernel
theorem dX8_rule_21 : decode cX8_rule 21 = .ok (.istore_n 3, 1) := by decide +kernel
theorem dX8_rule_22 : decode cX8_rule 22 = .ok (.iload_n 2, 1) := by decide +kernel
theorem dX8_rule_23 : decode cX8_rule 23 = .ok (.iload_n 3, 1) := by decide +kernel
theorem dX8_rule_24 : decode cX8_rule 24 = .ok (.if_icmp .lt 9, 3) := by decide +kernel
theorem dX8_rule_27 : decode cX8_rule 27 = .ok (.iload_n 2, 1) := by decide +kernel
theorem dX8_rule_28 : decode cX8_rule 28 = .ok (.bipush 8, 2) := by decide +kernel
theorem dX8_rule_30 : decode cX8_rule 30 = .ok (.if_icmp .le 6, 3) := by decide +kernel
theorem dX8_rule_33 : decode cX8_rule 33 = .ok (.bipush (-2), 2) := by decide +kernel
theorem dX8_rule_35 : decode cX8_rule 35 = .ok (.ireturn, 1) := by decide +kernel
theorem dX8_rule_36 : decode cX8_rule 36 = .ok (.iload_n 1, 1) := by decide +kernel
theorem dX8_rule_37 : decode cX8_rule 37 = .ok (.ifCond .ne 23, 3) := by decide +kernel
theorem dX8_rule_40 : decode cX8_rule 40 = .ok (.aload_n 0, 1) := by decide +kernel
theorem dX8_rule_41 : decode cX8_rule 41 = .ok (.getfield 10, 3) := by decide +kernel
theorem dX8_rule_44 : decode cX8_rule 44 = .ok (.getfield 34, 3) := by decide +kernel
theorem dX8_rule_47 : decode cX8_rule 47 = .ok (.invokevirtual 38, 3) := by decide +kernel
theorem dX8_rule_50 : decode cX8_rule 50 = .ok (.iload_n 2, 1) := by decide +kernel
theorem dX8_rule_51 : decode cX8_rule 51 = .ok (.invokestatic 44, 3) := by decide +kernel
theorem dX8_rule_54 : decode cX8_rule 54 = .ok (.if_icmp .le 6, 3) := by decide +kernel
theorem dX8_rule_57 : decode cX8_rule 57 = .ok (.bipush (-3), 2) := by decide +kernel
theorem dX8_rule_59 : decode cX8_rule 59 = .ok (.ireturn, 1) := by decide +kernel
theorem dX8_rule_60 : decode cX8_rule 60 = .ok (.aload_n 0, 1) := by decide +kernel
theorem dX8_rule_61 : decode cX8_rule 61 = .ok (.getfield 10, 3) := by decide +kernel
theorem dX8_rule_64 : decode cX8_rule 64 = .ok (.getfield 48, 3) := by decide +kernel
theorem dX8_rule_67 : decode cX8_rule 67 = .ok (.iload_n 1, 1) := by decide +kernel
theorem dX8_rule_68 : decode cX8_rule 68 = .ok (.invokevirtual 52, 3) := by decide +kernel
theorem dX8_rule_71 : decode cX8_rule 71 = .ok (.istore 4, 2) := by decide +kernel
theorem dX8_rule_73 : decode cX8_rule 73 = .ok (.aload_n 0, 1) := by decide +kernel
theorem dX8_rule_74 : decode cX8_rule 74 = .ok (.getfield 10, 3) := by decide +kernel
theorem dX8_rule_77 : decode cX8_rule 77 = .ok (.getfield 48, 3) := by decide +kernel
theorem dX8_rule_80 : decode cX8_rule 80 = .ok (.iload_n 1, 1) := by decide +kernel
theorem dX8_rule_81 : decode cX8_rule 81 = .ok (.iload_n 2, 1) := by decide +kernel
theorem dX8_rule_82 : decode cX8_rule 82 = .ok (.invokevirtual 57, 3) := by decide +kernel
theorem dX8_rule_85 : decode cX8_rule 85 = .ok (.aload_n 0, 1) := by decide +kernel
theorem dX8_rule_86 : decode cX8_rule 86 = .ok (.getfield 23, 3) := by decide +kernel
theorem dX8_rule_89 : decode cX8_rule 89 = .ok (.iconst 0, 1) := by decide +kernel
theorem dX8_rule_90 : decode cX8_rule 90 = .ok (.invokevirtual 61, 3) := by decide +kernel
theorem dX8_rule_93 : decode cX8_rule 93 = .ok (.iload 4, 2) := by decide +kernel
theorem dX8_rule_95 : decode cX8_rule 95 = .ok (.ireturn, 1) := by decide +kernel
set_option maxRecDepth 20000 in
theorem ggX8_add_X7_top : GoodIn wsX8_add wsX7_top := goodIn_r _ [10, 11, 12, 13, 14, 49, 50, 51] (by decide +kernel) (by decide +kernel)
set_option maxRecDepth 20000 in
theorem gX8_add_X7_top : GoodIn wsX8_add (wsV RX8 65 RX7 yX7_top wsX7_top) := goodIn_app (goodIn_of _ (by decide +kernel)) ggX8_add_X7_top
set_option maxRecDepth 20000 in
theorem ggX8_add_X7_blockWith : GoodIn wsX8_add wsX7_blockWith := goodIn_r _ [18, 19, 20, 13, 21, 49, 50, 51] (by decide +kernel) (by decide +kernel)
set_option maxRecDepth 20000 in
theorem gX8_add_X7_blockWith : GoodIn wsX8_add (wsV RX8 72 RX7 yX7_blockWith wsX7_blockWith) := goodIn_app (goodIn_of _ (by decide +kernel)) ggX8_add_X7_blockWith
set_option maxRecDepth 20000 in
theorem ggX8_add_X4_keepOnly : GoodIn wsX8_add wsX4_keepOnly := goodIn_r _ [26, 27, 28, 29, 30, 52, 53, 54, 55, 56, 57, 58, 59] (by decide +kernel) (by decide +kernel)
set_option maxRecDepth 20000 in
theorem gX8_add_X4_keepOnly : GoodIn wsX8_add (wsV RX8 61 RX4 yX4_keepOnly wsX4_keepOnly) := goodIn_app (goodIn_of _ (by decide +kernel)) ggX8_add_X4_keepOnly
set_option maxRecDepth 20000 in
theorem ggX8_add_X6_append : GoodIn wsX8_add wsX6_append := goodIn_r _ [35, 36, 37, 47, 48] (by decide +kernel) (by decide +kernel)
set_option maxRecDepth 20000 in
theorem gX8_add_X6_append : GoodIn wsX8_add (wsV RX8 75 RX6 yX6_append wsX6_append) := goodIn_app (goodIn_of _ (by decide +kernel)) ggX8_add_X6_append
theorem dX8_add_0 : decode cX8_add 0 = .ok (.iload_n 1, 1) := by decide +kernel
theorem dX8_add_1 : decode cX8_add 1 = .ok (.ifCond .lt 17, 3) := by decide +kernel
theorem dX8_add_4 : decode cX8_add 4 = .ok (.iload_n 1, 1) := by decide +kernel
theorem dX8_add_5 : decode cX8_add 5 = .ok (.aload_n 0, 1) := by decide +kernel
theorem dX8_add_6 : decode cX8_add 6 = .ok (.getfield 10, 3) := by decide +kernel
theorem dX8_add_9 : decode cX8_add 9 = .ok (.getfield 48, 3) := by decide +kernel
theorem dX8_add_12 : decode cX8_add 12 = .ok (.invokevirtual 65, 3) := by decide +kernel
theorem dX8_add_15 : decode cX8_add 15 = .ok (.if_icmp .le 6, 3) := by decide +kernel
theorem dX8_add_18 : decode cX8_add 18 = .ok (.bipush (-2), 2) := by decide +kernel
theorem dX8_add_20 : decode cX8_add 20 = .ok (.ireturn, 1) := by decide +kernel
theorem dX8_add_21 : decode cX8_add 21 = .ok (.aload_n 0, 1) := by decide +kernel
theorem dX8_add_22 : decode cX8_add 22 = .ok (.getfield 10, 3) := by decide +kernel
theorem dX8_add_25 : decode cX8_add 25 = .ok (.getfield 34, 3) := by decide +kernel
theorem dX8_add_28 : decode cX8_add 28 = .ok (.getfield 68, 3) := by decide +kernel
theorem dX8_add_31 : decode cX8_add 31 = .ok (.bipush 64, 2) := by decide +kernel
theorem dX8_add_33 : decode cX8_add 33 = .ok (.if_icmp .lt 6, 3) := by decide +kernel
theorem dX8_add_36 : decode cX8_add 36 = .ok (.bipush (-4), 2) := by decide +kernel
theorem dX8_add_38 : decode cX8_add 38 = .ok (.ireturn, 1) := by decide +kernel
theorem dX8_add_39 : decode cX8_add 39 = .ok (.aload_n 0, 1) := by decide +kernel
theorem dX8_add_40 : decode cX8_add 40 = .ok (.getfield 23, 3) := by decide +kernel
theorem dX8_add_43 : decode cX8_add 43 = .ok (.aload_n 0, 1) := by decide +kernel
theorem dX8_add_44 : decode cX8_add 44 = .ok (.getfield 10, 3) := by decide +kernel
theorem dX8_add_47 : decode cX8_add 47 = .ok (.getfield 48, 3) := by decide +kernel
theorem dX8_add_50 : decode cX8_add 50 = .ok (.aload_n 0, 1) := by decide +kernel
theorem dX8_add_51 : decode cX8_add 51 = .ok (.getfield 10, 3) := by decide +kernel
theorem dX8_add_54 : decode cX8_add 54 = .ok (.getfield 34, 3) := by decide +kernel
theorem dX8_add_57 : decode cX8_add 57 = .ok (.getfield 68, 3) := by decide +kernel
theorem dX8_add_60 : decode cX8_add 60 = .ok (.invokevirtual 72, 3) := by decide +kernel
theorem dX8_add_63 : decode cX8_add 63 = .ok (.invokevirtual 61, 3) := by decide +kernel
theorem dX8_add_66 : decode cX8_add 66 = .ok (.aload_n 0, 1) := by decide +kernel
theorem dX8_add_67 : decode cX8_add 67 = .ok (.getfield 10, 3) := by decide +kernel
theorem dX8_add_70 : decode cX8_add 70 = .ok (.getfield 34, 3) := by decide +kernel
theorem dX8_add_73 : decode cX8_add 73 = .ok (.iload_n 1, 1) := by decide +kernel
theorem dX8_add_74 : decode cX8_add 74 = .ok (.invokevirtual 75, 3) := by decide +kernel
theorem dX8_add_77 : decode cX8_add 77 = .ok (.aload_n 0, 1) := by decide +kernel
theorem dX8_add_78 : decode cX8_add 78 = .ok (.getfield 10, 3) := by decide +kernel
theorem dX8_add_81 : decode cX8_add 81 = .ok (.getfield 34, 3) := by decide +kernel
theorem dX8_add_84 : decode cX8_add 84 = .ok (.getfield 68, 3) := by decide +kernel
theorem dX8_add_87 : decode cX8_add 87 = .ok (.ireturn, 1) := by decide +kernel
set_option maxRecDepth 20000 in
theorem ggX8_clear_X4_keepOnly : GoodIn wsX8_clear wsX4_keepOnly := goodIn_r _ [9, 10, 11, 12, 13, 25, 26, 27, 28, 29, 30, 31, 32] (by decide +kernel) (by decide +kernel)
set_option maxRecDepth 20000 in
theorem gX8_clear_X4_keepOnly : GoodIn wsX8_clear (wsV RX8 61 RX4 yX4_keepOnly wsX4_keepOnly) := goodIn_app (goodIn_of _ (by decide +kernel)) ggX8_clear_X4_keepOnly
theorem dX8_clear_0 : decode cX8_clear 0 = .ok (.aload_n 0, 1) := by decide +kernel
theorem dX8_clear_1 : decode cX8_clear 1 = .ok (.getfield 10, 3) := by decide +kernel
theorem dX8_clear_4 : decode cX8_clear 4 = .ok (.getfield 34, 3) := by decide +kernel
theorem dX8_clear_7 : decode cX8_clear 7 = .ok (.getfield 68, 3) := by decide +kernel
theorem dX8_clear_10 : decode cX8_clear 10 = .ok (.istore_n 1, 1) := by decide +kernel
theorem dX8_clear_11 : decode cX8_clear 11 = .ok (.aload_n 0, 1) := by decide +kernel
theorem dX8_clear_12 : decode cX8_clear 12 = .ok (.getfield 10, 3) := by decide +kernel
theorem dX8_clear_15 : decode cX8_clear 15 = .ok (.getfield 34, 3) := by decide +kernel
theorem dX8_clear_18 : decode cX8_clear 18 = .ok (.iconst 0, 1) := by decide +kernel
theorem dX8_clear_19 : decode cX8_clear 19 = .ok (.putfield 68, 3) := by decide +kernel
theorem dX8_clear_22 : decode cX8_clear 22 = .ok (.aload_n 0, 1) := by decide +kernel
theorem dX8_clear_23 : decode cX8_clear 23 = .ok (.getfield 23, 3) := by decide +kernel
theorem dX8_clear_26 : decode cX8_clear 26 = .ok (.iconst 0, 1) := by decide +kernel
theorem dX8_clear_27 : decode cX8_clear 27 = .ok (.invokevirtual 61, 3) := by decide +kernel
theorem dX8_clear_30 : decode cX8_clear 30 = .ok (.iload_n 1, 1) := by decide +kernel
theorem dX8_clear_31 : decode cX8_clear 31 = .ok (.ireturn, 1) := by decide +kernel
set_option maxRecDepth 20000 in
theorem ggX8_sample_X6_at : GoodIn wsX8_sample wsX6_at := goodIn_r _ [7, 8, 9, 19, 20] (by decide +kernel) (by decide +kernel)
set_option maxRecDepth 20000 in
theorem gX8_sample_X6_at : GoodIn wsX8_sample (wsV RX8 78 RX6 yX6_at wsX6_at) := goodIn_app (goodIn_of _ (by decide +kernel)) ggX8_sample_X6_at
theorem dX8_sample_0 : decode cX8_sample 0 = .ok (.aload_n 0, 1) := by decide +kernel
theorem dX8_sample_1 : decode cX8_sample 1 = .ok (.getfield 10, 3) := by decide +kernel
theorem dX8_sample_4 : decode cX8_sample 4 = .ok (.getfield 34, 3) := by decide +kernel
theorem dX8_sample_7 : decode cX8_sample 7 = .ok (.iload_n 1, 1) := by decide +kernel
theorem dX8_sample_8 : decode cX8_sample 8 = .ok (.invokevirtual 78, 3) := by decide +kernel
theorem dX8_sample_11 : decode cX8_sample 11 = .ok (.ireturn, 1) := by decide +kernel
set_option maxRecDepth 20000 in
theorem ggX8_ahead_X8_isWay : GoodIn wsX8_ahead wsX8_isWay := goodIn_r _ [7] (by decide +kernel) (by decide +kernel)
set_option maxRecDepth 20000 in
theorem gX8_ahead_X8_isWay : GoodIn wsX8_ahead (va_wsS RX8 81 yX8_isWay wsX8_isWay) := goodIn_app (goodIn_of _ (by decide +kernel)) ggX8_ahead_X8_isWay
set_option maxRecDepth 20000 in
theorem ggX8_ahead_X6_has : GoodIn wsX8_ahead wsX6_has := goodIn_r _ [12, 13, 60, 61] (by decide +kernel) (by decide +kernel)
set_option maxRecDepth 20000 in
theorem gX8_ahead_X6_has : GoodIn wsX8_ahead (wsV RX8 85 RX6 yX6_has wsX6_has) := goodIn_app (goodIn_of _ (by decide +kernel)) ggX8_ahead_X6_has
set_option maxRecDepth 20000 in
theorem ggX8_ahead_X7_isBare : GoodIn wsX8_ahead wsX7_isBare := goodIn_r _ [18, 19, 20, 62, 63, 64] (by decide +kernel) (by decide +kernel)
set_option maxRecDepth 20000 in
theorem gX8_ahead_X7_isBare : GoodIn wsX8_ahead (wsV RX8 88 RX7 yX7_isBare wsX7_isBare) := goodIn_app (goodIn_of _ (by decide +kernel)) ggX8_ahead_X7_isBare
set_option maxRecDepth 20000 in
theorem ggX8_ahead_X8_toldAhead : GoodIn wsX8_ahead wsX8_toldAhead := goodIn_r _ [23, 24, 25, 26, 27, 28, 29, 30, 31, 32, 33, 6, 34, 35, 36, 37, 11, 38, 13, 39, 14, 15, 16, 17, 18, 19, 20, 62, 63, 64, 60, 61] (by decide +kernel) (by decide +kernel)
set_option maxRecDepth 20000 in
theorem gX8_ahead_X8_toldAhead : GoodIn wsX8_ahead (va_wsS RX8 91 yX8_toldAhead wsX8_toldAhead) := goodIn_app (goodIn_of _ (by decide +kernel)) ggX8_ahead_X8_toldAhead
set_option maxRecDepth 20000 in
theorem ggX8_ahead_X6_at : GoodIn wsX8_ahead wsX6_at := goodIn_r _ [38, 13, 39, 60, 61] (by decide +kernel) (by decide +kernel)
set_option maxRecDepth 20000 in
theorem gX8_ahead_X6_at : GoodIn wsX8_ahead (wsV RX8 78 RX6 yX6_at wsX6_at) := goodIn_app (goodIn_of _ (by decide +kernel)) ggX8_ahead_X6_at
set_option maxRecDepth 20000 in
theorem ggX8_ahead_X7_top : GoodIn wsX8_ahead wsX7_top := goodIn_r _ [43, 44, 33, 6, 34, 62, 63, 64] (by decide +kernel) (by decide +kernel)
set_option maxRecDepth 20000 in
theorem gX8_ahead_X7_top : GoodIn wsX8_ahead (wsV RX8 65 RX7 yX7_top wsX7_top) := goodIn_app (goodIn_of _ (by decide +kernel)) ggX8_ahead_X7_top
set_option maxRecDepth 20000 in
theorem ggX8_ahead_X8_fold : GoodIn wsX8_ahead wsX8_fold := goodIn_r _ [47, 25, 26, 27, 28, 48, 49, 50] (by decide +kernel) (by decide +kernel)
set_option maxRecDepth 20000 in
theorem gX8_ahead_X8_fold : GoodIn wsX8_ahead (va_wsS RX8 95 yX8_fold wsX8_fold) := goodIn_app (goodIn_of _ (by decide +kernel)) ggX8_ahead_X8_fold
theorem dX8_ahead_0 : decode cX8_ahead 0 = .ok (.iload_n 2, 1) := by decide +kernel
theorem dX8_ahead_1 : decode cX8_ahead 1 = .ok (.invokestatic 81, 3) := by decide +kernel
theorem dX8_ahead_4 : decode cX8_ahead 4 = .ok (.ifCond .eq 12, 3) := by decide +kernel
theorem dX8_ahead_7 : decode cX8_ahead 7 = .ok (.iload_n 3, 1) := by decide +kernel
theorem dX8_ahead_8 : decode cX8_ahead 8 = .ok (.ifCond .lt 8, 3) := by decide +kernel
theorem dX8_ahead_11 : decode cX8_ahead 11 = .ok (.iload_n 3, 1) := by decide +kernel
theorem dX8_ahead_12 : decode cX8_ahead 12 = .ok (.iconst 1, 1) := by decide +kernel
theorem dX8_ahead_13 : decode cX8_ahead 13 = .ok (.if_icmp .le 6, 3) := by decide +kernel
theorem dX8_ahead_16 : decode cX8_ahead 16 = .ok (.bipush (-2), 2) := by decide +kernel
theorem dX8_ahead_18 : decode cX8_ahead 18 = .ok (.ireturn, 1) := by decide +kernel
theorem dX8_ahead_19 : decode cX8_ahead 19 = .ok (.aload_n 0, 1) := by decide +kernel
theorem dX8_ahead_20 : decode cX8_ahead 20 = .ok (.getfield 10, 3) := by decide +kernel
theorem dX8_ahead_23 : decode cX8_ahead 23 = .ok (.getfield 34, 3) := by decide +kernel
theorem dX8_ahead_26 : decode cX8_ahead 26 = .ok (.iload_n 1, 1) := by decide +kernel
theorem dX8_ahead_27 : decode cX8_ahead 27 = .ok (.invokevirtual 85, 3) := by decide +kernel
theorem dX8_ahead_30 : decode cX8_ahead 30 = .ok (.ifCond .eq 17, 3) := by decide +kernel
theorem dX8_ahead_33 : decode cX8_ahead 33 = .ok (.aload_n 0, 1) := by decide +kernel
theorem dX8_ahead_34 : decode cX8_ahead 34 = .ok (.getfield 10, 3) := by decide +kernel
theorem dX8_ahead_37 : decode cX8_ahead 37 = .ok (.getfield 48, 3) := by decide +kernel
theorem dX8_ahead_40 : decode cX8_ahead 40 = .ok (.iload_n 1, 1) := by decide +kernel
theorem dX8_ahead_41 : decode cX8_ahead 41 = .ok (.invokevirtual 88, 3) := by decide +kernel
theorem dX8_ahead_44 : decode cX8_ahead 44 = .ok (.ifCond .eq 6, 3) := by decide +kernel
theorem dX8_ahead_47 : decode cX8_ahead 47 = .ok (.bipush (-6), 2) := by decide +kernel
theorem dX8_ahead_49 : decode cX8_ahead 49 = .ok (.ireturn, 1) := by decide +kernel
theorem dX8_ahead_50 : decode cX8_ahead 50 = .ok (.aload_n 0, 1) := by decide +kernel
theorem dX8_ahead_51 : decode cX8_ahead 51 = .ok (.getfield 10, 3) := by decide +kernel
theorem dX8_ahead_54 : decode cX8_ahead 54 = .ok (.getfield 48, 3) := by decide +kernel
theorem dX8_ahead_57 : decode cX8_ahead 57 = .ok (.aload_n 0, 1) := by decide +kernel
theorem dX8_ahead_58 : decode cX8_ahead 58 = .ok (.getfield 10, 3) := by decide +kernel
theorem dX8_ahead_61 : decode cX8_ahead 61 = .ok (.getfield 34, 3) := by decide +kernel
theorem dX8_ahead_64 : decode cX8_ahead 64 = .ok (.iload_n 1, 1) := by decide +kernel
theorem dX8_ahead_65 : decode cX8_ahead 65 = .ok (.iload_n 2, 1) := by decide +kernel
theorem dX8_ahead_66 : decode cX8_ahead 66 = .ok (.invokestatic 91, 3) := by decide +kernel
theorem dX8_ahead_69 : decode cX8_ahead 69 = .ok (.istore 4, 2) := by decide +kernel
theorem dX8_ahead_71 : decode cX8_ahead 71 = .ok (.iload_n 3, 1) := by decide +kernel
theorem dX8_ahead_72 : decode cX8_ahead 72 = .ok (.ifCond .ne 8, 3) := by decide +kernel
theorem dX8_ahead_75 : decode cX8_ahead 75 = .ok (.iload 4, 2) := by decide +kernel
theorem dX8_ahead_77 : decode cX8_ahead 77 = .ok (.goto 29, 3) := by decide +kernel
theorem dX8_ahead_80 : decode cX8_ahead 80 = .ok (.aload_n 0, 1) := by decide +kernel
theorem dX8_ahead_81 : decode cX8_ahead 81 = .ok (.getfield 10, 3) := by decide +kernel
theorem dX8_ahead_84 : decode cX8_ahead 84 = .ok (.getfield 34, 3) := by decide +kernel
theorem dX8_ahead_87 : decode cX8_ahead 87 = .ok (.iload_n 1, 1) := by decide +kernel
theorem dX8_ahead_88 : decode cX8_ahead 88 = .ok (.invokevirtual 78, 3) := by decide +kernel
theorem dX8_ahead_91 : decode cX8_ahead 91 = .ok (.iload 4, 2) := by decide +kernel
theorem dX8_ahead_93 : decode cX8_ahead 93 = .ok (.aload_n 0, 1) := by decide +kernel
theorem dX8_ahead_94 : decode cX8_ahead 94 = .ok (.getfield 10, 3) := by decide +kernel
theorem dX8_ahead_97 : decode cX8_ahead 97 = .ok (.getfield 48, 3) := by decide +kernel
theorem dX8_ahead_100 : decode cX8_ahead 100 = .ok (.invokevirtual 65, 3) := by decide +kernel
theorem dX8_ahead_103 : decode cX8_ahead 103 = .ok (.invokestatic 95, 3) := by decide +kernel
theorem dX8_ahead_106 : decode cX8_ahead 106 = .ok (.ireturn, 1) := by decide +kernel
set_option maxRecDepth 20000 in
theorem ggX8_cost_X8_isWay : GoodIn wsX8_cost wsX8_isWay := goodIn_r _ [8] (by decide +kernel) (by decide +kernel)
set_option maxRecDepth 20000 in
theorem gX8_cost_X8_isWay : GoodIn wsX8_cost (va_wsS RX8 81 yX8_isWay wsX8_isWay) := goodIn_app (goodIn_of _ (by decide +kernel)) ggX8_cost_X8_isWay
set_option maxRecDepth 20000 in
theorem ggX8_cost_X8_hasBlock : GoodIn wsX8_cost wsX8_hasBlock := goodIn_r _ [12, 13, 14, 15, 7, 16, 2, 4, 17, 3, 18, 19, 20, 21, 22, 23, 24, 99, 100, 101, 102, 103, 104, 105, 106, 107, 108, 109, 110, 111, 112] (by decide +kernel) (by decide +kernel)
set_option maxRecDepth 20000 in
theorem gX8_cost_X8_hasBlock : GoodIn wsX8_cost (wsV RX8 99 RX8 yX8_hasBlock wsX8_hasBlock) := goodIn_app (goodIn_of _ (by decide +kernel)) ggX8_cost_X8_hasBlock
set_option maxRecDepth 20000 in
theorem ggX8_cost_X4_costOf : GoodIn wsX8_cost wsX4_costOf := goodIn_r _ [29, 30, 31, 32, 33, 34, 35, 36, 37, 38, 39, 40, 41, 42, 43, 44, 45, 46, 47, 48, 49, 50, 51, 52, 53, 54, 55, 56, 57, 58, 59, 60, 61, 62, 63, 64, 65, 66, 67, 7, 68, 69, 70, 71, 72, 73, 74, 75, 76, 77, 78, 79, 80, 81, 82, 83, 84, 85, 86, 87, 88, 89, 90, 91, 92, 93, 94, 95, 96, 97, 98, 113, 114, 115, 116, 117, 118, 110, 111, 112, 108, 109, 119, 120, 121, 122, 123, 124] (by decide +kernel) (by decide +kernel)
set_option maxRecDepth 20000 in
theorem gX8_cost_X4_costOf : GoodIn wsX8_cost (wsV RX8 102 RX4 yX4_costOf wsX4_costOf) := goodIn_app (goodIn_of _ (by decide +kernel)) ggX8_cost_X4_costOf
theorem dX8_cost_0 : decode cX8_cost 0 = .ok (.iload_n 2, 1) := by decide +kernel
theorem dX8_cost_1 : decode cX8_cost 1 = .ok (.invokestatic 81, 3) := by decide +kernel
theorem dX8_cost_4 : decode cX8_cost 4 = .ok (.ifCond .eq 13, 3) := by decide +kernel
theorem dX8_cost_7 : decode cX8_cost 7 = .ok (.iload_n 3, 1) := by decide +kernel
theorem dX8_cost_8 : decode cX8_cost 8 = .ok (.ifCond .lt 9, 3) := by decide +kernel
theorem dX8_cost_11 : decode cX8_cost 11 = .ok (.iload_n 3, 1) := by decide +kernel
theorem dX8_cost_12 : decode cX8_cost 12 = .ok (.bipush 8, 2) := by decide +kernel
theorem dX8_cost_14 : decode cX8_cost 14 = .ok (.if_icmp .le 6, 3) := by decide +kernel
theorem dX8_cost_17 : decode cX8_cost 17 = .ok (.bipush (-2), 2) := by decide +kernel
theorem dX8_cost_19 : decode cX8_cost 19 = .ok (.ireturn, 1) := by decide +kernel
theorem dX8_cost_20 : decode cX8_cost 20 = .ok (.aload_n 0, 1) := by decide +kernel
theorem dX8_cost_21 : decode cX8_cost 21 = .ok (.iload_n 1, 1) := by decide +kernel
theorem dX8_cost_22 : decode cX8_cost 22 = .ok (.invokevirtual 99, 3) := by decide +kernel
theorem dX8_cost_25 : decode cX8_cost 25 = .ok (.ifCond .eq 30, 3) := by decide +kernel
theorem dX8_cost_28 : decode cX8_cost 28 = .ok (.aload_n 0, 1) := by decide +kernel
theorem dX8_cost_29 : decode cX8_cost 29 = .ok (.getfield 23, 3) := by decide +kernel
theorem dX8_cost_32 : decode cX8_cost 32 = .ok (.aload_n 0, 1) := by decide +kernel
theorem dX8_cost_33 : decode cX8_cost 33 = .ok (.getfield 10, 3) := by decide +kernel
theorem dX8_cost_36 : decode cX8_cost 36 = .ok (.getfield 48, 3) := by decide +kernel
theorem dX8_cost_39 : decode cX8_cost 39 = .ok (.aload_n 0, 1) := by decide +kernel
theorem dX8_cost_40 : decode cX8_cost 40 = .ok (.getfield 10, 3) := by decide +kernel
theorem dX8_cost_43 : decode cX8_cost 43 = .ok (.getfield 34, 3) := by decide +kernel
theorem dX8_cost_46 : decode cX8_cost 46 = .ok (.iload_n 1, 1) := by decide +kernel
theorem dX8_cost_47 : decode cX8_cost 47 = .ok (.iload_n 2, 1) := by decide +kernel
theorem dX8_cost_48 : decode cX8_cost 48 = .ok (.iload_n 3, 1) := by decide +kernel
theorem dX8_cost_49 : decode cX8_cost 49 = .ok (.invokevirtual 102, 3) := by decide +kernel
theorem dX8_cost_52 : decode cX8_cost 52 = .ok (.goto 5, 3) := by decide +kernel
theorem dX8_cost_55 : decode cX8_cost 55 = .ok (.bipush (-6), 2) := by decide +kernel
theorem dX8_cost_57 : decode cX8_cost 57 = .ok (.ireturn, 1) := by decide +kernel
set_option maxRecDepth 20000 in
theorem ggX8_block_X8_hasBlock : GoodIn wsX8_block wsX8_hasBlock := goodIn_r _ [15, 16, 17, 18, 14, 19, 2, 4, 8, 3, 9, 20, 21, 22, 23, 24, 25, 132, 133, 134, 135, 136, 137, 138, 139, 140, 147, 148, 149, 150, 151] (by decide +kernel) (by decide +kernel)
set_option maxRecDepth 20000 in
theorem gX8_block_X8_hasBlock : GoodIn wsX8_block (wsV RX8 99 RX8 yX8_hasBlock wsX8_hasBlock) := goodIn_app (goodIn_of _ (by decide +kernel)) ggX8_block_X8_hasBlock
set_option maxRecDepth 20000 in
theorem ggX8_block_X4_settle : GoodIn wsX8_block wsX4_settle := goodIn_r _ [30, 31, 32, 33, 34, 35, 36, 37, 38, 39, 40, 41, 42, 43, 44, 29, 45, 46, 47, 48, 49, 50, 51, 52, 53, 54, 55, 56, 57, 58, 59, 60, 61, 62, 63, 64, 65, 66, 67, 68, 69, 70, 71, 72, 73, 74, 75, 76, 77, 78, 79, 14, 80, 81, 82, 83, 84, 85, 86, 87, 88, 89, 90, 91, 92, 93, 94, 95, 96, 97, 98, 99, 100, 101, 102, 103, 104, 105, 106, 107, 108, 109, 110, 111, 112, 113, 114, 115, 116, 117, 118, 119, 120, 121, 122, 123, 124, 125, 126, 127, 128, 129, 130, 141, 142, 143, 144, 145, 146, 152, 153, 149, 150, 151, 147, 148, 154, 155, 156, 157, 158, 159] (by decide +kernel) (by decide +kernel)
set_option maxRecDepth 20000 in
theorem gX8_block_X4_settle : GoodIn wsX8_block (wsV RX8 106 RX4 yX4_settle wsX4_settle) := goodIn_app (goodIn_of _ (by decide +kernel)) ggX8_block_X4_settle
set_option maxRecDepth 20000 in
theorem ggX8_block_X7_endOfBlock : GoodIn wsX8_block wsX7_endOfBlock := goodIn_r _ [64, 65, 66, 32, 33, 34, 149, 150, 151] (by decide +kernel) (by decide +kernel)
set_option maxRecDepth 20000 in
theorem gX8_block_X7_endOfBlock : GoodIn wsX8_block (wsV RX8 120 RX7 yX7_endOfBlock wsX7_endOfBlock) := goodIn_app (goodIn_of _ (by decide +kernel)) ggX8_block_X7_endOfBlock
set_option maxRecDepth 20000 in
theorem ggX8_block_X8_quotient : GoodIn wsX8_block wsX8_quotient := goodIn_r _ [25] (by decide +kernel) (by decide +kernel)
set_option maxRecDepth 20000 in
theorem gX8_block_X8_quotient : GoodIn wsX8_block (va_wsS RX8 130 yX8_quotient wsX8_quotient) := goodIn_app (goodIn_of _ (by decide +kernel)) ggX8_block_X8_quotient
theorem dX8_block_0 : decode cX8_block 0 = .ok (.iload_n 2, 1) := by decide +kernel
theorem dX8_block_1 : decode cX8_block 1 = .ok (.ifCond .lt 8, 3) := by decide +kernel
theorem dX8_block_4 : decode cX8_block 4 = .ok (.iload_n 2, 1) := by decide +kernel
theorem dX8_block_5 : decode cX8_block 5 = .ok (.iconst 5, 1) := by decide +kernel
theorem dX8_block_6 : decode cX8_block 6 = .ok (.if_icmp .le 6, 3) := by decide +kernel
theorem dX8_block_9 : decode cX8_block 9 = .ok (.bipush (-2), 2) := by decide +kernel
theorem dX8_block_11 : decode cX8_block 11 = .ok (.ireturn, 1) := by decide +kernel
theorem dX8_block_12 : decode cX8_block 12 = .ok (.aload_n 0, 1) := by decide +kernel
theorem dX8_block_13 : decode cX8_block 13 = .ok (.iload_n 1, 1) := by decide +kernel
theorem dX8_block_14 : decode cX8_block 14 = .ok (.invokevirtual 99, 3) := by decide +kernel
theorem dX8_block_17 : decode cX8_block 17 = .ok (.ifCond .ne 6, 3) := by decide +kernel
theorem dX8_block_20 : decode cX8_block 20 = .ok (.bipush (-6), 2) := by decide +kernel
theorem dX8_block_22 : decode cX8_block 22 = .ok (.ireturn, 1) := by decide +kernel
theorem dX8_block_23 : decode cX8_block 23 = .ok (.aload_n 0, 1) := by decide +kernel
theorem dX8_block_24 : decode cX8_block 24 = .ok (.getfield 23, 3) := by decide +kernel
theorem dX8_block_27 : decode cX8_block 27 = .ok (.aload_n 0, 1) := by decide +kernel
theorem dX8_block_28 : decode cX8_block 28 = .ok (.getfield 10, 3) := by decide +kernel
theorem dX8_block_31 : decode cX8_block 31 = .ok (.getfield 48, 3) := by decide +kernel
theorem dX8_block_34 : decode cX8_block 34 = .ok (.aload_n 0, 1) := by decide +kernel
theorem dX8_block_35 : decode cX8_block 35 = .ok (.getfield 10, 3) := by decide +kernel
theorem dX8_block_38 : decode cX8_block 38 = .ok (.getfield 34, 3) := by decide +kernel
theorem dX8_block_41 : decode cX8_block 41 = .ok (.iload_n 1, 1) := by decide +kernel
theorem dX8_block_42 : decode cX8_block 42 = .ok (.iconst 1, 1) := by decide +kernel
theorem dX8_block_43 : decode cX8_block 43 = .ok (.iadd, 1) := by decide +kernel
theorem dX8_block_44 : decode cX8_block 44 = .ok (.invokevirtual 106, 3) := by decide +kernel
theorem dX8_block_47 : decode cX8_block 47 = .ok (.iload_n 2, 1) := by decide +kernel
theorem dX8_block_48 : decode cX8_block 48 = .ok (.tableswitch 123 0 4 #[36, 46, 56, 78, 113], 36) := by decide +kernel
theorem dX8_block_84 : decode cX8_block 84 = .ok (.aload_n 0, 1) := by decide +kernel
theorem dX8_block_85 : decode cX8_block 85 = .ok (.getfield 23, 3) := by decide +kernel
theorem dX8_block_88 : decode cX8_block 88 = .ok (.getfield 110, 3) := by decide +kernel
theorem dX8_block_91 : decode cX8_block 91 = .ok (.iload_n 1, 1) := by decide +kernel
theorem dX8_block_92 : decode cX8_block 92 = .ok (.iaload, 1) := by decide +kernel
theorem dX8_block_93 : decode cX8_block 93 = .ok (.ireturn, 1) := by decide +kernel
theorem dX8_block_94 : decode cX8_block 94 = .ok (.aload_n 0, 1) := by decide +kernel
theorem dX8_block_95 : decode cX8_block 95 = .ok (.getfield 23, 3) := by decide +kernel
theorem dX8_block_98 : decode cX8_block 98 = .ok (.getfield 114, 3) := by decide +kernel
theorem dX8_block_101 : decode cX8_block 101 = .ok (.iload_n 1, 1) := by decide +kernel
theorem dX8_block_102 : decode cX8_block 102 = .ok (.iaload, 1) := by decide +kernel
theorem dX8_block_103 : decode cX8_block 103 = .ok (.ireturn, 1) := by decide +kernel
theorem dX8_block_104 : decode cX8_block 104 = .ok (.aload_n 0, 1) := by decide +kernel
theorem dX8_block_105 : decode cX8_block 105 = .ok (.getfield 23, 3) := by decide +kernel
theorem dX8_block_108 : decode cX8_block 108 = .ok (.getfield 117, 3) := by decide +kernel
theorem dX8_block_111 : decode cX8_block 111 = .ok (.iload_n 1, 1) := by decide +kernel
theorem dX8_block_112 : decode cX8_block 112 = .ok (.iconst 1, 1) := by decide +kernel
theorem dX8_block_113 : decode cX8_block 113 = .ok (.iadd, 1) := by decide +kernel
theorem dX8_block_114 : decode cX8_block 114 = .ok (.iaload, 1) := by decide +kernel
theorem dX8_block_115 : decode cX8_block 115 = .ok (.aload_n 0, 1) := by decide +kernel
theorem dX8_block_116 : decode cX8_block 116 = .ok (.getfield 23, 3) := by decide +kernel
theorem dX8_block_119 : decode cX8_block 119 = .ok (.getfield 117, 3) := by decide +kernel
theorem dX8_block_122 : decode cX8_block 122 = .ok (.iload_n 1, 1) := by decide +kernel
theorem dX8_block_123 : decode cX8_block 123 = .ok (.iaload, 1) := by decide +kernel
theorem dX8_block_124 : decode cX8_block 124 = .ok (.isub, 1) := by decide +kernel
theorem dX8_block_125 : decode cX8_block 125 = .ok (.ireturn, 1) := by decide +kernel
theorem dX8_block_126 : decode cX8_block 126 = .ok (.aload_n 0, 1) := by decide +kernel
theorem dX8_block_127 : decode cX8_block 127 = .ok (.getfield 10, 3) := by decide +kernel
theorem dX8_block_130 : decode cX8_block 130 = .ok (.getfield 48, 3) := by decide +kernel
theorem dX8_block_133 : decode cX8_block 133 = .ok (.iload_n 1, 1) := by decide +kernel
theorem dX8_block_134 : decode cX8_block 134 = .ok (.aload_n 0, 1) := by decide +kernel
theorem dX8_block_135 : decode cX8_block 135 = .ok (.getfield 10, 3) := by decide +kernel
theorem dX8_block_138 : decode cX8_block 138 = .ok (.getfield 34, 3) := by decide +kernel
theorem dX8_block_141 : decode cX8_block 141 = .ok (.getfield 68, 3) := by decide +kernel
theorem dX8_block_144 : decode cX8_block 144 = .ok (.invokevirtual 120, 3) := by decide +kernel
theorem dX8_block_147 : decode cX8_block 147 = .ok (.iload_n 1, 1) := by decide +kernel
theorem dX8_block_148 : decode cX8_block 148 = .ok (.aload_n 0, 1) := by decide +kernel
theorem dX8_block_149 : decode cX8_block 149 = .ok (.getfield 10, 3) := by decide +kernel
theorem dX8_block_152 : decode cX8_block 152 = .ok (.getfield 48, 3) := by decide +kernel
theorem dX8_block_155 : decode cX8_block 155 = .ok (.getfield 124, 3) := by decide +kernel
theorem dX8_block_158 : decode cX8_block 158 = .ok (.imul, 1) := by decide +kernel
theorem dX8_block_159 : decode cX8_block 159 = .ok (.isub, 1) := by decide +kernel
theorem dX8_block_160 : decode cX8_block 160 = .ok (.ireturn, 1) := by decide +kernel
theorem dX8_block_161 : decode cX8_block 161 = .ok (.aload_n 0, 1) := by decide +kernel
theorem dX8_block_162 : decode cX8_block 162 = .ok (.getfield 23, 3) := by decide +kernel
theorem dX8_block_165 : decode cX8_block 165 = .ok (.getfield 117, 3) := by decide +kernel
theorem dX8_block_168 : decode cX8_block 168 = .ok (.iload_n 1, 1) := by decide +kernel
theorem dX8_block_169 : decode cX8_block 169 = .ok (.iaload, 1) := by decide +kernel
theorem dX8_block_170 : decode cX8_block 170 = .ok (.ireturn, 1) := by decide +kernel
theorem dX8_block_171 : decode cX8_block 171 = .ok (.iload_n 1, 1) := by decide +kernel
theorem dX8_block_172 : decode cX8_block 172 = .ok (.aload_n 0, 1) := by decide +kernel
theorem dX8_block_173 : decode cX8_block 173 = .ok (.getfield 10, 3) := by decide +kernel
theorem dX8_block_176 : decode cX8_block 176 = .ok (.getfield 48, 3) := by decide +kernel
theorem dX8_block_179 : decode cX8_block 179 = .ok (.getfield 127, 3) := by decide +kernel
theorem dX8_block_182 : decode cX8_block 182 = .ok (.invokestatic 130, 3) := by decide +kernel
theorem dX8_block_185 : decode cX8_block 185 = .ok (.ireturn, 1) := by decide +kernel
set_option maxRecDepth 20000 in
theorem ggX8_packed_X8_settleAll : GoodIn wsX8_packed wsX8_settleAll := goodIn_r _ [8, 1, 9, 10, 11, 12, 13, 14, 7, 15, 16, 17, 18, 19, 20, 21, 22, 23, 24, 25, 26, 27, 28, 29, 30, 31, 32, 33, 34, 35, 36, 37, 38, 39, 40, 41, 42, 43, 44, 45, 46, 47, 48, 49, 50, 51, 52, 53, 54, 55, 56, 57, 58, 59, 60, 61, 62, 63, 64, 65, 66, 67, 68, 69, 70, 71, 72, 73, 74, 75, 76, 77, 78, 79, 80, 81, 82, 83, 84, 85, 86, 87, 88, 89, 90, 91, 92, 93, 94, 95, 96, 97, 98, 99, 100, 101, 102, 103, 104, 105, 106, 107, 108, 109, 110, 111, 112, 113, 114, 115, 116, 117, 118, 119, 120, 121, 122, 123, 124, 125, 126, 127, 128, 133, 134, 135, 136, 137, 146, 147, 148, 149, 150, 151, 152, 153, 154, 138, 139, 140, 141, 142, 143, 144, 145, 155, 156, 157, 158, 159, 160] (by decide +kernel) (by decide +kernel)
set_option maxRecDepth 20000 in
theorem gX8_packed_X8_settleAll : GoodIn wsX8_packed (wsV RX8 133 RX8 yX8_settleAll wsX8_settleAll) := goodIn_app (goodIn_of _ (by decide +kernel)) ggX8_packed_X8_settleAll
set_option maxRecDepth 20000 in
theorem ggX8_packed_X0_at : GoodIn wsX8_packed wsX0_at := goodIn_r _ [132, 122, 123, 144, 145] (by decide +kernel) (by decide +kernel)
set_option maxRecDepth 20000 in
theorem gX8_packed_X0_at : GoodIn wsX8_packed (wsV RX8 143 RX0 yX0_at wsX0_at) := goodIn_app (goodIn_of _ (by decide +kernel)) ggX8_packed_X0_at
theorem dX8_packed_0 : decode cX8_packed 0 = .ok (.iload_n 1, 1) := by decide +kernel
theorem dX8_packed_1 : decode cX8_packed 1 = .ok (.iconst (-1), 1) := by decide +kernel
theorem dX8_packed_2 : decode cX8_packed 2 = .ok (.if_icmp .ge 6, 3) := by decide +kernel
theorem dX8_packed_5 : decode cX8_packed 5 = .ok (.bipush (-2), 2) := by decide +kernel
theorem dX8_packed_7 : decode cX8_packed 7 = .ok (.ireturn, 1) := by decide +kernel
theorem dX8_packed_8 : decode cX8_packed 8 = .ok (.aload_n 0, 1) := by decide +kernel
theorem dX8_packed_9 : decode cX8_packed 9 = .ok (.invokevirtual 133, 3) := by decide +kernel
theorem dX8_packed_12 : decode cX8_packed 12 = .ok (.iload_n 1, 1) := by decide +kernel
theorem dX8_packed_13 : decode cX8_packed 13 = .ok (.iconst (-1), 1) := by decide +kernel
theorem dX8_packed_14 : decode cX8_packed 14 = .ok (.if_icmp .ne 16, 3) := by decide +kernel
theorem dX8_packed_17 : decode cX8_packed 17 = .ok (.aload_n 0, 1) := by decide +kernel
theorem dX8_packed_18 : decode cX8_packed 18 = .ok (.getfield 23, 3) := by decide +kernel
theorem dX8_packed_21 : decode cX8_packed 21 = .ok (.getfield 136, 3) := by decide +kernel
theorem dX8_packed_24 : decode cX8_packed 24 = .ok (.getfield 140, 3) := by decide +kernel
theorem dX8_packed_27 : decode cX8_packed 27 = .ok (.goto 14, 3) := by decide +kernel
theorem dX8_packed_30 : decode cX8_packed 30 = .ok (.aload_n 0, 1) := by decide +kernel
theorem dX8_packed_31 : decode cX8_packed 31 = .ok (.getfield 23, 3) := by decide +kernel
theorem dX8_packed_34 : decode cX8_packed 34 = .ok (.getfield 136, 3) := by decide +kernel
theorem dX8_packed_37 : decode cX8_packed 37 = .ok (.iload_n 1, 1) := by decide +kernel
theorem dX8_packed_38 : decode cX8_packed 38 = .ok (.invokevirtual 143, 3) := by decide +kernel
theorem dX8_packed_41 : decode cX8_packed 41 = .ok (.ireturn, 1) := by decide +kernel
set_option maxRecDepth 20000 in
theorem ggX8_lost_X8_hasBlock : GoodIn wsX8_lost wsX8_hasBlock := goodIn_r _ [15, 16, 17, 18, 14, 19, 1, 4, 5, 2, 10, 20, 21, 22, 23, 24, 25, 33, 34, 35, 36, 37, 38, 39, 40, 41, 45, 46, 42, 43, 44] (by decide +kernel) (by decide +kernel)
set_option maxRecDepth 20000 in
theorem gX8_lost_X8_hasBlock : GoodIn wsX8_lost (wsV RX8 99 RX8 yX8_hasBlock wsX8_hasBlock) := goodIn_app (goodIn_of _ (by decide +kernel)) ggX8_lost_X8_hasBlock
set_option maxRecDepth 20000 in
theorem ggX8_lost_X8_quotient : GoodIn wsX8_lost wsX8_quotient := goodIn_r _ [25] (by decide +kernel) (by decide +kernel)
set_option maxRecDepth 20000 in
theorem gX8_lost_X8_quotient : GoodIn wsX8_lost (va_wsS RX8 130 yX8_quotient wsX8_quotient) := goodIn_app (goodIn_of _ (by decide +kernel)) ggX8_lost_X8_quotient
set_option maxRecDepth 20000 in
theorem ggX8_lost_X7_segmentSize : GoodIn wsX8_lost wsX7_segmentSize := goodIn_r _ [30, 31, 32, 42, 43, 44] (by decide +kernel) (by decide +kernel)
set_option maxRecDepth 20000 in
theorem gX8_lost_X7_segmentSize : GoodIn wsX8_lost (wsV RX8 144 RX7 yX7_segmentSize wsX7_segmentSize) := goodIn_app (goodIn_of _ (by decide +kernel)) ggX8_lost_X7_segmentSize
theorem dX8_lost_0 : decode cX8_lost 0 = .ok (.aload_n 0, 1) := by decide +kernel
theorem dX8_lost_1 : decode cX8_lost 1 = .ok (.iload_n 1, 1) := by decide +kernel
theorem dX8_lost_2 : decode cX8_lost 2 = .ok (.invokevirtual 99, 3) := by decide +kernel
theorem dX8_lost_5 : decode cX8_lost 5 = .ok (.ifCond .ne 6, 3) := by decide +kernel
theorem dX8_lost_8 : decode cX8_lost 8 = .ok (.bipush (-6), 2) := by decide +kernel
theorem dX8_lost_10 : decode cX8_lost 10 = .ok (.ireturn, 1) := by decide +kernel
theorem dX8_lost_11 : decode cX8_lost 11 = .ok (.iload_n 1, 1) := by decide +kernel
theorem dX8_lost_12 : decode cX8_lost 12 = .ok (.aload_n 0, 1) := by decide +kernel
theorem dX8_lost_13 : decode cX8_lost 13 = .ok (.getfield 10, 3) := by decide +kernel
theorem dX8_lost_16 : decode cX8_lost 16 = .ok (.getfield 48, 3) := by decide +kernel
theorem dX8_lost_19 : decode cX8_lost 19 = .ok (.getfield 127, 3) := by decide +kernel
theorem dX8_lost_22 : decode cX8_lost 22 = .ok (.invokestatic 130, 3) := by decide +kernel
theorem dX8_lost_25 : decode cX8_lost 25 = .ok (.istore_n 2, 1) := by decide +kernel
theorem dX8_lost_26 : decode cX8_lost 26 = .ok (.aload_n 0, 1) := by decide +kernel
theorem dX8_lost_27 : decode cX8_lost 27 = .ok (.getfield 10, 3) := by decide +kernel
theorem dX8_lost_30 : decode cX8_lost 30 = .ok (.getfield 34, 3) := by decide +kernel
theorem dX8_lost_33 : decode cX8_lost 33 = .ok (.getfield 68, 3) := by decide +kernel
theorem dX8_lost_36 : decode cX8_lost 36 = .ok (.iload_n 2, 1) := by decide +kernel
theorem dX8_lost_37 : decode cX8_lost 37 = .ok (.iconst 1, 1) := by decide +kernel
theorem dX8_lost_38 : decode cX8_lost 38 = .ok (.iadd, 1) := by decide +kernel
theorem dX8_lost_39 : decode cX8_lost 39 = .ok (.aload_n 0, 1) := by decide +kernel
theorem dX8_lost_40 : decode cX8_lost 40 = .ok (.getfield 10, 3) := by decide +kernel
theorem dX8_lost_43 : decode cX8_lost 43 = .ok (.getfield 48, 3) := by decide +kernel
theorem dX8_lost_46 : decode cX8_lost 46 = .ok (.invokevirtual 144, 3) := by decide +kernel
theorem dX8_lost_49 : decode cX8_lost 49 = .ok (.imul, 1) := by decide +kernel
theorem dX8_lost_50 : decode cX8_lost 50 = .ok (.invokestatic 147, 3) := by decide +kernel
theorem dX8_lost_53 : decode cX8_lost 53 = .ok (.istore_n 3, 1) := by decide +kernel
theorem dX8_lost_54 : decode cX8_lost 54 = .ok (.iload_n 3, 1) := by decide +kernel
theorem dX8_lost_55 : decode cX8_lost 55 = .ok (.iload_n 1, 1) := by decide +kernel
theorem dX8_lost_56 : decode cX8_lost 56 = .ok (.aload_n 0, 1) := by decide +kernel
theorem dX8_lost_57 : decode cX8_lost 57 = .ok (.getfield 10, 3) := by decide +kernel
theorem dX8_lost_60 : decode cX8_lost 60 = .ok (.getfield 48, 3) := by decide +kernel
theorem dX8_lost_63 : decode cX8_lost 63 = .ok (.getfield 124, 3) := by decide +kernel
theorem dX8_lost_66 : decode cX8_lost 66 = .ok (.imul, 1) := by decide +kernel
theorem dX8_lost_67 : decode cX8_lost 67 = .ok (.isub, 1) := by decide +kernel
theorem dX8_lost_68 : decode cX8_lost 68 = .ok (.ireturn, 1) := by decide +kernel
set_option maxRecDepth 20000 in
theorem ggX8_tape_X8_settleAll : GoodIn wsX8_tape wsX8_settleAll := goodIn_r _ [10, 3, 1, 11, 12, 13, 14, 15, 9, 16, 17, 18, 19, 20, 21, 22, 23, 24, 25, 26, 27, 28, 29, 30, 31, 32, 33, 34, 35, 36, 37, 38, 39, 40, 41, 42, 43, 44, 45, 46, 47, 48, 49, 50, 51, 52, 53, 54, 55, 56, 57, 58, 59, 60, 61, 62, 63, 64, 65, 66, 67, 68, 69, 70, 71, 72, 73, 74, 75, 76, 77, 78, 79, 80, 81, 82, 83, 84, 85, 86, 87, 88, 89, 90, 91, 92, 93, 94, 95, 96, 97, 98, 99, 100, 101, 102, 103, 104, 105, 106, 107, 108, 109, 110, 111, 112, 113, 114, 115, 116, 117, 118, 119, 120, 121, 122, 123, 124, 125, 126, 127, 128, 129, 138, 139, 140, 141, 142, 143, 144, 145, 146, 155, 156, 157, 158, 159, 147, 148, 149, 150, 151, 152, 153, 154, 160, 161, 162, 163, 164, 165] (by decide +kernel) (by decide +kernel)
set_option maxRecDepth 20000 in
theorem gX8_tape_X8_settleAll : GoodIn wsX8_tape (wsV RX8 133 RX8 yX8_settleAll wsX8_settleAll) := goodIn_app (goodIn_of _ (by decide +kernel)) ggX8_tape_X8_settleAll
set_option maxRecDepth 20000 in
theorem ggX8_tape_X0_takeOver : GoodIn wsX8_tape wsX0_takeOver := goodIn_r _ [133, 124, 123, 134, 135, 136, 137, 153, 154] (by decide +kernel) (by decide +kernel)
set_option maxRecDepth 20000 in
theorem gX8_tape_X0_takeOver : GoodIn wsX8_tape (wsV RX8 155 RX0 yX0_takeOver wsX0_takeOver) := goodIn_app (goodIn_of _ (by decide +kernel)) ggX8_tape_X0_takeOver
theorem dX8_tape_0 : decode cX8_tape 0 = .ok (.aload_n 0, 1) := by decide +kernel
theorem dX8_tape_1 : decode cX8_tape 1 = .ok (.invokevirtual 133, 3) := by decide +kernel
theorem dX8_tape_4 : decode cX8_tape 4 = .ok (.aload_n 0, 1) := by decide +kernel
theorem dX8_tape_5 : decode cX8_tape 5 = .ok (.getfield 10, 3) := by decide +kernel
theorem dX8_tape_8 : decode cX8_tape 8 = .ok (.getfield 152, 3) := by decide +kernel
theorem dX8_tape_11 : decode cX8_tape 11 = .ok (.aload_n 0, 1) := by decide +kernel
theorem dX8_tape_12 : decode cX8_tape 12 = .ok (.getfield 23, 3) := by decide +kernel
theorem dX8_tape_15 : decode cX8_tape 15 = .ok (.getfield 136, 3) := by decide +kernel
theorem dX8_tape_18 : decode cX8_tape 18 = .ok (.invokevirtual 155, 3) := by decide +kernel
theorem dX8_tape_21 : decode cX8_tape 21 = .ok (.aload_n 0, 1) := by decide +kernel
theorem dX8_tape_22 : decode cX8_tape 22 = .ok (.getfield 10, 3) := by decide +kernel
theorem dX8_tape_25 : decode cX8_tape 25 = .ok (.getfield 152, 3) := by decide +kernel
theorem dX8_tape_28 : decode cX8_tape 28 = .ok (.getfield 140, 3) := by decide +kernel
theorem dX8_tape_31 : decode cX8_tape 31 = .ok (.ireturn, 1) := by decide +kernel
set_option maxRecDepth 20000 in
theorem ggX8_push_X0_append : GoodIn wsX8_push wsX0_append := goodIn_r _ [8, 9, 10, 20, 21] (by decide +kernel) (by decide +kernel)
set_option maxRecDepth 20000 in
theorem gX8_push_X0_append : GoodIn wsX8_push (wsV RX8 159 RX0 yX0_append wsX0_append) := goodIn_app (goodIn_of _ (by decide +kernel)) ggX8_push_X0_append
theorem dX8_push_0 : decode cX8_push 0 = .ok (.iload_n 1, 1) := by decide +kernel
theorem dX8_push_1 : decode cX8_push 1 = .ok (.ifCond .lt 8, 3) := by decide +kernel
theorem dX8_push_4 : decode cX8_push 4 = .ok (.iload_n 1, 1) := by decide +kernel
theorem dX8_push_5 : decode cX8_push 5 = .ok (.iconst 1, 1) := by decide +kernel
theorem dX8_push_6 : decode cX8_push 6 = .ok (.if_icmp .le 6, 3) := by decide +kernel
theorem dX8_push_9 : decode cX8_push 9 = .ok (.bipush (-2), 2) := by decide +kernel
theorem dX8_push_11 : decode cX8_push 11 = .ok (.ireturn, 1) := by decide +kernel
theorem dX8_push_12 : decode cX8_push 12 = .ok (.aload_n 0, 1) := by decide +kernel
theorem dX8_push_13 : decode cX8_push 13 = .ok (.getfield 10, 3) := by decide +kernel
theorem dX8_push_16 : decode cX8_push 16 = .ok (.getfield 152, 3) := by decide +kernel
theorem dX8_push_19 : decode cX8_push 19 = .ok (.getfield 140, 3) := by decide +kernel
theorem dX8_push_22 : decode cX8_push 22 = .ok (.sipush 1000, 3) := by decide +kernel
theorem dX8_push_25 : decode cX8_push 25 = .ok (.if_icmp .lt 6, 3) := by decide +kernel
theorem dX8_push_28 : decode cX8_push 28 = .ok (.bipush (-4), 2) := by decide +kernel
theorem dX8_push_30 : decode cX8_push 30 = .ok (.ireturn, 1) := by decide +kernel
theorem dX8_push_31 : decode cX8_push 31 = .ok (.aload_n 0, 1) := by decide +kernel
theorem dX8_push_32 : decode cX8_push 32 = .ok (.getfield 10, 3) := by decide +kernel
theorem dX8_push_35 : decode cX8_push 35 = .ok (.getfield 152, 3) := by decide +kernel
theorem dX8_push_38 : decode cX8_push 38 = .ok (.iload_n 1, 1) := by decide +kernel
theorem dX8_push_39 : decode cX8_push 39 = .ok (.invokevirtual 159, 3) := by decide +kernel
theorem dX8_push_42 : decode cX8_push 42 = .ok (.aload_n 0, 1) := by decide +kernel
theorem dX8_push_43 : decode cX8_push 43 = .ok (.getfield 10, 3) := by decide +kernel
theorem dX8_push_46 : decode cX8_push 46 = .ok (.getfield 152, 3) := by decide +kernel
theorem dX8_push_49 : decode cX8_push 49 = .ok (.getfield 140, 3) := by decide +kernel
theorem dX8_push_52 : decode cX8_push 52 = .ok (.ireturn, 1) := by decide +kernel
set_option maxRecDepth 20000 in
theorem ggX8_flip_X0_has : GoodIn wsX8_flip wsX0_has := goodIn_r _ [7, 8, 24, 25] (by decide +kernel) (by decide +kernel)
set_option maxRecDepth 20000 in
theorem gX8_flip_X0_has : GoodIn wsX8_flip (wsV RX8 160 RX0 yX0_has wsX0_has) := goodIn_app (goodIn_of _ (by decide +kernel)) ggX8_flip_X0_has
set_option maxRecDepth 20000 in
theorem ggX8_flip_X0_turn : GoodIn wsX8_flip wsX0_turn := goodIn_r _ [12, 13, 14, 4, 5, 6, 7, 8, 24, 25] (by decide +kernel) (by decide +kernel)
set_option maxRecDepth 20000 in
theorem gX8_flip_X0_turn : GoodIn wsX8_flip (wsV RX8 161 RX0 yX0_turn wsX0_turn) := goodIn_app (goodIn_of _ (by decide +kernel)) ggX8_flip_X0_turn
theorem dX8_flip_0 : decode cX8_flip 0 = .ok (.aload_n 0, 1) := by decide +kernel
theorem dX8_flip_1 : decode cX8_flip 1 = .ok (.getfield 10, 3) := by decide +kernel
theorem dX8_flip_4 : decode cX8_flip 4 = .ok (.getfield 152, 3) := by decide +kernel
theorem dX8_flip_7 : decode cX8_flip 7 = .ok (.iload_n 1, 1) := by decide +kernel
theorem dX8_flip_8 : decode cX8_flip 8 = .ok (.invokevirtual 160, 3) := by decide +kernel
theorem dX8_flip_11 : decode cX8_flip 11 = .ok (.ifCond .eq 17, 3) := by decide +kernel
theorem dX8_flip_14 : decode cX8_flip 14 = .ok (.aload_n 0, 1) := by decide +kernel
theorem dX8_flip_15 : decode cX8_flip 15 = .ok (.getfield 10, 3) := by decide +kernel
theorem dX8_flip_18 : decode cX8_flip 18 = .ok (.getfield 152, 3) := by decide +kernel
theorem dX8_flip_21 : decode cX8_flip 21 = .ok (.iload_n 1, 1) := by decide +kernel
theorem dX8_flip_22 : decode cX8_flip 22 = .ok (.invokevirtual 161, 3) := by decide +kernel
theorem dX8_flip_25 : decode cX8_flip 25 = .ok (.goto 5, 3) := by decide +kernel
theorem dX8_flip_28 : decode cX8_flip 28 = .ok (.bipush (-2), 2) := by decide +kernel
theorem dX8_flip_30 : decode cX8_flip 30 = .ok (.ireturn, 1) := by decide +kernel
theorem dX8_cut_0 : decode cX8_cut 0 = .ok (.iload_n 1, 1) := by decide +kernel
theorem dX8_cut_1 : decode cX8_cut 1 = .ok (.ifCond .lt 17, 3) := by decide +kernel
theorem dX8_cut_4 : decode cX8_cut 4 = .ok (.iload_n 1, 1) := by decide +kernel
theorem dX8_cut_5 : decode cX8_cut 5 = .ok (.aload_n 0, 1) := by decide +kernel
theorem dX8_cut_6 : decode cX8_cut 6 = .ok (.getfield 10, 3) := by decide +kernel
theorem dX8_cut_9 : decode cX8_cut 9 = .ok (.getfield 152, 3) := by decide +kernel
theorem dX8_cut_12 : decode cX8_cut 12 = .ok (.getfield 140, 3) := by decide +kernel
theorem dX8_cut_15 : decode cX8_cut 15 = .ok (.if_icmp .le 6, 3) := by decide +kernel
theorem dX8_cut_18 : decode cX8_cut 18 = .ok (.bipush (-2), 2) := by decide +kernel
theorem dX8_cut_20 : decode cX8_cut 20 = .ok (.ireturn, 1) := by decide +kernel
theorem dX8_cut_21 : decode cX8_cut 21 = .ok (.aload_n 0, 1) := by decide +kernel
theorem dX8_cut_22 : decode cX8_cut 22 = .ok (.getfield 10, 3) := by decide +kernel
theorem dX8_cut_25 : decode cX8_cut 25 = .ok (.getfield 152, 3) := by decide +kernel
theorem dX8_cut_28 : decode cX8_cut 28 = .ok (.getfield 140, 3) := by decide +kernel
theorem dX8_cut_31 : decode cX8_cut 31 = .ok (.iload_n 1, 1) := by decide +kernel
theorem dX8_cut_32 : decode cX8_cut 32 = .ok (.isub, 1) := by decide +kernel
theorem dX8_cut_33 : decode cX8_cut 33 = .ok (.istore_n 2, 1) := by decide +kernel
theorem dX8_cut_34 : decode cX8_cut 34 = .ok (.aload_n 0, 1) := by decide +kernel
theorem dX8_cut_35 : decode cX8_cut 35 = .ok (.getfield 10, 3) := by decide +kernel
theorem dX8_cut_38 : decode cX8_cut 38 = .ok (.getfield 152, 3) := by decide +kernel
theorem dX8_cut_41 : decode cX8_cut 41 = .ok (.iload_n 1, 1) := by decide +kernel
theorem dX8_cut_42 : decode cX8_cut 42 = .ok (.putfield 140, 3) := by decide +kernel
theorem dX8_cut_45 : decode cX8_cut 45 = .ok (.iload_n 2, 1) := by decide +kernel
theorem dX8_cut_46 : decode cX8_cut 46 = .ok (.ireturn, 1) := by decide +kernel
set_option maxRecDepth 20000 in
theorem ggX8_bit_X0_at : GoodIn wsX8_bit wsX0_at := goodIn_r _ [8, 9, 10, 20, 21] (by decide +kernel) (by decide +kernel)
set_option maxRecDepth 20000 in
theorem gX8_bit_X0_at : GoodIn wsX8_bit (wsV RX8 143 RX0 yX0_at wsX0_at) := goodIn_app (goodIn_of _ (by decide +kernel)) ggX8_bit_X0_at
theorem dX8_bit_0 : decode cX8_bit 0 = .ok (.iload_n 1, 1) := by decide +kernel
theorem dX8_bit_1 : decode cX8_bit 1 = .ok (.iconst (-1), 1) := by decide +kernel
theorem dX8_bit_2 : decode cX8_bit 2 = .ok (.if_icmp .ge 6, 3) := by decide +kernel
theorem dX8_bit_5 : decode cX8_bit 5 = .ok (.bipush (-2), 2) := by decide +kernel
theorem dX8_bit_7 : decode cX8_bit 7 = .ok (.ireturn, 1) := by decide +kernel
theorem dX8_bit_8 : decode cX8_bit 8 = .ok (.iload_n 1, 1) := by decide +kernel
theorem dX8_bit_9 : decode cX8_bit 9 = .ok (.iconst (-1), 1) := by decide +kernel
theorem dX8_bit_10 : decode cX8_bit 10 = .ok (.if_icmp .ne 16, 3) := by decide +kernel
theorem dX8_bit_13 : decode cX8_bit 13 = .ok (.aload_n 0, 1) := by decide +kernel
theorem dX8_bit_14 : decode cX8_bit 14 = .ok (.getfield 10, 3) := by decide +kernel
theorem dX8_bit_17 : decode cX8_bit 17 = .ok (.getfield 152, 3) := by decide +kernel
theorem dX8_bit_20 : decode cX8_bit 20 = .ok (.getfield 140, 3) := by decide +kernel
theorem dX8_bit_23 : decode cX8_bit 23 = .ok (.goto 14, 3) := by decide +kernel
theorem dX8_bit_26 : decode cX8_bit 26 = .ok (.aload_n 0, 1) := by decide +kernel
theorem dX8_bit_27 : decode cX8_bit 27 = .ok (.getfield 10, 3) := by decide +kernel
theorem dX8_bit_30 : decode cX8_bit 30 = .ok (.getfield 152, 3) := by decide +kernel
theorem dX8_bit_33 : decode cX8_bit 33 = .ok (.iload_n 1, 1) := by decide +kernel
theorem dX8_bit_34 : decode cX8_bit 34 = .ok (.invokevirtual 143, 3) := by decide +kernel
theorem dX8_bit_37 : decode cX8_bit 37 = .ok (.ireturn, 1) := by decide +kernel
set_option maxRecDepth 20000 in
theorem ggX8_read_X5_takeAll : GoodIn wsX8_read wsX5_takeAll := goodIn_r _ [14, 15, 16, 17, 18, 19, 20, 21, 22, 23, 24, 25, 26, 27, 28, 29, 30, 31, 32, 33, 34, 35, 36, 37, 38, 39, 40, 41, 42, 43, 44, 45, 46, 47, 48, 49, 50, 51, 13, 52, 53, 54, 55, 56, 57, 58, 59, 60, 61, 62, 63, 64, 65, 66, 67, 68, 69, 70, 71, 72, 73, 74, 75, 76, 77, 78, 79, 80, 81, 82, 83, 84, 85, 86, 87, 88, 89, 90, 91, 92, 93, 94, 95, 96, 97, 98, 99, 100, 101, 102, 103, 104, 105, 106, 107, 108, 109, 110, 111, 112, 113, 114, 115, 116, 117, 118, 119, 151, 152, 153, 154, 155, 156, 157, 158, 159, 160, 161, 162, 163] (by decide +kernel) (by decide +kernel)
set_option maxRecDepth 20000 in
theorem gX8_read_X5_takeAll : GoodIn wsX8_read (wsV RX8 164 RX5 yX5_takeAll wsX5_takeAll) := goodIn_app (goodIn_of _ (by decide +kernel)) ggX8_read_X5_takeAll
set_option maxRecDepth 20000 in
theorem ggX8_read_X1_takeOver : GoodIn wsX8_read wsX1_takeOver := goodIn_r _ [123, 26, 27, 28, 161, 162, 163] (by decide +kernel) (by decide +kernel)
set_option maxRecDepth 20000 in
theorem gX8_read_X1_takeOver : GoodIn wsX8_read (wsV RX8 173 RX1 yX1_takeOver wsX1_takeOver) := goodIn_app (goodIn_of _ (by decide +kernel)) ggX8_read_X1_takeOver
set_option maxRecDepth 20000 in
theorem ggX8_read_X1_isTold : GoodIn wsX8_read wsX1_isTold := goodIn_r _ [38, 26, 161, 162, 163] (by decide +kernel) (by decide +kernel)
set_option maxRecDepth 20000 in
theorem gX8_read_X1_isTold : GoodIn wsX8_read (wsV RX8 178 RX1 yX1_isTold wsX1_isTold) := goodIn_app (goodIn_of _ (by decide +kernel)) ggX8_read_X1_isTold
set_option maxRecDepth 20000 in
theorem ggX8_read_X6_takeOver : GoodIn wsX8_read wsX6_takeOver := goodIn_r _ [128, 107, 106, 129, 130, 131, 132, 154, 155] (by decide +kernel) (by decide +kernel)
set_option maxRecDepth 20000 in
theorem gX8_read_X6_takeOver : GoodIn wsX8_read (wsV RX8 183 RX6 yX6_takeOver wsX6_takeOver) := goodIn_app (goodIn_of _ (by decide +kernel)) ggX8_read_X6_takeOver
set_option maxRecDepth 20000 in
theorem ggX8_read_X4_keepOnly : GoodIn wsX8_read wsX4_keepOnly := goodIn_r _ [137, 138, 139, 140, 141, 164, 165, 166, 167, 168, 169, 159, 160] (by decide +kernel) (by decide +kernel)
set_option maxRecDepth 20000 in
theorem gX8_read_X4_keepOnly : GoodIn wsX8_read (wsV RX8 61 RX4 yX4_keepOnly wsX4_keepOnly) := goodIn_app (goodIn_of _ (by decide +kernel)) ggX8_read_X4_keepOnly
theorem dX8_read_0 : decode cX8_read 0 = .ok (.iload_n 1, 1) := by decide +kernel
theorem dX8_read_1 : decode cX8_read 1 = .ok (.ifCond .lt 9, 3) := by decide +kernel
theorem dX8_read_4 : decode cX8_read 4 = .ok (.iload_n 1, 1) := by decide +kernel
theorem dX8_read_5 : decode cX8_read 5 = .ok (.bipush 64, 2) := by decide +kernel
theorem dX8_read_7 : decode cX8_read 7 = .ok (.if_icmp .le 6, 3) := by decide +kernel
theorem dX8_read_10 : decode cX8_read 10 = .ok (.bipush (-2), 2) := by decide +kernel
theorem dX8_read_12 : decode cX8_read 12 = .ok (.ireturn, 1) := by decide +kernel
theorem dX8_read_13 : decode cX8_read 13 = .ok (.aload_n 0, 1) := by decide +kernel
theorem dX8_read_14 : decode cX8_read 14 = .ok (.getfield 30, 3) := by decide +kernel
theorem dX8_read_17 : decode cX8_read 17 = .ok (.aload_n 0, 1) := by decide +kernel
theorem dX8_read_18 : decode cX8_read 18 = .ok (.getfield 10, 3) := by decide +kernel
theorem dX8_read_21 : decode cX8_read 21 = .ok (.getfield 48, 3) := by decide +kernel
theorem dX8_read_24 : decode cX8_read 24 = .ok (.aload_n 0, 1) := by decide +kernel
theorem dX8_read_25 : decode cX8_read 25 = .ok (.getfield 10, 3) := by decide +kernel
theorem dX8_read_28 : decode cX8_read 28 = .ok (.getfield 152, 3) := by decide +kernel
theorem dX8_read_31 : decode cX8_read 31 = .ok (.iload_n 1, 1) := by decide +kernel
theorem dX8_read_32 : decode cX8_read 32 = .ok (.invokevirtual 164, 3) := by decide +kernel
theorem dX8_read_35 : decode cX8_read 35 = .ok (.aload_n 0, 1) := by decide +kernel
theorem dX8_read_36 : decode cX8_read 36 = .ok (.getfield 10, 3) := by decide +kernel
theorem dX8_read_39 : decode cX8_read 39 = .ok (.getfield 168, 3) := by decide +kernel
theorem dX8_read_42 : decode cX8_read 42 = .ok (.aload_n 0, 1) := by decide +kernel
theorem dX8_read_43 : decode cX8_read 43 = .ok (.getfield 30, 3) := by decide +kernel
theorem dX8_read_46 : decode cX8_read 46 = .ok (.getfield 172, 3) := by decide +kernel
theorem dX8_read_49 : decode cX8_read 49 = .ok (.invokevirtual 173, 3) := by decide +kernel
theorem dX8_read_52 : decode cX8_read 52 = .ok (.aload_n 0, 1) := by decide +kernel
theorem dX8_read_53 : decode cX8_read 53 = .ok (.getfield 30, 3) := by decide +kernel
theorem dX8_read_56 : decode cX8_read 56 = .ok (.getfield 172, 3) := by decide +kernel
theorem dX8_read_59 : decode cX8_read 59 = .ok (.invokevirtual 178, 3) := by decide +kernel
theorem dX8_read_62 : decode cX8_read 62 = .ok (.ifCond .eq 6, 3) := by decide +kernel
theorem dX8_read_65 : decode cX8_read 65 = .ok (.bipush (-7), 2) := by decide +kernel
theorem dX8_read_67 : decode cX8_read 67 = .ok (.ireturn, 1) := by decide +kernel
theorem dX8_read_68 : decode cX8_read 68 = .ok (.aload_n 0, 1) := by decide +kernel
theorem dX8_read_69 : decode cX8_read 69 = .ok (.getfield 10, 3) := by decide +kernel
theorem dX8_read_72 : decode cX8_read 72 = .ok (.getfield 34, 3) := by decide +kernel
theorem dX8_read_75 : decode cX8_read 75 = .ok (.aload_n 0, 1) := by decide +kernel
theorem dX8_read_76 : decode cX8_read 76 = .ok (.getfield 30, 3) := by decide +kernel
theorem dX8_read_79 : decode cX8_read 79 = .ok (.getfield 182, 3) := by decide +kernel
theorem dX8_read_82 : decode cX8_read 82 = .ok (.invokevirtual 183, 3) := by decide +kernel
theorem dX8_read_85 : decode cX8_read 85 = .ok (.aload_n 0, 1) := by decide +kernel
theorem dX8_read_86 : decode cX8_read 86 = .ok (.getfield 23, 3) := by decide +kernel
theorem dX8_read_89 : decode cX8_read 89 = .ok (.iconst 0, 1) := by decide +kernel
theorem dX8_read_90 : decode cX8_read 90 = .ok (.invokevirtual 61, 3) := by decide +kernel
theorem dX8_read_93 : decode cX8_read 93 = .ok (.iload_n 1, 1) := by decide +kernel
theorem dX8_read_94 : decode cX8_read 94 = .ok (.ireturn, 1) := by decide +kernel
theorem dX8_fault_0 : decode cX8_fault 0 = .ok (.iload_n 1, 1) := by decide +kernel
theorem dX8_fault_1 : decode cX8_fault 1 = .ok (.tableswitch 60 0 2 #[27, 38, 49], 27) := by decide +kernel
theorem dX8_fault_28 : decode cX8_fault 28 = .ok (.aload_n 0, 1) := by decide +kernel
theorem dX8_fault_29 : decode cX8_fault 29 = .ok (.getfield 10, 3) := by decide +kernel
theorem dX8_fault_32 : decode cX8_fault 32 = .ok (.getfield 168, 3) := by decide +kernel
theorem dX8_fault_35 : decode cX8_fault 35 = .ok (.getfield 186, 3) := by decide +kernel
theorem dX8_fault_38 : decode cX8_fault 38 = .ok (.ireturn, 1) := by decide +kernel
theorem dX8_fault_39 : decode cX8_fault 39 = .ok (.aload_n 0, 1) := by decide +kernel
theorem dX8_fault_40 : decode cX8_fault 40 = .ok (.getfield 10, 3) := by decide +kernel
theorem dX8_fault_43 : decode cX8_fault 43 = .ok (.getfield 168, 3) := by decide +kernel
theorem dX8_fault_46 : decode cX8_fault 46 = .ok (.getfield 189, 3) := by decide +kernel
theorem dX8_fault_49 : decode cX8_fault 49 = .ok (.ireturn, 1) := by decide +kernel
theorem dX8_fault_50 : decode cX8_fault 50 = .ok (.aload_n 0, 1) := by decide +kernel
theorem dX8_fault_51 : decode cX8_fault 51 = .ok (.getfield 10, 3) := by decide +kernel
theorem dX8_fault_54 : decode cX8_fault 54 = .ok (.getfield 168, 3) := by decide +kernel
theorem dX8_fault_57 : decode cX8_fault 57 = .ok (.getfield 192, 3) := by decide +kernel
theorem dX8_fault_60 : decode cX8_fault 60 = .ok (.ireturn, 1) := by decide +kernel
theorem dX8_fault_61 : decode cX8_fault 61 = .ok (.bipush (-2), 2) := by decide +kernel
theorem dX8_fault_63 : decode cX8_fault 63 = .ok (.ireturn, 1) := by decide +kernel
set_option maxRecDepth 20000 in
theorem ggX8_image_X8_isImage : GoodIn wsX8_image wsX8_isImage := goodIn_r _ [7] (by decide +kernel) (by decide +kernel)
set_option maxRecDepth 20000 in
theorem gX8_image_X8_isImage : GoodIn wsX8_image (va_wsS RX8 195 yX8_isImage wsX8_isImage) := goodIn_app (goodIn_of _ (by decide +kernel)) ggX8_image_X8_isImage
set_option maxRecDepth 20000 in
theorem ggX8_image_X3_takeOver : GoodIn wsX8_image wsX3_takeOver := goodIn_r _ [12, 13, 14, 15, 16, 17, 18, 19, 20, 21, 22, 23, 24, 25, 26, 27, 28, 29, 30, 31, 32, 33, 34, 35, 36, 37, 38, 39, 40, 41, 42, 43, 44, 45, 46, 47, 48, 49, 50, 51, 57, 58, 59, 60, 61, 62, 63, 64, 65, 66, 67, 68, 69, 70] (by decide +kernel) (by decide +kernel)
set_option maxRecDepth 20000 in
theorem gX8_image_X3_takeOver : GoodIn wsX8_image (wsV RX8 198 RX3 yX3_takeOver wsX3_takeOver) := goodIn_app (goodIn_of _ (by decide +kernel)) ggX8_image_X3_takeOver
theorem dX8_image_0 : decode cX8_image 0 = .ok (.iload_n 1, 1) := by decide +kernel
theorem dX8_image_1 : decode cX8_image 1 = .ok (.invokestatic 195, 3) := by decide +kernel
theorem dX8_image_4 : decode cX8_image 4 = .ok (.ifCond .ne 6, 3) := by decide +kernel
theorem dX8_image_7 : decode cX8_image 7 = .ok (.bipush (-2), 2) := by decide +kernel
theorem dX8_image_9 : decode cX8_image 9 = .ok (.ireturn, 1) := by decide +kernel
theorem dX8_image_10 : decode cX8_image 10 = .ok (.aload_n 0, 1) := by decide +kernel
theorem dX8_image_11 : decode cX8_image 11 = .ok (.getfield 16, 3) := by decide +kernel
theorem dX8_image_14 : decode cX8_image 14 = .ok (.iload_n 1, 1) := by decide +kernel
theorem dX8_image_15 : decode cX8_image 15 = .ok (.aaload, 1) := by decide +kernel
theorem dX8_image_16 : decode cX8_image 16 = .ok (.aload_n 0, 1) := by decide +kernel
theorem dX8_image_17 : decode cX8_image 17 = .ok (.getfield 10, 3) := by decide +kernel
theorem dX8_image_20 : decode cX8_image 20 = .ok (.invokevirtual 198, 3) := by decide +kernel
theorem dX8_image_23 : decode cX8_image 23 = .ok (.aload_n 0, 1) := by decide +kernel
theorem dX8_image_24 : decode cX8_image 24 = .ok (.dup, 1) := by decide +kernel
theorem dX8_image_25 : decode cX8_image 25 = .ok (.getfield 201, 3) := by decide +kernel
theorem dX8_image_28 : decode cX8_image 28 = .ok (.iconst 1, 1) := by decide +kernel
theorem dX8_image_29 : decode cX8_image 29 = .ok (.iload_n 1, 1) := by decide +kernel
theorem dX8_image_30 : decode cX8_image 30 = .ok (.ishl, 1) := by decide +kernel
theorem dX8_image_31 : decode cX8_image 31 = .ok (.ior, 1) := by decide +kernel
theorem dX8_image_32 : decode cX8_image 32 = .ok (.putfield 201, 3) := by decide +kernel
theorem dX8_image_35 : decode cX8_image 35 = .ok (.iconst 1, 1) := by decide +kernel
theorem dX8_image_36 : decode cX8_image 36 = .ok (.ireturn, 1) := by decide +kernel
set_option maxRecDepth 20000 in
theorem ggX8_restore_X8_isImage : GoodIn wsX8_restore wsX8_isImage := goodIn_r _ [8] (by decide +kernel) (by decide +kernel)
set_option maxRecDepth 20000 in
theorem gX8_restore_X8_isImage : GoodIn wsX8_restore (va_wsS RX8 195 yX8_isImage wsX8_isImage) := goodIn_app (goodIn_of _ (by decide +kernel)) ggX8_restore_X8_isImage
set_option maxRecDepth 20000 in
theorem ggX8_restore_X3_takeOver : GoodIn wsX8_restore wsX3_takeOver := goodIn_r _ [13, 14, 15, 16, 17, 18, 19, 20, 21, 22, 23, 24, 25, 26, 27, 28, 29, 30, 31, 32, 33, 34, 35, 36, 37, 38, 39, 40, 41, 42, 43, 44, 45, 46, 47, 48, 49, 50, 51, 52, 67, 68, 69, 70, 71, 72, 73, 74, 75, 76, 77, 78, 79, 80] (by decide +kernel) (by decide +kernel)
set_option maxRecDepth 20000 in
theorem gX8_restore_X3_takeOver : GoodIn wsX8_restore (wsV RX8 198 RX3 yX3_takeOver wsX3_takeOver) := goodIn_app (goodIn_of _ (by decide +kernel)) ggX8_restore_X3_takeOver
set_option maxRecDepth 20000 in
theorem ggX8_restore_X4_keepOnly : GoodIn wsX8_restore wsX4_keepOnly := goodIn_r _ [57, 58, 59, 60, 61, 81, 82, 83, 84, 85, 86, 76, 77] (by decide +kernel) (by decide +kernel)
set_option maxRecDepth 20000 in
theorem gX8_restore_X4_keepOnly : GoodIn wsX8_restore (wsV RX8 61 RX4 yX4_keepOnly wsX4_keepOnly) := goodIn_app (goodIn_of _ (by decide +kernel)) ggX8_restore_X4_keepOnly
theorem dX8_restore_0 : decode cX8_restore 0 = .ok (.iload_n 1, 1) := by decide +kernel
theorem dX8_restore_1 : decode cX8_restore 1 = .ok (.invokestatic 195, 3) := by decide +kernel
theorem dX8_restore_4 : decode cX8_restore 4 = .ok (.ifCond .ne 6, 3) := by decide +kernel
theorem dX8_restore_7 : decode cX8_restore 7 = .ok (.bipush (-2), 2) := by decide +kernel
theorem dX8_restore_9 : decode cX8_restore 9 = .ok (.ireturn, 1) := by decide +kernel
theorem dX8_restore_10 : decode cX8_restore 10 = .ok (.aload_n 0, 1) := by decide +kernel
theorem dX8_restore_11 : decode cX8_restore 11 = .ok (.getfield 201, 3) := by decide +kernel
theorem dX8_restore_14 : decode cX8_restore 14 = .ok (.iload_n 1, 1) := by decide +kernel
theorem dX8_restore_15 : decode cX8_restore 15 = .ok (.ishr, 1) := by decide +kernel
theorem dX8_restore_16 : decode cX8_restore 16 = .ok (.iconst 1, 1) := by decide +kernel
theorem dX8_restore_17 : decode cX8_restore 17 = .ok (.iand, 1) := by decide +kernel
theorem dX8_restore_18 : decode cX8_restore 18 = .ok (.ifCond .ne 6, 3) := by decide +kernel
theorem dX8_restore_21 : decode cX8_restore 21 = .ok (.bipush (-3), 2) := by decide +kernel
theorem dX8_restore_23 : decode cX8_restore 23 = .ok (.ireturn, 1) := by decide +kernel
theorem dX8_restore_24 : decode cX8_restore 24 = .ok (.aload_n 0, 1) := by decide +kernel
theorem dX8_restore_25 : decode cX8_restore 25 = .ok (.getfield 10, 3) := by decide +kernel
theorem dX8_restore_28 : decode cX8_restore 28 = .ok (.aload_n 0, 1) := by decide +kernel
theorem dX8_restore_29 : decode cX8_restore 29 = .ok (.getfield 16, 3) := by decide +kernel
theorem dX8_restore_32 : decode cX8_restore 32 = .ok (.iload_n 1, 1) := by decide +kernel
theorem dX8_restore_33 : decode cX8_restore 33 = .ok (.aaload, 1) := by decide +kernel
theorem dX8_restore_34 : decode cX8_restore 34 = .ok (.invokevirtual 198, 3) := by decide +kernel
theorem dX8_restore_37 : decode cX8_restore 37 = .ok (.aload_n 0, 1) := by decide +kernel
theorem dX8_restore_38 : decode cX8_restore 38 = .ok (.getfield 23, 3) := by decide +kernel
theorem dX8_restore_41 : decode cX8_restore 41 = .ok (.iconst 0, 1) := by decide +kernel
theorem dX8_restore_42 : decode cX8_restore 42 = .ok (.invokevirtual 61, 3) := by decide +kernel
theorem dX8_restore_45 : decode cX8_restore 45 = .ok (.iconst 1, 1) := by decide +kernel
theorem dX8_restore_46 : decode cX8_restore 46 = .ok (.ireturn, 1) := by decide +kernel
set_option maxRecDepth 20000 in
theorem ggX8_count_X8_blocks : GoodIn wsX8_count wsX8_blocks := goodIn_r _ [14, 1, 2, 3, 4, 15, 16, 17, 13, 18, 19, 20, 21, 143, 144, 145, 146, 147, 148, 149, 150, 151, 152, 153, 162, 163, 164] (by decide +kernel) (by decide +kernel)
set_option maxRecDepth 20000 in
theorem gX8_count_X8_blocks : GoodIn wsX8_count (wsV RX8 204 RX8 yX8_blocks wsX8_blocks) := goodIn_app (goodIn_of _ (by decide +kernel)) ggX8_count_X8_blocks
set_option maxRecDepth 20000 in
theorem ggX8_count_X7_segmentSize : GoodIn wsX8_count wsX7_segmentSize := goodIn_r _ [26, 27, 28, 162, 163, 164] (by decide +kernel) (by decide +kernel)
set_option maxRecDepth 20000 in
theorem gX8_count_X7_segmentSize : GoodIn wsX8_count (wsV RX8 144 RX7 yX7_segmentSize wsX7_segmentSize) := goodIn_app (goodIn_of _ (by decide +kernel)) ggX8_count_X7_segmentSize
set_option maxRecDepth 20000 in
theorem ggX8_count_X8_quotientUp : GoodIn wsX8_count wsX8_quotientUp := goodIn_r _ [18, 19, 20, 13, 21] (by decide +kernel) (by decide +kernel)
set_option maxRecDepth 20000 in
theorem gX8_count_X8_quotientUp : GoodIn wsX8_count (va_wsS RX8 207 yX8_quotientUp wsX8_quotientUp) := goodIn_app (goodIn_of _ (by decide +kernel)) ggX8_count_X8_quotientUp
set_option maxRecDepth 20000 in
theorem ggX8_count_X8_settleAll : GoodIn wsX8_count wsX8_settleAll := goodIn_r _ [32, 5, 1, 4, 2, 10, 11, 12, 13, 14, 3, 15, 16, 17, 18, 19, 20, 21, 33, 34, 35, 36, 37, 38, 39, 40, 41, 42, 43, 44, 45, 46, 47, 48, 49, 50, 51, 52, 53, 54, 55, 56, 57, 58, 59, 60, 61, 62, 63, 64, 65, 66, 67, 68, 69, 25, 70, 27, 71, 72, 73, 74, 75, 28, 76, 77, 78, 79, 80, 81, 82, 83, 84, 85, 86, 87, 88, 89, 90, 91, 92, 93, 94, 95, 96, 97, 98, 99, 100, 101, 102, 103, 104, 105, 106, 107, 108, 109, 110, 111, 112, 113, 114, 115, 116, 117, 118, 119, 120, 121, 122, 123, 124, 125, 126, 127, 128, 129, 130, 131, 132, 133, 134, 143, 144, 145, 146, 147, 148, 149, 150, 151, 152, 153, 162, 163, 164, 154, 155, 156, 157, 158, 159, 160, 161, 165, 166, 167, 168, 169, 170] (by decide +kernel) (by decide +kernel)
set_option maxRecDepth 20000 in
theorem gX8_count_X8_settleAll : GoodIn wsX8_count (wsV RX8 133 RX8 yX8_settleAll wsX8_settleAll) := goodIn_app (goodIn_of _ (by decide +kernel)) ggX8_count_X8_settleAll
set_option maxRecDepth 20000 in
theorem ggX8_count_X7_value : GoodIn wsX8_count wsX7_value := goodIn_r _ [138, 99, 27, 28, 162, 163, 164] (by decide +kernel) (by decide +kernel)
set_option maxRecDepth 20000 in
theorem gX8_count_X7_value : GoodIn wsX8_count (wsV RX8 52 RX7 yX7_value wsX7_value) := goodIn_app (goodIn_of _ (by decide +kernel)) ggX8_count_X7_value
set_option maxRecDepth 20000 in
theorem ggX8_count_X4_settledWith : GoodIn wsX8_count wsX4_settledWith := goodIn_r _ [142, 42, 46, 154, 155, 156, 157, 158, 159] (by decide +kernel) (by decide +kernel)
set_option maxRecDepth 20000 in
theorem gX8_count_X4_settledWith : GoodIn wsX8_count (wsV RX8 210 RX4 yX4_settledWith wsX4_settledWith) := goodIn_app (goodIn_of _ (by decide +kernel)) ggX8_count_X4_settledWith
theorem dX8_count_0 : decode cX8_count 0 = .ok (.iload_n 1, 1) := by decide +kernel
theorem dX8_count_1 : decode cX8_count 1 = .ok (.tableswitch 153 0 9 #[55, 66, 71, 95, 110, 121, 121, 121, 135, 148], 55) := by decide +kernel
theorem dX8_count_56 : decode cX8_count 56 = .ok (.aload_n 0, 1) := by decide +kernel
theorem dX8_count_57 : decode cX8_count 57 = .ok (.getfield 10, 3) := by decide +kernel
theorem dX8_count_60 : decode cX8_count 60 = .ok (.getfield 34, 3) := by decide +kernel
theorem dX8_count_63 : decode cX8_count 63 = .ok (.getfield 68, 3) := by decide +kernel
theorem dX8_count_66 : decode cX8_count 66 = .ok (.ireturn, 1) := by decide +kernel
theorem dX8_count_67 : decode cX8_count 67 = .ok (.aload_n 0, 1) := by decide +kernel
theorem dX8_count_68 : decode cX8_count 68 = .ok (.invokevirtual 204, 3) := by decide +kernel
theorem dX8_count_71 : decode cX8_count 71 = .ok (.ireturn, 1) := by decide +kernel
theorem dX8_count_72 : decode cX8_count 72 = .ok (.aload_n 0, 1) := by decide +kernel
theorem dX8_count_73 : decode cX8_count 73 = .ok (.getfield 10, 3) := by decide +kernel
theorem dX8_count_76 : decode cX8_count 76 = .ok (.getfield 34, 3) := by decide +kernel
theorem dX8_count_79 : decode cX8_count 79 = .ok (.getfield 68, 3) := by decide +kernel
theorem dX8_count_82 : decode cX8_count 82 = .ok (.aload_n 0, 1) := by decide +kernel
theorem dX8_count_83 : decode cX8_count 83 = .ok (.getfield 10, 3) := by decide +kernel
theorem dX8_count_86 : decode cX8_count 86 = .ok (.getfield 48, 3) := by decide +kernel
theorem dX8_count_89 : decode cX8_count 89 = .ok (.invokevirtual 144, 3) := by decide +kernel
theorem dX8_count_92 : decode cX8_count 92 = .ok (.invokestatic 207, 3) := by decide +kernel
theorem dX8_count_95 : decode cX8_count 95 = .ok (.ireturn, 1) := by decide +kernel
theorem dX8_count_96 : decode cX8_count 96 = .ok (.aload_n 0, 1) := by decide +kernel
theorem dX8_count_97 : decode cX8_count 97 = .ok (.invokevirtual 133, 3) := by decide +kernel
theorem dX8_count_100 : decode cX8_count 100 = .ok (.aload_n 0, 1) := by decide +kernel
theorem dX8_count_101 : decode cX8_count 101 = .ok (.getfield 23, 3) := by decide +kernel
theorem dX8_count_104 : decode cX8_count 104 = .ok (.getfield 136, 3) := by decide +kernel
theorem dX8_count_107 : decode cX8_count 107 = .ok (.getfield 140, 3) := by decide +kernel
theorem dX8_count_110 : decode cX8_count 110 = .ok (.ireturn, 1) := by decide +kernel
theorem dX8_count_111 : decode cX8_count 111 = .ok (.aload_n 0, 1) := by decide +kernel
theorem dX8_count_112 : decode cX8_count 112 = .ok (.getfield 10, 3) := by decide +kernel
theorem dX8_count_115 : decode cX8_count 115 = .ok (.getfield 152, 3) := by decide +kernel
theorem dX8_count_118 : decode cX8_count 118 = .ok (.getfield 140, 3) := by decide +kernel
theorem dX8_count_121 : decode cX8_count 121 = .ok (.ireturn, 1) := by decide +kernel
theorem dX8_count_122 : decode cX8_count 122 = .ok (.aload_n 0, 1) := by decide +kernel
theorem dX8_count_123 : decode cX8_count 123 = .ok (.getfield 10, 3) := by decide +kernel
theorem dX8_count_126 : decode cX8_count 126 = .ok (.getfield 48, 3) := by decide +kernel
theorem dX8_count_129 : decode cX8_count 129 = .ok (.iload_n 1, 1) := by decide +kernel
theorem dX8_count_130 : decode cX8_count 130 = .ok (.iconst 5, 1) := by decide +kernel
theorem dX8_count_131 : decode cX8_count 131 = .ok (.isub, 1) := by decide +kernel
theorem dX8_count_132 : decode cX8_count 132 = .ok (.invokevirtual 52, 3) := by decide +kernel
theorem dX8_count_135 : decode cX8_count 135 = .ok (.ireturn, 1) := by decide +kernel
theorem dX8_count_136 : decode cX8_count 136 = .ok (.aload_n 0, 1) := by decide +kernel
theorem dX8_count_137 : decode cX8_count 137 = .ok (.invokevirtual 133, 3) := by decide +kernel
theorem dX8_count_140 : decode cX8_count 140 = .ok (.aload_n 0, 1) := by decide +kernel
theorem dX8_count_141 : decode cX8_count 141 = .ok (.getfield 23, 3) := by decide +kernel
theorem dX8_count_144 : decode cX8_count 144 = .ok (.iconst 0, 1) := by decide +kernel
theorem dX8_count_145 : decode cX8_count 145 = .ok (.invokevirtual 210, 3) := by decide +kernel
theorem dX8_count_148 : decode cX8_count 148 = .ok (.ireturn, 1) := by decide +kernel
theorem dX8_count_149 : decode cX8_count 149 = .ok (.aload_n 0, 1) := by decide +kernel
theorem dX8_count_150 : decode cX8_count 150 = .ok (.getfield 201, 3) := by decide +kernel
theorem dX8_count_153 : decode cX8_count 153 = .ok (.ireturn, 1) := by decide +kernel
theorem dX8_count_154 : decode cX8_count 154 = .ok (.bipush (-2), 2) := by decide +kernel
theorem dX8_count_156 : decode cX8_count 156 = .ok (.ireturn, 1) := by decide +kernel
set_option maxRecDepth 20000 in
theorem ggX8_blocks_X8_quotientUp : GoodIn wsX8_blocks wsX8_quotientUp := goodIn_r _ [9, 10, 11, 8, 12] (by decide +kernel) (by decide +kernel)
set_option maxRecDepth 20000 in
theorem gX8_blocks_X8_quotientUp : GoodIn wsX8_blocks (va_wsS RX8 207 yX8_quotientUp wsX8_quotientUp) := goodIn_app (goodIn_of _ (by decide +kernel)) ggX8_blocks_X8_quotientUp
theorem dX8_blocks_0 : decode cX8_blocks 0 = .ok (.aload_n 0, 1) := by decide +kernel
theorem dX8_blocks_1 : decode cX8_blocks 1 = .ok (.getfield 10, 3) := by decide +kernel
theorem dX8_blocks_4 : decode cX8_blocks 4 = .ok (.getfield 34, 3) := by decide +kernel
theorem dX8_blocks_7 : decode cX8_blocks 7 = .ok (.getfield 68, 3) := by decide +kernel
theorem dX8_blocks_10 : decode cX8_blocks 10 = .ok (.aload_n 0, 1) := by decide +kernel
theorem dX8_blocks_11 : decode cX8_blocks 11 = .ok (.getfield 10, 3) := by decide +kernel
theorem dX8_blocks_14 : decode cX8_blocks 14 = .ok (.getfield 48, 3) := by decide +kernel
theorem dX8_blocks_17 : decode cX8_blocks 17 = .ok (.getfield 124, 3) := by decide +kernel
theorem dX8_blocks_20 : decode cX8_blocks 20 = .ok (.invokestatic 207, 3) := by decide +kernel
theorem dX8_blocks_23 : decode cX8_blocks 23 = .ok (.ireturn, 1) := by decide +kernel
set_option maxRecDepth 20000 in
theorem ggX8_hasBlock_X8_blocks : GoodIn wsX8_hasBlock wsX8_blocks := goodIn_r _ [5, 6, 7, 8, 9, 10, 11, 12, 4, 13, 14, 15, 16, 17, 18, 19, 20, 21, 22, 23, 24, 25, 26, 27, 28, 29, 30] (by decide +kernel) (by decide +kernel)
set_option maxRecDepth 20000 in
theorem gX8_hasBlock_X8_blocks : GoodIn wsX8_hasBlock (wsV RX8 204 RX8 yX8_blocks wsX8_blocks) := goodIn_app (goodIn_of _ (by decide +kernel)) ggX8_hasBlock_X8_blocks
theorem dX8_hasBlock_0 : decode cX8_hasBlock 0 = .ok (.iload_n 1, 1) := by decide +kernel
theorem dX8_hasBlock_1 : decode cX8_hasBlock 1 = .ok (.ifCond .lt 15, 3) := by decide +kernel
theorem dX8_hasBlock_4 : decode cX8_hasBlock 4 = .ok (.iload_n 1, 1) := by decide +kernel
theorem dX8_hasBlock_5 : decode cX8_hasBlock 5 = .ok (.aload_n 0, 1) := by decide +kernel
theorem dX8_hasBlock_6 : decode cX8_hasBlock 6 = .ok (.invokevirtual 204, 3) := by decide +kernel
theorem dX8_hasBlock_9 : decode cX8_hasBlock 9 = .ok (.if_icmp .ge 7, 3) := by decide +kernel
theorem dX8_hasBlock_12 : decode cX8_hasBlock 12 = .ok (.iconst 1, 1) := by decide +kernel
theorem dX8_hasBlock_13 : decode cX8_hasBlock 13 = .ok (.goto 4, 3) := by decide +kernel
theorem dX8_hasBlock_16 : decode cX8_hasBlock 16 = .ok (.iconst 0, 1) := by decide +kernel
theorem dX8_hasBlock_17 : decode cX8_hasBlock 17 = .ok (.ireturn, 1) := by decide +kernel
set_option maxRecDepth 20000 in
theorem ggX8_settleAll_X8_blocks : GoodIn wsX8_settleAll wsX8_blocks := goodIn_r _ [9, 2, 4, 10, 3, 11, 12, 13, 8, 14, 15, 16, 17, 123, 124, 125, 126, 127, 128, 129, 130, 131, 132, 133, 134, 135, 136] (by decide +kernel) (by decide +kernel)
set_option maxRecDepth 20000 in
theorem gX8_settleAll_X8_blocks : GoodIn wsX8_settleAll (wsV RX8 204 RX8 yX8_blocks wsX8_blocks) := goodIn_app (goodIn_of _ (by decide +kernel)) ggX8_settleAll_X8_blocks
set_option maxRecDepth 20000 in
theorem ggX8_settleAll_X4_settle : GoodIn wsX8_settleAll wsX4_settle := goodIn_r _ [22, 23, 24, 25, 26, 27, 28, 29, 30, 31, 32, 33, 34, 35, 36, 21, 37, 38, 39, 40, 41, 42, 43, 44, 45, 46, 47, 48, 49, 50, 51, 52, 53, 54, 55, 56, 57, 58, 59, 60, 61, 62, 63, 64, 65, 66, 67, 68, 69, 70, 71, 8, 72, 73, 74, 75, 76, 77, 78, 79, 80, 81, 82, 83, 84, 85, 86, 87, 88, 89, 90, 91, 92, 93, 94, 95, 96, 97, 98, 99, 100, 101, 102, 103, 104, 105, 106, 107, 108, 109, 110, 111, 112, 113, 114, 115, 116, 117, 118, 119, 120, 121, 122, 137, 138, 139, 140, 141, 142, 143, 144, 134, 135, 136, 132, 133, 145, 146, 147, 148, 149, 150] (by decide +kernel) (by decide +kernel)
set_option maxRecDepth 20000 in
theorem gX8_settleAll_X4_settle : GoodIn wsX8_settleAll (wsV RX8 106 RX4 yX4_settle wsX4_settle) := goodIn_app (goodIn_of _ (by decide +kernel)) ggX8_settleAll_X4_settle
theorem dX8_settleAll_0 : decode cX8_settleAll 0 = .ok (.aload_n 0, 1) := by decide +kernel
theorem dX8_settleAll_1 : decode cX8_settleAll 1 = .ok (.getfield 23, 3) := by decide +kernel
theorem dX8_settleAll_4 : decode cX8_settleAll 4 = .ok (.aload_n 0, 1) := by decide +kernel
theorem dX8_settleAll_5 : decode cX8_settleAll 5 = .ok (.getfield 10, 3) := by decide +kernel
theorem dX8_settleAll_8 : decode cX8_settleAll 8 = .ok (.getfield 48, 3) := by decide +kernel
theorem dX8_settleAll_11 : decode cX8_settleAll 11 = .ok (.aload_n 0, 1) := by decide +kernel
theorem dX8_settleAll_12 : decode cX8_settleAll 12 = .ok (.getfield 10, 3) := by decide +kernel
theorem dX8_settleAll_15 : decode cX8_settleAll 15 = .ok (.getfield 34, 3) := by decide +kernel
theorem dX8_settleAll_18 : decode cX8_settleAll 18 = .ok (.aload_n 0, 1) := by decide +kernel
theorem dX8_settleAll_19 : decode cX8_settleAll 19 = .ok (.invokevirtual 204, 3) := by decide +kernel
theorem dX8_settleAll_22 : decode cX8_settleAll 22 = .ok (.invokevirtual 106, 3) := by decide +kernel
theorem dX8_settleAll_25 : decode cX8_settleAll 25 = .ok (.return_, 1) := by decide +kernel
theorem dX8_isWay_0 : decode cX8_isWay 0 = .ok (.iload_n 0, 1) := by decide +kernel
theorem dX8_isWay_1 : decode cX8_isWay 1 = .ok (.ifCond .lt 12, 3) := by decide +kernel
theorem dX8_isWay_4 : decode cX8_isWay 4 = .ok (.iload_n 0, 1) := by decide +kernel
theorem dX8_isWay_5 : decode cX8_isWay 5 = .ok (.iconst 4, 1) := by decide +kernel
theorem dX8_isWay_6 : decode cX8_isWay 6 = .ok (.if_icmp .ge 7, 3) := by decide +kernel
theorem dX8_isWay_9 : decode cX8_isWay 9 = .ok (.iconst 1, 1) := by decide +kernel
theorem dX8_isWay_10 : decode cX8_isWay 10 = .ok (.goto 4, 3) := by decide +kernel
theorem dX8_isWay_13 : decode cX8_isWay 13 = .ok (.iconst 0, 1) := by decide +kernel
theorem dX8_isWay_14 : decode cX8_isWay 14 = .ok (.ireturn, 1) := by decide +kernel
theorem dX8_isImage_0 : decode cX8_isImage 0 = .ok (.iload_n 0, 1) := by decide +kernel
theorem dX8_isImage_1 : decode cX8_isImage 1 = .ok (.ifCond .lt 12, 3) := by decide +kernel
theorem dX8_isImage_4 : decode cX8_isImage 4 = .ok (.iload_n 0, 1) := by decide +kernel
theorem dX8_isImage_5 : decode cX8_isImage 5 = .ok (.iconst 2, 1) := by decide +kernel
theorem dX8_isImage_6 : decode cX8_isImage 6 = .ok (.if_icmp .ge 7, 3) := by decide +kernel
theorem dX8_isImage_9 : decode cX8_isImage 9 = .ok (.iconst 1, 1) := by decide +kernel
theorem dX8_isImage_10 : decode cX8_isImage 10 = .ok (.goto 4, 3) := by decide +kernel
theorem dX8_isImage_13 : decode cX8_isImage 13 = .ok (.iconst 0, 1) := by decide +kernel
theorem dX8_isImage_14 : decode cX8_isImage 14 = .ok (.ireturn, 1) := by decide +kernel
theorem dX8_topOf_0 : decode cX8_topOf 0 = .ok (.iconst 1, 1) := by decide +kernel
theorem dX8_topOf_1 : decode cX8_topOf 1 = .ok (.iload_n 0, 1) := by decide +kernel
theorem dX8_topOf_2 : decode cX8_topOf 2 = .ok (.ishl, 1) := by decide +kernel
theorem dX8_topOf_3 : decode cX8_topOf 3 = .ok (.iconst 1, 1) := by decide +kernel
theorem dX8_topOf_4 : decode cX8_topOf 4 = .ok (.isub, 1) := by decide +kernel
theorem dX8_topOf_5 : decode cX8_topOf 5 = .ok (.ireturn, 1) := by decide +kernel
theorem dX8_quotient_0 : decode cX8_quotient 0 = .ok (.iload_n 1, 1) := by decide +kernel
theorem dX8_quotient_1 : decode cX8_quotient 1 = .ok (.iconst 1, 1) := by decide +kernel
theorem dX8_quotient_2 : decode cX8_quotient 2 = .ok (.if_icmp .ge 7, 3) := by decide +kernel
theorem dX8_quotient_5 : decode cX8_quotient 5 = .ok (.iconst 0, 1) := by decide +kernel
theorem dX8_quotient_6 : decode cX8_quotient 6 = .ok (.goto 6, 3) := by decide +kernel
theorem dX8_quotient_9 : decode cX8_quotient 9 = .ok (.iload_n 0, 1) := by decide +kernel
theorem dX8_quotient_10 : decode cX8_quotient 10 = .ok (.iload_n 1, 1) := by decide +kernel
theorem dX8_quotient_11 : decode cX8_quotient 11 = .ok (.idiv, 1) := by decide +kernel
theorem dX8_quotient_12 : decode cX8_quotient 12 = .ok (.ireturn, 1) := by decide +kernel
set_option maxRecDepth 20000 in
theorem ggX8_quotientUp_X8_quotient : GoodIn wsX8_quotientUp wsX8_quotient := goodIn_r _ [4] (by decide +kernel) (by decide +kernel)
set_option maxRecDepth 20000 in
theorem gX8_quotientUp_X8_quotient : GoodIn wsX8_quotientUp (va_wsS RX8 130 yX8_quotient wsX8_quotient) := goodIn_app (goodIn_of _ (by decide +kernel)) ggX8_quotientUp_X8_quotient
theorem dX8_quotientUp_0 : decode cX8_quotientUp 0 = .ok (.iload_n 0, 1) := by decide +kernel
theorem dX8_quotientUp_1 : decode cX8_quotientUp 1 = .ok (.iload_n 1, 1) := by decide +kernel
theorem dX8_quotientUp_2 : decode cX8_quotientUp 2 = .ok (.iadd, 1) := by decide +kernel
theorem dX8_quotientUp_3 : decode cX8_quotientUp 3 = .ok (.iconst 1, 1) := by decide +kernel
theorem dX8_quotientUp_4 : decode cX8_quotientUp 4 = .ok (.isub, 1) := by decide +kernel
theorem dX8_quotientUp_5 : decode cX8_quotientUp 5 = .ok (.iload_n 1, 1) := by decide +kernel
theorem dX8_quotientUp_6 : decode cX8_quotientUp 6 = .ok (.invokestatic 130, 3) := by decide +kernel
theorem dX8_quotientUp_9 : decode cX8_quotientUp 9 = .ok (.ireturn, 1) := by decide +kernel
set_option maxRecDepth 20000 in
theorem ggX8_toldAhead_X8_topOf : GoodIn wsX8_toldAhead wsX8_topOf := goodIn_r _ [12] (by decide +kernel) (by decide +kernel)
set_option maxRecDepth 20000 in
theorem gX8_toldAhead_X8_topOf : GoodIn wsX8_toldAhead (va_wsS RX8 44 yX8_topOf wsX8_topOf) := goodIn_app (goodIn_of _ (by decide +kernel)) ggX8_toldAhead_X8_topOf
set_option maxRecDepth 20000 in
theorem ggX8_toldAhead_X6_at : GoodIn wsX8_toldAhead wsX6_at := goodIn_r _ [17, 18, 19, 30, 31] (by decide +kernel) (by decide +kernel)
set_option maxRecDepth 20000 in
theorem gX8_toldAhead_X6_at : GoodIn wsX8_toldAhead (wsV RX8 78 RX6 yX6_at wsX6_at) := goodIn_app (goodIn_of _ (by decide +kernel)) ggX8_toldAhead_X6_at
set_option maxRecDepth 20000 in
theorem ggX8_toldAhead_X7_isBare : GoodIn wsX8_toldAhead wsX7_isBare := goodIn_r _ [24, 25, 26, 27, 28, 29] (by decide +kernel) (by decide +kernel)
set_option maxRecDepth 20000 in
theorem gX8_toldAhead_X7_isBare : GoodIn wsX8_toldAhead (wsV RX8 88 RX7 yX7_isBare wsX7_isBare) := goodIn_app (goodIn_of _ (by decide +kernel)) ggX8_toldAhead_X7_isBare
theorem dX8_toldAhead_0 : decode cX8_toldAhead 0 = .ok (.aload_n 0, 1) := by decide +kernel
theorem dX8_toldAhead_1 : decode cX8_toldAhead 1 = .ok (.getfield 213, 3) := by decide +kernel
theorem dX8_toldAhead_4 : decode cX8_toldAhead 4 = .ok (.invokestatic 44, 3) := by decide +kernel
theorem dX8_toldAhead_7 : decode cX8_toldAhead 7 = .ok (.istore 4, 2) := by decide +kernel
theorem dX8_toldAhead_9 : decode cX8_toldAhead 9 = .ok (.aload_n 1, 1) := by decide +kernel
theorem dX8_toldAhead_10 : decode cX8_toldAhead 10 = .ok (.iload_n 2, 1) := by decide +kernel
theorem dX8_toldAhead_11 : decode cX8_toldAhead 11 = .ok (.iconst 1, 1) := by decide +kernel
theorem dX8_toldAhead_12 : decode cX8_toldAhead 12 = .ok (.isub, 1) := by decide +kernel
theorem dX8_toldAhead_13 : decode cX8_toldAhead 13 = .ok (.invokevirtual 78, 3) := by decide +kernel
theorem dX8_toldAhead_16 : decode cX8_toldAhead 16 = .ok (.istore 5, 2) := by decide +kernel
theorem dX8_toldAhead_18 : decode cX8_toldAhead 18 = .ok (.aload_n 0, 1) := by decide +kernel
theorem dX8_toldAhead_19 : decode cX8_toldAhead 19 = .ok (.iload_n 2, 1) := by decide +kernel
theorem dX8_toldAhead_20 : decode cX8_toldAhead 20 = .ok (.iconst 1, 1) := by decide +kernel
theorem dX8_toldAhead_21 : decode cX8_toldAhead 21 = .ok (.isub, 1) := by decide +kernel
theorem dX8_toldAhead_22 : decode cX8_toldAhead 22 = .ok (.invokevirtual 88, 3) := by decide +kernel
theorem dX8_toldAhead_25 : decode cX8_toldAhead 25 = .ok (.ifCond .eq 8, 3) := by decide +kernel
theorem dX8_toldAhead_28 : decode cX8_toldAhead 28 = .ok (.iload 5, 2) := by decide +kernel
theorem dX8_toldAhead_30 : decode cX8_toldAhead 30 = .ok (.goto 10, 3) := by decide +kernel
theorem dX8_toldAhead_33 : decode cX8_toldAhead 33 = .ok (.aload_n 1, 1) := by decide +kernel
theorem dX8_toldAhead_34 : decode cX8_toldAhead 34 = .ok (.iload_n 2, 1) := by decide +kernel
theorem dX8_toldAhead_35 : decode cX8_toldAhead 35 = .ok (.iconst 2, 1) := by decide +kernel
theorem dX8_toldAhead_36 : decode cX8_toldAhead 36 = .ok (.isub, 1) := by decide +kernel
theorem dX8_toldAhead_37 : decode cX8_toldAhead 37 = .ok (.invokevirtual 78, 3) := by decide +kernel
theorem dX8_toldAhead_40 : decode cX8_toldAhead 40 = .ok (.istore 6, 2) := by decide +kernel
theorem dX8_toldAhead_42 : decode cX8_toldAhead 42 = .ok (.iload_n 3, 1) := by decide +kernel
theorem dX8_toldAhead_43 : decode cX8_toldAhead 43 = .ok (.tableswitch 52 0 2 #[25, 32, 35], 25) := by decide +kernel
theorem dX8_toldAhead_68 : decode cX8_toldAhead 68 = .ok (.iload 4, 2) := by decide +kernel
theorem dX8_toldAhead_70 : decode cX8_toldAhead 70 = .ok (.iconst 1, 1) := by decide +kernel
theorem dX8_toldAhead_71 : decode cX8_toldAhead 71 = .ok (.iadd, 1) := by decide +kernel
theorem dX8_toldAhead_72 : decode cX8_toldAhead 72 = .ok (.iconst 2, 1) := by decide +kernel
theorem dX8_toldAhead_73 : decode cX8_toldAhead 73 = .ok (.idiv, 1) := by decide +kernel
theorem dX8_toldAhead_74 : decode cX8_toldAhead 74 = .ok (.ireturn, 1) := by decide +kernel
theorem dX8_toldAhead_75 : decode cX8_toldAhead 75 = .ok (.iload 5, 2) := by decide +kernel
theorem dX8_toldAhead_77 : decode cX8_toldAhead 77 = .ok (.ireturn, 1) := by decide +kernel
theorem dX8_toldAhead_78 : decode cX8_toldAhead 78 = .ok (.iconst 0, 1) := by decide +kernel
theorem dX8_toldAhead_79 : decode cX8_toldAhead 79 = .ok (.iload 4, 2) := by decide +kernel
theorem dX8_toldAhead_81 : decode cX8_toldAhead 81 = .ok (.iconst 2, 1) := by decide +kernel
theorem dX8_toldAhead_82 : decode cX8_toldAhead 82 = .ok (.iload 5, 2) := by decide +kernel
theorem dX8_toldAhead_84 : decode cX8_toldAhead 84 = .ok (.imul, 1) := by decide +kernel
theorem dX8_toldAhead_85 : decode cX8_toldAhead 85 = .ok (.iload 6, 2) := by decide +kernel
theorem dX8_toldAhead_87 : decode cX8_toldAhead 87 = .ok (.isub, 1) := by decide +kernel
theorem dX8_toldAhead_88 : decode cX8_toldAhead 88 = .ok (.invokestatic 147, 3) := by decide +kernel
theorem dX8_toldAhead_91 : decode cX8_toldAhead 91 = .ok (.invokestatic 216, 3) := by decide +kernel
theorem dX8_toldAhead_94 : decode cX8_toldAhead 94 = .ok (.ireturn, 1) := by decide +kernel
theorem dX8_toldAhead_95 : decode cX8_toldAhead 95 = .ok (.iload 5, 2) := by decide +kernel
theorem dX8_toldAhead_97 : decode cX8_toldAhead 97 = .ok (.iload 6, 2) := by decide +kernel
theorem dX8_toldAhead_99 : decode cX8_toldAhead 99 = .ok (.iadd, 1) := by decide +kernel
theorem dX8_toldAhead_100 : decode cX8_toldAhead 100 = .ok (.iconst 2, 1) := by decide +kernel
theorem dX8_toldAhead_101 : decode cX8_toldAhead 101 = .ok (.idiv, 1) := by decide +kernel
theorem dX8_toldAhead_102 : decode cX8_toldAhead 102 = .ok (.ireturn, 1) := by decide +kernel
theorem dX8_fold_0 : decode cX8_fold 0 = .ok (.iload_n 1, 1) := by decide +kernel
theorem dX8_fold_1 : decode cX8_fold 1 = .ok (.iload_n 2, 1) := by decide +kernel
theorem dX8_fold_2 : decode cX8_fold 2 = .ok (.iload_n 1, 1) := by decide +kernel
theorem dX8_fold_3 : decode cX8_fold 3 = .ok (.isub, 1) := by decide +kernel
theorem dX8_fold_4 : decode cX8_fold 4 = .ok (.invokestatic 147, 3) := by decide +kernel
theorem dX8_fold_7 : decode cX8_fold 7 = .ok (.istore_n 3, 1) := by decide +kernel
theorem dX8_fold_8 : decode cX8_fold 8 = .ok (.iload_n 0, 1) := by decide +kernel
theorem dX8_fold_9 : decode cX8_fold 9 = .ok (.iload_n 1, 1) := by decide +kernel
theorem dX8_fold_10 : decode cX8_fold 10 = .ok (.if_icmp .lt 16, 3) := by decide +kernel
theorem dX8_fold_13 : decode cX8_fold 13 = .ok (.iload_n 0, 1) := by decide +kernel
theorem dX8_fold_14 : decode cX8_fold 14 = .ok (.iload_n 1, 1) := by decide +kernel
theorem dX8_fold_15 : decode cX8_fold 15 = .ok (.iload_n 3, 1) := by decide +kernel
theorem dX8_fold_16 : decode cX8_fold 16 = .ok (.iadd, 1) := by decide +kernel
theorem dX8_fold_17 : decode cX8_fold 17 = .ok (.if_icmp .gt 9, 3) := by decide +kernel
theorem dX8_fold_20 : decode cX8_fold 20 = .ok (.iconst 2, 1) := by decide +kernel
theorem dX8_fold_21 : decode cX8_fold 21 = .ok (.iload_n 0, 1) := by decide +kernel
theorem dX8_fold_22 : decode cX8_fold 22 = .ok (.iload_n 1, 1) := by decide +kernel
theorem dX8_fold_23 : decode cX8_fold 23 = .ok (.isub, 1) := by decide +kernel
theorem dX8_fold_24 : decode cX8_fold 24 = .ok (.imul, 1) := by decide +kernel
theorem dX8_fold_25 : decode cX8_fold 25 = .ok (.ireturn, 1) := by decide +kernel
theorem dX8_fold_26 : decode cX8_fold 26 = .ok (.iload_n 0, 1) := by decide +kernel
theorem dX8_fold_27 : decode cX8_fold 27 = .ok (.iload_n 1, 1) := by decide +kernel
theorem dX8_fold_28 : decode cX8_fold 28 = .ok (.if_icmp .ge 18, 3) := by decide +kernel
theorem dX8_fold_31 : decode cX8_fold 31 = .ok (.iload_n 0, 1) := by decide +kernel
theorem dX8_fold_32 : decode cX8_fold 32 = .ok (.iload_n 1, 1) := by decide +kernel
theorem dX8_fold_33 : decode cX8_fold 33 = .ok (.iload_n 3, 1) := by decide +kernel
theorem dX8_fold_34 : decode cX8_fold 34 = .ok (.isub, 1) := by decide +kernel
theorem dX8_fold_35 : decode cX8_fold 35 = .ok (.if_icmp .lt 11, 3) := by decide +kernel
theorem dX8_fold_38 : decode cX8_fold 38 = .ok (.iconst 2, 1) := by decide +kernel
theorem dX8_fold_39 : decode cX8_fold 39 = .ok (.iload_n 1, 1) := by decide +kernel
theorem dX8_fold_40 : decode cX8_fold 40 = .ok (.iload_n 0, 1) := by decide +kernel
theorem dX8_fold_41 : decode cX8_fold 41 = .ok (.isub, 1) := by decide +kernel
theorem dX8_fold_42 : decode cX8_fold 42 = .ok (.imul, 1) := by decide +kernel
theorem dX8_fold_43 : decode cX8_fold 43 = .ok (.iconst 1, 1) := by decide +kernel
theorem dX8_fold_44 : decode cX8_fold 44 = .ok (.isub, 1) := by decide +kernel
theorem dX8_fold_45 : decode cX8_fold 45 = .ok (.ireturn, 1) := by decide +kernel
theorem dX8_fold_46 : decode cX8_fold 46 = .ok (.iload_n 3, 1) := by decide +kernel
theorem dX8_fold_47 : decode cX8_fold 47 = .ok (.iload_n 0, 1) := by decide +kernel
theorem dX8_fold_48 : decode cX8_fold 48 = .ok (.iload_n 1, 1) := by decide +kernel
theorem dX8_fold_49 : decode cX8_fold 49 = .ok (.isub, 1) := by decide +kernel
theorem dX8_fold_50 : decode cX8_fold 50 = .ok (.invokestatic 219, 3) := by decide +kernel
theorem dX8_fold_53 : decode cX8_fold 53 = .ok (.iadd, 1) := by decide +kernel
theorem dX8_fold_54 : decode cX8_fold 54 = .ok (.ireturn, 1) := by decide +kernel
theorem dX8_unfold_0 : decode cX8_unfold 0 = .ok (.iload_n 1, 1) := by decide +kernel
theorem dX8_unfold_1 : decode cX8_unfold 1 = .ok (.iload_n 2, 1) := by decide +kernel
theorem dX8_unfold_2 : decode cX8_unfold 2 = .ok (.iload_n 1, 1) := by decide +kernel
theorem dX8_unfold_3 : decode cX8_unfold 3 = .ok (.isub, 1) := by decide +kernel
theorem dX8_unfold_4 : decode cX8_unfold 4 = .ok (.invokestatic 147, 3) := by decide +kernel
theorem dX8_unfold_7 : decode cX8_unfold 7 = .ok (.istore_n 3, 1) := by decide +kernel
theorem dX8_unfold_8 : decode cX8_unfold 8 = .ok (.iload_n 0, 1) := by decide +kernel
theorem dX8_unfold_9 : decode cX8_unfold 9 = .ok (.iconst 2, 1) := by decide +kernel
theorem dX8_unfold_10 : decode cX8_unfold 10 = .ok (.iload_n 3, 1) := by decide +kernel
theorem dX8_unfold_11 : decode cX8_unfold 11 = .ok (.imul, 1) := by decide +kernel
theorem dX8_unfold_12 : decode cX8_unfold 12 = .ok (.if_icmp .le 24, 3) := by decide +kernel
theorem dX8_unfold_15 : decode cX8_unfold 15 = .ok (.iload_n 1, 1) := by decide +kernel
theorem dX8_unfold_16 : decode cX8_unfold 16 = .ok (.iload_n 2, 1) := by decide +kernel
theorem dX8_unfold_17 : decode cX8_unfold 17 = .ok (.iload_n 1, 1) := by decide +kernel
theorem dX8_unfold_18 : decode cX8_unfold 18 = .ok (.isub, 1) := by decide +kernel
theorem dX8_unfold_19 : decode cX8_unfold 19 = .ok (.if_icmp .ge 11, 3) := by decide +kernel
theorem dX8_unfold_22 : decode cX8_unfold 22 = .ok (.iload_n 1, 1) := by decide +kernel
theorem dX8_unfold_23 : decode cX8_unfold 23 = .ok (.iload_n 0, 1) := by decide +kernel
theorem dX8_unfold_24 : decode cX8_unfold 24 = .ok (.iload_n 3, 1) := by decide +kernel
theorem dX8_unfold_25 : decode cX8_unfold 25 = .ok (.isub, 1) := by decide +kernel
theorem dX8_unfold_26 : decode cX8_unfold 26 = .ok (.iadd, 1) := by decide +kernel
theorem dX8_unfold_27 : decode cX8_unfold 27 = .ok (.goto 8, 3) := by decide +kernel
theorem dX8_unfold_30 : decode cX8_unfold 30 = .ok (.iload_n 1, 1) := by decide +kernel
theorem dX8_unfold_31 : decode cX8_unfold 31 = .ok (.iload_n 0, 1) := by decide +kernel
theorem dX8_unfold_32 : decode cX8_unfold 32 = .ok (.iload_n 3, 1) := by decide +kernel
theorem dX8_unfold_33 : decode cX8_unfold 33 = .ok (.isub, 1) := by decide +kernel
theorem dX8_unfold_34 : decode cX8_unfold 34 = .ok (.isub, 1) := by decide +kernel
theorem dX8_unfold_35 : decode cX8_unfold 35 = .ok (.ireturn, 1) := by decide +kernel
theorem dX8_unfold_36 : decode cX8_unfold 36 = .ok (.iload_n 0, 1) := by decide +kernel
theorem dX8_unfold_37 : decode cX8_unfold 37 = .ok (.iconst 2, 1) := by decide +kernel
theorem dX8_unfold_38 : decode cX8_unfold 38 = .ok (.irem, 1) := by decide +kernel
theorem dX8_unfold_39 : decode cX8_unfold 39 = .ok (.ifCond .ne 11, 3) := by decide +kernel
theorem dX8_unfold_42 : decode cX8_unfold 42 = .ok (.iload_n 1, 1) := by decide +kernel
theorem dX8_unfold_43 : decode cX8_unfold 43 = .ok (.iload_n 0, 1) := by decide +kernel
theorem dX8_unfold_44 : decode cX8_unfold 44 = .ok (.iconst 2, 1) := by decide +kernel
theorem dX8_unfold_45 : decode cX8_unfold 45 = .ok (.idiv, 1) := by decide +kernel
theorem dX8_unfold_46 : decode cX8_unfold 46 = .ok (.iadd, 1) := by decide +kernel
theorem dX8_unfold_47 : decode cX8_unfold 47 = .ok (.goto 10, 3) := by decide +kernel
theorem dX8_unfold_50 : decode cX8_unfold 50 = .ok (.iload_n 1, 1) := by decide +kernel
theorem dX8_unfold_51 : decode cX8_unfold 51 = .ok (.iload_n 0, 1) := by decide +kernel
theorem dX8_unfold_52 : decode cX8_unfold 52 = .ok (.iconst 1, 1) := by decide +kernel
theorem dX8_unfold_53 : decode cX8_unfold 53 = .ok (.iadd, 1) := by decide +kernel
theorem dX8_unfold_54 : decode cX8_unfold 54 = .ok (.iconst 2, 1) := by decide +kernel
theorem dX8_unfold_55 : decode cX8_unfold 55 = .ok (.idiv, 1) := by decide +kernel
theorem dX8_unfold_56 : decode cX8_unfold 56 = .ok (.isub, 1) := by decide +kernel
theorem dX8_unfold_57 : decode cX8_unfold 57 = .ok (.ireturn, 1) := by decide +kernel
theorem dX8_isCode_0 : decode cX8_isCode 0 = .ok (.iload_n 0, 1) := by decide +kernel
theorem dX8_isCode_1 : decode cX8_isCode 1 = .ok (.ifCond .eq 9, 3) := by decide +kernel
theorem dX8_isCode_4 : decode cX8_isCode 4 = .ok (.iload_n 0, 1) := by decide +kernel
theorem dX8_isCode_5 : decode cX8_isCode 5 = .ok (.bipush 8, 2) := by decide +kernel
theorem dX8_isCode_7 : decode cX8_isCode 7 = .ok (.if_icmp .ne 5, 3) := by decide +kernel
theorem dX8_isCode_10 : decode cX8_isCode 10 = .ok (.iconst 1, 1) := by decide +kernel
theorem dX8_isCode_11 : decode cX8_isCode 11 = .ok (.ireturn, 1) := by decide +kernel
theorem dX8_isCode_12 : decode cX8_isCode 12 = .ok (.iload_n 0, 1) := by decide +kernel
theorem dX8_isCode_13 : decode cX8_isCode 13 = .ok (.ifCond .le 20, 3) := by decide +kernel
theorem dX8_isCode_16 : decode cX8_isCode 16 = .ok (.iload_n 0, 1) := by decide +kernel
theorem dX8_isCode_17 : decode cX8_isCode 17 = .ok (.bipush 8, 2) := by decide +kernel
theorem dX8_isCode_19 : decode cX8_isCode 19 = .ok (.if_icmp .ge 14, 3) := by decide +kernel
theorem dX8_isCode_22 : decode cX8_isCode 22 = .ok (.iload_n 0, 1) := by decide +kernel
theorem dX8_isCode_23 : decode cX8_isCode 23 = .ok (.iconst 1, 1) := by decide +kernel
theorem dX8_isCode_24 : decode cX8_isCode 24 = .ok (.isub, 1) := by decide +kernel
theorem dX8_isCode_25 : decode cX8_isCode 25 = .ok (.iload_n 1, 1) := by decide +kernel
theorem dX8_isCode_26 : decode cX8_isCode 26 = .ok (.if_icmp .ge 7, 3) := by decide +kernel
theorem dX8_isCode_29 : decode cX8_isCode 29 = .ok (.iconst 1, 1) := by decide +kernel
theorem dX8_isCode_30 : decode cX8_isCode 30 = .ok (.goto 4, 3) := by decide +kernel
theorem dX8_isCode_33 : decode cX8_isCode 33 = .ok (.iconst 0, 1) := by decide +kernel
theorem dX8_isCode_34 : decode cX8_isCode 34 = .ok (.ireturn, 1) := by decide +kernel
