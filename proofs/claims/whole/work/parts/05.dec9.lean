theorem dX9_init_0 : decode cX9_init 0 = .ok (.aload_n 0, 1) := by decide +kernel
theorem dX9_init_1 : decode cX9_init 1 = .ok (.invokespecial 1, 3) := by decide +kernel
theorem dX9_init_4 : decode cX9_init 4 = .ok (.aload_n 0, 1) := by decide +kernel
theorem dX9_init_5 : decode cX9_init 5 = .ok (.sipush 1072, 3) := by decide +kernel
theorem dX9_init_8 : decode cX9_init 8 = .ok (.newarray .int, 2) := by decide +kernel
theorem dX9_init_10 : decode cX9_init 10 = .ok (.putfield 7, 3) := by decide +kernel
theorem dX9_init_13 : decode cX9_init 13 = .ok (.aload_n 0, 1) := by decide +kernel
theorem dX9_init_14 : decode cX9_init 14 = .ok (.sipush 2144, 3) := by decide +kernel
theorem dX9_init_17 : decode cX9_init 17 = .ok (.newarray .int, 2) := by decide +kernel
theorem dX9_init_19 : decode cX9_init 19 = .ok (.putfield 13, 3) := by decide +kernel
theorem dX9_init_22 : decode cX9_init 22 = .ok (.aload_n 0, 1) := by decide +kernel
theorem dX9_init_23 : decode cX9_init 23 = .ok (.iconst 2, 1) := by decide +kernel
theorem dX9_init_24 : decode cX9_init 24 = .ok (.newarray .boolean, 2) := by decide +kernel
theorem dX9_init_26 : decode cX9_init 26 = .ok (.putfield 16, 3) := by decide +kernel
theorem dX9_init_29 : decode cX9_init 29 = .ok (.aload_n 0, 1) := by decide +kernel
theorem dX9_init_30 : decode cX9_init 30 = .ok (.bipush 64, 2) := by decide +kernel
theorem dX9_init_32 : decode cX9_init 32 = .ok (.newarray .int, 2) := by decide +kernel
theorem dX9_init_34 : decode cX9_init 34 = .ok (.putfield 20, 3) := by decide +kernel
theorem dX9_init_37 : decode cX9_init 37 = .ok (.aload_n 0, 1) := by decide +kernel
theorem dX9_init_38 : decode cX9_init 38 = .ok (.sipush 1000, 3) := by decide +kernel
theorem dX9_init_41 : decode cX9_init 41 = .ok (.newarray .int, 2) := by decide +kernel
theorem dX9_init_43 : decode cX9_init 43 = .ok (.putfield 23, 3) := by decide +kernel
theorem dX9_init_46 : decode cX9_init 46 = .ok (.aload_n 0, 1) := by decide +kernel
theorem dX9_init_47 : decode cX9_init 47 = .ok (.bipush 65, 2) := by decide +kernel
theorem dX9_init_49 : decode cX9_init 49 = .ok (.newarray .int, 2) := by decide +kernel
theorem dX9_init_51 : decode cX9_init 51 = .ok (.putfield 26, 3) := by decide +kernel
theorem dX9_init_54 : decode cX9_init 54 = .ok (.aload_n 0, 1) := by decide +kernel
theorem dX9_init_55 : decode cX9_init 55 = .ok (.bipush 64, 2) := by decide +kernel
theorem dX9_init_57 : decode cX9_init 57 = .ok (.newarray .int, 2) := by decide +kernel
theorem dX9_init_59 : decode cX9_init 59 = .ok (.putfield 29, 3) := by decide +kernel
theorem dX9_init_62 : decode cX9_init 62 = .ok (.aload_n 0, 1) := by decide +kernel
theorem dX9_init_63 : decode cX9_init 63 = .ok (.getfield 7, 3) := by decide +kernel
theorem dX9_init_66 : decode cX9_init 66 = .ok (.sipush 1066, 3) := by decide +kernel
theorem dX9_init_69 : decode cX9_init 69 = .ok (.bipush 8, 2) := by decide +kernel
theorem dX9_init_71 : decode cX9_init 71 = .ok (.iastore, 1) := by decide +kernel
theorem dX9_init_72 : decode cX9_init 72 = .ok (.aload_n 0, 1) := by decide +kernel
theorem dX9_init_73 : decode cX9_init 73 = .ok (.getfield 7, 3) := by decide +kernel
theorem dX9_init_76 : decode cX9_init 76 = .ok (.sipush 1067, 3) := by decide +kernel
theorem dX9_init_79 : decode cX9_init 79 = .ok (.bipush 8, 2) := by decide +kernel
theorem dX9_init_81 : decode cX9_init 81 = .ok (.iastore, 1) := by decide +kernel
theorem dX9_init_82 : decode cX9_init 82 = .ok (.aload_n 0, 1) := by decide +kernel
theorem dX9_init_83 : decode cX9_init 83 = .ok (.getfield 7, 3) := by decide +kernel
theorem dX9_init_86 : decode cX9_init 86 = .ok (.sipush 1068, 3) := by decide +kernel
theorem dX9_init_89 : decode cX9_init 89 = .ok (.iconst 4, 1) := by decide +kernel
theorem dX9_init_90 : decode cX9_init 90 = .ok (.iastore, 1) := by decide +kernel
theorem dX9_init_91 : decode cX9_init 91 = .ok (.aload_n 0, 1) := by decide +kernel
theorem dX9_init_92 : decode cX9_init 92 = .ok (.getfield 7, 3) := by decide +kernel
theorem dX9_init_95 : decode cX9_init 95 = .ok (.sipush 1070, 3) := by decide +kernel
theorem dX9_init_98 : decode cX9_init 98 = .ok (.bipush (-6), 2) := by decide +kernel
theorem dX9_init_100 : decode cX9_init 100 = .ok (.iastore, 1) := by decide +kernel
theorem dX9_init_101 : decode cX9_init 101 = .ok (.aload_n 0, 1) := by decide +kernel
theorem dX9_init_102 : decode cX9_init 102 = .ok (.getfield 7, 3) := by decide +kernel
theorem dX9_init_105 : decode cX9_init 105 = .ok (.sipush 1071, 3) := by decide +kernel
theorem dX9_init_108 : decode cX9_init 108 = .ok (.bipush (-6), 2) := by decide +kernel
theorem dX9_init_110 : decode cX9_init 110 = .ok (.iastore, 1) := by decide +kernel
theorem dX9_init_111 : decode cX9_init 111 = .ok (.return_, 1) := by decide +kernel
theorem dX9_in_0 : decode cX9_in 0 = .ok (.iload_n 0, 1) := by decide +kernel
theorem dX9_in_1 : decode cX9_in 1 = .ok (.iload_n 1, 1) := by decide +kernel
theorem dX9_in_2 : decode cX9_in 2 = .ok (.if_icmp .lt 12, 3) := by decide +kernel
theorem dX9_in_5 : decode cX9_in 5 = .ok (.iload_n 0, 1) := by decide +kernel
theorem dX9_in_6 : decode cX9_in 6 = .ok (.iload_n 2, 1) := by decide +kernel
theorem dX9_in_7 : decode cX9_in 7 = .ok (.if_icmp .gt 7, 3) := by decide +kernel
theorem dX9_in_10 : decode cX9_in 10 = .ok (.iconst 1, 1) := by decide +kernel
theorem dX9_in_11 : decode cX9_in 11 = .ok (.goto 4, 3) := by decide +kernel
theorem dX9_in_14 : decode cX9_in 14 = .ok (.iconst 0, 1) := by decide +kernel
theorem dX9_in_15 : decode cX9_in 15 = .ok (.ireturn, 1) := by decide +kernel
theorem dX9_top_0 : decode cX9_top 0 = .ok (.iconst 1, 1) := by decide +kernel
theorem dX9_top_1 : decode cX9_top 1 = .ok (.aload_n 0, 1) := by decide +kernel
theorem dX9_top_2 : decode cX9_top 2 = .ok (.getfield 7, 3) := by decide +kernel
theorem dX9_top_5 : decode cX9_top 5 = .ok (.sipush 1066, 3) := by decide +kernel
theorem dX9_top_8 : decode cX9_top 8 = .ok (.iaload, 1) := by decide +kernel
theorem dX9_top_9 : decode cX9_top 9 = .ok (.ishl, 1) := by decide +kernel
theorem dX9_top_10 : decode cX9_top 10 = .ok (.iconst 1, 1) := by decide +kernel
theorem dX9_top_11 : decode cX9_top 11 = .ok (.isub, 1) := by decide +kernel
theorem dX9_top_12 : decode cX9_top 12 = .ok (.ireturn, 1) := by decide +kernel
theorem dX9_many_0 : decode cX9_many 0 = .ok (.aload_n 0, 1) := by decide +kernel
theorem dX9_many_1 : decode cX9_many 1 = .ok (.getfield 7, 3) := by decide +kernel
theorem dX9_many_4 : decode cX9_many 4 = .ok (.sipush 1064, 3) := by decide +kernel
theorem dX9_many_7 : decode cX9_many 7 = .ok (.iaload, 1) := by decide +kernel
theorem dX9_many_8 : decode cX9_many 8 = .ok (.ireturn, 1) := by decide +kernel
set_option maxRecDepth 20000 in
theorem ggX9_fitsBelow_X9_many : GoodIn wsX9_fitsBelow wsX9_many := goodIn_r _ [6, 1, 7, 8, 9, 10, 11, 12, 13, 14, 15, 16, 17, 18] (by decide +kernel) (by decide +kernel)
set_option maxRecDepth 20000 in
theorem gX9_fitsBelow_X9_many : GoodIn wsX9_fitsBelow (wsV RX9 32 RX9 yX9_many wsX9_many) := goodIn_app (goodIn_of _ (by decide +kernel)) ggX9_fitsBelow_X9_many
theorem dX9_fitsBelow_0 : decode cX9_fitsBelow 0 = .ok (.iconst 1, 1) := by decide +kernel
theorem dX9_fitsBelow_1 : decode cX9_fitsBelow 1 = .ok (.istore_n 2, 1) := by decide +kernel
theorem dX9_fitsBelow_2 : decode cX9_fitsBelow 2 = .ok (.iconst 0, 1) := by decide +kernel
theorem dX9_fitsBelow_3 : decode cX9_fitsBelow 3 = .ok (.istore_n 3, 1) := by decide +kernel
theorem dX9_fitsBelow_4 : decode cX9_fitsBelow 4 = .ok (.iload_n 3, 1) := by decide +kernel
theorem dX9_fitsBelow_5 : decode cX9_fitsBelow 5 = .ok (.aload_n 0, 1) := by decide +kernel
theorem dX9_fitsBelow_6 : decode cX9_fitsBelow 6 = .ok (.invokevirtual 32, 3) := by decide +kernel
theorem dX9_fitsBelow_9 : decode cX9_fitsBelow 9 = .ok (.if_icmp .ge 29, 3) := by decide +kernel
theorem dX9_fitsBelow_12 : decode cX9_fitsBelow 12 = .ok (.iload_n 2, 1) := by decide +kernel
theorem dX9_fitsBelow_13 : decode cX9_fitsBelow 13 = .ok (.ifCond .eq 17, 3) := by decide +kernel
theorem dX9_fitsBelow_16 : decode cX9_fitsBelow 16 = .ok (.aload_n 0, 1) := by decide +kernel
theorem dX9_fitsBelow_17 : decode cX9_fitsBelow 17 = .ok (.getfield 7, 3) := by decide +kernel
theorem dX9_fitsBelow_20 : decode cX9_fitsBelow 20 = .ok (.iload_n 3, 1) := by decide +kernel
theorem dX9_fitsBelow_21 : decode cX9_fitsBelow 21 = .ok (.iaload, 1) := by decide +kernel
theorem dX9_fitsBelow_22 : decode cX9_fitsBelow 22 = .ok (.iload_n 1, 1) := by decide +kernel
theorem dX9_fitsBelow_23 : decode cX9_fitsBelow 23 = .ok (.if_icmp .gt 7, 3) := by decide +kernel
theorem dX9_fitsBelow_26 : decode cX9_fitsBelow 26 = .ok (.iconst 1, 1) := by decide +kernel
theorem dX9_fitsBelow_27 : decode cX9_fitsBelow 27 = .ok (.goto 4, 3) := by decide +kernel
theorem dX9_fitsBelow_30 : decode cX9_fitsBelow 30 = .ok (.iconst 0, 1) := by decide +kernel
theorem dX9_fitsBelow_31 : decode cX9_fitsBelow 31 = .ok (.istore_n 2, 1) := by decide +kernel
theorem dX9_fitsBelow_32 : decode cX9_fitsBelow 32 = .ok (.iinc 3 1, 3) := by decide +kernel
theorem dX9_fitsBelow_35 : decode cX9_fitsBelow 35 = .ok (.goto (-31), 3) := by decide +kernel
theorem dX9_fitsBelow_38 : decode cX9_fitsBelow 38 = .ok (.iload_n 2, 1) := by decide +kernel
theorem dX9_fitsBelow_39 : decode cX9_fitsBelow 39 = .ok (.ireturn, 1) := by decide +kernel
set_option maxRecDepth 20000 in
theorem ggX9_rule_X9_in : GoodIn wsX9_rule wsX9_in := goodIn_r _ [5] (by decide +kernel) (by decide +kernel)
set_option maxRecDepth 20000 in
theorem gX9_rule_X9_in : GoodIn wsX9_rule (va_wsS RX9 36 yX9_in wsX9_in) := goodIn_app (goodIn_of _ (by decide +kernel)) ggX9_rule_X9_in
set_option maxRecDepth 20000 in
theorem ggX9_rule_X9_fitsBelow : GoodIn wsX9_rule wsX9_fitsBelow := goodIn_r _ [9, 1, 10, 11, 12, 4, 13, 14, 15, 16, 17, 18, 19, 20, 21, 22, 23, 24, 25] (by decide +kernel) (by decide +kernel)
set_option maxRecDepth 20000 in
theorem gX9_rule_X9_fitsBelow : GoodIn wsX9_rule (wsV RX9 40 RX9 yX9_fitsBelow wsX9_fitsBelow) := goodIn_app (goodIn_of _ (by decide +kernel)) ggX9_rule_X9_fitsBelow
theorem dX9_rule_0 : decode cX9_rule 0 = .ok (.iload_n 1, 1) := by decide +kernel
theorem dX9_rule_1 : decode cX9_rule 1 = .ok (.iconst 0, 1) := by decide +kernel
theorem dX9_rule_2 : decode cX9_rule 2 = .ok (.iconst 2, 1) := by decide +kernel
theorem dX9_rule_3 : decode cX9_rule 3 = .ok (.invokestatic 36, 3) := by decide +kernel
theorem dX9_rule_6 : decode cX9_rule 6 = .ok (.ifCond .eq 21, 3) := by decide +kernel
theorem dX9_rule_9 : decode cX9_rule 9 = .ok (.iload_n 2, 1) := by decide +kernel
theorem dX9_rule_10 : decode cX9_rule 10 = .ok (.iload_n 1, 1) := by decide +kernel
theorem dX9_rule_11 : decode cX9_rule 11 = .ok (.ifCond .ne 7, 3) := by decide +kernel
theorem dX9_rule_14 : decode cX9_rule 14 = .ok (.iconst 2, 1) := by decide +kernel
theorem dX9_rule_15 : decode cX9_rule 15 = .ok (.goto 4, 3) := by decide +kernel
theorem dX9_rule_18 : decode cX9_rule 18 = .ok (.iconst 1, 1) := by decide +kernel
theorem dX9_rule_19 : decode cX9_rule 19 = .ok (.bipush 8, 2) := by decide +kernel
theorem dX9_rule_21 : decode cX9_rule 21 = .ok (.invokestatic 36, 3) := by decide +kernel
theorem dX9_rule_24 : decode cX9_rule 24 = .ok (.ifCond .ne 6, 3) := by decide +kernel
theorem dX9_rule_27 : decode cX9_rule 27 = .ok (.bipush (-2), 2) := by decide +kernel
theorem dX9_rule_29 : decode cX9_rule 29 = .ok (.ireturn, 1) := by decide +kernel
theorem dX9_rule_30 : decode cX9_rule 30 = .ok (.iload_n 1, 1) := by decide +kernel
theorem dX9_rule_31 : decode cX9_rule 31 = .ok (.ifCond .ne 18, 3) := by decide +kernel
theorem dX9_rule_34 : decode cX9_rule 34 = .ok (.aload_n 0, 1) := by decide +kernel
theorem dX9_rule_35 : decode cX9_rule 35 = .ok (.iconst 1, 1) := by decide +kernel
theorem dX9_rule_36 : decode cX9_rule 36 = .ok (.iload_n 2, 1) := by decide +kernel
theorem dX9_rule_37 : decode cX9_rule 37 = .ok (.ishl, 1) := by decide +kernel
theorem dX9_rule_38 : decode cX9_rule 38 = .ok (.iconst 1, 1) := by decide +kernel
theorem dX9_rule_39 : decode cX9_rule 39 = .ok (.isub, 1) := by decide +kernel
theorem dX9_rule_40 : decode cX9_rule 40 = .ok (.invokevirtual 40, 3) := by decide +kernel
theorem dX9_rule_43 : decode cX9_rule 43 = .ok (.ifCond .ne 6, 3) := by decide +kernel
theorem dX9_rule_46 : decode cX9_rule 46 = .ok (.bipush (-3), 2) := by decide +kernel
theorem dX9_rule_48 : decode cX9_rule 48 = .ok (.ireturn, 1) := by decide +kernel
theorem dX9_rule_49 : decode cX9_rule 49 = .ok (.aload_n 0, 1) := by decide +kernel
theorem dX9_rule_50 : decode cX9_rule 50 = .ok (.getfield 7, 3) := by decide +kernel
theorem dX9_rule_53 : decode cX9_rule 53 = .ok (.sipush 1066, 3) := by decide +kernel
theorem dX9_rule_56 : decode cX9_rule 56 = .ok (.iload_n 1, 1) := by decide +kernel
theorem dX9_rule_57 : decode cX9_rule 57 = .ok (.iadd, 1) := by decide +kernel
theorem dX9_rule_58 : decode cX9_rule 58 = .ok (.iaload, 1) := by decide +kernel
theorem dX9_rule_59 : decode cX9_rule 59 = .ok (.istore_n 3, 1) := by decide +kernel
theorem dX9_rule_60 : decode cX9_rule 60 = .ok (.aload_n 0, 1) := by decide +kernel
theorem dX9_rule_61 : decode cX9_rule 61 = .ok (.getfield 7, 3) := by decide +kernel
theorem dX9_rule_64 : decode cX9_rule 64 = .ok (.sipush 1066, 3) := by decide +kernel
theorem dX9_rule_67 : decode cX9_rule 67 = .ok (.iload_n 1, 1) := by decide +kernel
theorem dX9_rule_68 : decode cX9_rule 68 = .ok (.iadd, 1) := by decide +kernel
theorem dX9_rule_69 : decode cX9_rule 69 = .ok (.iload_n 2, 1) := by decide +kernel
theorem dX9_rule_70 : decode cX9_rule 70 = .ok (.iastore, 1) := by decide +kernel
theorem dX9_rule_71 : decode cX9_rule 71 = .ok (.iload_n 3, 1) := by decide +kernel
theorem dX9_rule_72 : decode cX9_rule 72 = .ok (.ireturn, 1) := by decide +kernel
set_option maxRecDepth 20000 in
theorem ggX9_add_X9_top : GoodIn wsX9_add wsX9_top := goodIn_r _ [6, 1, 14, 15, 16, 17, 18, 19, 20, 21, 22, 23, 24, 25] (by decide +kernel) (by decide +kernel)
set_option maxRecDepth 20000 in
theorem gX9_add_X9_top : GoodIn wsX9_add (wsV RX9 44 RX9 yX9_top wsX9_top) := goodIn_app (goodIn_of _ (by decide +kernel)) ggX9_add_X9_top
set_option maxRecDepth 20000 in
theorem ggX9_add_X9_in : GoodIn wsX9_add wsX9_in := goodIn_r _ [9] (by decide +kernel) (by decide +kernel)
set_option maxRecDepth 20000 in
theorem gX9_add_X9_in : GoodIn wsX9_add (va_wsS RX9 36 yX9_in wsX9_in) := goodIn_app (goodIn_of _ (by decide +kernel)) ggX9_add_X9_in
set_option maxRecDepth 20000 in
theorem ggX9_add_X9_many : GoodIn wsX9_add wsX9_many := goodIn_r _ [13, 1, 14, 15, 16, 17, 18, 19, 20, 21, 22, 23, 24, 25] (by decide +kernel) (by decide +kernel)
set_option maxRecDepth 20000 in
theorem gX9_add_X9_many : GoodIn wsX9_add (wsV RX9 32 RX9 yX9_many wsX9_many) := goodIn_app (goodIn_of _ (by decide +kernel)) ggX9_add_X9_many
theorem dX9_add_0 : decode cX9_add 0 = .ok (.iload_n 1, 1) := by decide +kernel
theorem dX9_add_1 : decode cX9_add 1 = .ok (.iconst 0, 1) := by decide +kernel
theorem dX9_add_2 : decode cX9_add 2 = .ok (.aload_n 0, 1) := by decide +kernel
theorem dX9_add_3 : decode cX9_add 3 = .ok (.invokevirtual 44, 3) := by decide +kernel
theorem dX9_add_6 : decode cX9_add 6 = .ok (.invokestatic 36, 3) := by decide +kernel
theorem dX9_add_9 : decode cX9_add 9 = .ok (.ifCond .ne 6, 3) := by decide +kernel
theorem dX9_add_12 : decode cX9_add 12 = .ok (.bipush (-2), 2) := by decide +kernel
theorem dX9_add_14 : decode cX9_add 14 = .ok (.ireturn, 1) := by decide +kernel
theorem dX9_add_15 : decode cX9_add 15 = .ok (.aload_n 0, 1) := by decide +kernel
theorem dX9_add_16 : decode cX9_add 16 = .ok (.invokevirtual 32, 3) := by decide +kernel
theorem dX9_add_19 : decode cX9_add 19 = .ok (.bipush 64, 2) := by decide +kernel
theorem dX9_add_21 : decode cX9_add 21 = .ok (.if_icmp .ne 6, 3) := by decide +kernel
theorem dX9_add_24 : decode cX9_add 24 = .ok (.bipush (-4), 2) := by decide +kernel
theorem dX9_add_26 : decode cX9_add 26 = .ok (.ireturn, 1) := by decide +kernel
theorem dX9_add_27 : decode cX9_add 27 = .ok (.aload_n 0, 1) := by decide +kernel
theorem dX9_add_28 : decode cX9_add 28 = .ok (.getfield 7, 3) := by decide +kernel
theorem dX9_add_31 : decode cX9_add 31 = .ok (.aload_n 0, 1) := by decide +kernel
theorem dX9_add_32 : decode cX9_add 32 = .ok (.invokevirtual 32, 3) := by decide +kernel
theorem dX9_add_35 : decode cX9_add 35 = .ok (.iload_n 1, 1) := by decide +kernel
theorem dX9_add_36 : decode cX9_add 36 = .ok (.iastore, 1) := by decide +kernel
theorem dX9_add_37 : decode cX9_add 37 = .ok (.aload_n 0, 1) := by decide +kernel
theorem dX9_add_38 : decode cX9_add 38 = .ok (.getfield 7, 3) := by decide +kernel
theorem dX9_add_41 : decode cX9_add 41 = .ok (.sipush 1064, 3) := by decide +kernel
theorem dX9_add_44 : decode cX9_add 44 = .ok (.dup2, 1) := by decide +kernel
theorem dX9_add_45 : decode cX9_add 45 = .ok (.iaload, 1) := by decide +kernel
theorem dX9_add_46 : decode cX9_add 46 = .ok (.iconst 1, 1) := by decide +kernel
theorem dX9_add_47 : decode cX9_add 47 = .ok (.iadd, 1) := by decide +kernel
theorem dX9_add_48 : decode cX9_add 48 = .ok (.iastore, 1) := by decide +kernel
theorem dX9_add_49 : decode cX9_add 49 = .ok (.aload_n 0, 1) := by decide +kernel
theorem dX9_add_50 : decode cX9_add 50 = .ok (.invokevirtual 32, 3) := by decide +kernel
theorem dX9_add_53 : decode cX9_add 53 = .ok (.ireturn, 1) := by decide +kernel
set_option maxRecDepth 20000 in
theorem ggX9_clear_X9_many : GoodIn wsX9_clear wsX9_many := goodIn_r _ [6, 1, 7, 8, 9, 10, 11, 12, 13, 14, 15, 16, 17, 18] (by decide +kernel) (by decide +kernel)
set_option maxRecDepth 20000 in
theorem gX9_clear_X9_many : GoodIn wsX9_clear (wsV RX9 32 RX9 yX9_many wsX9_many) := goodIn_app (goodIn_of _ (by decide +kernel)) ggX9_clear_X9_many
theorem dX9_clear_0 : decode cX9_clear 0 = .ok (.aload_n 0, 1) := by decide +kernel
theorem dX9_clear_1 : decode cX9_clear 1 = .ok (.invokevirtual 32, 3) := by decide +kernel
theorem dX9_clear_4 : decode cX9_clear 4 = .ok (.istore_n 1, 1) := by decide +kernel
theorem dX9_clear_5 : decode cX9_clear 5 = .ok (.aload_n 0, 1) := by decide +kernel
theorem dX9_clear_6 : decode cX9_clear 6 = .ok (.getfield 7, 3) := by decide +kernel
theorem dX9_clear_9 : decode cX9_clear 9 = .ok (.sipush 1064, 3) := by decide +kernel
theorem dX9_clear_12 : decode cX9_clear 12 = .ok (.iconst 0, 1) := by decide +kernel
theorem dX9_clear_13 : decode cX9_clear 13 = .ok (.iastore, 1) := by decide +kernel
theorem dX9_clear_14 : decode cX9_clear 14 = .ok (.iload_n 1, 1) := by decide +kernel
theorem dX9_clear_15 : decode cX9_clear 15 = .ok (.ireturn, 1) := by decide +kernel
set_option maxRecDepth 20000 in
theorem ggX9_sample_X9_many : GoodIn wsX9_sample wsX9_many := goodIn_r _ [6, 1, 10, 11, 12, 13, 14, 15, 16, 17, 18, 19, 20, 21] (by decide +kernel) (by decide +kernel)
set_option maxRecDepth 20000 in
theorem gX9_sample_X9_many : GoodIn wsX9_sample (wsV RX9 32 RX9 yX9_many wsX9_many) := goodIn_app (goodIn_of _ (by decide +kernel)) ggX9_sample_X9_many
set_option maxRecDepth 20000 in
theorem ggX9_sample_X9_in : GoodIn wsX9_sample wsX9_in := goodIn_r _ [9] (by decide +kernel) (by decide +kernel)
set_option maxRecDepth 20000 in
theorem gX9_sample_X9_in : GoodIn wsX9_sample (va_wsS RX9 36 yX9_in wsX9_in) := goodIn_app (goodIn_of _ (by decide +kernel)) ggX9_sample_X9_in
theorem dX9_sample_0 : decode cX9_sample 0 = .ok (.iload_n 1, 1) := by decide +kernel
theorem dX9_sample_1 : decode cX9_sample 1 = .ok (.iconst 0, 1) := by decide +kernel
theorem dX9_sample_2 : decode cX9_sample 2 = .ok (.aload_n 0, 1) := by decide +kernel
theorem dX9_sample_3 : decode cX9_sample 3 = .ok (.invokevirtual 32, 3) := by decide +kernel
theorem dX9_sample_6 : decode cX9_sample 6 = .ok (.iconst 1, 1) := by decide +kernel
theorem dX9_sample_7 : decode cX9_sample 7 = .ok (.isub, 1) := by decide +kernel
theorem dX9_sample_8 : decode cX9_sample 8 = .ok (.invokestatic 36, 3) := by decide +kernel
theorem dX9_sample_11 : decode cX9_sample 11 = .ok (.ifCond .eq 12, 3) := by decide +kernel
theorem dX9_sample_14 : decode cX9_sample 14 = .ok (.aload_n 0, 1) := by decide +kernel
theorem dX9_sample_15 : decode cX9_sample 15 = .ok (.getfield 7, 3) := by decide +kernel
theorem dX9_sample_18 : decode cX9_sample 18 = .ok (.iload_n 1, 1) := by decide +kernel
theorem dX9_sample_19 : decode cX9_sample 19 = .ok (.iaload, 1) := by decide +kernel
theorem dX9_sample_20 : decode cX9_sample 20 = .ok (.goto 5, 3) := by decide +kernel
theorem dX9_sample_23 : decode cX9_sample 23 = .ok (.bipush (-6), 2) := by decide +kernel
theorem dX9_sample_25 : decode cX9_sample 25 = .ok (.ireturn, 1) := by decide +kernel
theorem dX9_segmentLong_0 : decode cX9_segmentLong 0 = .ok (.aload_n 0, 1) := by decide +kernel
theorem dX9_segmentLong_1 : decode cX9_segmentLong 1 = .ok (.getfield 7, 3) := by decide +kernel
theorem dX9_segmentLong_4 : decode cX9_segmentLong 4 = .ok (.sipush 1067, 3) := by decide +kernel
theorem dX9_segmentLong_7 : decode cX9_segmentLong 7 = .ok (.iaload, 1) := by decide +kernel
theorem dX9_segmentLong_8 : decode cX9_segmentLong 8 = .ok (.aload_n 0, 1) := by decide +kernel
theorem dX9_segmentLong_9 : decode cX9_segmentLong 9 = .ok (.getfield 7, 3) := by decide +kernel
theorem dX9_segmentLong_12 : decode cX9_segmentLong 12 = .ok (.sipush 1068, 3) := by decide +kernel
theorem dX9_segmentLong_15 : decode cX9_segmentLong 15 = .ok (.iaload, 1) := by decide +kernel
theorem dX9_segmentLong_16 : decode cX9_segmentLong 16 = .ok (.imul, 1) := by decide +kernel
theorem dX9_segmentLong_17 : decode cX9_segmentLong 17 = .ok (.ireturn, 1) := by decide +kernel
set_option maxRecDepth 20000 in
theorem ggX9_isBare_X9_segmentLong : GoodIn wsX9_isBare wsX9_segmentLong := goodIn_r _ [5, 6, 7, 8, 9, 10, 11, 12, 13, 14, 15, 16, 17, 18] (by decide +kernel) (by decide +kernel)
set_option maxRecDepth 20000 in
theorem gX9_isBare_X9_segmentLong : GoodIn wsX9_isBare (wsV RX9 47 RX9 yX9_segmentLong wsX9_segmentLong) := goodIn_app (goodIn_of _ (by decide +kernel)) ggX9_isBare_X9_segmentLong
theorem dX9_isBare_0 : decode cX9_isBare 0 = .ok (.iload_n 1, 1) := by decide +kernel
theorem dX9_isBare_1 : decode cX9_isBare 1 = .ok (.aload_n 0, 1) := by decide +kernel
theorem dX9_isBare_2 : decode cX9_isBare 2 = .ok (.invokevirtual 47, 3) := by decide +kernel
theorem dX9_isBare_5 : decode cX9_isBare 5 = .ok (.irem, 1) := by decide +kernel
theorem dX9_isBare_6 : decode cX9_isBare 6 = .ok (.ifCond .ne 7, 3) := by decide +kernel
theorem dX9_isBare_9 : decode cX9_isBare 9 = .ok (.iconst 1, 1) := by decide +kernel
theorem dX9_isBare_10 : decode cX9_isBare 10 = .ok (.goto 4, 3) := by decide +kernel
theorem dX9_isBare_13 : decode cX9_isBare 13 = .ok (.iconst 0, 1) := by decide +kernel
theorem dX9_isBare_14 : decode cX9_isBare 14 = .ok (.ireturn, 1) := by decide +kernel
set_option maxRecDepth 20000 in
theorem ggX9_expected_X9_isBare : GoodIn wsX9_expected wsX9_isBare := goodIn_r _ [6, 7, 8, 9, 5, 10, 11, 16, 17, 18, 19, 20, 21, 22, 23, 24, 25, 26, 27] (by decide +kernel) (by decide +kernel)
set_option maxRecDepth 20000 in
theorem gX9_expected_X9_isBare : GoodIn wsX9_expected (wsV RX9 50 RX9 yX9_isBare wsX9_isBare) := goodIn_app (goodIn_of _ (by decide +kernel)) ggX9_expected_X9_isBare
set_option maxRecDepth 20000 in
theorem ggX9_expected_X9_top : GoodIn wsX9_expected wsX9_top := goodIn_r _ [15, 11, 16, 17, 18, 19, 20, 21, 22, 23, 24, 25, 26, 27] (by decide +kernel) (by decide +kernel)
set_option maxRecDepth 20000 in
theorem gX9_expected_X9_top : GoodIn wsX9_expected (wsV RX9 44 RX9 yX9_top wsX9_top) := goodIn_app (goodIn_of _ (by decide +kernel)) ggX9_expected_X9_top
theorem dX9_expected_0 : decode cX9_expected 0 = .ok (.aload_n 0, 1) := by decide +kernel
theorem dX9_expected_1 : decode cX9_expected 1 = .ok (.getfield 20, 3) := by decide +kernel
theorem dX9_expected_4 : decode cX9_expected 4 = .ok (.iload_n 1, 1) := by decide +kernel
theorem dX9_expected_5 : decode cX9_expected 5 = .ok (.iconst 1, 1) := by decide +kernel
theorem dX9_expected_6 : decode cX9_expected 6 = .ok (.isub, 1) := by decide +kernel
theorem dX9_expected_7 : decode cX9_expected 7 = .ok (.iaload, 1) := by decide +kernel
theorem dX9_expected_8 : decode cX9_expected 8 = .ok (.istore_n 3, 1) := by decide +kernel
theorem dX9_expected_9 : decode cX9_expected 9 = .ok (.aload_n 0, 1) := by decide +kernel
theorem dX9_expected_10 : decode cX9_expected 10 = .ok (.iload_n 1, 1) := by decide +kernel
theorem dX9_expected_11 : decode cX9_expected 11 = .ok (.iconst 1, 1) := by decide +kernel
theorem dX9_expected_12 : decode cX9_expected 12 = .ok (.isub, 1) := by decide +kernel
theorem dX9_expected_13 : decode cX9_expected 13 = .ok (.invokevirtual 50, 3) := by decide +kernel
theorem dX9_expected_16 : decode cX9_expected 16 = .ok (.ifCond .eq 7, 3) := by decide +kernel
theorem dX9_expected_19 : decode cX9_expected 19 = .ok (.iload_n 3, 1) := by decide +kernel
theorem dX9_expected_20 : decode cX9_expected 20 = .ok (.goto 11, 3) := by decide +kernel
theorem dX9_expected_23 : decode cX9_expected 23 = .ok (.aload_n 0, 1) := by decide +kernel
theorem dX9_expected_24 : decode cX9_expected 24 = .ok (.getfield 20, 3) := by decide +kernel
theorem dX9_expected_27 : decode cX9_expected 27 = .ok (.iload_n 1, 1) := by decide +kernel
theorem dX9_expected_28 : decode cX9_expected 28 = .ok (.iconst 2, 1) := by decide +kernel
theorem dX9_expected_29 : decode cX9_expected 29 = .ok (.isub, 1) := by decide +kernel
theorem dX9_expected_30 : decode cX9_expected 30 = .ok (.iaload, 1) := by decide +kernel
theorem dX9_expected_31 : decode cX9_expected 31 = .ok (.istore 4, 2) := by decide +kernel
theorem dX9_expected_33 : decode cX9_expected 33 = .ok (.iconst 2, 1) := by decide +kernel
theorem dX9_expected_34 : decode cX9_expected 34 = .ok (.iload_n 3, 1) := by decide +kernel
theorem dX9_expected_35 : decode cX9_expected 35 = .ok (.imul, 1) := by decide +kernel
theorem dX9_expected_36 : decode cX9_expected 36 = .ok (.iload 4, 2) := by decide +kernel
theorem dX9_expected_38 : decode cX9_expected 38 = .ok (.isub, 1) := by decide +kernel
theorem dX9_expected_39 : decode cX9_expected 39 = .ok (.istore 5, 2) := by decide +kernel
theorem dX9_expected_41 : decode cX9_expected 41 = .ok (.iload_n 2, 1) := by decide +kernel
theorem dX9_expected_42 : decode cX9_expected 42 = .ok (.tableswitch 65 0 2 #[26, 35, 37], 26) := by decide +kernel
theorem dX9_expected_68 : decode cX9_expected 68 = .ok (.aload_n 0, 1) := by decide +kernel
theorem dX9_expected_69 : decode cX9_expected 69 = .ok (.invokevirtual 44, 3) := by decide +kernel
theorem dX9_expected_72 : decode cX9_expected 72 = .ok (.iconst 1, 1) := by decide +kernel
theorem dX9_expected_73 : decode cX9_expected 73 = .ok (.iadd, 1) := by decide +kernel
theorem dX9_expected_74 : decode cX9_expected 74 = .ok (.iconst 2, 1) := by decide +kernel
theorem dX9_expected_75 : decode cX9_expected 75 = .ok (.idiv, 1) := by decide +kernel
theorem dX9_expected_76 : decode cX9_expected 76 = .ok (.ireturn, 1) := by decide +kernel
theorem dX9_expected_77 : decode cX9_expected 77 = .ok (.iload_n 3, 1) := by decide +kernel
theorem dX9_expected_78 : decode cX9_expected 78 = .ok (.ireturn, 1) := by decide +kernel
theorem dX9_expected_79 : decode cX9_expected 79 = .ok (.iload 5, 2) := by decide +kernel
theorem dX9_expected_81 : decode cX9_expected 81 = .ok (.ifCond .ge 7, 3) := by decide +kernel
theorem dX9_expected_84 : decode cX9_expected 84 = .ok (.iconst 0, 1) := by decide +kernel
theorem dX9_expected_85 : decode cX9_expected 85 = .ok (.goto 21, 3) := by decide +kernel
theorem dX9_expected_88 : decode cX9_expected 88 = .ok (.iload 5, 2) := by decide +kernel
theorem dX9_expected_90 : decode cX9_expected 90 = .ok (.aload_n 0, 1) := by decide +kernel
theorem dX9_expected_91 : decode cX9_expected 91 = .ok (.invokevirtual 44, 3) := by decide +kernel
theorem dX9_expected_94 : decode cX9_expected 94 = .ok (.if_icmp .le 10, 3) := by decide +kernel
theorem dX9_expected_97 : decode cX9_expected 97 = .ok (.aload_n 0, 1) := by decide +kernel
theorem dX9_expected_98 : decode cX9_expected 98 = .ok (.invokevirtual 44, 3) := by decide +kernel
theorem dX9_expected_101 : decode cX9_expected 101 = .ok (.goto 5, 3) := by decide +kernel
theorem dX9_expected_104 : decode cX9_expected 104 = .ok (.iload 5, 2) := by decide +kernel
theorem dX9_expected_106 : decode cX9_expected 106 = .ok (.ireturn, 1) := by decide +kernel
theorem dX9_expected_107 : decode cX9_expected 107 = .ok (.iload_n 3, 1) := by decide +kernel
theorem dX9_expected_108 : decode cX9_expected 108 = .ok (.iload 4, 2) := by decide +kernel
theorem dX9_expected_110 : decode cX9_expected 110 = .ok (.iadd, 1) := by decide +kernel
theorem dX9_expected_111 : decode cX9_expected 111 = .ok (.iconst 2, 1) := by decide +kernel
theorem dX9_expected_112 : decode cX9_expected 112 = .ok (.idiv, 1) := by decide +kernel
theorem dX9_expected_113 : decode cX9_expected 113 = .ok (.ireturn, 1) := by decide +kernel
set_option maxRecDepth 20000 in
theorem ggX9_room_X9_top : GoodIn wsX9_room wsX9_top := goodIn_r _ [5, 6, 7, 8, 9, 10, 11, 12, 13, 14, 15, 16, 17, 18] (by decide +kernel) (by decide +kernel)
set_option maxRecDepth 20000 in
theorem gX9_room_X9_top : GoodIn wsX9_room (wsV RX9 44 RX9 yX9_top wsX9_top) := goodIn_app (goodIn_of _ (by decide +kernel)) ggX9_room_X9_top
theorem dX9_room_0 : decode cX9_room 0 = .ok (.iload_n 1, 1) := by decide +kernel
theorem dX9_room_1 : decode cX9_room 1 = .ok (.aload_n 0, 1) := by decide +kernel
theorem dX9_room_2 : decode cX9_room 2 = .ok (.invokevirtual 44, 3) := by decide +kernel
theorem dX9_room_5 : decode cX9_room 5 = .ok (.iload_n 1, 1) := by decide +kernel
theorem dX9_room_6 : decode cX9_room 6 = .ok (.isub, 1) := by decide +kernel
theorem dX9_room_7 : decode cX9_room 7 = .ok (.if_icmp .ge 7, 3) := by decide +kernel
theorem dX9_room_10 : decode cX9_room 10 = .ok (.iload_n 1, 1) := by decide +kernel
theorem dX9_room_11 : decode cX9_room 11 = .ok (.goto 9, 3) := by decide +kernel
theorem dX9_room_14 : decode cX9_room 14 = .ok (.aload_n 0, 1) := by decide +kernel
theorem dX9_room_15 : decode cX9_room 15 = .ok (.invokevirtual 44, 3) := by decide +kernel
theorem dX9_room_18 : decode cX9_room 18 = .ok (.iload_n 1, 1) := by decide +kernel
theorem dX9_room_19 : decode cX9_room 19 = .ok (.isub, 1) := by decide +kernel
theorem dX9_room_20 : decode cX9_room 20 = .ok (.ireturn, 1) := by decide +kernel
set_option maxRecDepth 20000 in
theorem ggX9_fold_X9_room : GoodIn wsX9_fold wsX9_room := goodIn_r _ [5, 6, 7, 8, 4, 9, 10, 11, 12, 13, 14, 15, 16, 17, 18, 19, 20, 21, 22] (by decide +kernel) (by decide +kernel)
set_option maxRecDepth 20000 in
theorem gX9_fold_X9_room : GoodIn wsX9_fold (wsV RX9 53 RX9 yX9_room wsX9_room) := goodIn_app (goodIn_of _ (by decide +kernel)) ggX9_fold_X9_room
theorem dX9_fold_0 : decode cX9_fold 0 = .ok (.aload_n 0, 1) := by decide +kernel
theorem dX9_fold_1 : decode cX9_fold 1 = .ok (.iload_n 2, 1) := by decide +kernel
theorem dX9_fold_2 : decode cX9_fold 2 = .ok (.invokevirtual 53, 3) := by decide +kernel
theorem dX9_fold_5 : decode cX9_fold 5 = .ok (.istore_n 3, 1) := by decide +kernel
theorem dX9_fold_6 : decode cX9_fold 6 = .ok (.iload_n 1, 1) := by decide +kernel
theorem dX9_fold_7 : decode cX9_fold 7 = .ok (.iload_n 2, 1) := by decide +kernel
theorem dX9_fold_8 : decode cX9_fold 8 = .ok (.if_icmp .ge 9, 3) := by decide +kernel
theorem dX9_fold_11 : decode cX9_fold 11 = .ok (.iload_n 2, 1) := by decide +kernel
theorem dX9_fold_12 : decode cX9_fold 12 = .ok (.iload_n 1, 1) := by decide +kernel
theorem dX9_fold_13 : decode cX9_fold 13 = .ok (.isub, 1) := by decide +kernel
theorem dX9_fold_14 : decode cX9_fold 14 = .ok (.goto 6, 3) := by decide +kernel
theorem dX9_fold_17 : decode cX9_fold 17 = .ok (.iload_n 1, 1) := by decide +kernel
theorem dX9_fold_18 : decode cX9_fold 18 = .ok (.iload_n 2, 1) := by decide +kernel
theorem dX9_fold_19 : decode cX9_fold 19 = .ok (.isub, 1) := by decide +kernel
theorem dX9_fold_20 : decode cX9_fold 20 = .ok (.istore 4, 2) := by decide +kernel
theorem dX9_fold_22 : decode cX9_fold 22 = .ok (.iload 4, 2) := by decide +kernel
theorem dX9_fold_24 : decode cX9_fold 24 = .ok (.iload_n 3, 1) := by decide +kernel
theorem dX9_fold_25 : decode cX9_fold 25 = .ok (.if_icmp .le 10, 3) := by decide +kernel
theorem dX9_fold_28 : decode cX9_fold 28 = .ok (.iload_n 3, 1) := by decide +kernel
theorem dX9_fold_29 : decode cX9_fold 29 = .ok (.iload 4, 2) := by decide +kernel
theorem dX9_fold_31 : decode cX9_fold 31 = .ok (.iadd, 1) := by decide +kernel
theorem dX9_fold_32 : decode cX9_fold 32 = .ok (.goto 21, 3) := by decide +kernel
theorem dX9_fold_35 : decode cX9_fold 35 = .ok (.iload_n 1, 1) := by decide +kernel
theorem dX9_fold_36 : decode cX9_fold 36 = .ok (.iload_n 2, 1) := by decide +kernel
theorem dX9_fold_37 : decode cX9_fold 37 = .ok (.if_icmp .ge 12, 3) := by decide +kernel
theorem dX9_fold_40 : decode cX9_fold 40 = .ok (.iconst 2, 1) := by decide +kernel
theorem dX9_fold_41 : decode cX9_fold 41 = .ok (.iload 4, 2) := by decide +kernel
theorem dX9_fold_43 : decode cX9_fold 43 = .ok (.imul, 1) := by decide +kernel
theorem dX9_fold_44 : decode cX9_fold 44 = .ok (.iconst 1, 1) := by decide +kernel
theorem dX9_fold_45 : decode cX9_fold 45 = .ok (.isub, 1) := by decide +kernel
theorem dX9_fold_46 : decode cX9_fold 46 = .ok (.goto 7, 3) := by decide +kernel
theorem dX9_fold_49 : decode cX9_fold 49 = .ok (.iconst 2, 1) := by decide +kernel
theorem dX9_fold_50 : decode cX9_fold 50 = .ok (.iload 4, 2) := by decide +kernel
theorem dX9_fold_52 : decode cX9_fold 52 = .ok (.imul, 1) := by decide +kernel
theorem dX9_fold_53 : decode cX9_fold 53 = .ok (.ireturn, 1) := by decide +kernel
set_option maxRecDepth 20000 in
theorem ggX9_unfold_X9_room : GoodIn wsX9_unfold wsX9_room := goodIn_r _ [5, 6, 7, 8, 4, 9, 10, 11, 12, 13, 14, 15, 16, 17, 18, 19, 20, 21, 22] (by decide +kernel) (by decide +kernel)
set_option maxRecDepth 20000 in
theorem gX9_unfold_X9_room : GoodIn wsX9_unfold (wsV RX9 53 RX9 yX9_room wsX9_room) := goodIn_app (goodIn_of _ (by decide +kernel)) ggX9_unfold_X9_room
theorem dX9_unfold_0 : decode cX9_unfold 0 = .ok (.aload_n 0, 1) := by decide +kernel
theorem dX9_unfold_1 : decode cX9_unfold 1 = .ok (.iload_n 2, 1) := by decide +kernel
theorem dX9_unfold_2 : decode cX9_unfold 2 = .ok (.invokevirtual 53, 3) := by decide +kernel
theorem dX9_unfold_5 : decode cX9_unfold 5 = .ok (.istore_n 3, 1) := by decide +kernel
theorem dX9_unfold_6 : decode cX9_unfold 6 = .ok (.iload_n 1, 1) := by decide +kernel
theorem dX9_unfold_7 : decode cX9_unfold 7 = .ok (.iconst 2, 1) := by decide +kernel
theorem dX9_unfold_8 : decode cX9_unfold 8 = .ok (.iload_n 3, 1) := by decide +kernel
theorem dX9_unfold_9 : decode cX9_unfold 9 = .ok (.imul, 1) := by decide +kernel
theorem dX9_unfold_10 : decode cX9_unfold 10 = .ok (.if_icmp .le 25, 3) := by decide +kernel
theorem dX9_unfold_13 : decode cX9_unfold 13 = .ok (.iload_n 2, 1) := by decide +kernel
theorem dX9_unfold_14 : decode cX9_unfold 14 = .ok (.iload_n 1, 1) := by decide +kernel
theorem dX9_unfold_15 : decode cX9_unfold 15 = .ok (.iload_n 3, 1) := by decide +kernel
theorem dX9_unfold_16 : decode cX9_unfold 16 = .ok (.isub, 1) := by decide +kernel
theorem dX9_unfold_17 : decode cX9_unfold 17 = .ok (.isub, 1) := by decide +kernel
theorem dX9_unfold_18 : decode cX9_unfold 18 = .ok (.ifCond .lt 11, 3) := by decide +kernel
theorem dX9_unfold_21 : decode cX9_unfold 21 = .ok (.iload_n 2, 1) := by decide +kernel
theorem dX9_unfold_22 : decode cX9_unfold 22 = .ok (.iload_n 1, 1) := by decide +kernel
theorem dX9_unfold_23 : decode cX9_unfold 23 = .ok (.iload_n 3, 1) := by decide +kernel
theorem dX9_unfold_24 : decode cX9_unfold 24 = .ok (.isub, 1) := by decide +kernel
theorem dX9_unfold_25 : decode cX9_unfold 25 = .ok (.isub, 1) := by decide +kernel
theorem dX9_unfold_26 : decode cX9_unfold 26 = .ok (.goto 8, 3) := by decide +kernel
theorem dX9_unfold_29 : decode cX9_unfold 29 = .ok (.iload_n 2, 1) := by decide +kernel
theorem dX9_unfold_30 : decode cX9_unfold 30 = .ok (.iload_n 1, 1) := by decide +kernel
theorem dX9_unfold_31 : decode cX9_unfold 31 = .ok (.iload_n 3, 1) := by decide +kernel
theorem dX9_unfold_32 : decode cX9_unfold 32 = .ok (.isub, 1) := by decide +kernel
theorem dX9_unfold_33 : decode cX9_unfold 33 = .ok (.iadd, 1) := by decide +kernel
theorem dX9_unfold_34 : decode cX9_unfold 34 = .ok (.ireturn, 1) := by decide +kernel
theorem dX9_unfold_35 : decode cX9_unfold 35 = .ok (.iload_n 1, 1) := by decide +kernel
theorem dX9_unfold_36 : decode cX9_unfold 36 = .ok (.iconst 2, 1) := by decide +kernel
theorem dX9_unfold_37 : decode cX9_unfold 37 = .ok (.irem, 1) := by decide +kernel
theorem dX9_unfold_38 : decode cX9_unfold 38 = .ok (.iconst 1, 1) := by decide +kernel
theorem dX9_unfold_39 : decode cX9_unfold 39 = .ok (.if_icmp .ne 13, 3) := by decide +kernel
theorem dX9_unfold_42 : decode cX9_unfold 42 = .ok (.iload_n 2, 1) := by decide +kernel
theorem dX9_unfold_43 : decode cX9_unfold 43 = .ok (.iload_n 1, 1) := by decide +kernel
theorem dX9_unfold_44 : decode cX9_unfold 44 = .ok (.iconst 1, 1) := by decide +kernel
theorem dX9_unfold_45 : decode cX9_unfold 45 = .ok (.iadd, 1) := by decide +kernel
theorem dX9_unfold_46 : decode cX9_unfold 46 = .ok (.iconst 2, 1) := by decide +kernel
theorem dX9_unfold_47 : decode cX9_unfold 47 = .ok (.idiv, 1) := by decide +kernel
theorem dX9_unfold_48 : decode cX9_unfold 48 = .ok (.isub, 1) := by decide +kernel
theorem dX9_unfold_49 : decode cX9_unfold 49 = .ok (.goto 8, 3) := by decide +kernel
theorem dX9_unfold_52 : decode cX9_unfold 52 = .ok (.iload_n 2, 1) := by decide +kernel
theorem dX9_unfold_53 : decode cX9_unfold 53 = .ok (.iload_n 1, 1) := by decide +kernel
theorem dX9_unfold_54 : decode cX9_unfold 54 = .ok (.iconst 2, 1) := by decide +kernel
theorem dX9_unfold_55 : decode cX9_unfold 55 = .ok (.idiv, 1) := by decide +kernel
theorem dX9_unfold_56 : decode cX9_unfold 56 = .ok (.iadd, 1) := by decide +kernel
theorem dX9_unfold_57 : decode cX9_unfold 57 = .ok (.ireturn, 1) := by decide +kernel
set_option maxRecDepth 20000 in
theorem ggX9_takeRow_X9_many : GoodIn wsX9_takeRow wsX9_many := goodIn_r _ [7, 2, 8, 9, 10, 11, 12, 13, 14, 15, 16, 17, 18, 19] (by decide +kernel) (by decide +kernel)
set_option maxRecDepth 20000 in
theorem gX9_takeRow_X9_many : GoodIn wsX9_takeRow (wsV RX9 32 RX9 yX9_many wsX9_many) := goodIn_app (goodIn_of _ (by decide +kernel)) ggX9_takeRow_X9_many
theorem dX9_takeRow_0 : decode cX9_takeRow 0 = .ok (.iconst 0, 1) := by decide +kernel
theorem dX9_takeRow_1 : decode cX9_takeRow 1 = .ok (.istore_n 1, 1) := by decide +kernel
theorem dX9_takeRow_2 : decode cX9_takeRow 2 = .ok (.iload_n 1, 1) := by decide +kernel
theorem dX9_takeRow_3 : decode cX9_takeRow 3 = .ok (.aload_n 0, 1) := by decide +kernel
theorem dX9_takeRow_4 : decode cX9_takeRow 4 = .ok (.invokevirtual 32, 3) := by decide +kernel
theorem dX9_takeRow_7 : decode cX9_takeRow 7 = .ok (.if_icmp .ge 21, 3) := by decide +kernel
theorem dX9_takeRow_10 : decode cX9_takeRow 10 = .ok (.aload_n 0, 1) := by decide +kernel
theorem dX9_takeRow_11 : decode cX9_takeRow 11 = .ok (.getfield 20, 3) := by decide +kernel
theorem dX9_takeRow_14 : decode cX9_takeRow 14 = .ok (.iload_n 1, 1) := by decide +kernel
theorem dX9_takeRow_15 : decode cX9_takeRow 15 = .ok (.aload_n 0, 1) := by decide +kernel
theorem dX9_takeRow_16 : decode cX9_takeRow 16 = .ok (.getfield 7, 3) := by decide +kernel
theorem dX9_takeRow_19 : decode cX9_takeRow 19 = .ok (.iload_n 1, 1) := by decide +kernel
theorem dX9_takeRow_20 : decode cX9_takeRow 20 = .ok (.iaload, 1) := by decide +kernel
theorem dX9_takeRow_21 : decode cX9_takeRow 21 = .ok (.iastore, 1) := by decide +kernel
theorem dX9_takeRow_22 : decode cX9_takeRow 22 = .ok (.iinc 1 1, 3) := by decide +kernel
theorem dX9_takeRow_25 : decode cX9_takeRow 25 = .ok (.goto (-23), 3) := by decide +kernel
theorem dX9_takeRow_28 : decode cX9_takeRow 28 = .ok (.return_, 1) := by decide +kernel
set_option maxRecDepth 20000 in
theorem ggX9_ahead_X9_in : GoodIn wsX9_ahead wsX9_in := goodIn_r _ [5] (by decide +kernel) (by decide +kernel)
set_option maxRecDepth 20000 in
theorem gX9_ahead_X9_in : GoodIn wsX9_ahead (va_wsS RX9 36 yX9_in wsX9_in) := goodIn_app (goodIn_of _ (by decide +kernel)) ggX9_ahead_X9_in
set_option maxRecDepth 20000 in
theorem ggX9_ahead_X9_many : GoodIn wsX9_ahead wsX9_many := goodIn_r _ [9, 10, 39, 40, 41, 42, 43, 44, 45, 46, 47, 48, 49, 50] (by decide +kernel) (by decide +kernel)
set_option maxRecDepth 20000 in
theorem gX9_ahead_X9_many : GoodIn wsX9_ahead (wsV RX9 32 RX9 yX9_many wsX9_many) := goodIn_app (goodIn_of _ (by decide +kernel)) ggX9_ahead_X9_many
set_option maxRecDepth 20000 in
theorem ggX9_ahead_X9_isBare : GoodIn wsX9_ahead wsX9_isBare := goodIn_r _ [14, 15, 16, 17, 4, 18, 10, 39, 40, 41, 42, 43, 44, 45, 46, 47, 48, 49, 50] (by decide +kernel) (by decide +kernel)
set_option maxRecDepth 20000 in
theorem gX9_ahead_X9_isBare : GoodIn wsX9_ahead (wsV RX9 50 RX9 yX9_isBare wsX9_isBare) := goodIn_app (goodIn_of _ (by decide +kernel)) ggX9_ahead_X9_isBare
set_option maxRecDepth 20000 in
theorem ggX9_ahead_X9_takeRow : GoodIn wsX9_ahead wsX9_takeRow := goodIn_r _ [22, 1, 10, 6, 7, 8, 4, 9, 39, 40, 41, 42, 43, 44, 45, 46, 47, 48, 49, 50] (by decide +kernel) (by decide +kernel)
set_option maxRecDepth 20000 in
theorem gX9_ahead_X9_takeRow : GoodIn wsX9_ahead (wsV RX9 57 RX9 yX9_takeRow wsX9_takeRow) := goodIn_app (goodIn_of _ (by decide +kernel)) ggX9_ahead_X9_takeRow
set_option maxRecDepth 20000 in
theorem ggX9_ahead_X9_expected : GoodIn wsX9_ahead wsX9_expected := goodIn_r _ [26, 1, 11, 12, 13, 4, 14, 15, 16, 17, 18, 10, 27, 28, 29, 30, 39, 40, 41, 42, 43, 44, 45, 46, 47, 48, 49, 50] (by decide +kernel) (by decide +kernel)
set_option maxRecDepth 20000 in
theorem gX9_ahead_X9_expected : GoodIn wsX9_ahead (wsV RX9 60 RX9 yX9_expected wsX9_expected) := goodIn_app (goodIn_of _ (by decide +kernel)) ggX9_ahead_X9_expected
set_option maxRecDepth 20000 in
theorem ggX9_ahead_X9_fold : GoodIn wsX9_ahead wsX9_fold := goodIn_r _ [34, 35, 36, 37, 4, 38, 27, 28, 29, 30, 10, 39, 40, 41, 42, 43, 44, 45, 46, 47, 48, 49, 50] (by decide +kernel) (by decide +kernel)
set_option maxRecDepth 20000 in
theorem gX9_ahead_X9_fold : GoodIn wsX9_ahead (wsV RX9 64 RX9 yX9_fold wsX9_fold) := goodIn_app (goodIn_of _ (by decide +kernel)) ggX9_ahead_X9_fold
theorem dX9_ahead_0 : decode cX9_ahead 0 = .ok (.iload_n 2, 1) := by decide +kernel
theorem dX9_ahead_1 : decode cX9_ahead 1 = .ok (.iconst 0, 1) := by decide +kernel
theorem dX9_ahead_2 : decode cX9_ahead 2 = .ok (.iconst 3, 1) := by decide +kernel
theorem dX9_ahead_3 : decode cX9_ahead 3 = .ok (.invokestatic 36, 3) := by decide +kernel
theorem dX9_ahead_6 : decode cX9_ahead 6 = .ok (.ifCond .eq 12, 3) := by decide +kernel
theorem dX9_ahead_9 : decode cX9_ahead 9 = .ok (.iload_n 3, 1) := by decide +kernel
theorem dX9_ahead_10 : decode cX9_ahead 10 = .ok (.iconst 0, 1) := by decide +kernel
theorem dX9_ahead_11 : decode cX9_ahead 11 = .ok (.iconst 1, 1) := by decide +kernel
theorem dX9_ahead_12 : decode cX9_ahead 12 = .ok (.invokestatic 36, 3) := by decide +kernel
theorem dX9_ahead_15 : decode cX9_ahead 15 = .ok (.ifCond .ne 6, 3) := by decide +kernel
theorem dX9_ahead_18 : decode cX9_ahead 18 = .ok (.bipush (-2), 2) := by decide +kernel
theorem dX9_ahead_20 : decode cX9_ahead 20 = .ok (.ireturn, 1) := by decide +kernel
theorem dX9_ahead_21 : decode cX9_ahead 21 = .ok (.iload_n 1, 1) := by decide +kernel
theorem dX9_ahead_22 : decode cX9_ahead 22 = .ok (.iconst 0, 1) := by decide +kernel
theorem dX9_ahead_23 : decode cX9_ahead 23 = .ok (.aload_n 0, 1) := by decide +kernel
theorem dX9_ahead_24 : decode cX9_ahead 24 = .ok (.invokevirtual 32, 3) := by decide +kernel
theorem dX9_ahead_27 : decode cX9_ahead 27 = .ok (.iconst 1, 1) := by decide +kernel
theorem dX9_ahead_28 : decode cX9_ahead 28 = .ok (.isub, 1) := by decide +kernel
theorem dX9_ahead_29 : decode cX9_ahead 29 = .ok (.invokestatic 36, 3) := by decide +kernel
theorem dX9_ahead_32 : decode cX9_ahead 32 = .ok (.ifCond .eq 11, 3) := by decide +kernel
theorem dX9_ahead_35 : decode cX9_ahead 35 = .ok (.aload_n 0, 1) := by decide +kernel
theorem dX9_ahead_36 : decode cX9_ahead 36 = .ok (.iload_n 1, 1) := by decide +kernel
theorem dX9_ahead_37 : decode cX9_ahead 37 = .ok (.invokevirtual 50, 3) := by decide +kernel
theorem dX9_ahead_40 : decode cX9_ahead 40 = .ok (.ifCond .eq 6, 3) := by decide +kernel
theorem dX9_ahead_43 : decode cX9_ahead 43 = .ok (.bipush (-6), 2) := by decide +kernel
theorem dX9_ahead_45 : decode cX9_ahead 45 = .ok (.ireturn, 1) := by decide +kernel
theorem dX9_ahead_46 : decode cX9_ahead 46 = .ok (.aload_n 0, 1) := by decide +kernel
theorem dX9_ahead_47 : decode cX9_ahead 47 = .ok (.invokevirtual 57, 3) := by decide +kernel
theorem dX9_ahead_50 : decode cX9_ahead 50 = .ok (.aload_n 0, 1) := by decide +kernel
theorem dX9_ahead_51 : decode cX9_ahead 51 = .ok (.iload_n 1, 1) := by decide +kernel
theorem dX9_ahead_52 : decode cX9_ahead 52 = .ok (.iload_n 2, 1) := by decide +kernel
theorem dX9_ahead_53 : decode cX9_ahead 53 = .ok (.invokevirtual 60, 3) := by decide +kernel
theorem dX9_ahead_56 : decode cX9_ahead 56 = .ok (.istore 4, 2) := by decide +kernel
theorem dX9_ahead_58 : decode cX9_ahead 58 = .ok (.iload_n 3, 1) := by decide +kernel
theorem dX9_ahead_59 : decode cX9_ahead 59 = .ok (.ifCond .ne 8, 3) := by decide +kernel
theorem dX9_ahead_62 : decode cX9_ahead 62 = .ok (.iload 4, 2) := by decide +kernel
theorem dX9_ahead_64 : decode cX9_ahead 64 = .ok (.goto 15, 3) := by decide +kernel
theorem dX9_ahead_67 : decode cX9_ahead 67 = .ok (.aload_n 0, 1) := by decide +kernel
theorem dX9_ahead_68 : decode cX9_ahead 68 = .ok (.aload_n 0, 1) := by decide +kernel
theorem dX9_ahead_69 : decode cX9_ahead 69 = .ok (.getfield 20, 3) := by decide +kernel
theorem dX9_ahead_72 : decode cX9_ahead 72 = .ok (.iload_n 1, 1) := by decide +kernel
theorem dX9_ahead_73 : decode cX9_ahead 73 = .ok (.iaload, 1) := by decide +kernel
theorem dX9_ahead_74 : decode cX9_ahead 74 = .ok (.iload 4, 2) := by decide +kernel
theorem dX9_ahead_76 : decode cX9_ahead 76 = .ok (.invokevirtual 64, 3) := by decide +kernel
theorem dX9_ahead_79 : decode cX9_ahead 79 = .ok (.ireturn, 1) := by decide +kernel
set_option maxRecDepth 20000 in
theorem ggX9_blocks_X9_many : GoodIn wsX9_blocks wsX9_many := goodIn_r _ [6, 1, 7, 8, 9, 10, 11, 12, 13, 14, 15, 16, 17, 18] (by decide +kernel) (by decide +kernel)
set_option maxRecDepth 20000 in
theorem gX9_blocks_X9_many : GoodIn wsX9_blocks (wsV RX9 32 RX9 yX9_many wsX9_many) := goodIn_app (goodIn_of _ (by decide +kernel)) ggX9_blocks_X9_many
theorem dX9_blocks_0 : decode cX9_blocks 0 = .ok (.aload_n 0, 1) := by decide +kernel
theorem dX9_blocks_1 : decode cX9_blocks 1 = .ok (.invokevirtual 32, 3) := by decide +kernel
theorem dX9_blocks_4 : decode cX9_blocks 4 = .ok (.aload_n 0, 1) := by decide +kernel
theorem dX9_blocks_5 : decode cX9_blocks 5 = .ok (.getfield 7, 3) := by decide +kernel
theorem dX9_blocks_8 : decode cX9_blocks 8 = .ok (.sipush 1067, 3) := by decide +kernel
theorem dX9_blocks_11 : decode cX9_blocks 11 = .ok (.iaload, 1) := by decide +kernel
theorem dX9_blocks_12 : decode cX9_blocks 12 = .ok (.iadd, 1) := by decide +kernel
theorem dX9_blocks_13 : decode cX9_blocks 13 = .ok (.iconst 1, 1) := by decide +kernel
theorem dX9_blocks_14 : decode cX9_blocks 14 = .ok (.isub, 1) := by decide +kernel
theorem dX9_blocks_15 : decode cX9_blocks 15 = .ok (.aload_n 0, 1) := by decide +kernel
theorem dX9_blocks_16 : decode cX9_blocks 16 = .ok (.getfield 7, 3) := by decide +kernel
theorem dX9_blocks_19 : decode cX9_blocks 19 = .ok (.sipush 1067, 3) := by decide +kernel
theorem dX9_blocks_22 : decode cX9_blocks 22 = .ok (.iaload, 1) := by decide +kernel
theorem dX9_blocks_23 : decode cX9_blocks 23 = .ok (.idiv, 1) := by decide +kernel
theorem dX9_blocks_24 : decode cX9_blocks 24 = .ok (.ireturn, 1) := by decide +kernel
theorem dX9_firstOf_0 : decode cX9_firstOf 0 = .ok (.iload_n 1, 1) := by decide +kernel
theorem dX9_firstOf_1 : decode cX9_firstOf 1 = .ok (.aload_n 0, 1) := by decide +kernel
theorem dX9_firstOf_2 : decode cX9_firstOf 2 = .ok (.getfield 7, 3) := by decide +kernel
theorem dX9_firstOf_5 : decode cX9_firstOf 5 = .ok (.sipush 1067, 3) := by decide +kernel
theorem dX9_firstOf_8 : decode cX9_firstOf 8 = .ok (.iaload, 1) := by decide +kernel
theorem dX9_firstOf_9 : decode cX9_firstOf 9 = .ok (.imul, 1) := by decide +kernel
theorem dX9_firstOf_10 : decode cX9_firstOf 10 = .ok (.ireturn, 1) := by decide +kernel
theorem dX9_less_0 : decode cX9_less 0 = .ok (.iload_n 0, 1) := by decide +kernel
theorem dX9_less_1 : decode cX9_less 1 = .ok (.iload_n 1, 1) := by decide +kernel
theorem dX9_less_2 : decode cX9_less 2 = .ok (.if_icmp .ge 7, 3) := by decide +kernel
theorem dX9_less_5 : decode cX9_less 5 = .ok (.iload_n 0, 1) := by decide +kernel
theorem dX9_less_6 : decode cX9_less 6 = .ok (.goto 4, 3) := by decide +kernel
theorem dX9_less_9 : decode cX9_less 9 = .ok (.iload_n 1, 1) := by decide +kernel
theorem dX9_less_10 : decode cX9_less 10 = .ok (.ireturn, 1) := by decide +kernel
set_option maxRecDepth 20000 in
theorem ggX9_endOf_X9_firstOf : GoodIn wsX9_endOf wsX9_firstOf := goodIn_r _ [6, 1, 14, 15, 16, 17, 18, 19, 20, 21, 22, 23, 24, 25] (by decide +kernel) (by decide +kernel)
set_option maxRecDepth 20000 in
theorem gX9_endOf_X9_firstOf : GoodIn wsX9_endOf (wsV RX9 67 RX9 yX9_firstOf wsX9_firstOf) := goodIn_app (goodIn_of _ (by decide +kernel)) ggX9_endOf_X9_firstOf
set_option maxRecDepth 20000 in
theorem ggX9_endOf_X9_many : GoodIn wsX9_endOf wsX9_many := goodIn_r _ [10, 1, 14, 15, 16, 17, 18, 19, 20, 21, 22, 23, 24, 25] (by decide +kernel) (by decide +kernel)
set_option maxRecDepth 20000 in
theorem gX9_endOf_X9_many : GoodIn wsX9_endOf (wsV RX9 32 RX9 yX9_many wsX9_many) := goodIn_app (goodIn_of _ (by decide +kernel)) ggX9_endOf_X9_many
set_option maxRecDepth 20000 in
theorem ggX9_endOf_X9_less : GoodIn wsX9_endOf wsX9_less := goodIn_r _ [13] (by decide +kernel) (by decide +kernel)
set_option maxRecDepth 20000 in
theorem gX9_endOf_X9_less : GoodIn wsX9_endOf (va_wsS RX9 70 yX9_less wsX9_less) := goodIn_app (goodIn_of _ (by decide +kernel)) ggX9_endOf_X9_less
theorem dX9_endOf_0 : decode cX9_endOf 0 = .ok (.aload_n 0, 1) := by decide +kernel
theorem dX9_endOf_1 : decode cX9_endOf 1 = .ok (.iload_n 1, 1) := by decide +kernel
theorem dX9_endOf_2 : decode cX9_endOf 2 = .ok (.invokevirtual 67, 3) := by decide +kernel
theorem dX9_endOf_5 : decode cX9_endOf 5 = .ok (.aload_n 0, 1) := by decide +kernel
theorem dX9_endOf_6 : decode cX9_endOf 6 = .ok (.getfield 7, 3) := by decide +kernel
theorem dX9_endOf_9 : decode cX9_endOf 9 = .ok (.sipush 1067, 3) := by decide +kernel
theorem dX9_endOf_12 : decode cX9_endOf 12 = .ok (.iaload, 1) := by decide +kernel
theorem dX9_endOf_13 : decode cX9_endOf 13 = .ok (.iadd, 1) := by decide +kernel
theorem dX9_endOf_14 : decode cX9_endOf 14 = .ok (.aload_n 0, 1) := by decide +kernel
theorem dX9_endOf_15 : decode cX9_endOf 15 = .ok (.invokevirtual 32, 3) := by decide +kernel
theorem dX9_endOf_18 : decode cX9_endOf 18 = .ok (.invokestatic 70, 3) := by decide +kernel
theorem dX9_endOf_21 : decode cX9_endOf 21 = .ok (.ireturn, 1) := by decide +kernel
set_option maxRecDepth 20000 in
theorem ggX9_canCode_X9_in : GoodIn wsX9_canCode wsX9_in := goodIn_r _ [5] (by decide +kernel) (by decide +kernel)
set_option maxRecDepth 20000 in
theorem gX9_canCode_X9_in : GoodIn wsX9_canCode (va_wsS RX9 36 yX9_in wsX9_in) := goodIn_app (goodIn_of _ (by decide +kernel)) ggX9_canCode_X9_in
theorem dX9_canCode_0 : decode cX9_canCode 0 = .ok (.iload_n 1, 1) := by decide +kernel
theorem dX9_canCode_1 : decode cX9_canCode 1 = .ok (.ifCond .eq 33, 3) := by decide +kernel
theorem dX9_canCode_4 : decode cX9_canCode 4 = .ok (.iload_n 1, 1) := by decide +kernel
theorem dX9_canCode_5 : decode cX9_canCode 5 = .ok (.bipush 8, 2) := by decide +kernel
theorem dX9_canCode_7 : decode cX9_canCode 7 = .ok (.if_icmp .eq 27, 3) := by decide +kernel
theorem dX9_canCode_10 : decode cX9_canCode 10 = .ok (.iload_n 1, 1) := by decide +kernel
theorem dX9_canCode_11 : decode cX9_canCode 11 = .ok (.iconst 1, 1) := by decide +kernel
theorem dX9_canCode_12 : decode cX9_canCode 12 = .ok (.bipush 7, 2) := by decide +kernel
theorem dX9_canCode_14 : decode cX9_canCode 14 = .ok (.invokestatic 36, 3) := by decide +kernel
theorem dX9_canCode_17 : decode cX9_canCode 17 = .ok (.ifCond .eq 21, 3) := by decide +kernel
theorem dX9_canCode_20 : decode cX9_canCode 20 = .ok (.iload_n 1, 1) := by decide +kernel
theorem dX9_canCode_21 : decode cX9_canCode 21 = .ok (.iconst 1, 1) := by decide +kernel
theorem dX9_canCode_22 : decode cX9_canCode 22 = .ok (.isub, 1) := by decide +kernel
theorem dX9_canCode_23 : decode cX9_canCode 23 = .ok (.aload_n 0, 1) := by decide +kernel
theorem dX9_canCode_24 : decode cX9_canCode 24 = .ok (.getfield 7, 3) := by decide +kernel
theorem dX9_canCode_27 : decode cX9_canCode 27 = .ok (.sipush 1066, 3) := by decide +kernel
theorem dX9_canCode_30 : decode cX9_canCode 30 = .ok (.iaload, 1) := by decide +kernel
theorem dX9_canCode_31 : decode cX9_canCode 31 = .ok (.if_icmp .ge 7, 3) := by decide +kernel
theorem dX9_canCode_34 : decode cX9_canCode 34 = .ok (.iconst 1, 1) := by decide +kernel
theorem dX9_canCode_35 : decode cX9_canCode 35 = .ok (.goto 4, 3) := by decide +kernel
theorem dX9_canCode_38 : decode cX9_canCode 38 = .ok (.iconst 0, 1) := by decide +kernel
theorem dX9_canCode_39 : decode cX9_canCode 39 = .ok (.ireturn, 1) := by decide +kernel
theorem dX9_bitsOf_0 : decode cX9_bitsOf 0 = .ok (.iload_n 2, 1) := by decide +kernel
theorem dX9_bitsOf_1 : decode cX9_bitsOf 1 = .ok (.ifCond .ne 14, 3) := by decide +kernel
theorem dX9_bitsOf_4 : decode cX9_bitsOf 4 = .ok (.iload_n 1, 1) := by decide +kernel
theorem dX9_bitsOf_5 : decode cX9_bitsOf 5 = .ok (.ifCond .ne 7, 3) := by decide +kernel
theorem dX9_bitsOf_8 : decode cX9_bitsOf 8 = .ok (.iconst 0, 1) := by decide +kernel
theorem dX9_bitsOf_9 : decode cX9_bitsOf 9 = .ok (.goto 5, 3) := by decide +kernel
theorem dX9_bitsOf_12 : decode cX9_bitsOf 12 = .ok (.bipush (-6), 2) := by decide +kernel
theorem dX9_bitsOf_14 : decode cX9_bitsOf 14 = .ok (.ireturn, 1) := by decide +kernel
theorem dX9_bitsOf_15 : decode cX9_bitsOf 15 = .ok (.iload_n 2, 1) := by decide +kernel
theorem dX9_bitsOf_16 : decode cX9_bitsOf 16 = .ok (.bipush 8, 2) := by decide +kernel
theorem dX9_bitsOf_18 : decode cX9_bitsOf 18 = .ok (.if_icmp .ne 14, 3) := by decide +kernel
theorem dX9_bitsOf_21 : decode cX9_bitsOf 21 = .ok (.aload_n 0, 1) := by decide +kernel
theorem dX9_bitsOf_22 : decode cX9_bitsOf 22 = .ok (.getfield 7, 3) := by decide +kernel
theorem dX9_bitsOf_25 : decode cX9_bitsOf 25 = .ok (.sipush 1066, 3) := by decide +kernel
theorem dX9_bitsOf_28 : decode cX9_bitsOf 28 = .ok (.iaload, 1) := by decide +kernel
theorem dX9_bitsOf_29 : decode cX9_bitsOf 29 = .ok (.goto 10, 3) := by decide +kernel
theorem dX9_bitsOf_32 : decode cX9_bitsOf 32 = .ok (.iload_n 1, 1) := by decide +kernel
theorem dX9_bitsOf_33 : decode cX9_bitsOf 33 = .ok (.iload_n 2, 1) := by decide +kernel
theorem dX9_bitsOf_34 : decode cX9_bitsOf 34 = .ok (.iconst 1, 1) := by decide +kernel
theorem dX9_bitsOf_35 : decode cX9_bitsOf 35 = .ok (.isub, 1) := by decide +kernel
theorem dX9_bitsOf_36 : decode cX9_bitsOf 36 = .ok (.ishr, 1) := by decide +kernel
theorem dX9_bitsOf_37 : decode cX9_bitsOf 37 = .ok (.iload_n 2, 1) := by decide +kernel
theorem dX9_bitsOf_38 : decode cX9_bitsOf 38 = .ok (.iadd, 1) := by decide +kernel
theorem dX9_bitsOf_39 : decode cX9_bitsOf 39 = .ok (.ireturn, 1) := by decide +kernel
set_option maxRecDepth 20000 in
theorem ggX9_costOf_X9_canCode : GoodIn wsX9_costOf wsX9_canCode := goodIn_r _ [7, 1, 8, 9, 6, 10, 54, 55, 56, 57, 58, 59, 60, 61, 62, 63, 64, 65] (by decide +kernel) (by decide +kernel)
set_option maxRecDepth 20000 in
theorem gX9_costOf_X9_canCode : GoodIn wsX9_costOf (wsV RX9 73 RX9 yX9_canCode wsX9_canCode) := goodIn_app (goodIn_of _ (by decide +kernel)) ggX9_costOf_X9_canCode
set_option maxRecDepth 20000 in
theorem ggX9_costOf_X9_firstOf : GoodIn wsX9_costOf wsX9_firstOf := goodIn_r _ [14, 1, 54, 55, 56, 57, 58, 59, 60, 61, 62, 63, 64, 65] (by decide +kernel) (by decide +kernel)
set_option maxRecDepth 20000 in
theorem gX9_costOf_X9_firstOf : GoodIn wsX9_costOf (wsV RX9 67 RX9 yX9_firstOf wsX9_firstOf) := goodIn_app (goodIn_of _ (by decide +kernel)) ggX9_costOf_X9_firstOf
set_option maxRecDepth 20000 in
theorem ggX9_costOf_X9_endOf : GoodIn wsX9_costOf wsX9_endOf := goodIn_r _ [18, 1, 11, 12, 13, 6, 14, 19, 20, 21, 22, 23, 24, 25, 54, 55, 56, 57, 58, 59, 60, 61, 62, 63, 64, 65] (by decide +kernel) (by decide +kernel)
set_option maxRecDepth 20000 in
theorem gX9_costOf_X9_endOf : GoodIn wsX9_costOf (wsV RX9 76 RX9 yX9_endOf wsX9_endOf) := goodIn_app (goodIn_of _ (by decide +kernel)) ggX9_costOf_X9_endOf
set_option maxRecDepth 20000 in
theorem ggX9_costOf_X9_isBare : GoodIn wsX9_costOf wsX9_isBare := goodIn_r _ [29, 30, 31, 32, 6, 33, 1, 54, 55, 56, 57, 58, 59, 60, 61, 62, 63, 64, 65] (by decide +kernel) (by decide +kernel)
set_option maxRecDepth 20000 in
theorem gX9_costOf_X9_isBare : GoodIn wsX9_costOf (wsV RX9 50 RX9 yX9_isBare wsX9_isBare) := goodIn_app (goodIn_of _ (by decide +kernel)) ggX9_costOf_X9_isBare
set_option maxRecDepth 20000 in
theorem ggX9_costOf_X9_expected : GoodIn wsX9_costOf wsX9_expected := goodIn_r _ [37, 2, 26, 27, 28, 6, 29, 30, 31, 32, 33, 1, 38, 39, 40, 41, 54, 55, 56, 57, 58, 59, 60, 61, 62, 63, 64, 65] (by decide +kernel) (by decide +kernel)
set_option maxRecDepth 20000 in
theorem gX9_costOf_X9_expected : GoodIn wsX9_costOf (wsV RX9 60 RX9 yX9_expected wsX9_expected) := goodIn_app (goodIn_of _ (by decide +kernel)) ggX9_costOf_X9_expected
set_option maxRecDepth 20000 in
theorem ggX9_costOf_X9_fold : GoodIn wsX9_costOf wsX9_fold := goodIn_r _ [45, 46, 47, 48, 6, 49, 38, 39, 40, 41, 1, 54, 55, 56, 57, 58, 59, 60, 61, 62, 63, 64, 65] (by decide +kernel) (by decide +kernel)
set_option maxRecDepth 20000 in
theorem gX9_costOf_X9_fold : GoodIn wsX9_costOf (wsV RX9 64 RX9 yX9_fold wsX9_fold) := goodIn_app (goodIn_of _ (by decide +kernel)) ggX9_costOf_X9_fold
set_option maxRecDepth 20000 in
theorem ggX9_costOf_X9_bitsOf : GoodIn wsX9_costOf wsX9_bitsOf := goodIn_r _ [53, 1, 54, 55, 56, 57, 58, 59, 60, 61, 62, 63, 64, 65] (by decide +kernel) (by decide +kernel)
set_option maxRecDepth 20000 in
theorem gX9_costOf_X9_bitsOf : GoodIn wsX9_costOf (wsV RX9 79 RX9 yX9_bitsOf wsX9_bitsOf) := goodIn_app (goodIn_of _ (by decide +kernel)) ggX9_costOf_X9_bitsOf
theorem dX9_costOf_0 : decode cX9_costOf 0 = .ok (.aload_n 0, 1) := by decide +kernel
theorem dX9_costOf_1 : decode cX9_costOf 1 = .ok (.iload_n 3, 1) := by decide +kernel
theorem dX9_costOf_2 : decode cX9_costOf 2 = .ok (.invokevirtual 73, 3) := by decide +kernel
theorem dX9_costOf_5 : decode cX9_costOf 5 = .ok (.ifCond .ne 6, 3) := by decide +kernel
theorem dX9_costOf_8 : decode cX9_costOf 8 = .ok (.bipush (-6), 2) := by decide +kernel
theorem dX9_costOf_10 : decode cX9_costOf 10 = .ok (.ireturn, 1) := by decide +kernel
theorem dX9_costOf_11 : decode cX9_costOf 11 = .ok (.bipush 6, 2) := by decide +kernel
theorem dX9_costOf_13 : decode cX9_costOf 13 = .ok (.istore 4, 2) := by decide +kernel
theorem dX9_costOf_15 : decode cX9_costOf 15 = .ok (.aload_n 0, 1) := by decide +kernel
theorem dX9_costOf_16 : decode cX9_costOf 16 = .ok (.iload_n 1, 1) := by decide +kernel
theorem dX9_costOf_17 : decode cX9_costOf 17 = .ok (.invokevirtual 67, 3) := by decide +kernel
theorem dX9_costOf_20 : decode cX9_costOf 20 = .ok (.istore 5, 2) := by decide +kernel
theorem dX9_costOf_22 : decode cX9_costOf 22 = .ok (.iload 5, 2) := by decide +kernel
theorem dX9_costOf_24 : decode cX9_costOf 24 = .ok (.aload_n 0, 1) := by decide +kernel
theorem dX9_costOf_25 : decode cX9_costOf 25 = .ok (.iload_n 1, 1) := by decide +kernel
theorem dX9_costOf_26 : decode cX9_costOf 26 = .ok (.invokevirtual 76, 3) := by decide +kernel
theorem dX9_costOf_29 : decode cX9_costOf 29 = .ok (.if_icmp .ge 69, 3) := by decide +kernel
theorem dX9_costOf_32 : decode cX9_costOf 32 = .ok (.aload_n 0, 1) := by decide +kernel
theorem dX9_costOf_33 : decode cX9_costOf 33 = .ok (.iload 5, 2) := by decide +kernel
theorem dX9_costOf_35 : decode cX9_costOf 35 = .ok (.invokevirtual 50, 3) := by decide +kernel
theorem dX9_costOf_38 : decode cX9_costOf 38 = .ok (.ifCond .eq 14, 3) := by decide +kernel
theorem dX9_costOf_41 : decode cX9_costOf 41 = .ok (.aload_n 0, 1) := by decide +kernel
theorem dX9_costOf_42 : decode cX9_costOf 42 = .ok (.getfield 7, 3) := by decide +kernel
theorem dX9_costOf_45 : decode cX9_costOf 45 = .ok (.sipush 1066, 3) := by decide +kernel
theorem dX9_costOf_48 : decode cX9_costOf 48 = .ok (.iaload, 1) := by decide +kernel
theorem dX9_costOf_49 : decode cX9_costOf 49 = .ok (.goto 26, 3) := by decide +kernel
theorem dX9_costOf_52 : decode cX9_costOf 52 = .ok (.aload_n 0, 1) := by decide +kernel
theorem dX9_costOf_53 : decode cX9_costOf 53 = .ok (.aload_n 0, 1) := by decide +kernel
theorem dX9_costOf_54 : decode cX9_costOf 54 = .ok (.aload_n 0, 1) := by decide +kernel
theorem dX9_costOf_55 : decode cX9_costOf 55 = .ok (.getfield 20, 3) := by decide +kernel
theorem dX9_costOf_58 : decode cX9_costOf 58 = .ok (.iload 5, 2) := by decide +kernel
theorem dX9_costOf_60 : decode cX9_costOf 60 = .ok (.iaload, 1) := by decide +kernel
theorem dX9_costOf_61 : decode cX9_costOf 61 = .ok (.aload_n 0, 1) := by decide +kernel
theorem dX9_costOf_62 : decode cX9_costOf 62 = .ok (.iload 5, 2) := by decide +kernel
theorem dX9_costOf_64 : decode cX9_costOf 64 = .ok (.iload_n 2, 1) := by decide +kernel
theorem dX9_costOf_65 : decode cX9_costOf 65 = .ok (.invokevirtual 60, 3) := by decide +kernel
theorem dX9_costOf_68 : decode cX9_costOf 68 = .ok (.invokevirtual 64, 3) := by decide +kernel
theorem dX9_costOf_71 : decode cX9_costOf 71 = .ok (.iload_n 3, 1) := by decide +kernel
theorem dX9_costOf_72 : decode cX9_costOf 72 = .ok (.invokevirtual 79, 3) := by decide +kernel
theorem dX9_costOf_75 : decode cX9_costOf 75 = .ok (.istore 6, 2) := by decide +kernel
theorem dX9_costOf_77 : decode cX9_costOf 77 = .ok (.iload 6, 2) := by decide +kernel
theorem dX9_costOf_79 : decode cX9_costOf 79 = .ok (.ifCond .ge 6, 3) := by decide +kernel
theorem dX9_costOf_82 : decode cX9_costOf 82 = .ok (.bipush (-6), 2) := by decide +kernel
theorem dX9_costOf_84 : decode cX9_costOf 84 = .ok (.ireturn, 1) := by decide +kernel
theorem dX9_costOf_85 : decode cX9_costOf 85 = .ok (.iload 4, 2) := by decide +kernel
theorem dX9_costOf_87 : decode cX9_costOf 87 = .ok (.iload 6, 2) := by decide +kernel
theorem dX9_costOf_89 : decode cX9_costOf 89 = .ok (.iadd, 1) := by decide +kernel
theorem dX9_costOf_90 : decode cX9_costOf 90 = .ok (.istore 4, 2) := by decide +kernel
theorem dX9_costOf_92 : decode cX9_costOf 92 = .ok (.iinc 5 1, 3) := by decide +kernel
theorem dX9_costOf_95 : decode cX9_costOf 95 = .ok (.goto (-73), 3) := by decide +kernel
theorem dX9_costOf_98 : decode cX9_costOf 98 = .ok (.iload 4, 2) := by decide +kernel
theorem dX9_costOf_100 : decode cX9_costOf 100 = .ok (.ireturn, 1) := by decide +kernel
set_option maxRecDepth 20000 in
theorem ggX9_isBlock_X9_blocks : GoodIn wsX9_isBlock wsX9_blocks := goodIn_r _ [5, 6, 7, 8, 9, 4, 10, 14, 15, 16, 17, 18, 19, 20, 21, 22, 23, 24, 25] (by decide +kernel) (by decide +kernel)
set_option maxRecDepth 20000 in
theorem gX9_isBlock_X9_blocks : GoodIn wsX9_isBlock (wsV RX9 82 RX9 yX9_blocks wsX9_blocks) := goodIn_app (goodIn_of _ (by decide +kernel)) ggX9_isBlock_X9_blocks
set_option maxRecDepth 20000 in
theorem ggX9_isBlock_X9_in : GoodIn wsX9_isBlock wsX9_in := goodIn_r _ [13] (by decide +kernel) (by decide +kernel)
set_option maxRecDepth 20000 in
theorem gX9_isBlock_X9_in : GoodIn wsX9_isBlock (va_wsS RX9 36 yX9_in wsX9_in) := goodIn_app (goodIn_of _ (by decide +kernel)) ggX9_isBlock_X9_in
theorem dX9_isBlock_0 : decode cX9_isBlock 0 = .ok (.iload_n 1, 1) := by decide +kernel
theorem dX9_isBlock_1 : decode cX9_isBlock 1 = .ok (.iconst 0, 1) := by decide +kernel
theorem dX9_isBlock_2 : decode cX9_isBlock 2 = .ok (.aload_n 0, 1) := by decide +kernel
theorem dX9_isBlock_3 : decode cX9_isBlock 3 = .ok (.invokevirtual 82, 3) := by decide +kernel
theorem dX9_isBlock_6 : decode cX9_isBlock 6 = .ok (.iconst 1, 1) := by decide +kernel
theorem dX9_isBlock_7 : decode cX9_isBlock 7 = .ok (.isub, 1) := by decide +kernel
theorem dX9_isBlock_8 : decode cX9_isBlock 8 = .ok (.invokestatic 36, 3) := by decide +kernel
theorem dX9_isBlock_11 : decode cX9_isBlock 11 = .ok (.ireturn, 1) := by decide +kernel
set_option maxRecDepth 20000 in
theorem ggX9_cost_X9_in : GoodIn wsX9_cost wsX9_in := goodIn_r _ [4] (by decide +kernel) (by decide +kernel)
set_option maxRecDepth 20000 in
theorem gX9_cost_X9_in : GoodIn wsX9_cost (va_wsS RX9 36 yX9_in wsX9_in) := goodIn_app (goodIn_of _ (by decide +kernel)) ggX9_cost_X9_in
set_option maxRecDepth 20000 in
theorem ggX9_cost_X9_isBlock : GoodIn wsX9_cost wsX9_isBlock := goodIn_r _ [8, 9, 10, 11, 3, 12, 13, 14, 15, 16, 17, 1, 2, 4, 70, 71, 72, 73, 74, 75, 76, 77, 78, 79, 80, 81] (by decide +kernel) (by decide +kernel)
set_option maxRecDepth 20000 in
theorem gX9_cost_X9_isBlock : GoodIn wsX9_cost (wsV RX9 85 RX9 yX9_isBlock wsX9_isBlock) := goodIn_app (goodIn_of _ (by decide +kernel)) ggX9_cost_X9_isBlock
set_option maxRecDepth 20000 in
theorem ggX9_cost_X9_takeRow : GoodIn wsX9_cost wsX9_takeRow := goodIn_r _ [21, 22, 13, 14, 15, 16, 3, 17, 70, 71, 72, 73, 74, 75, 76, 77, 78, 79, 80, 81] (by decide +kernel) (by decide +kernel)
set_option maxRecDepth 20000 in
theorem gX9_cost_X9_takeRow : GoodIn wsX9_cost (wsV RX9 57 RX9 yX9_takeRow wsX9_takeRow) := goodIn_app (goodIn_of _ (by decide +kernel)) ggX9_cost_X9_takeRow
set_option maxRecDepth 20000 in
theorem ggX9_cost_X9_costOf : GoodIn wsX9_cost wsX9_costOf := goodIn_r _ [26, 13, 22, 27, 28, 29, 3, 30, 1, 2, 4, 31, 32, 33, 34, 35, 36, 37, 38, 14, 15, 16, 17, 39, 40, 41, 42, 43, 44, 45, 46, 47, 48, 49, 50, 51, 52, 53, 54, 55, 56, 57, 58, 59, 60, 61, 62, 63, 64, 65, 66, 67, 68, 69, 70, 71, 72, 73, 74, 75, 76, 77, 78, 79, 80, 81] (by decide +kernel) (by decide +kernel)
set_option maxRecDepth 20000 in
theorem gX9_cost_X9_costOf : GoodIn wsX9_cost (wsV RX9 88 RX9 yX9_costOf wsX9_costOf) := goodIn_app (goodIn_of _ (by decide +kernel)) ggX9_cost_X9_costOf
theorem dX9_cost_0 : decode cX9_cost 0 = .ok (.iload_n 2, 1) := by decide +kernel
theorem dX9_cost_1 : decode cX9_cost 1 = .ok (.iconst 0, 1) := by decide +kernel
theorem dX9_cost_2 : decode cX9_cost 2 = .ok (.iconst 3, 1) := by decide +kernel
theorem dX9_cost_3 : decode cX9_cost 3 = .ok (.invokestatic 36, 3) := by decide +kernel
theorem dX9_cost_6 : decode cX9_cost 6 = .ok (.ifCond .eq 13, 3) := by decide +kernel
theorem dX9_cost_9 : decode cX9_cost 9 = .ok (.iload_n 3, 1) := by decide +kernel
theorem dX9_cost_10 : decode cX9_cost 10 = .ok (.iconst 0, 1) := by decide +kernel
theorem dX9_cost_11 : decode cX9_cost 11 = .ok (.bipush 8, 2) := by decide +kernel
theorem dX9_cost_13 : decode cX9_cost 13 = .ok (.invokestatic 36, 3) := by decide +kernel
theorem dX9_cost_16 : decode cX9_cost 16 = .ok (.ifCond .ne 6, 3) := by decide +kernel
theorem dX9_cost_19 : decode cX9_cost 19 = .ok (.bipush (-2), 2) := by decide +kernel
theorem dX9_cost_21 : decode cX9_cost 21 = .ok (.ireturn, 1) := by decide +kernel
theorem dX9_cost_22 : decode cX9_cost 22 = .ok (.aload_n 0, 1) := by decide +kernel
theorem dX9_cost_23 : decode cX9_cost 23 = .ok (.iload_n 1, 1) := by decide +kernel
theorem dX9_cost_24 : decode cX9_cost 24 = .ok (.invokevirtual 85, 3) := by decide +kernel
theorem dX9_cost_27 : decode cX9_cost 27 = .ok (.ifCond .ne 6, 3) := by decide +kernel
theorem dX9_cost_30 : decode cX9_cost 30 = .ok (.bipush (-6), 2) := by decide +kernel
theorem dX9_cost_32 : decode cX9_cost 32 = .ok (.ireturn, 1) := by decide +kernel
theorem dX9_cost_33 : decode cX9_cost 33 = .ok (.aload_n 0, 1) := by decide +kernel
theorem dX9_cost_34 : decode cX9_cost 34 = .ok (.invokevirtual 57, 3) := by decide +kernel
theorem dX9_cost_37 : decode cX9_cost 37 = .ok (.aload_n 0, 1) := by decide +kernel
theorem dX9_cost_38 : decode cX9_cost 38 = .ok (.iload_n 1, 1) := by decide +kernel
theorem dX9_cost_39 : decode cX9_cost 39 = .ok (.iload_n 2, 1) := by decide +kernel
theorem dX9_cost_40 : decode cX9_cost 40 = .ok (.iload_n 3, 1) := by decide +kernel
theorem dX9_cost_41 : decode cX9_cost 41 = .ok (.invokevirtual 88, 3) := by decide +kernel
theorem dX9_cost_44 : decode cX9_cost 44 = .ok (.ireturn, 1) := by decide +kernel
set_option maxRecDepth 20000 in
theorem ggX9_choice_X9_costOf : GoodIn wsX9_choice wsX9_costOf := goodIn_r _ [5, 6, 7, 8, 9, 10, 4, 11, 12, 13, 14, 15, 16, 17, 18, 19, 20, 21, 22, 23, 24, 25, 26, 27, 28, 29, 30, 31, 32, 33, 34, 35, 36, 37, 38, 39, 40, 41, 42, 43, 44, 45, 46, 47, 48, 49, 50, 51, 52, 53, 54, 55, 56, 57, 58, 59, 60, 61, 62, 63, 64, 65, 66, 67, 68, 69] (by decide +kernel) (by decide +kernel)
set_option maxRecDepth 20000 in
theorem gX9_choice_X9_costOf : GoodIn wsX9_choice (wsV RX9 88 RX9 yX9_costOf wsX9_costOf) := goodIn_app (goodIn_of _ (by decide +kernel)) ggX9_choice_X9_costOf
theorem dX9_choice_0 : decode cX9_choice 0 = .ok (.bipush (-6), 2) := by decide +kernel
theorem dX9_choice_2 : decode cX9_choice 2 = .ok (.istore_n 2, 1) := by decide +kernel
theorem dX9_choice_3 : decode cX9_choice 3 = .ok (.iconst 0, 1) := by decide +kernel
theorem dX9_choice_4 : decode cX9_choice 4 = .ok (.istore_n 3, 1) := by decide +kernel
theorem dX9_choice_5 : decode cX9_choice 5 = .ok (.iconst 0, 1) := by decide +kernel
theorem dX9_choice_6 : decode cX9_choice 6 = .ok (.istore 4, 2) := by decide +kernel
theorem dX9_choice_8 : decode cX9_choice 8 = .ok (.iload 4, 2) := by decide +kernel
theorem dX9_choice_10 : decode cX9_choice 10 = .ok (.iconst 4, 1) := by decide +kernel
theorem dX9_choice_11 : decode cX9_choice 11 = .ok (.if_icmp .ge 63, 3) := by decide +kernel
theorem dX9_choice_14 : decode cX9_choice 14 = .ok (.iconst 0, 1) := by decide +kernel
theorem dX9_choice_15 : decode cX9_choice 15 = .ok (.istore 5, 2) := by decide +kernel
theorem dX9_choice_17 : decode cX9_choice 17 = .ok (.iload 5, 2) := by decide +kernel
theorem dX9_choice_19 : decode cX9_choice 19 = .ok (.bipush 9, 2) := by decide +kernel
theorem dX9_choice_21 : decode cX9_choice 21 = .ok (.if_icmp .ge 47, 3) := by decide +kernel
theorem dX9_choice_24 : decode cX9_choice 24 = .ok (.aload_n 0, 1) := by decide +kernel
theorem dX9_choice_25 : decode cX9_choice 25 = .ok (.iload_n 1, 1) := by decide +kernel
theorem dX9_choice_26 : decode cX9_choice 26 = .ok (.iload 4, 2) := by decide +kernel
theorem dX9_choice_28 : decode cX9_choice 28 = .ok (.iload 5, 2) := by decide +kernel
theorem dX9_choice_30 : decode cX9_choice 30 = .ok (.invokevirtual 88, 3) := by decide +kernel
theorem dX9_choice_33 : decode cX9_choice 33 = .ok (.istore 6, 2) := by decide +kernel
theorem dX9_choice_35 : decode cX9_choice 35 = .ok (.iload 6, 2) := by decide +kernel
theorem dX9_choice_37 : decode cX9_choice 37 = .ok (.ifCond .lt 25, 3) := by decide +kernel
theorem dX9_choice_40 : decode cX9_choice 40 = .ok (.iload_n 2, 1) := by decide +kernel
theorem dX9_choice_41 : decode cX9_choice 41 = .ok (.ifCond .lt 9, 3) := by decide +kernel
theorem dX9_choice_44 : decode cX9_choice 44 = .ok (.iload 6, 2) := by decide +kernel
theorem dX9_choice_46 : decode cX9_choice 46 = .ok (.iload_n 3, 1) := by decide +kernel
theorem dX9_choice_47 : decode cX9_choice 47 = .ok (.if_icmp .ge 15, 3) := by decide +kernel
theorem dX9_choice_50 : decode cX9_choice 50 = .ok (.bipush 16, 2) := by decide +kernel
theorem dX9_choice_52 : decode cX9_choice 52 = .ok (.iload 4, 2) := by decide +kernel
theorem dX9_choice_54 : decode cX9_choice 54 = .ok (.imul, 1) := by decide +kernel
theorem dX9_choice_55 : decode cX9_choice 55 = .ok (.iload 5, 2) := by decide +kernel
theorem dX9_choice_57 : decode cX9_choice 57 = .ok (.iadd, 1) := by decide +kernel
theorem dX9_choice_58 : decode cX9_choice 58 = .ok (.istore_n 2, 1) := by decide +kernel
theorem dX9_choice_59 : decode cX9_choice 59 = .ok (.iload 6, 2) := by decide +kernel
theorem dX9_choice_61 : decode cX9_choice 61 = .ok (.istore_n 3, 1) := by decide +kernel
theorem dX9_choice_62 : decode cX9_choice 62 = .ok (.iinc 5 1, 3) := by decide +kernel
theorem dX9_choice_65 : decode cX9_choice 65 = .ok (.goto (-48), 3) := by decide +kernel
theorem dX9_choice_68 : decode cX9_choice 68 = .ok (.iinc 4 1, 3) := by decide +kernel
theorem dX9_choice_71 : decode cX9_choice 71 = .ok (.goto (-63), 3) := by decide +kernel
theorem dX9_choice_74 : decode cX9_choice 74 = .ok (.iload_n 2, 1) := by decide +kernel
theorem dX9_choice_75 : decode cX9_choice 75 = .ok (.ireturn, 1) := by decide +kernel
theorem dX9_write_0 : decode cX9_write 0 = .ok (.iload_n 2, 1) := by decide +kernel
theorem dX9_write_1 : decode cX9_write 1 = .ok (.iconst 1, 1) := by decide +kernel
theorem dX9_write_2 : decode cX9_write 2 = .ok (.isub, 1) := by decide +kernel
theorem dX9_write_3 : decode cX9_write 3 = .ok (.istore_n 3, 1) := by decide +kernel
theorem dX9_write_4 : decode cX9_write 4 = .ok (.iload_n 3, 1) := by decide +kernel
theorem dX9_write_5 : decode cX9_write 5 = .ok (.ifCond .lt 33, 3) := by decide +kernel
theorem dX9_write_8 : decode cX9_write 8 = .ok (.aload_n 0, 1) := by decide +kernel
theorem dX9_write_9 : decode cX9_write 9 = .ok (.getfield 23, 3) := by decide +kernel
theorem dX9_write_12 : decode cX9_write 12 = .ok (.aload_n 0, 1) := by decide +kernel
theorem dX9_write_13 : decode cX9_write 13 = .ok (.getfield 92, 3) := by decide +kernel
theorem dX9_write_16 : decode cX9_write 16 = .ok (.iload_n 1, 1) := by decide +kernel
theorem dX9_write_17 : decode cX9_write 17 = .ok (.iload_n 3, 1) := by decide +kernel
theorem dX9_write_18 : decode cX9_write 18 = .ok (.ishr, 1) := by decide +kernel
theorem dX9_write_19 : decode cX9_write 19 = .ok (.iconst 1, 1) := by decide +kernel
theorem dX9_write_20 : decode cX9_write 20 = .ok (.iand, 1) := by decide +kernel
theorem dX9_write_21 : decode cX9_write 21 = .ok (.iastore, 1) := by decide +kernel
theorem dX9_write_22 : decode cX9_write 22 = .ok (.aload_n 0, 1) := by decide +kernel
theorem dX9_write_23 : decode cX9_write 23 = .ok (.dup, 1) := by decide +kernel
theorem dX9_write_24 : decode cX9_write 24 = .ok (.getfield 92, 3) := by decide +kernel
theorem dX9_write_27 : decode cX9_write 27 = .ok (.iconst 1, 1) := by decide +kernel
theorem dX9_write_28 : decode cX9_write 28 = .ok (.iadd, 1) := by decide +kernel
theorem dX9_write_29 : decode cX9_write 29 = .ok (.putfield 92, 3) := by decide +kernel
theorem dX9_write_32 : decode cX9_write 32 = .ok (.iinc 3 (-1), 3) := by decide +kernel
theorem dX9_write_35 : decode cX9_write 35 = .ok (.goto (-31), 3) := by decide +kernel
theorem dX9_write_38 : decode cX9_write 38 = .ok (.return_, 1) := by decide +kernel
set_option maxRecDepth 20000 in
theorem ggX9_writeFold_X9_write : GoodIn wsX9_writeFold wsX9_write := goodIn_r _ [6, 7, 8, 9, 10, 11, 12, 13, 14, 15, 16, 17, 18, 19, 20] (by decide +kernel) (by decide +kernel)
set_option maxRecDepth 20000 in
theorem gX9_writeFold_X9_write : GoodIn wsX9_writeFold (wsV RX9 96 RX9 yX9_write wsX9_write) := goodIn_app (goodIn_of _ (by decide +kernel)) ggX9_writeFold_X9_write
theorem dX9_writeFold_0 : decode cX9_writeFold 0 = .ok (.iload_n 2, 1) := by decide +kernel
theorem dX9_writeFold_1 : decode cX9_writeFold 1 = .ok (.bipush 8, 2) := by decide +kernel
theorem dX9_writeFold_3 : decode cX9_writeFold 3 = .ok (.if_icmp .ne 19, 3) := by decide +kernel
theorem dX9_writeFold_6 : decode cX9_writeFold 6 = .ok (.aload_n 0, 1) := by decide +kernel
theorem dX9_writeFold_7 : decode cX9_writeFold 7 = .ok (.iload_n 1, 1) := by decide +kernel
theorem dX9_writeFold_8 : decode cX9_writeFold 8 = .ok (.aload_n 0, 1) := by decide +kernel
theorem dX9_writeFold_9 : decode cX9_writeFold 9 = .ok (.getfield 7, 3) := by decide +kernel
theorem dX9_writeFold_12 : decode cX9_writeFold 12 = .ok (.sipush 1066, 3) := by decide +kernel
theorem dX9_writeFold_15 : decode cX9_writeFold 15 = .ok (.iaload, 1) := by decide +kernel
theorem dX9_writeFold_16 : decode cX9_writeFold 16 = .ok (.invokevirtual 96, 3) := by decide +kernel
theorem dX9_writeFold_19 : decode cX9_writeFold 19 = .ok (.goto 52, 3) := by decide +kernel
theorem dX9_writeFold_22 : decode cX9_writeFold 22 = .ok (.iload_n 2, 1) := by decide +kernel
theorem dX9_writeFold_23 : decode cX9_writeFold 23 = .ok (.ifCond .le 48, 3) := by decide +kernel
theorem dX9_writeFold_26 : decode cX9_writeFold 26 = .ok (.iconst 0, 1) := by decide +kernel
theorem dX9_writeFold_27 : decode cX9_writeFold 27 = .ok (.istore_n 3, 1) := by decide +kernel
theorem dX9_writeFold_28 : decode cX9_writeFold 28 = .ok (.iload_n 3, 1) := by decide +kernel
theorem dX9_writeFold_29 : decode cX9_writeFold 29 = .ok (.iload_n 1, 1) := by decide +kernel
theorem dX9_writeFold_30 : decode cX9_writeFold 30 = .ok (.iload_n 2, 1) := by decide +kernel
theorem dX9_writeFold_31 : decode cX9_writeFold 31 = .ok (.iconst 1, 1) := by decide +kernel
theorem dX9_writeFold_32 : decode cX9_writeFold 32 = .ok (.isub, 1) := by decide +kernel
theorem dX9_writeFold_33 : decode cX9_writeFold 33 = .ok (.ishr, 1) := by decide +kernel
theorem dX9_writeFold_34 : decode cX9_writeFold 34 = .ok (.if_icmp .ge 15, 3) := by decide +kernel
theorem dX9_writeFold_37 : decode cX9_writeFold 37 = .ok (.aload_n 0, 1) := by decide +kernel
theorem dX9_writeFold_38 : decode cX9_writeFold 38 = .ok (.iconst 0, 1) := by decide +kernel
theorem dX9_writeFold_39 : decode cX9_writeFold 39 = .ok (.iconst 1, 1) := by decide +kernel
theorem dX9_writeFold_40 : decode cX9_writeFold 40 = .ok (.invokevirtual 96, 3) := by decide +kernel
theorem dX9_writeFold_43 : decode cX9_writeFold 43 = .ok (.iinc 3 1, 3) := by decide +kernel
theorem dX9_writeFold_46 : decode cX9_writeFold 46 = .ok (.goto (-18), 3) := by decide +kernel
theorem dX9_writeFold_49 : decode cX9_writeFold 49 = .ok (.aload_n 0, 1) := by decide +kernel
theorem dX9_writeFold_50 : decode cX9_writeFold 50 = .ok (.iconst 1, 1) := by decide +kernel
theorem dX9_writeFold_51 : decode cX9_writeFold 51 = .ok (.iconst 1, 1) := by decide +kernel
theorem dX9_writeFold_52 : decode cX9_writeFold 52 = .ok (.invokevirtual 96, 3) := by decide +kernel
theorem dX9_writeFold_55 : decode cX9_writeFold 55 = .ok (.aload_n 0, 1) := by decide +kernel
theorem dX9_writeFold_56 : decode cX9_writeFold 56 = .ok (.iload_n 1, 1) := by decide +kernel
theorem dX9_writeFold_57 : decode cX9_writeFold 57 = .ok (.iconst 1, 1) := by decide +kernel
theorem dX9_writeFold_58 : decode cX9_writeFold 58 = .ok (.iload_n 2, 1) := by decide +kernel
theorem dX9_writeFold_59 : decode cX9_writeFold 59 = .ok (.iconst 1, 1) := by decide +kernel
theorem dX9_writeFold_60 : decode cX9_writeFold 60 = .ok (.isub, 1) := by decide +kernel
theorem dX9_writeFold_61 : decode cX9_writeFold 61 = .ok (.ishl, 1) := by decide +kernel
theorem dX9_writeFold_62 : decode cX9_writeFold 62 = .ok (.iconst 1, 1) := by decide +kernel
theorem dX9_writeFold_63 : decode cX9_writeFold 63 = .ok (.isub, 1) := by decide +kernel
theorem dX9_writeFold_64 : decode cX9_writeFold 64 = .ok (.iand, 1) := by decide +kernel
theorem dX9_writeFold_65 : decode cX9_writeFold 65 = .ok (.iload_n 2, 1) := by decide +kernel
theorem dX9_writeFold_66 : decode cX9_writeFold 66 = .ok (.iconst 1, 1) := by decide +kernel
theorem dX9_writeFold_67 : decode cX9_writeFold 67 = .ok (.isub, 1) := by decide +kernel
theorem dX9_writeFold_68 : decode cX9_writeFold 68 = .ok (.invokevirtual 96, 3) := by decide +kernel
theorem dX9_writeFold_71 : decode cX9_writeFold 71 = .ok (.return_, 1) := by decide +kernel
set_option maxRecDepth 20000 in
theorem ggX9_pack_X9_takeRow : GoodIn wsX9_pack wsX9_takeRow := goodIn_r _ [10, 4, 5, 11, 12, 13, 9, 14, 82, 83, 84, 85, 86, 87, 88, 89, 90, 91, 92, 93] (by decide +kernel) (by decide +kernel)
set_option maxRecDepth 20000 in
theorem gX9_pack_X9_takeRow : GoodIn wsX9_pack (wsV RX9 57 RX9 yX9_takeRow wsX9_takeRow) := goodIn_app (goodIn_of _ (by decide +kernel)) ggX9_pack_X9_takeRow
set_option maxRecDepth 20000 in
theorem ggX9_pack_X9_blocks : GoodIn wsX9_pack wsX9_blocks := goodIn_r _ [18, 5, 11, 12, 13, 9, 14, 82, 83, 84, 85, 86, 87, 88, 89, 90, 91, 92, 93] (by decide +kernel) (by decide +kernel)
set_option maxRecDepth 20000 in
theorem gX9_pack_X9_blocks : GoodIn wsX9_pack (wsV RX9 82 RX9 yX9_blocks wsX9_blocks) := goodIn_app (goodIn_of _ (by decide +kernel)) ggX9_pack_X9_blocks
set_option maxRecDepth 20000 in
theorem ggX9_pack_X9_choice : GoodIn wsX9_pack wsX9_choice := goodIn_r _ [22, 23, 24, 25, 9, 26, 5, 4, 27, 28, 29, 30, 31, 32, 33, 34, 35, 36, 37, 38, 39, 40, 41, 11, 12, 13, 14, 42, 43, 44, 45, 46, 47, 48, 49, 50, 51, 52, 53, 54, 55, 56, 57, 58, 59, 60, 61, 62, 63, 64, 65, 66, 67, 68, 69, 70, 71, 72, 82, 83, 84, 85, 86, 87, 88, 89, 90, 91, 92, 93] (by decide +kernel) (by decide +kernel)
set_option maxRecDepth 20000 in
theorem gX9_pack_X9_choice : GoodIn wsX9_pack (wsV RX9 100 RX9 yX9_choice wsX9_choice) := goodIn_app (goodIn_of _ (by decide +kernel)) ggX9_pack_X9_choice
set_option maxRecDepth 20000 in
theorem ggX9_pack_X9_write : GoodIn wsX9_pack wsX9_write := goodIn_r _ [76, 77, 1, 82, 83, 84, 85, 86, 87, 88, 89, 90, 91, 92, 93] (by decide +kernel) (by decide +kernel)
set_option maxRecDepth 20000 in
theorem gX9_pack_X9_write : GoodIn wsX9_pack (wsV RX9 96 RX9 yX9_write wsX9_write) := goodIn_app (goodIn_of _ (by decide +kernel)) ggX9_pack_X9_write
set_option maxRecDepth 20000 in
theorem ggX9_pack_X9_firstOf : GoodIn wsX9_pack wsX9_firstOf := goodIn_r _ [37, 5, 82, 83, 84, 85, 86, 87, 88, 89, 90, 91, 92, 93] (by decide +kernel) (by decide +kernel)
set_option maxRecDepth 20000 in
theorem gX9_pack_X9_firstOf : GoodIn wsX9_pack (wsV RX9 67 RX9 yX9_firstOf wsX9_firstOf) := goodIn_app (goodIn_of _ (by decide +kernel)) ggX9_pack_X9_firstOf
set_option maxRecDepth 20000 in
theorem ggX9_pack_X9_endOf : GoodIn wsX9_pack wsX9_endOf := goodIn_r _ [41, 5, 34, 35, 36, 9, 37, 11, 12, 13, 14, 42, 43, 44, 82, 83, 84, 85, 86, 87, 88, 89, 90, 91, 92, 93] (by decide +kernel) (by decide +kernel)
set_option maxRecDepth 20000 in
theorem gX9_pack_X9_endOf : GoodIn wsX9_pack (wsV RX9 76 RX9 yX9_endOf wsX9_endOf) := goodIn_app (goodIn_of _ (by decide +kernel)) ggX9_pack_X9_endOf
set_option maxRecDepth 20000 in
theorem ggX9_pack_X9_isBare : GoodIn wsX9_pack wsX9_isBare := goodIn_r _ [48, 49, 50, 51, 9, 52, 5, 82, 83, 84, 85, 86, 87, 88, 89, 90, 91, 92, 93] (by decide +kernel) (by decide +kernel)
set_option maxRecDepth 20000 in
theorem gX9_pack_X9_isBare : GoodIn wsX9_pack (wsV RX9 50 RX9 yX9_isBare wsX9_isBare) := goodIn_app (goodIn_of _ (by decide +kernel)) ggX9_pack_X9_isBare
set_option maxRecDepth 20000 in
theorem ggX9_pack_X9_expected : GoodIn wsX9_pack wsX9_expected := goodIn_r _ [56, 4, 45, 46, 47, 9, 48, 49, 50, 51, 52, 5, 57, 58, 59, 60, 82, 83, 84, 85, 86, 87, 88, 89, 90, 91, 92, 93] (by decide +kernel) (by decide +kernel)
set_option maxRecDepth 20000 in
theorem gX9_pack_X9_expected : GoodIn wsX9_pack (wsV RX9 60 RX9 yX9_expected wsX9_expected) := goodIn_app (goodIn_of _ (by decide +kernel)) ggX9_pack_X9_expected
set_option maxRecDepth 20000 in
theorem ggX9_pack_X9_fold : GoodIn wsX9_pack wsX9_fold := goodIn_r _ [64, 65, 66, 67, 9, 68, 57, 58, 59, 60, 5, 82, 83, 84, 85, 86, 87, 88, 89, 90, 91, 92, 93] (by decide +kernel) (by decide +kernel)
set_option maxRecDepth 20000 in
theorem gX9_pack_X9_fold : GoodIn wsX9_pack (wsV RX9 64 RX9 yX9_fold wsX9_fold) := goodIn_app (goodIn_of _ (by decide +kernel)) ggX9_pack_X9_fold
set_option maxRecDepth 20000 in
theorem ggX9_pack_X9_writeFold : GoodIn wsX9_pack wsX9_writeFold := goodIn_r _ [81, 5, 73, 74, 75, 9, 76, 77, 1, 82, 83, 84, 85, 86, 87, 88, 89, 90, 91, 92, 93] (by decide +kernel) (by decide +kernel)
set_option maxRecDepth 20000 in
theorem gX9_pack_X9_writeFold : GoodIn wsX9_pack (wsV RX9 103 RX9 yX9_writeFold wsX9_writeFold) := goodIn_app (goodIn_of _ (by decide +kernel)) ggX9_pack_X9_writeFold
theorem dX9_pack_0 : decode cX9_pack 0 = .ok (.aload_n 0, 1) := by decide +kernel
theorem dX9_pack_1 : decode cX9_pack 1 = .ok (.invokevirtual 57, 3) := by decide +kernel
theorem dX9_pack_4 : decode cX9_pack 4 = .ok (.aload_n 0, 1) := by decide +kernel
theorem dX9_pack_5 : decode cX9_pack 5 = .ok (.iconst 0, 1) := by decide +kernel
theorem dX9_pack_6 : decode cX9_pack 6 = .ok (.putfield 92, 3) := by decide +kernel
theorem dX9_pack_9 : decode cX9_pack 9 = .ok (.iconst 0, 1) := by decide +kernel
theorem dX9_pack_10 : decode cX9_pack 10 = .ok (.istore_n 1, 1) := by decide +kernel
theorem dX9_pack_11 : decode cX9_pack 11 = .ok (.iload_n 1, 1) := by decide +kernel
theorem dX9_pack_12 : decode cX9_pack 12 = .ok (.aload_n 0, 1) := by decide +kernel
theorem dX9_pack_13 : decode cX9_pack 13 = .ok (.invokevirtual 82, 3) := by decide +kernel
theorem dX9_pack_16 : decode cX9_pack 16 = .ok (.if_icmp .ge 139, 3) := by decide +kernel
theorem dX9_pack_19 : decode cX9_pack 19 = .ok (.aload_n 0, 1) := by decide +kernel
theorem dX9_pack_20 : decode cX9_pack 20 = .ok (.getfield 26, 3) := by decide +kernel
theorem dX9_pack_23 : decode cX9_pack 23 = .ok (.iload_n 1, 1) := by decide +kernel
theorem dX9_pack_24 : decode cX9_pack 24 = .ok (.aload_n 0, 1) := by decide +kernel
theorem dX9_pack_25 : decode cX9_pack 25 = .ok (.getfield 92, 3) := by decide +kernel
theorem dX9_pack_28 : decode cX9_pack 28 = .ok (.iastore, 1) := by decide +kernel
theorem dX9_pack_29 : decode cX9_pack 29 = .ok (.aload_n 0, 1) := by decide +kernel
theorem dX9_pack_30 : decode cX9_pack 30 = .ok (.getfield 29, 3) := by decide +kernel
theorem dX9_pack_33 : decode cX9_pack 33 = .ok (.iload_n 1, 1) := by decide +kernel
theorem dX9_pack_34 : decode cX9_pack 34 = .ok (.aload_n 0, 1) := by decide +kernel
theorem dX9_pack_35 : decode cX9_pack 35 = .ok (.iload_n 1, 1) := by decide +kernel
theorem dX9_pack_36 : decode cX9_pack 36 = .ok (.invokevirtual 100, 3) := by decide +kernel
theorem dX9_pack_39 : decode cX9_pack 39 = .ok (.iastore, 1) := by decide +kernel
theorem dX9_pack_40 : decode cX9_pack 40 = .ok (.aload_n 0, 1) := by decide +kernel
theorem dX9_pack_41 : decode cX9_pack 41 = .ok (.getfield 29, 3) := by decide +kernel
theorem dX9_pack_44 : decode cX9_pack 44 = .ok (.iload_n 1, 1) := by decide +kernel
theorem dX9_pack_45 : decode cX9_pack 45 = .ok (.iaload, 1) := by decide +kernel
theorem dX9_pack_46 : decode cX9_pack 46 = .ok (.bipush 16, 2) := by decide +kernel
theorem dX9_pack_48 : decode cX9_pack 48 = .ok (.idiv, 1) := by decide +kernel
theorem dX9_pack_49 : decode cX9_pack 49 = .ok (.istore_n 2, 1) := by decide +kernel
theorem dX9_pack_50 : decode cX9_pack 50 = .ok (.aload_n 0, 1) := by decide +kernel
theorem dX9_pack_51 : decode cX9_pack 51 = .ok (.getfield 29, 3) := by decide +kernel
theorem dX9_pack_54 : decode cX9_pack 54 = .ok (.iload_n 1, 1) := by decide +kernel
theorem dX9_pack_55 : decode cX9_pack 55 = .ok (.iaload, 1) := by decide +kernel
theorem dX9_pack_56 : decode cX9_pack 56 = .ok (.bipush 16, 2) := by decide +kernel
theorem dX9_pack_58 : decode cX9_pack 58 = .ok (.irem, 1) := by decide +kernel
theorem dX9_pack_59 : decode cX9_pack 59 = .ok (.istore_n 3, 1) := by decide +kernel
theorem dX9_pack_60 : decode cX9_pack 60 = .ok (.aload_n 0, 1) := by decide +kernel
theorem dX9_pack_61 : decode cX9_pack 61 = .ok (.iload_n 2, 1) := by decide +kernel
theorem dX9_pack_62 : decode cX9_pack 62 = .ok (.iconst 2, 1) := by decide +kernel
theorem dX9_pack_63 : decode cX9_pack 63 = .ok (.invokevirtual 96, 3) := by decide +kernel
theorem dX9_pack_66 : decode cX9_pack 66 = .ok (.aload_n 0, 1) := by decide +kernel
theorem dX9_pack_67 : decode cX9_pack 67 = .ok (.iload_n 3, 1) := by decide +kernel
theorem dX9_pack_68 : decode cX9_pack 68 = .ok (.iconst 4, 1) := by decide +kernel
theorem dX9_pack_69 : decode cX9_pack 69 = .ok (.invokevirtual 96, 3) := by decide +kernel
theorem dX9_pack_72 : decode cX9_pack 72 = .ok (.aload_n 0, 1) := by decide +kernel
theorem dX9_pack_73 : decode cX9_pack 73 = .ok (.iload_n 1, 1) := by decide +kernel
theorem dX9_pack_74 : decode cX9_pack 74 = .ok (.invokevirtual 67, 3) := by decide +kernel
theorem dX9_pack_77 : decode cX9_pack 77 = .ok (.istore 4, 2) := by decide +kernel
theorem dX9_pack_79 : decode cX9_pack 79 = .ok (.iload 4, 2) := by decide +kernel
theorem dX9_pack_81 : decode cX9_pack 81 = .ok (.aload_n 0, 1) := by decide +kernel
theorem dX9_pack_82 : decode cX9_pack 82 = .ok (.iload_n 1, 1) := by decide +kernel
theorem dX9_pack_83 : decode cX9_pack 83 = .ok (.invokevirtual 76, 3) := by decide +kernel
theorem dX9_pack_86 : decode cX9_pack 86 = .ok (.if_icmp .ge 63, 3) := by decide +kernel
theorem dX9_pack_89 : decode cX9_pack 89 = .ok (.aload_n 0, 1) := by decide +kernel
theorem dX9_pack_90 : decode cX9_pack 90 = .ok (.iload 4, 2) := by decide +kernel
theorem dX9_pack_92 : decode cX9_pack 92 = .ok (.invokevirtual 50, 3) := by decide +kernel
theorem dX9_pack_95 : decode cX9_pack 95 = .ok (.ifCond .eq 25, 3) := by decide +kernel
theorem dX9_pack_98 : decode cX9_pack 98 = .ok (.aload_n 0, 1) := by decide +kernel
theorem dX9_pack_99 : decode cX9_pack 99 = .ok (.aload_n 0, 1) := by decide +kernel
theorem dX9_pack_100 : decode cX9_pack 100 = .ok (.getfield 20, 3) := by decide +kernel
theorem dX9_pack_103 : decode cX9_pack 103 = .ok (.iload 4, 2) := by decide +kernel
theorem dX9_pack_105 : decode cX9_pack 105 = .ok (.iaload, 1) := by decide +kernel
theorem dX9_pack_106 : decode cX9_pack 106 = .ok (.aload_n 0, 1) := by decide +kernel
theorem dX9_pack_107 : decode cX9_pack 107 = .ok (.getfield 7, 3) := by decide +kernel
theorem dX9_pack_110 : decode cX9_pack 110 = .ok (.sipush 1066, 3) := by decide +kernel
theorem dX9_pack_113 : decode cX9_pack 113 = .ok (.iaload, 1) := by decide +kernel
theorem dX9_pack_114 : decode cX9_pack 114 = .ok (.invokevirtual 96, 3) := by decide +kernel
theorem dX9_pack_117 : decode cX9_pack 117 = .ok (.goto 26, 3) := by decide +kernel
theorem dX9_pack_120 : decode cX9_pack 120 = .ok (.aload_n 0, 1) := by decide +kernel
theorem dX9_pack_121 : decode cX9_pack 121 = .ok (.aload_n 0, 1) := by decide +kernel
theorem dX9_pack_122 : decode cX9_pack 122 = .ok (.aload_n 0, 1) := by decide +kernel
theorem dX9_pack_123 : decode cX9_pack 123 = .ok (.getfield 20, 3) := by decide +kernel
theorem dX9_pack_126 : decode cX9_pack 126 = .ok (.iload 4, 2) := by decide +kernel
theorem dX9_pack_128 : decode cX9_pack 128 = .ok (.iaload, 1) := by decide +kernel
theorem dX9_pack_129 : decode cX9_pack 129 = .ok (.aload_n 0, 1) := by decide +kernel
theorem dX9_pack_130 : decode cX9_pack 130 = .ok (.iload 4, 2) := by decide +kernel
theorem dX9_pack_132 : decode cX9_pack 132 = .ok (.iload_n 2, 1) := by decide +kernel
theorem dX9_pack_133 : decode cX9_pack 133 = .ok (.invokevirtual 60, 3) := by decide +kernel
theorem dX9_pack_136 : decode cX9_pack 136 = .ok (.invokevirtual 64, 3) := by decide +kernel
theorem dX9_pack_139 : decode cX9_pack 139 = .ok (.iload_n 3, 1) := by decide +kernel
theorem dX9_pack_140 : decode cX9_pack 140 = .ok (.invokevirtual 103, 3) := by decide +kernel
theorem dX9_pack_143 : decode cX9_pack 143 = .ok (.iinc 4 1, 3) := by decide +kernel
theorem dX9_pack_146 : decode cX9_pack 146 = .ok (.goto (-67), 3) := by decide +kernel
theorem dX9_pack_149 : decode cX9_pack 149 = .ok (.iinc 1 1, 3) := by decide +kernel
theorem dX9_pack_152 : decode cX9_pack 152 = .ok (.goto (-141), 3) := by decide +kernel
theorem dX9_pack_155 : decode cX9_pack 155 = .ok (.aload_n 0, 1) := by decide +kernel
theorem dX9_pack_156 : decode cX9_pack 156 = .ok (.getfield 26, 3) := by decide +kernel
theorem dX9_pack_159 : decode cX9_pack 159 = .ok (.aload_n 0, 1) := by decide +kernel
theorem dX9_pack_160 : decode cX9_pack 160 = .ok (.invokevirtual 82, 3) := by decide +kernel
theorem dX9_pack_163 : decode cX9_pack 163 = .ok (.aload_n 0, 1) := by decide +kernel
theorem dX9_pack_164 : decode cX9_pack 164 = .ok (.getfield 92, 3) := by decide +kernel
theorem dX9_pack_167 : decode cX9_pack 167 = .ok (.iastore, 1) := by decide +kernel
theorem dX9_pack_168 : decode cX9_pack 168 = .ok (.return_, 1) := by decide +kernel
set_option maxRecDepth 20000 in
theorem ggX9_block_X9_in : GoodIn wsX9_block wsX9_in := goodIn_r _ [7] (by decide +kernel) (by decide +kernel)
set_option maxRecDepth 20000 in
theorem gX9_block_X9_in : GoodIn wsX9_block (va_wsS RX9 36 yX9_in wsX9_in) := goodIn_app (goodIn_of _ (by decide +kernel)) ggX9_block_X9_in
set_option maxRecDepth 20000 in
theorem ggX9_block_X9_isBlock : GoodIn wsX9_block wsX9_isBlock := goodIn_r _ [11, 12, 13, 14, 6, 15, 3, 16, 17, 18, 19, 4, 5, 7, 90, 91, 92, 93, 94, 95, 96, 97, 98, 99, 100, 101] (by decide +kernel) (by decide +kernel)
set_option maxRecDepth 20000 in
theorem gX9_block_X9_isBlock : GoodIn wsX9_block (wsV RX9 85 RX9 yX9_isBlock wsX9_isBlock) := goodIn_app (goodIn_of _ (by decide +kernel)) ggX9_block_X9_isBlock
set_option maxRecDepth 20000 in
theorem ggX9_block_X9_pack : GoodIn wsX9_block wsX9_pack := goodIn_r _ [23, 24, 2, 1, 25, 3, 26, 27, 28, 6, 29, 16, 17, 18, 19, 12, 13, 14, 15, 30, 31, 32, 33, 34, 35, 36, 37, 38, 39, 40, 41, 4, 5, 7, 42, 43, 44, 45, 46, 47, 48, 49, 50, 51, 52, 53, 54, 55, 56, 57, 58, 59, 60, 61, 62, 63, 64, 65, 66, 67, 68, 69, 70, 71, 72, 73, 74, 75, 76, 77, 78, 79, 80, 81, 82, 83, 84, 85, 86, 87, 88, 89, 90, 91, 92, 93, 94, 95, 96, 97, 98, 99, 100, 101] (by decide +kernel) (by decide +kernel)
set_option maxRecDepth 20000 in
theorem gX9_block_X9_pack : GoodIn wsX9_block (wsV RX9 106 RX9 yX9_pack wsX9_pack) := goodIn_app (goodIn_of _ (by decide +kernel)) ggX9_block_X9_pack
set_option maxRecDepth 20000 in
theorem ggX9_block_X9_endOf : GoodIn wsX9_block wsX9_endOf := goodIn_r _ [49, 3, 42, 43, 44, 6, 45, 16, 17, 18, 19, 50, 51, 52, 90, 91, 92, 93, 94, 95, 96, 97, 98, 99, 100, 101] (by decide +kernel) (by decide +kernel)
set_option maxRecDepth 20000 in
theorem gX9_block_X9_endOf : GoodIn wsX9_block (wsV RX9 76 RX9 yX9_endOf wsX9_endOf) := goodIn_app (goodIn_of _ (by decide +kernel)) ggX9_block_X9_endOf
set_option maxRecDepth 20000 in
theorem ggX9_block_X9_firstOf : GoodIn wsX9_block wsX9_firstOf := goodIn_r _ [45, 3, 90, 91, 92, 93, 94, 95, 96, 97, 98, 99, 100, 101] (by decide +kernel) (by decide +kernel)
set_option maxRecDepth 20000 in
theorem gX9_block_X9_firstOf : GoodIn wsX9_block (wsV RX9 67 RX9 yX9_firstOf wsX9_firstOf) := goodIn_app (goodIn_of _ (by decide +kernel)) ggX9_block_X9_firstOf
theorem dX9_block_0 : decode cX9_block 0 = .ok (.iload_n 2, 1) := by decide +kernel
theorem dX9_block_1 : decode cX9_block 1 = .ok (.iconst 0, 1) := by decide +kernel
theorem dX9_block_2 : decode cX9_block 2 = .ok (.iconst 5, 1) := by decide +kernel
theorem dX9_block_3 : decode cX9_block 3 = .ok (.invokestatic 36, 3) := by decide +kernel
theorem dX9_block_6 : decode cX9_block 6 = .ok (.ifCond .ne 6, 3) := by decide +kernel
theorem dX9_block_9 : decode cX9_block 9 = .ok (.bipush (-2), 2) := by decide +kernel
theorem dX9_block_11 : decode cX9_block 11 = .ok (.ireturn, 1) := by decide +kernel
theorem dX9_block_12 : decode cX9_block 12 = .ok (.aload_n 0, 1) := by decide +kernel
theorem dX9_block_13 : decode cX9_block 13 = .ok (.iload_n 1, 1) := by decide +kernel
theorem dX9_block_14 : decode cX9_block 14 = .ok (.invokevirtual 85, 3) := by decide +kernel
theorem dX9_block_17 : decode cX9_block 17 = .ok (.ifCond .ne 6, 3) := by decide +kernel
theorem dX9_block_20 : decode cX9_block 20 = .ok (.bipush (-6), 2) := by decide +kernel
theorem dX9_block_22 : decode cX9_block 22 = .ok (.ireturn, 1) := by decide +kernel
theorem dX9_block_23 : decode cX9_block 23 = .ok (.aload_n 0, 1) := by decide +kernel
theorem dX9_block_24 : decode cX9_block 24 = .ok (.invokevirtual 106, 3) := by decide +kernel
theorem dX9_block_27 : decode cX9_block 27 = .ok (.iload_n 2, 1) := by decide +kernel
theorem dX9_block_28 : decode cX9_block 28 = .ok (.tableswitch 91 0 4 #[36, 46, 56, 72, 84], 36) := by decide +kernel
theorem dX9_block_64 : decode cX9_block 64 = .ok (.aload_n 0, 1) := by decide +kernel
theorem dX9_block_65 : decode cX9_block 65 = .ok (.getfield 29, 3) := by decide +kernel
theorem dX9_block_68 : decode cX9_block 68 = .ok (.iload_n 1, 1) := by decide +kernel
theorem dX9_block_69 : decode cX9_block 69 = .ok (.iaload, 1) := by decide +kernel
theorem dX9_block_70 : decode cX9_block 70 = .ok (.bipush 16, 2) := by decide +kernel
theorem dX9_block_72 : decode cX9_block 72 = .ok (.idiv, 1) := by decide +kernel
theorem dX9_block_73 : decode cX9_block 73 = .ok (.ireturn, 1) := by decide +kernel
theorem dX9_block_74 : decode cX9_block 74 = .ok (.aload_n 0, 1) := by decide +kernel
theorem dX9_block_75 : decode cX9_block 75 = .ok (.getfield 29, 3) := by decide +kernel
theorem dX9_block_78 : decode cX9_block 78 = .ok (.iload_n 1, 1) := by decide +kernel
theorem dX9_block_79 : decode cX9_block 79 = .ok (.iaload, 1) := by decide +kernel
theorem dX9_block_80 : decode cX9_block 80 = .ok (.bipush 16, 2) := by decide +kernel
theorem dX9_block_82 : decode cX9_block 82 = .ok (.irem, 1) := by decide +kernel
theorem dX9_block_83 : decode cX9_block 83 = .ok (.ireturn, 1) := by decide +kernel
theorem dX9_block_84 : decode cX9_block 84 = .ok (.aload_n 0, 1) := by decide +kernel
theorem dX9_block_85 : decode cX9_block 85 = .ok (.getfield 26, 3) := by decide +kernel
theorem dX9_block_88 : decode cX9_block 88 = .ok (.iload_n 1, 1) := by decide +kernel
theorem dX9_block_89 : decode cX9_block 89 = .ok (.iconst 1, 1) := by decide +kernel
theorem dX9_block_90 : decode cX9_block 90 = .ok (.iadd, 1) := by decide +kernel
theorem dX9_block_91 : decode cX9_block 91 = .ok (.iaload, 1) := by decide +kernel
theorem dX9_block_92 : decode cX9_block 92 = .ok (.aload_n 0, 1) := by decide +kernel
theorem dX9_block_93 : decode cX9_block 93 = .ok (.getfield 26, 3) := by decide +kernel
theorem dX9_block_96 : decode cX9_block 96 = .ok (.iload_n 1, 1) := by decide +kernel
theorem dX9_block_97 : decode cX9_block 97 = .ok (.iaload, 1) := by decide +kernel
theorem dX9_block_98 : decode cX9_block 98 = .ok (.isub, 1) := by decide +kernel
theorem dX9_block_99 : decode cX9_block 99 = .ok (.ireturn, 1) := by decide +kernel
theorem dX9_block_100 : decode cX9_block 100 = .ok (.aload_n 0, 1) := by decide +kernel
theorem dX9_block_101 : decode cX9_block 101 = .ok (.iload_n 1, 1) := by decide +kernel
theorem dX9_block_102 : decode cX9_block 102 = .ok (.invokevirtual 76, 3) := by decide +kernel
theorem dX9_block_105 : decode cX9_block 105 = .ok (.aload_n 0, 1) := by decide +kernel
theorem dX9_block_106 : decode cX9_block 106 = .ok (.iload_n 1, 1) := by decide +kernel
theorem dX9_block_107 : decode cX9_block 107 = .ok (.invokevirtual 67, 3) := by decide +kernel
theorem dX9_block_110 : decode cX9_block 110 = .ok (.isub, 1) := by decide +kernel
theorem dX9_block_111 : decode cX9_block 111 = .ok (.ireturn, 1) := by decide +kernel
theorem dX9_block_112 : decode cX9_block 112 = .ok (.aload_n 0, 1) := by decide +kernel
theorem dX9_block_113 : decode cX9_block 113 = .ok (.getfield 26, 3) := by decide +kernel
theorem dX9_block_116 : decode cX9_block 116 = .ok (.iload_n 1, 1) := by decide +kernel
theorem dX9_block_117 : decode cX9_block 117 = .ok (.iaload, 1) := by decide +kernel
theorem dX9_block_118 : decode cX9_block 118 = .ok (.ireturn, 1) := by decide +kernel
theorem dX9_block_119 : decode cX9_block 119 = .ok (.iload_n 1, 1) := by decide +kernel
theorem dX9_block_120 : decode cX9_block 120 = .ok (.aload_n 0, 1) := by decide +kernel
theorem dX9_block_121 : decode cX9_block 121 = .ok (.getfield 7, 3) := by decide +kernel
theorem dX9_block_124 : decode cX9_block 124 = .ok (.sipush 1068, 3) := by decide +kernel
theorem dX9_block_127 : decode cX9_block 127 = .ok (.iaload, 1) := by decide +kernel
theorem dX9_block_128 : decode cX9_block 128 = .ok (.idiv, 1) := by decide +kernel
theorem dX9_block_129 : decode cX9_block 129 = .ok (.ireturn, 1) := by decide +kernel
set_option maxRecDepth 20000 in
theorem ggX9_packed_X9_pack : GoodIn wsX9_packed wsX9_pack := goodIn_r _ [7, 1, 8, 9, 10, 11, 12, 13, 14, 6, 15, 16, 17, 18, 19, 20, 21, 22, 23, 24, 25, 26, 27, 28, 29, 30, 31, 32, 33, 34, 35, 36, 37, 38, 39, 40, 41, 42, 43, 44, 45, 46, 47, 48, 49, 50, 51, 52, 53, 54, 55, 56, 57, 58, 59, 60, 61, 62, 63, 64, 65, 66, 67, 68, 69, 70, 71, 72, 73, 74, 75, 76, 77, 78, 79, 80, 81, 2, 82, 83, 84, 85, 86, 87, 88, 89, 90, 91, 92, 93, 94, 95, 96, 97] (by decide +kernel) (by decide +kernel)
set_option maxRecDepth 20000 in
theorem gX9_packed_X9_pack : GoodIn wsX9_packed (wsV RX9 106 RX9 yX9_pack wsX9_pack) := goodIn_app (goodIn_of _ (by decide +kernel)) ggX9_packed_X9_pack
theorem dX9_packed_0 : decode cX9_packed 0 = .ok (.iload_n 1, 1) := by decide +kernel
theorem dX9_packed_1 : decode cX9_packed 1 = .ok (.iconst (-1), 1) := by decide +kernel
theorem dX9_packed_2 : decode cX9_packed 2 = .ok (.if_icmp .ge 6, 3) := by decide +kernel
theorem dX9_packed_5 : decode cX9_packed 5 = .ok (.bipush (-2), 2) := by decide +kernel
theorem dX9_packed_7 : decode cX9_packed 7 = .ok (.ireturn, 1) := by decide +kernel
theorem dX9_packed_8 : decode cX9_packed 8 = .ok (.aload_n 0, 1) := by decide +kernel
theorem dX9_packed_9 : decode cX9_packed 9 = .ok (.invokevirtual 106, 3) := by decide +kernel
theorem dX9_packed_12 : decode cX9_packed 12 = .ok (.iload_n 1, 1) := by decide +kernel
theorem dX9_packed_13 : decode cX9_packed 13 = .ok (.iconst (-1), 1) := by decide +kernel
theorem dX9_packed_14 : decode cX9_packed 14 = .ok (.if_icmp .ne 10, 3) := by decide +kernel
theorem dX9_packed_17 : decode cX9_packed 17 = .ok (.aload_n 0, 1) := by decide +kernel
theorem dX9_packed_18 : decode cX9_packed 18 = .ok (.getfield 92, 3) := by decide +kernel
theorem dX9_packed_21 : decode cX9_packed 21 = .ok (.goto 22, 3) := by decide +kernel
theorem dX9_packed_24 : decode cX9_packed 24 = .ok (.iload_n 1, 1) := by decide +kernel
theorem dX9_packed_25 : decode cX9_packed 25 = .ok (.aload_n 0, 1) := by decide +kernel
theorem dX9_packed_26 : decode cX9_packed 26 = .ok (.getfield 92, 3) := by decide +kernel
theorem dX9_packed_29 : decode cX9_packed 29 = .ok (.if_icmp .ge 12, 3) := by decide +kernel
theorem dX9_packed_32 : decode cX9_packed 32 = .ok (.aload_n 0, 1) := by decide +kernel
theorem dX9_packed_33 : decode cX9_packed 33 = .ok (.getfield 23, 3) := by decide +kernel
theorem dX9_packed_36 : decode cX9_packed 36 = .ok (.iload_n 1, 1) := by decide +kernel
theorem dX9_packed_37 : decode cX9_packed 37 = .ok (.iaload, 1) := by decide +kernel
theorem dX9_packed_38 : decode cX9_packed 38 = .ok (.goto 5, 3) := by decide +kernel
theorem dX9_packed_41 : decode cX9_packed 41 = .ok (.bipush (-6), 2) := by decide +kernel
theorem dX9_packed_43 : decode cX9_packed 43 = .ok (.ireturn, 1) := by decide +kernel
set_option maxRecDepth 20000 in
theorem ggX9_lost_X9_isBlock : GoodIn wsX9_lost wsX9_isBlock := goodIn_r _ [6, 7, 8, 9, 5, 10, 1, 11, 12, 13, 14, 15, 16, 17, 29, 30, 31, 32, 33, 34, 35, 36, 37, 38, 39, 40] (by decide +kernel) (by decide +kernel)
set_option maxRecDepth 20000 in
theorem gX9_lost_X9_isBlock : GoodIn wsX9_lost (wsV RX9 85 RX9 yX9_isBlock wsX9_isBlock) := goodIn_app (goodIn_of _ (by decide +kernel)) ggX9_lost_X9_isBlock
set_option maxRecDepth 20000 in
theorem ggX9_lost_X9_segmentLong : GoodIn wsX9_lost wsX9_segmentLong := goodIn_r _ [21, 1, 29, 30, 31, 32, 33, 34, 35, 36, 37, 38, 39, 40] (by decide +kernel) (by decide +kernel)
set_option maxRecDepth 20000 in
theorem gX9_lost_X9_segmentLong : GoodIn wsX9_lost (wsV RX9 47 RX9 yX9_segmentLong wsX9_segmentLong) := goodIn_app (goodIn_of _ (by decide +kernel)) ggX9_lost_X9_segmentLong
set_option maxRecDepth 20000 in
theorem ggX9_lost_X9_many : GoodIn wsX9_lost wsX9_many := goodIn_r _ [14, 1, 29, 30, 31, 32, 33, 34, 35, 36, 37, 38, 39, 40] (by decide +kernel) (by decide +kernel)
set_option maxRecDepth 20000 in
theorem gX9_lost_X9_many : GoodIn wsX9_lost (wsV RX9 32 RX9 yX9_many wsX9_many) := goodIn_app (goodIn_of _ (by decide +kernel)) ggX9_lost_X9_many
set_option maxRecDepth 20000 in
theorem ggX9_lost_X9_less : GoodIn wsX9_lost wsX9_less := goodIn_r _ [24] (by decide +kernel) (by decide +kernel)
set_option maxRecDepth 20000 in
theorem gX9_lost_X9_less : GoodIn wsX9_lost (va_wsS RX9 70 yX9_less wsX9_less) := goodIn_app (goodIn_of _ (by decide +kernel)) ggX9_lost_X9_less
set_option maxRecDepth 20000 in
theorem ggX9_lost_X9_firstOf : GoodIn wsX9_lost wsX9_firstOf := goodIn_r _ [28, 1, 29, 30, 31, 32, 33, 34, 35, 36, 37, 38, 39, 40] (by decide +kernel) (by decide +kernel)
set_option maxRecDepth 20000 in
theorem gX9_lost_X9_firstOf : GoodIn wsX9_lost (wsV RX9 67 RX9 yX9_firstOf wsX9_firstOf) := goodIn_app (goodIn_of _ (by decide +kernel)) ggX9_lost_X9_firstOf
theorem dX9_lost_0 : decode cX9_lost 0 = .ok (.aload_n 0, 1) := by decide +kernel
theorem dX9_lost_1 : decode cX9_lost 1 = .ok (.iload_n 1, 1) := by decide +kernel
theorem dX9_lost_2 : decode cX9_lost 2 = .ok (.invokevirtual 85, 3) := by decide +kernel
theorem dX9_lost_5 : decode cX9_lost 5 = .ok (.ifCond .ne 6, 3) := by decide +kernel
theorem dX9_lost_8 : decode cX9_lost 8 = .ok (.bipush (-6), 2) := by decide +kernel
theorem dX9_lost_10 : decode cX9_lost 10 = .ok (.ireturn, 1) := by decide +kernel
theorem dX9_lost_11 : decode cX9_lost 11 = .ok (.iload_n 1, 1) := by decide +kernel
theorem dX9_lost_12 : decode cX9_lost 12 = .ok (.aload_n 0, 1) := by decide +kernel
theorem dX9_lost_13 : decode cX9_lost 13 = .ok (.getfield 7, 3) := by decide +kernel
theorem dX9_lost_16 : decode cX9_lost 16 = .ok (.sipush 1068, 3) := by decide +kernel
theorem dX9_lost_19 : decode cX9_lost 19 = .ok (.iaload, 1) := by decide +kernel
theorem dX9_lost_20 : decode cX9_lost 20 = .ok (.idiv, 1) := by decide +kernel
theorem dX9_lost_21 : decode cX9_lost 21 = .ok (.iconst 1, 1) := by decide +kernel
theorem dX9_lost_22 : decode cX9_lost 22 = .ok (.iadd, 1) := by decide +kernel
theorem dX9_lost_23 : decode cX9_lost 23 = .ok (.aload_n 0, 1) := by decide +kernel
theorem dX9_lost_24 : decode cX9_lost 24 = .ok (.invokevirtual 47, 3) := by decide +kernel
theorem dX9_lost_27 : decode cX9_lost 27 = .ok (.imul, 1) := by decide +kernel
theorem dX9_lost_28 : decode cX9_lost 28 = .ok (.aload_n 0, 1) := by decide +kernel
theorem dX9_lost_29 : decode cX9_lost 29 = .ok (.invokevirtual 32, 3) := by decide +kernel
theorem dX9_lost_32 : decode cX9_lost 32 = .ok (.invokestatic 70, 3) := by decide +kernel
theorem dX9_lost_35 : decode cX9_lost 35 = .ok (.istore_n 2, 1) := by decide +kernel
theorem dX9_lost_36 : decode cX9_lost 36 = .ok (.iload_n 2, 1) := by decide +kernel
theorem dX9_lost_37 : decode cX9_lost 37 = .ok (.aload_n 0, 1) := by decide +kernel
theorem dX9_lost_38 : decode cX9_lost 38 = .ok (.iload_n 1, 1) := by decide +kernel
theorem dX9_lost_39 : decode cX9_lost 39 = .ok (.invokevirtual 67, 3) := by decide +kernel
theorem dX9_lost_42 : decode cX9_lost 42 = .ok (.isub, 1) := by decide +kernel
theorem dX9_lost_43 : decode cX9_lost 43 = .ok (.ireturn, 1) := by decide +kernel
set_option maxRecDepth 20000 in
theorem ggX9_tape_X9_pack : GoodIn wsX9_tape wsX9_pack := goodIn_r _ [8, 1, 9, 10, 11, 2, 12, 13, 14, 7, 15, 16, 17, 18, 19, 20, 21, 22, 23, 24, 25, 26, 27, 28, 29, 30, 31, 32, 33, 34, 35, 36, 37, 38, 39, 40, 41, 42, 43, 44, 45, 46, 47, 48, 49, 50, 51, 52, 53, 54, 55, 56, 57, 58, 59, 60, 61, 62, 63, 64, 65, 66, 67, 68, 69, 70, 71, 72, 73, 74, 75, 76, 77, 78, 79, 80, 81, 3, 82, 83, 84, 85, 86, 87, 88, 89, 90, 91, 92, 93, 94, 95, 96, 97] (by decide +kernel) (by decide +kernel)
set_option maxRecDepth 20000 in
theorem gX9_tape_X9_pack : GoodIn wsX9_tape (wsV RX9 106 RX9 yX9_pack wsX9_pack) := goodIn_app (goodIn_of _ (by decide +kernel)) ggX9_tape_X9_pack
theorem dX9_tape_0 : decode cX9_tape 0 = .ok (.aload_n 0, 1) := by decide +kernel
theorem dX9_tape_1 : decode cX9_tape 1 = .ok (.invokevirtual 106, 3) := by decide +kernel
theorem dX9_tape_4 : decode cX9_tape 4 = .ok (.iconst 0, 1) := by decide +kernel
theorem dX9_tape_5 : decode cX9_tape 5 = .ok (.istore_n 1, 1) := by decide +kernel
theorem dX9_tape_6 : decode cX9_tape 6 = .ok (.iload_n 1, 1) := by decide +kernel
theorem dX9_tape_7 : decode cX9_tape 7 = .ok (.aload_n 0, 1) := by decide +kernel
theorem dX9_tape_8 : decode cX9_tape 8 = .ok (.getfield 92, 3) := by decide +kernel
theorem dX9_tape_11 : decode cX9_tape 11 = .ok (.if_icmp .ge 24, 3) := by decide +kernel
theorem dX9_tape_14 : decode cX9_tape 14 = .ok (.aload_n 0, 1) := by decide +kernel
theorem dX9_tape_15 : decode cX9_tape 15 = .ok (.getfield 7, 3) := by decide +kernel
theorem dX9_tape_18 : decode cX9_tape 18 = .ok (.bipush 64, 2) := by decide +kernel
theorem dX9_tape_20 : decode cX9_tape 20 = .ok (.iload_n 1, 1) := by decide +kernel
theorem dX9_tape_21 : decode cX9_tape 21 = .ok (.iadd, 1) := by decide +kernel
theorem dX9_tape_22 : decode cX9_tape 22 = .ok (.aload_n 0, 1) := by decide +kernel
theorem dX9_tape_23 : decode cX9_tape 23 = .ok (.getfield 23, 3) := by decide +kernel
theorem dX9_tape_26 : decode cX9_tape 26 = .ok (.iload_n 1, 1) := by decide +kernel
theorem dX9_tape_27 : decode cX9_tape 27 = .ok (.iaload, 1) := by decide +kernel
theorem dX9_tape_28 : decode cX9_tape 28 = .ok (.iastore, 1) := by decide +kernel
theorem dX9_tape_29 : decode cX9_tape 29 = .ok (.iinc 1 1, 3) := by decide +kernel
theorem dX9_tape_32 : decode cX9_tape 32 = .ok (.goto (-26), 3) := by decide +kernel
theorem dX9_tape_35 : decode cX9_tape 35 = .ok (.aload_n 0, 1) := by decide +kernel
theorem dX9_tape_36 : decode cX9_tape 36 = .ok (.getfield 7, 3) := by decide +kernel
theorem dX9_tape_39 : decode cX9_tape 39 = .ok (.sipush 1065, 3) := by decide +kernel
theorem dX9_tape_42 : decode cX9_tape 42 = .ok (.aload_n 0, 1) := by decide +kernel
theorem dX9_tape_43 : decode cX9_tape 43 = .ok (.getfield 92, 3) := by decide +kernel
theorem dX9_tape_46 : decode cX9_tape 46 = .ok (.iastore, 1) := by decide +kernel
theorem dX9_tape_47 : decode cX9_tape 47 = .ok (.aload_n 0, 1) := by decide +kernel
theorem dX9_tape_48 : decode cX9_tape 48 = .ok (.getfield 92, 3) := by decide +kernel
theorem dX9_tape_51 : decode cX9_tape 51 = .ok (.ireturn, 1) := by decide +kernel
set_option maxRecDepth 20000 in
theorem ggX9_push_X9_in : GoodIn wsX9_push wsX9_in := goodIn_r _ [5] (by decide +kernel) (by decide +kernel)
set_option maxRecDepth 20000 in
theorem gX9_push_X9_in : GoodIn wsX9_push (va_wsS RX9 36 yX9_in wsX9_in) := goodIn_app (goodIn_of _ (by decide +kernel)) ggX9_push_X9_in
theorem dX9_push_0 : decode cX9_push 0 = .ok (.iload_n 1, 1) := by decide +kernel
theorem dX9_push_1 : decode cX9_push 1 = .ok (.iconst 0, 1) := by decide +kernel
theorem dX9_push_2 : decode cX9_push 2 = .ok (.iconst 1, 1) := by decide +kernel
theorem dX9_push_3 : decode cX9_push 3 = .ok (.invokestatic 36, 3) := by decide +kernel
theorem dX9_push_6 : decode cX9_push 6 = .ok (.ifCond .ne 6, 3) := by decide +kernel
theorem dX9_push_9 : decode cX9_push 9 = .ok (.bipush (-2), 2) := by decide +kernel
theorem dX9_push_11 : decode cX9_push 11 = .ok (.ireturn, 1) := by decide +kernel
theorem dX9_push_12 : decode cX9_push 12 = .ok (.aload_n 0, 1) := by decide +kernel
theorem dX9_push_13 : decode cX9_push 13 = .ok (.getfield 7, 3) := by decide +kernel
theorem dX9_push_16 : decode cX9_push 16 = .ok (.sipush 1065, 3) := by decide +kernel
theorem dX9_push_19 : decode cX9_push 19 = .ok (.iaload, 1) := by decide +kernel
theorem dX9_push_20 : decode cX9_push 20 = .ok (.sipush 1000, 3) := by decide +kernel
theorem dX9_push_23 : decode cX9_push 23 = .ok (.if_icmp .ne 6, 3) := by decide +kernel
theorem dX9_push_26 : decode cX9_push 26 = .ok (.bipush (-4), 2) := by decide +kernel
theorem dX9_push_28 : decode cX9_push 28 = .ok (.ireturn, 1) := by decide +kernel
theorem dX9_push_29 : decode cX9_push 29 = .ok (.aload_n 0, 1) := by decide +kernel
theorem dX9_push_30 : decode cX9_push 30 = .ok (.getfield 7, 3) := by decide +kernel
theorem dX9_push_33 : decode cX9_push 33 = .ok (.bipush 64, 2) := by decide +kernel
theorem dX9_push_35 : decode cX9_push 35 = .ok (.aload_n 0, 1) := by decide +kernel
theorem dX9_push_36 : decode cX9_push 36 = .ok (.getfield 7, 3) := by decide +kernel
theorem dX9_push_39 : decode cX9_push 39 = .ok (.sipush 1065, 3) := by decide +kernel
theorem dX9_push_42 : decode cX9_push 42 = .ok (.iaload, 1) := by decide +kernel
theorem dX9_push_43 : decode cX9_push 43 = .ok (.iadd, 1) := by decide +kernel
theorem dX9_push_44 : decode cX9_push 44 = .ok (.iload_n 1, 1) := by decide +kernel
theorem dX9_push_45 : decode cX9_push 45 = .ok (.iastore, 1) := by decide +kernel
theorem dX9_push_46 : decode cX9_push 46 = .ok (.aload_n 0, 1) := by decide +kernel
theorem dX9_push_47 : decode cX9_push 47 = .ok (.getfield 7, 3) := by decide +kernel
theorem dX9_push_50 : decode cX9_push 50 = .ok (.sipush 1065, 3) := by decide +kernel
theorem dX9_push_53 : decode cX9_push 53 = .ok (.dup2, 1) := by decide +kernel
theorem dX9_push_54 : decode cX9_push 54 = .ok (.iaload, 1) := by decide +kernel
theorem dX9_push_55 : decode cX9_push 55 = .ok (.iconst 1, 1) := by decide +kernel
theorem dX9_push_56 : decode cX9_push 56 = .ok (.iadd, 1) := by decide +kernel
theorem dX9_push_57 : decode cX9_push 57 = .ok (.iastore, 1) := by decide +kernel
theorem dX9_push_58 : decode cX9_push 58 = .ok (.aload_n 0, 1) := by decide +kernel
theorem dX9_push_59 : decode cX9_push 59 = .ok (.getfield 7, 3) := by decide +kernel
theorem dX9_push_62 : decode cX9_push 62 = .ok (.sipush 1065, 3) := by decide +kernel
theorem dX9_push_65 : decode cX9_push 65 = .ok (.iaload, 1) := by decide +kernel
theorem dX9_push_66 : decode cX9_push 66 = .ok (.ireturn, 1) := by decide +kernel
set_option maxRecDepth 20000 in
theorem ggX9_flip_X9_in : GoodIn wsX9_flip wsX9_in := goodIn_r _ [5] (by decide +kernel) (by decide +kernel)
set_option maxRecDepth 20000 in
theorem gX9_flip_X9_in : GoodIn wsX9_flip (va_wsS RX9 36 yX9_in wsX9_in) := goodIn_app (goodIn_of _ (by decide +kernel)) ggX9_flip_X9_in
theorem dX9_flip_0 : decode cX9_flip 0 = .ok (.iload_n 1, 1) := by decide +kernel
theorem dX9_flip_1 : decode cX9_flip 1 = .ok (.iconst 0, 1) := by decide +kernel
theorem dX9_flip_2 : decode cX9_flip 2 = .ok (.aload_n 0, 1) := by decide +kernel
theorem dX9_flip_3 : decode cX9_flip 3 = .ok (.getfield 7, 3) := by decide +kernel
theorem dX9_flip_6 : decode cX9_flip 6 = .ok (.sipush 1065, 3) := by decide +kernel
theorem dX9_flip_9 : decode cX9_flip 9 = .ok (.iaload, 1) := by decide +kernel
theorem dX9_flip_10 : decode cX9_flip 10 = .ok (.iconst 1, 1) := by decide +kernel
theorem dX9_flip_11 : decode cX9_flip 11 = .ok (.isub, 1) := by decide +kernel
theorem dX9_flip_12 : decode cX9_flip 12 = .ok (.invokestatic 36, 3) := by decide +kernel
theorem dX9_flip_15 : decode cX9_flip 15 = .ok (.ifCond .ne 6, 3) := by decide +kernel
theorem dX9_flip_18 : decode cX9_flip 18 = .ok (.bipush (-2), 2) := by decide +kernel
theorem dX9_flip_20 : decode cX9_flip 20 = .ok (.ireturn, 1) := by decide +kernel
theorem dX9_flip_21 : decode cX9_flip 21 = .ok (.aload_n 0, 1) := by decide +kernel
theorem dX9_flip_22 : decode cX9_flip 22 = .ok (.getfield 7, 3) := by decide +kernel
theorem dX9_flip_25 : decode cX9_flip 25 = .ok (.bipush 64, 2) := by decide +kernel
theorem dX9_flip_27 : decode cX9_flip 27 = .ok (.iload_n 1, 1) := by decide +kernel
theorem dX9_flip_28 : decode cX9_flip 28 = .ok (.iadd, 1) := by decide +kernel
theorem dX9_flip_29 : decode cX9_flip 29 = .ok (.iconst 1, 1) := by decide +kernel
theorem dX9_flip_30 : decode cX9_flip 30 = .ok (.aload_n 0, 1) := by decide +kernel
theorem dX9_flip_31 : decode cX9_flip 31 = .ok (.getfield 7, 3) := by decide +kernel
theorem dX9_flip_34 : decode cX9_flip 34 = .ok (.bipush 64, 2) := by decide +kernel
theorem dX9_flip_36 : decode cX9_flip 36 = .ok (.iload_n 1, 1) := by decide +kernel
theorem dX9_flip_37 : decode cX9_flip 37 = .ok (.iadd, 1) := by decide +kernel
theorem dX9_flip_38 : decode cX9_flip 38 = .ok (.iaload, 1) := by decide +kernel
theorem dX9_flip_39 : decode cX9_flip 39 = .ok (.isub, 1) := by decide +kernel
theorem dX9_flip_40 : decode cX9_flip 40 = .ok (.iastore, 1) := by decide +kernel
theorem dX9_flip_41 : decode cX9_flip 41 = .ok (.aload_n 0, 1) := by decide +kernel
theorem dX9_flip_42 : decode cX9_flip 42 = .ok (.getfield 7, 3) := by decide +kernel
theorem dX9_flip_45 : decode cX9_flip 45 = .ok (.bipush 64, 2) := by decide +kernel
theorem dX9_flip_47 : decode cX9_flip 47 = .ok (.iload_n 1, 1) := by decide +kernel
theorem dX9_flip_48 : decode cX9_flip 48 = .ok (.iadd, 1) := by decide +kernel
theorem dX9_flip_49 : decode cX9_flip 49 = .ok (.iaload, 1) := by decide +kernel
theorem dX9_flip_50 : decode cX9_flip 50 = .ok (.ireturn, 1) := by decide +kernel
set_option maxRecDepth 20000 in
theorem ggX9_cut_X9_in : GoodIn wsX9_cut wsX9_in := goodIn_r _ [5] (by decide +kernel) (by decide +kernel)
set_option maxRecDepth 20000 in
theorem gX9_cut_X9_in : GoodIn wsX9_cut (va_wsS RX9 36 yX9_in wsX9_in) := goodIn_app (goodIn_of _ (by decide +kernel)) ggX9_cut_X9_in
theorem dX9_cut_0 : decode cX9_cut 0 = .ok (.iload_n 1, 1) := by decide +kernel
theorem dX9_cut_1 : decode cX9_cut 1 = .ok (.iconst 0, 1) := by decide +kernel
theorem dX9_cut_2 : decode cX9_cut 2 = .ok (.aload_n 0, 1) := by decide +kernel
theorem dX9_cut_3 : decode cX9_cut 3 = .ok (.getfield 7, 3) := by decide +kernel
theorem dX9_cut_6 : decode cX9_cut 6 = .ok (.sipush 1065, 3) := by decide +kernel
theorem dX9_cut_9 : decode cX9_cut 9 = .ok (.iaload, 1) := by decide +kernel
theorem dX9_cut_10 : decode cX9_cut 10 = .ok (.invokestatic 36, 3) := by decide +kernel
theorem dX9_cut_13 : decode cX9_cut 13 = .ok (.ifCond .ne 6, 3) := by decide +kernel
theorem dX9_cut_16 : decode cX9_cut 16 = .ok (.bipush (-2), 2) := by decide +kernel
theorem dX9_cut_18 : decode cX9_cut 18 = .ok (.ireturn, 1) := by decide +kernel
theorem dX9_cut_19 : decode cX9_cut 19 = .ok (.aload_n 0, 1) := by decide +kernel
theorem dX9_cut_20 : decode cX9_cut 20 = .ok (.getfield 7, 3) := by decide +kernel
theorem dX9_cut_23 : decode cX9_cut 23 = .ok (.sipush 1065, 3) := by decide +kernel
theorem dX9_cut_26 : decode cX9_cut 26 = .ok (.iaload, 1) := by decide +kernel
theorem dX9_cut_27 : decode cX9_cut 27 = .ok (.iload_n 1, 1) := by decide +kernel
theorem dX9_cut_28 : decode cX9_cut 28 = .ok (.isub, 1) := by decide +kernel
theorem dX9_cut_29 : decode cX9_cut 29 = .ok (.istore_n 2, 1) := by decide +kernel
theorem dX9_cut_30 : decode cX9_cut 30 = .ok (.aload_n 0, 1) := by decide +kernel
theorem dX9_cut_31 : decode cX9_cut 31 = .ok (.getfield 7, 3) := by decide +kernel
theorem dX9_cut_34 : decode cX9_cut 34 = .ok (.sipush 1065, 3) := by decide +kernel
theorem dX9_cut_37 : decode cX9_cut 37 = .ok (.iload_n 1, 1) := by decide +kernel
theorem dX9_cut_38 : decode cX9_cut 38 = .ok (.iastore, 1) := by decide +kernel
theorem dX9_cut_39 : decode cX9_cut 39 = .ok (.iload_n 2, 1) := by decide +kernel
theorem dX9_cut_40 : decode cX9_cut 40 = .ok (.ireturn, 1) := by decide +kernel
theorem dX9_bit_0 : decode cX9_bit 0 = .ok (.iload_n 1, 1) := by decide +kernel
theorem dX9_bit_1 : decode cX9_bit 1 = .ok (.iconst (-1), 1) := by decide +kernel
theorem dX9_bit_2 : decode cX9_bit 2 = .ok (.if_icmp .ge 6, 3) := by decide +kernel
theorem dX9_bit_5 : decode cX9_bit 5 = .ok (.bipush (-2), 2) := by decide +kernel
theorem dX9_bit_7 : decode cX9_bit 7 = .ok (.ireturn, 1) := by decide +kernel
theorem dX9_bit_8 : decode cX9_bit 8 = .ok (.iload_n 1, 1) := by decide +kernel
theorem dX9_bit_9 : decode cX9_bit 9 = .ok (.iconst (-1), 1) := by decide +kernel
theorem dX9_bit_10 : decode cX9_bit 10 = .ok (.if_icmp .ne 14, 3) := by decide +kernel
theorem dX9_bit_13 : decode cX9_bit 13 = .ok (.aload_n 0, 1) := by decide +kernel
theorem dX9_bit_14 : decode cX9_bit 14 = .ok (.getfield 7, 3) := by decide +kernel
theorem dX9_bit_17 : decode cX9_bit 17 = .ok (.sipush 1065, 3) := by decide +kernel
theorem dX9_bit_20 : decode cX9_bit 20 = .ok (.iaload, 1) := by decide +kernel
theorem dX9_bit_21 : decode cX9_bit 21 = .ok (.goto 29, 3) := by decide +kernel
theorem dX9_bit_24 : decode cX9_bit 24 = .ok (.iload_n 1, 1) := by decide +kernel
theorem dX9_bit_25 : decode cX9_bit 25 = .ok (.aload_n 0, 1) := by decide +kernel
theorem dX9_bit_26 : decode cX9_bit 26 = .ok (.getfield 7, 3) := by decide +kernel
theorem dX9_bit_29 : decode cX9_bit 29 = .ok (.sipush 1065, 3) := by decide +kernel
theorem dX9_bit_32 : decode cX9_bit 32 = .ok (.iaload, 1) := by decide +kernel
theorem dX9_bit_33 : decode cX9_bit 33 = .ok (.if_icmp .ge 15, 3) := by decide +kernel
theorem dX9_bit_36 : decode cX9_bit 36 = .ok (.aload_n 0, 1) := by decide +kernel
theorem dX9_bit_37 : decode cX9_bit 37 = .ok (.getfield 7, 3) := by decide +kernel
theorem dX9_bit_40 : decode cX9_bit 40 = .ok (.bipush 64, 2) := by decide +kernel
theorem dX9_bit_42 : decode cX9_bit 42 = .ok (.iload_n 1, 1) := by decide +kernel
theorem dX9_bit_43 : decode cX9_bit 43 = .ok (.iadd, 1) := by decide +kernel
theorem dX9_bit_44 : decode cX9_bit 44 = .ok (.iaload, 1) := by decide +kernel
theorem dX9_bit_45 : decode cX9_bit 45 = .ok (.goto 5, 3) := by decide +kernel
theorem dX9_bit_48 : decode cX9_bit 48 = .ok (.bipush (-6), 2) := by decide +kernel
theorem dX9_bit_50 : decode cX9_bit 50 = .ok (.ireturn, 1) := by decide +kernel
theorem dX9_fail_0 : decode cX9_fail 0 = .ok (.aload_n 0, 1) := by decide +kernel
theorem dX9_fail_1 : decode cX9_fail 1 = .ok (.iload_n 1, 1) := by decide +kernel
theorem dX9_fail_2 : decode cX9_fail 2 = .ok (.putfield 109, 3) := by decide +kernel
theorem dX9_fail_5 : decode cX9_fail 5 = .ok (.aload_n 0, 1) := by decide +kernel
theorem dX9_fail_6 : decode cX9_fail 6 = .ok (.iload_n 2, 1) := by decide +kernel
theorem dX9_fail_7 : decode cX9_fail 7 = .ok (.putfield 112, 3) := by decide +kernel
theorem dX9_fail_10 : decode cX9_fail 10 = .ok (.return_, 1) := by decide +kernel
set_option maxRecDepth 20000 in
theorem ggX9_number_X9_fail : GoodIn wsX9_number wsX9_fail := goodIn_r _ [8, 1, 9, 10, 11, 12, 13, 14, 15, 16, 17, 18, 19, 20, 21] (by decide +kernel) (by decide +kernel)
set_option maxRecDepth 20000 in
theorem gX9_number_X9_fail : GoodIn wsX9_number (wsV RX9 118 RX9 yX9_fail wsX9_fail) := goodIn_app (goodIn_of _ (by decide +kernel)) ggX9_number_X9_fail
theorem dX9_number_0 : decode cX9_number 0 = .ok (.iconst 0, 1) := by decide +kernel
theorem dX9_number_1 : decode cX9_number 1 = .ok (.istore_n 2, 1) := by decide +kernel
theorem dX9_number_2 : decode cX9_number 2 = .ok (.iconst 0, 1) := by decide +kernel
theorem dX9_number_3 : decode cX9_number 3 = .ok (.istore_n 3, 1) := by decide +kernel
theorem dX9_number_4 : decode cX9_number 4 = .ok (.iload_n 3, 1) := by decide +kernel
theorem dX9_number_5 : decode cX9_number 5 = .ok (.iload_n 1, 1) := by decide +kernel
theorem dX9_number_6 : decode cX9_number 6 = .ok (.if_icmp .ge 74, 3) := by decide +kernel
theorem dX9_number_9 : decode cX9_number 9 = .ok (.aload_n 0, 1) := by decide +kernel
theorem dX9_number_10 : decode cX9_number 10 = .ok (.getfield 109, 3) := by decide +kernel
theorem dX9_number_13 : decode cX9_number 13 = .ok (.ifCond .ne 67, 3) := by decide +kernel
theorem dX9_number_16 : decode cX9_number 16 = .ok (.aload_n 0, 1) := by decide +kernel
theorem dX9_number_17 : decode cX9_number 17 = .ok (.getfield 115, 3) := by decide +kernel
theorem dX9_number_20 : decode cX9_number 20 = .ok (.aload_n 0, 1) := by decide +kernel
theorem dX9_number_21 : decode cX9_number 21 = .ok (.getfield 7, 3) := by decide +kernel
theorem dX9_number_24 : decode cX9_number 24 = .ok (.sipush 1065, 3) := by decide +kernel
theorem dX9_number_27 : decode cX9_number 27 = .ok (.iaload, 1) := by decide +kernel
theorem dX9_number_28 : decode cX9_number 28 = .ok (.if_icmp .ne 19, 3) := by decide +kernel
theorem dX9_number_31 : decode cX9_number 31 = .ok (.aload_n 0, 1) := by decide +kernel
theorem dX9_number_32 : decode cX9_number 32 = .ok (.iconst 1, 1) := by decide +kernel
theorem dX9_number_33 : decode cX9_number 33 = .ok (.aload_n 0, 1) := by decide +kernel
theorem dX9_number_34 : decode cX9_number 34 = .ok (.getfield 7, 3) := by decide +kernel
theorem dX9_number_37 : decode cX9_number 37 = .ok (.sipush 1065, 3) := by decide +kernel
theorem dX9_number_40 : decode cX9_number 40 = .ok (.iaload, 1) := by decide +kernel
theorem dX9_number_41 : decode cX9_number 41 = .ok (.invokevirtual 118, 3) := by decide +kernel
theorem dX9_number_44 : decode cX9_number 44 = .ok (.goto 30, 3) := by decide +kernel
theorem dX9_number_47 : decode cX9_number 47 = .ok (.iconst 2, 1) := by decide +kernel
theorem dX9_number_48 : decode cX9_number 48 = .ok (.iload_n 2, 1) := by decide +kernel
theorem dX9_number_49 : decode cX9_number 49 = .ok (.imul, 1) := by decide +kernel
theorem dX9_number_50 : decode cX9_number 50 = .ok (.aload_n 0, 1) := by decide +kernel
theorem dX9_number_51 : decode cX9_number 51 = .ok (.getfield 7, 3) := by decide +kernel
theorem dX9_number_54 : decode cX9_number 54 = .ok (.bipush 64, 2) := by decide +kernel
theorem dX9_number_56 : decode cX9_number 56 = .ok (.aload_n 0, 1) := by decide +kernel
theorem dX9_number_57 : decode cX9_number 57 = .ok (.getfield 115, 3) := by decide +kernel
theorem dX9_number_60 : decode cX9_number 60 = .ok (.iadd, 1) := by decide +kernel
theorem dX9_number_61 : decode cX9_number 61 = .ok (.iaload, 1) := by decide +kernel
theorem dX9_number_62 : decode cX9_number 62 = .ok (.iadd, 1) := by decide +kernel
theorem dX9_number_63 : decode cX9_number 63 = .ok (.istore_n 2, 1) := by decide +kernel
theorem dX9_number_64 : decode cX9_number 64 = .ok (.aload_n 0, 1) := by decide +kernel
theorem dX9_number_65 : decode cX9_number 65 = .ok (.dup, 1) := by decide +kernel
theorem dX9_number_66 : decode cX9_number 66 = .ok (.getfield 115, 3) := by decide +kernel
theorem dX9_number_69 : decode cX9_number 69 = .ok (.iconst 1, 1) := by decide +kernel
theorem dX9_number_70 : decode cX9_number 70 = .ok (.iadd, 1) := by decide +kernel
theorem dX9_number_71 : decode cX9_number 71 = .ok (.putfield 115, 3) := by decide +kernel
theorem dX9_number_74 : decode cX9_number 74 = .ok (.iinc 3 1, 3) := by decide +kernel
theorem dX9_number_77 : decode cX9_number 77 = .ok (.goto (-73), 3) := by decide +kernel
theorem dX9_number_80 : decode cX9_number 80 = .ok (.iload_n 2, 1) := by decide +kernel
theorem dX9_number_81 : decode cX9_number 81 = .ok (.ireturn, 1) := by decide +kernel
set_option maxRecDepth 20000 in
theorem ggX9_readFold_X9_number : GoodIn wsX9_readFold wsX9_number := goodIn_r _ [8, 3, 2, 1, 9, 10, 11, 7, 12, 13, 18, 19, 20, 21, 22, 23, 24, 25, 26, 27, 28, 29] (by decide +kernel) (by decide +kernel)
set_option maxRecDepth 20000 in
theorem gX9_readFold_X9_number : GoodIn wsX9_readFold (wsV RX9 121 RX9 yX9_number wsX9_number) := goodIn_app (goodIn_of _ (by decide +kernel)) ggX9_readFold_X9_number
set_option maxRecDepth 20000 in
theorem ggX9_readFold_X9_top : GoodIn wsX9_readFold wsX9_top := goodIn_r _ [17, 1, 18, 19, 20, 21, 22, 23, 24, 25, 26, 27, 28, 29] (by decide +kernel) (by decide +kernel)
set_option maxRecDepth 20000 in
theorem gX9_readFold_X9_top : GoodIn wsX9_readFold (wsV RX9 44 RX9 yX9_top wsX9_top) := goodIn_app (goodIn_of _ (by decide +kernel)) ggX9_readFold_X9_top
set_option maxRecDepth 20000 in
theorem ggX9_readFold_X9_fail : GoodIn wsX9_readFold wsX9_fail := goodIn_r _ [12, 3, 13, 18, 19, 20, 21, 22, 23, 24, 25, 26, 27, 28, 29] (by decide +kernel) (by decide +kernel)
set_option maxRecDepth 20000 in
theorem gX9_readFold_X9_fail : GoodIn wsX9_readFold (wsV RX9 118 RX9 yX9_fail wsX9_fail) := goodIn_app (goodIn_of _ (by decide +kernel)) ggX9_readFold_X9_fail
theorem dX9_readFold_0 : decode cX9_readFold 0 = .ok (.iload_n 1, 1) := by decide +kernel
theorem dX9_readFold_1 : decode cX9_readFold 1 = .ok (.ifCond .ne 5, 3) := by decide +kernel
theorem dX9_readFold_4 : decode cX9_readFold 4 = .ok (.iconst 0, 1) := by decide +kernel
theorem dX9_readFold_5 : decode cX9_readFold 5 = .ok (.ireturn, 1) := by decide +kernel
theorem dX9_readFold_6 : decode cX9_readFold 6 = .ok (.iload_n 1, 1) := by decide +kernel
theorem dX9_readFold_7 : decode cX9_readFold 7 = .ok (.bipush 8, 2) := by decide +kernel
theorem dX9_readFold_9 : decode cX9_readFold 9 = .ok (.if_icmp .ne 16, 3) := by decide +kernel
theorem dX9_readFold_12 : decode cX9_readFold 12 = .ok (.aload_n 0, 1) := by decide +kernel
theorem dX9_readFold_13 : decode cX9_readFold 13 = .ok (.aload_n 0, 1) := by decide +kernel
theorem dX9_readFold_14 : decode cX9_readFold 14 = .ok (.getfield 7, 3) := by decide +kernel
theorem dX9_readFold_17 : decode cX9_readFold 17 = .ok (.sipush 1066, 3) := by decide +kernel
theorem dX9_readFold_20 : decode cX9_readFold 20 = .ok (.iaload, 1) := by decide +kernel
theorem dX9_readFold_21 : decode cX9_readFold 21 = .ok (.invokevirtual 121, 3) := by decide +kernel
theorem dX9_readFold_24 : decode cX9_readFold 24 = .ok (.ireturn, 1) := by decide +kernel
theorem dX9_readFold_25 : decode cX9_readFold 25 = .ok (.aload_n 0, 1) := by decide +kernel
theorem dX9_readFold_26 : decode cX9_readFold 26 = .ok (.getfield 115, 3) := by decide +kernel
theorem dX9_readFold_29 : decode cX9_readFold 29 = .ok (.istore_n 2, 1) := by decide +kernel
theorem dX9_readFold_30 : decode cX9_readFold 30 = .ok (.iconst 0, 1) := by decide +kernel
theorem dX9_readFold_31 : decode cX9_readFold 31 = .ok (.istore_n 3, 1) := by decide +kernel
theorem dX9_readFold_32 : decode cX9_readFold 32 = .ok (.aload_n 0, 1) := by decide +kernel
theorem dX9_readFold_33 : decode cX9_readFold 33 = .ok (.iconst 1, 1) := by decide +kernel
theorem dX9_readFold_34 : decode cX9_readFold 34 = .ok (.invokevirtual 121, 3) := by decide +kernel
theorem dX9_readFold_37 : decode cX9_readFold 37 = .ok (.istore 4, 2) := by decide +kernel
theorem dX9_readFold_39 : decode cX9_readFold 39 = .ok (.aload_n 0, 1) := by decide +kernel
theorem dX9_readFold_40 : decode cX9_readFold 40 = .ok (.getfield 109, 3) := by decide +kernel
theorem dX9_readFold_43 : decode cX9_readFold 43 = .ok (.ifCond .ne 42, 3) := by decide +kernel
theorem dX9_readFold_46 : decode cX9_readFold 46 = .ok (.iload 4, 2) := by decide +kernel
theorem dX9_readFold_48 : decode cX9_readFold 48 = .ok (.ifCond .ne 37, 3) := by decide +kernel
theorem dX9_readFold_51 : decode cX9_readFold 51 = .ok (.iinc 3 1, 3) := by decide +kernel
theorem dX9_readFold_54 : decode cX9_readFold 54 = .ok (.iload_n 3, 1) := by decide +kernel
theorem dX9_readFold_55 : decode cX9_readFold 55 = .ok (.aload_n 0, 1) := by decide +kernel
theorem dX9_readFold_56 : decode cX9_readFold 56 = .ok (.invokevirtual 44, 3) := by decide +kernel
theorem dX9_readFold_59 : decode cX9_readFold 59 = .ok (.iload_n 1, 1) := by decide +kernel
theorem dX9_readFold_60 : decode cX9_readFold 60 = .ok (.iconst 1, 1) := by decide +kernel
theorem dX9_readFold_61 : decode cX9_readFold 61 = .ok (.isub, 1) := by decide +kernel
theorem dX9_readFold_62 : decode cX9_readFold 62 = .ok (.ishr, 1) := by decide +kernel
theorem dX9_readFold_63 : decode cX9_readFold 63 = .ok (.if_icmp .le 12, 3) := by decide +kernel
theorem dX9_readFold_66 : decode cX9_readFold 66 = .ok (.aload_n 0, 1) := by decide +kernel
theorem dX9_readFold_67 : decode cX9_readFold 67 = .ok (.iconst 3, 1) := by decide +kernel
theorem dX9_readFold_68 : decode cX9_readFold 68 = .ok (.iload_n 2, 1) := by decide +kernel
theorem dX9_readFold_69 : decode cX9_readFold 69 = .ok (.invokevirtual 118, 3) := by decide +kernel
theorem dX9_readFold_72 : decode cX9_readFold 72 = .ok (.goto (-33), 3) := by decide +kernel
theorem dX9_readFold_75 : decode cX9_readFold 75 = .ok (.aload_n 0, 1) := by decide +kernel
theorem dX9_readFold_76 : decode cX9_readFold 76 = .ok (.iconst 1, 1) := by decide +kernel
theorem dX9_readFold_77 : decode cX9_readFold 77 = .ok (.invokevirtual 121, 3) := by decide +kernel
theorem dX9_readFold_80 : decode cX9_readFold 80 = .ok (.istore 4, 2) := by decide +kernel
theorem dX9_readFold_82 : decode cX9_readFold 82 = .ok (.goto (-43), 3) := by decide +kernel
theorem dX9_readFold_85 : decode cX9_readFold 85 = .ok (.aload_n 0, 1) := by decide +kernel
theorem dX9_readFold_86 : decode cX9_readFold 86 = .ok (.getfield 109, 3) := by decide +kernel
theorem dX9_readFold_89 : decode cX9_readFold 89 = .ok (.ifCond .ne 13, 3) := by decide +kernel
theorem dX9_readFold_92 : decode cX9_readFold 92 = .ok (.aload_n 0, 1) := by decide +kernel
theorem dX9_readFold_93 : decode cX9_readFold 93 = .ok (.iload_n 1, 1) := by decide +kernel
theorem dX9_readFold_94 : decode cX9_readFold 94 = .ok (.iconst 1, 1) := by decide +kernel
theorem dX9_readFold_95 : decode cX9_readFold 95 = .ok (.isub, 1) := by decide +kernel
theorem dX9_readFold_96 : decode cX9_readFold 96 = .ok (.invokevirtual 121, 3) := by decide +kernel
theorem dX9_readFold_99 : decode cX9_readFold 99 = .ok (.goto 4, 3) := by decide +kernel
theorem dX9_readFold_102 : decode cX9_readFold 102 = .ok (.iconst 0, 1) := by decide +kernel
theorem dX9_readFold_103 : decode cX9_readFold 103 = .ok (.istore 5, 2) := by decide +kernel
theorem dX9_readFold_105 : decode cX9_readFold 105 = .ok (.iload_n 3, 1) := by decide +kernel
theorem dX9_readFold_106 : decode cX9_readFold 106 = .ok (.iload_n 1, 1) := by decide +kernel
theorem dX9_readFold_107 : decode cX9_readFold 107 = .ok (.iconst 1, 1) := by decide +kernel
theorem dX9_readFold_108 : decode cX9_readFold 108 = .ok (.isub, 1) := by decide +kernel
theorem dX9_readFold_109 : decode cX9_readFold 109 = .ok (.ishl, 1) := by decide +kernel
theorem dX9_readFold_110 : decode cX9_readFold 110 = .ok (.iload 5, 2) := by decide +kernel
theorem dX9_readFold_112 : decode cX9_readFold 112 = .ok (.iadd, 1) := by decide +kernel
theorem dX9_readFold_113 : decode cX9_readFold 113 = .ok (.ireturn, 1) := by decide +kernel
set_option maxRecDepth 20000 in
theorem ggX9_readSample_X9_isBare : GoodIn wsX9_readSample wsX9_isBare := goodIn_r _ [9, 10, 11, 12, 8, 13, 1, 44, 45, 46, 47, 48, 49, 50, 51, 52, 53, 54, 55] (by decide +kernel) (by decide +kernel)
set_option maxRecDepth 20000 in
theorem gX9_readSample_X9_isBare : GoodIn wsX9_readSample (wsV RX9 50 RX9 yX9_isBare wsX9_isBare) := goodIn_app (goodIn_of _ (by decide +kernel)) ggX9_readSample_X9_isBare
set_option maxRecDepth 20000 in
theorem ggX9_readSample_X9_number : GoodIn wsX9_readSample wsX9_number := goodIn_r _ [17, 2, 18, 1, 19, 20, 21, 8, 22, 23, 44, 45, 46, 47, 48, 49, 50, 51, 52, 53, 54, 55] (by decide +kernel) (by decide +kernel)
set_option maxRecDepth 20000 in
theorem gX9_readSample_X9_number : GoodIn wsX9_readSample (wsV RX9 121 RX9 yX9_number wsX9_number) := goodIn_app (goodIn_of _ (by decide +kernel)) ggX9_readSample_X9_number
set_option maxRecDepth 20000 in
theorem ggX9_readSample_X9_readFold : GoodIn wsX9_readSample wsX9_readFold := goodIn_r _ [27, 1, 18, 2, 14, 15, 16, 8, 17, 19, 20, 21, 22, 23, 28, 29, 30, 31, 44, 45, 46, 47, 48, 49, 50, 51, 52, 53, 54, 55] (by decide +kernel) (by decide +kernel)
set_option maxRecDepth 20000 in
theorem gX9_readSample_X9_readFold : GoodIn wsX9_readSample (wsV RX9 124 RX9 yX9_readFold wsX9_readFold) := goodIn_app (goodIn_of _ (by decide +kernel)) ggX9_readSample_X9_readFold
set_option maxRecDepth 20000 in
theorem ggX9_readSample_X9_expected : GoodIn wsX9_readSample wsX9_expected := goodIn_r _ [35, 3, 5, 6, 7, 8, 9, 10, 11, 12, 13, 1, 28, 29, 30, 31, 44, 45, 46, 47, 48, 49, 50, 51, 52, 53, 54, 55] (by decide +kernel) (by decide +kernel)
set_option maxRecDepth 20000 in
theorem gX9_readSample_X9_expected : GoodIn wsX9_readSample (wsV RX9 60 RX9 yX9_expected wsX9_expected) := goodIn_app (goodIn_of _ (by decide +kernel)) ggX9_readSample_X9_expected
set_option maxRecDepth 20000 in
theorem ggX9_readSample_X9_unfold : GoodIn wsX9_readSample wsX9_unfold := goodIn_r _ [39, 40, 41, 42, 8, 43, 28, 29, 30, 31, 1, 44, 45, 46, 47, 48, 49, 50, 51, 52, 53, 54, 55] (by decide +kernel) (by decide +kernel)
set_option maxRecDepth 20000 in
theorem gX9_readSample_X9_unfold : GoodIn wsX9_readSample (wsV RX9 127 RX9 yX9_unfold wsX9_unfold) := goodIn_app (goodIn_of _ (by decide +kernel)) ggX9_readSample_X9_unfold
theorem dX9_readSample_0 : decode cX9_readSample 0 = .ok (.aload_n 0, 1) := by decide +kernel
theorem dX9_readSample_1 : decode cX9_readSample 1 = .ok (.iload_n 1, 1) := by decide +kernel
theorem dX9_readSample_2 : decode cX9_readSample 2 = .ok (.invokevirtual 50, 3) := by decide +kernel
theorem dX9_readSample_5 : decode cX9_readSample 5 = .ok (.ifCond .eq 20, 3) := by decide +kernel
theorem dX9_readSample_8 : decode cX9_readSample 8 = .ok (.aload_n 0, 1) := by decide +kernel
theorem dX9_readSample_9 : decode cX9_readSample 9 = .ok (.aload_n 0, 1) := by decide +kernel
theorem dX9_readSample_10 : decode cX9_readSample 10 = .ok (.getfield 7, 3) := by decide +kernel
theorem dX9_readSample_13 : decode cX9_readSample 13 = .ok (.sipush 1066, 3) := by decide +kernel
theorem dX9_readSample_16 : decode cX9_readSample 16 = .ok (.iaload, 1) := by decide +kernel
theorem dX9_readSample_17 : decode cX9_readSample 17 = .ok (.invokevirtual 121, 3) := by decide +kernel
theorem dX9_readSample_20 : decode cX9_readSample 20 = .ok (.istore 4, 2) := by decide +kernel
theorem dX9_readSample_22 : decode cX9_readSample 22 = .ok (.goto 20, 3) := by decide +kernel
theorem dX9_readSample_25 : decode cX9_readSample 25 = .ok (.aload_n 0, 1) := by decide +kernel
theorem dX9_readSample_26 : decode cX9_readSample 26 = .ok (.aload_n 0, 1) := by decide +kernel
theorem dX9_readSample_27 : decode cX9_readSample 27 = .ok (.iload_n 3, 1) := by decide +kernel
theorem dX9_readSample_28 : decode cX9_readSample 28 = .ok (.invokevirtual 124, 3) := by decide +kernel
theorem dX9_readSample_31 : decode cX9_readSample 31 = .ok (.aload_n 0, 1) := by decide +kernel
theorem dX9_readSample_32 : decode cX9_readSample 32 = .ok (.iload_n 1, 1) := by decide +kernel
theorem dX9_readSample_33 : decode cX9_readSample 33 = .ok (.iload_n 2, 1) := by decide +kernel
theorem dX9_readSample_34 : decode cX9_readSample 34 = .ok (.invokevirtual 60, 3) := by decide +kernel
theorem dX9_readSample_37 : decode cX9_readSample 37 = .ok (.invokevirtual 127, 3) := by decide +kernel
theorem dX9_readSample_40 : decode cX9_readSample 40 = .ok (.istore 4, 2) := by decide +kernel
theorem dX9_readSample_42 : decode cX9_readSample 42 = .ok (.aload_n 0, 1) := by decide +kernel
theorem dX9_readSample_43 : decode cX9_readSample 43 = .ok (.getfield 109, 3) := by decide +kernel
theorem dX9_readSample_46 : decode cX9_readSample 46 = .ok (.ifCond .ne 21, 3) := by decide +kernel
theorem dX9_readSample_49 : decode cX9_readSample 49 = .ok (.aload_n 0, 1) := by decide +kernel
theorem dX9_readSample_50 : decode cX9_readSample 50 = .ok (.getfield 20, 3) := by decide +kernel
theorem dX9_readSample_53 : decode cX9_readSample 53 = .ok (.iload_n 1, 1) := by decide +kernel
theorem dX9_readSample_54 : decode cX9_readSample 54 = .ok (.iload 4, 2) := by decide +kernel
theorem dX9_readSample_56 : decode cX9_readSample 56 = .ok (.iastore, 1) := by decide +kernel
theorem dX9_readSample_57 : decode cX9_readSample 57 = .ok (.aload_n 0, 1) := by decide +kernel
theorem dX9_readSample_58 : decode cX9_readSample 58 = .ok (.dup, 1) := by decide +kernel
theorem dX9_readSample_59 : decode cX9_readSample 59 = .ok (.getfield 130, 3) := by decide +kernel
theorem dX9_readSample_62 : decode cX9_readSample 62 = .ok (.iconst 1, 1) := by decide +kernel
theorem dX9_readSample_63 : decode cX9_readSample 63 = .ok (.iadd, 1) := by decide +kernel
theorem dX9_readSample_64 : decode cX9_readSample 64 = .ok (.putfield 130, 3) := by decide +kernel
theorem dX9_readSample_67 : decode cX9_readSample 67 = .ok (.return_, 1) := by decide +kernel
set_option maxRecDepth 20000 in
theorem ggX9_readBlock_X9_number : GoodIn wsX9_readBlock wsX9_number := goodIn_r _ [7, 2, 1, 8, 9, 10, 11, 6, 12, 13, 55, 56, 57, 58, 59, 60, 61, 62, 63, 64, 65, 66] (by decide +kernel) (by decide +kernel)
set_option maxRecDepth 20000 in
theorem gX9_readBlock_X9_number : GoodIn wsX9_readBlock (wsV RX9 121 RX9 yX9_number wsX9_number) := goodIn_app (goodIn_of _ (by decide +kernel)) ggX9_readBlock_X9_number
set_option maxRecDepth 20000 in
theorem ggX9_readBlock_X9_canCode : GoodIn wsX9_readBlock wsX9_canCode := goodIn_r _ [17, 8, 18, 19, 6, 20, 55, 56, 57, 58, 59, 60, 61, 62, 63, 64, 65, 66] (by decide +kernel) (by decide +kernel)
set_option maxRecDepth 20000 in
theorem gX9_readBlock_X9_canCode : GoodIn wsX9_readBlock (wsV RX9 73 RX9 yX9_canCode wsX9_canCode) := goodIn_app (goodIn_of _ (by decide +kernel)) ggX9_readBlock_X9_canCode
set_option maxRecDepth 20000 in
theorem ggX9_readBlock_X9_fail : GoodIn wsX9_readBlock wsX9_fail := goodIn_r _ [12, 2, 13, 55, 56, 57, 58, 59, 60, 61, 62, 63, 64, 65, 66] (by decide +kernel) (by decide +kernel)
set_option maxRecDepth 20000 in
theorem gX9_readBlock_X9_fail : GoodIn wsX9_readBlock (wsV RX9 118 RX9 yX9_fail wsX9_fail) := goodIn_app (goodIn_of _ (by decide +kernel)) ggX9_readBlock_X9_fail
set_option maxRecDepth 20000 in
theorem ggX9_readBlock_X9_readSample : GoodIn wsX9_readBlock wsX9_readSample := goodIn_r _ [24, 8, 2, 25, 26, 27, 28, 29, 6, 30, 31, 32, 33, 34, 3, 4, 5, 7, 1, 9, 10, 11, 12, 13, 35, 36, 37, 38, 39, 40, 41, 42, 43, 44, 45, 46, 47, 48, 49, 50, 51, 52, 53, 54, 55, 56, 57, 58, 59, 60, 61, 62, 63, 64, 65, 66] (by decide +kernel) (by decide +kernel)
set_option maxRecDepth 20000 in
theorem gX9_readBlock_X9_readSample : GoodIn wsX9_readBlock (wsV RX9 133 RX9 yX9_readSample wsX9_readSample) := goodIn_app (goodIn_of _ (by decide +kernel)) ggX9_readBlock_X9_readSample
theorem dX9_readBlock_0 : decode cX9_readBlock 0 = .ok (.aload_n 0, 1) := by decide +kernel
theorem dX9_readBlock_1 : decode cX9_readBlock 1 = .ok (.getfield 115, 3) := by decide +kernel
theorem dX9_readBlock_4 : decode cX9_readBlock 4 = .ok (.istore_n 3, 1) := by decide +kernel
theorem dX9_readBlock_5 : decode cX9_readBlock 5 = .ok (.aload_n 0, 1) := by decide +kernel
theorem dX9_readBlock_6 : decode cX9_readBlock 6 = .ok (.iconst 2, 1) := by decide +kernel
theorem dX9_readBlock_7 : decode cX9_readBlock 7 = .ok (.invokevirtual 121, 3) := by decide +kernel
theorem dX9_readBlock_10 : decode cX9_readBlock 10 = .ok (.istore 4, 2) := by decide +kernel
theorem dX9_readBlock_12 : decode cX9_readBlock 12 = .ok (.aload_n 0, 1) := by decide +kernel
theorem dX9_readBlock_13 : decode cX9_readBlock 13 = .ok (.iconst 4, 1) := by decide +kernel
theorem dX9_readBlock_14 : decode cX9_readBlock 14 = .ok (.invokevirtual 121, 3) := by decide +kernel
theorem dX9_readBlock_17 : decode cX9_readBlock 17 = .ok (.istore 5, 2) := by decide +kernel
theorem dX9_readBlock_19 : decode cX9_readBlock 19 = .ok (.aload_n 0, 1) := by decide +kernel
theorem dX9_readBlock_20 : decode cX9_readBlock 20 = .ok (.getfield 109, 3) := by decide +kernel
theorem dX9_readBlock_23 : decode cX9_readBlock 23 = .ok (.ifCond .ne 18, 3) := by decide +kernel
theorem dX9_readBlock_26 : decode cX9_readBlock 26 = .ok (.aload_n 0, 1) := by decide +kernel
theorem dX9_readBlock_27 : decode cX9_readBlock 27 = .ok (.iload 5, 2) := by decide +kernel
theorem dX9_readBlock_29 : decode cX9_readBlock 29 = .ok (.invokevirtual 73, 3) := by decide +kernel
theorem dX9_readBlock_32 : decode cX9_readBlock 32 = .ok (.ifCond .ne 9, 3) := by decide +kernel
theorem dX9_readBlock_35 : decode cX9_readBlock 35 = .ok (.aload_n 0, 1) := by decide +kernel
theorem dX9_readBlock_36 : decode cX9_readBlock 36 = .ok (.iconst 2, 1) := by decide +kernel
theorem dX9_readBlock_37 : decode cX9_readBlock 37 = .ok (.iload_n 3, 1) := by decide +kernel
theorem dX9_readBlock_38 : decode cX9_readBlock 38 = .ok (.invokevirtual 118, 3) := by decide +kernel
theorem dX9_readBlock_41 : decode cX9_readBlock 41 = .ok (.iload_n 1, 1) := by decide +kernel
theorem dX9_readBlock_42 : decode cX9_readBlock 42 = .ok (.istore 6, 2) := by decide +kernel
theorem dX9_readBlock_44 : decode cX9_readBlock 44 = .ok (.iload 6, 2) := by decide +kernel
theorem dX9_readBlock_46 : decode cX9_readBlock 46 = .ok (.iload_n 2, 1) := by decide +kernel
theorem dX9_readBlock_47 : decode cX9_readBlock 47 = .ok (.if_icmp .ge 26, 3) := by decide +kernel
theorem dX9_readBlock_50 : decode cX9_readBlock 50 = .ok (.aload_n 0, 1) := by decide +kernel
theorem dX9_readBlock_51 : decode cX9_readBlock 51 = .ok (.getfield 109, 3) := by decide +kernel
theorem dX9_readBlock_54 : decode cX9_readBlock 54 = .ok (.ifCond .ne 19, 3) := by decide +kernel
theorem dX9_readBlock_57 : decode cX9_readBlock 57 = .ok (.aload_n 0, 1) := by decide +kernel
theorem dX9_readBlock_58 : decode cX9_readBlock 58 = .ok (.iload 6, 2) := by decide +kernel
theorem dX9_readBlock_60 : decode cX9_readBlock 60 = .ok (.iload 4, 2) := by decide +kernel
theorem dX9_readBlock_62 : decode cX9_readBlock 62 = .ok (.iload 5, 2) := by decide +kernel
theorem dX9_readBlock_64 : decode cX9_readBlock 64 = .ok (.invokevirtual 133, 3) := by decide +kernel
theorem dX9_readBlock_67 : decode cX9_readBlock 67 = .ok (.iinc 6 1, 3) := by decide +kernel
theorem dX9_readBlock_70 : decode cX9_readBlock 70 = .ok (.goto (-26), 3) := by decide +kernel
theorem dX9_readBlock_73 : decode cX9_readBlock 73 = .ok (.return_, 1) := by decide +kernel
set_option maxRecDepth 20000 in
theorem ggX9_read_X9_in : GoodIn wsX9_read wsX9_in := goodIn_r _ [10] (by decide +kernel) (by decide +kernel)
set_option maxRecDepth 20000 in
theorem gX9_read_X9_in : GoodIn wsX9_read (va_wsS RX9 36 yX9_in wsX9_in) := goodIn_app (goodIn_of _ (by decide +kernel)) ggX9_read_X9_in
set_option maxRecDepth 20000 in
theorem ggX9_read_X9_less : GoodIn wsX9_read wsX9_less := goodIn_r _ [13] (by decide +kernel) (by decide +kernel)
set_option maxRecDepth 20000 in
theorem gX9_read_X9_less : GoodIn wsX9_read (va_wsS RX9 70 yX9_less wsX9_less) := goodIn_app (goodIn_of _ (by decide +kernel)) ggX9_read_X9_less
set_option maxRecDepth 20000 in
theorem ggX9_read_X9_readBlock : GoodIn wsX9_read wsX9_readBlock := goodIn_r _ [17, 1, 2, 18, 19, 20, 9, 21, 4, 22, 23, 24, 25, 5, 26, 27, 28, 29, 7, 8, 10, 30, 31, 32, 33, 6, 3, 34, 35, 36, 37, 38, 39, 40, 41, 42, 43, 44, 45, 46, 47, 48, 49, 50, 51, 52, 53, 54, 55, 56, 57, 58, 59, 60, 61, 62, 63, 64, 65, 66, 67, 68, 69, 70, 71, 72, 73] (by decide +kernel) (by decide +kernel)
set_option maxRecDepth 20000 in
theorem gX9_read_X9_readBlock : GoodIn wsX9_read (wsV RX9 137 RX9 yX9_readBlock wsX9_readBlock) := goodIn_app (goodIn_of _ (by decide +kernel)) ggX9_read_X9_readBlock
set_option maxRecDepth 20000 in
theorem ggX9_read_X9_fail : GoodIn wsX9_read wsX9_fail := goodIn_r _ [25, 2, 5, 62, 63, 64, 65, 66, 67, 68, 69, 70, 71, 72, 73] (by decide +kernel) (by decide +kernel)
set_option maxRecDepth 20000 in
theorem gX9_read_X9_fail : GoodIn wsX9_read (wsV RX9 118 RX9 yX9_fail wsX9_fail) := goodIn_app (goodIn_of _ (by decide +kernel)) ggX9_read_X9_fail
theorem dX9_read_0 : decode cX9_read 0 = .ok (.iload_n 1, 1) := by decide +kernel
theorem dX9_read_1 : decode cX9_read 1 = .ok (.iconst 0, 1) := by decide +kernel
theorem dX9_read_2 : decode cX9_read 2 = .ok (.bipush 64, 2) := by decide +kernel
theorem dX9_read_4 : decode cX9_read 4 = .ok (.invokestatic 36, 3) := by decide +kernel
theorem dX9_read_7 : decode cX9_read 7 = .ok (.ifCond .ne 6, 3) := by decide +kernel
theorem dX9_read_10 : decode cX9_read 10 = .ok (.bipush (-2), 2) := by decide +kernel
theorem dX9_read_12 : decode cX9_read 12 = .ok (.ireturn, 1) := by decide +kernel
theorem dX9_read_13 : decode cX9_read 13 = .ok (.aload_n 0, 1) := by decide +kernel
theorem dX9_read_14 : decode cX9_read 14 = .ok (.iconst 0, 1) := by decide +kernel
theorem dX9_read_15 : decode cX9_read 15 = .ok (.putfield 115, 3) := by decide +kernel
theorem dX9_read_18 : decode cX9_read 18 = .ok (.aload_n 0, 1) := by decide +kernel
theorem dX9_read_19 : decode cX9_read 19 = .ok (.iconst 0, 1) := by decide +kernel
theorem dX9_read_20 : decode cX9_read 20 = .ok (.putfield 109, 3) := by decide +kernel
theorem dX9_read_23 : decode cX9_read 23 = .ok (.aload_n 0, 1) := by decide +kernel
theorem dX9_read_24 : decode cX9_read 24 = .ok (.iconst 0, 1) := by decide +kernel
theorem dX9_read_25 : decode cX9_read 25 = .ok (.putfield 130, 3) := by decide +kernel
theorem dX9_read_28 : decode cX9_read 28 = .ok (.iconst 0, 1) := by decide +kernel
theorem dX9_read_29 : decode cX9_read 29 = .ok (.istore_n 2, 1) := by decide +kernel
theorem dX9_read_30 : decode cX9_read 30 = .ok (.iload_n 2, 1) := by decide +kernel
theorem dX9_read_31 : decode cX9_read 31 = .ok (.iload_n 1, 1) := by decide +kernel
theorem dX9_read_32 : decode cX9_read 32 = .ok (.if_icmp .ge 43, 3) := by decide +kernel
theorem dX9_read_35 : decode cX9_read 35 = .ok (.aload_n 0, 1) := by decide +kernel
theorem dX9_read_36 : decode cX9_read 36 = .ok (.getfield 109, 3) := by decide +kernel
theorem dX9_read_39 : decode cX9_read 39 = .ok (.ifCond .ne 36, 3) := by decide +kernel
theorem dX9_read_42 : decode cX9_read 42 = .ok (.aload_n 0, 1) := by decide +kernel
theorem dX9_read_43 : decode cX9_read 43 = .ok (.iload_n 2, 1) := by decide +kernel
theorem dX9_read_44 : decode cX9_read 44 = .ok (.iload_n 2, 1) := by decide +kernel
theorem dX9_read_45 : decode cX9_read 45 = .ok (.aload_n 0, 1) := by decide +kernel
theorem dX9_read_46 : decode cX9_read 46 = .ok (.getfield 7, 3) := by decide +kernel
theorem dX9_read_49 : decode cX9_read 49 = .ok (.sipush 1067, 3) := by decide +kernel
theorem dX9_read_52 : decode cX9_read 52 = .ok (.iaload, 1) := by decide +kernel
theorem dX9_read_53 : decode cX9_read 53 = .ok (.iadd, 1) := by decide +kernel
theorem dX9_read_54 : decode cX9_read 54 = .ok (.iload_n 1, 1) := by decide +kernel
theorem dX9_read_55 : decode cX9_read 55 = .ok (.invokestatic 70, 3) := by decide +kernel
theorem dX9_read_58 : decode cX9_read 58 = .ok (.invokevirtual 137, 3) := by decide +kernel
theorem dX9_read_61 : decode cX9_read 61 = .ok (.iload_n 2, 1) := by decide +kernel
theorem dX9_read_62 : decode cX9_read 62 = .ok (.aload_n 0, 1) := by decide +kernel
theorem dX9_read_63 : decode cX9_read 63 = .ok (.getfield 7, 3) := by decide +kernel
theorem dX9_read_66 : decode cX9_read 66 = .ok (.sipush 1067, 3) := by decide +kernel
theorem dX9_read_69 : decode cX9_read 69 = .ok (.iaload, 1) := by decide +kernel
theorem dX9_read_70 : decode cX9_read 70 = .ok (.iadd, 1) := by decide +kernel
theorem dX9_read_71 : decode cX9_read 71 = .ok (.istore_n 2, 1) := by decide +kernel
theorem dX9_read_72 : decode cX9_read 72 = .ok (.goto (-42), 3) := by decide +kernel
theorem dX9_read_75 : decode cX9_read 75 = .ok (.aload_n 0, 1) := by decide +kernel
theorem dX9_read_76 : decode cX9_read 76 = .ok (.getfield 109, 3) := by decide +kernel
theorem dX9_read_79 : decode cX9_read 79 = .ok (.ifCond .ne 27, 3) := by decide +kernel
theorem dX9_read_82 : decode cX9_read 82 = .ok (.aload_n 0, 1) := by decide +kernel
theorem dX9_read_83 : decode cX9_read 83 = .ok (.getfield 115, 3) := by decide +kernel
theorem dX9_read_86 : decode cX9_read 86 = .ok (.aload_n 0, 1) := by decide +kernel
theorem dX9_read_87 : decode cX9_read 87 = .ok (.getfield 7, 3) := by decide +kernel
theorem dX9_read_90 : decode cX9_read 90 = .ok (.sipush 1065, 3) := by decide +kernel
theorem dX9_read_93 : decode cX9_read 93 = .ok (.iaload, 1) := by decide +kernel
theorem dX9_read_94 : decode cX9_read 94 = .ok (.if_icmp .ge 12, 3) := by decide +kernel
theorem dX9_read_97 : decode cX9_read 97 = .ok (.aload_n 0, 1) := by decide +kernel
theorem dX9_read_98 : decode cX9_read 98 = .ok (.iconst 4, 1) := by decide +kernel
theorem dX9_read_99 : decode cX9_read 99 = .ok (.aload_n 0, 1) := by decide +kernel
theorem dX9_read_100 : decode cX9_read 100 = .ok (.getfield 115, 3) := by decide +kernel
theorem dX9_read_103 : decode cX9_read 103 = .ok (.invokevirtual 118, 3) := by decide +kernel
theorem dX9_read_106 : decode cX9_read 106 = .ok (.aload_n 0, 1) := by decide +kernel
theorem dX9_read_107 : decode cX9_read 107 = .ok (.getfield 7, 3) := by decide +kernel
theorem dX9_read_110 : decode cX9_read 110 = .ok (.sipush 1069, 3) := by decide +kernel
theorem dX9_read_113 : decode cX9_read 113 = .ok (.aload_n 0, 1) := by decide +kernel
theorem dX9_read_114 : decode cX9_read 114 = .ok (.getfield 109, 3) := by decide +kernel
theorem dX9_read_117 : decode cX9_read 117 = .ok (.iastore, 1) := by decide +kernel
theorem dX9_read_118 : decode cX9_read 118 = .ok (.aload_n 0, 1) := by decide +kernel
theorem dX9_read_119 : decode cX9_read 119 = .ok (.getfield 7, 3) := by decide +kernel
theorem dX9_read_122 : decode cX9_read 122 = .ok (.sipush 1070, 3) := by decide +kernel
theorem dX9_read_125 : decode cX9_read 125 = .ok (.aload_n 0, 1) := by decide +kernel
theorem dX9_read_126 : decode cX9_read 126 = .ok (.getfield 109, 3) := by decide +kernel
theorem dX9_read_129 : decode cX9_read 129 = .ok (.ifCond .ne 8, 3) := by decide +kernel
theorem dX9_read_132 : decode cX9_read 132 = .ok (.bipush (-6), 2) := by decide +kernel
theorem dX9_read_134 : decode cX9_read 134 = .ok (.goto 7, 3) := by decide +kernel
theorem dX9_read_137 : decode cX9_read 137 = .ok (.aload_n 0, 1) := by decide +kernel
theorem dX9_read_138 : decode cX9_read 138 = .ok (.getfield 112, 3) := by decide +kernel
theorem dX9_read_141 : decode cX9_read 141 = .ok (.iastore, 1) := by decide +kernel
theorem dX9_read_142 : decode cX9_read 142 = .ok (.aload_n 0, 1) := by decide +kernel
theorem dX9_read_143 : decode cX9_read 143 = .ok (.getfield 7, 3) := by decide +kernel
theorem dX9_read_146 : decode cX9_read 146 = .ok (.sipush 1071, 3) := by decide +kernel
theorem dX9_read_149 : decode cX9_read 149 = .ok (.aload_n 0, 1) := by decide +kernel
theorem dX9_read_150 : decode cX9_read 150 = .ok (.getfield 109, 3) := by decide +kernel
theorem dX9_read_153 : decode cX9_read 153 = .ok (.ifCond .ne 8, 3) := by decide +kernel
theorem dX9_read_156 : decode cX9_read 156 = .ok (.bipush (-6), 2) := by decide +kernel
theorem dX9_read_158 : decode cX9_read 158 = .ok (.goto 7, 3) := by decide +kernel
theorem dX9_read_161 : decode cX9_read 161 = .ok (.aload_n 0, 1) := by decide +kernel
theorem dX9_read_162 : decode cX9_read 162 = .ok (.getfield 130, 3) := by decide +kernel
theorem dX9_read_165 : decode cX9_read 165 = .ok (.iastore, 1) := by decide +kernel
theorem dX9_read_166 : decode cX9_read 166 = .ok (.aload_n 0, 1) := by decide +kernel
theorem dX9_read_167 : decode cX9_read 167 = .ok (.getfield 109, 3) := by decide +kernel
theorem dX9_read_170 : decode cX9_read 170 = .ok (.ifCond .le 6, 3) := by decide +kernel
theorem dX9_read_173 : decode cX9_read 173 = .ok (.bipush (-7), 2) := by decide +kernel
theorem dX9_read_175 : decode cX9_read 175 = .ok (.ireturn, 1) := by decide +kernel
theorem dX9_read_176 : decode cX9_read 176 = .ok (.iconst 0, 1) := by decide +kernel
theorem dX9_read_177 : decode cX9_read 177 = .ok (.istore_n 2, 1) := by decide +kernel
theorem dX9_read_178 : decode cX9_read 178 = .ok (.iload_n 2, 1) := by decide +kernel
theorem dX9_read_179 : decode cX9_read 179 = .ok (.iload_n 1, 1) := by decide +kernel
theorem dX9_read_180 : decode cX9_read 180 = .ok (.if_icmp .ge 21, 3) := by decide +kernel
theorem dX9_read_183 : decode cX9_read 183 = .ok (.aload_n 0, 1) := by decide +kernel
theorem dX9_read_184 : decode cX9_read 184 = .ok (.getfield 7, 3) := by decide +kernel
theorem dX9_read_187 : decode cX9_read 187 = .ok (.iload_n 2, 1) := by decide +kernel
theorem dX9_read_188 : decode cX9_read 188 = .ok (.aload_n 0, 1) := by decide +kernel
theorem dX9_read_189 : decode cX9_read 189 = .ok (.getfield 20, 3) := by decide +kernel
theorem dX9_read_192 : decode cX9_read 192 = .ok (.iload_n 2, 1) := by decide +kernel
theorem dX9_read_193 : decode cX9_read 193 = .ok (.iaload, 1) := by decide +kernel
theorem dX9_read_194 : decode cX9_read 194 = .ok (.iastore, 1) := by decide +kernel
theorem dX9_read_195 : decode cX9_read 195 = .ok (.iinc 2 1, 3) := by decide +kernel
theorem dX9_read_198 : decode cX9_read 198 = .ok (.goto (-20), 3) := by decide +kernel
theorem dX9_read_201 : decode cX9_read 201 = .ok (.aload_n 0, 1) := by decide +kernel
theorem dX9_read_202 : decode cX9_read 202 = .ok (.getfield 7, 3) := by decide +kernel
theorem dX9_read_205 : decode cX9_read 205 = .ok (.sipush 1064, 3) := by decide +kernel
theorem dX9_read_208 : decode cX9_read 208 = .ok (.iload_n 1, 1) := by decide +kernel
theorem dX9_read_209 : decode cX9_read 209 = .ok (.iastore, 1) := by decide +kernel
theorem dX9_read_210 : decode cX9_read 210 = .ok (.iload_n 1, 1) := by decide +kernel
theorem dX9_read_211 : decode cX9_read 211 = .ok (.ireturn, 1) := by decide +kernel
set_option maxRecDepth 20000 in
theorem ggX9_fault_X9_in : GoodIn wsX9_fault wsX9_in := goodIn_r _ [5] (by decide +kernel) (by decide +kernel)
set_option maxRecDepth 20000 in
theorem gX9_fault_X9_in : GoodIn wsX9_fault (va_wsS RX9 36 yX9_in wsX9_in) := goodIn_app (goodIn_of _ (by decide +kernel)) ggX9_fault_X9_in
theorem dX9_fault_0 : decode cX9_fault 0 = .ok (.iload_n 1, 1) := by decide +kernel
theorem dX9_fault_1 : decode cX9_fault 1 = .ok (.iconst 0, 1) := by decide +kernel
theorem dX9_fault_2 : decode cX9_fault 2 = .ok (.iconst 2, 1) := by decide +kernel
theorem dX9_fault_3 : decode cX9_fault 3 = .ok (.invokestatic 36, 3) := by decide +kernel
theorem dX9_fault_6 : decode cX9_fault 6 = .ok (.ifCond .eq 16, 3) := by decide +kernel
theorem dX9_fault_9 : decode cX9_fault 9 = .ok (.aload_n 0, 1) := by decide +kernel
theorem dX9_fault_10 : decode cX9_fault 10 = .ok (.getfield 7, 3) := by decide +kernel
theorem dX9_fault_13 : decode cX9_fault 13 = .ok (.sipush 1069, 3) := by decide +kernel
theorem dX9_fault_16 : decode cX9_fault 16 = .ok (.iload_n 1, 1) := by decide +kernel
theorem dX9_fault_17 : decode cX9_fault 17 = .ok (.iadd, 1) := by decide +kernel
theorem dX9_fault_18 : decode cX9_fault 18 = .ok (.iaload, 1) := by decide +kernel
theorem dX9_fault_19 : decode cX9_fault 19 = .ok (.goto 5, 3) := by decide +kernel
theorem dX9_fault_22 : decode cX9_fault 22 = .ok (.bipush (-2), 2) := by decide +kernel
theorem dX9_fault_24 : decode cX9_fault 24 = .ok (.ireturn, 1) := by decide +kernel
set_option maxRecDepth 20000 in
theorem ggX9_image_X9_in : GoodIn wsX9_image wsX9_in := goodIn_r _ [7] (by decide +kernel) (by decide +kernel)
set_option maxRecDepth 20000 in
theorem gX9_image_X9_in : GoodIn wsX9_image (va_wsS RX9 36 yX9_in wsX9_in) := goodIn_app (goodIn_of _ (by decide +kernel)) ggX9_image_X9_in
theorem dX9_image_0 : decode cX9_image 0 = .ok (.iload_n 1, 1) := by decide +kernel
theorem dX9_image_1 : decode cX9_image 1 = .ok (.iconst 0, 1) := by decide +kernel
theorem dX9_image_2 : decode cX9_image 2 = .ok (.iconst 1, 1) := by decide +kernel
theorem dX9_image_3 : decode cX9_image 3 = .ok (.invokestatic 36, 3) := by decide +kernel
theorem dX9_image_6 : decode cX9_image 6 = .ok (.ifCond .ne 6, 3) := by decide +kernel
theorem dX9_image_9 : decode cX9_image 9 = .ok (.bipush (-2), 2) := by decide +kernel
theorem dX9_image_11 : decode cX9_image 11 = .ok (.ireturn, 1) := by decide +kernel
theorem dX9_image_12 : decode cX9_image 12 = .ok (.iconst 0, 1) := by decide +kernel
theorem dX9_image_13 : decode cX9_image 13 = .ok (.istore_n 2, 1) := by decide +kernel
theorem dX9_image_14 : decode cX9_image 14 = .ok (.iload_n 2, 1) := by decide +kernel
theorem dX9_image_15 : decode cX9_image 15 = .ok (.sipush 1072, 3) := by decide +kernel
theorem dX9_image_18 : decode cX9_image 18 = .ok (.if_icmp .ge 27, 3) := by decide +kernel
theorem dX9_image_21 : decode cX9_image 21 = .ok (.aload_n 0, 1) := by decide +kernel
theorem dX9_image_22 : decode cX9_image 22 = .ok (.getfield 13, 3) := by decide +kernel
theorem dX9_image_25 : decode cX9_image 25 = .ok (.sipush 1072, 3) := by decide +kernel
theorem dX9_image_28 : decode cX9_image 28 = .ok (.iload_n 1, 1) := by decide +kernel
theorem dX9_image_29 : decode cX9_image 29 = .ok (.imul, 1) := by decide +kernel
theorem dX9_image_30 : decode cX9_image 30 = .ok (.iload_n 2, 1) := by decide +kernel
theorem dX9_image_31 : decode cX9_image 31 = .ok (.iadd, 1) := by decide +kernel
theorem dX9_image_32 : decode cX9_image 32 = .ok (.aload_n 0, 1) := by decide +kernel
theorem dX9_image_33 : decode cX9_image 33 = .ok (.getfield 7, 3) := by decide +kernel
theorem dX9_image_36 : decode cX9_image 36 = .ok (.iload_n 2, 1) := by decide +kernel
theorem dX9_image_37 : decode cX9_image 37 = .ok (.iaload, 1) := by decide +kernel
theorem dX9_image_38 : decode cX9_image 38 = .ok (.iastore, 1) := by decide +kernel
theorem dX9_image_39 : decode cX9_image 39 = .ok (.iinc 2 1, 3) := by decide +kernel
theorem dX9_image_42 : decode cX9_image 42 = .ok (.goto (-28), 3) := by decide +kernel
theorem dX9_image_45 : decode cX9_image 45 = .ok (.aload_n 0, 1) := by decide +kernel
theorem dX9_image_46 : decode cX9_image 46 = .ok (.getfield 16, 3) := by decide +kernel
theorem dX9_image_49 : decode cX9_image 49 = .ok (.iload_n 1, 1) := by decide +kernel
theorem dX9_image_50 : decode cX9_image 50 = .ok (.iconst 1, 1) := by decide +kernel
theorem dX9_image_51 : decode cX9_image 51 = .ok (.bastore, 1) := by decide +kernel
theorem dX9_image_52 : decode cX9_image 52 = .ok (.iconst 1, 1) := by decide +kernel
theorem dX9_image_53 : decode cX9_image 53 = .ok (.ireturn, 1) := by decide +kernel
set_option maxRecDepth 20000 in
theorem ggX9_restore_X9_in : GoodIn wsX9_restore wsX9_in := goodIn_r _ [7] (by decide +kernel) (by decide +kernel)
set_option maxRecDepth 20000 in
theorem gX9_restore_X9_in : GoodIn wsX9_restore (va_wsS RX9 36 yX9_in wsX9_in) := goodIn_app (goodIn_of _ (by decide +kernel)) ggX9_restore_X9_in
theorem dX9_restore_0 : decode cX9_restore 0 = .ok (.iload_n 1, 1) := by decide +kernel
theorem dX9_restore_1 : decode cX9_restore 1 = .ok (.iconst 0, 1) := by decide +kernel
theorem dX9_restore_2 : decode cX9_restore 2 = .ok (.iconst 1, 1) := by decide +kernel
theorem dX9_restore_3 : decode cX9_restore 3 = .ok (.invokestatic 36, 3) := by decide +kernel
theorem dX9_restore_6 : decode cX9_restore 6 = .ok (.ifCond .ne 6, 3) := by decide +kernel
theorem dX9_restore_9 : decode cX9_restore 9 = .ok (.bipush (-2), 2) := by decide +kernel
theorem dX9_restore_11 : decode cX9_restore 11 = .ok (.ireturn, 1) := by decide +kernel
theorem dX9_restore_12 : decode cX9_restore 12 = .ok (.aload_n 0, 1) := by decide +kernel
theorem dX9_restore_13 : decode cX9_restore 13 = .ok (.getfield 16, 3) := by decide +kernel
theorem dX9_restore_16 : decode cX9_restore 16 = .ok (.iload_n 1, 1) := by decide +kernel
theorem dX9_restore_17 : decode cX9_restore 17 = .ok (.baload, 1) := by decide +kernel
theorem dX9_restore_18 : decode cX9_restore 18 = .ok (.ifCond .ne 6, 3) := by decide +kernel
theorem dX9_restore_21 : decode cX9_restore 21 = .ok (.bipush (-3), 2) := by decide +kernel
theorem dX9_restore_23 : decode cX9_restore 23 = .ok (.ireturn, 1) := by decide +kernel
theorem dX9_restore_24 : decode cX9_restore 24 = .ok (.iconst 0, 1) := by decide +kernel
theorem dX9_restore_25 : decode cX9_restore 25 = .ok (.istore_n 2, 1) := by decide +kernel
theorem dX9_restore_26 : decode cX9_restore 26 = .ok (.iload_n 2, 1) := by decide +kernel
theorem dX9_restore_27 : decode cX9_restore 27 = .ok (.sipush 1072, 3) := by decide +kernel
theorem dX9_restore_30 : decode cX9_restore 30 = .ok (.if_icmp .ge 27, 3) := by decide +kernel
theorem dX9_restore_33 : decode cX9_restore 33 = .ok (.aload_n 0, 1) := by decide +kernel
theorem dX9_restore_34 : decode cX9_restore 34 = .ok (.getfield 7, 3) := by decide +kernel
theorem dX9_restore_37 : decode cX9_restore 37 = .ok (.iload_n 2, 1) := by decide +kernel
theorem dX9_restore_38 : decode cX9_restore 38 = .ok (.aload_n 0, 1) := by decide +kernel
theorem dX9_restore_39 : decode cX9_restore 39 = .ok (.getfield 13, 3) := by decide +kernel
theorem dX9_restore_42 : decode cX9_restore 42 = .ok (.sipush 1072, 3) := by decide +kernel
theorem dX9_restore_45 : decode cX9_restore 45 = .ok (.iload_n 1, 1) := by decide +kernel
theorem dX9_restore_46 : decode cX9_restore 46 = .ok (.imul, 1) := by decide +kernel
theorem dX9_restore_47 : decode cX9_restore 47 = .ok (.iload_n 2, 1) := by decide +kernel
theorem dX9_restore_48 : decode cX9_restore 48 = .ok (.iadd, 1) := by decide +kernel
theorem dX9_restore_49 : decode cX9_restore 49 = .ok (.iaload, 1) := by decide +kernel
theorem dX9_restore_50 : decode cX9_restore 50 = .ok (.iastore, 1) := by decide +kernel
theorem dX9_restore_51 : decode cX9_restore 51 = .ok (.iinc 2 1, 3) := by decide +kernel
theorem dX9_restore_54 : decode cX9_restore 54 = .ok (.goto (-28), 3) := by decide +kernel
theorem dX9_restore_57 : decode cX9_restore 57 = .ok (.iconst 1, 1) := by decide +kernel
theorem dX9_restore_58 : decode cX9_restore 58 = .ok (.ireturn, 1) := by decide +kernel
set_option maxRecDepth 20000 in
theorem ggX9_plainBlocks_X9_pack : GoodIn wsX9_plainBlocks wsX9_pack := goodIn_r _ [6, 7, 8, 1, 9, 10, 11, 12, 13, 5, 14, 15, 16, 17, 18, 19, 20, 21, 22, 23, 24, 25, 26, 27, 28, 29, 30, 31, 32, 33, 34, 35, 36, 37, 38, 39, 40, 41, 42, 43, 44, 45, 46, 47, 48, 49, 50, 51, 52, 53, 54, 55, 56, 57, 58, 59, 60, 61, 62, 63, 64, 65, 66, 67, 68, 69, 70, 71, 72, 73, 74, 75, 76, 77, 78, 79, 80, 81, 82, 83, 84, 85, 86, 87, 88, 89, 90, 91, 92, 93, 94, 95, 96, 97] (by decide +kernel) (by decide +kernel)
set_option maxRecDepth 20000 in
theorem gX9_plainBlocks_X9_pack : GoodIn wsX9_plainBlocks (wsV RX9 106 RX9 yX9_pack wsX9_pack) := goodIn_app (goodIn_of _ (by decide +kernel)) ggX9_plainBlocks_X9_pack
set_option maxRecDepth 20000 in
theorem ggX9_plainBlocks_X9_blocks : GoodIn wsX9_plainBlocks wsX9_blocks := goodIn_r _ [22, 10, 15, 16, 17, 5, 18, 86, 87, 88, 89, 90, 91, 92, 93, 94, 95, 96, 97] (by decide +kernel) (by decide +kernel)
set_option maxRecDepth 20000 in
theorem gX9_plainBlocks_X9_blocks : GoodIn wsX9_plainBlocks (wsV RX9 82 RX9 yX9_blocks wsX9_blocks) := goodIn_app (goodIn_of _ (by decide +kernel)) ggX9_plainBlocks_X9_blocks
theorem dX9_plainBlocks_0 : decode cX9_plainBlocks 0 = .ok (.aload_n 0, 1) := by decide +kernel
theorem dX9_plainBlocks_1 : decode cX9_plainBlocks 1 = .ok (.invokevirtual 106, 3) := by decide +kernel
theorem dX9_plainBlocks_4 : decode cX9_plainBlocks 4 = .ok (.iconst 0, 1) := by decide +kernel
theorem dX9_plainBlocks_5 : decode cX9_plainBlocks 5 = .ok (.istore_n 1, 1) := by decide +kernel
theorem dX9_plainBlocks_6 : decode cX9_plainBlocks 6 = .ok (.iconst 0, 1) := by decide +kernel
theorem dX9_plainBlocks_7 : decode cX9_plainBlocks 7 = .ok (.istore_n 2, 1) := by decide +kernel
theorem dX9_plainBlocks_8 : decode cX9_plainBlocks 8 = .ok (.iload_n 2, 1) := by decide +kernel
theorem dX9_plainBlocks_9 : decode cX9_plainBlocks 9 = .ok (.aload_n 0, 1) := by decide +kernel
theorem dX9_plainBlocks_10 : decode cX9_plainBlocks 10 = .ok (.invokevirtual 82, 3) := by decide +kernel
theorem dX9_plainBlocks_13 : decode cX9_plainBlocks 13 = .ok (.if_icmp .ge 29, 3) := by decide +kernel
theorem dX9_plainBlocks_16 : decode cX9_plainBlocks 16 = .ok (.iload_n 1, 1) := by decide +kernel
theorem dX9_plainBlocks_17 : decode cX9_plainBlocks 17 = .ok (.aload_n 0, 1) := by decide +kernel
theorem dX9_plainBlocks_18 : decode cX9_plainBlocks 18 = .ok (.getfield 29, 3) := by decide +kernel
theorem dX9_plainBlocks_21 : decode cX9_plainBlocks 21 = .ok (.iload_n 2, 1) := by decide +kernel
theorem dX9_plainBlocks_22 : decode cX9_plainBlocks 22 = .ok (.iaload, 1) := by decide +kernel
theorem dX9_plainBlocks_23 : decode cX9_plainBlocks 23 = .ok (.bipush 16, 2) := by decide +kernel
theorem dX9_plainBlocks_25 : decode cX9_plainBlocks 25 = .ok (.irem, 1) := by decide +kernel
theorem dX9_plainBlocks_26 : decode cX9_plainBlocks 26 = .ok (.ifCond .ne 7, 3) := by decide +kernel
theorem dX9_plainBlocks_29 : decode cX9_plainBlocks 29 = .ok (.iconst 1, 1) := by decide +kernel
theorem dX9_plainBlocks_30 : decode cX9_plainBlocks 30 = .ok (.goto 4, 3) := by decide +kernel
theorem dX9_plainBlocks_33 : decode cX9_plainBlocks 33 = .ok (.iconst 0, 1) := by decide +kernel
theorem dX9_plainBlocks_34 : decode cX9_plainBlocks 34 = .ok (.iadd, 1) := by decide +kernel
theorem dX9_plainBlocks_35 : decode cX9_plainBlocks 35 = .ok (.istore_n 1, 1) := by decide +kernel
theorem dX9_plainBlocks_36 : decode cX9_plainBlocks 36 = .ok (.iinc 2 1, 3) := by decide +kernel
theorem dX9_plainBlocks_39 : decode cX9_plainBlocks 39 = .ok (.goto (-31), 3) := by decide +kernel
theorem dX9_plainBlocks_42 : decode cX9_plainBlocks 42 = .ok (.iload_n 1, 1) := by decide +kernel
theorem dX9_plainBlocks_43 : decode cX9_plainBlocks 43 = .ok (.ireturn, 1) := by decide +kernel
set_option maxRecDepth 20000 in
theorem ggX9_count_X9_many : GoodIn wsX9_count wsX9_many := goodIn_r _ [7, 1, 95, 96, 97, 98, 99, 100, 101, 102, 103, 104, 105, 106] (by decide +kernel) (by decide +kernel)
set_option maxRecDepth 20000 in
theorem gX9_count_X9_many : GoodIn wsX9_count (wsV RX9 32 RX9 yX9_many wsX9_many) := goodIn_app (goodIn_of _ (by decide +kernel)) ggX9_count_X9_many
set_option maxRecDepth 20000 in
theorem ggX9_count_X9_blocks : GoodIn wsX9_count wsX9_blocks := goodIn_r _ [11, 1, 3, 4, 5, 6, 7, 95, 96, 97, 98, 99, 100, 101, 102, 103, 104, 105, 106] (by decide +kernel) (by decide +kernel)
set_option maxRecDepth 20000 in
theorem gX9_count_X9_blocks : GoodIn wsX9_count (wsV RX9 82 RX9 yX9_blocks wsX9_blocks) := goodIn_app (goodIn_of _ (by decide +kernel)) ggX9_count_X9_blocks
set_option maxRecDepth 20000 in
theorem ggX9_count_X9_segmentLong : GoodIn wsX9_count wsX9_segmentLong := goodIn_r _ [15, 1, 95, 96, 97, 98, 99, 100, 101, 102, 103, 104, 105, 106] (by decide +kernel) (by decide +kernel)
set_option maxRecDepth 20000 in
theorem gX9_count_X9_segmentLong : GoodIn wsX9_count (wsV RX9 47 RX9 yX9_segmentLong wsX9_segmentLong) := goodIn_app (goodIn_of _ (by decide +kernel)) ggX9_count_X9_segmentLong
set_option maxRecDepth 20000 in
theorem ggX9_count_X9_packed : GoodIn wsX9_count wsX9_packed := goodIn_r _ [19, 20, 21, 22, 23, 24, 6, 25, 26, 27, 28, 1, 29, 30, 31, 32, 3, 4, 5, 7, 8, 9, 10, 11, 33, 34, 35, 36, 37, 38, 39, 40, 41, 42, 43, 44, 45, 46, 47, 48, 49, 50, 51, 52, 53, 54, 55, 56, 57, 58, 59, 60, 61, 62, 12, 13, 14, 15, 63, 64, 65, 66, 67, 68, 69, 70, 71, 72, 73, 74, 75, 76, 77, 78, 79, 80, 81, 82, 83, 84, 85, 86, 87, 88, 89, 90, 95, 96, 97, 98, 99, 100, 101, 102, 103, 104, 105, 106] (by decide +kernel) (by decide +kernel)
set_option maxRecDepth 20000 in
theorem gX9_count_X9_packed : GoodIn wsX9_count (wsV RX9 140 RX9 yX9_packed wsX9_packed) := goodIn_app (goodIn_of _ (by decide +kernel)) ggX9_count_X9_packed
set_option maxRecDepth 20000 in
theorem ggX9_count_X9_plainBlocks : GoodIn wsX9_count wsX9_plainBlocks := goodIn_r _ [94, 27, 22, 23, 24, 6, 25, 20, 26, 28, 1, 29, 30, 31, 32, 3, 4, 5, 7, 8, 9, 10, 11, 33, 34, 35, 36, 37, 38, 39, 40, 41, 42, 43, 44, 45, 46, 47, 48, 49, 50, 51, 52, 53, 54, 55, 56, 57, 58, 59, 60, 61, 62, 12, 13, 14, 15, 63, 64, 65, 66, 67, 68, 69, 70, 71, 72, 73, 74, 75, 76, 77, 78, 79, 80, 81, 82, 83, 84, 85, 86, 21, 87, 88, 89, 90, 95, 96, 97, 98, 99, 100, 101, 102, 103, 104, 105, 106] (by decide +kernel) (by decide +kernel)
set_option maxRecDepth 20000 in
theorem gX9_count_X9_plainBlocks : GoodIn wsX9_count (wsV RX9 143 RX9 yX9_plainBlocks wsX9_plainBlocks) := goodIn_app (goodIn_of _ (by decide +kernel)) ggX9_count_X9_plainBlocks
theorem dX9_count_0 : decode cX9_count 0 = .ok (.iload_n 1, 1) := by decide +kernel
theorem dX9_count_1 : decode cX9_count 1 = .ok (.tableswitch 145 0 9 #[55, 60, 65, 82, 88, 97, 97, 97, 110, 115], 55) := by decide +kernel
theorem dX9_count_56 : decode cX9_count 56 = .ok (.aload_n 0, 1) := by decide +kernel
theorem dX9_count_57 : decode cX9_count 57 = .ok (.invokevirtual 32, 3) := by decide +kernel
theorem dX9_count_60 : decode cX9_count 60 = .ok (.ireturn, 1) := by decide +kernel
theorem dX9_count_61 : decode cX9_count 61 = .ok (.aload_n 0, 1) := by decide +kernel
theorem dX9_count_62 : decode cX9_count 62 = .ok (.invokevirtual 82, 3) := by decide +kernel
theorem dX9_count_65 : decode cX9_count 65 = .ok (.ireturn, 1) := by decide +kernel
theorem dX9_count_66 : decode cX9_count 66 = .ok (.aload_n 0, 1) := by decide +kernel
theorem dX9_count_67 : decode cX9_count 67 = .ok (.invokevirtual 32, 3) := by decide +kernel
theorem dX9_count_70 : decode cX9_count 70 = .ok (.aload_n 0, 1) := by decide +kernel
theorem dX9_count_71 : decode cX9_count 71 = .ok (.invokevirtual 47, 3) := by decide +kernel
theorem dX9_count_74 : decode cX9_count 74 = .ok (.iadd, 1) := by decide +kernel
theorem dX9_count_75 : decode cX9_count 75 = .ok (.iconst 1, 1) := by decide +kernel
theorem dX9_count_76 : decode cX9_count 76 = .ok (.isub, 1) := by decide +kernel
theorem dX9_count_77 : decode cX9_count 77 = .ok (.aload_n 0, 1) := by decide +kernel
theorem dX9_count_78 : decode cX9_count 78 = .ok (.invokevirtual 47, 3) := by decide +kernel
theorem dX9_count_81 : decode cX9_count 81 = .ok (.idiv, 1) := by decide +kernel
theorem dX9_count_82 : decode cX9_count 82 = .ok (.ireturn, 1) := by decide +kernel
theorem dX9_count_83 : decode cX9_count 83 = .ok (.aload_n 0, 1) := by decide +kernel
theorem dX9_count_84 : decode cX9_count 84 = .ok (.iconst (-1), 1) := by decide +kernel
theorem dX9_count_85 : decode cX9_count 85 = .ok (.invokevirtual 140, 3) := by decide +kernel
theorem dX9_count_88 : decode cX9_count 88 = .ok (.ireturn, 1) := by decide +kernel
theorem dX9_count_89 : decode cX9_count 89 = .ok (.aload_n 0, 1) := by decide +kernel
theorem dX9_count_90 : decode cX9_count 90 = .ok (.getfield 7, 3) := by decide +kernel
theorem dX9_count_93 : decode cX9_count 93 = .ok (.sipush 1065, 3) := by decide +kernel
theorem dX9_count_96 : decode cX9_count 96 = .ok (.iaload, 1) := by decide +kernel
theorem dX9_count_97 : decode cX9_count 97 = .ok (.ireturn, 1) := by decide +kernel
theorem dX9_count_98 : decode cX9_count 98 = .ok (.aload_n 0, 1) := by decide +kernel
theorem dX9_count_99 : decode cX9_count 99 = .ok (.getfield 7, 3) := by decide +kernel
theorem dX9_count_102 : decode cX9_count 102 = .ok (.sipush 1066, 3) := by decide +kernel
theorem dX9_count_105 : decode cX9_count 105 = .ok (.iload_n 1, 1) := by decide +kernel
theorem dX9_count_106 : decode cX9_count 106 = .ok (.iadd, 1) := by decide +kernel
theorem dX9_count_107 : decode cX9_count 107 = .ok (.iconst 5, 1) := by decide +kernel
theorem dX9_count_108 : decode cX9_count 108 = .ok (.isub, 1) := by decide +kernel
theorem dX9_count_109 : decode cX9_count 109 = .ok (.iaload, 1) := by decide +kernel
theorem dX9_count_110 : decode cX9_count 110 = .ok (.ireturn, 1) := by decide +kernel
theorem dX9_count_111 : decode cX9_count 111 = .ok (.aload_n 0, 1) := by decide +kernel
theorem dX9_count_112 : decode cX9_count 112 = .ok (.invokevirtual 143, 3) := by decide +kernel
theorem dX9_count_115 : decode cX9_count 115 = .ok (.ireturn, 1) := by decide +kernel
theorem dX9_count_116 : decode cX9_count 116 = .ok (.aload_n 0, 1) := by decide +kernel
theorem dX9_count_117 : decode cX9_count 117 = .ok (.getfield 16, 3) := by decide +kernel
theorem dX9_count_120 : decode cX9_count 120 = .ok (.iconst 0, 1) := by decide +kernel
theorem dX9_count_121 : decode cX9_count 121 = .ok (.baload, 1) := by decide +kernel
theorem dX9_count_122 : decode cX9_count 122 = .ok (.ifCond .eq 7, 3) := by decide +kernel
theorem dX9_count_125 : decode cX9_count 125 = .ok (.iconst 1, 1) := by decide +kernel
theorem dX9_count_126 : decode cX9_count 126 = .ok (.goto 4, 3) := by decide +kernel
theorem dX9_count_129 : decode cX9_count 129 = .ok (.iconst 0, 1) := by decide +kernel
theorem dX9_count_130 : decode cX9_count 130 = .ok (.aload_n 0, 1) := by decide +kernel
theorem dX9_count_131 : decode cX9_count 131 = .ok (.getfield 16, 3) := by decide +kernel
theorem dX9_count_134 : decode cX9_count 134 = .ok (.iconst 1, 1) := by decide +kernel
theorem dX9_count_135 : decode cX9_count 135 = .ok (.baload, 1) := by decide +kernel
theorem dX9_count_136 : decode cX9_count 136 = .ok (.ifCond .eq 7, 3) := by decide +kernel
theorem dX9_count_139 : decode cX9_count 139 = .ok (.iconst 2, 1) := by decide +kernel
theorem dX9_count_140 : decode cX9_count 140 = .ok (.goto 4, 3) := by decide +kernel
theorem dX9_count_143 : decode cX9_count 143 = .ok (.iconst 0, 1) := by decide +kernel
theorem dX9_count_144 : decode cX9_count 144 = .ok (.iadd, 1) := by decide +kernel
theorem dX9_count_145 : decode cX9_count 145 = .ok (.ireturn, 1) := by decide +kernel
theorem dX9_count_146 : decode cX9_count 146 = .ok (.bipush (-2), 2) := by decide +kernel
theorem dX9_count_148 : decode cX9_count 148 = .ok (.ireturn, 1) := by decide +kernel
theorem dJ9_abs_0f7a4_0 : decode cJ9_abs_0f7a4 0 = .ok (.iload_n 0, 1) := by decide +kernel
theorem dJ9_abs_0f7a4_1 : decode cJ9_abs_0f7a4 1 = .ok (.ifCond .ge 8, 3) := by decide +kernel
theorem dJ9_abs_0f7a4_4 : decode cJ9_abs_0f7a4 4 = .ok (.iload_n 0, 1) := by decide +kernel
theorem dJ9_abs_0f7a4_5 : decode cJ9_abs_0f7a4 5 = .ok (.ineg, 1) := by decide +kernel
theorem dJ9_abs_0f7a4_6 : decode cJ9_abs_0f7a4 6 = .ok (.goto 4, 3) := by decide +kernel
theorem dJ9_abs_0f7a4_9 : decode cJ9_abs_0f7a4 9 = .ok (.iload_n 0, 1) := by decide +kernel
theorem dJ9_abs_0f7a4_10 : decode cJ9_abs_0f7a4 10 = .ok (.ireturn, 1) := by decide +kernel
theorem dJ9_max_7cf53_0 : decode cJ9_max_7cf53 0 = .ok (.iload_n 0, 1) := by decide +kernel
theorem dJ9_max_7cf53_1 : decode cJ9_max_7cf53 1 = .ok (.iload_n 1, 1) := by decide +kernel
theorem dJ9_max_7cf53_2 : decode cJ9_max_7cf53 2 = .ok (.if_icmp .lt 7, 3) := by decide +kernel
theorem dJ9_max_7cf53_5 : decode cJ9_max_7cf53 5 = .ok (.iload_n 0, 1) := by decide +kernel
theorem dJ9_max_7cf53_6 : decode cJ9_max_7cf53 6 = .ok (.goto 4, 3) := by decide +kernel
theorem dJ9_max_7cf53_9 : decode cJ9_max_7cf53 9 = .ok (.iload_n 1, 1) := by decide +kernel
theorem dJ9_max_7cf53_10 : decode cJ9_max_7cf53 10 = .ok (.ireturn, 1) := by decide +kernel
theorem dJ9_min_7cf53_0 : decode cJ9_min_7cf53 0 = .ok (.iload_n 0, 1) := by decide +kernel
theorem dJ9_min_7cf53_1 : decode cJ9_min_7cf53 1 = .ok (.iload_n 1, 1) := by decide +kernel
theorem dJ9_min_7cf53_2 : decode cJ9_min_7cf53 2 = .ok (.if_icmp .gt 7, 3) := by decide +kernel
theorem dJ9_min_7cf53_5 : decode cJ9_min_7cf53 5 = .ok (.iload_n 0, 1) := by decide +kernel
theorem dJ9_min_7cf53_6 : decode cJ9_min_7cf53 6 = .ok (.goto 4, 3) := by decide +kernel
theorem dJ9_min_7cf53_9 : decode cJ9_min_7cf53 9 = .ok (.iload_n 1, 1) := by decide +kernel
theorem dJ9_min_7cf53_10 : decode cJ9_min_7cf53 10 = .ok (.ireturn, 1) := by decide +kernel
