theorem dX0_init_0 : decode cX0_init 0 = .ok (.aload_n 0, 1) := by decide +kernel
theorem dX0_init_1 : decode cX0_init 1 = .ok (.invokespecial 3, 3) := by decide +kernel
theorem dX0_init_4 : decode cX0_init 4 = .ok (.aload_n 0, 1) := by decide +kernel
theorem dX0_init_5 : decode cX0_init 5 = .ok (.sipush 1000, 3) := by decide +kernel
theorem dX0_init_8 : decode cX0_init 8 = .ok (.newarray .int, 2) := by decide +kernel
theorem dX0_init_10 : decode cX0_init 10 = .ok (.putfield 9, 3) := by decide +kernel
theorem dX0_init_13 : decode cX0_init 13 = .ok (.return_, 1) := by decide +kernel
theorem dX0_has_0 : decode cX0_has 0 = .ok (.iload_n 1, 1) := by decide +kernel
theorem dX0_has_1 : decode cX0_has 1 = .ok (.ifCond .lt 15, 3) := by decide +kernel
theorem dX0_has_4 : decode cX0_has 4 = .ok (.iload_n 1, 1) := by decide +kernel
theorem dX0_has_5 : decode cX0_has 5 = .ok (.aload_n 0, 1) := by decide +kernel
theorem dX0_has_6 : decode cX0_has 6 = .ok (.getfield 15, 3) := by decide +kernel
theorem dX0_has_9 : decode cX0_has 9 = .ok (.if_icmp .ge 7, 3) := by decide +kernel
theorem dX0_has_12 : decode cX0_has 12 = .ok (.iconst 1, 1) := by decide +kernel
theorem dX0_has_13 : decode cX0_has 13 = .ok (.goto 4, 3) := by decide +kernel
theorem dX0_has_16 : decode cX0_has 16 = .ok (.iconst 0, 1) := by decide +kernel
theorem dX0_has_17 : decode cX0_has 17 = .ok (.ireturn, 1) := by decide +kernel
theorem dX0_at_0 : decode cX0_at 0 = .ok (.iload_n 1, 1) := by decide +kernel
theorem dX0_at_1 : decode cX0_at 1 = .ok (.ifCond .lt 20, 3) := by decide +kernel
theorem dX0_at_4 : decode cX0_at 4 = .ok (.iload_n 1, 1) := by decide +kernel
theorem dX0_at_5 : decode cX0_at 5 = .ok (.aload_n 0, 1) := by decide +kernel
theorem dX0_at_6 : decode cX0_at 6 = .ok (.getfield 15, 3) := by decide +kernel
theorem dX0_at_9 : decode cX0_at 9 = .ok (.if_icmp .ge 12, 3) := by decide +kernel
theorem dX0_at_12 : decode cX0_at 12 = .ok (.aload_n 0, 1) := by decide +kernel
theorem dX0_at_13 : decode cX0_at 13 = .ok (.getfield 9, 3) := by decide +kernel
theorem dX0_at_16 : decode cX0_at 16 = .ok (.iload_n 1, 1) := by decide +kernel
theorem dX0_at_17 : decode cX0_at 17 = .ok (.iaload, 1) := by decide +kernel
theorem dX0_at_18 : decode cX0_at 18 = .ok (.goto 5, 3) := by decide +kernel
theorem dX0_at_21 : decode cX0_at 21 = .ok (.bipush (-6), 2) := by decide +kernel
theorem dX0_at_23 : decode cX0_at 23 = .ok (.ireturn, 1) := by decide +kernel
set_option maxRecDepth 20000 in
theorem ggX0_turn_X0_has : GoodIn wsX0_turn wsX0_has := goodIn_r _ [6, 7, 8, 9] (by decide +kernel) (by decide +kernel)
set_option maxRecDepth 20000 in
theorem gX0_turn_X0_has : GoodIn wsX0_turn (wsV RX0 19 RX0 yX0_has wsX0_has) := goodIn_app (goodIn_of _ (by decide +kernel)) ggX0_turn_X0_has
theorem dX0_turn_0 : decode cX0_turn 0 = .ok (.aload_n 0, 1) := by decide +kernel
theorem dX0_turn_1 : decode cX0_turn 1 = .ok (.iload_n 1, 1) := by decide +kernel
theorem dX0_turn_2 : decode cX0_turn 2 = .ok (.invokevirtual 19, 3) := by decide +kernel
theorem dX0_turn_5 : decode cX0_turn 5 = .ok (.ifCond .ne 6, 3) := by decide +kernel
theorem dX0_turn_8 : decode cX0_turn 8 = .ok (.bipush (-6), 2) := by decide +kernel
theorem dX0_turn_10 : decode cX0_turn 10 = .ok (.ireturn, 1) := by decide +kernel
theorem dX0_turn_11 : decode cX0_turn 11 = .ok (.aload_n 0, 1) := by decide +kernel
theorem dX0_turn_12 : decode cX0_turn 12 = .ok (.getfield 9, 3) := by decide +kernel
theorem dX0_turn_15 : decode cX0_turn 15 = .ok (.iload_n 1, 1) := by decide +kernel
theorem dX0_turn_16 : decode cX0_turn 16 = .ok (.iconst 1, 1) := by decide +kernel
theorem dX0_turn_17 : decode cX0_turn 17 = .ok (.aload_n 0, 1) := by decide +kernel
theorem dX0_turn_18 : decode cX0_turn 18 = .ok (.getfield 9, 3) := by decide +kernel
theorem dX0_turn_21 : decode cX0_turn 21 = .ok (.iload_n 1, 1) := by decide +kernel
theorem dX0_turn_22 : decode cX0_turn 22 = .ok (.iaload, 1) := by decide +kernel
theorem dX0_turn_23 : decode cX0_turn 23 = .ok (.isub, 1) := by decide +kernel
theorem dX0_turn_24 : decode cX0_turn 24 = .ok (.iastore, 1) := by decide +kernel
theorem dX0_turn_25 : decode cX0_turn 25 = .ok (.aload_n 0, 1) := by decide +kernel
theorem dX0_turn_26 : decode cX0_turn 26 = .ok (.getfield 9, 3) := by decide +kernel
theorem dX0_turn_29 : decode cX0_turn 29 = .ok (.iload_n 1, 1) := by decide +kernel
theorem dX0_turn_30 : decode cX0_turn 30 = .ok (.iaload, 1) := by decide +kernel
theorem dX0_turn_31 : decode cX0_turn 31 = .ok (.ireturn, 1) := by decide +kernel
theorem dX0_append_0 : decode cX0_append 0 = .ok (.aload_n 0, 1) := by decide +kernel
theorem dX0_append_1 : decode cX0_append 1 = .ok (.getfield 15, 3) := by decide +kernel
theorem dX0_append_4 : decode cX0_append 4 = .ok (.sipush 1000, 3) := by decide +kernel
theorem dX0_append_7 : decode cX0_append 7 = .ok (.if_icmp .ge 23, 3) := by decide +kernel
theorem dX0_append_10 : decode cX0_append 10 = .ok (.aload_n 0, 1) := by decide +kernel
theorem dX0_append_11 : decode cX0_append 11 = .ok (.getfield 9, 3) := by decide +kernel
theorem dX0_append_14 : decode cX0_append 14 = .ok (.aload_n 0, 1) := by decide +kernel
theorem dX0_append_15 : decode cX0_append 15 = .ok (.getfield 15, 3) := by decide +kernel
theorem dX0_append_18 : decode cX0_append 18 = .ok (.iload_n 1, 1) := by decide +kernel
theorem dX0_append_19 : decode cX0_append 19 = .ok (.iastore, 1) := by decide +kernel
theorem dX0_append_20 : decode cX0_append 20 = .ok (.aload_n 0, 1) := by decide +kernel
theorem dX0_append_21 : decode cX0_append 21 = .ok (.dup, 1) := by decide +kernel
theorem dX0_append_22 : decode cX0_append 22 = .ok (.getfield 15, 3) := by decide +kernel
theorem dX0_append_25 : decode cX0_append 25 = .ok (.iconst 1, 1) := by decide +kernel
theorem dX0_append_26 : decode cX0_append 26 = .ok (.iadd, 1) := by decide +kernel
theorem dX0_append_27 : decode cX0_append 27 = .ok (.putfield 15, 3) := by decide +kernel
theorem dX0_append_30 : decode cX0_append 30 = .ok (.return_, 1) := by decide +kernel
set_option maxRecDepth 20000 in
theorem ggX0_appendNumber_X0_append : GoodIn wsX0_appendNumber wsX0_append := goodIn_r _ [5, 6, 7, 8, 9] (by decide +kernel) (by decide +kernel)
set_option maxRecDepth 20000 in
theorem gX0_appendNumber_X0_append : GoodIn wsX0_appendNumber (wsV RX0 23 RX0 yX0_append wsX0_append) := goodIn_app (goodIn_of _ (by decide +kernel)) ggX0_appendNumber_X0_append
theorem dX0_appendNumber_0 : decode cX0_appendNumber 0 = .ok (.iload_n 2, 1) := by decide +kernel
theorem dX0_appendNumber_1 : decode cX0_appendNumber 1 = .ok (.iconst 1, 1) := by decide +kernel
theorem dX0_appendNumber_2 : decode cX0_appendNumber 2 = .ok (.isub, 1) := by decide +kernel
theorem dX0_appendNumber_3 : decode cX0_appendNumber 3 = .ok (.istore_n 3, 1) := by decide +kernel
theorem dX0_appendNumber_4 : decode cX0_appendNumber 4 = .ok (.iload_n 3, 1) := by decide +kernel
theorem dX0_appendNumber_5 : decode cX0_appendNumber 5 = .ok (.ifCond .lt 18, 3) := by decide +kernel
theorem dX0_appendNumber_8 : decode cX0_appendNumber 8 = .ok (.aload_n 0, 1) := by decide +kernel
theorem dX0_appendNumber_9 : decode cX0_appendNumber 9 = .ok (.iload_n 1, 1) := by decide +kernel
theorem dX0_appendNumber_10 : decode cX0_appendNumber 10 = .ok (.iload_n 3, 1) := by decide +kernel
theorem dX0_appendNumber_11 : decode cX0_appendNumber 11 = .ok (.ishr, 1) := by decide +kernel
theorem dX0_appendNumber_12 : decode cX0_appendNumber 12 = .ok (.iconst 1, 1) := by decide +kernel
theorem dX0_appendNumber_13 : decode cX0_appendNumber 13 = .ok (.iand, 1) := by decide +kernel
theorem dX0_appendNumber_14 : decode cX0_appendNumber 14 = .ok (.invokevirtual 23, 3) := by decide +kernel
theorem dX0_appendNumber_17 : decode cX0_appendNumber 17 = .ok (.iinc 3 (-1), 3) := by decide +kernel
theorem dX0_appendNumber_20 : decode cX0_appendNumber 20 = .ok (.goto (-16), 3) := by decide +kernel
theorem dX0_appendNumber_23 : decode cX0_appendNumber 23 = .ok (.return_, 1) := by decide +kernel
theorem dX0_takeOver_0 : decode cX0_takeOver 0 = .ok (.aload_n 1, 1) := by decide +kernel
theorem dX0_takeOver_1 : decode cX0_takeOver 1 = .ok (.getfield 9, 3) := by decide +kernel
theorem dX0_takeOver_4 : decode cX0_takeOver 4 = .ok (.iconst 0, 1) := by decide +kernel
theorem dX0_takeOver_5 : decode cX0_takeOver 5 = .ok (.aload_n 0, 1) := by decide +kernel
theorem dX0_takeOver_6 : decode cX0_takeOver 6 = .ok (.getfield 9, 3) := by decide +kernel
theorem dX0_takeOver_9 : decode cX0_takeOver 9 = .ok (.iconst 0, 1) := by decide +kernel
theorem dX0_takeOver_10 : decode cX0_takeOver 10 = .ok (.aload_n 1, 1) := by decide +kernel
theorem dX0_takeOver_11 : decode cX0_takeOver 11 = .ok (.getfield 15, 3) := by decide +kernel
theorem dX0_takeOver_14 : decode cX0_takeOver 14 = .ok (.invokestatic 27, 3) := by decide +kernel
theorem dX0_takeOver_17 : decode cX0_takeOver 17 = .ok (.aload_n 0, 1) := by decide +kernel
theorem dX0_takeOver_18 : decode cX0_takeOver 18 = .ok (.aload_n 1, 1) := by decide +kernel
theorem dX0_takeOver_19 : decode cX0_takeOver 19 = .ok (.getfield 15, 3) := by decide +kernel
theorem dX0_takeOver_22 : decode cX0_takeOver 22 = .ok (.putfield 15, 3) := by decide +kernel
theorem dX0_takeOver_25 : decode cX0_takeOver 25 = .ok (.return_, 1) := by decide +kernel
theorem dX1_init_0 : decode cX1_init 0 = .ok (.aload_n 0, 1) := by decide +kernel
theorem dX1_init_1 : decode cX1_init 1 = .ok (.invokespecial 3, 3) := by decide +kernel
theorem dX1_init_4 : decode cX1_init 4 = .ok (.aload_n 0, 1) := by decide +kernel
theorem dX1_init_5 : decode cX1_init 5 = .ok (.iconst 0, 1) := by decide +kernel
theorem dX1_init_6 : decode cX1_init 6 = .ok (.putfield 9, 3) := by decide +kernel
theorem dX1_init_9 : decode cX1_init 9 = .ok (.aload_n 0, 1) := by decide +kernel
theorem dX1_init_10 : decode cX1_init 10 = .ok (.bipush (-6), 2) := by decide +kernel
theorem dX1_init_12 : decode cX1_init 12 = .ok (.putfield 15, 3) := by decide +kernel
theorem dX1_init_15 : decode cX1_init 15 = .ok (.aload_n 0, 1) := by decide +kernel
theorem dX1_init_16 : decode cX1_init 16 = .ok (.bipush (-6), 2) := by decide +kernel
theorem dX1_init_18 : decode cX1_init 18 = .ok (.putfield 18, 3) := by decide +kernel
theorem dX1_init_21 : decode cX1_init 21 = .ok (.return_, 1) := by decide +kernel
theorem dX1_isTold_0 : decode cX1_isTold 0 = .ok (.aload_n 0, 1) := by decide +kernel
theorem dX1_isTold_1 : decode cX1_isTold 1 = .ok (.getfield 9, 3) := by decide +kernel
theorem dX1_isTold_4 : decode cX1_isTold 4 = .ok (.ifCond .eq 7, 3) := by decide +kernel
theorem dX1_isTold_7 : decode cX1_isTold 7 = .ok (.iconst 1, 1) := by decide +kernel
theorem dX1_isTold_8 : decode cX1_isTold 8 = .ok (.goto 4, 3) := by decide +kernel
theorem dX1_isTold_11 : decode cX1_isTold 11 = .ok (.iconst 0, 1) := by decide +kernel
theorem dX1_isTold_12 : decode cX1_isTold 12 = .ok (.ireturn, 1) := by decide +kernel
theorem dX1_forget_0 : decode cX1_forget 0 = .ok (.aload_n 0, 1) := by decide +kernel
theorem dX1_forget_1 : decode cX1_forget 1 = .ok (.iconst 0, 1) := by decide +kernel
theorem dX1_forget_2 : decode cX1_forget 2 = .ok (.putfield 9, 3) := by decide +kernel
theorem dX1_forget_5 : decode cX1_forget 5 = .ok (.aload_n 0, 1) := by decide +kernel
theorem dX1_forget_6 : decode cX1_forget 6 = .ok (.bipush (-6), 2) := by decide +kernel
theorem dX1_forget_8 : decode cX1_forget 8 = .ok (.putfield 15, 3) := by decide +kernel
theorem dX1_forget_11 : decode cX1_forget 11 = .ok (.aload_n 0, 1) := by decide +kernel
theorem dX1_forget_12 : decode cX1_forget 12 = .ok (.bipush (-6), 2) := by decide +kernel
theorem dX1_forget_14 : decode cX1_forget 14 = .ok (.putfield 18, 3) := by decide +kernel
theorem dX1_forget_17 : decode cX1_forget 17 = .ok (.return_, 1) := by decide +kernel
theorem dX1_takeOver_0 : decode cX1_takeOver 0 = .ok (.aload_n 0, 1) := by decide +kernel
theorem dX1_takeOver_1 : decode cX1_takeOver 1 = .ok (.aload_n 1, 1) := by decide +kernel
theorem dX1_takeOver_2 : decode cX1_takeOver 2 = .ok (.getfield 9, 3) := by decide +kernel
theorem dX1_takeOver_5 : decode cX1_takeOver 5 = .ok (.putfield 9, 3) := by decide +kernel
theorem dX1_takeOver_8 : decode cX1_takeOver 8 = .ok (.aload_n 0, 1) := by decide +kernel
theorem dX1_takeOver_9 : decode cX1_takeOver 9 = .ok (.aload_n 1, 1) := by decide +kernel
theorem dX1_takeOver_10 : decode cX1_takeOver 10 = .ok (.getfield 15, 3) := by decide +kernel
theorem dX1_takeOver_13 : decode cX1_takeOver 13 = .ok (.putfield 15, 3) := by decide +kernel
theorem dX1_takeOver_16 : decode cX1_takeOver 16 = .ok (.aload_n 0, 1) := by decide +kernel
theorem dX1_takeOver_17 : decode cX1_takeOver 17 = .ok (.aload_n 1, 1) := by decide +kernel
theorem dX1_takeOver_18 : decode cX1_takeOver 18 = .ok (.getfield 18, 3) := by decide +kernel
theorem dX1_takeOver_21 : decode cX1_takeOver 21 = .ok (.putfield 18, 3) := by decide +kernel
theorem dX1_takeOver_24 : decode cX1_takeOver 24 = .ok (.return_, 1) := by decide +kernel
theorem dX2_init_0 : decode cX2_init 0 = .ok (.aload_n 0, 1) := by decide +kernel
theorem dX2_init_1 : decode cX2_init 1 = .ok (.invokespecial 3, 3) := by decide +kernel
theorem dX2_init_4 : decode cX2_init 4 = .ok (.aload_n 0, 1) := by decide +kernel
theorem dX2_init_5 : decode cX2_init 5 = .ok (.bipush 8, 2) := by decide +kernel
theorem dX2_init_7 : decode cX2_init 7 = .ok (.newarray .int, 2) := by decide +kernel
theorem dX2_init_9 : decode cX2_init 9 = .ok (.putfield 9, 3) := by decide +kernel
theorem dX2_init_12 : decode cX2_init 12 = .ok (.return_, 1) := by decide +kernel
set_option maxRecDepth 20000 in
theorem ggX2_fill_X7_endOfBlock : GoodIn wsX2_fill wsX7_endOfBlock := goodIn_r _ [14, 15, 16, 17, 18, 19, 55, 56, 57] (by decide +kernel) (by decide +kernel)
set_option maxRecDepth 20000 in
theorem gX2_fill_X7_endOfBlock : GoodIn wsX2_fill (wsV RX2 26 RX7 yX7_endOfBlock wsX7_endOfBlock) := goodIn_app (goodIn_of _ (by decide +kernel)) ggX2_fill_X7_endOfBlock
set_option maxRecDepth 20000 in
theorem ggX2_fill_X7_isBare : GoodIn wsX2_fill wsX7_isBare := goodIn_r _ [23, 15, 24, 55, 56, 57] (by decide +kernel) (by decide +kernel)
set_option maxRecDepth 20000 in
theorem gX2_fill_X7_isBare : GoodIn wsX2_fill (wsV RX2 37 RX7 yX7_isBare wsX7_isBare) := goodIn_app (goodIn_of _ (by decide +kernel)) ggX2_fill_X7_isBare
set_option maxRecDepth 20000 in
theorem ggX2_fill_X6_at : GoodIn wsX2_fill wsX6_at := goodIn_r _ [29, 30, 31, 58, 59] (by decide +kernel) (by decide +kernel)
set_option maxRecDepth 20000 in
theorem gX2_fill_X6_at : GoodIn wsX2_fill (wsV RX2 45 RX6 yX6_at wsX6_at) := goodIn_app (goodIn_of _ (by decide +kernel)) ggX2_fill_X6_at
set_option maxRecDepth 20000 in
theorem ggX2_fill_X8_toldAhead : GoodIn wsX2_fill wsX8_toldAhead := goodIn_r _ [34, 35, 36, 17, 18, 19, 37, 38, 39, 40, 41, 33, 42, 43, 26, 27, 28, 29, 30, 31, 44, 21, 22, 13, 23, 15, 24, 55, 56, 57, 58, 59] (by decide +kernel) (by decide +kernel)
set_option maxRecDepth 20000 in
theorem gX2_fill_X8_toldAhead_n53 : GoodIn wsX2_fill (wsX8_toldAhead) := ggX2_fill_X8_toldAhead
set_option maxRecDepth 20000 in
theorem ggX2_fill_X7_top : GoodIn wsX2_fill wsX7_top := goodIn_r _ [48, 49, 41, 33, 42, 55, 56, 57] (by decide +kernel) (by decide +kernel)
set_option maxRecDepth 20000 in
theorem gX2_fill_X7_top : GoodIn wsX2_fill (wsV RX2 57 RX7 yX7_top wsX7_top) := goodIn_app (goodIn_of _ (by decide +kernel)) ggX2_fill_X7_top
set_option maxRecDepth 20000 in
theorem ggX2_fill_X8_fold : GoodIn wsX2_fill wsX8_fold := goodIn_r _ [51, 36, 17, 18, 19, 52, 53, 54] (by decide +kernel) (by decide +kernel)
set_option maxRecDepth 20000 in
theorem gX2_fill_X8_fold_n61 : GoodIn wsX2_fill (wsX8_fold) := ggX2_fill_X8_fold
theorem dX2_fill_0 : decode cX2_fill 0 = .ok (.iload_n 3, 1) := by decide +kernel
theorem dX2_fill_1 : decode cX2_fill 1 = .ok (.aload_n 1, 1) := by decide +kernel
theorem dX2_fill_2 : decode cX2_fill 2 = .ok (.getfield 15, 3) := by decide +kernel
theorem dX2_fill_5 : decode cX2_fill 5 = .ok (.imul, 1) := by decide +kernel
theorem dX2_fill_6 : decode cX2_fill 6 = .ok (.istore 5, 2) := by decide +kernel
theorem dX2_fill_8 : decode cX2_fill 8 = .ok (.aload_n 1, 1) := by decide +kernel
theorem dX2_fill_9 : decode cX2_fill 9 = .ok (.iload_n 3, 1) := by decide +kernel
theorem dX2_fill_10 : decode cX2_fill 10 = .ok (.aload_n 2, 1) := by decide +kernel
theorem dX2_fill_11 : decode cX2_fill 11 = .ok (.getfield 21, 3) := by decide +kernel
theorem dX2_fill_14 : decode cX2_fill 14 = .ok (.invokevirtual 26, 3) := by decide +kernel
theorem dX2_fill_17 : decode cX2_fill 17 = .ok (.istore 6, 2) := by decide +kernel
theorem dX2_fill_19 : decode cX2_fill 19 = .ok (.aload_n 0, 1) := by decide +kernel
theorem dX2_fill_20 : decode cX2_fill 20 = .ok (.iload 4, 2) := by decide +kernel
theorem dX2_fill_22 : decode cX2_fill 22 = .ok (.putfield 30, 3) := by decide +kernel
theorem dX2_fill_25 : decode cX2_fill 25 = .ok (.aload_n 0, 1) := by decide +kernel
theorem dX2_fill_26 : decode cX2_fill 26 = .ok (.aload_n 1, 1) := by decide +kernel
theorem dX2_fill_27 : decode cX2_fill 27 = .ok (.getfield 33, 3) := by decide +kernel
theorem dX2_fill_30 : decode cX2_fill 30 = .ok (.putfield 36, 3) := by decide +kernel
theorem dX2_fill_33 : decode cX2_fill 33 = .ok (.aload_n 0, 1) := by decide +kernel
theorem dX2_fill_34 : decode cX2_fill 34 = .ok (.aload_n 1, 1) := by decide +kernel
theorem dX2_fill_35 : decode cX2_fill 35 = .ok (.iload 5, 2) := by decide +kernel
theorem dX2_fill_37 : decode cX2_fill 37 = .ok (.invokevirtual 37, 3) := by decide +kernel
theorem dX2_fill_40 : decode cX2_fill 40 = .ok (.putfield 41, 3) := by decide +kernel
theorem dX2_fill_43 : decode cX2_fill 43 = .ok (.aload_n 0, 1) := by decide +kernel
theorem dX2_fill_44 : decode cX2_fill 44 = .ok (.aload_n 2, 1) := by decide +kernel
theorem dX2_fill_45 : decode cX2_fill 45 = .ok (.iload 5, 2) := by decide +kernel
theorem dX2_fill_47 : decode cX2_fill 47 = .ok (.invokevirtual 45, 3) := by decide +kernel
theorem dX2_fill_50 : decode cX2_fill 50 = .ok (.putfield 49, 3) := by decide +kernel
theorem dX2_fill_53 : decode cX2_fill 53 = .ok (.aload_n 0, 1) := by decide +kernel
theorem dX2_fill_54 : decode cX2_fill 54 = .ok (.iconst 0, 1) := by decide +kernel
theorem dX2_fill_55 : decode cX2_fill 55 = .ok (.putfield 52, 3) := by decide +kernel
theorem dX2_fill_58 : decode cX2_fill 58 = .ok (.aload_n 0, 1) := by decide +kernel
theorem dX2_fill_59 : decode cX2_fill 59 = .ok (.getfield 41, 3) := by decide +kernel
theorem dX2_fill_62 : decode cX2_fill 62 = .ok (.ifCond .eq 10, 3) := by decide +kernel
theorem dX2_fill_65 : decode cX2_fill 65 = .ok (.iload 5, 2) := by decide +kernel
theorem dX2_fill_67 : decode cX2_fill 67 = .ok (.iconst 1, 1) := by decide +kernel
theorem dX2_fill_68 : decode cX2_fill 68 = .ok (.iadd, 1) := by decide +kernel
theorem dX2_fill_69 : decode cX2_fill 69 = .ok (.goto 5, 3) := by decide +kernel
theorem dX2_fill_72 : decode cX2_fill 72 = .ok (.iload 5, 2) := by decide +kernel
theorem dX2_fill_74 : decode cX2_fill 74 = .ok (.istore 7, 2) := by decide +kernel
theorem dX2_fill_76 : decode cX2_fill 76 = .ok (.iload 7, 2) := by decide +kernel
theorem dX2_fill_78 : decode cX2_fill 78 = .ok (.iload 6, 2) := by decide +kernel
theorem dX2_fill_80 : decode cX2_fill 80 = .ok (.if_icmp .ge 61, 3) := by decide +kernel
theorem dX2_fill_83 : decode cX2_fill 83 = .ok (.aload_n 0, 1) := by decide +kernel
theorem dX2_fill_84 : decode cX2_fill 84 = .ok (.getfield 52, 3) := by decide +kernel
theorem dX2_fill_87 : decode cX2_fill 87 = .ok (.bipush 8, 2) := by decide +kernel
theorem dX2_fill_89 : decode cX2_fill 89 = .ok (.if_icmp .ge 52, 3) := by decide +kernel
theorem dX2_fill_92 : decode cX2_fill 92 = .ok (.aload_n 0, 1) := by decide +kernel
theorem dX2_fill_93 : decode cX2_fill 93 = .ok (.getfield 9, 3) := by decide +kernel
theorem dX2_fill_96 : decode cX2_fill 96 = .ok (.aload_n 0, 1) := by decide +kernel
theorem dX2_fill_97 : decode cX2_fill 97 = .ok (.getfield 52, 3) := by decide +kernel
theorem dX2_fill_100 : decode cX2_fill 100 = .ok (.aload_n 2, 1) := by decide +kernel
theorem dX2_fill_101 : decode cX2_fill 101 = .ok (.iload 7, 2) := by decide +kernel
theorem dX2_fill_103 : decode cX2_fill 103 = .ok (.invokevirtual 45, 3) := by decide +kernel
theorem dX2_fill_106 : decode cX2_fill 106 = .ok (.aload_n 1, 1) := by decide +kernel
theorem dX2_fill_107 : decode cX2_fill 107 = .ok (.aload_n 2, 1) := by decide +kernel
theorem dX2_fill_108 : decode cX2_fill 108 = .ok (.iload 7, 2) := by decide +kernel
theorem dX2_fill_110 : decode cX2_fill 110 = .ok (.aload_n 0, 1) := by decide +kernel
theorem dX2_fill_111 : decode cX2_fill 111 = .ok (.getfield 30, 3) := by decide +kernel
theorem dX2_fill_114 : decode cX2_fill 114 = .ok (.invokestatic 53, 3) := by decide +kernel
theorem dX2_fill_117 : decode cX2_fill 117 = .ok (.aload_n 1, 1) := by decide +kernel
theorem dX2_fill_118 : decode cX2_fill 118 = .ok (.invokevirtual 57, 3) := by decide +kernel
theorem dX2_fill_121 : decode cX2_fill 121 = .ok (.invokestatic 61, 3) := by decide +kernel
theorem dX2_fill_124 : decode cX2_fill 124 = .ok (.iastore, 1) := by decide +kernel
theorem dX2_fill_125 : decode cX2_fill 125 = .ok (.aload_n 0, 1) := by decide +kernel
theorem dX2_fill_126 : decode cX2_fill 126 = .ok (.dup, 1) := by decide +kernel
theorem dX2_fill_127 : decode cX2_fill 127 = .ok (.getfield 52, 3) := by decide +kernel
theorem dX2_fill_130 : decode cX2_fill 130 = .ok (.iconst 1, 1) := by decide +kernel
theorem dX2_fill_131 : decode cX2_fill 131 = .ok (.iadd, 1) := by decide +kernel
theorem dX2_fill_132 : decode cX2_fill 132 = .ok (.putfield 52, 3) := by decide +kernel
theorem dX2_fill_135 : decode cX2_fill 135 = .ok (.iinc 7 1, 3) := by decide +kernel
theorem dX2_fill_138 : decode cX2_fill 138 = .ok (.goto (-62), 3) := by decide +kernel
theorem dX2_fill_141 : decode cX2_fill 141 = .ok (.return_, 1) := by decide +kernel
set_option maxRecDepth 20000 in
theorem ggX2_costBy_X8_isCode : GoodIn wsX2_costBy wsX8_isCode := goodIn_r _ [7] (by decide +kernel) (by decide +kernel)
set_option maxRecDepth 20000 in
theorem gX2_costBy_X8_isCode_n65 : GoodIn wsX2_costBy (wsX8_isCode) := ggX2_costBy_X8_isCode
set_option maxRecDepth 20000 in
theorem ggX2_costBy_X2_isAllNothing : GoodIn wsX2_costBy wsX2_isAllNothing := goodIn_r _ [12, 3, 4, 13, 14, 15, 16, 17, 18] (by decide +kernel) (by decide +kernel)
set_option maxRecDepth 20000 in
theorem gX2_costBy_X2_isAllNothing : GoodIn wsX2_costBy (wsV RX2 69 RX2 yX2_isAllNothing wsX2_isAllNothing) := goodIn_app (goodIn_of _ (by decide +kernel)) ggX2_costBy_X2_isAllNothing
theorem dX2_costBy_0 : decode cX2_costBy 0 = .ok (.iload_n 1, 1) := by decide +kernel
theorem dX2_costBy_1 : decode cX2_costBy 1 = .ok (.aload_n 0, 1) := by decide +kernel
theorem dX2_costBy_2 : decode cX2_costBy 2 = .ok (.getfield 36, 3) := by decide +kernel
theorem dX2_costBy_5 : decode cX2_costBy 5 = .ok (.invokestatic 65, 3) := by decide +kernel
theorem dX2_costBy_8 : decode cX2_costBy 8 = .ok (.ifCond .eq 14, 3) := by decide +kernel
theorem dX2_costBy_11 : decode cX2_costBy 11 = .ok (.iload_n 1, 1) := by decide +kernel
theorem dX2_costBy_12 : decode cX2_costBy 12 = .ok (.ifCond .ne 13, 3) := by decide +kernel
theorem dX2_costBy_15 : decode cX2_costBy 15 = .ok (.aload_n 0, 1) := by decide +kernel
theorem dX2_costBy_16 : decode cX2_costBy 16 = .ok (.invokevirtual 69, 3) := by decide +kernel
theorem dX2_costBy_19 : decode cX2_costBy 19 = .ok (.ifCond .ne 6, 3) := by decide +kernel
theorem dX2_costBy_22 : decode cX2_costBy 22 = .ok (.bipush (-6), 2) := by decide +kernel
theorem dX2_costBy_24 : decode cX2_costBy 24 = .ok (.ireturn, 1) := by decide +kernel
theorem dX2_costBy_25 : decode cX2_costBy 25 = .ok (.bipush 6, 2) := by decide +kernel
theorem dX2_costBy_27 : decode cX2_costBy 27 = .ok (.aload_n 0, 1) := by decide +kernel
theorem dX2_costBy_28 : decode cX2_costBy 28 = .ok (.getfield 41, 3) := by decide +kernel
theorem dX2_costBy_31 : decode cX2_costBy 31 = .ok (.ifCond .eq 10, 3) := by decide +kernel
theorem dX2_costBy_34 : decode cX2_costBy 34 = .ok (.aload_n 0, 1) := by decide +kernel
theorem dX2_costBy_35 : decode cX2_costBy 35 = .ok (.getfield 36, 3) := by decide +kernel
theorem dX2_costBy_38 : decode cX2_costBy 38 = .ok (.goto 4, 3) := by decide +kernel
theorem dX2_costBy_41 : decode cX2_costBy 41 = .ok (.iconst 0, 1) := by decide +kernel
theorem dX2_costBy_42 : decode cX2_costBy 42 = .ok (.iadd, 1) := by decide +kernel
theorem dX2_costBy_43 : decode cX2_costBy 43 = .ok (.istore_n 2, 1) := by decide +kernel
theorem dX2_costBy_44 : decode cX2_costBy 44 = .ok (.iload_n 1, 1) := by decide +kernel
theorem dX2_costBy_45 : decode cX2_costBy 45 = .ok (.ifCond .ne 5, 3) := by decide +kernel
theorem dX2_costBy_48 : decode cX2_costBy 48 = .ok (.iload_n 2, 1) := by decide +kernel
theorem dX2_costBy_49 : decode cX2_costBy 49 = .ok (.ireturn, 1) := by decide +kernel
theorem dX2_costBy_50 : decode cX2_costBy 50 = .ok (.iload_n 1, 1) := by decide +kernel
theorem dX2_costBy_51 : decode cX2_costBy 51 = .ok (.bipush 8, 2) := by decide +kernel
theorem dX2_costBy_53 : decode cX2_costBy 53 = .ok (.if_icmp .ne 15, 3) := by decide +kernel
theorem dX2_costBy_56 : decode cX2_costBy 56 = .ok (.iload_n 2, 1) := by decide +kernel
theorem dX2_costBy_57 : decode cX2_costBy 57 = .ok (.aload_n 0, 1) := by decide +kernel
theorem dX2_costBy_58 : decode cX2_costBy 58 = .ok (.getfield 52, 3) := by decide +kernel
theorem dX2_costBy_61 : decode cX2_costBy 61 = .ok (.aload_n 0, 1) := by decide +kernel
theorem dX2_costBy_62 : decode cX2_costBy 62 = .ok (.getfield 36, 3) := by decide +kernel
theorem dX2_costBy_65 : decode cX2_costBy 65 = .ok (.imul, 1) := by decide +kernel
theorem dX2_costBy_66 : decode cX2_costBy 66 = .ok (.iadd, 1) := by decide +kernel
theorem dX2_costBy_67 : decode cX2_costBy 67 = .ok (.ireturn, 1) := by decide +kernel
theorem dX2_costBy_68 : decode cX2_costBy 68 = .ok (.iload_n 1, 1) := by decide +kernel
theorem dX2_costBy_69 : decode cX2_costBy 69 = .ok (.iconst 1, 1) := by decide +kernel
theorem dX2_costBy_70 : decode cX2_costBy 70 = .ok (.isub, 1) := by decide +kernel
theorem dX2_costBy_71 : decode cX2_costBy 71 = .ok (.istore_n 3, 1) := by decide +kernel
theorem dX2_costBy_72 : decode cX2_costBy 72 = .ok (.iconst 0, 1) := by decide +kernel
theorem dX2_costBy_73 : decode cX2_costBy 73 = .ok (.istore 4, 2) := by decide +kernel
theorem dX2_costBy_75 : decode cX2_costBy 75 = .ok (.iload 4, 2) := by decide +kernel
theorem dX2_costBy_77 : decode cX2_costBy 77 = .ok (.aload_n 0, 1) := by decide +kernel
theorem dX2_costBy_78 : decode cX2_costBy 78 = .ok (.getfield 52, 3) := by decide +kernel
theorem dX2_costBy_81 : decode cX2_costBy 81 = .ok (.if_icmp .ge 25, 3) := by decide +kernel
theorem dX2_costBy_84 : decode cX2_costBy 84 = .ok (.iload_n 2, 1) := by decide +kernel
theorem dX2_costBy_85 : decode cX2_costBy 85 = .ok (.aload_n 0, 1) := by decide +kernel
theorem dX2_costBy_86 : decode cX2_costBy 86 = .ok (.getfield 9, 3) := by decide +kernel
theorem dX2_costBy_89 : decode cX2_costBy 89 = .ok (.iload 4, 2) := by decide +kernel
theorem dX2_costBy_91 : decode cX2_costBy 91 = .ok (.iaload, 1) := by decide +kernel
theorem dX2_costBy_92 : decode cX2_costBy 92 = .ok (.iload_n 3, 1) := by decide +kernel
theorem dX2_costBy_93 : decode cX2_costBy 93 = .ok (.ishr, 1) := by decide +kernel
theorem dX2_costBy_94 : decode cX2_costBy 94 = .ok (.iconst 1, 1) := by decide +kernel
theorem dX2_costBy_95 : decode cX2_costBy 95 = .ok (.iadd, 1) := by decide +kernel
theorem dX2_costBy_96 : decode cX2_costBy 96 = .ok (.iload_n 3, 1) := by decide +kernel
theorem dX2_costBy_97 : decode cX2_costBy 97 = .ok (.iadd, 1) := by decide +kernel
theorem dX2_costBy_98 : decode cX2_costBy 98 = .ok (.iadd, 1) := by decide +kernel
theorem dX2_costBy_99 : decode cX2_costBy 99 = .ok (.istore_n 2, 1) := by decide +kernel
theorem dX2_costBy_100 : decode cX2_costBy 100 = .ok (.iinc 4 1, 3) := by decide +kernel
theorem dX2_costBy_103 : decode cX2_costBy 103 = .ok (.goto (-28), 3) := by decide +kernel
theorem dX2_costBy_106 : decode cX2_costBy 106 = .ok (.iload_n 2, 1) := by decide +kernel
theorem dX2_costBy_107 : decode cX2_costBy 107 = .ok (.ireturn, 1) := by decide +kernel
theorem dX2_isAllNothing_0 : decode cX2_isAllNothing 0 = .ok (.iconst 0, 1) := by decide +kernel
theorem dX2_isAllNothing_1 : decode cX2_isAllNothing 1 = .ok (.istore_n 1, 1) := by decide +kernel
theorem dX2_isAllNothing_2 : decode cX2_isAllNothing 2 = .ok (.iload_n 1, 1) := by decide +kernel
theorem dX2_isAllNothing_3 : decode cX2_isAllNothing 3 = .ok (.aload_n 0, 1) := by decide +kernel
theorem dX2_isAllNothing_4 : decode cX2_isAllNothing 4 = .ok (.getfield 52, 3) := by decide +kernel
theorem dX2_isAllNothing_7 : decode cX2_isAllNothing 7 = .ok (.if_icmp .ge 20, 3) := by decide +kernel
theorem dX2_isAllNothing_10 : decode cX2_isAllNothing 10 = .ok (.aload_n 0, 1) := by decide +kernel
theorem dX2_isAllNothing_11 : decode cX2_isAllNothing 11 = .ok (.getfield 9, 3) := by decide +kernel
theorem dX2_isAllNothing_14 : decode cX2_isAllNothing 14 = .ok (.iload_n 1, 1) := by decide +kernel
theorem dX2_isAllNothing_15 : decode cX2_isAllNothing 15 = .ok (.iaload, 1) := by decide +kernel
theorem dX2_isAllNothing_16 : decode cX2_isAllNothing 16 = .ok (.ifCond .eq 5, 3) := by decide +kernel
theorem dX2_isAllNothing_19 : decode cX2_isAllNothing 19 = .ok (.iconst 0, 1) := by decide +kernel
theorem dX2_isAllNothing_20 : decode cX2_isAllNothing 20 = .ok (.ireturn, 1) := by decide +kernel
theorem dX2_isAllNothing_21 : decode cX2_isAllNothing 21 = .ok (.iinc 1 1, 3) := by decide +kernel
theorem dX2_isAllNothing_24 : decode cX2_isAllNothing 24 = .ok (.goto (-22), 3) := by decide +kernel
theorem dX2_isAllNothing_27 : decode cX2_isAllNothing 27 = .ok (.iconst 1, 1) := by decide +kernel
theorem dX2_isAllNothing_28 : decode cX2_isAllNothing 28 = .ok (.ireturn, 1) := by decide +kernel
set_option maxRecDepth 20000 in
theorem ggX2_write_X0_appendNumber : GoodIn wsX2_write wsX0_appendNumber := goodIn_r _ [11, 12, 13, 14, 10, 15, 16, 17, 30, 31] (by decide +kernel) (by decide +kernel)
set_option maxRecDepth 20000 in
theorem gX2_write_X0_appendNumber : GoodIn wsX2_write (wsV RX2 73 RX0 yX0_appendNumber wsX0_appendNumber) := goodIn_app (goodIn_of _ (by decide +kernel)) ggX2_write_X0_appendNumber
set_option maxRecDepth 20000 in
theorem ggX2_write_X2_writeByNoughts : GoodIn wsX2_write wsX2_writeByNoughts := goodIn_r _ [22, 23, 13, 14, 10, 15, 16, 17, 7, 8, 9, 11, 12, 30, 31] (by decide +kernel) (by decide +kernel)
set_option maxRecDepth 20000 in
theorem gX2_write_X2_writeByNoughts : GoodIn wsX2_write (wsV RX2 79 RX2 yX2_writeByNoughts wsX2_writeByNoughts) := goodIn_app (goodIn_of _ (by decide +kernel)) ggX2_write_X2_writeByNoughts
theorem dX2_write_0 : decode cX2_write 0 = .ok (.aload_n 1, 1) := by decide +kernel
theorem dX2_write_1 : decode cX2_write 1 = .ok (.aload_n 0, 1) := by decide +kernel
theorem dX2_write_2 : decode cX2_write 2 = .ok (.getfield 30, 3) := by decide +kernel
theorem dX2_write_5 : decode cX2_write 5 = .ok (.iconst 2, 1) := by decide +kernel
theorem dX2_write_6 : decode cX2_write 6 = .ok (.invokevirtual 73, 3) := by decide +kernel
theorem dX2_write_9 : decode cX2_write 9 = .ok (.aload_n 1, 1) := by decide +kernel
theorem dX2_write_10 : decode cX2_write 10 = .ok (.iload_n 2, 1) := by decide +kernel
theorem dX2_write_11 : decode cX2_write 11 = .ok (.iconst 4, 1) := by decide +kernel
theorem dX2_write_12 : decode cX2_write 12 = .ok (.invokevirtual 73, 3) := by decide +kernel
theorem dX2_write_15 : decode cX2_write 15 = .ok (.aload_n 0, 1) := by decide +kernel
theorem dX2_write_16 : decode cX2_write 16 = .ok (.getfield 41, 3) := by decide +kernel
theorem dX2_write_19 : decode cX2_write 19 = .ok (.ifCond .eq 15, 3) := by decide +kernel
theorem dX2_write_22 : decode cX2_write 22 = .ok (.aload_n 1, 1) := by decide +kernel
theorem dX2_write_23 : decode cX2_write 23 = .ok (.aload_n 0, 1) := by decide +kernel
theorem dX2_write_24 : decode cX2_write 24 = .ok (.getfield 49, 3) := by decide +kernel
theorem dX2_write_27 : decode cX2_write 27 = .ok (.aload_n 0, 1) := by decide +kernel
theorem dX2_write_28 : decode cX2_write 28 = .ok (.getfield 36, 3) := by decide +kernel
theorem dX2_write_31 : decode cX2_write 31 = .ok (.invokevirtual 73, 3) := by decide +kernel
theorem dX2_write_34 : decode cX2_write 34 = .ok (.iload_n 2, 1) := by decide +kernel
theorem dX2_write_35 : decode cX2_write 35 = .ok (.ifCond .ne 4, 3) := by decide +kernel
theorem dX2_write_38 : decode cX2_write 38 = .ok (.return_, 1) := by decide +kernel
theorem dX2_write_39 : decode cX2_write 39 = .ok (.iconst 0, 1) := by decide +kernel
theorem dX2_write_40 : decode cX2_write 40 = .ok (.istore_n 3, 1) := by decide +kernel
theorem dX2_write_41 : decode cX2_write 41 = .ok (.iload_n 3, 1) := by decide +kernel
theorem dX2_write_42 : decode cX2_write 42 = .ok (.aload_n 0, 1) := by decide +kernel
theorem dX2_write_43 : decode cX2_write 43 = .ok (.getfield 52, 3) := by decide +kernel
theorem dX2_write_46 : decode cX2_write 46 = .ok (.if_icmp .ge 46, 3) := by decide +kernel
theorem dX2_write_49 : decode cX2_write 49 = .ok (.iload_n 2, 1) := by decide +kernel
theorem dX2_write_50 : decode cX2_write 50 = .ok (.bipush 8, 2) := by decide +kernel
theorem dX2_write_52 : decode cX2_write 52 = .ok (.if_icmp .ne 20, 3) := by decide +kernel
theorem dX2_write_55 : decode cX2_write 55 = .ok (.aload_n 1, 1) := by decide +kernel
theorem dX2_write_56 : decode cX2_write 56 = .ok (.aload_n 0, 1) := by decide +kernel
theorem dX2_write_57 : decode cX2_write 57 = .ok (.getfield 9, 3) := by decide +kernel
theorem dX2_write_60 : decode cX2_write 60 = .ok (.iload_n 3, 1) := by decide +kernel
theorem dX2_write_61 : decode cX2_write 61 = .ok (.iaload, 1) := by decide +kernel
theorem dX2_write_62 : decode cX2_write 62 = .ok (.aload_n 0, 1) := by decide +kernel
theorem dX2_write_63 : decode cX2_write 63 = .ok (.getfield 36, 3) := by decide +kernel
theorem dX2_write_66 : decode cX2_write 66 = .ok (.invokevirtual 73, 3) := by decide +kernel
theorem dX2_write_69 : decode cX2_write 69 = .ok (.goto 17, 3) := by decide +kernel
theorem dX2_write_72 : decode cX2_write 72 = .ok (.aload_n 0, 1) := by decide +kernel
theorem dX2_write_73 : decode cX2_write 73 = .ok (.aload_n 1, 1) := by decide +kernel
theorem dX2_write_74 : decode cX2_write 74 = .ok (.aload_n 0, 1) := by decide +kernel
theorem dX2_write_75 : decode cX2_write 75 = .ok (.getfield 9, 3) := by decide +kernel
theorem dX2_write_78 : decode cX2_write 78 = .ok (.iload_n 3, 1) := by decide +kernel
theorem dX2_write_79 : decode cX2_write 79 = .ok (.iaload, 1) := by decide +kernel
theorem dX2_write_80 : decode cX2_write 80 = .ok (.iload_n 2, 1) := by decide +kernel
theorem dX2_write_81 : decode cX2_write 81 = .ok (.iconst 1, 1) := by decide +kernel
theorem dX2_write_82 : decode cX2_write 82 = .ok (.isub, 1) := by decide +kernel
theorem dX2_write_83 : decode cX2_write 83 = .ok (.invokevirtual 79, 3) := by decide +kernel
theorem dX2_write_86 : decode cX2_write 86 = .ok (.iinc 3 1, 3) := by decide +kernel
theorem dX2_write_89 : decode cX2_write 89 = .ok (.goto (-48), 3) := by decide +kernel
theorem dX2_write_92 : decode cX2_write 92 = .ok (.return_, 1) := by decide +kernel
set_option maxRecDepth 20000 in
theorem ggX2_writeByNoughts_X0_append : GoodIn wsX2_writeByNoughts wsX0_append := goodIn_r _ [5, 6, 7, 13, 14] (by decide +kernel) (by decide +kernel)
set_option maxRecDepth 20000 in
theorem gX2_writeByNoughts_X0_append : GoodIn wsX2_writeByNoughts (wsV RX2 83 RX0 yX0_append wsX0_append) := goodIn_app (goodIn_of _ (by decide +kernel)) ggX2_writeByNoughts_X0_append
set_option maxRecDepth 20000 in
theorem ggX2_writeByNoughts_X0_appendNumber : GoodIn wsX2_writeByNoughts wsX0_appendNumber := goodIn_r _ [11, 12, 2, 3, 4, 5, 6, 7, 13, 14] (by decide +kernel) (by decide +kernel)
set_option maxRecDepth 20000 in
theorem gX2_writeByNoughts_X0_appendNumber : GoodIn wsX2_writeByNoughts (wsV RX2 73 RX0 yX0_appendNumber wsX0_appendNumber) := goodIn_app (goodIn_of _ (by decide +kernel)) ggX2_writeByNoughts_X0_appendNumber
theorem dX2_writeByNoughts_0 : decode cX2_writeByNoughts 0 = .ok (.iload_n 2, 1) := by decide +kernel
theorem dX2_writeByNoughts_1 : decode cX2_writeByNoughts 1 = .ok (.iload_n 3, 1) := by decide +kernel
theorem dX2_writeByNoughts_2 : decode cX2_writeByNoughts 2 = .ok (.ishr, 1) := by decide +kernel
theorem dX2_writeByNoughts_3 : decode cX2_writeByNoughts 3 = .ok (.istore 4, 2) := by decide +kernel
theorem dX2_writeByNoughts_5 : decode cX2_writeByNoughts 5 = .ok (.iconst 0, 1) := by decide +kernel
theorem dX2_writeByNoughts_6 : decode cX2_writeByNoughts 6 = .ok (.istore 5, 2) := by decide +kernel
theorem dX2_writeByNoughts_8 : decode cX2_writeByNoughts 8 = .ok (.iload 5, 2) := by decide +kernel
theorem dX2_writeByNoughts_10 : decode cX2_writeByNoughts 10 = .ok (.iload 4, 2) := by decide +kernel
theorem dX2_writeByNoughts_12 : decode cX2_writeByNoughts 12 = .ok (.if_icmp .ge 14, 3) := by decide +kernel
theorem dX2_writeByNoughts_15 : decode cX2_writeByNoughts 15 = .ok (.aload_n 1, 1) := by decide +kernel
theorem dX2_writeByNoughts_16 : decode cX2_writeByNoughts 16 = .ok (.iconst 0, 1) := by decide +kernel
theorem dX2_writeByNoughts_17 : decode cX2_writeByNoughts 17 = .ok (.invokevirtual 83, 3) := by decide +kernel
theorem dX2_writeByNoughts_20 : decode cX2_writeByNoughts 20 = .ok (.iinc 5 1, 3) := by decide +kernel
theorem dX2_writeByNoughts_23 : decode cX2_writeByNoughts 23 = .ok (.goto (-15), 3) := by decide +kernel
theorem dX2_writeByNoughts_26 : decode cX2_writeByNoughts 26 = .ok (.aload_n 1, 1) := by decide +kernel
theorem dX2_writeByNoughts_27 : decode cX2_writeByNoughts 27 = .ok (.iconst 1, 1) := by decide +kernel
theorem dX2_writeByNoughts_28 : decode cX2_writeByNoughts 28 = .ok (.invokevirtual 83, 3) := by decide +kernel
theorem dX2_writeByNoughts_31 : decode cX2_writeByNoughts 31 = .ok (.aload_n 1, 1) := by decide +kernel
theorem dX2_writeByNoughts_32 : decode cX2_writeByNoughts 32 = .ok (.iload_n 2, 1) := by decide +kernel
theorem dX2_writeByNoughts_33 : decode cX2_writeByNoughts 33 = .ok (.iload_n 3, 1) := by decide +kernel
theorem dX2_writeByNoughts_34 : decode cX2_writeByNoughts 34 = .ok (.invokevirtual 73, 3) := by decide +kernel
theorem dX2_writeByNoughts_37 : decode cX2_writeByNoughts 37 = .ok (.return_, 1) := by decide +kernel
set_option maxRecDepth 20000 in
theorem ggX3_init_X7_init : GoodIn wsX3_init wsX7_init := goodIn_r _ [21, 22, 2, 3, 23, 24, 25, 41, 42, 43] (by decide +kernel) (by decide +kernel)
set_option maxRecDepth 20000 in
theorem gX3_init_X7_init_n9 : GoodIn wsX3_init (wsX7_init) := ggX3_init_X7_init
set_option maxRecDepth 20000 in
theorem ggX3_init_X6_init : GoodIn wsX3_init wsX6_init := goodIn_r _ [27, 28, 2, 3, 29, 30, 48, 49] (by decide +kernel) (by decide +kernel)
set_option maxRecDepth 20000 in
theorem gX3_init_X6_init_n18 : GoodIn wsX3_init (wsX6_init) := ggX3_init_X6_init
set_option maxRecDepth 20000 in
theorem ggX3_init_X0_init : GoodIn wsX3_init wsX0_init := goodIn_r _ [32, 33, 2, 3, 29, 34, 50, 51] (by decide +kernel) (by decide +kernel)
set_option maxRecDepth 20000 in
theorem gX3_init_X0_init_n25 : GoodIn wsX3_init (wsX0_init) := ggX3_init_X0_init
set_option maxRecDepth 20000 in
theorem ggX3_init_X1_init : GoodIn wsX3_init wsX1_init := goodIn_r _ [36, 37, 2, 3, 38, 39, 40, 52, 53, 54] (by decide +kernel) (by decide +kernel)
set_option maxRecDepth 20000 in
theorem gX3_init_X1_init_n32 : GoodIn wsX3_init (wsX1_init) := ggX3_init_X1_init
theorem dX3_init_0 : decode cX3_init 0 = .ok (.aload_n 0, 1) := by decide +kernel
theorem dX3_init_1 : decode cX3_init 1 = .ok (.invokespecial 1, 3) := by decide +kernel
theorem dX3_init_4 : decode cX3_init 4 = .ok (.aload_n 0, 1) := by decide +kernel
theorem dX3_init_5 : decode cX3_init 5 = .ok (.new 7, 3) := by decide +kernel
theorem dX3_init_8 : decode cX3_init 8 = .ok (.dup, 1) := by decide +kernel
theorem dX3_init_9 : decode cX3_init 9 = .ok (.invokespecial 9, 3) := by decide +kernel
theorem dX3_init_12 : decode cX3_init 12 = .ok (.putfield 10, 3) := by decide +kernel
theorem dX3_init_15 : decode cX3_init 15 = .ok (.aload_n 0, 1) := by decide +kernel
theorem dX3_init_16 : decode cX3_init 16 = .ok (.new 16, 3) := by decide +kernel
theorem dX3_init_19 : decode cX3_init 19 = .ok (.dup, 1) := by decide +kernel
theorem dX3_init_20 : decode cX3_init 20 = .ok (.invokespecial 18, 3) := by decide +kernel
theorem dX3_init_23 : decode cX3_init 23 = .ok (.putfield 19, 3) := by decide +kernel
theorem dX3_init_26 : decode cX3_init 26 = .ok (.aload_n 0, 1) := by decide +kernel
theorem dX3_init_27 : decode cX3_init 27 = .ok (.new 23, 3) := by decide +kernel
theorem dX3_init_30 : decode cX3_init 30 = .ok (.dup, 1) := by decide +kernel
theorem dX3_init_31 : decode cX3_init 31 = .ok (.invokespecial 25, 3) := by decide +kernel
theorem dX3_init_34 : decode cX3_init 34 = .ok (.putfield 26, 3) := by decide +kernel
theorem dX3_init_37 : decode cX3_init 37 = .ok (.aload_n 0, 1) := by decide +kernel
theorem dX3_init_38 : decode cX3_init 38 = .ok (.new 30, 3) := by decide +kernel
theorem dX3_init_41 : decode cX3_init 41 = .ok (.dup, 1) := by decide +kernel
theorem dX3_init_42 : decode cX3_init 42 = .ok (.invokespecial 32, 3) := by decide +kernel
theorem dX3_init_45 : decode cX3_init 45 = .ok (.putfield 33, 3) := by decide +kernel
theorem dX3_init_48 : decode cX3_init 48 = .ok (.return_, 1) := by decide +kernel
set_option maxRecDepth 20000 in
theorem ggX3_takeOver_X7_takeOver : GoodIn wsX3_takeOver wsX7_takeOver := goodIn_r _ [9, 10, 11, 12, 44, 45, 46] (by decide +kernel) (by decide +kernel)
set_option maxRecDepth 20000 in
theorem gX3_takeOver_X7_takeOver : GoodIn wsX3_takeOver (wsV RX3 37 RX7 yX7_takeOver wsX7_takeOver) := goodIn_app (goodIn_of _ (by decide +kernel)) ggX3_takeOver_X7_takeOver
set_option maxRecDepth 20000 in
theorem ggX3_takeOver_X6_takeOver : GoodIn wsX3_takeOver wsX6_takeOver := goodIn_r _ [17, 18, 19, 20, 21, 22, 23, 47, 48] (by decide +kernel) (by decide +kernel)
set_option maxRecDepth 20000 in
theorem gX3_takeOver_X6_takeOver : GoodIn wsX3_takeOver (wsV RX3 41 RX6 yX6_takeOver wsX6_takeOver) := goodIn_app (goodIn_of _ (by decide +kernel)) ggX3_takeOver_X6_takeOver
set_option maxRecDepth 20000 in
theorem ggX3_takeOver_X0_takeOver : GoodIn wsX3_takeOver wsX0_takeOver := goodIn_r _ [28, 29, 30, 31, 21, 22, 23, 49, 50] (by decide +kernel) (by decide +kernel)
set_option maxRecDepth 20000 in
theorem gX3_takeOver_X0_takeOver : GoodIn wsX3_takeOver (wsV RX3 44 RX0 yX0_takeOver wsX0_takeOver) := goodIn_app (goodIn_of _ (by decide +kernel)) ggX3_takeOver_X0_takeOver
set_option maxRecDepth 20000 in
theorem ggX3_takeOver_X1_takeOver : GoodIn wsX3_takeOver wsX1_takeOver := goodIn_r _ [36, 37, 38, 39, 51, 52, 53] (by decide +kernel) (by decide +kernel)
set_option maxRecDepth 20000 in
theorem gX3_takeOver_X1_takeOver : GoodIn wsX3_takeOver (wsV RX3 47 RX1 yX1_takeOver wsX1_takeOver) := goodIn_app (goodIn_of _ (by decide +kernel)) ggX3_takeOver_X1_takeOver
theorem dX3_takeOver_0 : decode cX3_takeOver 0 = .ok (.aload_n 0, 1) := by decide +kernel
theorem dX3_takeOver_1 : decode cX3_takeOver 1 = .ok (.getfield 10, 3) := by decide +kernel
theorem dX3_takeOver_4 : decode cX3_takeOver 4 = .ok (.aload_n 1, 1) := by decide +kernel
theorem dX3_takeOver_5 : decode cX3_takeOver 5 = .ok (.getfield 10, 3) := by decide +kernel
theorem dX3_takeOver_8 : decode cX3_takeOver 8 = .ok (.invokevirtual 37, 3) := by decide +kernel
theorem dX3_takeOver_11 : decode cX3_takeOver 11 = .ok (.aload_n 0, 1) := by decide +kernel
theorem dX3_takeOver_12 : decode cX3_takeOver 12 = .ok (.getfield 19, 3) := by decide +kernel
theorem dX3_takeOver_15 : decode cX3_takeOver 15 = .ok (.aload_n 1, 1) := by decide +kernel
theorem dX3_takeOver_16 : decode cX3_takeOver 16 = .ok (.getfield 19, 3) := by decide +kernel
theorem dX3_takeOver_19 : decode cX3_takeOver 19 = .ok (.invokevirtual 41, 3) := by decide +kernel
theorem dX3_takeOver_22 : decode cX3_takeOver 22 = .ok (.aload_n 0, 1) := by decide +kernel
theorem dX3_takeOver_23 : decode cX3_takeOver 23 = .ok (.getfield 26, 3) := by decide +kernel
theorem dX3_takeOver_26 : decode cX3_takeOver 26 = .ok (.aload_n 1, 1) := by decide +kernel
theorem dX3_takeOver_27 : decode cX3_takeOver 27 = .ok (.getfield 26, 3) := by decide +kernel
theorem dX3_takeOver_30 : decode cX3_takeOver 30 = .ok (.invokevirtual 44, 3) := by decide +kernel
theorem dX3_takeOver_33 : decode cX3_takeOver 33 = .ok (.aload_n 0, 1) := by decide +kernel
theorem dX3_takeOver_34 : decode cX3_takeOver 34 = .ok (.getfield 33, 3) := by decide +kernel
theorem dX3_takeOver_37 : decode cX3_takeOver 37 = .ok (.aload_n 1, 1) := by decide +kernel
theorem dX3_takeOver_38 : decode cX3_takeOver 38 = .ok (.getfield 33, 3) := by decide +kernel
theorem dX3_takeOver_41 : decode cX3_takeOver 41 = .ok (.invokevirtual 47, 3) := by decide +kernel
theorem dX3_takeOver_44 : decode cX3_takeOver 44 = .ok (.return_, 1) := by decide +kernel
set_option maxRecDepth 20000 in
theorem ggX4_init_X0_init : GoodIn wsX4_init wsX0_init := goodIn_r _ [17, 18, 2, 3, 4, 19, 30, 31] (by decide +kernel) (by decide +kernel)
set_option maxRecDepth 20000 in
theorem gX4_init_X0_init_n23 : GoodIn wsX4_init (wsX0_init) := ggX4_init_X0_init
set_option maxRecDepth 20000 in
theorem ggX4_init_X2_init : GoodIn wsX4_init wsX2_init := goodIn_r _ [21, 22, 2, 3, 4, 23, 32, 33, 34, 35, 36, 37] (by decide +kernel) (by decide +kernel)
set_option maxRecDepth 20000 in
theorem gX4_init_X2_init_n30 : GoodIn wsX4_init (wsX2_init) := ggX4_init_X2_init
theorem dX4_init_0 : decode cX4_init 0 = .ok (.aload_n 0, 1) := by decide +kernel
theorem dX4_init_1 : decode cX4_init 1 = .ok (.invokespecial 3, 3) := by decide +kernel
theorem dX4_init_4 : decode cX4_init 4 = .ok (.aload_n 0, 1) := by decide +kernel
theorem dX4_init_5 : decode cX4_init 5 = .ok (.bipush 64, 2) := by decide +kernel
theorem dX4_init_7 : decode cX4_init 7 = .ok (.newarray .int, 2) := by decide +kernel
theorem dX4_init_9 : decode cX4_init 9 = .ok (.putfield 9, 3) := by decide +kernel
theorem dX4_init_12 : decode cX4_init 12 = .ok (.aload_n 0, 1) := by decide +kernel
theorem dX4_init_13 : decode cX4_init 13 = .ok (.bipush 64, 2) := by decide +kernel
theorem dX4_init_15 : decode cX4_init 15 = .ok (.newarray .int, 2) := by decide +kernel
theorem dX4_init_17 : decode cX4_init 17 = .ok (.putfield 15, 3) := by decide +kernel
theorem dX4_init_20 : decode cX4_init 20 = .ok (.aload_n 0, 1) := by decide +kernel
theorem dX4_init_21 : decode cX4_init 21 = .ok (.bipush 65, 2) := by decide +kernel
theorem dX4_init_23 : decode cX4_init 23 = .ok (.newarray .int, 2) := by decide +kernel
theorem dX4_init_25 : decode cX4_init 25 = .ok (.putfield 18, 3) := by decide +kernel
theorem dX4_init_28 : decode cX4_init 28 = .ok (.aload_n 0, 1) := by decide +kernel
theorem dX4_init_29 : decode cX4_init 29 = .ok (.new 21, 3) := by decide +kernel
theorem dX4_init_32 : decode cX4_init 32 = .ok (.dup, 1) := by decide +kernel
theorem dX4_init_33 : decode cX4_init 33 = .ok (.invokespecial 23, 3) := by decide +kernel
theorem dX4_init_36 : decode cX4_init 36 = .ok (.putfield 24, 3) := by decide +kernel
theorem dX4_init_39 : decode cX4_init 39 = .ok (.aload_n 0, 1) := by decide +kernel
theorem dX4_init_40 : decode cX4_init 40 = .ok (.new 28, 3) := by decide +kernel
theorem dX4_init_43 : decode cX4_init 43 = .ok (.dup, 1) := by decide +kernel
theorem dX4_init_44 : decode cX4_init 44 = .ok (.invokespecial 30, 3) := by decide +kernel
theorem dX4_init_47 : decode cX4_init 47 = .ok (.putfield 31, 3) := by decide +kernel
theorem dX4_init_50 : decode cX4_init 50 = .ok (.return_, 1) := by decide +kernel
theorem dX4_keepOnly_0 : decode cX4_keepOnly 0 = .ok (.iload_n 1, 1) := by decide +kernel
theorem dX4_keepOnly_1 : decode cX4_keepOnly 1 = .ok (.ifCond .lt 29, 3) := by decide +kernel
theorem dX4_keepOnly_4 : decode cX4_keepOnly 4 = .ok (.iload_n 1, 1) := by decide +kernel
theorem dX4_keepOnly_5 : decode cX4_keepOnly 5 = .ok (.aload_n 0, 1) := by decide +kernel
theorem dX4_keepOnly_6 : decode cX4_keepOnly 6 = .ok (.getfield 35, 3) := by decide +kernel
theorem dX4_keepOnly_9 : decode cX4_keepOnly 9 = .ok (.if_icmp .ge 21, 3) := by decide +kernel
theorem dX4_keepOnly_12 : decode cX4_keepOnly 12 = .ok (.aload_n 0, 1) := by decide +kernel
theorem dX4_keepOnly_13 : decode cX4_keepOnly 13 = .ok (.iload_n 1, 1) := by decide +kernel
theorem dX4_keepOnly_14 : decode cX4_keepOnly 14 = .ok (.putfield 35, 3) := by decide +kernel
theorem dX4_keepOnly_17 : decode cX4_keepOnly 17 = .ok (.aload_n 0, 1) := by decide +kernel
theorem dX4_keepOnly_18 : decode cX4_keepOnly 18 = .ok (.getfield 24, 3) := by decide +kernel
theorem dX4_keepOnly_21 : decode cX4_keepOnly 21 = .ok (.aload_n 0, 1) := by decide +kernel
theorem dX4_keepOnly_22 : decode cX4_keepOnly 22 = .ok (.getfield 18, 3) := by decide +kernel
theorem dX4_keepOnly_25 : decode cX4_keepOnly 25 = .ok (.iload_n 1, 1) := by decide +kernel
theorem dX4_keepOnly_26 : decode cX4_keepOnly 26 = .ok (.iaload, 1) := by decide +kernel
theorem dX4_keepOnly_27 : decode cX4_keepOnly 27 = .ok (.putfield 39, 3) := by decide +kernel
theorem dX4_keepOnly_30 : decode cX4_keepOnly 30 = .ok (.return_, 1) := by decide +kernel
set_option maxRecDepth 20000 in
theorem ggX4_settle_X4_choose : GoodIn wsX4_settle wsX4_choose := goodIn_r _ [16, 6, 7, 9, 17, 18, 19, 20, 21, 22, 23, 24, 25, 26, 27, 28, 29, 30, 31, 32, 33, 34, 35, 36, 37, 2, 3, 4, 38, 39, 40, 41, 42, 43, 44, 45, 46, 47, 48, 49, 50, 51, 52, 53, 54, 55, 56, 57, 58, 59, 60, 61, 62, 63, 64, 65, 66, 67, 68, 69, 70, 71, 72, 73, 74, 75, 76, 77, 78, 79, 80, 81, 82, 103, 104, 105, 106, 107, 108, 111, 112, 113, 114, 115, 116, 117, 118, 119, 120, 121] (by decide +kernel) (by decide +kernel)
set_option maxRecDepth 20000 in
theorem gX4_settle_X4_choose : GoodIn wsX4_settle (wsV RX4 48 RX4 yX4_choose wsX4_choose) := goodIn_app (goodIn_of _ (by decide +kernel)) ggX4_settle_X4_choose
set_option maxRecDepth 20000 in
theorem ggX4_settle_X2_fill : GoodIn wsX4_settle wsX2_fill := goodIn_r _ [21, 22, 23, 24, 25, 26, 27, 28, 29, 30, 31, 32, 33, 34, 35, 36, 37, 2, 3, 4, 38, 39, 40, 41, 42, 43, 44, 45, 46, 47, 48, 49, 50, 51, 52, 53, 54, 55, 56, 57, 58, 59, 60, 61, 62, 63, 64, 65, 66, 67, 68, 69, 70, 71, 72, 111, 112, 113, 114, 115, 116, 117, 118, 119, 120, 121] (by decide +kernel) (by decide +kernel)
set_option maxRecDepth 20000 in
theorem gX4_settle_X2_fill : GoodIn wsX4_settle (wsV RX4 52 RX2 yX2_fill wsX2_fill) := goodIn_app (goodIn_of _ (by decide +kernel)) ggX4_settle_X2_fill
set_option maxRecDepth 20000 in
theorem ggX4_settle_X2_write : GoodIn wsX4_settle wsX2_write := goodIn_r _ [86, 24, 27, 28, 26, 29, 30, 87, 88, 89, 90, 91, 92, 93, 94, 95, 96, 97, 98, 99, 100, 20, 101, 102, 116, 117, 118, 119, 120, 121, 109, 110] (by decide +kernel) (by decide +kernel)
set_option maxRecDepth 20000 in
theorem gX4_settle_X2_write : GoodIn wsX4_settle (wsV RX4 56 RX2 yX2_write wsX2_write) := goodIn_app (goodIn_of _ (by decide +kernel)) ggX4_settle_X2_write
theorem dX4_settle_0 : decode cX4_settle 0 = .ok (.iload_n 3, 1) := by decide +kernel
theorem dX4_settle_1 : decode cX4_settle 1 = .ok (.bipush 64, 2) := by decide +kernel
theorem dX4_settle_3 : decode cX4_settle 3 = .ok (.invokestatic 42, 3) := by decide +kernel
theorem dX4_settle_6 : decode cX4_settle 6 = .ok (.istore 4, 2) := by decide +kernel
theorem dX4_settle_8 : decode cX4_settle 8 = .ok (.aload_n 0, 1) := by decide +kernel
theorem dX4_settle_9 : decode cX4_settle 9 = .ok (.getfield 35, 3) := by decide +kernel
theorem dX4_settle_12 : decode cX4_settle 12 = .ok (.istore 5, 2) := by decide +kernel
theorem dX4_settle_14 : decode cX4_settle 14 = .ok (.iload 5, 2) := by decide +kernel
theorem dX4_settle_16 : decode cX4_settle 16 = .ok (.iload 4, 2) := by decide +kernel
theorem dX4_settle_18 : decode cX4_settle 18 = .ok (.if_icmp .ge 77, 3) := by decide +kernel
theorem dX4_settle_21 : decode cX4_settle 21 = .ok (.aload_n 0, 1) := by decide +kernel
theorem dX4_settle_22 : decode cX4_settle 22 = .ok (.aload_n 1, 1) := by decide +kernel
theorem dX4_settle_23 : decode cX4_settle 23 = .ok (.aload_n 2, 1) := by decide +kernel
theorem dX4_settle_24 : decode cX4_settle 24 = .ok (.iload 5, 2) := by decide +kernel
theorem dX4_settle_26 : decode cX4_settle 26 = .ok (.invokevirtual 48, 3) := by decide +kernel
theorem dX4_settle_29 : decode cX4_settle 29 = .ok (.aload_n 0, 1) := by decide +kernel
theorem dX4_settle_30 : decode cX4_settle 30 = .ok (.getfield 31, 3) := by decide +kernel
theorem dX4_settle_33 : decode cX4_settle 33 = .ok (.aload_n 1, 1) := by decide +kernel
theorem dX4_settle_34 : decode cX4_settle 34 = .ok (.aload_n 2, 1) := by decide +kernel
theorem dX4_settle_35 : decode cX4_settle 35 = .ok (.iload 5, 2) := by decide +kernel
theorem dX4_settle_37 : decode cX4_settle 37 = .ok (.aload_n 0, 1) := by decide +kernel
theorem dX4_settle_38 : decode cX4_settle 38 = .ok (.getfield 9, 3) := by decide +kernel
theorem dX4_settle_41 : decode cX4_settle 41 = .ok (.iload 5, 2) := by decide +kernel
theorem dX4_settle_43 : decode cX4_settle 43 = .ok (.iaload, 1) := by decide +kernel
theorem dX4_settle_44 : decode cX4_settle 44 = .ok (.invokevirtual 52, 3) := by decide +kernel
theorem dX4_settle_47 : decode cX4_settle 47 = .ok (.aload_n 0, 1) := by decide +kernel
theorem dX4_settle_48 : decode cX4_settle 48 = .ok (.getfield 31, 3) := by decide +kernel
theorem dX4_settle_51 : decode cX4_settle 51 = .ok (.aload_n 0, 1) := by decide +kernel
theorem dX4_settle_52 : decode cX4_settle 52 = .ok (.getfield 24, 3) := by decide +kernel
theorem dX4_settle_55 : decode cX4_settle 55 = .ok (.aload_n 0, 1) := by decide +kernel
theorem dX4_settle_56 : decode cX4_settle 56 = .ok (.getfield 15, 3) := by decide +kernel
theorem dX4_settle_59 : decode cX4_settle 59 = .ok (.iload 5, 2) := by decide +kernel
theorem dX4_settle_61 : decode cX4_settle 61 = .ok (.iaload, 1) := by decide +kernel
theorem dX4_settle_62 : decode cX4_settle 62 = .ok (.invokevirtual 56, 3) := by decide +kernel
theorem dX4_settle_65 : decode cX4_settle 65 = .ok (.aload_n 0, 1) := by decide +kernel
theorem dX4_settle_66 : decode cX4_settle 66 = .ok (.getfield 18, 3) := by decide +kernel
theorem dX4_settle_69 : decode cX4_settle 69 = .ok (.iload 5, 2) := by decide +kernel
theorem dX4_settle_71 : decode cX4_settle 71 = .ok (.iconst 1, 1) := by decide +kernel
theorem dX4_settle_72 : decode cX4_settle 72 = .ok (.iadd, 1) := by decide +kernel
theorem dX4_settle_73 : decode cX4_settle 73 = .ok (.aload_n 0, 1) := by decide +kernel
theorem dX4_settle_74 : decode cX4_settle 74 = .ok (.getfield 24, 3) := by decide +kernel
theorem dX4_settle_77 : decode cX4_settle 77 = .ok (.getfield 39, 3) := by decide +kernel
theorem dX4_settle_80 : decode cX4_settle 80 = .ok (.iastore, 1) := by decide +kernel
theorem dX4_settle_81 : decode cX4_settle 81 = .ok (.aload_n 0, 1) := by decide +kernel
theorem dX4_settle_82 : decode cX4_settle 82 = .ok (.iload 5, 2) := by decide +kernel
theorem dX4_settle_84 : decode cX4_settle 84 = .ok (.iconst 1, 1) := by decide +kernel
theorem dX4_settle_85 : decode cX4_settle 85 = .ok (.iadd, 1) := by decide +kernel
theorem dX4_settle_86 : decode cX4_settle 86 = .ok (.putfield 35, 3) := by decide +kernel
theorem dX4_settle_89 : decode cX4_settle 89 = .ok (.iinc 5 1, 3) := by decide +kernel
theorem dX4_settle_92 : decode cX4_settle 92 = .ok (.goto (-78), 3) := by decide +kernel
theorem dX4_settle_95 : decode cX4_settle 95 = .ok (.return_, 1) := by decide +kernel
set_option maxRecDepth 20000 in
theorem ggX4_choose_X2_fill : GoodIn wsX4_choose wsX2_fill := goodIn_r _ [8, 9, 10, 11, 12, 13, 14, 15, 16, 17, 18, 19, 20, 21, 22, 23, 24, 25, 26, 27, 28, 29, 30, 31, 32, 33, 34, 35, 36, 37, 38, 39, 40, 41, 42, 43, 44, 45, 46, 47, 48, 49, 50, 51, 52, 53, 54, 55, 56, 57, 58, 59, 60, 61, 62, 79, 80, 81, 82, 83, 84, 85, 86, 87, 88, 89] (by decide +kernel) (by decide +kernel)
set_option maxRecDepth 20000 in
theorem gX4_choose_X2_fill : GoodIn wsX4_choose (wsV RX4 52 RX2 yX2_fill wsX2_fill) := goodIn_app (goodIn_of _ (by decide +kernel)) ggX4_choose_X2_fill
set_option maxRecDepth 20000 in
theorem ggX4_choose_X2_costBy : GoodIn wsX4_choose wsX2_costBy := goodIn_r _ [66, 13, 14, 16, 17, 67, 41, 68, 69, 70, 71, 7, 72, 84, 85, 86, 87, 88, 89] (by decide +kernel) (by decide +kernel)
set_option maxRecDepth 20000 in
theorem gX4_choose_X2_costBy : GoodIn wsX4_choose (wsV RX4 60 RX2 yX2_costBy wsX2_costBy) := goodIn_app (goodIn_of _ (by decide +kernel)) ggX4_choose_X2_costBy
theorem dX4_choose_0 : decode cX4_choose 0 = .ok (.bipush (-6), 2) := by decide +kernel
theorem dX4_choose_2 : decode cX4_choose 2 = .ok (.istore 4, 2) := by decide +kernel
theorem dX4_choose_4 : decode cX4_choose 4 = .ok (.iconst 0, 1) := by decide +kernel
theorem dX4_choose_5 : decode cX4_choose 5 = .ok (.istore 5, 2) := by decide +kernel
theorem dX4_choose_7 : decode cX4_choose 7 = .ok (.iload 5, 2) := by decide +kernel
theorem dX4_choose_9 : decode cX4_choose 9 = .ok (.iconst 4, 1) := by decide +kernel
theorem dX4_choose_10 : decode cX4_choose 10 = .ok (.if_icmp .ge 89, 3) := by decide +kernel
theorem dX4_choose_13 : decode cX4_choose 13 = .ok (.aload_n 0, 1) := by decide +kernel
theorem dX4_choose_14 : decode cX4_choose 14 = .ok (.getfield 31, 3) := by decide +kernel
theorem dX4_choose_17 : decode cX4_choose 17 = .ok (.aload_n 1, 1) := by decide +kernel
theorem dX4_choose_18 : decode cX4_choose 18 = .ok (.aload_n 2, 1) := by decide +kernel
theorem dX4_choose_19 : decode cX4_choose 19 = .ok (.iload_n 3, 1) := by decide +kernel
theorem dX4_choose_20 : decode cX4_choose 20 = .ok (.iload 5, 2) := by decide +kernel
theorem dX4_choose_22 : decode cX4_choose 22 = .ok (.invokevirtual 52, 3) := by decide +kernel
theorem dX4_choose_25 : decode cX4_choose 25 = .ok (.iconst 0, 1) := by decide +kernel
theorem dX4_choose_26 : decode cX4_choose 26 = .ok (.istore 6, 2) := by decide +kernel
theorem dX4_choose_28 : decode cX4_choose 28 = .ok (.iload 6, 2) := by decide +kernel
theorem dX4_choose_30 : decode cX4_choose 30 = .ok (.bipush 8, 2) := by decide +kernel
theorem dX4_choose_32 : decode cX4_choose 32 = .ok (.if_icmp .gt 61, 3) := by decide +kernel
theorem dX4_choose_35 : decode cX4_choose 35 = .ok (.aload_n 0, 1) := by decide +kernel
theorem dX4_choose_36 : decode cX4_choose 36 = .ok (.getfield 31, 3) := by decide +kernel
theorem dX4_choose_39 : decode cX4_choose 39 = .ok (.iload 6, 2) := by decide +kernel
theorem dX4_choose_41 : decode cX4_choose 41 = .ok (.invokevirtual 60, 3) := by decide +kernel
theorem dX4_choose_44 : decode cX4_choose 44 = .ok (.istore 7, 2) := by decide +kernel
theorem dX4_choose_46 : decode cX4_choose 46 = .ok (.iload 7, 2) := by decide +kernel
theorem dX4_choose_48 : decode cX4_choose 48 = .ok (.bipush (-6), 2) := by decide +kernel
theorem dX4_choose_50 : decode cX4_choose 50 = .ok (.if_icmp .eq 37, 3) := by decide +kernel
theorem dX4_choose_53 : decode cX4_choose 53 = .ok (.iload 4, 2) := by decide +kernel
theorem dX4_choose_55 : decode cX4_choose 55 = .ok (.bipush (-6), 2) := by decide +kernel
theorem dX4_choose_57 : decode cX4_choose 57 = .ok (.if_icmp .eq 10, 3) := by decide +kernel
theorem dX4_choose_60 : decode cX4_choose 60 = .ok (.iload 7, 2) := by decide +kernel
theorem dX4_choose_62 : decode cX4_choose 62 = .ok (.iload 4, 2) := by decide +kernel
theorem dX4_choose_64 : decode cX4_choose 64 = .ok (.if_icmp .ge 23, 3) := by decide +kernel
theorem dX4_choose_67 : decode cX4_choose 67 = .ok (.iload 7, 2) := by decide +kernel
theorem dX4_choose_69 : decode cX4_choose 69 = .ok (.istore 4, 2) := by decide +kernel
theorem dX4_choose_71 : decode cX4_choose 71 = .ok (.aload_n 0, 1) := by decide +kernel
theorem dX4_choose_72 : decode cX4_choose 72 = .ok (.getfield 9, 3) := by decide +kernel
theorem dX4_choose_75 : decode cX4_choose 75 = .ok (.iload_n 3, 1) := by decide +kernel
theorem dX4_choose_76 : decode cX4_choose 76 = .ok (.iload 5, 2) := by decide +kernel
theorem dX4_choose_78 : decode cX4_choose 78 = .ok (.iastore, 1) := by decide +kernel
theorem dX4_choose_79 : decode cX4_choose 79 = .ok (.aload_n 0, 1) := by decide +kernel
theorem dX4_choose_80 : decode cX4_choose 80 = .ok (.getfield 15, 3) := by decide +kernel
theorem dX4_choose_83 : decode cX4_choose 83 = .ok (.iload_n 3, 1) := by decide +kernel
theorem dX4_choose_84 : decode cX4_choose 84 = .ok (.iload 6, 2) := by decide +kernel
theorem dX4_choose_86 : decode cX4_choose 86 = .ok (.iastore, 1) := by decide +kernel
theorem dX4_choose_87 : decode cX4_choose 87 = .ok (.iinc 6 1, 3) := by decide +kernel
theorem dX4_choose_90 : decode cX4_choose 90 = .ok (.goto (-62), 3) := by decide +kernel
theorem dX4_choose_93 : decode cX4_choose 93 = .ok (.iinc 5 1, 3) := by decide +kernel
theorem dX4_choose_96 : decode cX4_choose 96 = .ok (.goto (-89), 3) := by decide +kernel
theorem dX4_choose_99 : decode cX4_choose 99 = .ok (.return_, 1) := by decide +kernel
set_option maxRecDepth 20000 in
theorem ggX4_costOf_X2_fill : GoodIn wsX4_costOf wsX2_fill := goodIn_r _ [6, 7, 8, 9, 10, 11, 12, 13, 14, 15, 16, 17, 18, 19, 20, 21, 22, 23, 24, 25, 26, 27, 28, 29, 30, 31, 32, 33, 34, 35, 36, 37, 38, 39, 40, 41, 42, 43, 44, 45, 46, 47, 48, 49, 50, 51, 52, 53, 54, 55, 56, 57, 58, 59, 60, 77, 78, 79, 80, 81, 82, 83, 84, 85, 86, 87] (by decide +kernel) (by decide +kernel)
set_option maxRecDepth 20000 in
theorem gX4_costOf_X2_fill : GoodIn wsX4_costOf (wsV RX4 52 RX2 yX2_fill wsX2_fill) := goodIn_app (goodIn_of _ (by decide +kernel)) ggX4_costOf_X2_fill
set_option maxRecDepth 20000 in
theorem ggX4_costOf_X2_costBy : GoodIn wsX4_costOf wsX2_costBy := goodIn_r _ [64, 11, 12, 14, 15, 65, 39, 66, 67, 68, 69, 5, 70, 82, 83, 84, 85, 86, 87] (by decide +kernel) (by decide +kernel)
set_option maxRecDepth 20000 in
theorem gX4_costOf_X2_costBy : GoodIn wsX4_costOf (wsV RX4 60 RX2 yX2_costBy wsX2_costBy) := goodIn_app (goodIn_of _ (by decide +kernel)) ggX4_costOf_X2_costBy
theorem dX4_costOf_0 : decode cX4_costOf 0 = .ok (.aload_n 0, 1) := by decide +kernel
theorem dX4_costOf_1 : decode cX4_costOf 1 = .ok (.getfield 31, 3) := by decide +kernel
theorem dX4_costOf_4 : decode cX4_costOf 4 = .ok (.aload_n 1, 1) := by decide +kernel
theorem dX4_costOf_5 : decode cX4_costOf 5 = .ok (.aload_n 2, 1) := by decide +kernel
theorem dX4_costOf_6 : decode cX4_costOf 6 = .ok (.iload_n 3, 1) := by decide +kernel
theorem dX4_costOf_7 : decode cX4_costOf 7 = .ok (.iload 4, 2) := by decide +kernel
theorem dX4_costOf_9 : decode cX4_costOf 9 = .ok (.invokevirtual 52, 3) := by decide +kernel
theorem dX4_costOf_12 : decode cX4_costOf 12 = .ok (.aload_n 0, 1) := by decide +kernel
theorem dX4_costOf_13 : decode cX4_costOf 13 = .ok (.getfield 31, 3) := by decide +kernel
theorem dX4_costOf_16 : decode cX4_costOf 16 = .ok (.iload 5, 2) := by decide +kernel
theorem dX4_costOf_18 : decode cX4_costOf 18 = .ok (.invokevirtual 60, 3) := by decide +kernel
theorem dX4_costOf_21 : decode cX4_costOf 21 = .ok (.ireturn, 1) := by decide +kernel
theorem dX4_settledWith_0 : decode cX4_settledWith 0 = .ok (.iconst 0, 1) := by decide +kernel
theorem dX4_settledWith_1 : decode cX4_settledWith 1 = .ok (.istore_n 2, 1) := by decide +kernel
theorem dX4_settledWith_2 : decode cX4_settledWith 2 = .ok (.iconst 0, 1) := by decide +kernel
theorem dX4_settledWith_3 : decode cX4_settledWith 3 = .ok (.istore_n 3, 1) := by decide +kernel
theorem dX4_settledWith_4 : decode cX4_settledWith 4 = .ok (.iload_n 3, 1) := by decide +kernel
theorem dX4_settledWith_5 : decode cX4_settledWith 5 = .ok (.aload_n 0, 1) := by decide +kernel
theorem dX4_settledWith_6 : decode cX4_settledWith 6 = .ok (.getfield 35, 3) := by decide +kernel
theorem dX4_settledWith_9 : decode cX4_settledWith 9 = .ok (.if_icmp .ge 22, 3) := by decide +kernel
theorem dX4_settledWith_12 : decode cX4_settledWith 12 = .ok (.aload_n 0, 1) := by decide +kernel
theorem dX4_settledWith_13 : decode cX4_settledWith 13 = .ok (.getfield 15, 3) := by decide +kernel
theorem dX4_settledWith_16 : decode cX4_settledWith 16 = .ok (.iload_n 3, 1) := by decide +kernel
theorem dX4_settledWith_17 : decode cX4_settledWith 17 = .ok (.iaload, 1) := by decide +kernel
theorem dX4_settledWith_18 : decode cX4_settledWith 18 = .ok (.iload_n 1, 1) := by decide +kernel
theorem dX4_settledWith_19 : decode cX4_settledWith 19 = .ok (.if_icmp .ne 6, 3) := by decide +kernel
theorem dX4_settledWith_22 : decode cX4_settledWith 22 = .ok (.iinc 2 1, 3) := by decide +kernel
theorem dX4_settledWith_25 : decode cX4_settledWith 25 = .ok (.iinc 3 1, 3) := by decide +kernel
theorem dX4_settledWith_28 : decode cX4_settledWith 28 = .ok (.goto (-24), 3) := by decide +kernel
theorem dX4_settledWith_31 : decode cX4_settledWith 31 = .ok (.iload_n 2, 1) := by decide +kernel
theorem dX4_settledWith_32 : decode cX4_settledWith 32 = .ok (.ireturn, 1) := by decide +kernel
set_option maxRecDepth 20000 in
theorem ggX5_init_X6_init : GoodIn wsX5_init wsX6_init := goodIn_r _ [13, 14, 2, 3, 15, 16, 23, 24] (by decide +kernel) (by decide +kernel)
set_option maxRecDepth 20000 in
theorem gX5_init_X6_init_n11 : GoodIn wsX5_init (wsX6_init) := ggX5_init_X6_init
set_option maxRecDepth 20000 in
theorem ggX5_init_X1_init : GoodIn wsX5_init wsX1_init := goodIn_r _ [18, 19, 2, 3, 20, 21, 22, 28, 29, 30] (by decide +kernel) (by decide +kernel)
set_option maxRecDepth 20000 in
theorem gX5_init_X1_init_n20 : GoodIn wsX5_init (wsX1_init) := ggX5_init_X1_init
theorem dX5_init_0 : decode cX5_init 0 = .ok (.aload_n 0, 1) := by decide +kernel
theorem dX5_init_1 : decode cX5_init 1 = .ok (.invokespecial 3, 3) := by decide +kernel
theorem dX5_init_4 : decode cX5_init 4 = .ok (.aload_n 0, 1) := by decide +kernel
theorem dX5_init_5 : decode cX5_init 5 = .ok (.new 9, 3) := by decide +kernel
theorem dX5_init_8 : decode cX5_init 8 = .ok (.dup, 1) := by decide +kernel
theorem dX5_init_9 : decode cX5_init 9 = .ok (.invokespecial 11, 3) := by decide +kernel
theorem dX5_init_12 : decode cX5_init 12 = .ok (.putfield 12, 3) := by decide +kernel
theorem dX5_init_15 : decode cX5_init 15 = .ok (.aload_n 0, 1) := by decide +kernel
theorem dX5_init_16 : decode cX5_init 16 = .ok (.new 18, 3) := by decide +kernel
theorem dX5_init_19 : decode cX5_init 19 = .ok (.dup, 1) := by decide +kernel
theorem dX5_init_20 : decode cX5_init 20 = .ok (.invokespecial 20, 3) := by decide +kernel
theorem dX5_init_23 : decode cX5_init 23 = .ok (.putfield 21, 3) := by decide +kernel
theorem dX5_init_26 : decode cX5_init 26 = .ok (.return_, 1) := by decide +kernel
set_option maxRecDepth 20000 in
theorem ggX5_takeAll_X1_forget : GoodIn wsX5_takeAll wsX1_forget := goodIn_r _ [11, 12, 13, 14, 117, 118, 119] (by decide +kernel) (by decide +kernel)
set_option maxRecDepth 20000 in
theorem gX5_takeAll_X1_forget : GoodIn wsX5_takeAll (wsV RX5 32 RX1 yX1_forget wsX1_forget) := goodIn_app (goodIn_of _ (by decide +kernel)) ggX5_takeAll_X1_forget
set_option maxRecDepth 20000 in
theorem ggX5_takeAll_X8_quotientUp : GoodIn wsX5_takeAll wsX8_quotientUp := goodIn_r _ [17, 18, 19, 16, 20] (by decide +kernel) (by decide +kernel)
set_option maxRecDepth 20000 in
theorem gX5_takeAll_X8_quotientUp_n40 : GoodIn wsX5_takeAll (wsX8_quotientUp) := ggX5_takeAll_X8_quotientUp
set_option maxRecDepth 20000 in
theorem ggX5_takeAll_X1_isTold : GoodIn wsX5_takeAll wsX1_isTold := goodIn_r _ [24, 12, 117, 118, 119] (by decide +kernel) (by decide +kernel)
set_option maxRecDepth 20000 in
theorem gX5_takeAll_X1_isTold : GoodIn wsX5_takeAll (wsV RX5 44 RX1 yX1_isTold wsX1_isTold) := goodIn_app (goodIn_of _ (by decide +kernel)) ggX5_takeAll_X1_isTold
set_option maxRecDepth 20000 in
theorem ggX5_takeAll_X7_endOfBlock : GoodIn wsX5_takeAll wsX7_endOfBlock := goodIn_r _ [29, 30, 31, 32, 33, 34, 112, 113, 114] (by decide +kernel) (by decide +kernel)
set_option maxRecDepth 20000 in
theorem gX5_takeAll_X7_endOfBlock : GoodIn wsX5_takeAll (wsV RX5 48 RX7 yX7_endOfBlock wsX7_endOfBlock) := goodIn_app (goodIn_of _ (by decide +kernel)) ggX5_takeAll_X7_endOfBlock
set_option maxRecDepth 20000 in
theorem ggX5_takeAll_X5_takeBlock : GoodIn wsX5_takeAll wsX5_takeBlock := goodIn_r _ [39, 3, 4, 40, 1, 2, 41, 42, 43, 38, 44, 6, 45, 46, 47, 48, 49, 50, 51, 52, 53, 54, 55, 56, 57, 58, 21, 22, 23, 10, 24, 12, 59, 16, 60, 61, 62, 63, 64, 65, 28, 66, 30, 67, 68, 69, 70, 71, 72, 73, 74, 75, 76, 77, 78, 79, 80, 81, 82, 83, 32, 33, 34, 84, 85, 86, 87, 88, 89, 90, 91, 92, 93, 94, 95, 96, 97, 98, 99, 100, 101, 102, 103, 104, 105, 106, 107, 108, 109, 112, 113, 114, 110, 111, 115, 116, 117, 118, 119] (by decide +kernel) (by decide +kernel)
set_option maxRecDepth 20000 in
theorem gX5_takeAll_X5_takeBlock : GoodIn wsX5_takeAll (wsV RX5 51 RX5 yX5_takeBlock wsX5_takeBlock) := goodIn_app (goodIn_of _ (by decide +kernel)) ggX5_takeAll_X5_takeBlock
set_option maxRecDepth 20000 in
theorem ggX5_takeAll_X5_fail : GoodIn wsX5_takeAll wsX5_fail := goodIn_r _ [48, 4, 49, 50, 1, 2, 51, 107, 108, 109, 117, 118, 119, 110, 111] (by decide +kernel) (by decide +kernel)
set_option maxRecDepth 20000 in
theorem gX5_takeAll_X5_fail : GoodIn wsX5_takeAll (wsV RX5 58 RX5 yX5_fail wsX5_fail) := goodIn_app (goodIn_of _ (by decide +kernel)) ggX5_takeAll_X5_fail
theorem dX5_takeAll_0 : decode cX5_takeAll 0 = .ok (.aload_n 0, 1) := by decide +kernel
theorem dX5_takeAll_1 : decode cX5_takeAll 1 = .ok (.getfield 12, 3) := by decide +kernel
theorem dX5_takeAll_4 : decode cX5_takeAll 4 = .ok (.iconst 0, 1) := by decide +kernel
theorem dX5_takeAll_5 : decode cX5_takeAll 5 = .ok (.putfield 25, 3) := by decide +kernel
theorem dX5_takeAll_8 : decode cX5_takeAll 8 = .ok (.aload_n 0, 1) := by decide +kernel
theorem dX5_takeAll_9 : decode cX5_takeAll 9 = .ok (.iconst 0, 1) := by decide +kernel
theorem dX5_takeAll_10 : decode cX5_takeAll 10 = .ok (.putfield 29, 3) := by decide +kernel
theorem dX5_takeAll_13 : decode cX5_takeAll 13 = .ok (.aload_n 0, 1) := by decide +kernel
theorem dX5_takeAll_14 : decode cX5_takeAll 14 = .ok (.getfield 21, 3) := by decide +kernel
theorem dX5_takeAll_17 : decode cX5_takeAll 17 = .ok (.invokevirtual 32, 3) := by decide +kernel
theorem dX5_takeAll_20 : decode cX5_takeAll 20 = .ok (.iload_n 3, 1) := by decide +kernel
theorem dX5_takeAll_21 : decode cX5_takeAll 21 = .ok (.aload_n 1, 1) := by decide +kernel
theorem dX5_takeAll_22 : decode cX5_takeAll 22 = .ok (.getfield 35, 3) := by decide +kernel
theorem dX5_takeAll_25 : decode cX5_takeAll 25 = .ok (.invokestatic 40, 3) := by decide +kernel
theorem dX5_takeAll_28 : decode cX5_takeAll 28 = .ok (.istore 4, 2) := by decide +kernel
theorem dX5_takeAll_30 : decode cX5_takeAll 30 = .ok (.iconst 0, 1) := by decide +kernel
theorem dX5_takeAll_31 : decode cX5_takeAll 31 = .ok (.istore 5, 2) := by decide +kernel
theorem dX5_takeAll_33 : decode cX5_takeAll 33 = .ok (.iload 5, 2) := by decide +kernel
theorem dX5_takeAll_35 : decode cX5_takeAll 35 = .ok (.iload 4, 2) := by decide +kernel
theorem dX5_takeAll_37 : decode cX5_takeAll 37 = .ok (.if_icmp .ge 32, 3) := by decide +kernel
theorem dX5_takeAll_40 : decode cX5_takeAll 40 = .ok (.aload_n 0, 1) := by decide +kernel
theorem dX5_takeAll_41 : decode cX5_takeAll 41 = .ok (.getfield 21, 3) := by decide +kernel
theorem dX5_takeAll_44 : decode cX5_takeAll 44 = .ok (.invokevirtual 44, 3) := by decide +kernel
theorem dX5_takeAll_47 : decode cX5_takeAll 47 = .ok (.ifCond .ne 22, 3) := by decide +kernel
theorem dX5_takeAll_50 : decode cX5_takeAll 50 = .ok (.aload_n 0, 1) := by decide +kernel
theorem dX5_takeAll_51 : decode cX5_takeAll 51 = .ok (.aload_n 1, 1) := by decide +kernel
theorem dX5_takeAll_52 : decode cX5_takeAll 52 = .ok (.aload_n 2, 1) := by decide +kernel
theorem dX5_takeAll_53 : decode cX5_takeAll 53 = .ok (.aload_n 1, 1) := by decide +kernel
theorem dX5_takeAll_54 : decode cX5_takeAll 54 = .ok (.iload 5, 2) := by decide +kernel
theorem dX5_takeAll_56 : decode cX5_takeAll 56 = .ok (.iload_n 3, 1) := by decide +kernel
theorem dX5_takeAll_57 : decode cX5_takeAll 57 = .ok (.invokevirtual 48, 3) := by decide +kernel
theorem dX5_takeAll_60 : decode cX5_takeAll 60 = .ok (.invokevirtual 51, 3) := by decide +kernel
theorem dX5_takeAll_63 : decode cX5_takeAll 63 = .ok (.iinc 5 1, 3) := by decide +kernel
theorem dX5_takeAll_66 : decode cX5_takeAll 66 = .ok (.goto (-33), 3) := by decide +kernel
theorem dX5_takeAll_69 : decode cX5_takeAll 69 = .ok (.aload_n 0, 1) := by decide +kernel
theorem dX5_takeAll_70 : decode cX5_takeAll 70 = .ok (.getfield 21, 3) := by decide +kernel
theorem dX5_takeAll_73 : decode cX5_takeAll 73 = .ok (.invokevirtual 44, 3) := by decide +kernel
theorem dX5_takeAll_76 : decode cX5_takeAll 76 = .ok (.ifCond .ne 24, 3) := by decide +kernel
theorem dX5_takeAll_79 : decode cX5_takeAll 79 = .ok (.aload_n 0, 1) := by decide +kernel
theorem dX5_takeAll_80 : decode cX5_takeAll 80 = .ok (.getfield 29, 3) := by decide +kernel
theorem dX5_takeAll_83 : decode cX5_takeAll 83 = .ok (.aload_n 2, 1) := by decide +kernel
theorem dX5_takeAll_84 : decode cX5_takeAll 84 = .ok (.getfield 55, 3) := by decide +kernel
theorem dX5_takeAll_87 : decode cX5_takeAll 87 = .ok (.if_icmp .ge 13, 3) := by decide +kernel
theorem dX5_takeAll_90 : decode cX5_takeAll 90 = .ok (.aload_n 0, 1) := by decide +kernel
theorem dX5_takeAll_91 : decode cX5_takeAll 91 = .ok (.iconst 4, 1) := by decide +kernel
theorem dX5_takeAll_92 : decode cX5_takeAll 92 = .ok (.aload_n 0, 1) := by decide +kernel
theorem dX5_takeAll_93 : decode cX5_takeAll 93 = .ok (.getfield 29, 3) := by decide +kernel
theorem dX5_takeAll_96 : decode cX5_takeAll 96 = .ok (.invokevirtual 58, 3) := by decide +kernel
theorem dX5_takeAll_99 : decode cX5_takeAll 99 = .ok (.pop, 1) := by decide +kernel
theorem dX5_takeAll_100 : decode cX5_takeAll 100 = .ok (.return_, 1) := by decide +kernel
set_option maxRecDepth 20000 in
theorem ggX5_takeBlock_X5_takeNumber : GoodIn wsX5_takeBlock wsX5_takeNumber := goodIn_r _ [10, 11, 1, 12, 13, 14, 9, 15, 2, 16, 17, 4, 5, 18, 19, 20, 21, 22, 23, 24, 25, 94, 95, 86, 87, 88, 96, 97, 98, 92, 93] (by decide +kernel) (by decide +kernel)
set_option maxRecDepth 20000 in
theorem gX5_takeBlock_X5_takeNumber : GoodIn wsX5_takeBlock (wsV RX5 61 RX5 yX5_takeNumber wsX5_takeNumber) := goodIn_app (goodIn_of _ (by decide +kernel)) ggX5_takeBlock_X5_takeNumber
set_option maxRecDepth 20000 in
theorem ggX5_takeBlock_X1_isTold : GoodIn wsX5_takeBlock wsX1_isTold := goodIn_r _ [30, 31, 96, 97, 98] (by decide +kernel) (by decide +kernel)
set_option maxRecDepth 20000 in
theorem gX5_takeBlock_X1_isTold : GoodIn wsX5_takeBlock (wsV RX5 44 RX1 yX1_isTold wsX1_isTold) := goodIn_app (goodIn_of _ (by decide +kernel)) ggX5_takeBlock_X1_isTold
set_option maxRecDepth 20000 in
theorem ggX5_takeBlock_X8_topOf : GoodIn wsX5_takeBlock wsX8_topOf := goodIn_r _ [34] (by decide +kernel) (by decide +kernel)
set_option maxRecDepth 20000 in
theorem gX5_takeBlock_X8_topOf_n65 : GoodIn wsX5_takeBlock (wsX8_topOf) := ggX5_takeBlock_X8_topOf
set_option maxRecDepth 20000 in
theorem ggX5_takeBlock_X8_isCode : GoodIn wsX5_takeBlock wsX8_isCode := goodIn_r _ [36] (by decide +kernel) (by decide +kernel)
set_option maxRecDepth 20000 in
theorem gX5_takeBlock_X8_isCode_n72 : GoodIn wsX5_takeBlock (wsX8_isCode) := ggX5_takeBlock_X8_isCode
set_option maxRecDepth 20000 in
theorem ggX5_takeBlock_X5_fail : GoodIn wsX5_takeBlock wsX5_fail := goodIn_r _ [15, 2, 16, 17, 4, 5, 18, 86, 87, 88, 96, 97, 98, 92, 93] (by decide +kernel) (by decide +kernel)
set_option maxRecDepth 20000 in
theorem gX5_takeBlock_X5_fail : GoodIn wsX5_takeBlock (wsV RX5 58 RX5 yX5_fail wsX5_fail) := goodIn_app (goodIn_of _ (by decide +kernel)) ggX5_takeBlock_X5_fail
set_option maxRecDepth 20000 in
theorem ggX5_takeBlock_X7_isBare : GoodIn wsX5_takeBlock wsX7_isBare := goodIn_r _ [41, 42, 43, 89, 90, 91] (by decide +kernel) (by decide +kernel)
set_option maxRecDepth 20000 in
theorem gX5_takeBlock_X7_isBare : GoodIn wsX5_takeBlock (wsV RX5 76 RX7 yX7_isBare wsX7_isBare) := goodIn_app (goodIn_of _ (by decide +kernel)) ggX5_takeBlock_X7_isBare
set_option maxRecDepth 20000 in
theorem ggX5_takeBlock_X5_takeTold : GoodIn wsX5_takeBlock wsX5_takeTold := goodIn_r _ [47, 3, 2, 4, 5, 6, 7, 8, 9, 10, 11, 1, 12, 13, 14, 15, 16, 17, 18, 19, 20, 21, 22, 23, 24, 25, 48, 49, 50, 51, 32, 33, 34, 52, 53, 54, 55, 26, 27, 28, 29, 30, 31, 56, 57, 58, 59, 60, 61, 62, 63, 64, 65, 66, 67, 68, 69, 70, 71, 72, 73, 74, 38, 39, 40, 41, 42, 43, 75, 76, 77, 78, 79, 80, 81, 89, 90, 91, 86, 87, 88, 92, 93, 94, 95, 96, 97, 98] (by decide +kernel) (by decide +kernel)
set_option maxRecDepth 20000 in
theorem gX5_takeBlock_X5_takeTold : GoodIn wsX5_takeBlock (wsV RX5 80 RX5 yX5_takeTold wsX5_takeTold) := goodIn_app (goodIn_of _ (by decide +kernel)) ggX5_takeBlock_X5_takeTold
set_option maxRecDepth 20000 in
theorem ggX5_takeBlock_X6_append : GoodIn wsX5_takeBlock wsX6_append := goodIn_r _ [85, 72, 73, 92, 93] (by decide +kernel) (by decide +kernel)
set_option maxRecDepth 20000 in
theorem gX5_takeBlock_X6_append : GoodIn wsX5_takeBlock (wsV RX5 84 RX6 yX6_append wsX6_append) := goodIn_app (goodIn_of _ (by decide +kernel)) ggX5_takeBlock_X6_append
theorem dX5_takeBlock_0 : decode cX5_takeBlock 0 = .ok (.aload_n 0, 1) := by decide +kernel
theorem dX5_takeBlock_1 : decode cX5_takeBlock 1 = .ok (.getfield 29, 3) := by decide +kernel
theorem dX5_takeBlock_4 : decode cX5_takeBlock 4 = .ok (.istore 4, 2) := by decide +kernel
theorem dX5_takeBlock_6 : decode cX5_takeBlock 6 = .ok (.aload_n 0, 1) := by decide +kernel
theorem dX5_takeBlock_7 : decode cX5_takeBlock 7 = .ok (.aload_n 2, 1) := by decide +kernel
theorem dX5_takeBlock_8 : decode cX5_takeBlock 8 = .ok (.bipush 6, 2) := by decide +kernel
theorem dX5_takeBlock_10 : decode cX5_takeBlock 10 = .ok (.invokevirtual 61, 3) := by decide +kernel
theorem dX5_takeBlock_13 : decode cX5_takeBlock 13 = .ok (.istore 5, 2) := by decide +kernel
theorem dX5_takeBlock_15 : decode cX5_takeBlock 15 = .ok (.aload_n 0, 1) := by decide +kernel
theorem dX5_takeBlock_16 : decode cX5_takeBlock 16 = .ok (.getfield 21, 3) := by decide +kernel
theorem dX5_takeBlock_19 : decode cX5_takeBlock 19 = .ok (.invokevirtual 44, 3) := by decide +kernel
theorem dX5_takeBlock_22 : decode cX5_takeBlock 22 = .ok (.ifCond .eq 4, 3) := by decide +kernel
theorem dX5_takeBlock_25 : decode cX5_takeBlock 25 = .ok (.return_, 1) := by decide +kernel
theorem dX5_takeBlock_26 : decode cX5_takeBlock 26 = .ok (.iload 5, 2) := by decide +kernel
theorem dX5_takeBlock_28 : decode cX5_takeBlock 28 = .ok (.iconst 4, 1) := by decide +kernel
theorem dX5_takeBlock_29 : decode cX5_takeBlock 29 = .ok (.ishr, 1) := by decide +kernel
theorem dX5_takeBlock_30 : decode cX5_takeBlock 30 = .ok (.istore 6, 2) := by decide +kernel
theorem dX5_takeBlock_32 : decode cX5_takeBlock 32 = .ok (.iload 5, 2) := by decide +kernel
theorem dX5_takeBlock_34 : decode cX5_takeBlock 34 = .ok (.iconst 4, 1) := by decide +kernel
theorem dX5_takeBlock_35 : decode cX5_takeBlock 35 = .ok (.invokestatic 65, 3) := by decide +kernel
theorem dX5_takeBlock_38 : decode cX5_takeBlock 38 = .ok (.iand, 1) := by decide +kernel
theorem dX5_takeBlock_39 : decode cX5_takeBlock 39 = .ok (.istore 7, 2) := by decide +kernel
theorem dX5_takeBlock_41 : decode cX5_takeBlock 41 = .ok (.iload 7, 2) := by decide +kernel
theorem dX5_takeBlock_43 : decode cX5_takeBlock 43 = .ok (.aload_n 1, 1) := by decide +kernel
theorem dX5_takeBlock_44 : decode cX5_takeBlock 44 = .ok (.getfield 69, 3) := by decide +kernel
theorem dX5_takeBlock_47 : decode cX5_takeBlock 47 = .ok (.invokestatic 72, 3) := by decide +kernel
theorem dX5_takeBlock_50 : decode cX5_takeBlock 50 = .ok (.ifCond .ne 12, 3) := by decide +kernel
theorem dX5_takeBlock_53 : decode cX5_takeBlock 53 = .ok (.aload_n 0, 1) := by decide +kernel
theorem dX5_takeBlock_54 : decode cX5_takeBlock 54 = .ok (.iconst 2, 1) := by decide +kernel
theorem dX5_takeBlock_55 : decode cX5_takeBlock 55 = .ok (.iload 4, 2) := by decide +kernel
theorem dX5_takeBlock_57 : decode cX5_takeBlock 57 = .ok (.invokevirtual 58, 3) := by decide +kernel
theorem dX5_takeBlock_60 : decode cX5_takeBlock 60 = .ok (.pop, 1) := by decide +kernel
theorem dX5_takeBlock_61 : decode cX5_takeBlock 61 = .ok (.return_, 1) := by decide +kernel
theorem dX5_takeBlock_62 : decode cX5_takeBlock 62 = .ok (.aload_n 0, 1) := by decide +kernel
theorem dX5_takeBlock_63 : decode cX5_takeBlock 63 = .ok (.getfield 12, 3) := by decide +kernel
theorem dX5_takeBlock_66 : decode cX5_takeBlock 66 = .ok (.getfield 25, 3) := by decide +kernel
theorem dX5_takeBlock_69 : decode cX5_takeBlock 69 = .ok (.istore 8, 2) := by decide +kernel
theorem dX5_takeBlock_71 : decode cX5_takeBlock 71 = .ok (.iload 8, 2) := by decide +kernel
theorem dX5_takeBlock_73 : decode cX5_takeBlock 73 = .ok (.iload_n 3, 1) := by decide +kernel
theorem dX5_takeBlock_74 : decode cX5_takeBlock 74 = .ok (.if_icmp .ge 62, 3) := by decide +kernel
theorem dX5_takeBlock_77 : decode cX5_takeBlock 77 = .ok (.aload_n 1, 1) := by decide +kernel
theorem dX5_takeBlock_78 : decode cX5_takeBlock 78 = .ok (.iload 8, 2) := by decide +kernel
theorem dX5_takeBlock_80 : decode cX5_takeBlock 80 = .ok (.invokevirtual 76, 3) := by decide +kernel
theorem dX5_takeBlock_83 : decode cX5_takeBlock 83 = .ok (.ifCond .eq 15, 3) := by decide +kernel
theorem dX5_takeBlock_86 : decode cX5_takeBlock 86 = .ok (.aload_n 0, 1) := by decide +kernel
theorem dX5_takeBlock_87 : decode cX5_takeBlock 87 = .ok (.aload_n 2, 1) := by decide +kernel
theorem dX5_takeBlock_88 : decode cX5_takeBlock 88 = .ok (.aload_n 1, 1) := by decide +kernel
theorem dX5_takeBlock_89 : decode cX5_takeBlock 89 = .ok (.getfield 69, 3) := by decide +kernel
theorem dX5_takeBlock_92 : decode cX5_takeBlock 92 = .ok (.invokevirtual 61, 3) := by decide +kernel
theorem dX5_takeBlock_95 : decode cX5_takeBlock 95 = .ok (.goto 13, 3) := by decide +kernel
theorem dX5_takeBlock_98 : decode cX5_takeBlock 98 = .ok (.aload_n 0, 1) := by decide +kernel
theorem dX5_takeBlock_99 : decode cX5_takeBlock 99 = .ok (.aload_n 1, 1) := by decide +kernel
theorem dX5_takeBlock_100 : decode cX5_takeBlock 100 = .ok (.aload_n 2, 1) := by decide +kernel
theorem dX5_takeBlock_101 : decode cX5_takeBlock 101 = .ok (.iload 6, 2) := by decide +kernel
theorem dX5_takeBlock_103 : decode cX5_takeBlock 103 = .ok (.iload 7, 2) := by decide +kernel
theorem dX5_takeBlock_105 : decode cX5_takeBlock 105 = .ok (.invokevirtual 80, 3) := by decide +kernel
theorem dX5_takeBlock_108 : decode cX5_takeBlock 108 = .ok (.istore 9, 2) := by decide +kernel
theorem dX5_takeBlock_110 : decode cX5_takeBlock 110 = .ok (.aload_n 0, 1) := by decide +kernel
theorem dX5_takeBlock_111 : decode cX5_takeBlock 111 = .ok (.getfield 21, 3) := by decide +kernel
theorem dX5_takeBlock_114 : decode cX5_takeBlock 114 = .ok (.invokevirtual 44, 3) := by decide +kernel
theorem dX5_takeBlock_117 : decode cX5_takeBlock 117 = .ok (.ifCond .eq 4, 3) := by decide +kernel
theorem dX5_takeBlock_120 : decode cX5_takeBlock 120 = .ok (.return_, 1) := by decide +kernel
theorem dX5_takeBlock_121 : decode cX5_takeBlock 121 = .ok (.aload_n 0, 1) := by decide +kernel
theorem dX5_takeBlock_122 : decode cX5_takeBlock 122 = .ok (.getfield 12, 3) := by decide +kernel
theorem dX5_takeBlock_125 : decode cX5_takeBlock 125 = .ok (.iload 9, 2) := by decide +kernel
theorem dX5_takeBlock_127 : decode cX5_takeBlock 127 = .ok (.invokevirtual 84, 3) := by decide +kernel
theorem dX5_takeBlock_130 : decode cX5_takeBlock 130 = .ok (.iinc 8 1, 3) := by decide +kernel
theorem dX5_takeBlock_133 : decode cX5_takeBlock 133 = .ok (.goto (-62), 3) := by decide +kernel
theorem dX5_takeBlock_136 : decode cX5_takeBlock 136 = .ok (.return_, 1) := by decide +kernel
set_option maxRecDepth 20000 in
theorem ggX5_takeTold_X5_takeNumber : GoodIn wsX5_takeTold wsX5_takeNumber := goodIn_r _ [9, 10, 11, 12, 13, 14, 8, 15, 2, 16, 17, 3, 4, 18, 19, 20, 21, 22, 23, 24, 25, 83, 84, 78, 79, 80, 85, 86, 87, 81, 82] (by decide +kernel) (by decide +kernel)
set_option maxRecDepth 20000 in
theorem gX5_takeTold_X5_takeNumber : GoodIn wsX5_takeTold (wsV RX5 61 RX5 yX5_takeNumber wsX5_takeNumber) := goodIn_app (goodIn_of _ (by decide +kernel)) ggX5_takeTold_X5_takeNumber
set_option maxRecDepth 20000 in
theorem ggX5_takeTold_X5_takeByNoughts : GoodIn wsX5_takeTold wsX5_takeByNoughts := goodIn_r _ [29, 11, 10, 2, 30, 31, 32, 19, 20, 21, 22, 23, 24, 25, 12, 13, 14, 8, 15, 16, 17, 3, 4, 18, 33, 34, 35, 36, 5, 6, 7, 9, 37, 38, 39, 40, 41, 42, 78, 79, 80, 83, 84, 85, 86, 87, 81, 82] (by decide +kernel) (by decide +kernel)
set_option maxRecDepth 20000 in
theorem gX5_takeTold_X5_takeByNoughts : GoodIn wsX5_takeTold (wsV RX5 88 RX5 yX5_takeByNoughts wsX5_takeByNoughts) := goodIn_app (goodIn_of _ (by decide +kernel)) ggX5_takeTold_X5_takeByNoughts
set_option maxRecDepth 20000 in
theorem ggX5_takeTold_X1_isTold : GoodIn wsX5_takeTold wsX1_isTold := goodIn_r _ [41, 42, 85, 86, 87] (by decide +kernel) (by decide +kernel)
set_option maxRecDepth 20000 in
theorem gX5_takeTold_X1_isTold : GoodIn wsX5_takeTold (wsV RX5 44 RX1 yX1_isTold wsX1_isTold) := goodIn_app (goodIn_of _ (by decide +kernel)) ggX5_takeTold_X1_isTold
set_option maxRecDepth 20000 in
theorem ggX5_takeTold_X8_toldAhead : GoodIn wsX5_takeTold wsX8_toldAhead := goodIn_r _ [44, 45, 46, 47, 48, 49, 50, 51, 52, 53, 30, 31, 32, 54, 55, 56, 57, 58, 59, 60, 61, 62, 63, 64, 65, 66, 67, 75, 76, 77, 81, 82] (by decide +kernel) (by decide +kernel)
set_option maxRecDepth 20000 in
theorem gX5_takeTold_X8_toldAhead_n92 : GoodIn wsX5_takeTold (wsX8_toldAhead) := ggX5_takeTold_X8_toldAhead
set_option maxRecDepth 20000 in
theorem ggX5_takeTold_X7_top : GoodIn wsX5_takeTold wsX7_top := goodIn_r _ [71, 72, 30, 31, 32, 75, 76, 77] (by decide +kernel) (by decide +kernel)
set_option maxRecDepth 20000 in
theorem gX5_takeTold_X7_top : GoodIn wsX5_takeTold (wsV RX5 96 RX7 yX7_top wsX7_top) := goodIn_app (goodIn_of _ (by decide +kernel)) ggX5_takeTold_X7_top
set_option maxRecDepth 20000 in
theorem ggX5_takeTold_X8_unfold : GoodIn wsX5_takeTold wsX8_unfold := goodIn_r _ [74, 46, 47, 48, 49] (by decide +kernel) (by decide +kernel)
set_option maxRecDepth 20000 in
theorem gX5_takeTold_X8_unfold_n100 : GoodIn wsX5_takeTold (wsX8_unfold) := ggX5_takeTold_X8_unfold
theorem dX5_takeTold_0 : decode cX5_takeTold 0 = .ok (.iconst 0, 1) := by decide +kernel
theorem dX5_takeTold_1 : decode cX5_takeTold 1 = .ok (.istore 5, 2) := by decide +kernel
theorem dX5_takeTold_3 : decode cX5_takeTold 3 = .ok (.iload 4, 2) := by decide +kernel
theorem dX5_takeTold_5 : decode cX5_takeTold 5 = .ok (.bipush 8, 2) := by decide +kernel
theorem dX5_takeTold_7 : decode cX5_takeTold 7 = .ok (.if_icmp .ne 17, 3) := by decide +kernel
theorem dX5_takeTold_10 : decode cX5_takeTold 10 = .ok (.aload_n 0, 1) := by decide +kernel
theorem dX5_takeTold_11 : decode cX5_takeTold 11 = .ok (.aload_n 2, 1) := by decide +kernel
theorem dX5_takeTold_12 : decode cX5_takeTold 12 = .ok (.aload_n 1, 1) := by decide +kernel
theorem dX5_takeTold_13 : decode cX5_takeTold 13 = .ok (.getfield 69, 3) := by decide +kernel
theorem dX5_takeTold_16 : decode cX5_takeTold 16 = .ok (.invokevirtual 61, 3) := by decide +kernel
theorem dX5_takeTold_19 : decode cX5_takeTold 19 = .ok (.istore 5, 2) := by decide +kernel
theorem dX5_takeTold_21 : decode cX5_takeTold 21 = .ok (.goto 23, 3) := by decide +kernel
theorem dX5_takeTold_24 : decode cX5_takeTold 24 = .ok (.iload 4, 2) := by decide +kernel
theorem dX5_takeTold_26 : decode cX5_takeTold 26 = .ok (.ifCond .eq 18, 3) := by decide +kernel
theorem dX5_takeTold_29 : decode cX5_takeTold 29 = .ok (.aload_n 0, 1) := by decide +kernel
theorem dX5_takeTold_30 : decode cX5_takeTold 30 = .ok (.aload_n 2, 1) := by decide +kernel
theorem dX5_takeTold_31 : decode cX5_takeTold 31 = .ok (.aload_n 1, 1) := by decide +kernel
theorem dX5_takeTold_32 : decode cX5_takeTold 32 = .ok (.getfield 69, 3) := by decide +kernel
theorem dX5_takeTold_35 : decode cX5_takeTold 35 = .ok (.iload 4, 2) := by decide +kernel
theorem dX5_takeTold_37 : decode cX5_takeTold 37 = .ok (.iconst 1, 1) := by decide +kernel
theorem dX5_takeTold_38 : decode cX5_takeTold 38 = .ok (.isub, 1) := by decide +kernel
theorem dX5_takeTold_39 : decode cX5_takeTold 39 = .ok (.invokevirtual 88, 3) := by decide +kernel
theorem dX5_takeTold_42 : decode cX5_takeTold 42 = .ok (.istore 5, 2) := by decide +kernel
theorem dX5_takeTold_44 : decode cX5_takeTold 44 = .ok (.aload_n 0, 1) := by decide +kernel
theorem dX5_takeTold_45 : decode cX5_takeTold 45 = .ok (.getfield 21, 3) := by decide +kernel
theorem dX5_takeTold_48 : decode cX5_takeTold 48 = .ok (.invokevirtual 44, 3) := by decide +kernel
theorem dX5_takeTold_51 : decode cX5_takeTold 51 = .ok (.ifCond .eq 6, 3) := by decide +kernel
theorem dX5_takeTold_54 : decode cX5_takeTold 54 = .ok (.bipush (-6), 2) := by decide +kernel
theorem dX5_takeTold_56 : decode cX5_takeTold 56 = .ok (.ireturn, 1) := by decide +kernel
theorem dX5_takeTold_57 : decode cX5_takeTold 57 = .ok (.iload 5, 2) := by decide +kernel
theorem dX5_takeTold_59 : decode cX5_takeTold 59 = .ok (.aload_n 1, 1) := by decide +kernel
theorem dX5_takeTold_60 : decode cX5_takeTold 60 = .ok (.aload_n 0, 1) := by decide +kernel
theorem dX5_takeTold_61 : decode cX5_takeTold 61 = .ok (.getfield 12, 3) := by decide +kernel
theorem dX5_takeTold_64 : decode cX5_takeTold 64 = .ok (.aload_n 0, 1) := by decide +kernel
theorem dX5_takeTold_65 : decode cX5_takeTold 65 = .ok (.getfield 12, 3) := by decide +kernel
theorem dX5_takeTold_68 : decode cX5_takeTold 68 = .ok (.getfield 25, 3) := by decide +kernel
theorem dX5_takeTold_71 : decode cX5_takeTold 71 = .ok (.iload_n 3, 1) := by decide +kernel
theorem dX5_takeTold_72 : decode cX5_takeTold 72 = .ok (.invokestatic 92, 3) := by decide +kernel
theorem dX5_takeTold_75 : decode cX5_takeTold 75 = .ok (.aload_n 1, 1) := by decide +kernel
theorem dX5_takeTold_76 : decode cX5_takeTold 76 = .ok (.invokevirtual 96, 3) := by decide +kernel
theorem dX5_takeTold_79 : decode cX5_takeTold 79 = .ok (.invokestatic 100, 3) := by decide +kernel
theorem dX5_takeTold_82 : decode cX5_takeTold 82 = .ok (.ireturn, 1) := by decide +kernel
set_option maxRecDepth 20000 in
theorem ggX5_takeByNoughts_X8_topOf : GoodIn wsX5_takeByNoughts wsX8_topOf := goodIn_r _ [6] (by decide +kernel) (by decide +kernel)
set_option maxRecDepth 20000 in
theorem gX5_takeByNoughts_X8_topOf_n65 : GoodIn wsX5_takeByNoughts (wsX8_topOf) := ggX5_takeByNoughts_X8_topOf
set_option maxRecDepth 20000 in
theorem ggX5_takeByNoughts_X0_at : GoodIn wsX5_takeByNoughts wsX0_at := goodIn_r _ [11, 12, 13, 41, 42] (by decide +kernel) (by decide +kernel)
set_option maxRecDepth 20000 in
theorem gX5_takeByNoughts_X0_at : GoodIn wsX5_takeByNoughts (wsV RX5 104 RX0 yX0_at wsX0_at) := goodIn_app (goodIn_of _ (by decide +kernel)) ggX5_takeByNoughts_X0_at
set_option maxRecDepth 20000 in
theorem ggX5_takeByNoughts_X5_fail : GoodIn wsX5_takeByNoughts wsX5_fail := goodIn_r _ [18, 3, 19, 20, 21, 22, 23, 38, 39, 40, 43, 44, 45, 46, 47] (by decide +kernel) (by decide +kernel)
set_option maxRecDepth 20000 in
theorem gX5_takeByNoughts_X5_fail : GoodIn wsX5_takeByNoughts (wsV RX5 58 RX5 yX5_fail wsX5_fail) := goodIn_app (goodIn_of _ (by decide +kernel)) ggX5_takeByNoughts_X5_fail
set_option maxRecDepth 20000 in
theorem ggX5_takeByNoughts_X0_has : GoodIn wsX5_takeByNoughts wsX0_has := goodIn_r _ [27, 12, 41, 42] (by decide +kernel) (by decide +kernel)
set_option maxRecDepth 20000 in
theorem gX5_takeByNoughts_X0_has : GoodIn wsX5_takeByNoughts (wsV RX5 107 RX0 yX0_has wsX0_has) := goodIn_app (goodIn_of _ (by decide +kernel)) ggX5_takeByNoughts_X0_has
set_option maxRecDepth 20000 in
theorem ggX5_takeByNoughts_X5_takeNumber : GoodIn wsX5_takeByNoughts wsX5_takeNumber := goodIn_r _ [31, 2, 1, 14, 15, 16, 17, 18, 3, 19, 20, 21, 22, 23, 7, 8, 9, 10, 11, 12, 13, 41, 42, 38, 39, 40, 43, 44, 45, 46, 47] (by decide +kernel) (by decide +kernel)
set_option maxRecDepth 20000 in
theorem gX5_takeByNoughts_X5_takeNumber : GoodIn wsX5_takeByNoughts (wsV RX5 61 RX5 yX5_takeNumber wsX5_takeNumber) := goodIn_app (goodIn_of _ (by decide +kernel)) ggX5_takeByNoughts_X5_takeNumber
set_option maxRecDepth 20000 in
theorem ggX5_takeByNoughts_X1_isTold : GoodIn wsX5_takeByNoughts wsX1_isTold := goodIn_r _ [36, 37, 43, 44, 45] (by decide +kernel) (by decide +kernel)
set_option maxRecDepth 20000 in
theorem gX5_takeByNoughts_X1_isTold : GoodIn wsX5_takeByNoughts (wsV RX5 44 RX1 yX1_isTold wsX1_isTold) := goodIn_app (goodIn_of _ (by decide +kernel)) ggX5_takeByNoughts_X1_isTold
theorem dX5_takeByNoughts_0 : decode cX5_takeByNoughts 0 = .ok (.iload_n 2, 1) := by decide +kernel
theorem dX5_takeByNoughts_1 : decode cX5_takeByNoughts 1 = .ok (.invokestatic 65, 3) := by decide +kernel
theorem dX5_takeByNoughts_4 : decode cX5_takeByNoughts 4 = .ok (.iload_n 3, 1) := by decide +kernel
theorem dX5_takeByNoughts_5 : decode cX5_takeByNoughts 5 = .ok (.ishr, 1) := by decide +kernel
theorem dX5_takeByNoughts_6 : decode cX5_takeByNoughts 6 = .ok (.istore 4, 2) := by decide +kernel
theorem dX5_takeByNoughts_8 : decode cX5_takeByNoughts 8 = .ok (.iconst 0, 1) := by decide +kernel
theorem dX5_takeByNoughts_9 : decode cX5_takeByNoughts 9 = .ok (.istore 5, 2) := by decide +kernel
theorem dX5_takeByNoughts_11 : decode cX5_takeByNoughts 11 = .ok (.iload 5, 2) := by decide +kernel
theorem dX5_takeByNoughts_13 : decode cX5_takeByNoughts 13 = .ok (.iload 4, 2) := by decide +kernel
theorem dX5_takeByNoughts_15 : decode cX5_takeByNoughts 15 = .ok (.if_icmp .gt 23, 3) := by decide +kernel
theorem dX5_takeByNoughts_18 : decode cX5_takeByNoughts 18 = .ok (.aload_n 1, 1) := by decide +kernel
theorem dX5_takeByNoughts_19 : decode cX5_takeByNoughts 19 = .ok (.aload_n 0, 1) := by decide +kernel
theorem dX5_takeByNoughts_20 : decode cX5_takeByNoughts 20 = .ok (.getfield 29, 3) := by decide +kernel
theorem dX5_takeByNoughts_23 : decode cX5_takeByNoughts 23 = .ok (.iload 5, 2) := by decide +kernel
theorem dX5_takeByNoughts_25 : decode cX5_takeByNoughts 25 = .ok (.iadd, 1) := by decide +kernel
theorem dX5_takeByNoughts_26 : decode cX5_takeByNoughts 26 = .ok (.invokevirtual 104, 3) := by decide +kernel
theorem dX5_takeByNoughts_29 : decode cX5_takeByNoughts 29 = .ok (.ifCond .ne 9, 3) := by decide +kernel
theorem dX5_takeByNoughts_32 : decode cX5_takeByNoughts 32 = .ok (.iinc 5 1, 3) := by decide +kernel
theorem dX5_takeByNoughts_35 : decode cX5_takeByNoughts 35 = .ok (.goto (-24), 3) := by decide +kernel
theorem dX5_takeByNoughts_38 : decode cX5_takeByNoughts 38 = .ok (.iload 5, 2) := by decide +kernel
theorem dX5_takeByNoughts_40 : decode cX5_takeByNoughts 40 = .ok (.iload 4, 2) := by decide +kernel
theorem dX5_takeByNoughts_42 : decode cX5_takeByNoughts 42 = .ok (.if_icmp .le 13, 3) := by decide +kernel
theorem dX5_takeByNoughts_45 : decode cX5_takeByNoughts 45 = .ok (.aload_n 0, 1) := by decide +kernel
theorem dX5_takeByNoughts_46 : decode cX5_takeByNoughts 46 = .ok (.iconst 3, 1) := by decide +kernel
theorem dX5_takeByNoughts_47 : decode cX5_takeByNoughts 47 = .ok (.aload_n 0, 1) := by decide +kernel
theorem dX5_takeByNoughts_48 : decode cX5_takeByNoughts 48 = .ok (.getfield 29, 3) := by decide +kernel
theorem dX5_takeByNoughts_51 : decode cX5_takeByNoughts 51 = .ok (.invokevirtual 58, 3) := by decide +kernel
theorem dX5_takeByNoughts_54 : decode cX5_takeByNoughts 54 = .ok (.ireturn, 1) := by decide +kernel
theorem dX5_takeByNoughts_55 : decode cX5_takeByNoughts 55 = .ok (.aload_n 1, 1) := by decide +kernel
theorem dX5_takeByNoughts_56 : decode cX5_takeByNoughts 56 = .ok (.aload_n 0, 1) := by decide +kernel
theorem dX5_takeByNoughts_57 : decode cX5_takeByNoughts 57 = .ok (.getfield 29, 3) := by decide +kernel
theorem dX5_takeByNoughts_60 : decode cX5_takeByNoughts 60 = .ok (.iload 5, 2) := by decide +kernel
theorem dX5_takeByNoughts_62 : decode cX5_takeByNoughts 62 = .ok (.iadd, 1) := by decide +kernel
theorem dX5_takeByNoughts_63 : decode cX5_takeByNoughts 63 = .ok (.invokevirtual 107, 3) := by decide +kernel
theorem dX5_takeByNoughts_66 : decode cX5_takeByNoughts 66 = .ok (.ifCond .ne 13, 3) := by decide +kernel
theorem dX5_takeByNoughts_69 : decode cX5_takeByNoughts 69 = .ok (.aload_n 0, 1) := by decide +kernel
theorem dX5_takeByNoughts_70 : decode cX5_takeByNoughts 70 = .ok (.iconst 1, 1) := by decide +kernel
theorem dX5_takeByNoughts_71 : decode cX5_takeByNoughts 71 = .ok (.aload_n 1, 1) := by decide +kernel
theorem dX5_takeByNoughts_72 : decode cX5_takeByNoughts 72 = .ok (.getfield 55, 3) := by decide +kernel
theorem dX5_takeByNoughts_75 : decode cX5_takeByNoughts 75 = .ok (.invokevirtual 58, 3) := by decide +kernel
theorem dX5_takeByNoughts_78 : decode cX5_takeByNoughts 78 = .ok (.ireturn, 1) := by decide +kernel
theorem dX5_takeByNoughts_79 : decode cX5_takeByNoughts 79 = .ok (.aload_n 0, 1) := by decide +kernel
theorem dX5_takeByNoughts_80 : decode cX5_takeByNoughts 80 = .ok (.dup, 1) := by decide +kernel
theorem dX5_takeByNoughts_81 : decode cX5_takeByNoughts 81 = .ok (.getfield 29, 3) := by decide +kernel
theorem dX5_takeByNoughts_84 : decode cX5_takeByNoughts 84 = .ok (.iload 5, 2) := by decide +kernel
theorem dX5_takeByNoughts_86 : decode cX5_takeByNoughts 86 = .ok (.iconst 1, 1) := by decide +kernel
theorem dX5_takeByNoughts_87 : decode cX5_takeByNoughts 87 = .ok (.iadd, 1) := by decide +kernel
theorem dX5_takeByNoughts_88 : decode cX5_takeByNoughts 88 = .ok (.iadd, 1) := by decide +kernel
theorem dX5_takeByNoughts_89 : decode cX5_takeByNoughts 89 = .ok (.putfield 29, 3) := by decide +kernel
theorem dX5_takeByNoughts_92 : decode cX5_takeByNoughts 92 = .ok (.aload_n 0, 1) := by decide +kernel
theorem dX5_takeByNoughts_93 : decode cX5_takeByNoughts 93 = .ok (.aload_n 1, 1) := by decide +kernel
theorem dX5_takeByNoughts_94 : decode cX5_takeByNoughts 94 = .ok (.iload_n 3, 1) := by decide +kernel
theorem dX5_takeByNoughts_95 : decode cX5_takeByNoughts 95 = .ok (.invokevirtual 61, 3) := by decide +kernel
theorem dX5_takeByNoughts_98 : decode cX5_takeByNoughts 98 = .ok (.istore 6, 2) := by decide +kernel
theorem dX5_takeByNoughts_100 : decode cX5_takeByNoughts 100 = .ok (.aload_n 0, 1) := by decide +kernel
theorem dX5_takeByNoughts_101 : decode cX5_takeByNoughts 101 = .ok (.getfield 21, 3) := by decide +kernel
theorem dX5_takeByNoughts_104 : decode cX5_takeByNoughts 104 = .ok (.invokevirtual 44, 3) := by decide +kernel
theorem dX5_takeByNoughts_107 : decode cX5_takeByNoughts 107 = .ok (.ifCond .eq 8, 3) := by decide +kernel
theorem dX5_takeByNoughts_110 : decode cX5_takeByNoughts 110 = .ok (.bipush (-6), 2) := by decide +kernel
theorem dX5_takeByNoughts_112 : decode cX5_takeByNoughts 112 = .ok (.goto 10, 3) := by decide +kernel
theorem dX5_takeByNoughts_115 : decode cX5_takeByNoughts 115 = .ok (.iload 5, 2) := by decide +kernel
theorem dX5_takeByNoughts_117 : decode cX5_takeByNoughts 117 = .ok (.iload_n 3, 1) := by decide +kernel
theorem dX5_takeByNoughts_118 : decode cX5_takeByNoughts 118 = .ok (.ishl, 1) := by decide +kernel
theorem dX5_takeByNoughts_119 : decode cX5_takeByNoughts 119 = .ok (.iload 6, 2) := by decide +kernel
theorem dX5_takeByNoughts_121 : decode cX5_takeByNoughts 121 = .ok (.iadd, 1) := by decide +kernel
theorem dX5_takeByNoughts_122 : decode cX5_takeByNoughts 122 = .ok (.ireturn, 1) := by decide +kernel
set_option maxRecDepth 20000 in
theorem ggX5_takeNumber_X5_fail : GoodIn wsX5_takeNumber wsX5_fail := goodIn_r _ [7, 8, 9, 10, 11, 12, 13, 23, 24, 25, 26, 27, 28, 29, 30] (by decide +kernel) (by decide +kernel)
set_option maxRecDepth 20000 in
theorem gX5_takeNumber_X5_fail : GoodIn wsX5_takeNumber (wsV RX5 58 RX5 yX5_fail wsX5_fail) := goodIn_app (goodIn_of _ (by decide +kernel)) ggX5_takeNumber_X5_fail
set_option maxRecDepth 20000 in
theorem ggX5_takeNumber_X0_at : GoodIn wsX5_takeNumber wsX0_at := goodIn_r _ [18, 19, 20, 21, 22] (by decide +kernel) (by decide +kernel)
set_option maxRecDepth 20000 in
theorem gX5_takeNumber_X0_at : GoodIn wsX5_takeNumber (wsV RX5 104 RX0 yX0_at wsX0_at) := goodIn_app (goodIn_of _ (by decide +kernel)) ggX5_takeNumber_X0_at
theorem dX5_takeNumber_0 : decode cX5_takeNumber 0 = .ok (.iload_n 2, 1) := by decide +kernel
theorem dX5_takeNumber_1 : decode cX5_takeNumber 1 = .ok (.aload_n 1, 1) := by decide +kernel
theorem dX5_takeNumber_2 : decode cX5_takeNumber 2 = .ok (.getfield 55, 3) := by decide +kernel
theorem dX5_takeNumber_5 : decode cX5_takeNumber 5 = .ok (.aload_n 0, 1) := by decide +kernel
theorem dX5_takeNumber_6 : decode cX5_takeNumber 6 = .ok (.getfield 29, 3) := by decide +kernel
theorem dX5_takeNumber_9 : decode cX5_takeNumber 9 = .ok (.isub, 1) := by decide +kernel
theorem dX5_takeNumber_10 : decode cX5_takeNumber 10 = .ok (.if_icmp .le 13, 3) := by decide +kernel
theorem dX5_takeNumber_13 : decode cX5_takeNumber 13 = .ok (.aload_n 0, 1) := by decide +kernel
theorem dX5_takeNumber_14 : decode cX5_takeNumber 14 = .ok (.iconst 1, 1) := by decide +kernel
theorem dX5_takeNumber_15 : decode cX5_takeNumber 15 = .ok (.aload_n 1, 1) := by decide +kernel
theorem dX5_takeNumber_16 : decode cX5_takeNumber 16 = .ok (.getfield 55, 3) := by decide +kernel
theorem dX5_takeNumber_19 : decode cX5_takeNumber 19 = .ok (.invokevirtual 58, 3) := by decide +kernel
theorem dX5_takeNumber_22 : decode cX5_takeNumber 22 = .ok (.ireturn, 1) := by decide +kernel
theorem dX5_takeNumber_23 : decode cX5_takeNumber 23 = .ok (.iconst 0, 1) := by decide +kernel
theorem dX5_takeNumber_24 : decode cX5_takeNumber 24 = .ok (.istore_n 3, 1) := by decide +kernel
theorem dX5_takeNumber_25 : decode cX5_takeNumber 25 = .ok (.iconst 0, 1) := by decide +kernel
theorem dX5_takeNumber_26 : decode cX5_takeNumber 26 = .ok (.istore 4, 2) := by decide +kernel
theorem dX5_takeNumber_28 : decode cX5_takeNumber 28 = .ok (.iload 4, 2) := by decide +kernel
theorem dX5_takeNumber_30 : decode cX5_takeNumber 30 = .ok (.iload_n 2, 1) := by decide +kernel
theorem dX5_takeNumber_31 : decode cX5_takeNumber 31 = .ok (.if_icmp .ge 25, 3) := by decide +kernel
theorem dX5_takeNumber_34 : decode cX5_takeNumber 34 = .ok (.iconst 2, 1) := by decide +kernel
theorem dX5_takeNumber_35 : decode cX5_takeNumber 35 = .ok (.iload_n 3, 1) := by decide +kernel
theorem dX5_takeNumber_36 : decode cX5_takeNumber 36 = .ok (.imul, 1) := by decide +kernel
theorem dX5_takeNumber_37 : decode cX5_takeNumber 37 = .ok (.aload_n 1, 1) := by decide +kernel
theorem dX5_takeNumber_38 : decode cX5_takeNumber 38 = .ok (.aload_n 0, 1) := by decide +kernel
theorem dX5_takeNumber_39 : decode cX5_takeNumber 39 = .ok (.getfield 29, 3) := by decide +kernel
theorem dX5_takeNumber_42 : decode cX5_takeNumber 42 = .ok (.iload 4, 2) := by decide +kernel
theorem dX5_takeNumber_44 : decode cX5_takeNumber 44 = .ok (.iadd, 1) := by decide +kernel
theorem dX5_takeNumber_45 : decode cX5_takeNumber 45 = .ok (.invokevirtual 104, 3) := by decide +kernel
theorem dX5_takeNumber_48 : decode cX5_takeNumber 48 = .ok (.iadd, 1) := by decide +kernel
theorem dX5_takeNumber_49 : decode cX5_takeNumber 49 = .ok (.istore_n 3, 1) := by decide +kernel
theorem dX5_takeNumber_50 : decode cX5_takeNumber 50 = .ok (.iinc 4 1, 3) := by decide +kernel
theorem dX5_takeNumber_53 : decode cX5_takeNumber 53 = .ok (.goto (-25), 3) := by decide +kernel
theorem dX5_takeNumber_56 : decode cX5_takeNumber 56 = .ok (.aload_n 0, 1) := by decide +kernel
theorem dX5_takeNumber_57 : decode cX5_takeNumber 57 = .ok (.dup, 1) := by decide +kernel
theorem dX5_takeNumber_58 : decode cX5_takeNumber 58 = .ok (.getfield 29, 3) := by decide +kernel
theorem dX5_takeNumber_61 : decode cX5_takeNumber 61 = .ok (.iload_n 2, 1) := by decide +kernel
theorem dX5_takeNumber_62 : decode cX5_takeNumber 62 = .ok (.iadd, 1) := by decide +kernel
theorem dX5_takeNumber_63 : decode cX5_takeNumber 63 = .ok (.putfield 29, 3) := by decide +kernel
theorem dX5_takeNumber_66 : decode cX5_takeNumber 66 = .ok (.iload_n 3, 1) := by decide +kernel
theorem dX5_takeNumber_67 : decode cX5_takeNumber 67 = .ok (.ireturn, 1) := by decide +kernel
theorem dX5_fail_0 : decode cX5_fail 0 = .ok (.aload_n 0, 1) := by decide +kernel
theorem dX5_fail_1 : decode cX5_fail 1 = .ok (.getfield 21, 3) := by decide +kernel
theorem dX5_fail_4 : decode cX5_fail 4 = .ok (.iload_n 1, 1) := by decide +kernel
theorem dX5_fail_5 : decode cX5_fail 5 = .ok (.putfield 110, 3) := by decide +kernel
theorem dX5_fail_8 : decode cX5_fail 8 = .ok (.aload_n 0, 1) := by decide +kernel
theorem dX5_fail_9 : decode cX5_fail 9 = .ok (.getfield 21, 3) := by decide +kernel
theorem dX5_fail_12 : decode cX5_fail 12 = .ok (.iload_n 2, 1) := by decide +kernel
theorem dX5_fail_13 : decode cX5_fail 13 = .ok (.putfield 113, 3) := by decide +kernel
theorem dX5_fail_16 : decode cX5_fail 16 = .ok (.aload_n 0, 1) := by decide +kernel
theorem dX5_fail_17 : decode cX5_fail 17 = .ok (.getfield 21, 3) := by decide +kernel
theorem dX5_fail_20 : decode cX5_fail 20 = .ok (.aload_n 0, 1) := by decide +kernel
theorem dX5_fail_21 : decode cX5_fail 21 = .ok (.getfield 12, 3) := by decide +kernel
theorem dX5_fail_24 : decode cX5_fail 24 = .ok (.getfield 25, 3) := by decide +kernel
theorem dX5_fail_27 : decode cX5_fail 27 = .ok (.putfield 116, 3) := by decide +kernel
theorem dX5_fail_30 : decode cX5_fail 30 = .ok (.bipush (-6), 2) := by decide +kernel
theorem dX5_fail_32 : decode cX5_fail 32 = .ok (.ireturn, 1) := by decide +kernel
theorem dX6_init_0 : decode cX6_init 0 = .ok (.aload_n 0, 1) := by decide +kernel
theorem dX6_init_1 : decode cX6_init 1 = .ok (.invokespecial 3, 3) := by decide +kernel
theorem dX6_init_4 : decode cX6_init 4 = .ok (.aload_n 0, 1) := by decide +kernel
theorem dX6_init_5 : decode cX6_init 5 = .ok (.bipush 64, 2) := by decide +kernel
theorem dX6_init_7 : decode cX6_init 7 = .ok (.newarray .int, 2) := by decide +kernel
theorem dX6_init_9 : decode cX6_init 9 = .ok (.putfield 9, 3) := by decide +kernel
theorem dX6_init_12 : decode cX6_init 12 = .ok (.return_, 1) := by decide +kernel
theorem dX6_has_0 : decode cX6_has 0 = .ok (.iload_n 1, 1) := by decide +kernel
theorem dX6_has_1 : decode cX6_has 1 = .ok (.ifCond .lt 15, 3) := by decide +kernel
theorem dX6_has_4 : decode cX6_has 4 = .ok (.iload_n 1, 1) := by decide +kernel
theorem dX6_has_5 : decode cX6_has 5 = .ok (.aload_n 0, 1) := by decide +kernel
theorem dX6_has_6 : decode cX6_has 6 = .ok (.getfield 15, 3) := by decide +kernel
theorem dX6_has_9 : decode cX6_has 9 = .ok (.if_icmp .ge 7, 3) := by decide +kernel
theorem dX6_has_12 : decode cX6_has 12 = .ok (.iconst 1, 1) := by decide +kernel
theorem dX6_has_13 : decode cX6_has 13 = .ok (.goto 4, 3) := by decide +kernel
theorem dX6_has_16 : decode cX6_has 16 = .ok (.iconst 0, 1) := by decide +kernel
theorem dX6_has_17 : decode cX6_has 17 = .ok (.ireturn, 1) := by decide +kernel
theorem dX6_at_0 : decode cX6_at 0 = .ok (.iload_n 1, 1) := by decide +kernel
theorem dX6_at_1 : decode cX6_at 1 = .ok (.ifCond .lt 20, 3) := by decide +kernel
theorem dX6_at_4 : decode cX6_at 4 = .ok (.iload_n 1, 1) := by decide +kernel
theorem dX6_at_5 : decode cX6_at 5 = .ok (.aload_n 0, 1) := by decide +kernel
theorem dX6_at_6 : decode cX6_at 6 = .ok (.getfield 15, 3) := by decide +kernel
theorem dX6_at_9 : decode cX6_at 9 = .ok (.if_icmp .ge 12, 3) := by decide +kernel
theorem dX6_at_12 : decode cX6_at 12 = .ok (.aload_n 0, 1) := by decide +kernel
theorem dX6_at_13 : decode cX6_at 13 = .ok (.getfield 9, 3) := by decide +kernel
theorem dX6_at_16 : decode cX6_at 16 = .ok (.iload_n 1, 1) := by decide +kernel
theorem dX6_at_17 : decode cX6_at 17 = .ok (.iaload, 1) := by decide +kernel
theorem dX6_at_18 : decode cX6_at 18 = .ok (.goto 5, 3) := by decide +kernel
theorem dX6_at_21 : decode cX6_at 21 = .ok (.bipush (-6), 2) := by decide +kernel
theorem dX6_at_23 : decode cX6_at 23 = .ok (.ireturn, 1) := by decide +kernel
theorem dX6_append_0 : decode cX6_append 0 = .ok (.aload_n 0, 1) := by decide +kernel
theorem dX6_append_1 : decode cX6_append 1 = .ok (.getfield 15, 3) := by decide +kernel
theorem dX6_append_4 : decode cX6_append 4 = .ok (.bipush 64, 2) := by decide +kernel
theorem dX6_append_6 : decode cX6_append 6 = .ok (.if_icmp .ge 23, 3) := by decide +kernel
theorem dX6_append_9 : decode cX6_append 9 = .ok (.aload_n 0, 1) := by decide +kernel
theorem dX6_append_10 : decode cX6_append 10 = .ok (.getfield 9, 3) := by decide +kernel
theorem dX6_append_13 : decode cX6_append 13 = .ok (.aload_n 0, 1) := by decide +kernel
theorem dX6_append_14 : decode cX6_append 14 = .ok (.getfield 15, 3) := by decide +kernel
theorem dX6_append_17 : decode cX6_append 17 = .ok (.iload_n 1, 1) := by decide +kernel
theorem dX6_append_18 : decode cX6_append 18 = .ok (.iastore, 1) := by decide +kernel
theorem dX6_append_19 : decode cX6_append 19 = .ok (.aload_n 0, 1) := by decide +kernel
theorem dX6_append_20 : decode cX6_append 20 = .ok (.dup, 1) := by decide +kernel
theorem dX6_append_21 : decode cX6_append 21 = .ok (.getfield 15, 3) := by decide +kernel
theorem dX6_append_24 : decode cX6_append 24 = .ok (.iconst 1, 1) := by decide +kernel
theorem dX6_append_25 : decode cX6_append 25 = .ok (.iadd, 1) := by decide +kernel
theorem dX6_append_26 : decode cX6_append 26 = .ok (.putfield 15, 3) := by decide +kernel
theorem dX6_append_29 : decode cX6_append 29 = .ok (.return_, 1) := by decide +kernel
theorem dX6_highest_0 : decode cX6_highest 0 = .ok (.iconst 0, 1) := by decide +kernel
theorem dX6_highest_1 : decode cX6_highest 1 = .ok (.istore_n 1, 1) := by decide +kernel
theorem dX6_highest_2 : decode cX6_highest 2 = .ok (.iconst 0, 1) := by decide +kernel
theorem dX6_highest_3 : decode cX6_highest 3 = .ok (.istore_n 2, 1) := by decide +kernel
theorem dX6_highest_4 : decode cX6_highest 4 = .ok (.iload_n 2, 1) := by decide +kernel
theorem dX6_highest_5 : decode cX6_highest 5 = .ok (.aload_n 0, 1) := by decide +kernel
theorem dX6_highest_6 : decode cX6_highest 6 = .ok (.getfield 15, 3) := by decide +kernel
theorem dX6_highest_9 : decode cX6_highest 9 = .ok (.if_icmp .ge 20, 3) := by decide +kernel
theorem dX6_highest_12 : decode cX6_highest 12 = .ok (.iload_n 1, 1) := by decide +kernel
theorem dX6_highest_13 : decode cX6_highest 13 = .ok (.aload_n 0, 1) := by decide +kernel
theorem dX6_highest_14 : decode cX6_highest 14 = .ok (.getfield 9, 3) := by decide +kernel
theorem dX6_highest_17 : decode cX6_highest 17 = .ok (.iload_n 2, 1) := by decide +kernel
theorem dX6_highest_18 : decode cX6_highest 18 = .ok (.iaload, 1) := by decide +kernel
theorem dX6_highest_19 : decode cX6_highest 19 = .ok (.invokestatic 19, 3) := by decide +kernel
theorem dX6_highest_22 : decode cX6_highest 22 = .ok (.istore_n 1, 1) := by decide +kernel
theorem dX6_highest_23 : decode cX6_highest 23 = .ok (.iinc 2 1, 3) := by decide +kernel
theorem dX6_highest_26 : decode cX6_highest 26 = .ok (.goto (-22), 3) := by decide +kernel
theorem dX6_highest_29 : decode cX6_highest 29 = .ok (.iload_n 1, 1) := by decide +kernel
theorem dX6_highest_30 : decode cX6_highest 30 = .ok (.ireturn, 1) := by decide +kernel
theorem dX6_takeOver_0 : decode cX6_takeOver 0 = .ok (.aload_n 1, 1) := by decide +kernel
theorem dX6_takeOver_1 : decode cX6_takeOver 1 = .ok (.getfield 9, 3) := by decide +kernel
theorem dX6_takeOver_4 : decode cX6_takeOver 4 = .ok (.iconst 0, 1) := by decide +kernel
theorem dX6_takeOver_5 : decode cX6_takeOver 5 = .ok (.aload_n 0, 1) := by decide +kernel
theorem dX6_takeOver_6 : decode cX6_takeOver 6 = .ok (.getfield 9, 3) := by decide +kernel
theorem dX6_takeOver_9 : decode cX6_takeOver 9 = .ok (.iconst 0, 1) := by decide +kernel
theorem dX6_takeOver_10 : decode cX6_takeOver 10 = .ok (.aload_n 1, 1) := by decide +kernel
theorem dX6_takeOver_11 : decode cX6_takeOver 11 = .ok (.getfield 15, 3) := by decide +kernel
theorem dX6_takeOver_14 : decode cX6_takeOver 14 = .ok (.invokestatic 25, 3) := by decide +kernel
theorem dX6_takeOver_17 : decode cX6_takeOver 17 = .ok (.aload_n 0, 1) := by decide +kernel
theorem dX6_takeOver_18 : decode cX6_takeOver 18 = .ok (.aload_n 1, 1) := by decide +kernel
theorem dX6_takeOver_19 : decode cX6_takeOver 19 = .ok (.getfield 15, 3) := by decide +kernel
theorem dX6_takeOver_22 : decode cX6_takeOver 22 = .ok (.putfield 15, 3) := by decide +kernel
theorem dX6_takeOver_25 : decode cX6_takeOver 25 = .ok (.return_, 1) := by decide +kernel
theorem dX7_init_0 : decode cX7_init 0 = .ok (.aload_n 0, 1) := by decide +kernel
theorem dX7_init_1 : decode cX7_init 1 = .ok (.invokespecial 1, 3) := by decide +kernel
theorem dX7_init_4 : decode cX7_init 4 = .ok (.aload_n 0, 1) := by decide +kernel
theorem dX7_init_5 : decode cX7_init 5 = .ok (.bipush 8, 2) := by decide +kernel
theorem dX7_init_7 : decode cX7_init 7 = .ok (.putfield 7, 3) := by decide +kernel
theorem dX7_init_10 : decode cX7_init 10 = .ok (.aload_n 0, 1) := by decide +kernel
theorem dX7_init_11 : decode cX7_init 11 = .ok (.bipush 8, 2) := by decide +kernel
theorem dX7_init_13 : decode cX7_init 13 = .ok (.putfield 13, 3) := by decide +kernel
theorem dX7_init_16 : decode cX7_init 16 = .ok (.aload_n 0, 1) := by decide +kernel
theorem dX7_init_17 : decode cX7_init 17 = .ok (.iconst 4, 1) := by decide +kernel
theorem dX7_init_18 : decode cX7_init 18 = .ok (.putfield 16, 3) := by decide +kernel
theorem dX7_init_21 : decode cX7_init 21 = .ok (.return_, 1) := by decide +kernel
set_option maxRecDepth 20000 in
theorem ggX7_top_X8_topOf : GoodIn wsX7_top wsX8_topOf := goodIn_r _ [4] (by decide +kernel) (by decide +kernel)
set_option maxRecDepth 20000 in
theorem gX7_top_X8_topOf_n19 : GoodIn wsX7_top (wsX8_topOf) := ggX7_top_X8_topOf
theorem dX7_top_0 : decode cX7_top 0 = .ok (.aload_n 0, 1) := by decide +kernel
theorem dX7_top_1 : decode cX7_top 1 = .ok (.getfield 7, 3) := by decide +kernel
theorem dX7_top_4 : decode cX7_top 4 = .ok (.invokestatic 19, 3) := by decide +kernel
theorem dX7_top_7 : decode cX7_top 7 = .ok (.ireturn, 1) := by decide +kernel
theorem dX7_segmentSize_0 : decode cX7_segmentSize 0 = .ok (.aload_n 0, 1) := by decide +kernel
theorem dX7_segmentSize_1 : decode cX7_segmentSize 1 = .ok (.getfield 13, 3) := by decide +kernel
theorem dX7_segmentSize_4 : decode cX7_segmentSize 4 = .ok (.aload_n 0, 1) := by decide +kernel
theorem dX7_segmentSize_5 : decode cX7_segmentSize 5 = .ok (.getfield 16, 3) := by decide +kernel
theorem dX7_segmentSize_8 : decode cX7_segmentSize 8 = .ok (.imul, 1) := by decide +kernel
theorem dX7_segmentSize_9 : decode cX7_segmentSize 9 = .ok (.ireturn, 1) := by decide +kernel
theorem dX7_isBare_0 : decode cX7_isBare 0 = .ok (.aload_n 0, 1) := by decide +kernel
theorem dX7_isBare_1 : decode cX7_isBare 1 = .ok (.getfield 13, 3) := by decide +kernel
theorem dX7_isBare_4 : decode cX7_isBare 4 = .ok (.aload_n 0, 1) := by decide +kernel
theorem dX7_isBare_5 : decode cX7_isBare 5 = .ok (.getfield 16, 3) := by decide +kernel
theorem dX7_isBare_8 : decode cX7_isBare 8 = .ok (.imul, 1) := by decide +kernel
theorem dX7_isBare_9 : decode cX7_isBare 9 = .ok (.istore_n 2, 1) := by decide +kernel
theorem dX7_isBare_10 : decode cX7_isBare 10 = .ok (.iload_n 2, 1) := by decide +kernel
theorem dX7_isBare_11 : decode cX7_isBare 11 = .ok (.iconst 1, 1) := by decide +kernel
theorem dX7_isBare_12 : decode cX7_isBare 12 = .ok (.if_icmp .lt 9, 3) := by decide +kernel
theorem dX7_isBare_15 : decode cX7_isBare 15 = .ok (.iload_n 1, 1) := by decide +kernel
theorem dX7_isBare_16 : decode cX7_isBare 16 = .ok (.iload_n 2, 1) := by decide +kernel
theorem dX7_isBare_17 : decode cX7_isBare 17 = .ok (.irem, 1) := by decide +kernel
theorem dX7_isBare_18 : decode cX7_isBare 18 = .ok (.ifCond .ne 7, 3) := by decide +kernel
theorem dX7_isBare_21 : decode cX7_isBare 21 = .ok (.iconst 1, 1) := by decide +kernel
theorem dX7_isBare_22 : decode cX7_isBare 22 = .ok (.goto 4, 3) := by decide +kernel
theorem dX7_isBare_25 : decode cX7_isBare 25 = .ok (.iconst 0, 1) := by decide +kernel
theorem dX7_isBare_26 : decode cX7_isBare 26 = .ok (.ireturn, 1) := by decide +kernel
set_option maxRecDepth 20000 in
theorem ggX7_blockWith_X8_quotient : GoodIn wsX7_blockWith wsX8_quotient := goodIn_r _ [4] (by decide +kernel) (by decide +kernel)
set_option maxRecDepth 20000 in
theorem gX7_blockWith_X8_quotient_n25 : GoodIn wsX7_blockWith (wsX8_quotient) := ggX7_blockWith_X8_quotient
theorem dX7_blockWith_0 : decode cX7_blockWith 0 = .ok (.iload_n 1, 1) := by decide +kernel
theorem dX7_blockWith_1 : decode cX7_blockWith 1 = .ok (.aload_n 0, 1) := by decide +kernel
theorem dX7_blockWith_2 : decode cX7_blockWith 2 = .ok (.getfield 13, 3) := by decide +kernel
theorem dX7_blockWith_5 : decode cX7_blockWith 5 = .ok (.invokestatic 25, 3) := by decide +kernel
theorem dX7_blockWith_8 : decode cX7_blockWith 8 = .ok (.ireturn, 1) := by decide +kernel
theorem dX7_endOfBlock_0 : decode cX7_endOfBlock 0 = .ok (.iload_n 2, 1) := by decide +kernel
theorem dX7_endOfBlock_1 : decode cX7_endOfBlock 1 = .ok (.iload_n 1, 1) := by decide +kernel
theorem dX7_endOfBlock_2 : decode cX7_endOfBlock 2 = .ok (.iconst 1, 1) := by decide +kernel
theorem dX7_endOfBlock_3 : decode cX7_endOfBlock 3 = .ok (.iadd, 1) := by decide +kernel
theorem dX7_endOfBlock_4 : decode cX7_endOfBlock 4 = .ok (.aload_n 0, 1) := by decide +kernel
theorem dX7_endOfBlock_5 : decode cX7_endOfBlock 5 = .ok (.getfield 13, 3) := by decide +kernel
theorem dX7_endOfBlock_8 : decode cX7_endOfBlock 8 = .ok (.imul, 1) := by decide +kernel
theorem dX7_endOfBlock_9 : decode cX7_endOfBlock 9 = .ok (.invokestatic 29, 3) := by decide +kernel
theorem dX7_endOfBlock_12 : decode cX7_endOfBlock 12 = .ok (.ireturn, 1) := by decide +kernel
theorem dX7_value_0 : decode cX7_value 0 = .ok (.iload_n 1, 1) := by decide +kernel
theorem dX7_value_1 : decode cX7_value 1 = .ok (.ifCond .ne 8, 3) := by decide +kernel
theorem dX7_value_4 : decode cX7_value 4 = .ok (.aload_n 0, 1) := by decide +kernel
theorem dX7_value_5 : decode cX7_value 5 = .ok (.getfield 7, 3) := by decide +kernel
theorem dX7_value_8 : decode cX7_value 8 = .ok (.ireturn, 1) := by decide +kernel
theorem dX7_value_9 : decode cX7_value 9 = .ok (.iload_n 1, 1) := by decide +kernel
theorem dX7_value_10 : decode cX7_value 10 = .ok (.iconst 1, 1) := by decide +kernel
theorem dX7_value_11 : decode cX7_value 11 = .ok (.if_icmp .ne 10, 3) := by decide +kernel
theorem dX7_value_14 : decode cX7_value 14 = .ok (.aload_n 0, 1) := by decide +kernel
theorem dX7_value_15 : decode cX7_value 15 = .ok (.getfield 13, 3) := by decide +kernel
theorem dX7_value_18 : decode cX7_value 18 = .ok (.goto 7, 3) := by decide +kernel
theorem dX7_value_21 : decode cX7_value 21 = .ok (.aload_n 0, 1) := by decide +kernel
theorem dX7_value_22 : decode cX7_value 22 = .ok (.getfield 16, 3) := by decide +kernel
theorem dX7_value_25 : decode cX7_value 25 = .ok (.ireturn, 1) := by decide +kernel
theorem dX7_change_0 : decode cX7_change 0 = .ok (.iload_n 1, 1) := by decide +kernel
theorem dX7_change_1 : decode cX7_change 1 = .ok (.ifCond .ne 11, 3) := by decide +kernel
theorem dX7_change_4 : decode cX7_change 4 = .ok (.aload_n 0, 1) := by decide +kernel
theorem dX7_change_5 : decode cX7_change 5 = .ok (.iload_n 2, 1) := by decide +kernel
theorem dX7_change_6 : decode cX7_change 6 = .ok (.putfield 7, 3) := by decide +kernel
theorem dX7_change_9 : decode cX7_change 9 = .ok (.goto 21, 3) := by decide +kernel
theorem dX7_change_12 : decode cX7_change 12 = .ok (.iload_n 1, 1) := by decide +kernel
theorem dX7_change_13 : decode cX7_change 13 = .ok (.iconst 1, 1) := by decide +kernel
theorem dX7_change_14 : decode cX7_change 14 = .ok (.if_icmp .ne 11, 3) := by decide +kernel
theorem dX7_change_17 : decode cX7_change 17 = .ok (.aload_n 0, 1) := by decide +kernel
theorem dX7_change_18 : decode cX7_change 18 = .ok (.iload_n 2, 1) := by decide +kernel
theorem dX7_change_19 : decode cX7_change 19 = .ok (.putfield 13, 3) := by decide +kernel
theorem dX7_change_22 : decode cX7_change 22 = .ok (.goto 8, 3) := by decide +kernel
theorem dX7_change_25 : decode cX7_change 25 = .ok (.aload_n 0, 1) := by decide +kernel
theorem dX7_change_26 : decode cX7_change 26 = .ok (.iload_n 2, 1) := by decide +kernel
theorem dX7_change_27 : decode cX7_change 27 = .ok (.putfield 16, 3) := by decide +kernel
theorem dX7_change_30 : decode cX7_change 30 = .ok (.return_, 1) := by decide +kernel
theorem dX7_takeOver_0 : decode cX7_takeOver 0 = .ok (.aload_n 0, 1) := by decide +kernel
theorem dX7_takeOver_1 : decode cX7_takeOver 1 = .ok (.aload_n 1, 1) := by decide +kernel
theorem dX7_takeOver_2 : decode cX7_takeOver 2 = .ok (.getfield 7, 3) := by decide +kernel
theorem dX7_takeOver_5 : decode cX7_takeOver 5 = .ok (.putfield 7, 3) := by decide +kernel
theorem dX7_takeOver_8 : decode cX7_takeOver 8 = .ok (.aload_n 0, 1) := by decide +kernel
theorem dX7_takeOver_9 : decode cX7_takeOver 9 = .ok (.aload_n 1, 1) := by decide +kernel
theorem dX7_takeOver_10 : decode cX7_takeOver 10 = .ok (.getfield 13, 3) := by decide +kernel
theorem dX7_takeOver_13 : decode cX7_takeOver 13 = .ok (.putfield 13, 3) := by decide +kernel
theorem dX7_takeOver_16 : decode cX7_takeOver 16 = .ok (.aload_n 0, 1) := by decide +kernel
theorem dX7_takeOver_17 : decode cX7_takeOver 17 = .ok (.aload_n 1, 1) := by decide +kernel
theorem dX7_takeOver_18 : decode cX7_takeOver 18 = .ok (.getfield 16, 3) := by decide +kernel
theorem dX7_takeOver_21 : decode cX7_takeOver 21 = .ok (.putfield 16, 3) := by decide +kernel
theorem dX7_takeOver_24 : decode cX7_takeOver 24 = .ok (.return_, 1) := by decide +kernel
