theorem yd_X0_init : yX0_init.cls = RX0 ∧ yX0_init.cls ≠ "java/lang/invoke/MethodHandle" ∧ yX0_init.cls ≠ "java/lang/invoke/VarHandle" ∧ (parseMethodDescriptor yX0_init.desc).map (fun d => d.parameters.length) = some 0 := by decide +kernel
theorem yd_X0_has : yX0_has.cls = RX0 ∧ yX0_has.cls ≠ "java/lang/invoke/MethodHandle" ∧ yX0_has.cls ≠ "java/lang/invoke/VarHandle" ∧ (parseMethodDescriptor yX0_has.desc).map (fun d => d.parameters.length) = some 1 := by decide +kernel
theorem yd_X0_at : yX0_at.cls = RX0 ∧ yX0_at.cls ≠ "java/lang/invoke/MethodHandle" ∧ yX0_at.cls ≠ "java/lang/invoke/VarHandle" ∧ (parseMethodDescriptor yX0_at.desc).map (fun d => d.parameters.length) = some 1 := by decide +kernel
theorem yd_X0_turn : yX0_turn.cls = RX0 ∧ yX0_turn.cls ≠ "java/lang/invoke/MethodHandle" ∧ yX0_turn.cls ≠ "java/lang/invoke/VarHandle" ∧ (parseMethodDescriptor yX0_turn.desc).map (fun d => d.parameters.length) = some 1 := by decide +kernel
theorem yd_X0_append : yX0_append.cls = RX0 ∧ yX0_append.cls ≠ "java/lang/invoke/MethodHandle" ∧ yX0_append.cls ≠ "java/lang/invoke/VarHandle" ∧ (parseMethodDescriptor yX0_append.desc).map (fun d => d.parameters.length) = some 1 := by decide +kernel
theorem yd_X0_appendNumber : yX0_appendNumber.cls = RX0 ∧ yX0_appendNumber.cls ≠ "java/lang/invoke/MethodHandle" ∧ yX0_appendNumber.cls ≠ "java/lang/invoke/VarHandle" ∧ (parseMethodDescriptor yX0_appendNumber.desc).map (fun d => d.parameters.length) = some 2 := by decide +kernel
theorem yd_X0_takeOver : yX0_takeOver.cls = RX0 ∧ yX0_takeOver.cls ≠ "java/lang/invoke/MethodHandle" ∧ yX0_takeOver.cls ≠ "java/lang/invoke/VarHandle" ∧ (parseMethodDescriptor yX0_takeOver.desc).map (fun d => d.parameters.length) = some 1 := by decide +kernel
theorem yd_X1_init : yX1_init.cls = RX1 ∧ yX1_init.cls ≠ "java/lang/invoke/MethodHandle" ∧ yX1_init.cls ≠ "java/lang/invoke/VarHandle" ∧ (parseMethodDescriptor yX1_init.desc).map (fun d => d.parameters.length) = some 0 := by decide +kernel
theorem yd_X1_isTold : yX1_isTold.cls = RX1 ∧ yX1_isTold.cls ≠ "java/lang/invoke/MethodHandle" ∧ yX1_isTold.cls ≠ "java/lang/invoke/VarHandle" ∧ (parseMethodDescriptor yX1_isTold.desc).map (fun d => d.parameters.length) = some 0 := by decide +kernel
theorem yd_X1_forget : yX1_forget.cls = RX1 ∧ yX1_forget.cls ≠ "java/lang/invoke/MethodHandle" ∧ yX1_forget.cls ≠ "java/lang/invoke/VarHandle" ∧ (parseMethodDescriptor yX1_forget.desc).map (fun d => d.parameters.length) = some 0 := by decide +kernel
theorem yd_X1_takeOver : yX1_takeOver.cls = RX1 ∧ yX1_takeOver.cls ≠ "java/lang/invoke/MethodHandle" ∧ yX1_takeOver.cls ≠ "java/lang/invoke/VarHandle" ∧ (parseMethodDescriptor yX1_takeOver.desc).map (fun d => d.parameters.length) = some 1 := by decide +kernel
theorem yd_X2_init : yX2_init.cls = RX2 ∧ yX2_init.cls ≠ "java/lang/invoke/MethodHandle" ∧ yX2_init.cls ≠ "java/lang/invoke/VarHandle" ∧ (parseMethodDescriptor yX2_init.desc).map (fun d => d.parameters.length) = some 0 := by decide +kernel
theorem yd_X7_endOfBlock : yX7_endOfBlock.cls = RX7 ∧ yX7_endOfBlock.cls ≠ "java/lang/invoke/MethodHandle" ∧ yX7_endOfBlock.cls ≠ "java/lang/invoke/VarHandle" ∧ (parseMethodDescriptor yX7_endOfBlock.desc).map (fun d => d.parameters.length) = some 2 := by decide +kernel
theorem yd_X7_isBare : yX7_isBare.cls = RX7 ∧ yX7_isBare.cls ≠ "java/lang/invoke/MethodHandle" ∧ yX7_isBare.cls ≠ "java/lang/invoke/VarHandle" ∧ (parseMethodDescriptor yX7_isBare.desc).map (fun d => d.parameters.length) = some 1 := by decide +kernel
theorem yd_X6_at : yX6_at.cls = RX6 ∧ yX6_at.cls ≠ "java/lang/invoke/MethodHandle" ∧ yX6_at.cls ≠ "java/lang/invoke/VarHandle" ∧ (parseMethodDescriptor yX6_at.desc).map (fun d => d.parameters.length) = some 1 := by decide +kernel
theorem yd_X8_topOf : yX8_topOf.cls = RX8 ∧ yX8_topOf.cls ≠ "java/lang/invoke/MethodHandle" ∧ yX8_topOf.cls ≠ "java/lang/invoke/VarHandle" ∧ (parseMethodDescriptor yX8_topOf.desc).map (fun d => d.parameters.length) = some 1 := by decide +kernel
theorem yd_X8_toldAhead : yX8_toldAhead.cls = RX8 ∧ yX8_toldAhead.cls ≠ "java/lang/invoke/MethodHandle" ∧ yX8_toldAhead.cls ≠ "java/lang/invoke/VarHandle" ∧ (parseMethodDescriptor yX8_toldAhead.desc).map (fun d => d.parameters.length) = some 4 := by decide +kernel
theorem yd_X7_top : yX7_top.cls = RX7 ∧ yX7_top.cls ≠ "java/lang/invoke/MethodHandle" ∧ yX7_top.cls ≠ "java/lang/invoke/VarHandle" ∧ (parseMethodDescriptor yX7_top.desc).map (fun d => d.parameters.length) = some 0 := by decide +kernel
theorem yd_X8_fold : yX8_fold.cls = RX8 ∧ yX8_fold.cls ≠ "java/lang/invoke/MethodHandle" ∧ yX8_fold.cls ≠ "java/lang/invoke/VarHandle" ∧ (parseMethodDescriptor yX8_fold.desc).map (fun d => d.parameters.length) = some 3 := by decide +kernel
theorem yd_X2_fill : yX2_fill.cls = RX2 ∧ yX2_fill.cls ≠ "java/lang/invoke/MethodHandle" ∧ yX2_fill.cls ≠ "java/lang/invoke/VarHandle" ∧ (parseMethodDescriptor yX2_fill.desc).map (fun d => d.parameters.length) = some 4 := by decide +kernel
theorem yd_X8_isCode : yX8_isCode.cls = RX8 ∧ yX8_isCode.cls ≠ "java/lang/invoke/MethodHandle" ∧ yX8_isCode.cls ≠ "java/lang/invoke/VarHandle" ∧ (parseMethodDescriptor yX8_isCode.desc).map (fun d => d.parameters.length) = some 2 := by decide +kernel
theorem yd_X2_isAllNothing : yX2_isAllNothing.cls = RX2 ∧ yX2_isAllNothing.cls ≠ "java/lang/invoke/MethodHandle" ∧ yX2_isAllNothing.cls ≠ "java/lang/invoke/VarHandle" ∧ (parseMethodDescriptor yX2_isAllNothing.desc).map (fun d => d.parameters.length) = some 0 := by decide +kernel
theorem yd_X2_costBy : yX2_costBy.cls = RX2 ∧ yX2_costBy.cls ≠ "java/lang/invoke/MethodHandle" ∧ yX2_costBy.cls ≠ "java/lang/invoke/VarHandle" ∧ (parseMethodDescriptor yX2_costBy.desc).map (fun d => d.parameters.length) = some 1 := by decide +kernel
theorem yd_X2_writeByNoughts : yX2_writeByNoughts.cls = RX2 ∧ yX2_writeByNoughts.cls ≠ "java/lang/invoke/MethodHandle" ∧ yX2_writeByNoughts.cls ≠ "java/lang/invoke/VarHandle" ∧ (parseMethodDescriptor yX2_writeByNoughts.desc).map (fun d => d.parameters.length) = some 3 := by decide +kernel
theorem yd_X2_write : yX2_write.cls = RX2 ∧ yX2_write.cls ≠ "java/lang/invoke/MethodHandle" ∧ yX2_write.cls ≠ "java/lang/invoke/VarHandle" ∧ (parseMethodDescriptor yX2_write.desc).map (fun d => d.parameters.length) = some 2 := by decide +kernel
theorem yd_X7_init : yX7_init.cls = RX7 ∧ yX7_init.cls ≠ "java/lang/invoke/MethodHandle" ∧ yX7_init.cls ≠ "java/lang/invoke/VarHandle" ∧ (parseMethodDescriptor yX7_init.desc).map (fun d => d.parameters.length) = some 0 := by decide +kernel
theorem yd_X6_init : yX6_init.cls = RX6 ∧ yX6_init.cls ≠ "java/lang/invoke/MethodHandle" ∧ yX6_init.cls ≠ "java/lang/invoke/VarHandle" ∧ (parseMethodDescriptor yX6_init.desc).map (fun d => d.parameters.length) = some 0 := by decide +kernel
theorem yd_X3_init : yX3_init.cls = RX3 ∧ yX3_init.cls ≠ "java/lang/invoke/MethodHandle" ∧ yX3_init.cls ≠ "java/lang/invoke/VarHandle" ∧ (parseMethodDescriptor yX3_init.desc).map (fun d => d.parameters.length) = some 0 := by decide +kernel
theorem yd_X7_takeOver : yX7_takeOver.cls = RX7 ∧ yX7_takeOver.cls ≠ "java/lang/invoke/MethodHandle" ∧ yX7_takeOver.cls ≠ "java/lang/invoke/VarHandle" ∧ (parseMethodDescriptor yX7_takeOver.desc).map (fun d => d.parameters.length) = some 1 := by decide +kernel
theorem yd_X6_takeOver : yX6_takeOver.cls = RX6 ∧ yX6_takeOver.cls ≠ "java/lang/invoke/MethodHandle" ∧ yX6_takeOver.cls ≠ "java/lang/invoke/VarHandle" ∧ (parseMethodDescriptor yX6_takeOver.desc).map (fun d => d.parameters.length) = some 1 := by decide +kernel
theorem yd_X3_takeOver : yX3_takeOver.cls = RX3 ∧ yX3_takeOver.cls ≠ "java/lang/invoke/MethodHandle" ∧ yX3_takeOver.cls ≠ "java/lang/invoke/VarHandle" ∧ (parseMethodDescriptor yX3_takeOver.desc).map (fun d => d.parameters.length) = some 1 := by decide +kernel
theorem yd_X4_init : yX4_init.cls = RX4 ∧ yX4_init.cls ≠ "java/lang/invoke/MethodHandle" ∧ yX4_init.cls ≠ "java/lang/invoke/VarHandle" ∧ (parseMethodDescriptor yX4_init.desc).map (fun d => d.parameters.length) = some 0 := by decide +kernel
theorem yd_X4_keepOnly : yX4_keepOnly.cls = RX4 ∧ yX4_keepOnly.cls ≠ "java/lang/invoke/MethodHandle" ∧ yX4_keepOnly.cls ≠ "java/lang/invoke/VarHandle" ∧ (parseMethodDescriptor yX4_keepOnly.desc).map (fun d => d.parameters.length) = some 1 := by decide +kernel
theorem yd_X4_choose : yX4_choose.cls = RX4 ∧ yX4_choose.cls ≠ "java/lang/invoke/MethodHandle" ∧ yX4_choose.cls ≠ "java/lang/invoke/VarHandle" ∧ (parseMethodDescriptor yX4_choose.desc).map (fun d => d.parameters.length) = some 3 := by decide +kernel
theorem yd_X4_settle : yX4_settle.cls = RX4 ∧ yX4_settle.cls ≠ "java/lang/invoke/MethodHandle" ∧ yX4_settle.cls ≠ "java/lang/invoke/VarHandle" ∧ (parseMethodDescriptor yX4_settle.desc).map (fun d => d.parameters.length) = some 3 := by decide +kernel
theorem yd_X4_costOf : yX4_costOf.cls = RX4 ∧ yX4_costOf.cls ≠ "java/lang/invoke/MethodHandle" ∧ yX4_costOf.cls ≠ "java/lang/invoke/VarHandle" ∧ (parseMethodDescriptor yX4_costOf.desc).map (fun d => d.parameters.length) = some 5 := by decide +kernel
theorem yd_X4_settledWith : yX4_settledWith.cls = RX4 ∧ yX4_settledWith.cls ≠ "java/lang/invoke/MethodHandle" ∧ yX4_settledWith.cls ≠ "java/lang/invoke/VarHandle" ∧ (parseMethodDescriptor yX4_settledWith.desc).map (fun d => d.parameters.length) = some 1 := by decide +kernel
theorem yd_X5_init : yX5_init.cls = RX5 ∧ yX5_init.cls ≠ "java/lang/invoke/MethodHandle" ∧ yX5_init.cls ≠ "java/lang/invoke/VarHandle" ∧ (parseMethodDescriptor yX5_init.desc).map (fun d => d.parameters.length) = some 0 := by decide +kernel
theorem yd_X8_quotient : yX8_quotient.cls = RX8 ∧ yX8_quotient.cls ≠ "java/lang/invoke/MethodHandle" ∧ yX8_quotient.cls ≠ "java/lang/invoke/VarHandle" ∧ (parseMethodDescriptor yX8_quotient.desc).map (fun d => d.parameters.length) = some 2 := by decide +kernel
theorem yd_X8_quotientUp : yX8_quotientUp.cls = RX8 ∧ yX8_quotientUp.cls ≠ "java/lang/invoke/MethodHandle" ∧ yX8_quotientUp.cls ≠ "java/lang/invoke/VarHandle" ∧ (parseMethodDescriptor yX8_quotientUp.desc).map (fun d => d.parameters.length) = some 2 := by decide +kernel
theorem yd_X5_fail : yX5_fail.cls = RX5 ∧ yX5_fail.cls ≠ "java/lang/invoke/MethodHandle" ∧ yX5_fail.cls ≠ "java/lang/invoke/VarHandle" ∧ (parseMethodDescriptor yX5_fail.desc).map (fun d => d.parameters.length) = some 2 := by decide +kernel
theorem yd_X5_takeNumber : yX5_takeNumber.cls = RX5 ∧ yX5_takeNumber.cls ≠ "java/lang/invoke/MethodHandle" ∧ yX5_takeNumber.cls ≠ "java/lang/invoke/VarHandle" ∧ (parseMethodDescriptor yX5_takeNumber.desc).map (fun d => d.parameters.length) = some 2 := by decide +kernel
theorem yd_X5_takeByNoughts : yX5_takeByNoughts.cls = RX5 ∧ yX5_takeByNoughts.cls ≠ "java/lang/invoke/MethodHandle" ∧ yX5_takeByNoughts.cls ≠ "java/lang/invoke/VarHandle" ∧ (parseMethodDescriptor yX5_takeByNoughts.desc).map (fun d => d.parameters.length) = some 3 := by decide +kernel
theorem yd_X8_unfold : yX8_unfold.cls = RX8 ∧ yX8_unfold.cls ≠ "java/lang/invoke/MethodHandle" ∧ yX8_unfold.cls ≠ "java/lang/invoke/VarHandle" ∧ (parseMethodDescriptor yX8_unfold.desc).map (fun d => d.parameters.length) = some 3 := by decide +kernel
theorem yd_X5_takeTold : yX5_takeTold.cls = RX5 ∧ yX5_takeTold.cls ≠ "java/lang/invoke/MethodHandle" ∧ yX5_takeTold.cls ≠ "java/lang/invoke/VarHandle" ∧ (parseMethodDescriptor yX5_takeTold.desc).map (fun d => d.parameters.length) = some 4 := by decide +kernel
theorem yd_X6_append : yX6_append.cls = RX6 ∧ yX6_append.cls ≠ "java/lang/invoke/MethodHandle" ∧ yX6_append.cls ≠ "java/lang/invoke/VarHandle" ∧ (parseMethodDescriptor yX6_append.desc).map (fun d => d.parameters.length) = some 1 := by decide +kernel
theorem yd_X5_takeBlock : yX5_takeBlock.cls = RX5 ∧ yX5_takeBlock.cls ≠ "java/lang/invoke/MethodHandle" ∧ yX5_takeBlock.cls ≠ "java/lang/invoke/VarHandle" ∧ (parseMethodDescriptor yX5_takeBlock.desc).map (fun d => d.parameters.length) = some 3 := by decide +kernel
theorem yd_X5_takeAll : yX5_takeAll.cls = RX5 ∧ yX5_takeAll.cls ≠ "java/lang/invoke/MethodHandle" ∧ yX5_takeAll.cls ≠ "java/lang/invoke/VarHandle" ∧ (parseMethodDescriptor yX5_takeAll.desc).map (fun d => d.parameters.length) = some 3 := by decide +kernel
theorem yd_X6_has : yX6_has.cls = RX6 ∧ yX6_has.cls ≠ "java/lang/invoke/MethodHandle" ∧ yX6_has.cls ≠ "java/lang/invoke/VarHandle" ∧ (parseMethodDescriptor yX6_has.desc).map (fun d => d.parameters.length) = some 1 := by decide +kernel
theorem yd_X6_highest : yX6_highest.cls = RX6 ∧ yX6_highest.cls ≠ "java/lang/invoke/MethodHandle" ∧ yX6_highest.cls ≠ "java/lang/invoke/VarHandle" ∧ (parseMethodDescriptor yX6_highest.desc).map (fun d => d.parameters.length) = some 0 := by decide +kernel
theorem yd_X7_segmentSize : yX7_segmentSize.cls = RX7 ∧ yX7_segmentSize.cls ≠ "java/lang/invoke/MethodHandle" ∧ yX7_segmentSize.cls ≠ "java/lang/invoke/VarHandle" ∧ (parseMethodDescriptor yX7_segmentSize.desc).map (fun d => d.parameters.length) = some 0 := by decide +kernel
theorem yd_X7_blockWith : yX7_blockWith.cls = RX7 ∧ yX7_blockWith.cls ≠ "java/lang/invoke/MethodHandle" ∧ yX7_blockWith.cls ≠ "java/lang/invoke/VarHandle" ∧ (parseMethodDescriptor yX7_blockWith.desc).map (fun d => d.parameters.length) = some 1 := by decide +kernel
theorem yd_X7_value : yX7_value.cls = RX7 ∧ yX7_value.cls ≠ "java/lang/invoke/MethodHandle" ∧ yX7_value.cls ≠ "java/lang/invoke/VarHandle" ∧ (parseMethodDescriptor yX7_value.desc).map (fun d => d.parameters.length) = some 1 := by decide +kernel
theorem yd_X7_change : yX7_change.cls = RX7 ∧ yX7_change.cls ≠ "java/lang/invoke/MethodHandle" ∧ yX7_change.cls ≠ "java/lang/invoke/VarHandle" ∧ (parseMethodDescriptor yX7_change.desc).map (fun d => d.parameters.length) = some 2 := by decide +kernel
theorem yd_X8_init : yX8_init.cls = RX8 ∧ yX8_init.cls ≠ "java/lang/invoke/MethodHandle" ∧ yX8_init.cls ≠ "java/lang/invoke/VarHandle" ∧ (parseMethodDescriptor yX8_init.desc).map (fun d => d.parameters.length) = some 0 := by decide +kernel
theorem yd_X8_rule : yX8_rule.cls = RX8 ∧ yX8_rule.cls ≠ "java/lang/invoke/MethodHandle" ∧ yX8_rule.cls ≠ "java/lang/invoke/VarHandle" ∧ (parseMethodDescriptor yX8_rule.desc).map (fun d => d.parameters.length) = some 2 := by decide +kernel
theorem yd_X8_add : yX8_add.cls = RX8 ∧ yX8_add.cls ≠ "java/lang/invoke/MethodHandle" ∧ yX8_add.cls ≠ "java/lang/invoke/VarHandle" ∧ (parseMethodDescriptor yX8_add.desc).map (fun d => d.parameters.length) = some 1 := by decide +kernel
theorem yd_X8_clear : yX8_clear.cls = RX8 ∧ yX8_clear.cls ≠ "java/lang/invoke/MethodHandle" ∧ yX8_clear.cls ≠ "java/lang/invoke/VarHandle" ∧ (parseMethodDescriptor yX8_clear.desc).map (fun d => d.parameters.length) = some 0 := by decide +kernel
theorem yd_X8_sample : yX8_sample.cls = RX8 ∧ yX8_sample.cls ≠ "java/lang/invoke/MethodHandle" ∧ yX8_sample.cls ≠ "java/lang/invoke/VarHandle" ∧ (parseMethodDescriptor yX8_sample.desc).map (fun d => d.parameters.length) = some 1 := by decide +kernel
theorem yd_X8_isWay : yX8_isWay.cls = RX8 ∧ yX8_isWay.cls ≠ "java/lang/invoke/MethodHandle" ∧ yX8_isWay.cls ≠ "java/lang/invoke/VarHandle" ∧ (parseMethodDescriptor yX8_isWay.desc).map (fun d => d.parameters.length) = some 1 := by decide +kernel
theorem yd_X8_ahead : yX8_ahead.cls = RX8 ∧ yX8_ahead.cls ≠ "java/lang/invoke/MethodHandle" ∧ yX8_ahead.cls ≠ "java/lang/invoke/VarHandle" ∧ (parseMethodDescriptor yX8_ahead.desc).map (fun d => d.parameters.length) = some 3 := by decide +kernel
theorem yd_X8_blocks : yX8_blocks.cls = RX8 ∧ yX8_blocks.cls ≠ "java/lang/invoke/MethodHandle" ∧ yX8_blocks.cls ≠ "java/lang/invoke/VarHandle" ∧ (parseMethodDescriptor yX8_blocks.desc).map (fun d => d.parameters.length) = some 0 := by decide +kernel
theorem yd_X8_hasBlock : yX8_hasBlock.cls = RX8 ∧ yX8_hasBlock.cls ≠ "java/lang/invoke/MethodHandle" ∧ yX8_hasBlock.cls ≠ "java/lang/invoke/VarHandle" ∧ (parseMethodDescriptor yX8_hasBlock.desc).map (fun d => d.parameters.length) = some 1 := by decide +kernel
theorem yd_X8_cost : yX8_cost.cls = RX8 ∧ yX8_cost.cls ≠ "java/lang/invoke/MethodHandle" ∧ yX8_cost.cls ≠ "java/lang/invoke/VarHandle" ∧ (parseMethodDescriptor yX8_cost.desc).map (fun d => d.parameters.length) = some 3 := by decide +kernel
theorem yd_X8_block : yX8_block.cls = RX8 ∧ yX8_block.cls ≠ "java/lang/invoke/MethodHandle" ∧ yX8_block.cls ≠ "java/lang/invoke/VarHandle" ∧ (parseMethodDescriptor yX8_block.desc).map (fun d => d.parameters.length) = some 2 := by decide +kernel
theorem yd_X8_settleAll : yX8_settleAll.cls = RX8 ∧ yX8_settleAll.cls ≠ "java/lang/invoke/MethodHandle" ∧ yX8_settleAll.cls ≠ "java/lang/invoke/VarHandle" ∧ (parseMethodDescriptor yX8_settleAll.desc).map (fun d => d.parameters.length) = some 0 := by decide +kernel
theorem yd_X8_packed : yX8_packed.cls = RX8 ∧ yX8_packed.cls ≠ "java/lang/invoke/MethodHandle" ∧ yX8_packed.cls ≠ "java/lang/invoke/VarHandle" ∧ (parseMethodDescriptor yX8_packed.desc).map (fun d => d.parameters.length) = some 1 := by decide +kernel
theorem yd_X8_lost : yX8_lost.cls = RX8 ∧ yX8_lost.cls ≠ "java/lang/invoke/MethodHandle" ∧ yX8_lost.cls ≠ "java/lang/invoke/VarHandle" ∧ (parseMethodDescriptor yX8_lost.desc).map (fun d => d.parameters.length) = some 1 := by decide +kernel
theorem yd_X8_tape : yX8_tape.cls = RX8 ∧ yX8_tape.cls ≠ "java/lang/invoke/MethodHandle" ∧ yX8_tape.cls ≠ "java/lang/invoke/VarHandle" ∧ (parseMethodDescriptor yX8_tape.desc).map (fun d => d.parameters.length) = some 0 := by decide +kernel
theorem yd_X8_push : yX8_push.cls = RX8 ∧ yX8_push.cls ≠ "java/lang/invoke/MethodHandle" ∧ yX8_push.cls ≠ "java/lang/invoke/VarHandle" ∧ (parseMethodDescriptor yX8_push.desc).map (fun d => d.parameters.length) = some 1 := by decide +kernel
theorem yd_X8_flip : yX8_flip.cls = RX8 ∧ yX8_flip.cls ≠ "java/lang/invoke/MethodHandle" ∧ yX8_flip.cls ≠ "java/lang/invoke/VarHandle" ∧ (parseMethodDescriptor yX8_flip.desc).map (fun d => d.parameters.length) = some 1 := by decide +kernel
theorem yd_X8_cut : yX8_cut.cls = RX8 ∧ yX8_cut.cls ≠ "java/lang/invoke/MethodHandle" ∧ yX8_cut.cls ≠ "java/lang/invoke/VarHandle" ∧ (parseMethodDescriptor yX8_cut.desc).map (fun d => d.parameters.length) = some 1 := by decide +kernel
theorem yd_X8_bit : yX8_bit.cls = RX8 ∧ yX8_bit.cls ≠ "java/lang/invoke/MethodHandle" ∧ yX8_bit.cls ≠ "java/lang/invoke/VarHandle" ∧ (parseMethodDescriptor yX8_bit.desc).map (fun d => d.parameters.length) = some 1 := by decide +kernel
theorem yd_X8_read : yX8_read.cls = RX8 ∧ yX8_read.cls ≠ "java/lang/invoke/MethodHandle" ∧ yX8_read.cls ≠ "java/lang/invoke/VarHandle" ∧ (parseMethodDescriptor yX8_read.desc).map (fun d => d.parameters.length) = some 1 := by decide +kernel
theorem yd_X8_fault : yX8_fault.cls = RX8 ∧ yX8_fault.cls ≠ "java/lang/invoke/MethodHandle" ∧ yX8_fault.cls ≠ "java/lang/invoke/VarHandle" ∧ (parseMethodDescriptor yX8_fault.desc).map (fun d => d.parameters.length) = some 1 := by decide +kernel
theorem yd_X8_isImage : yX8_isImage.cls = RX8 ∧ yX8_isImage.cls ≠ "java/lang/invoke/MethodHandle" ∧ yX8_isImage.cls ≠ "java/lang/invoke/VarHandle" ∧ (parseMethodDescriptor yX8_isImage.desc).map (fun d => d.parameters.length) = some 1 := by decide +kernel
theorem yd_X8_image : yX8_image.cls = RX8 ∧ yX8_image.cls ≠ "java/lang/invoke/MethodHandle" ∧ yX8_image.cls ≠ "java/lang/invoke/VarHandle" ∧ (parseMethodDescriptor yX8_image.desc).map (fun d => d.parameters.length) = some 1 := by decide +kernel
theorem yd_X8_restore : yX8_restore.cls = RX8 ∧ yX8_restore.cls ≠ "java/lang/invoke/MethodHandle" ∧ yX8_restore.cls ≠ "java/lang/invoke/VarHandle" ∧ (parseMethodDescriptor yX8_restore.desc).map (fun d => d.parameters.length) = some 1 := by decide +kernel
theorem yd_X8_count : yX8_count.cls = RX8 ∧ yX8_count.cls ≠ "java/lang/invoke/MethodHandle" ∧ yX8_count.cls ≠ "java/lang/invoke/VarHandle" ∧ (parseMethodDescriptor yX8_count.desc).map (fun d => d.parameters.length) = some 1 := by decide +kernel
theorem yd_X9_init : yX9_init.cls = RX9 ∧ yX9_init.cls ≠ "java/lang/invoke/MethodHandle" ∧ yX9_init.cls ≠ "java/lang/invoke/VarHandle" ∧ (parseMethodDescriptor yX9_init.desc).map (fun d => d.parameters.length) = some 0 := by decide +kernel
theorem yd_X9_in : yX9_in.cls = RX9 ∧ yX9_in.cls ≠ "java/lang/invoke/MethodHandle" ∧ yX9_in.cls ≠ "java/lang/invoke/VarHandle" ∧ (parseMethodDescriptor yX9_in.desc).map (fun d => d.parameters.length) = some 3 := by decide +kernel
theorem yd_X9_top : yX9_top.cls = RX9 ∧ yX9_top.cls ≠ "java/lang/invoke/MethodHandle" ∧ yX9_top.cls ≠ "java/lang/invoke/VarHandle" ∧ (parseMethodDescriptor yX9_top.desc).map (fun d => d.parameters.length) = some 0 := by decide +kernel
theorem yd_X9_many : yX9_many.cls = RX9 ∧ yX9_many.cls ≠ "java/lang/invoke/MethodHandle" ∧ yX9_many.cls ≠ "java/lang/invoke/VarHandle" ∧ (parseMethodDescriptor yX9_many.desc).map (fun d => d.parameters.length) = some 0 := by decide +kernel
theorem yd_X9_fitsBelow : yX9_fitsBelow.cls = RX9 ∧ yX9_fitsBelow.cls ≠ "java/lang/invoke/MethodHandle" ∧ yX9_fitsBelow.cls ≠ "java/lang/invoke/VarHandle" ∧ (parseMethodDescriptor yX9_fitsBelow.desc).map (fun d => d.parameters.length) = some 1 := by decide +kernel
theorem yd_X9_rule : yX9_rule.cls = RX9 ∧ yX9_rule.cls ≠ "java/lang/invoke/MethodHandle" ∧ yX9_rule.cls ≠ "java/lang/invoke/VarHandle" ∧ (parseMethodDescriptor yX9_rule.desc).map (fun d => d.parameters.length) = some 2 := by decide +kernel
theorem yd_X9_add : yX9_add.cls = RX9 ∧ yX9_add.cls ≠ "java/lang/invoke/MethodHandle" ∧ yX9_add.cls ≠ "java/lang/invoke/VarHandle" ∧ (parseMethodDescriptor yX9_add.desc).map (fun d => d.parameters.length) = some 1 := by decide +kernel
theorem yd_X9_clear : yX9_clear.cls = RX9 ∧ yX9_clear.cls ≠ "java/lang/invoke/MethodHandle" ∧ yX9_clear.cls ≠ "java/lang/invoke/VarHandle" ∧ (parseMethodDescriptor yX9_clear.desc).map (fun d => d.parameters.length) = some 0 := by decide +kernel
theorem yd_X9_sample : yX9_sample.cls = RX9 ∧ yX9_sample.cls ≠ "java/lang/invoke/MethodHandle" ∧ yX9_sample.cls ≠ "java/lang/invoke/VarHandle" ∧ (parseMethodDescriptor yX9_sample.desc).map (fun d => d.parameters.length) = some 1 := by decide +kernel
theorem yd_X9_segmentLong : yX9_segmentLong.cls = RX9 ∧ yX9_segmentLong.cls ≠ "java/lang/invoke/MethodHandle" ∧ yX9_segmentLong.cls ≠ "java/lang/invoke/VarHandle" ∧ (parseMethodDescriptor yX9_segmentLong.desc).map (fun d => d.parameters.length) = some 0 := by decide +kernel
theorem yd_X9_isBare : yX9_isBare.cls = RX9 ∧ yX9_isBare.cls ≠ "java/lang/invoke/MethodHandle" ∧ yX9_isBare.cls ≠ "java/lang/invoke/VarHandle" ∧ (parseMethodDescriptor yX9_isBare.desc).map (fun d => d.parameters.length) = some 1 := by decide +kernel
theorem yd_X9_expected : yX9_expected.cls = RX9 ∧ yX9_expected.cls ≠ "java/lang/invoke/MethodHandle" ∧ yX9_expected.cls ≠ "java/lang/invoke/VarHandle" ∧ (parseMethodDescriptor yX9_expected.desc).map (fun d => d.parameters.length) = some 2 := by decide +kernel
theorem yd_X9_room : yX9_room.cls = RX9 ∧ yX9_room.cls ≠ "java/lang/invoke/MethodHandle" ∧ yX9_room.cls ≠ "java/lang/invoke/VarHandle" ∧ (parseMethodDescriptor yX9_room.desc).map (fun d => d.parameters.length) = some 1 := by decide +kernel
theorem yd_X9_fold : yX9_fold.cls = RX9 ∧ yX9_fold.cls ≠ "java/lang/invoke/MethodHandle" ∧ yX9_fold.cls ≠ "java/lang/invoke/VarHandle" ∧ (parseMethodDescriptor yX9_fold.desc).map (fun d => d.parameters.length) = some 2 := by decide +kernel
theorem yd_X9_unfold : yX9_unfold.cls = RX9 ∧ yX9_unfold.cls ≠ "java/lang/invoke/MethodHandle" ∧ yX9_unfold.cls ≠ "java/lang/invoke/VarHandle" ∧ (parseMethodDescriptor yX9_unfold.desc).map (fun d => d.parameters.length) = some 2 := by decide +kernel
theorem yd_X9_takeRow : yX9_takeRow.cls = RX9 ∧ yX9_takeRow.cls ≠ "java/lang/invoke/MethodHandle" ∧ yX9_takeRow.cls ≠ "java/lang/invoke/VarHandle" ∧ (parseMethodDescriptor yX9_takeRow.desc).map (fun d => d.parameters.length) = some 0 := by decide +kernel
theorem yd_X9_ahead : yX9_ahead.cls = RX9 ∧ yX9_ahead.cls ≠ "java/lang/invoke/MethodHandle" ∧ yX9_ahead.cls ≠ "java/lang/invoke/VarHandle" ∧ (parseMethodDescriptor yX9_ahead.desc).map (fun d => d.parameters.length) = some 3 := by decide +kernel
theorem yd_X9_blocks : yX9_blocks.cls = RX9 ∧ yX9_blocks.cls ≠ "java/lang/invoke/MethodHandle" ∧ yX9_blocks.cls ≠ "java/lang/invoke/VarHandle" ∧ (parseMethodDescriptor yX9_blocks.desc).map (fun d => d.parameters.length) = some 0 := by decide +kernel
theorem yd_X9_firstOf : yX9_firstOf.cls = RX9 ∧ yX9_firstOf.cls ≠ "java/lang/invoke/MethodHandle" ∧ yX9_firstOf.cls ≠ "java/lang/invoke/VarHandle" ∧ (parseMethodDescriptor yX9_firstOf.desc).map (fun d => d.parameters.length) = some 1 := by decide +kernel
theorem yd_X9_less : yX9_less.cls = RX9 ∧ yX9_less.cls ≠ "java/lang/invoke/MethodHandle" ∧ yX9_less.cls ≠ "java/lang/invoke/VarHandle" ∧ (parseMethodDescriptor yX9_less.desc).map (fun d => d.parameters.length) = some 2 := by decide +kernel
theorem yd_X9_endOf : yX9_endOf.cls = RX9 ∧ yX9_endOf.cls ≠ "java/lang/invoke/MethodHandle" ∧ yX9_endOf.cls ≠ "java/lang/invoke/VarHandle" ∧ (parseMethodDescriptor yX9_endOf.desc).map (fun d => d.parameters.length) = some 1 := by decide +kernel
theorem yd_X9_canCode : yX9_canCode.cls = RX9 ∧ yX9_canCode.cls ≠ "java/lang/invoke/MethodHandle" ∧ yX9_canCode.cls ≠ "java/lang/invoke/VarHandle" ∧ (parseMethodDescriptor yX9_canCode.desc).map (fun d => d.parameters.length) = some 1 := by decide +kernel
theorem yd_X9_bitsOf : yX9_bitsOf.cls = RX9 ∧ yX9_bitsOf.cls ≠ "java/lang/invoke/MethodHandle" ∧ yX9_bitsOf.cls ≠ "java/lang/invoke/VarHandle" ∧ (parseMethodDescriptor yX9_bitsOf.desc).map (fun d => d.parameters.length) = some 2 := by decide +kernel
theorem yd_X9_costOf : yX9_costOf.cls = RX9 ∧ yX9_costOf.cls ≠ "java/lang/invoke/MethodHandle" ∧ yX9_costOf.cls ≠ "java/lang/invoke/VarHandle" ∧ (parseMethodDescriptor yX9_costOf.desc).map (fun d => d.parameters.length) = some 3 := by decide +kernel
theorem yd_X9_isBlock : yX9_isBlock.cls = RX9 ∧ yX9_isBlock.cls ≠ "java/lang/invoke/MethodHandle" ∧ yX9_isBlock.cls ≠ "java/lang/invoke/VarHandle" ∧ (parseMethodDescriptor yX9_isBlock.desc).map (fun d => d.parameters.length) = some 1 := by decide +kernel
theorem yd_X9_cost : yX9_cost.cls = RX9 ∧ yX9_cost.cls ≠ "java/lang/invoke/MethodHandle" ∧ yX9_cost.cls ≠ "java/lang/invoke/VarHandle" ∧ (parseMethodDescriptor yX9_cost.desc).map (fun d => d.parameters.length) = some 3 := by decide +kernel
theorem yd_X9_choice : yX9_choice.cls = RX9 ∧ yX9_choice.cls ≠ "java/lang/invoke/MethodHandle" ∧ yX9_choice.cls ≠ "java/lang/invoke/VarHandle" ∧ (parseMethodDescriptor yX9_choice.desc).map (fun d => d.parameters.length) = some 1 := by decide +kernel
theorem yd_X9_write : yX9_write.cls = RX9 ∧ yX9_write.cls ≠ "java/lang/invoke/MethodHandle" ∧ yX9_write.cls ≠ "java/lang/invoke/VarHandle" ∧ (parseMethodDescriptor yX9_write.desc).map (fun d => d.parameters.length) = some 2 := by decide +kernel
theorem yd_X9_writeFold : yX9_writeFold.cls = RX9 ∧ yX9_writeFold.cls ≠ "java/lang/invoke/MethodHandle" ∧ yX9_writeFold.cls ≠ "java/lang/invoke/VarHandle" ∧ (parseMethodDescriptor yX9_writeFold.desc).map (fun d => d.parameters.length) = some 2 := by decide +kernel
theorem yd_X9_pack : yX9_pack.cls = RX9 ∧ yX9_pack.cls ≠ "java/lang/invoke/MethodHandle" ∧ yX9_pack.cls ≠ "java/lang/invoke/VarHandle" ∧ (parseMethodDescriptor yX9_pack.desc).map (fun d => d.parameters.length) = some 0 := by decide +kernel
theorem yd_X9_block : yX9_block.cls = RX9 ∧ yX9_block.cls ≠ "java/lang/invoke/MethodHandle" ∧ yX9_block.cls ≠ "java/lang/invoke/VarHandle" ∧ (parseMethodDescriptor yX9_block.desc).map (fun d => d.parameters.length) = some 2 := by decide +kernel
theorem yd_X9_packed : yX9_packed.cls = RX9 ∧ yX9_packed.cls ≠ "java/lang/invoke/MethodHandle" ∧ yX9_packed.cls ≠ "java/lang/invoke/VarHandle" ∧ (parseMethodDescriptor yX9_packed.desc).map (fun d => d.parameters.length) = some 1 := by decide +kernel
theorem yd_X9_lost : yX9_lost.cls = RX9 ∧ yX9_lost.cls ≠ "java/lang/invoke/MethodHandle" ∧ yX9_lost.cls ≠ "java/lang/invoke/VarHandle" ∧ (parseMethodDescriptor yX9_lost.desc).map (fun d => d.parameters.length) = some 1 := by decide +kernel
theorem yd_X9_tape : yX9_tape.cls = RX9 ∧ yX9_tape.cls ≠ "java/lang/invoke/MethodHandle" ∧ yX9_tape.cls ≠ "java/lang/invoke/VarHandle" ∧ (parseMethodDescriptor yX9_tape.desc).map (fun d => d.parameters.length) = some 0 := by decide +kernel
theorem yd_X9_push : yX9_push.cls = RX9 ∧ yX9_push.cls ≠ "java/lang/invoke/MethodHandle" ∧ yX9_push.cls ≠ "java/lang/invoke/VarHandle" ∧ (parseMethodDescriptor yX9_push.desc).map (fun d => d.parameters.length) = some 1 := by decide +kernel
theorem yd_X9_flip : yX9_flip.cls = RX9 ∧ yX9_flip.cls ≠ "java/lang/invoke/MethodHandle" ∧ yX9_flip.cls ≠ "java/lang/invoke/VarHandle" ∧ (parseMethodDescriptor yX9_flip.desc).map (fun d => d.parameters.length) = some 1 := by decide +kernel
theorem yd_X9_cut : yX9_cut.cls = RX9 ∧ yX9_cut.cls ≠ "java/lang/invoke/MethodHandle" ∧ yX9_cut.cls ≠ "java/lang/invoke/VarHandle" ∧ (parseMethodDescriptor yX9_cut.desc).map (fun d => d.parameters.length) = some 1 := by decide +kernel
theorem yd_X9_bit : yX9_bit.cls = RX9 ∧ yX9_bit.cls ≠ "java/lang/invoke/MethodHandle" ∧ yX9_bit.cls ≠ "java/lang/invoke/VarHandle" ∧ (parseMethodDescriptor yX9_bit.desc).map (fun d => d.parameters.length) = some 1 := by decide +kernel
theorem yd_X9_fail : yX9_fail.cls = RX9 ∧ yX9_fail.cls ≠ "java/lang/invoke/MethodHandle" ∧ yX9_fail.cls ≠ "java/lang/invoke/VarHandle" ∧ (parseMethodDescriptor yX9_fail.desc).map (fun d => d.parameters.length) = some 2 := by decide +kernel
theorem yd_X9_number : yX9_number.cls = RX9 ∧ yX9_number.cls ≠ "java/lang/invoke/MethodHandle" ∧ yX9_number.cls ≠ "java/lang/invoke/VarHandle" ∧ (parseMethodDescriptor yX9_number.desc).map (fun d => d.parameters.length) = some 1 := by decide +kernel
theorem yd_X9_readFold : yX9_readFold.cls = RX9 ∧ yX9_readFold.cls ≠ "java/lang/invoke/MethodHandle" ∧ yX9_readFold.cls ≠ "java/lang/invoke/VarHandle" ∧ (parseMethodDescriptor yX9_readFold.desc).map (fun d => d.parameters.length) = some 1 := by decide +kernel
theorem yd_X9_readSample : yX9_readSample.cls = RX9 ∧ yX9_readSample.cls ≠ "java/lang/invoke/MethodHandle" ∧ yX9_readSample.cls ≠ "java/lang/invoke/VarHandle" ∧ (parseMethodDescriptor yX9_readSample.desc).map (fun d => d.parameters.length) = some 3 := by decide +kernel
theorem yd_X9_readBlock : yX9_readBlock.cls = RX9 ∧ yX9_readBlock.cls ≠ "java/lang/invoke/MethodHandle" ∧ yX9_readBlock.cls ≠ "java/lang/invoke/VarHandle" ∧ (parseMethodDescriptor yX9_readBlock.desc).map (fun d => d.parameters.length) = some 2 := by decide +kernel
theorem yd_X9_read : yX9_read.cls = RX9 ∧ yX9_read.cls ≠ "java/lang/invoke/MethodHandle" ∧ yX9_read.cls ≠ "java/lang/invoke/VarHandle" ∧ (parseMethodDescriptor yX9_read.desc).map (fun d => d.parameters.length) = some 1 := by decide +kernel
theorem yd_X9_fault : yX9_fault.cls = RX9 ∧ yX9_fault.cls ≠ "java/lang/invoke/MethodHandle" ∧ yX9_fault.cls ≠ "java/lang/invoke/VarHandle" ∧ (parseMethodDescriptor yX9_fault.desc).map (fun d => d.parameters.length) = some 1 := by decide +kernel
theorem yd_X9_image : yX9_image.cls = RX9 ∧ yX9_image.cls ≠ "java/lang/invoke/MethodHandle" ∧ yX9_image.cls ≠ "java/lang/invoke/VarHandle" ∧ (parseMethodDescriptor yX9_image.desc).map (fun d => d.parameters.length) = some 1 := by decide +kernel
theorem yd_X9_restore : yX9_restore.cls = RX9 ∧ yX9_restore.cls ≠ "java/lang/invoke/MethodHandle" ∧ yX9_restore.cls ≠ "java/lang/invoke/VarHandle" ∧ (parseMethodDescriptor yX9_restore.desc).map (fun d => d.parameters.length) = some 1 := by decide +kernel
theorem yd_X9_plainBlocks : yX9_plainBlocks.cls = RX9 ∧ yX9_plainBlocks.cls ≠ "java/lang/invoke/MethodHandle" ∧ yX9_plainBlocks.cls ≠ "java/lang/invoke/VarHandle" ∧ (parseMethodDescriptor yX9_plainBlocks.desc).map (fun d => d.parameters.length) = some 0 := by decide +kernel
theorem yd_X9_count : yX9_count.cls = RX9 ∧ yX9_count.cls ≠ "java/lang/invoke/MethodHandle" ∧ yX9_count.cls ≠ "java/lang/invoke/VarHandle" ∧ (parseMethodDescriptor yX9_count.desc).map (fun d => d.parameters.length) = some 1 := by decide +kernel
theorem inX0_appendNumber_0 : ∀ w ∈ wsX00, w ∈ wsX0_appendNumber := fun w h => List.mem_cons_of_mem _ (List.mem_append_right _ h)
theorem inX0_append_0 : ∀ w ∈ wsX00, w ∈ wsX0_append := fun w h => List.mem_cons_of_mem _ (List.mem_append_right _ h)
theorem inX0_at_0 : ∀ w ∈ wsX00, w ∈ wsX0_at := fun w h => List.mem_cons_of_mem _ (List.mem_append_right _ h)
theorem inX0_has_0 : ∀ w ∈ wsX00, w ∈ wsX0_has := fun w h => List.mem_cons_of_mem _ (List.mem_append_right _ h)
theorem inX0_init_0 : ∀ w ∈ wsX00, w ∈ wsX0_init := fun w h => List.mem_cons_of_mem _ (List.mem_append_right _ h)
theorem inX0_takeOver_0 : ∀ w ∈ wsX00, w ∈ wsX0_takeOver := fun w h => List.mem_cons_of_mem _ (List.mem_append_right _ h)
theorem inX0_turn_0 : ∀ w ∈ wsX00, w ∈ wsX0_turn := fun w h => List.mem_cons_of_mem _ (List.mem_append_right _ h)
theorem inX1_forget_1 : ∀ w ∈ wsX10, w ∈ wsX1_forget := fun w h => List.mem_cons_of_mem _ (List.mem_append_right _ h)
theorem inX1_init_1 : ∀ w ∈ wsX10, w ∈ wsX1_init := fun w h => List.mem_cons_of_mem _ (List.mem_append_right _ h)
theorem inX1_isTold_1 : ∀ w ∈ wsX10, w ∈ wsX1_isTold := fun w h => List.mem_cons_of_mem _ (List.mem_append_right _ h)
theorem inX1_takeOver_1 : ∀ w ∈ wsX10, w ∈ wsX1_takeOver := fun w h => List.mem_cons_of_mem _ (List.mem_append_right _ h)
theorem inX2_costBy_2 : ∀ w ∈ wsX20, w ∈ wsX2_costBy := fun w h => List.mem_cons_of_mem _ (List.mem_append_right _ h)
theorem inX2_fill_2 : ∀ w ∈ wsX20, w ∈ wsX2_fill := fun w h => List.mem_cons_of_mem _ (List.mem_append_right _ h)
theorem inX2_fill_6 : ∀ w ∈ wsX60, w ∈ wsX2_fill := fun w h => List.mem_cons_of_mem _ (List.mem_append_left _ (List.mem_append_right _ h))
theorem inX2_fill_7 : ∀ w ∈ wsX70, w ∈ wsX2_fill := fun w h => List.mem_cons_of_mem _ (List.mem_append_left _ (List.mem_append_left _ (List.mem_append_right _ h)))
theorem inX2_init_2 : ∀ w ∈ wsX20, w ∈ wsX2_init := fun w h => List.mem_cons_of_mem _ (List.mem_append_right _ h)
theorem inX2_isAllNothing_2 : ∀ w ∈ wsX20, w ∈ wsX2_isAllNothing := fun w h => List.mem_cons_of_mem _ (List.mem_append_right _ h)
theorem inX2_writeByNoughts_0 : ∀ w ∈ wsX00, w ∈ wsX2_writeByNoughts := fun w h => List.mem_cons_of_mem _ (List.mem_append_right _ h)
theorem inX2_write_0 : ∀ w ∈ wsX00, w ∈ wsX2_write := fun w h => List.mem_cons_of_mem _ (List.mem_append_right _ h)
theorem inX2_write_2 : ∀ w ∈ wsX20, w ∈ wsX2_write := fun w h => List.mem_cons_of_mem _ (List.mem_append_left _ (List.mem_append_right _ h))
theorem inX3_init_0 : ∀ w ∈ wsX00, w ∈ wsX3_init := fun w h => List.mem_cons_of_mem _ (List.mem_append_left _ (List.mem_append_right _ h))
theorem inX3_init_1 : ∀ w ∈ wsX10, w ∈ wsX3_init := fun w h => List.mem_cons_of_mem _ (List.mem_append_right _ h)
theorem inX3_init_3 : ∀ w ∈ wsX30, w ∈ wsX3_init := fun w h => List.mem_cons_of_mem _ (List.mem_append_left _ (List.mem_append_left _ (List.mem_append_left _ (List.mem_append_right _ h))))
theorem inX3_init_6 : ∀ w ∈ wsX60, w ∈ wsX3_init := fun w h => List.mem_cons_of_mem _ (List.mem_append_left _ (List.mem_append_left _ (List.mem_append_right _ h)))
theorem inX3_init_7 : ∀ w ∈ wsX70, w ∈ wsX3_init := fun w h => List.mem_cons_of_mem _ (List.mem_append_left _ (List.mem_append_left _ (List.mem_append_left _ (List.mem_append_left _ (List.mem_append_right _ h)))))
theorem inX3_takeOver_0 : ∀ w ∈ wsX00, w ∈ wsX3_takeOver := fun w h => List.mem_cons_of_mem _ (List.mem_append_left _ (List.mem_append_right _ h))
theorem inX3_takeOver_1 : ∀ w ∈ wsX10, w ∈ wsX3_takeOver := fun w h => List.mem_cons_of_mem _ (List.mem_append_right _ h)
theorem inX3_takeOver_3 : ∀ w ∈ wsX30, w ∈ wsX3_takeOver := fun w h => List.mem_cons_of_mem _ (List.mem_append_left _ (List.mem_append_left _ (List.mem_append_left _ (List.mem_append_left _ (List.mem_append_right _ h)))))
theorem inX3_takeOver_6 : ∀ w ∈ wsX60, w ∈ wsX3_takeOver := fun w h => List.mem_cons_of_mem _ (List.mem_append_left _ (List.mem_append_left _ (List.mem_append_right _ h)))
theorem inX3_takeOver_7 : ∀ w ∈ wsX70, w ∈ wsX3_takeOver := fun w h => List.mem_cons_of_mem _ (List.mem_append_left _ (List.mem_append_left _ (List.mem_append_left _ (List.mem_append_right _ h))))
theorem inX4_choose_2 : ∀ w ∈ wsX20, w ∈ wsX4_choose := fun w h => List.mem_cons_of_mem _ (List.mem_append_right _ h)
theorem inX4_choose_4 : ∀ w ∈ wsX40, w ∈ wsX4_choose := fun w h => List.mem_cons_of_mem _ (List.mem_append_left _ (List.mem_append_left _ (List.mem_append_left _ (List.mem_append_right _ h))))
theorem inX4_choose_6 : ∀ w ∈ wsX60, w ∈ wsX4_choose := fun w h => List.mem_cons_of_mem _ (List.mem_append_left _ (List.mem_append_right _ h))
theorem inX4_choose_7 : ∀ w ∈ wsX70, w ∈ wsX4_choose := fun w h => List.mem_cons_of_mem _ (List.mem_append_left _ (List.mem_append_left _ (List.mem_append_right _ h)))
theorem inX4_costOf_2 : ∀ w ∈ wsX20, w ∈ wsX4_costOf := fun w h => List.mem_cons_of_mem _ (List.mem_append_right _ h)
theorem inX4_costOf_4 : ∀ w ∈ wsX40, w ∈ wsX4_costOf := fun w h => List.mem_cons_of_mem _ (List.mem_append_left _ (List.mem_append_left _ (List.mem_append_left _ (List.mem_append_right _ h))))
theorem inX4_costOf_6 : ∀ w ∈ wsX60, w ∈ wsX4_costOf := fun w h => List.mem_cons_of_mem _ (List.mem_append_left _ (List.mem_append_right _ h))
theorem inX4_costOf_7 : ∀ w ∈ wsX70, w ∈ wsX4_costOf := fun w h => List.mem_cons_of_mem _ (List.mem_append_left _ (List.mem_append_left _ (List.mem_append_right _ h)))
theorem inX4_init_0 : ∀ w ∈ wsX00, w ∈ wsX4_init := fun w h => List.mem_cons_of_mem _ (List.mem_append_left _ (List.mem_append_right _ h))
theorem inX4_init_2 : ∀ w ∈ wsX20, w ∈ wsX4_init := fun w h => List.mem_cons_of_mem _ (List.mem_append_right _ h)
theorem inX4_init_4 : ∀ w ∈ wsX40, w ∈ wsX4_init := fun w h => List.mem_cons_of_mem _ (List.mem_append_left _ (List.mem_append_left _ (List.mem_append_right _ h)))
theorem inX4_keepOnly_0 : ∀ w ∈ wsX00, w ∈ wsX4_keepOnly := fun w h => List.mem_cons_of_mem _ (List.mem_append_right _ h)
theorem inX4_keepOnly_4 : ∀ w ∈ wsX40, w ∈ wsX4_keepOnly := fun w h => List.mem_cons_of_mem _ (List.mem_append_left _ (List.mem_append_right _ h))
theorem inX4_settle_0 : ∀ w ∈ wsX00, w ∈ wsX4_settle := fun w h => List.mem_cons_of_mem _ (List.mem_append_left _ (List.mem_append_left _ (List.mem_append_left _ (List.mem_append_right _ h))))
theorem inX4_settle_2 : ∀ w ∈ wsX20, w ∈ wsX4_settle := fun w h => List.mem_cons_of_mem _ (List.mem_append_right _ h)
theorem inX4_settle_4 : ∀ w ∈ wsX40, w ∈ wsX4_settle := fun w h => List.mem_cons_of_mem _ (List.mem_append_left _ (List.mem_append_left _ (List.mem_append_left _ (List.mem_append_left _ (List.mem_append_right _ h)))))
theorem inX4_settle_6 : ∀ w ∈ wsX60, w ∈ wsX4_settle := fun w h => List.mem_cons_of_mem _ (List.mem_append_left _ (List.mem_append_right _ h))
theorem inX4_settle_7 : ∀ w ∈ wsX70, w ∈ wsX4_settle := fun w h => List.mem_cons_of_mem _ (List.mem_append_left _ (List.mem_append_left _ (List.mem_append_right _ h)))
theorem inX4_settledWith_4 : ∀ w ∈ wsX40, w ∈ wsX4_settledWith := fun w h => List.mem_cons_of_mem _ (List.mem_append_right _ h)
theorem inX5_fail_1 : ∀ w ∈ wsX10, w ∈ wsX5_fail := fun w h => List.mem_cons_of_mem _ (List.mem_append_left _ (List.mem_append_right _ h))
theorem inX5_fail_5 : ∀ w ∈ wsX50, w ∈ wsX5_fail := fun w h => List.mem_cons_of_mem _ (List.mem_append_left _ (List.mem_append_left _ (List.mem_append_right _ h)))
theorem inX5_fail_6 : ∀ w ∈ wsX60, w ∈ wsX5_fail := fun w h => List.mem_cons_of_mem _ (List.mem_append_right _ h)
theorem inX5_init_1 : ∀ w ∈ wsX10, w ∈ wsX5_init := fun w h => List.mem_cons_of_mem _ (List.mem_append_right _ h)
theorem inX5_init_5 : ∀ w ∈ wsX50, w ∈ wsX5_init := fun w h => List.mem_cons_of_mem _ (List.mem_append_left _ (List.mem_append_right _ h))
theorem inX5_init_6 : ∀ w ∈ wsX60, w ∈ wsX5_init := fun w h => List.mem_cons_of_mem _ (List.mem_append_left _ (List.mem_append_left _ (List.mem_append_right _ h)))
theorem inX5_takeAll_0 : ∀ w ∈ wsX00, w ∈ wsX5_takeAll := fun w h => List.mem_cons_of_mem _ (List.mem_append_left _ (List.mem_append_right _ h))
theorem inX5_takeAll_1 : ∀ w ∈ wsX10, w ∈ wsX5_takeAll := fun w h => List.mem_cons_of_mem _ (List.mem_append_right _ h)
theorem inX5_takeAll_5 : ∀ w ∈ wsX50, w ∈ wsX5_takeAll := fun w h => List.mem_cons_of_mem _ (List.mem_append_left _ (List.mem_append_left _ (List.mem_append_left _ (List.mem_append_left _ (List.mem_append_right _ h)))))
theorem inX5_takeAll_6 : ∀ w ∈ wsX60, w ∈ wsX5_takeAll := fun w h => List.mem_cons_of_mem _ (List.mem_append_left _ (List.mem_append_left _ (List.mem_append_left _ (List.mem_append_right _ h))))
theorem inX5_takeAll_7 : ∀ w ∈ wsX70, w ∈ wsX5_takeAll := fun w h => List.mem_cons_of_mem _ (List.mem_append_left _ (List.mem_append_left _ (List.mem_append_right _ h)))
theorem inX5_takeBlock_0 : ∀ w ∈ wsX00, w ∈ wsX5_takeBlock := fun w h => List.mem_cons_of_mem _ (List.mem_append_left _ (List.mem_append_right _ h))
theorem inX5_takeBlock_1 : ∀ w ∈ wsX10, w ∈ wsX5_takeBlock := fun w h => List.mem_cons_of_mem _ (List.mem_append_right _ h)
theorem inX5_takeBlock_5 : ∀ w ∈ wsX50, w ∈ wsX5_takeBlock := fun w h => List.mem_cons_of_mem _ (List.mem_append_left _ (List.mem_append_left _ (List.mem_append_left _ (List.mem_append_left _ (List.mem_append_right _ h)))))
theorem inX5_takeBlock_6 : ∀ w ∈ wsX60, w ∈ wsX5_takeBlock := fun w h => List.mem_cons_of_mem _ (List.mem_append_left _ (List.mem_append_left _ (List.mem_append_right _ h)))
theorem inX5_takeBlock_7 : ∀ w ∈ wsX70, w ∈ wsX5_takeBlock := fun w h => List.mem_cons_of_mem _ (List.mem_append_left _ (List.mem_append_left _ (List.mem_append_left _ (List.mem_append_right _ h))))
theorem inX5_takeByNoughts_0 : ∀ w ∈ wsX00, w ∈ wsX5_takeByNoughts := fun w h => List.mem_cons_of_mem _ (List.mem_append_left _ (List.mem_append_left _ (List.mem_append_right _ h)))
theorem inX5_takeByNoughts_1 : ∀ w ∈ wsX10, w ∈ wsX5_takeByNoughts := fun w h => List.mem_cons_of_mem _ (List.mem_append_left _ (List.mem_append_right _ h))
theorem inX5_takeByNoughts_5 : ∀ w ∈ wsX50, w ∈ wsX5_takeByNoughts := fun w h => List.mem_cons_of_mem _ (List.mem_append_left _ (List.mem_append_left _ (List.mem_append_left _ (List.mem_append_right _ h))))
theorem inX5_takeByNoughts_6 : ∀ w ∈ wsX60, w ∈ wsX5_takeByNoughts := fun w h => List.mem_cons_of_mem _ (List.mem_append_right _ h)
theorem inX5_takeNumber_0 : ∀ w ∈ wsX00, w ∈ wsX5_takeNumber := fun w h => List.mem_cons_of_mem _ (List.mem_append_left _ (List.mem_append_left _ (List.mem_append_left _ (List.mem_append_right _ h))))
theorem inX5_takeNumber_1 : ∀ w ∈ wsX10, w ∈ wsX5_takeNumber := fun w h => List.mem_cons_of_mem _ (List.mem_append_left _ (List.mem_append_right _ h))
theorem inX5_takeNumber_5 : ∀ w ∈ wsX50, w ∈ wsX5_takeNumber := fun w h => List.mem_cons_of_mem _ (List.mem_append_left _ (List.mem_append_left _ (List.mem_append_right _ h)))
theorem inX5_takeNumber_6 : ∀ w ∈ wsX60, w ∈ wsX5_takeNumber := fun w h => List.mem_cons_of_mem _ (List.mem_append_right _ h)
theorem inX5_takeTold_0 : ∀ w ∈ wsX00, w ∈ wsX5_takeTold := fun w h => List.mem_cons_of_mem _ (List.mem_append_left _ (List.mem_append_right _ h))
theorem inX5_takeTold_1 : ∀ w ∈ wsX10, w ∈ wsX5_takeTold := fun w h => List.mem_cons_of_mem _ (List.mem_append_right _ h)
theorem inX5_takeTold_5 : ∀ w ∈ wsX50, w ∈ wsX5_takeTold := fun w h => List.mem_cons_of_mem _ (List.mem_append_left _ (List.mem_append_left _ (List.mem_append_left _ (List.mem_append_right _ h))))
theorem inX5_takeTold_6 : ∀ w ∈ wsX60, w ∈ wsX5_takeTold := fun w h => List.mem_cons_of_mem _ (List.mem_append_left _ (List.mem_append_left _ (List.mem_append_right _ h)))
theorem inX5_takeTold_7 : ∀ w ∈ wsX70, w ∈ wsX5_takeTold := fun w h => List.mem_cons_of_mem _ (List.mem_append_left _ (List.mem_append_left _ (List.mem_append_left _ (List.mem_append_left _ (List.mem_append_right _ h)))))
theorem inX6_append_6 : ∀ w ∈ wsX60, w ∈ wsX6_append := fun w h => List.mem_cons_of_mem _ (List.mem_append_right _ h)
theorem inX6_at_6 : ∀ w ∈ wsX60, w ∈ wsX6_at := fun w h => List.mem_cons_of_mem _ (List.mem_append_right _ h)
theorem inX6_has_6 : ∀ w ∈ wsX60, w ∈ wsX6_has := fun w h => List.mem_cons_of_mem _ (List.mem_append_right _ h)
theorem inX6_highest_6 : ∀ w ∈ wsX60, w ∈ wsX6_highest := fun w h => List.mem_cons_of_mem _ (List.mem_append_right _ h)
theorem inX6_init_6 : ∀ w ∈ wsX60, w ∈ wsX6_init := fun w h => List.mem_cons_of_mem _ (List.mem_append_right _ h)
theorem inX6_takeOver_6 : ∀ w ∈ wsX60, w ∈ wsX6_takeOver := fun w h => List.mem_cons_of_mem _ (List.mem_append_right _ h)
theorem inX7_blockWith_7 : ∀ w ∈ wsX70, w ∈ wsX7_blockWith := fun w h => List.mem_cons_of_mem _ (List.mem_append_right _ h)
theorem inX7_change_7 : ∀ w ∈ wsX70, w ∈ wsX7_change := fun w h => List.mem_cons_of_mem _ (List.mem_append_right _ h)
theorem inX7_endOfBlock_7 : ∀ w ∈ wsX70, w ∈ wsX7_endOfBlock := fun w h => List.mem_cons_of_mem _ (List.mem_append_right _ h)
theorem inX7_init_7 : ∀ w ∈ wsX70, w ∈ wsX7_init := fun w h => List.mem_cons_of_mem _ (List.mem_append_right _ h)
theorem inX7_isBare_7 : ∀ w ∈ wsX70, w ∈ wsX7_isBare := fun w h => List.mem_cons_of_mem _ (List.mem_append_right _ h)
theorem inX7_segmentSize_7 : ∀ w ∈ wsX70, w ∈ wsX7_segmentSize := fun w h => List.mem_cons_of_mem _ (List.mem_append_right _ h)
theorem inX7_takeOver_7 : ∀ w ∈ wsX70, w ∈ wsX7_takeOver := fun w h => List.mem_cons_of_mem _ (List.mem_append_right _ h)
theorem inX7_top_7 : ∀ w ∈ wsX70, w ∈ wsX7_top := fun w h => List.mem_cons_of_mem _ (List.mem_append_right _ h)
theorem inX7_value_7 : ∀ w ∈ wsX70, w ∈ wsX7_value := fun w h => List.mem_cons_of_mem _ (List.mem_append_right _ h)
theorem inX8_add_0 : ∀ w ∈ wsX00, w ∈ wsX8_add := fun w h => List.mem_cons_of_mem _ (List.mem_append_right _ h)
theorem inX8_add_3 : ∀ w ∈ wsX30, w ∈ wsX8_add := fun w h => List.mem_cons_of_mem _ (List.mem_append_left _ (List.mem_append_left _ (List.mem_append_left _ (List.mem_append_left _ (List.mem_append_right _ h)))))
theorem inX8_add_4 : ∀ w ∈ wsX40, w ∈ wsX8_add := fun w h => List.mem_cons_of_mem _ (List.mem_append_left _ (List.mem_append_right _ h))
theorem inX8_add_6 : ∀ w ∈ wsX60, w ∈ wsX8_add := fun w h => List.mem_cons_of_mem _ (List.mem_append_left _ (List.mem_append_left _ (List.mem_append_left _ (List.mem_append_right _ h))))
theorem inX8_add_7 : ∀ w ∈ wsX70, w ∈ wsX8_add := fun w h => List.mem_cons_of_mem _ (List.mem_append_left _ (List.mem_append_left _ (List.mem_append_right _ h)))
theorem inX8_add_8 : ∀ w ∈ wsX80, w ∈ wsX8_add := fun w h => List.mem_cons_of_mem _ (List.mem_append_left _ (List.mem_append_left _ (List.mem_append_left _ (List.mem_append_left _ (List.mem_append_left _ (List.mem_append_right _ h))))))
theorem inX8_ahead_3 : ∀ w ∈ wsX30, w ∈ wsX8_ahead := fun w h => List.mem_cons_of_mem _ (List.mem_append_left _ (List.mem_append_left _ (List.mem_append_right _ h)))
theorem inX8_ahead_6 : ∀ w ∈ wsX60, w ∈ wsX8_ahead := fun w h => List.mem_cons_of_mem _ (List.mem_append_left _ (List.mem_append_right _ h))
theorem inX8_ahead_7 : ∀ w ∈ wsX70, w ∈ wsX8_ahead := fun w h => List.mem_cons_of_mem _ (List.mem_append_right _ h)
theorem inX8_ahead_8 : ∀ w ∈ wsX80, w ∈ wsX8_ahead := fun w h => List.mem_cons_of_mem _ (List.mem_append_left _ (List.mem_append_left _ (List.mem_append_left _ (List.mem_append_right _ h))))
theorem inX8_bit_0 : ∀ w ∈ wsX00, w ∈ wsX8_bit := fun w h => List.mem_cons_of_mem _ (List.mem_append_right _ h)
theorem inX8_bit_3 : ∀ w ∈ wsX30, w ∈ wsX8_bit := fun w h => List.mem_cons_of_mem _ (List.mem_append_left _ (List.mem_append_right _ h))
theorem inX8_bit_8 : ∀ w ∈ wsX80, w ∈ wsX8_bit := fun w h => List.mem_cons_of_mem _ (List.mem_append_left _ (List.mem_append_left _ (List.mem_append_right _ h)))
theorem inX8_block_0 : ∀ w ∈ wsX00, w ∈ wsX8_block := fun w h => List.mem_cons_of_mem _ (List.mem_append_left _ (List.mem_append_right _ h))
theorem inX8_block_2 : ∀ w ∈ wsX20, w ∈ wsX8_block := fun w h => List.mem_cons_of_mem _ (List.mem_append_right _ h)
theorem inX8_block_3 : ∀ w ∈ wsX30, w ∈ wsX8_block := fun w h => List.mem_cons_of_mem _ (List.mem_append_left _ (List.mem_append_left _ (List.mem_append_left _ (List.mem_append_left _ (List.mem_append_left _ (List.mem_append_right _ h))))))
theorem inX8_block_4 : ∀ w ∈ wsX40, w ∈ wsX8_block := fun w h => List.mem_cons_of_mem _ (List.mem_append_left _ (List.mem_append_left _ (List.mem_append_left _ (List.mem_append_left _ (List.mem_append_right _ h)))))
theorem inX8_block_6 : ∀ w ∈ wsX60, w ∈ wsX8_block := fun w h => List.mem_cons_of_mem _ (List.mem_append_left _ (List.mem_append_left _ (List.mem_append_left _ (List.mem_append_right _ h))))
theorem inX8_block_7 : ∀ w ∈ wsX70, w ∈ wsX8_block := fun w h => List.mem_cons_of_mem _ (List.mem_append_left _ (List.mem_append_left _ (List.mem_append_right _ h)))
theorem inX8_block_8 : ∀ w ∈ wsX80, w ∈ wsX8_block := fun w h => List.mem_cons_of_mem _ (List.mem_append_left _ (List.mem_append_left _ (List.mem_append_left _ (List.mem_append_left _ (List.mem_append_left _ (List.mem_append_left _ (List.mem_append_right _ h)))))))
theorem inX8_blocks_3 : ∀ w ∈ wsX30, w ∈ wsX8_blocks := fun w h => List.mem_cons_of_mem _ (List.mem_append_left _ (List.mem_append_left _ (List.mem_append_right _ h)))
theorem inX8_blocks_6 : ∀ w ∈ wsX60, w ∈ wsX8_blocks := fun w h => List.mem_cons_of_mem _ (List.mem_append_left _ (List.mem_append_right _ h))
theorem inX8_blocks_7 : ∀ w ∈ wsX70, w ∈ wsX8_blocks := fun w h => List.mem_cons_of_mem _ (List.mem_append_right _ h)
theorem inX8_blocks_8 : ∀ w ∈ wsX80, w ∈ wsX8_blocks := fun w h => List.mem_cons_of_mem _ (List.mem_append_left _ (List.mem_append_left _ (List.mem_append_left _ (List.mem_append_right _ h))))
theorem inX8_clear_0 : ∀ w ∈ wsX00, w ∈ wsX8_clear := fun w h => List.mem_cons_of_mem _ (List.mem_append_right _ h)
theorem inX8_clear_3 : ∀ w ∈ wsX30, w ∈ wsX8_clear := fun w h => List.mem_cons_of_mem _ (List.mem_append_left _ (List.mem_append_left _ (List.mem_append_left _ (List.mem_append_right _ h))))
theorem inX8_clear_4 : ∀ w ∈ wsX40, w ∈ wsX8_clear := fun w h => List.mem_cons_of_mem _ (List.mem_append_left _ (List.mem_append_right _ h))
theorem inX8_clear_6 : ∀ w ∈ wsX60, w ∈ wsX8_clear := fun w h => List.mem_cons_of_mem _ (List.mem_append_left _ (List.mem_append_left _ (List.mem_append_right _ h)))
theorem inX8_clear_8 : ∀ w ∈ wsX80, w ∈ wsX8_clear := fun w h => List.mem_cons_of_mem _ (List.mem_append_left _ (List.mem_append_left _ (List.mem_append_left _ (List.mem_append_left _ (List.mem_append_right _ h)))))
theorem inX8_cost_2 : ∀ w ∈ wsX20, w ∈ wsX8_cost := fun w h => List.mem_cons_of_mem _ (List.mem_append_right _ h)
theorem inX8_cost_3 : ∀ w ∈ wsX30, w ∈ wsX8_cost := fun w h => List.mem_cons_of_mem _ (List.mem_append_left _ (List.mem_append_left _ (List.mem_append_left _ (List.mem_append_left _ (List.mem_append_right _ h)))))
theorem inX8_cost_4 : ∀ w ∈ wsX40, w ∈ wsX8_cost := fun w h => List.mem_cons_of_mem _ (List.mem_append_left _ (List.mem_append_right _ h))
theorem inX8_cost_6 : ∀ w ∈ wsX60, w ∈ wsX8_cost := fun w h => List.mem_cons_of_mem _ (List.mem_append_left _ (List.mem_append_left _ (List.mem_append_left _ (List.mem_append_right _ h))))
theorem inX8_cost_7 : ∀ w ∈ wsX70, w ∈ wsX8_cost := fun w h => List.mem_cons_of_mem _ (List.mem_append_left _ (List.mem_append_left _ (List.mem_append_right _ h)))
theorem inX8_cost_8 : ∀ w ∈ wsX80, w ∈ wsX8_cost := fun w h => List.mem_cons_of_mem _ (List.mem_append_left _ (List.mem_append_left _ (List.mem_append_left _ (List.mem_append_left _ (List.mem_append_left _ (List.mem_append_right _ h))))))
theorem inX8_count_0 : ∀ w ∈ wsX00, w ∈ wsX8_count := fun w h => List.mem_cons_of_mem _ (List.mem_append_left _ (List.mem_append_left _ (List.mem_append_right _ h)))
theorem inX8_count_2 : ∀ w ∈ wsX20, w ∈ wsX8_count := fun w h => List.mem_cons_of_mem _ (List.mem_append_right _ h)
theorem inX8_count_3 : ∀ w ∈ wsX30, w ∈ wsX8_count := fun w h => List.mem_cons_of_mem _ (List.mem_append_left _ (List.mem_append_left _ (List.mem_append_left _ (List.mem_append_left _ (List.mem_append_left _ (List.mem_append_right _ h))))))
theorem inX8_count_4 : ∀ w ∈ wsX40, w ∈ wsX8_count := fun w h => List.mem_cons_of_mem _ (List.mem_append_left _ (List.mem_append_left _ (List.mem_append_left _ (List.mem_append_right _ h))))
theorem inX8_count_6 : ∀ w ∈ wsX60, w ∈ wsX8_count := fun w h => List.mem_cons_of_mem _ (List.mem_append_left _ (List.mem_append_left _ (List.mem_append_left _ (List.mem_append_left _ (List.mem_append_right _ h)))))
theorem inX8_count_7 : ∀ w ∈ wsX70, w ∈ wsX8_count := fun w h => List.mem_cons_of_mem _ (List.mem_append_left _ (List.mem_append_right _ h))
theorem inX8_count_8 : ∀ w ∈ wsX80, w ∈ wsX8_count := fun w h => List.mem_cons_of_mem _ (List.mem_append_left _ (List.mem_append_left _ (List.mem_append_left _ (List.mem_append_left _ (List.mem_append_left _ (List.mem_append_left _ (List.mem_append_right _ h)))))))
theorem inX8_cut_0 : ∀ w ∈ wsX00, w ∈ wsX8_cut := fun w h => List.mem_cons_of_mem _ (List.mem_append_right _ h)
theorem inX8_cut_3 : ∀ w ∈ wsX30, w ∈ wsX8_cut := fun w h => List.mem_cons_of_mem _ (List.mem_append_left _ (List.mem_append_right _ h))
theorem inX8_cut_8 : ∀ w ∈ wsX80, w ∈ wsX8_cut := fun w h => List.mem_cons_of_mem _ (List.mem_append_left _ (List.mem_append_left _ (List.mem_append_right _ h)))
theorem inX8_fault_1 : ∀ w ∈ wsX10, w ∈ wsX8_fault := fun w h => List.mem_cons_of_mem _ (List.mem_append_right _ h)
theorem inX8_fault_3 : ∀ w ∈ wsX30, w ∈ wsX8_fault := fun w h => List.mem_cons_of_mem _ (List.mem_append_left _ (List.mem_append_right _ h))
theorem inX8_fault_8 : ∀ w ∈ wsX80, w ∈ wsX8_fault := fun w h => List.mem_cons_of_mem _ (List.mem_append_left _ (List.mem_append_left _ (List.mem_append_right _ h)))
theorem inX8_flip_0 : ∀ w ∈ wsX00, w ∈ wsX8_flip := fun w h => List.mem_cons_of_mem _ (List.mem_append_right _ h)
theorem inX8_flip_3 : ∀ w ∈ wsX30, w ∈ wsX8_flip := fun w h => List.mem_cons_of_mem _ (List.mem_append_left _ (List.mem_append_right _ h))
theorem inX8_flip_8 : ∀ w ∈ wsX80, w ∈ wsX8_flip := fun w h => List.mem_cons_of_mem _ (List.mem_append_left _ (List.mem_append_left _ (List.mem_append_right _ h)))
theorem inX8_hasBlock_3 : ∀ w ∈ wsX30, w ∈ wsX8_hasBlock := fun w h => List.mem_cons_of_mem _ (List.mem_append_left _ (List.mem_append_left _ (List.mem_append_right _ h)))
theorem inX8_hasBlock_6 : ∀ w ∈ wsX60, w ∈ wsX8_hasBlock := fun w h => List.mem_cons_of_mem _ (List.mem_append_left _ (List.mem_append_right _ h))
theorem inX8_hasBlock_7 : ∀ w ∈ wsX70, w ∈ wsX8_hasBlock := fun w h => List.mem_cons_of_mem _ (List.mem_append_right _ h)
theorem inX8_hasBlock_8 : ∀ w ∈ wsX80, w ∈ wsX8_hasBlock := fun w h => List.mem_cons_of_mem _ (List.mem_append_left _ (List.mem_append_left _ (List.mem_append_left _ (List.mem_append_right _ h))))
theorem inX8_image_0 : ∀ w ∈ wsX00, w ∈ wsX8_image := fun w h => List.mem_cons_of_mem _ (List.mem_append_left _ (List.mem_append_right _ h))
theorem inX8_image_1 : ∀ w ∈ wsX10, w ∈ wsX8_image := fun w h => List.mem_cons_of_mem _ (List.mem_append_right _ h)
theorem inX8_image_3 : ∀ w ∈ wsX30, w ∈ wsX8_image := fun w h => List.mem_cons_of_mem _ (List.mem_append_left _ (List.mem_append_left _ (List.mem_append_left _ (List.mem_append_left _ (List.mem_append_right _ h)))))
theorem inX8_image_6 : ∀ w ∈ wsX60, w ∈ wsX8_image := fun w h => List.mem_cons_of_mem _ (List.mem_append_left _ (List.mem_append_left _ (List.mem_append_right _ h)))
theorem inX8_image_7 : ∀ w ∈ wsX70, w ∈ wsX8_image := fun w h => List.mem_cons_of_mem _ (List.mem_append_left _ (List.mem_append_left _ (List.mem_append_left _ (List.mem_append_right _ h))))
theorem inX8_image_8 : ∀ w ∈ wsX80, w ∈ wsX8_image := fun w h => List.mem_cons_of_mem _ (List.mem_append_left _ (List.mem_append_left _ (List.mem_append_left _ (List.mem_append_left _ (List.mem_append_left _ (List.mem_append_right _ h))))))
theorem inX8_init_0 : ∀ w ∈ wsX00, w ∈ wsX8_init := fun w h => List.mem_cons_of_mem _ (List.mem_append_left _ (List.mem_append_left _ (List.mem_append_right _ h)))
theorem inX8_init_1 : ∀ w ∈ wsX10, w ∈ wsX8_init := fun w h => List.mem_cons_of_mem _ (List.mem_append_left _ (List.mem_append_right _ h))
theorem inX8_init_2 : ∀ w ∈ wsX20, w ∈ wsX8_init := fun w h => List.mem_cons_of_mem _ (List.mem_append_right _ h)
theorem inX8_init_3 : ∀ w ∈ wsX30, w ∈ wsX8_init := fun w h => List.mem_cons_of_mem _ (List.mem_append_left _ (List.mem_append_left _ (List.mem_append_left _ (List.mem_append_left _ (List.mem_append_left _ (List.mem_append_left _ (List.mem_append_left _ (List.mem_append_left _ (List.mem_append_right _ h)))))))))
theorem inX8_init_4 : ∀ w ∈ wsX40, w ∈ wsX8_init := fun w h => List.mem_cons_of_mem _ (List.mem_append_left _ (List.mem_append_left _ (List.mem_append_left _ (List.mem_append_left _ (List.mem_append_left _ (List.mem_append_left _ (List.mem_append_right _ h)))))))
theorem inX8_init_5 : ∀ w ∈ wsX50, w ∈ wsX8_init := fun w h => List.mem_cons_of_mem _ (List.mem_append_left _ (List.mem_append_left _ (List.mem_append_left _ (List.mem_append_left _ (List.mem_append_left _ (List.mem_append_right _ h))))))
theorem inX8_init_6 : ∀ w ∈ wsX60, w ∈ wsX8_init := fun w h => List.mem_cons_of_mem _ (List.mem_append_left _ (List.mem_append_left _ (List.mem_append_left _ (List.mem_append_right _ h))))
theorem inX8_init_7 : ∀ w ∈ wsX70, w ∈ wsX8_init := fun w h => List.mem_cons_of_mem _ (List.mem_append_left _ (List.mem_append_left _ (List.mem_append_left _ (List.mem_append_left _ (List.mem_append_right _ h)))))
theorem inX8_init_8 : ∀ w ∈ wsX80, w ∈ wsX8_init := fun w h => List.mem_cons_of_mem _ (List.mem_append_left _ (List.mem_append_left _ (List.mem_append_left _ (List.mem_append_left _ (List.mem_append_left _ (List.mem_append_left _ (List.mem_append_left _ (List.mem_append_right _ h))))))))
theorem inX8_lost_3 : ∀ w ∈ wsX30, w ∈ wsX8_lost := fun w h => List.mem_cons_of_mem _ (List.mem_append_left _ (List.mem_append_left _ (List.mem_append_right _ h)))
theorem inX8_lost_6 : ∀ w ∈ wsX60, w ∈ wsX8_lost := fun w h => List.mem_cons_of_mem _ (List.mem_append_right _ h)
theorem inX8_lost_7 : ∀ w ∈ wsX70, w ∈ wsX8_lost := fun w h => List.mem_cons_of_mem _ (List.mem_append_left _ (List.mem_append_right _ h))
theorem inX8_lost_8 : ∀ w ∈ wsX80, w ∈ wsX8_lost := fun w h => List.mem_cons_of_mem _ (List.mem_append_left _ (List.mem_append_left _ (List.mem_append_left _ (List.mem_append_right _ h))))
theorem inX8_packed_0 : ∀ w ∈ wsX00, w ∈ wsX8_packed := fun w h => List.mem_cons_of_mem _ (List.mem_append_left _ (List.mem_append_left _ (List.mem_append_left _ (List.mem_append_left _ (List.mem_append_right _ h)))))
theorem inX8_packed_2 : ∀ w ∈ wsX20, w ∈ wsX8_packed := fun w h => List.mem_cons_of_mem _ (List.mem_append_right _ h)
theorem inX8_packed_3 : ∀ w ∈ wsX30, w ∈ wsX8_packed := fun w h => List.mem_cons_of_mem _ (List.mem_append_left _ (List.mem_append_left _ (List.mem_append_left _ (List.mem_append_right _ h))))
theorem inX8_packed_4 : ∀ w ∈ wsX40, w ∈ wsX8_packed := fun w h => List.mem_cons_of_mem _ (List.mem_append_left _ (List.mem_append_left _ (List.mem_append_left _ (List.mem_append_left _ (List.mem_append_left _ (List.mem_append_right _ h))))))
theorem inX8_packed_6 : ∀ w ∈ wsX60, w ∈ wsX8_packed := fun w h => List.mem_cons_of_mem _ (List.mem_append_left _ (List.mem_append_left _ (List.mem_append_right _ h)))
theorem inX8_packed_7 : ∀ w ∈ wsX70, w ∈ wsX8_packed := fun w h => List.mem_cons_of_mem _ (List.mem_append_left _ (List.mem_append_right _ h))
theorem inX8_packed_8 : ∀ w ∈ wsX80, w ∈ wsX8_packed := fun w h => List.mem_cons_of_mem _ (List.mem_append_left _ (List.mem_append_left _ (List.mem_append_left _ (List.mem_append_left _ (List.mem_append_left _ (List.mem_append_left _ (List.mem_append_right _ h)))))))
theorem inX8_push_0 : ∀ w ∈ wsX00, w ∈ wsX8_push := fun w h => List.mem_cons_of_mem _ (List.mem_append_right _ h)
theorem inX8_push_3 : ∀ w ∈ wsX30, w ∈ wsX8_push := fun w h => List.mem_cons_of_mem _ (List.mem_append_left _ (List.mem_append_right _ h))
theorem inX8_push_8 : ∀ w ∈ wsX80, w ∈ wsX8_push := fun w h => List.mem_cons_of_mem _ (List.mem_append_left _ (List.mem_append_left _ (List.mem_append_right _ h)))
theorem inX8_read_0 : ∀ w ∈ wsX00, w ∈ wsX8_read := fun w h => List.mem_cons_of_mem _ (List.mem_append_left _ (List.mem_append_left _ (List.mem_append_right _ h)))
theorem inX8_read_1 : ∀ w ∈ wsX10, w ∈ wsX8_read := fun w h => List.mem_cons_of_mem _ (List.mem_append_left _ (List.mem_append_right _ h))
theorem inX8_read_3 : ∀ w ∈ wsX30, w ∈ wsX8_read := fun w h => List.mem_cons_of_mem _ (List.mem_append_left _ (List.mem_append_left _ (List.mem_append_left _ (List.mem_append_left _ (List.mem_append_left _ (List.mem_append_left _ (List.mem_append_right _ h)))))))
theorem inX8_read_4 : ∀ w ∈ wsX40, w ∈ wsX8_read := fun w h => List.mem_cons_of_mem _ (List.mem_append_right _ h)
theorem inX8_read_5 : ∀ w ∈ wsX50, w ∈ wsX8_read := fun w h => List.mem_cons_of_mem _ (List.mem_append_left _ (List.mem_append_left _ (List.mem_append_left _ (List.mem_append_left _ (List.mem_append_left _ (List.mem_append_right _ h))))))
theorem inX8_read_6 : ∀ w ∈ wsX60, w ∈ wsX8_read := fun w h => List.mem_cons_of_mem _ (List.mem_append_left _ (List.mem_append_left _ (List.mem_append_left _ (List.mem_append_left _ (List.mem_append_right _ h)))))
theorem inX8_read_7 : ∀ w ∈ wsX70, w ∈ wsX8_read := fun w h => List.mem_cons_of_mem _ (List.mem_append_left _ (List.mem_append_left _ (List.mem_append_left _ (List.mem_append_right _ h))))
theorem inX8_read_8 : ∀ w ∈ wsX80, w ∈ wsX8_read := fun w h => List.mem_cons_of_mem _ (List.mem_append_left _ (List.mem_append_left _ (List.mem_append_left _ (List.mem_append_left _ (List.mem_append_left _ (List.mem_append_left _ (List.mem_append_left _ (List.mem_append_right _ h))))))))
theorem inX8_restore_0 : ∀ w ∈ wsX00, w ∈ wsX8_restore := fun w h => List.mem_cons_of_mem _ (List.mem_append_left _ (List.mem_append_left _ (List.mem_append_right _ h)))
theorem inX8_restore_1 : ∀ w ∈ wsX10, w ∈ wsX8_restore := fun w h => List.mem_cons_of_mem _ (List.mem_append_left _ (List.mem_append_right _ h))
theorem inX8_restore_3 : ∀ w ∈ wsX30, w ∈ wsX8_restore := fun w h => List.mem_cons_of_mem _ (List.mem_append_left _ (List.mem_append_left _ (List.mem_append_left _ (List.mem_append_left _ (List.mem_append_left _ (List.mem_append_right _ h))))))
theorem inX8_restore_4 : ∀ w ∈ wsX40, w ∈ wsX8_restore := fun w h => List.mem_cons_of_mem _ (List.mem_append_right _ h)
theorem inX8_restore_6 : ∀ w ∈ wsX60, w ∈ wsX8_restore := fun w h => List.mem_cons_of_mem _ (List.mem_append_left _ (List.mem_append_left _ (List.mem_append_left _ (List.mem_append_right _ h))))
theorem inX8_restore_7 : ∀ w ∈ wsX70, w ∈ wsX8_restore := fun w h => List.mem_cons_of_mem _ (List.mem_append_left _ (List.mem_append_left _ (List.mem_append_left _ (List.mem_append_left _ (List.mem_append_right _ h)))))
theorem inX8_restore_8 : ∀ w ∈ wsX80, w ∈ wsX8_restore := fun w h => List.mem_cons_of_mem _ (List.mem_append_left _ (List.mem_append_left _ (List.mem_append_left _ (List.mem_append_left _ (List.mem_append_left _ (List.mem_append_left _ (List.mem_append_right _ h)))))))
theorem inX8_rule_0 : ∀ w ∈ wsX00, w ∈ wsX8_rule := fun w h => List.mem_cons_of_mem _ (List.mem_append_right _ h)
theorem inX8_rule_3 : ∀ w ∈ wsX30, w ∈ wsX8_rule := fun w h => List.mem_cons_of_mem _ (List.mem_append_left _ (List.mem_append_left _ (List.mem_append_left _ (List.mem_append_left _ (List.mem_append_right _ h)))))
theorem inX8_rule_4 : ∀ w ∈ wsX40, w ∈ wsX8_rule := fun w h => List.mem_cons_of_mem _ (List.mem_append_left _ (List.mem_append_right _ h))
theorem inX8_rule_6 : ∀ w ∈ wsX60, w ∈ wsX8_rule := fun w h => List.mem_cons_of_mem _ (List.mem_append_left _ (List.mem_append_left _ (List.mem_append_left _ (List.mem_append_right _ h))))
theorem inX8_rule_7 : ∀ w ∈ wsX70, w ∈ wsX8_rule := fun w h => List.mem_cons_of_mem _ (List.mem_append_left _ (List.mem_append_left _ (List.mem_append_right _ h)))
theorem inX8_rule_8 : ∀ w ∈ wsX80, w ∈ wsX8_rule := fun w h => List.mem_cons_of_mem _ (List.mem_append_left _ (List.mem_append_left _ (List.mem_append_left _ (List.mem_append_left _ (List.mem_append_left _ (List.mem_append_right _ h))))))
theorem inX8_sample_3 : ∀ w ∈ wsX30, w ∈ wsX8_sample := fun w h => List.mem_cons_of_mem _ (List.mem_append_left _ (List.mem_append_right _ h))
theorem inX8_sample_6 : ∀ w ∈ wsX60, w ∈ wsX8_sample := fun w h => List.mem_cons_of_mem _ (List.mem_append_right _ h)
theorem inX8_sample_8 : ∀ w ∈ wsX80, w ∈ wsX8_sample := fun w h => List.mem_cons_of_mem _ (List.mem_append_left _ (List.mem_append_left _ (List.mem_append_right _ h)))
theorem inX8_settleAll_0 : ∀ w ∈ wsX00, w ∈ wsX8_settleAll := fun w h => List.mem_cons_of_mem _ (List.mem_append_left _ (List.mem_append_right _ h))
theorem inX8_settleAll_2 : ∀ w ∈ wsX20, w ∈ wsX8_settleAll := fun w h => List.mem_cons_of_mem _ (List.mem_append_right _ h)
theorem inX8_settleAll_3 : ∀ w ∈ wsX30, w ∈ wsX8_settleAll := fun w h => List.mem_cons_of_mem _ (List.mem_append_left _ (List.mem_append_left _ (List.mem_append_left _ (List.mem_append_left _ (List.mem_append_left _ (List.mem_append_right _ h))))))
theorem inX8_settleAll_4 : ∀ w ∈ wsX40, w ∈ wsX8_settleAll := fun w h => List.mem_cons_of_mem _ (List.mem_append_left _ (List.mem_append_left _ (List.mem_append_right _ h)))
theorem inX8_settleAll_6 : ∀ w ∈ wsX60, w ∈ wsX8_settleAll := fun w h => List.mem_cons_of_mem _ (List.mem_append_left _ (List.mem_append_left _ (List.mem_append_left _ (List.mem_append_left _ (List.mem_append_right _ h)))))
theorem inX8_settleAll_7 : ∀ w ∈ wsX70, w ∈ wsX8_settleAll := fun w h => List.mem_cons_of_mem _ (List.mem_append_left _ (List.mem_append_left _ (List.mem_append_left _ (List.mem_append_right _ h))))
theorem inX8_settleAll_8 : ∀ w ∈ wsX80, w ∈ wsX8_settleAll := fun w h => List.mem_cons_of_mem _ (List.mem_append_left _ (List.mem_append_left _ (List.mem_append_left _ (List.mem_append_left _ (List.mem_append_left _ (List.mem_append_left _ (List.mem_append_right _ h)))))))
theorem inX8_tape_0 : ∀ w ∈ wsX00, w ∈ wsX8_tape := fun w h => List.mem_cons_of_mem _ (List.mem_append_left _ (List.mem_append_left _ (List.mem_append_left _ (List.mem_append_right _ h))))
theorem inX8_tape_2 : ∀ w ∈ wsX20, w ∈ wsX8_tape := fun w h => List.mem_cons_of_mem _ (List.mem_append_right _ h)
theorem inX8_tape_3 : ∀ w ∈ wsX30, w ∈ wsX8_tape := fun w h => List.mem_cons_of_mem _ (List.mem_append_left _ (List.mem_append_left _ (List.mem_append_left _ (List.mem_append_left _ (List.mem_append_left _ (List.mem_append_right _ h))))))
theorem inX8_tape_4 : ∀ w ∈ wsX40, w ∈ wsX8_tape := fun w h => List.mem_cons_of_mem _ (List.mem_append_left _ (List.mem_append_left _ (List.mem_append_left _ (List.mem_append_left _ (List.mem_append_right _ h)))))
theorem inX8_tape_6 : ∀ w ∈ wsX60, w ∈ wsX8_tape := fun w h => List.mem_cons_of_mem _ (List.mem_append_left _ (List.mem_append_left _ (List.mem_append_right _ h)))
theorem inX8_tape_7 : ∀ w ∈ wsX70, w ∈ wsX8_tape := fun w h => List.mem_cons_of_mem _ (List.mem_append_left _ (List.mem_append_right _ h))
theorem inX8_tape_8 : ∀ w ∈ wsX80, w ∈ wsX8_tape := fun w h => List.mem_cons_of_mem _ (List.mem_append_left _ (List.mem_append_left _ (List.mem_append_left _ (List.mem_append_left _ (List.mem_append_left _ (List.mem_append_left _ (List.mem_append_right _ h)))))))
theorem inX8_toldAhead_6 : ∀ w ∈ wsX60, w ∈ wsX8_toldAhead := fun w h => List.mem_cons_of_mem _ (List.mem_append_right _ h)
theorem inX8_toldAhead_7 : ∀ w ∈ wsX70, w ∈ wsX8_toldAhead := fun w h => List.mem_cons_of_mem _ (List.mem_append_left _ (List.mem_append_right _ h))
theorem inX9_add_9 : ∀ w ∈ wsX90, w ∈ wsX9_add := fun w h => List.mem_cons_of_mem _ (List.mem_append_right _ h)
theorem inX9_ahead_9 : ∀ w ∈ wsX90, w ∈ wsX9_ahead := fun w h => List.mem_cons_of_mem _ (List.mem_append_right _ h)
theorem inX9_bit_9 : ∀ w ∈ wsX90, w ∈ wsX9_bit := fun w h => List.mem_cons_of_mem _ (List.mem_append_right _ h)
theorem inX9_bitsOf_9 : ∀ w ∈ wsX90, w ∈ wsX9_bitsOf := fun w h => List.mem_cons_of_mem _ (List.mem_append_right _ h)
theorem inX9_block_9 : ∀ w ∈ wsX90, w ∈ wsX9_block := fun w h => List.mem_cons_of_mem _ (List.mem_append_right _ h)
theorem inX9_blocks_9 : ∀ w ∈ wsX90, w ∈ wsX9_blocks := fun w h => List.mem_cons_of_mem _ (List.mem_append_right _ h)
theorem inX9_canCode_9 : ∀ w ∈ wsX90, w ∈ wsX9_canCode := fun w h => List.mem_cons_of_mem _ (List.mem_append_right _ h)
theorem inX9_choice_9 : ∀ w ∈ wsX90, w ∈ wsX9_choice := fun w h => List.mem_cons_of_mem _ (List.mem_append_right _ h)
theorem inX9_clear_9 : ∀ w ∈ wsX90, w ∈ wsX9_clear := fun w h => List.mem_cons_of_mem _ (List.mem_append_right _ h)
theorem inX9_costOf_9 : ∀ w ∈ wsX90, w ∈ wsX9_costOf := fun w h => List.mem_cons_of_mem _ (List.mem_append_right _ h)
theorem inX9_cost_9 : ∀ w ∈ wsX90, w ∈ wsX9_cost := fun w h => List.mem_cons_of_mem _ (List.mem_append_right _ h)
theorem inX9_count_9 : ∀ w ∈ wsX90, w ∈ wsX9_count := fun w h => List.mem_cons_of_mem _ (List.mem_append_right _ h)
theorem inX9_cut_9 : ∀ w ∈ wsX90, w ∈ wsX9_cut := fun w h => List.mem_cons_of_mem _ (List.mem_append_right _ h)
theorem inX9_endOf_9 : ∀ w ∈ wsX90, w ∈ wsX9_endOf := fun w h => List.mem_cons_of_mem _ (List.mem_append_right _ h)
theorem inX9_expected_9 : ∀ w ∈ wsX90, w ∈ wsX9_expected := fun w h => List.mem_cons_of_mem _ (List.mem_append_right _ h)
theorem inX9_fail_9 : ∀ w ∈ wsX90, w ∈ wsX9_fail := fun w h => List.mem_cons_of_mem _ (List.mem_append_right _ h)
theorem inX9_fault_9 : ∀ w ∈ wsX90, w ∈ wsX9_fault := fun w h => List.mem_cons_of_mem _ (List.mem_append_right _ h)
theorem inX9_firstOf_9 : ∀ w ∈ wsX90, w ∈ wsX9_firstOf := fun w h => List.mem_cons_of_mem _ (List.mem_append_right _ h)
theorem inX9_fitsBelow_9 : ∀ w ∈ wsX90, w ∈ wsX9_fitsBelow := fun w h => List.mem_cons_of_mem _ (List.mem_append_right _ h)
theorem inX9_flip_9 : ∀ w ∈ wsX90, w ∈ wsX9_flip := fun w h => List.mem_cons_of_mem _ (List.mem_append_right _ h)
theorem inX9_fold_9 : ∀ w ∈ wsX90, w ∈ wsX9_fold := fun w h => List.mem_cons_of_mem _ (List.mem_append_right _ h)
theorem inX9_image_9 : ∀ w ∈ wsX90, w ∈ wsX9_image := fun w h => List.mem_cons_of_mem _ (List.mem_append_right _ h)
theorem inX9_init_9 : ∀ w ∈ wsX90, w ∈ wsX9_init := fun w h => List.mem_cons_of_mem _ (List.mem_append_right _ h)
theorem inX9_isBare_9 : ∀ w ∈ wsX90, w ∈ wsX9_isBare := fun w h => List.mem_cons_of_mem _ (List.mem_append_right _ h)
theorem inX9_isBlock_9 : ∀ w ∈ wsX90, w ∈ wsX9_isBlock := fun w h => List.mem_cons_of_mem _ (List.mem_append_right _ h)
theorem inX9_lost_9 : ∀ w ∈ wsX90, w ∈ wsX9_lost := fun w h => List.mem_cons_of_mem _ (List.mem_append_right _ h)
theorem inX9_many_9 : ∀ w ∈ wsX90, w ∈ wsX9_many := fun w h => List.mem_cons_of_mem _ (List.mem_append_right _ h)
theorem inX9_number_9 : ∀ w ∈ wsX90, w ∈ wsX9_number := fun w h => List.mem_cons_of_mem _ (List.mem_append_right _ h)
theorem inX9_pack_9 : ∀ w ∈ wsX90, w ∈ wsX9_pack := fun w h => List.mem_cons_of_mem _ (List.mem_append_right _ h)
theorem inX9_packed_9 : ∀ w ∈ wsX90, w ∈ wsX9_packed := fun w h => List.mem_cons_of_mem _ (List.mem_append_right _ h)
theorem inX9_plainBlocks_9 : ∀ w ∈ wsX90, w ∈ wsX9_plainBlocks := fun w h => List.mem_cons_of_mem _ (List.mem_append_right _ h)
theorem inX9_push_9 : ∀ w ∈ wsX90, w ∈ wsX9_push := fun w h => List.mem_cons_of_mem _ (List.mem_append_right _ h)
theorem inX9_readBlock_9 : ∀ w ∈ wsX90, w ∈ wsX9_readBlock := fun w h => List.mem_cons_of_mem _ (List.mem_append_right _ h)
theorem inX9_readFold_9 : ∀ w ∈ wsX90, w ∈ wsX9_readFold := fun w h => List.mem_cons_of_mem _ (List.mem_append_right _ h)
theorem inX9_readSample_9 : ∀ w ∈ wsX90, w ∈ wsX9_readSample := fun w h => List.mem_cons_of_mem _ (List.mem_append_right _ h)
theorem inX9_read_9 : ∀ w ∈ wsX90, w ∈ wsX9_read := fun w h => List.mem_cons_of_mem _ (List.mem_append_right _ h)
theorem inX9_restore_9 : ∀ w ∈ wsX90, w ∈ wsX9_restore := fun w h => List.mem_cons_of_mem _ (List.mem_append_right _ h)
theorem inX9_room_9 : ∀ w ∈ wsX90, w ∈ wsX9_room := fun w h => List.mem_cons_of_mem _ (List.mem_append_right _ h)
theorem inX9_rule_9 : ∀ w ∈ wsX90, w ∈ wsX9_rule := fun w h => List.mem_cons_of_mem _ (List.mem_append_right _ h)
theorem inX9_sample_9 : ∀ w ∈ wsX90, w ∈ wsX9_sample := fun w h => List.mem_cons_of_mem _ (List.mem_append_right _ h)
theorem inX9_segmentLong_9 : ∀ w ∈ wsX90, w ∈ wsX9_segmentLong := fun w h => List.mem_cons_of_mem _ (List.mem_append_right _ h)
theorem inX9_takeRow_9 : ∀ w ∈ wsX90, w ∈ wsX9_takeRow := fun w h => List.mem_cons_of_mem _ (List.mem_append_right _ h)
theorem inX9_tape_9 : ∀ w ∈ wsX90, w ∈ wsX9_tape := fun w h => List.mem_cons_of_mem _ (List.mem_append_right _ h)
theorem inX9_top_9 : ∀ w ∈ wsX90, w ∈ wsX9_top := fun w h => List.mem_cons_of_mem _ (List.mem_append_right _ h)
theorem inX9_unfold_9 : ∀ w ∈ wsX90, w ∈ wsX9_unfold := fun w h => List.mem_cons_of_mem _ (List.mem_append_right _ h)
theorem inX9_writeFold_9 : ∀ w ∈ wsX90, w ∈ wsX9_writeFold := fun w h => List.mem_cons_of_mem _ (List.mem_append_right _ h)
theorem inX9_write_9 : ∀ w ∈ wsX90, w ∈ wsX9_write := fun w h => List.mem_cons_of_mem _ (List.mem_append_right _ h)
