theorem al_1728 : Int32.ofNat 1728 = (1728 : Int32) := by decide
theorem al_8 : Int32.ofNat 8 = (8 : Int32) := by decide
theorem al_8000 : Int32.ofNat 8000 = (8000 : Int32) := by decide
theorem bp_10 : (Int8.ofInt (10)).toInt32 = (10 : Int32) := by decide
theorem bp_100 : (Int8.ofInt (100)).toInt32 = (100 : Int32) := by decide
theorem bp_104 : (Int8.ofInt (104)).toInt32 = (104 : Int32) := by decide
theorem bp_11 : (Int8.ofInt (11)).toInt32 = (11 : Int32) := by decide
theorem bp_12 : (Int8.ofInt (12)).toInt32 = (12 : Int32) := by decide
theorem bp_124 : (Int8.ofInt (124)).toInt32 = (124 : Int32) := by decide
theorem bp_13 : (Int8.ofInt (13)).toInt32 = (13 : Int32) := by decide
theorem bp_16 : (Int8.ofInt (16)).toInt32 = (16 : Int32) := by decide
theorem bp_20 : (Int8.ofInt (20)).toInt32 = (20 : Int32) := by decide
theorem bp_24 : (Int8.ofInt (24)).toInt32 = (24 : Int32) := by decide
theorem bp_30 : (Int8.ofInt (30)).toInt32 = (30 : Int32) := by decide
theorem bp_32 : (Int8.ofInt (32)).toInt32 = (32 : Int32) := by decide
theorem bp_33 : (Int8.ofInt (33)).toInt32 = (33 : Int32) := by decide
theorem bp_37 : (Int8.ofInt (37)).toInt32 = (37 : Int32) := by decide
theorem bp_38 : (Int8.ofInt (38)).toInt32 = (38 : Int32) := by decide
theorem bp_40 : (Int8.ofInt (40)).toInt32 = (40 : Int32) := by decide
theorem bp_41 : (Int8.ofInt (41)).toInt32 = (41 : Int32) := by decide
theorem bp_42 : (Int8.ofInt (42)).toInt32 = (42 : Int32) := by decide
theorem bp_43 : (Int8.ofInt (43)).toInt32 = (43 : Int32) := by decide
theorem bp_45 : (Int8.ofInt (45)).toInt32 = (45 : Int32) := by decide
theorem bp_47 : (Int8.ofInt (47)).toInt32 = (47 : Int32) := by decide
theorem bp_48 : (Int8.ofInt (48)).toInt32 = (48 : Int32) := by decide
theorem bp_50 : (Int8.ofInt (50)).toInt32 = (50 : Int32) := by decide
theorem bp_52 : (Int8.ofInt (52)).toInt32 = (52 : Int32) := by decide
theorem bp_54 : (Int8.ofInt (54)).toInt32 = (54 : Int32) := by decide
theorem bp_57 : (Int8.ofInt (57)).toInt32 = (57 : Int32) := by decide
theorem bp_6 : (Int8.ofInt (6)).toInt32 = (6 : Int32) := by decide
theorem bp_60 : (Int8.ofInt (60)).toInt32 = (60 : Int32) := by decide
theorem bp_61 : (Int8.ofInt (61)).toInt32 = (61 : Int32) := by decide
theorem bp_62 : (Int8.ofInt (62)).toInt32 = (62 : Int32) := by decide
theorem bp_63 : (Int8.ofInt (63)).toInt32 = (63 : Int32) := by decide
theorem bp_69 : (Int8.ofInt (69)).toInt32 = (69 : Int32) := by decide
theorem bp_7 : (Int8.ofInt (7)).toInt32 = (7 : Int32) := by decide
theorem bp_70 : (Int8.ofInt (70)).toInt32 = (70 : Int32) := by decide
theorem bp_71 : (Int8.ofInt (71)).toInt32 = (71 : Int32) := by decide
theorem bp_8 : (Int8.ofInt (8)).toInt32 = (8 : Int32) := by decide
theorem bp_9 : (Int8.ofInt (9)).toInt32 = (9 : Int32) := by decide
theorem bp_99 : (Int8.ofInt (99)).toInt32 = (99 : Int32) := by decide
theorem bp_m10 : (Int8.ofInt (-10)).toInt32 = (-10 : Int32) := by decide
theorem bz_0 : (0 : Int32) &&& 1 = (0 : Int32) := by decide
theorem bz_1 : (1 : Int32) &&& 1 = (1 : Int32) := by decide
theorem cn_J6_bitCount_0f7a4 : yJ6_bitCount_0f7a4.cls = RJ6 ∧ yJ6_bitCount_0f7a4.cls ≠ "java/lang/invoke/MethodHandle" ∧ yJ6_bitCount_0f7a4.cls ≠ "java/lang/invoke/VarHandle" ∧ (parseMethodDescriptor yJ6_bitCount_0f7a4.desc).map (fun d => d.parameters.length) = some 1 := by decide +kernel
theorem cn_X0_canTouch : yX0_canTouch.cls = RX0 ∧ yX0_canTouch.cls ≠ "java/lang/invoke/MethodHandle" ∧ yX0_canTouch.cls ≠ "java/lang/invoke/VarHandle" ∧ (parseMethodDescriptor yX0_canTouch.desc).map (fun d => d.parameters.length) = some 2 := by decide +kernel
theorem cn_X0_copy : yX0_copy.cls = RX0 ∧ yX0_copy.cls ≠ "java/lang/invoke/MethodHandle" ∧ yX0_copy.cls ≠ "java/lang/invoke/VarHandle" ∧ (parseMethodDescriptor yX0_copy.desc).map (fun d => d.parameters.length) = some 1 := by decide +kernel
theorem cn_X0_countCrowds : yX0_countCrowds.cls = RX0 ∧ yX0_countCrowds.cls ≠ "java/lang/invoke/MethodHandle" ∧ yX0_countCrowds.cls ≠ "java/lang/invoke/VarHandle" ∧ (parseMethodDescriptor yX0_countCrowds.desc).map (fun d => d.parameters.length) = some 0 := by decide +kernel
theorem cn_X0_deedsBy : yX0_deedsBy.cls = RX0 ∧ yX0_deedsBy.cls ≠ "java/lang/invoke/MethodHandle" ∧ yX0_deedsBy.cls ≠ "java/lang/invoke/VarHandle" ∧ (parseMethodDescriptor yX0_deedsBy.desc).map (fun d => d.parameters.length) = some 3 := by decide +kernel
theorem cn_X0_deedsTogether : yX0_deedsTogether.cls = RX0 ∧ yX0_deedsTogether.cls ≠ "java/lang/invoke/MethodHandle" ∧ yX0_deedsTogether.cls ≠ "java/lang/invoke/VarHandle" ∧ (parseMethodDescriptor yX0_deedsTogether.desc).map (fun d => d.parameters.length) = some 0 := by decide +kernel
theorem cn_X0_doDeeds : yX0_doDeeds.cls = RX0 ∧ yX0_doDeeds.cls ≠ "java/lang/invoke/MethodHandle" ∧ yX0_doDeeds.cls ≠ "java/lang/invoke/VarHandle" ∧ (parseMethodDescriptor yX0_doDeeds.desc).map (fun d => d.parameters.length) = some 0 := by decide +kernel
theorem cn_X0_freeTogether : yX0_freeTogether.cls = RX0 ∧ yX0_freeTogether.cls ≠ "java/lang/invoke/MethodHandle" ∧ yX0_freeTogether.cls ≠ "java/lang/invoke/VarHandle" ∧ (parseMethodDescriptor yX0_freeTogether.desc).map (fun d => d.parameters.length) = some 0 := by decide +kernel
theorem cn_X0_handOn : yX0_handOn.cls = RX0 ∧ yX0_handOn.cls ≠ "java/lang/invoke/MethodHandle" ∧ yX0_handOn.cls ≠ "java/lang/invoke/VarHandle" ∧ (parseMethodDescriptor yX0_handOn.desc).map (fun d => d.parameters.length) = some 0 := by decide +kernel
theorem cn_X0_handOnAt : yX0_handOnAt.cls = RX0 ∧ yX0_handOnAt.cls ≠ "java/lang/invoke/MethodHandle" ∧ yX0_handOnAt.cls ≠ "java/lang/invoke/VarHandle" ∧ (parseMethodDescriptor yX0_handOnAt.desc).map (fun d => d.parameters.length) = some 1 := by decide +kernel
theorem cn_X0_handsOf : yX0_handsOf.cls = RX0 ∧ yX0_handsOf.cls ≠ "java/lang/invoke/MethodHandle" ∧ yX0_handsOf.cls ≠ "java/lang/invoke/VarHandle" ∧ (parseMethodDescriptor yX0_handsOf.desc).map (fun d => d.parameters.length) = some 1 := by decide +kernel
theorem cn_X0_handsOnAt : yX0_handsOnAt.cls = RX0 ∧ yX0_handsOnAt.cls ≠ "java/lang/invoke/MethodHandle" ∧ yX0_handsOnAt.cls ≠ "java/lang/invoke/VarHandle" ∧ (parseMethodDescriptor yX0_handsOnAt.desc).map (fun d => d.parameters.length) = some 1 := by decide +kernel
theorem cn_X0_haveOwn : yX0_haveOwn.cls = RX0 ∧ yX0_haveOwn.cls ≠ "java/lang/invoke/MethodHandle" ∧ yX0_haveOwn.cls ≠ "java/lang/invoke/VarHandle" ∧ (parseMethodDescriptor yX0_haveOwn.desc).map (fun d => d.parameters.length) = some 0 := by decide +kernel
theorem cn_X0_howManyAt : yX0_howManyAt.cls = RX0 ∧ yX0_howManyAt.cls ≠ "java/lang/invoke/MethodHandle" ∧ yX0_howManyAt.cls ≠ "java/lang/invoke/VarHandle" ∧ (parseMethodDescriptor yX0_howManyAt.desc).map (fun d => d.parameters.length) = some 1 := by decide +kernel
theorem cn_X0_howManyFree : yX0_howManyFree.cls = RX0 ∧ yX0_howManyFree.cls ≠ "java/lang/invoke/MethodHandle" ∧ yX0_howManyFree.cls ≠ "java/lang/invoke/VarHandle" ∧ (parseMethodDescriptor yX0_howManyFree.desc).map (fun d => d.parameters.length) = some 0 := by decide +kernel
theorem cn_X0_join : yX0_join.cls = RX0 ∧ yX0_join.cls ≠ "java/lang/invoke/MethodHandle" ∧ yX0_join.cls ≠ "java/lang/invoke/VarHandle" ∧ (parseMethodDescriptor yX0_join.desc).map (fun d => d.parameters.length) = some 2 := by decide +kernel
theorem cn_X0_keepsOf : yX0_keepsOf.cls = RX0 ∧ yX0_keepsOf.cls ≠ "java/lang/invoke/MethodHandle" ∧ yX0_keepsOf.cls ≠ "java/lang/invoke/VarHandle" ∧ (parseMethodDescriptor yX0_keepsOf.desc).map (fun d => d.parameters.length) = some 1 := by decide +kernel
theorem cn_X0_leaveFreeOnly : yX0_leaveFreeOnly.cls = RX0 ∧ yX0_leaveFreeOnly.cls ≠ "java/lang/invoke/MethodHandle" ∧ yX0_leaveFreeOnly.cls ≠ "java/lang/invoke/VarHandle" ∧ (parseMethodDescriptor yX0_leaveFreeOnly.desc).map (fun d => d.parameters.length) = some 1 := by decide +kernel
theorem cn_X0_meets : yX0_meets.cls = RX0 ∧ yX0_meets.cls ≠ "java/lang/invoke/MethodHandle" ∧ yX0_meets.cls ≠ "java/lang/invoke/VarHandle" ∧ (parseMethodDescriptor yX0_meets.desc).map (fun d => d.parameters.length) = some 3 := by decide +kernel
theorem cn_X0_pass : yX0_pass.cls = RX0 ∧ yX0_pass.cls ≠ "java/lang/invoke/MethodHandle" ∧ yX0_pass.cls ≠ "java/lang/invoke/VarHandle" ∧ (parseMethodDescriptor yX0_pass.desc).map (fun d => d.parameters.length) = some 1 := by decide +kernel
theorem cn_X0_putGlovesOn : yX0_putGlovesOn.cls = RX0 ∧ yX0_putGlovesOn.cls ≠ "java/lang/invoke/MethodHandle" ∧ yX0_putGlovesOn.cls ≠ "java/lang/invoke/VarHandle" ∧ (parseMethodDescriptor yX0_putGlovesOn.desc).map (fun d => d.parameters.length) = some 1 := by decide +kernel
theorem cn_X0_runOut : yX0_runOut.cls = RX0 ∧ yX0_runOut.cls ≠ "java/lang/invoke/MethodHandle" ∧ yX0_runOut.cls ≠ "java/lang/invoke/VarHandle" ∧ (parseMethodDescriptor yX0_runOut.desc).map (fun d => d.parameters.length) = some 0 := by decide +kernel
theorem cn_X0_runsOf : yX0_runsOf.cls = RX0 ∧ yX0_runsOf.cls ≠ "java/lang/invoke/MethodHandle" ∧ yX0_runsOf.cls ≠ "java/lang/invoke/VarHandle" ∧ (parseMethodDescriptor yX0_runsOf.desc).map (fun d => d.parameters.length) = some 1 := by decide +kernel
theorem cn_X0_steal : yX0_steal.cls = RX0 ∧ yX0_steal.cls ≠ "java/lang/invoke/MethodHandle" ∧ yX0_steal.cls ≠ "java/lang/invoke/VarHandle" ∧ (parseMethodDescriptor yX0_steal.desc).map (fun d => d.parameters.length) = some 0 := by decide +kernel
theorem cn_X0_turnInto : yX0_turnInto.cls = RX0 ∧ yX0_turnInto.cls ≠ "java/lang/invoke/MethodHandle" ∧ yX0_turnInto.cls ≠ "java/lang/invoke/VarHandle" ∧ (parseMethodDescriptor yX0_turnInto.desc).map (fun d => d.parameters.length) = some 2 := by decide +kernel
theorem cn_X0_whoAt : yX0_whoAt.cls = RX0 ∧ yX0_whoAt.cls ≠ "java/lang/invoke/MethodHandle" ∧ yX0_whoAt.cls ≠ "java/lang/invoke/VarHandle" ∧ (parseMethodDescriptor yX0_whoAt.desc).map (fun d => d.parameters.length) = some 1 := by decide +kernel
theorem cn_X0_whoFreeAt : yX0_whoFreeAt.cls = RX0 ∧ yX0_whoFreeAt.cls ≠ "java/lang/invoke/MethodHandle" ∧ yX0_whoFreeAt.cls ≠ "java/lang/invoke/VarHandle" ∧ (parseMethodDescriptor yX0_whoFreeAt.desc).map (fun d => d.parameters.length) = some 1 := by decide +kernel
theorem cn_X0_whoWearGloves : yX0_whoWearGloves.cls = RX0 ∧ yX0_whoWearGloves.cls ≠ "java/lang/invoke/MethodHandle" ∧ yX0_whoWearGloves.cls ≠ "java/lang/invoke/VarHandle" ∧ (parseMethodDescriptor yX0_whoWearGloves.desc).map (fun d => d.parameters.length) = some 0 := by decide +kernel
theorem cn_X1_isDigit : yX1_isDigit.cls = RX1 ∧ yX1_isDigit.cls ≠ "java/lang/invoke/MethodHandle" ∧ yX1_isDigit.cls ≠ "java/lang/invoke/VarHandle" ∧ (parseMethodDescriptor yX1_isDigit.desc).map (fun d => d.parameters.length) = some 1 := by decide +kernel
theorem cn_X1_next : yX1_next.cls = RX1 ∧ yX1_next.cls ≠ "java/lang/invoke/MethodHandle" ∧ yX1_next.cls ≠ "java/lang/invoke/VarHandle" ∧ (parseMethodDescriptor yX1_next.desc).map (fun d => d.parameters.length) = some 0 := by decide +kernel
theorem cn_X1_read : yX1_read.cls = RX1 ∧ yX1_read.cls ≠ "java/lang/invoke/MethodHandle" ∧ yX1_read.cls ≠ "java/lang/invoke/VarHandle" ∧ (parseMethodDescriptor yX1_read.desc).map (fun d => d.parameters.length) = some 2 := by decide +kernel
theorem cn_X1_readAll : yX1_readAll.cls = RX1 ∧ yX1_readAll.cls ≠ "java/lang/invoke/MethodHandle" ∧ yX1_readAll.cls ≠ "java/lang/invoke/VarHandle" ∧ (parseMethodDescriptor yX1_readAll.desc).map (fun d => d.parameters.length) = some 1 := by decide +kernel
theorem cn_X1_readAny : yX1_readAny.cls = RX1 ∧ yX1_readAny.cls ≠ "java/lang/invoke/MethodHandle" ∧ yX1_readAny.cls ≠ "java/lang/invoke/VarHandle" ∧ (parseMethodDescriptor yX1_readAny.desc).map (fun d => d.parameters.length) = some 1 := by decide +kernel
theorem cn_X1_readComparison : yX1_readComparison.cls = RX1 ∧ yX1_readComparison.cls ≠ "java/lang/invoke/MethodHandle" ∧ yX1_readComparison.cls ≠ "java/lang/invoke/VarHandle" ∧ (parseMethodDescriptor yX1_readComparison.desc).map (fun d => d.parameters.length) = some 1 := by decide +kernel
theorem cn_X1_readName : yX1_readName.cls = RX1 ∧ yX1_readName.cls ≠ "java/lang/invoke/MethodHandle" ∧ yX1_readName.cls ≠ "java/lang/invoke/VarHandle" ∧ (parseMethodDescriptor yX1_readName.desc).map (fun d => d.parameters.length) = some 1 := by decide +kernel
theorem cn_X1_readNumber : yX1_readNumber.cls = RX1 ∧ yX1_readNumber.cls ≠ "java/lang/invoke/MethodHandle" ∧ yX1_readNumber.cls ≠ "java/lang/invoke/VarHandle" ∧ (parseMethodDescriptor yX1_readNumber.desc).map (fun d => d.parameters.length) = some 0 := by decide +kernel
theorem cn_X1_readOpened : yX1_readOpened.cls = RX1 ∧ yX1_readOpened.cls ≠ "java/lang/invoke/MethodHandle" ∧ yX1_readOpened.cls ≠ "java/lang/invoke/VarHandle" ∧ (parseMethodDescriptor yX1_readOpened.desc).map (fun d => d.parameters.length) = some 2 := by decide +kernel
theorem cn_X1_readProduct : yX1_readProduct.cls = RX1 ∧ yX1_readProduct.cls ≠ "java/lang/invoke/MethodHandle" ∧ yX1_readProduct.cls ≠ "java/lang/invoke/VarHandle" ∧ (parseMethodDescriptor yX1_readProduct.desc).map (fun d => d.parameters.length) = some 1 := by decide +kernel
theorem cn_X1_readSingle : yX1_readSingle.cls = RX1 ∧ yX1_readSingle.cls ≠ "java/lang/invoke/MethodHandle" ∧ yX1_readSingle.cls ≠ "java/lang/invoke/VarHandle" ∧ (parseMethodDescriptor yX1_readSingle.desc).map (fun d => d.parameters.length) = some 1 := by decide +kernel
theorem cn_X1_readSum : yX1_readSum.cls = RX1 ∧ yX1_readSum.cls ≠ "java/lang/invoke/MethodHandle" ∧ yX1_readSum.cls ≠ "java/lang/invoke/VarHandle" ∧ (parseMethodDescriptor yX1_readSum.desc).map (fun d => d.parameters.length) = some 1 := by decide +kernel
theorem cn_X2_holds : yX2_holds.cls = RX2 ∧ yX2_holds.cls ≠ "java/lang/invoke/MethodHandle" ∧ yX2_holds.cls ≠ "java/lang/invoke/VarHandle" ∧ (parseMethodDescriptor yX2_holds.desc).map (fun d => d.parameters.length) = some 2 := by decide +kernel
theorem cn_X2_isMissing : yX2_isMissing.cls = RX2 ∧ yX2_isMissing.cls ≠ "java/lang/invoke/MethodHandle" ∧ yX2_isMissing.cls ≠ "java/lang/invoke/VarHandle" ∧ (parseMethodDescriptor yX2_isMissing.desc).map (fun d => d.parameters.length) = some 0 := by decide +kernel
theorem cn_X2_lay : yX2_lay.cls = RX2 ∧ yX2_lay.cls ≠ "java/lang/invoke/MethodHandle" ∧ yX2_lay.cls ≠ "java/lang/invoke/VarHandle" ∧ (parseMethodDescriptor yX2_lay.desc).map (fun d => d.parameters.length) = some 2 := by decide +kernel
theorem cn_X2_lowestBits : yX2_lowestBits.cls = RX2 ∧ yX2_lowestBits.cls ≠ "java/lang/invoke/MethodHandle" ∧ yX2_lowestBits.cls ≠ "java/lang/invoke/VarHandle" ∧ (parseMethodDescriptor yX2_lowestBits.desc).map (fun d => d.parameters.length) = some 1 := by decide +kernel
theorem cn_X3_add : yX3_add.cls = RX3 ∧ yX3_add.cls ≠ "java/lang/invoke/MethodHandle" ∧ yX3_add.cls ≠ "java/lang/invoke/VarHandle" ∧ (parseMethodDescriptor yX3_add.desc).map (fun d => d.parameters.length) = some 2 := by decide +kernel
theorem cn_X3_clear : yX3_clear.cls = RX3 ∧ yX3_clear.cls ≠ "java/lang/invoke/MethodHandle" ∧ yX3_clear.cls ≠ "java/lang/invoke/VarHandle" ∧ (parseMethodDescriptor yX3_clear.desc).map (fun d => d.parameters.length) = some 0 := by decide +kernel
theorem cn_X3_copy : yX3_copy.cls = RX3 ∧ yX3_copy.cls ≠ "java/lang/invoke/MethodHandle" ∧ yX3_copy.cls ≠ "java/lang/invoke/VarHandle" ∧ (parseMethodDescriptor yX3_copy.desc).map (fun d => d.parameters.length) = some 1 := by decide +kernel
theorem cn_X3_gives : yX3_gives.cls = RX3 ∧ yX3_gives.cls ≠ "java/lang/invoke/MethodHandle" ∧ yX3_gives.cls ≠ "java/lang/invoke/VarHandle" ∧ (parseMethodDescriptor yX3_gives.desc).map (fun d => d.parameters.length) = some 3 := by decide +kernel
theorem cn_X3_isEmpty : yX3_isEmpty.cls = RX3 ∧ yX3_isEmpty.cls ≠ "java/lang/invoke/MethodHandle" ∧ yX3_isEmpty.cls ≠ "java/lang/invoke/VarHandle" ∧ (parseMethodDescriptor yX3_isEmpty.desc).map (fun d => d.parameters.length) = some 0 := by decide +kernel
theorem cn_X3_joined : yX3_joined.cls = RX3 ∧ yX3_joined.cls ≠ "java/lang/invoke/MethodHandle" ∧ yX3_joined.cls ≠ "java/lang/invoke/VarHandle" ∧ (parseMethodDescriptor yX3_joined.desc).map (fun d => d.parameters.length) = some 3 := by decide +kernel
theorem cn_X3_single : yX3_single.cls = RX3 ∧ yX3_single.cls ≠ "java/lang/invoke/MethodHandle" ∧ yX3_single.cls ≠ "java/lang/invoke/VarHandle" ∧ (parseMethodDescriptor yX3_single.desc).map (fun d => d.parameters.length) = some 5 := by decide +kernel
theorem cn_X4_add : yX4_add.cls = RX4 ∧ yX4_add.cls ≠ "java/lang/invoke/MethodHandle" ∧ yX4_add.cls ≠ "java/lang/invoke/VarHandle" ∧ (parseMethodDescriptor yX4_add.desc).map (fun d => d.parameters.length) = some 1 := by decide +kernel
theorem cn_X4_clear : yX4_clear.cls = RX4 ∧ yX4_clear.cls ≠ "java/lang/invoke/MethodHandle" ∧ yX4_clear.cls ≠ "java/lang/invoke/VarHandle" ∧ (parseMethodDescriptor yX4_clear.desc).map (fun d => d.parameters.length) = some 0 := by decide +kernel
theorem cn_X4_copy : yX4_copy.cls = RX4 ∧ yX4_copy.cls ≠ "java/lang/invoke/MethodHandle" ∧ yX4_copy.cls ≠ "java/lang/invoke/VarHandle" ∧ (parseMethodDescriptor yX4_copy.desc).map (fun d => d.parameters.length) = some 1 := by decide +kernel
theorem cn_X5_copy : yX5_copy.cls = RX5 ∧ yX5_copy.cls ≠ "java/lang/invoke/MethodHandle" ∧ yX5_copy.cls ≠ "java/lang/invoke/VarHandle" ∧ (parseMethodDescriptor yX5_copy.desc).map (fun d => d.parameters.length) = some 1 := by decide +kernel
theorem cn_X5_draw : yX5_draw.cls = RX5 ∧ yX5_draw.cls ≠ "java/lang/invoke/MethodHandle" ∧ yX5_draw.cls ≠ "java/lang/invoke/VarHandle" ∧ (parseMethodDescriptor yX5_draw.desc).map (fun d => d.parameters.length) = some 0 := by decide +kernel
theorem cn_X5_ruleOf : yX5_ruleOf.cls = RX5 ∧ yX5_ruleOf.cls ≠ "java/lang/invoke/MethodHandle" ∧ yX5_ruleOf.cls ≠ "java/lang/invoke/VarHandle" ∧ (parseMethodDescriptor yX5_ruleOf.desc).map (fun d => d.parameters.length) = some 1 := by decide +kernel
theorem cn_X5_stray : yX5_stray.cls = RX5 ∧ yX5_stray.cls ≠ "java/lang/invoke/MethodHandle" ∧ yX5_stray.cls ≠ "java/lang/invoke/VarHandle" ∧ (parseMethodDescriptor yX5_stray.desc).map (fun d => d.parameters.length) = some 0 := by decide +kernel
theorem cn_X6_bodyOf : yX6_bodyOf.cls = RX6 ∧ yX6_bodyOf.cls ≠ "java/lang/invoke/MethodHandle" ∧ yX6_bodyOf.cls ≠ "java/lang/invoke/VarHandle" ∧ (parseMethodDescriptor yX6_bodyOf.desc).map (fun d => d.parameters.length) = some 2 := by decide +kernel
theorem cn_X6_of : yX6_of.cls = RX6 ∧ yX6_of.cls ≠ "java/lang/invoke/MethodHandle" ∧ yX6_of.cls ≠ "java/lang/invoke/VarHandle" ∧ (parseMethodDescriptor yX6_of.desc).map (fun d => d.parameters.length) = some 4 := by decide +kernel
theorem cn_X6_own : yX6_own.cls = RX6 ∧ yX6_own.cls ≠ "java/lang/invoke/MethodHandle" ∧ yX6_own.cls ≠ "java/lang/invoke/VarHandle" ∧ (parseMethodDescriptor yX6_own.desc).map (fun d => d.parameters.length) = some 3 := by decide +kernel
theorem cn_X6_speak : yX6_speak.cls = RX6 ∧ yX6_speak.cls ≠ "java/lang/invoke/MethodHandle" ∧ yX6_speak.cls ≠ "java/lang/invoke/VarHandle" ∧ (parseMethodDescriptor yX6_speak.desc).map (fun d => d.parameters.length) = some 5 := by decide +kernel
theorem cn_X6_work : yX6_work.cls = RX6 ∧ yX6_work.cls ≠ "java/lang/invoke/MethodHandle" ∧ yX6_work.cls ≠ "java/lang/invoke/VarHandle" ∧ (parseMethodDescriptor yX6_work.desc).map (fun d => d.parameters.length) = some 3 := by decide +kernel
theorem cn_X7_canHaveComeBy : yX7_canHaveComeBy.cls = RX7 ∧ yX7_canHaveComeBy.cls ≠ "java/lang/invoke/MethodHandle" ∧ yX7_canHaveComeBy.cls ≠ "java/lang/invoke/VarHandle" ∧ (parseMethodDescriptor yX7_canHaveComeBy.desc).map (fun d => d.parameters.length) = some 3 := by decide +kernel
theorem cn_X7_commonDivisor : yX7_commonDivisor.cls = RX7 ∧ yX7_commonDivisor.cls ≠ "java/lang/invoke/MethodHandle" ∧ yX7_commonDivisor.cls ≠ "java/lang/invoke/VarHandle" ∧ (parseMethodDescriptor yX7_commonDivisor.desc).map (fun d => d.parameters.length) = some 2 := by decide +kernel
theorem cn_X7_countTimesFree : yX7_countTimesFree.cls = RX7 ∧ yX7_countTimesFree.cls ≠ "java/lang/invoke/MethodHandle" ∧ yX7_countTimesFree.cls ≠ "java/lang/invoke/VarHandle" ∧ (parseMethodDescriptor yX7_countTimesFree.desc).map (fun d => d.parameters.length) = some 1 := by decide +kernel
theorem cn_X7_firstWrongOfWaiting : yX7_firstWrongOfWaiting.cls = RX7 ∧ yX7_firstWrongOfWaiting.cls ≠ "java/lang/invoke/MethodHandle" ∧ yX7_firstWrongOfWaiting.cls ≠ "java/lang/invoke/VarHandle" ∧ (parseMethodDescriptor yX7_firstWrongOfWaiting.desc).map (fun d => d.parameters.length) = some 0 := by decide +kernel
theorem cn_X7_held : yX7_held.cls = RX7 ∧ yX7_held.cls ≠ "java/lang/invoke/MethodHandle" ∧ yX7_held.cls ≠ "java/lang/invoke/VarHandle" ∧ (parseMethodDescriptor yX7_held.desc).map (fun d => d.parameters.length) = some 3 := by decide +kernel
theorem cn_X7_hoursWith : yX7_hoursWith.cls = RX7 ∧ yX7_hoursWith.cls ≠ "java/lang/invoke/MethodHandle" ∧ yX7_hoursWith.cls ≠ "java/lang/invoke/VarHandle" ∧ (parseMethodDescriptor yX7_hoursWith.desc).map (fun d => d.parameters.length) = some 4 := by decide +kernel
theorem cn_X7_isEither : yX7_isEither.cls = RX7 ∧ yX7_isEither.cls ≠ "java/lang/invoke/MethodHandle" ∧ yX7_isEither.cls ≠ "java/lang/invoke/VarHandle" ∧ (parseMethodDescriptor yX7_isEither.desc).map (fun d => d.parameters.length) = some 1 := by decide +kernel
theorem cn_X7_isKindAndNumber : yX7_isKindAndNumber.cls = RX7 ∧ yX7_isKindAndNumber.cls ≠ "java/lang/invoke/MethodHandle" ∧ yX7_isKindAndNumber.cls ≠ "java/lang/invoke/VarHandle" ∧ (parseMethodDescriptor yX7_isKindAndNumber.desc).map (fun d => d.parameters.length) = some 1 := by decide +kernel
theorem cn_X7_isSoul : yX7_isSoul.cls = RX7 ∧ yX7_isSoul.cls ≠ "java/lang/invoke/MethodHandle" ∧ yX7_isSoul.cls ≠ "java/lang/invoke/VarHandle" ∧ (parseMethodDescriptor yX7_isSoul.desc).map (fun d => d.parameters.length) = some 1 := by decide +kernel
theorem cn_X7_isStreet : yX7_isStreet.cls = RX7 ∧ yX7_isStreet.cls ≠ "java/lang/invoke/MethodHandle" ∧ yX7_isStreet.cls ≠ "java/lang/invoke/VarHandle" ∧ (parseMethodDescriptor yX7_isStreet.desc).map (fun d => d.parameters.length) = some 1 := by decide +kernel
theorem cn_X7_isUnder : yX7_isUnder.cls = RX7 ∧ yX7_isUnder.cls ≠ "java/lang/invoke/MethodHandle" ∧ yX7_isUnder.cls ≠ "java/lang/invoke/VarHandle" ∧ (parseMethodDescriptor yX7_isUnder.desc).map (fun d => d.parameters.length) = some 2 := by decide +kernel
theorem cn_X7_isUse : yX7_isUse.cls = RX7 ∧ yX7_isUse.cls ≠ "java/lang/invoke/MethodHandle" ∧ yX7_isUse.cls ≠ "java/lang/invoke/VarHandle" ∧ (parseMethodDescriptor yX7_isUse.desc).map (fun d => d.parameters.length) = some 1 := by decide +kernel
theorem cn_X7_refuse : yX7_refuse.cls = RX7 ∧ yX7_refuse.cls ≠ "java/lang/invoke/MethodHandle" ∧ yX7_refuse.cls ≠ "java/lang/invoke/VarHandle" ∧ (parseMethodDescriptor yX7_refuse.desc).map (fun d => d.parameters.length) = some 1 := by decide +kernel
theorem cn_X7_replace : yX7_replace.cls = RX7 ∧ yX7_replace.cls ≠ "java/lang/invoke/MethodHandle" ∧ yX7_replace.cls ≠ "java/lang/invoke/VarHandle" ∧ (parseMethodDescriptor yX7_replace.desc).map (fun d => d.parameters.length) = some 4 := by decide +kernel
theorem cn_X7_rowOf : yX7_rowOf.cls = RX7 ∧ yX7_rowOf.cls ≠ "java/lang/invoke/MethodHandle" ∧ yX7_rowOf.cls ≠ "java/lang/invoke/VarHandle" ∧ (parseMethodDescriptor yX7_rowOf.desc).map (fun d => d.parameters.length) = some 1 := by decide +kernel
theorem cn_X7_staysAway : yX7_staysAway.cls = RX7 ∧ yX7_staysAway.cls ≠ "java/lang/invoke/MethodHandle" ∧ yX7_staysAway.cls ≠ "java/lang/invoke/VarHandle" ∧ (parseMethodDescriptor yX7_staysAway.desc).map (fun d => d.parameters.length) = some 3 := by decide +kernel
theorem cn_X7_think : yX7_think.cls = RX7 ∧ yX7_think.cls ≠ "java/lang/invoke/MethodHandle" ∧ yX7_think.cls ≠ "java/lang/invoke/VarHandle" ∧ (parseMethodDescriptor yX7_think.desc).map (fun d => d.parameters.length) = some 0 := by decide +kernel
theorem cn_X7_within : yX7_within.cls = RX7 ∧ yX7_within.cls ≠ "java/lang/invoke/MethodHandle" ∧ yX7_within.cls ≠ "java/lang/invoke/VarHandle" ∧ (parseMethodDescriptor yX7_within.desc).map (fun d => d.parameters.length) = some 3 := by decide +kernel
theorem cn_X8_above : yX8_above.cls = RX8 ∧ yX8_above.cls ≠ "java/lang/invoke/MethodHandle" ∧ yX8_above.cls ≠ "java/lang/invoke/VarHandle" ∧ (parseMethodDescriptor yX8_above.desc).map (fun d => d.parameters.length) = some 1 := by decide +kernel
theorem cn_X8_atStreet : yX8_atStreet.cls = RX8 ∧ yX8_atStreet.cls ≠ "java/lang/invoke/MethodHandle" ∧ yX8_atStreet.cls ≠ "java/lang/invoke/VarHandle" ∧ (parseMethodDescriptor yX8_atStreet.desc).map (fun d => d.parameters.length) = some 1 := by decide +kernel
theorem cn_X8_bits : yX8_bits.cls = RX8 ∧ yX8_bits.cls ≠ "java/lang/invoke/MethodHandle" ∧ yX8_bits.cls ≠ "java/lang/invoke/VarHandle" ∧ (parseMethodDescriptor yX8_bits.desc).map (fun d => d.parameters.length) = some 1 := by decide +kernel
theorem cn_X8_both : yX8_both.cls = RX8 ∧ yX8_both.cls ≠ "java/lang/invoke/MethodHandle" ∧ yX8_both.cls ≠ "java/lang/invoke/VarHandle" ∧ (parseMethodDescriptor yX8_both.desc).map (fun d => d.parameters.length) = some 0 := by decide +kernel
theorem cn_X8_codes : yX8_codes.cls = RX8 ∧ yX8_codes.cls ≠ "java/lang/invoke/MethodHandle" ∧ yX8_codes.cls ≠ "java/lang/invoke/VarHandle" ∧ (parseMethodDescriptor yX8_codes.desc).map (fun d => d.parameters.length) = some 1 := by decide +kernel
theorem cn_X8_comesFrom : yX8_comesFrom.cls = RX8 ∧ yX8_comesFrom.cls ≠ "java/lang/invoke/MethodHandle" ∧ yX8_comesFrom.cls ≠ "java/lang/invoke/VarHandle" ∧ (parseMethodDescriptor yX8_comesFrom.desc).map (fun d => d.parameters.length) = some 2 := by decide +kernel
theorem cn_X8_compared : yX8_compared.cls = RX8 ∧ yX8_compared.cls ≠ "java/lang/invoke/MethodHandle" ∧ yX8_compared.cls ≠ "java/lang/invoke/VarHandle" ∧ (parseMethodDescriptor yX8_compared.desc).map (fun d => d.parameters.length) = some 0 := by decide +kernel
theorem cn_X8_copy : yX8_copy.cls = RX8 ∧ yX8_copy.cls ≠ "java/lang/invoke/MethodHandle" ∧ yX8_copy.cls ≠ "java/lang/invoke/VarHandle" ∧ (parseMethodDescriptor yX8_copy.desc).map (fun d => d.parameters.length) = some 2 := by decide +kernel
theorem cn_X8_deedsFor : yX8_deedsFor.cls = RX8 ∧ yX8_deedsFor.cls ≠ "java/lang/invoke/MethodHandle" ∧ yX8_deedsFor.cls ≠ "java/lang/invoke/VarHandle" ∧ (parseMethodDescriptor yX8_deedsFor.desc).map (fun d => d.parameters.length) = some 3 := by decide +kernel
theorem cn_X8_doMeet : yX8_doMeet.cls = RX8 ∧ yX8_doMeet.cls ≠ "java/lang/invoke/MethodHandle" ∧ yX8_doMeet.cls ≠ "java/lang/invoke/VarHandle" ∧ (parseMethodDescriptor yX8_doMeet.desc).map (fun d => d.parameters.length) = some 2 := by decide +kernel
theorem cn_X8_done : yX8_done.cls = RX8 ∧ yX8_done.cls ≠ "java/lang/invoke/MethodHandle" ∧ yX8_done.cls ≠ "java/lang/invoke/VarHandle" ∧ (parseMethodDescriptor yX8_done.desc).map (fun d => d.parameters.length) = some 3 := by decide +kernel
theorem cn_X8_drawn : yX8_drawn.cls = RX8 ∧ yX8_drawn.cls ≠ "java/lang/invoke/MethodHandle" ∧ yX8_drawn.cls ≠ "java/lang/invoke/VarHandle" ∧ (parseMethodDescriptor yX8_drawn.desc).map (fun d => d.parameters.length) = some 0 := by decide +kernel
theorem cn_X8_either : yX8_either.cls = RX8 ∧ yX8_either.cls ≠ "java/lang/invoke/MethodHandle" ∧ yX8_either.cls ≠ "java/lang/invoke/VarHandle" ∧ (parseMethodDescriptor yX8_either.desc).map (fun d => d.parameters.length) = some 0 := by decide +kernel
theorem cn_X8_finding : yX8_finding.cls = RX8 ∧ yX8_finding.cls ≠ "java/lang/invoke/MethodHandle" ∧ yX8_finding.cls ≠ "java/lang/invoke/VarHandle" ∧ (parseMethodDescriptor yX8_finding.desc).map (fun d => d.parameters.length) = some 1 := by decide +kernel
theorem cn_X8_forget : yX8_forget.cls = RX8 ∧ yX8_forget.cls ≠ "java/lang/invoke/MethodHandle" ∧ yX8_forget.cls ≠ "java/lang/invoke/VarHandle" ∧ (parseMethodDescriptor yX8_forget.desc).map (fun d => d.parameters.length) = some 0 := by decide +kernel
theorem cn_X8_freeBehind : yX8_freeBehind.cls = RX8 ∧ yX8_freeBehind.cls ≠ "java/lang/invoke/MethodHandle" ∧ yX8_freeBehind.cls ≠ "java/lang/invoke/VarHandle" ∧ (parseMethodDescriptor yX8_freeBehind.desc).map (fun d => d.parameters.length) = some 2 := by decide +kernel
theorem cn_X8_freeNow : yX8_freeNow.cls = RX8 ∧ yX8_freeNow.cls ≠ "java/lang/invoke/MethodHandle" ∧ yX8_freeNow.cls ≠ "java/lang/invoke/VarHandle" ∧ (parseMethodDescriptor yX8_freeNow.desc).map (fun d => d.parameters.length) = some 0 := by decide +kernel
theorem cn_X8_given : yX8_given.cls = RX8 ∧ yX8_given.cls ≠ "java/lang/invoke/MethodHandle" ∧ yX8_given.cls ≠ "java/lang/invoke/VarHandle" ∧ (parseMethodDescriptor yX8_given.desc).map (fun d => d.parameters.length) = some 4 := by decide +kernel
theorem cn_X8_gloved : yX8_gloved.cls = RX8 ∧ yX8_gloved.cls ≠ "java/lang/invoke/MethodHandle" ∧ yX8_gloved.cls ≠ "java/lang/invoke/VarHandle" ∧ (parseMethodDescriptor yX8_gloved.desc).map (fun d => d.parameters.length) = some 0 := by decide +kernel
theorem cn_X8_handedTo : yX8_handedTo.cls = RX8 ∧ yX8_handedTo.cls ≠ "java/lang/invoke/MethodHandle" ∧ yX8_handedTo.cls ≠ "java/lang/invoke/VarHandle" ∧ (parseMethodDescriptor yX8_handedTo.desc).map (fun d => d.parameters.length) = some 1 := by decide +kernel
theorem cn_X8_handsBy : yX8_handsBy.cls = RX8 ∧ yX8_handsBy.cls ≠ "java/lang/invoke/MethodHandle" ∧ yX8_handsBy.cls ≠ "java/lang/invoke/VarHandle" ∧ (parseMethodDescriptor yX8_handsBy.desc).map (fun d => d.parameters.length) = some 2 := by decide +kernel
theorem cn_X8_handsOf : yX8_handsOf.cls = RX8 ∧ yX8_handsOf.cls ≠ "java/lang/invoke/MethodHandle" ∧ yX8_handsOf.cls ≠ "java/lang/invoke/VarHandle" ∧ (parseMethodDescriptor yX8_handsOf.desc).map (fun d => d.parameters.length) = some 1 := by decide +kernel
theorem cn_X8_hasBit : yX8_hasBit.cls = RX8 ∧ yX8_hasBit.cls ≠ "java/lang/invoke/MethodHandle" ∧ yX8_hasBit.cls ≠ "java/lang/invoke/VarHandle" ∧ (parseMethodDescriptor yX8_hasBit.desc).map (fun d => d.parameters.length) = some 2 := by decide +kernel
theorem cn_X8_hasText : yX8_hasText.cls = RX8 ∧ yX8_hasText.cls ≠ "java/lang/invoke/MethodHandle" ∧ yX8_hasText.cls ≠ "java/lang/invoke/VarHandle" ∧ (parseMethodDescriptor yX8_hasText.desc).map (fun d => d.parameters.length) = some 1 := by decide +kernel
theorem cn_X8_held : yX8_held.cls = RX8 ∧ yX8_held.cls ≠ "java/lang/invoke/MethodHandle" ∧ yX8_held.cls ≠ "java/lang/invoke/VarHandle" ∧ (parseMethodDescriptor yX8_held.desc).map (fun d => d.parameters.length) = some 3 := by decide +kernel
theorem cn_X8_here : yX8_here.cls = RX8 ∧ yX8_here.cls ≠ "java/lang/invoke/MethodHandle" ∧ yX8_here.cls ≠ "java/lang/invoke/VarHandle" ∧ (parseMethodDescriptor yX8_here.desc).map (fun d => d.parameters.length) = some 0 := by decide +kernel
theorem cn_X8_isBehind : yX8_isBehind.cls = RX8 ∧ yX8_isBehind.cls ≠ "java/lang/invoke/MethodHandle" ∧ yX8_isBehind.cls ≠ "java/lang/invoke/VarHandle" ∧ (parseMethodDescriptor yX8_isBehind.desc).map (fun d => d.parameters.length) = some 1 := by decide +kernel
theorem cn_X8_isKindM : yX8_isKindM.cls = RX8 ∧ yX8_isKindM.cls ≠ "java/lang/invoke/MethodHandle" ∧ yX8_isKindM.cls ≠ "java/lang/invoke/VarHandle" ∧ (parseMethodDescriptor yX8_isKindM.desc).map (fun d => d.parameters.length) = some 1 := by decide +kernel
theorem cn_X8_isMeeting : yX8_isMeeting.cls = RX8 ∧ yX8_isMeeting.cls ≠ "java/lang/invoke/MethodHandle" ∧ yX8_isMeeting.cls ≠ "java/lang/invoke/VarHandle" ∧ (parseMethodDescriptor yX8_isMeeting.desc).map (fun d => d.parameters.length) = some 2 := by decide +kernel
theorem cn_X8_isSheet : yX8_isSheet.cls = RX8 ∧ yX8_isSheet.cls ≠ "java/lang/invoke/MethodHandle" ∧ yX8_isSheet.cls ≠ "java/lang/invoke/VarHandle" ∧ (parseMethodDescriptor yX8_isSheet.desc).map (fun d => d.parameters.length) = some 1 := by decide +kernel
theorem cn_X8_isSoon : yX8_isSoon.cls = RX8 ∧ yX8_isSoon.cls ≠ "java/lang/invoke/MethodHandle" ∧ yX8_isSoon.cls ≠ "java/lang/invoke/VarHandle" ∧ (parseMethodDescriptor yX8_isSoon.desc).map (fun d => d.parameters.length) = some 1 := by decide +kernel
theorem cn_X8_isSoul : yX8_isSoul.cls = RX8 ∧ yX8_isSoul.cls ≠ "java/lang/invoke/MethodHandle" ∧ yX8_isSoul.cls ≠ "java/lang/invoke/VarHandle" ∧ (parseMethodDescriptor yX8_isSoul.desc).map (fun d => d.parameters.length) = some 1 := by decide +kernel
theorem cn_X8_isStreet : yX8_isStreet.cls = RX8 ∧ yX8_isStreet.cls ≠ "java/lang/invoke/MethodHandle" ∧ yX8_isStreet.cls ≠ "java/lang/invoke/VarHandle" ∧ (parseMethodDescriptor yX8_isStreet.desc).map (fun d => d.parameters.length) = some 1 := by decide +kernel
theorem cn_X8_isUnder : yX8_isUnder.cls = RX8 ∧ yX8_isUnder.cls ≠ "java/lang/invoke/MethodHandle" ∧ yX8_isUnder.cls ≠ "java/lang/invoke/VarHandle" ∧ (parseMethodDescriptor yX8_isUnder.desc).map (fun d => d.parameters.length) = some 2 := by decide +kernel
theorem cn_X8_keepsNow : yX8_keepsNow.cls = RX8 ∧ yX8_keepsNow.cls ≠ "java/lang/invoke/MethodHandle" ∧ yX8_keepsNow.cls ≠ "java/lang/invoke/VarHandle" ∧ (parseMethodDescriptor yX8_keepsNow.desc).map (fun d => d.parameters.length) = some 1 := by decide +kernel
theorem cn_X8_keepsOf : yX8_keepsOf.cls = RX8 ∧ yX8_keepsOf.cls ≠ "java/lang/invoke/MethodHandle" ∧ yX8_keepsOf.cls ≠ "java/lang/invoke/VarHandle" ∧ (parseMethodDescriptor yX8_keepsOf.desc).map (fun d => d.parameters.length) = some 1 := by decide +kernel
theorem cn_X8_mayBe : yX8_mayBe.cls = RX8 ∧ yX8_mayBe.cls ≠ "java/lang/invoke/MethodHandle" ∧ yX8_mayBe.cls ≠ "java/lang/invoke/VarHandle" ∧ (parseMethodDescriptor yX8_mayBe.desc).map (fun d => d.parameters.length) = some 2 := by decide +kernel
theorem cn_X8_nameOf : yX8_nameOf.cls = RX8 ∧ yX8_nameOf.cls ≠ "java/lang/invoke/MethodHandle" ∧ yX8_nameOf.cls ≠ "java/lang/invoke/VarHandle" ∧ (parseMethodDescriptor yX8_nameOf.desc).map (fun d => d.parameters.length) = some 1 := by decide +kernel
theorem cn_X8_one : yX8_one.cls = RX8 ∧ yX8_one.cls ≠ "java/lang/invoke/MethodHandle" ∧ yX8_one.cls ≠ "java/lang/invoke/VarHandle" ∧ (parseMethodDescriptor yX8_one.desc).map (fun d => d.parameters.length) = some 0 := by decide +kernel
theorem cn_X8_plainTells : yX8_plainTells.cls = RX8 ∧ yX8_plainTells.cls ≠ "java/lang/invoke/MethodHandle" ∧ yX8_plainTells.cls ≠ "java/lang/invoke/VarHandle" ∧ (parseMethodDescriptor yX8_plainTells.desc).map (fun d => d.parameters.length) = some 1 := by decide +kernel
theorem cn_X8_product : yX8_product.cls = RX8 ∧ yX8_product.cls ≠ "java/lang/invoke/MethodHandle" ∧ yX8_product.cls ≠ "java/lang/invoke/VarHandle" ∧ (parseMethodDescriptor yX8_product.desc).map (fun d => d.parameters.length) = some 0 := by decide +kernel
theorem cn_X8_putBack : yX8_putBack.cls = RX8 ∧ yX8_putBack.cls ≠ "java/lang/invoke/MethodHandle" ∧ yX8_putBack.cls ≠ "java/lang/invoke/VarHandle" ∧ (parseMethodDescriptor yX8_putBack.desc).map (fun d => d.parameters.length) = some 1 := by decide +kernel
theorem cn_X8_ran : yX8_ran.cls = RX8 ∧ yX8_ran.cls ≠ "java/lang/invoke/MethodHandle" ∧ yX8_ran.cls ≠ "java/lang/invoke/VarHandle" ∧ (parseMethodDescriptor yX8_ran.desc).map (fun d => d.parameters.length) = some 1 := by decide +kernel
theorem cn_X8_runsNow : yX8_runsNow.cls = RX8 ∧ yX8_runsNow.cls ≠ "java/lang/invoke/MethodHandle" ∧ yX8_runsNow.cls ≠ "java/lang/invoke/VarHandle" ∧ (parseMethodDescriptor yX8_runsNow.desc).map (fun d => d.parameters.length) = some 1 := by decide +kernel
theorem cn_X8_soulAt : yX8_soulAt.cls = RX8 ∧ yX8_soulAt.cls ≠ "java/lang/invoke/MethodHandle" ∧ yX8_soulAt.cls ≠ "java/lang/invoke/VarHandle" ∧ (parseMethodDescriptor yX8_soulAt.desc).map (fun d => d.parameters.length) = some 2 := by decide +kernel
theorem cn_X8_soulComes : yX8_soulComes.cls = RX8 ∧ yX8_soulComes.cls ≠ "java/lang/invoke/MethodHandle" ∧ yX8_soulComes.cls ≠ "java/lang/invoke/VarHandle" ∧ (parseMethodDescriptor yX8_soulComes.desc).map (fun d => d.parameters.length) = some 2 := by decide +kernel
theorem cn_X8_soulIs : yX8_soulIs.cls = RX8 ∧ yX8_soulIs.cls ≠ "java/lang/invoke/MethodHandle" ∧ yX8_soulIs.cls ≠ "java/lang/invoke/VarHandle" ∧ (parseMethodDescriptor yX8_soulIs.desc).map (fun d => d.parameters.length) = some 2 := by decide +kernel
theorem cn_X8_staysAway : yX8_staysAway.cls = RX8 ∧ yX8_staysAway.cls ≠ "java/lang/invoke/MethodHandle" ∧ yX8_staysAway.cls ≠ "java/lang/invoke/VarHandle" ∧ (parseMethodDescriptor yX8_staysAway.desc).map (fun d => d.parameters.length) = some 3 := by decide +kernel
theorem cn_X8_stealsOf : yX8_stealsOf.cls = RX8 ∧ yX8_stealsOf.cls ≠ "java/lang/invoke/MethodHandle" ∧ yX8_stealsOf.cls ≠ "java/lang/invoke/VarHandle" ∧ (parseMethodDescriptor yX8_stealsOf.desc).map (fun d => d.parameters.length) = some 1 := by decide +kernel
theorem cn_X8_step : yX8_step.cls = RX8 ∧ yX8_step.cls ≠ "java/lang/invoke/MethodHandle" ∧ yX8_step.cls ≠ "java/lang/invoke/VarHandle" ∧ (parseMethodDescriptor yX8_step.desc).map (fun d => d.parameters.length) = some 0 := by decide +kernel
theorem cn_X8_stepsGo : yX8_stepsGo.cls = RX8 ∧ yX8_stepsGo.cls ≠ "java/lang/invoke/MethodHandle" ∧ yX8_stepsGo.cls ≠ "java/lang/invoke/VarHandle" ∧ (parseMethodDescriptor yX8_stepsGo.desc).map (fun d => d.parameters.length) = some 1 := by decide +kernel
theorem cn_X8_sum : yX8_sum.cls = RX8 ∧ yX8_sum.cls ≠ "java/lang/invoke/MethodHandle" ∧ yX8_sum.cls ≠ "java/lang/invoke/VarHandle" ∧ (parseMethodDescriptor yX8_sum.desc).map (fun d => d.parameters.length) = some 0 := by decide +kernel
theorem cn_X8_sumOf : yX8_sumOf.cls = RX8 ∧ yX8_sumOf.cls ≠ "java/lang/invoke/MethodHandle" ∧ yX8_sumOf.cls ≠ "java/lang/invoke/VarHandle" ∧ (parseMethodDescriptor yX8_sumOf.desc).map (fun d => d.parameters.length) = some 1 := by decide +kernel
theorem cn_X8_takes : yX8_takes.cls = RX8 ∧ yX8_takes.cls ≠ "java/lang/invoke/MethodHandle" ∧ yX8_takes.cls ≠ "java/lang/invoke/VarHandle" ∧ (parseMethodDescriptor yX8_takes.desc).map (fun d => d.parameters.length) = some 1 := by decide +kernel
theorem cn_X8_tellsOf : yX8_tellsOf.cls = RX8 ∧ yX8_tellsOf.cls ≠ "java/lang/invoke/MethodHandle" ∧ yX8_tellsOf.cls ≠ "java/lang/invoke/VarHandle" ∧ (parseMethodDescriptor yX8_tellsOf.desc).map (fun d => d.parameters.length) = some 1 := by decide +kernel
theorem cn_X8_turn : yX8_turn.cls = RX8 ∧ yX8_turn.cls ≠ "java/lang/invoke/MethodHandle" ∧ yX8_turn.cls ≠ "java/lang/invoke/VarHandle" ∧ (parseMethodDescriptor yX8_turn.desc).map (fun d => d.parameters.length) = some 2 := by decide +kernel
theorem cn_X8_within : yX8_within.cls = RX8 ∧ yX8_within.cls ≠ "java/lang/invoke/MethodHandle" ∧ yX8_within.cls ≠ "java/lang/invoke/VarHandle" ∧ (parseMethodDescriptor yX8_within.desc).map (fun d => d.parameters.length) = some 3 := by decide +kernel
theorem cn_X8_worked : yX8_worked.cls = RX8 ∧ yX8_worked.cls ≠ "java/lang/invoke/MethodHandle" ∧ yX8_worked.cls ≠ "java/lang/invoke/VarHandle" ∧ (parseMethodDescriptor yX8_worked.desc).map (fun d => d.parameters.length) = some 1 := by decide +kernel
theorem ic_0 : Int32.ofInt (0) = (0 : Int32) := by decide
theorem ic_1 : Int32.ofInt (1) = (1 : Int32) := by decide
theorem ic_2 : Int32.ofInt (2) = (2 : Int32) := by decide
theorem ic_3 : Int32.ofInt (3) = (3 : Int32) := by decide
theorem ic_4 : Int32.ofInt (4) = (4 : Int32) := by decide
theorem ic_5 : Int32.ofInt (5) = (5 : Int32) := by decide
theorem ic_m1 : Int32.ofInt (-1) = (-1 : Int32) := by decide
theorem nz_10 : ¬ (10 : Int32) = 0 := by decide
theorem nz_2 : ¬ (2 : Int32) = 0 := by decide
theorem nz_24 : ¬ (24 : Int32) = 0 := by decide
theorem nz_4 : ¬ (4 : Int32) = 0 := by decide
theorem nz_7 : ¬ (7 : Int32) = 0 := by decide
theorem nz_8 : ¬ (8 : Int32) = 0 := by decide
theorem pn_J6 : plainName RJ6 = true := by decide +kernel
theorem pn_X0 : plainName RX0 = true := by decide +kernel
theorem pn_X1 : plainName RX1 = true := by decide +kernel
theorem pn_X2 : plainName RX2 = true := by decide +kernel
theorem pn_X3 : plainName RX3 = true := by decide +kernel
theorem pn_X4 : plainName RX4 = true := by decide +kernel
theorem pn_X5 : plainName RX5 = true := by decide +kernel
theorem pn_X6 : plainName RX6 = true := by decide +kernel
theorem pn_X7 : plainName RX7 = true := by decide +kernel
theorem pn_X8 : plainName RX8 = true := by decide +kernel
theorem sp_10000 : (Int16.ofInt (10000)).toInt32 = (10000 : Int32) := by decide
theorem sp_12345 : (Int16.ofInt (12345)).toInt32 = (12345 : Int32) := by decide
theorem sp_20000 : (Int16.ofInt (20000)).toInt32 = (20000 : Int32) := by decide
theorem sp_20001 : (Int16.ofInt (20001)).toInt32 = (20001 : Int32) := by decide
theorem sp_20002 : (Int16.ofInt (20002)).toInt32 = (20002 : Int32) := by decide
theorem sp_20003 : (Int16.ofInt (20003)).toInt32 = (20003 : Int32) := by decide
theorem sp_20004 : (Int16.ofInt (20004)).toInt32 = (20004 : Int32) := by decide
theorem sp_20005 : (Int16.ofInt (20005)).toInt32 = (20005 : Int32) := by decide
theorem sp_20006 : (Int16.ofInt (20006)).toInt32 = (20006 : Int32) := by decide
theorem sp_20007 : (Int16.ofInt (20007)).toInt32 = (20007 : Int32) := by decide
theorem sp_20008 : (Int16.ofInt (20008)).toInt32 = (20008 : Int32) := by decide
theorem sp_20009 : (Int16.ofInt (20009)).toInt32 = (20009 : Int32) := by decide
theorem sp_20010 : (Int16.ofInt (20010)).toInt32 = (20010 : Int32) := by decide
theorem sp_216 : (Int16.ofInt (216)).toInt32 = (216 : Int32) := by decide
theorem sp_228 : (Int16.ofInt (228)).toInt32 = (228 : Int32) := by decide
theorem sp_255 : (Int16.ofInt (255)).toInt32 = (255 : Int32) := by decide
theorem sp_9999 : (Int16.ofInt (9999)).toInt32 = (9999 : Int32) := by decide
theorem vi_0_228 : vp_in (0 : Int32) 228 := by unfold vp_in; decide
theorem vi_0_4 : vp_in (0 : Int32) 4 := by unfold vp_in; decide
theorem vi_0_50 : vp_in (0 : Int32) 50 := by unfold vp_in; decide
theorem vi_0_60 : vp_in (0 : Int32) 60 := by unfold vp_in; decide
theorem vi_1_228 : vp_in (1 : Int32) 228 := by unfold vp_in; decide
theorem vi_1_4 : vp_in (1 : Int32) 4 := by unfold vp_in; decide
theorem vi_2_228 : vp_in (2 : Int32) 228 := by unfold vp_in; decide
theorem vi_2_4 : vp_in (2 : Int32) 4 := by unfold vp_in; decide
theorem vi_3_228 : vp_in (3 : Int32) 228 := by unfold vp_in; decide
theorem vi_4_228 : vp_in (4 : Int32) 228 := by unfold vp_in; decide
theorem vi_5_228 : vp_in (5 : Int32) 228 := by unfold vp_in; decide
theorem vl_0 : (0 : Int32).toNatClampNeg = 0 := by decide
theorem vl_1 : (1 : Int32).toNatClampNeg = 1 := by decide
theorem vl_2 : (2 : Int32).toNatClampNeg = 2 := by decide
theorem vl_3 : (3 : Int32).toNatClampNeg = 3 := by decide
theorem vl_4 : (4 : Int32).toNatClampNeg = 4 := by decide
theorem vl_5 : (5 : Int32).toNatClampNeg = 5 := by decide
