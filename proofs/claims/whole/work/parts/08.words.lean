theorem tc_1 {w : Cond} (h : w ∈ tables_1_1) : w ∈ lw_tbl := List.mem_append_right _ (List.mem_append_left _ h)
theorem tc_2 {w : Cond} (h : w ∈ tables_1_2) : w ∈ lw_tbl := List.mem_append_right _ (List.mem_append_right _ (List.mem_append_left _ h))
theorem tc_3 {w : Cond} (h : w ∈ tables_1_3) : w ∈ lw_tbl := List.mem_append_right _ (List.mem_append_right _ (List.mem_append_right _ (List.mem_append_left _ h)))
theorem tc_4 {w : Cond} (h : w ∈ tables_1_4) : w ∈ lw_tbl := List.mem_append_right _ (List.mem_append_right _ (List.mem_append_right _ (List.mem_append_right _ (List.mem_append_left _ h))))
theorem tc_5 {w : Cond} (h : w ∈ tables_1_5) : w ∈ lw_tbl := List.mem_append_right _ (List.mem_append_right _ (List.mem_append_right _ (List.mem_append_right _ (List.mem_append_right _ (List.mem_append_left _ h)))))
theorem tc_6 {w : Cond} (h : w ∈ tables_1_6) : w ∈ lw_tbl := List.mem_append_right _ (List.mem_append_right _ (List.mem_append_right _ (List.mem_append_right _ (List.mem_append_right _ (List.mem_append_right _ h)))))
theorem pc_1 {q : MethodName × Nat} (h : q ∈ lw_privs_1) : Cond.selects q.1.cls q.1 q.1 ∈ lw_tbl := List.mem_append_left _ (List.mem_map.mpr ⟨q, (List.mem_append_left _ h), rfl⟩)
theorem pc_2 {q : MethodName × Nat} (h : q ∈ lw_privs_2) : Cond.selects q.1.cls q.1 q.1 ∈ lw_tbl := List.mem_append_left _ (List.mem_map.mpr ⟨q, (List.mem_append_right _ (List.mem_append_left _ h)), rfl⟩)
theorem pc_3 {q : MethodName × Nat} (h : q ∈ lw_privs_3) : Cond.selects q.1.cls q.1 q.1 ∈ lw_tbl := List.mem_append_left _ (List.mem_map.mpr ⟨q, (List.mem_append_right _ (List.mem_append_right _ (List.mem_append_left _ h))), rfl⟩)
theorem pc_4 {q : MethodName × Nat} (h : q ∈ lw_privs_4) : Cond.selects q.1.cls q.1 q.1 ∈ lw_tbl := List.mem_append_left _ (List.mem_map.mpr ⟨q, (List.mem_append_right _ (List.mem_append_right _ (List.mem_append_right _ (List.mem_append_left _ h)))), rfl⟩)
theorem pc_5 {q : MethodName × Nat} (h : q ∈ lw_privs_5) : Cond.selects q.1.cls q.1 q.1 ∈ lw_tbl := List.mem_append_left _ (List.mem_map.mpr ⟨q, (List.mem_append_right _ (List.mem_append_right _ (List.mem_append_right _ (List.mem_append_right _ h)))), rfl⟩)
theorem wd_0 : Cond.selects RX7 yX7_refuse yX7_refuse ∈ wz := wz_in (pc_1 (List.mem_of_getElem? (i := 0) rfl)) rfl
theorem wd_1 : Cond.selects RX7 yX7_isSoul yX7_isSoul ∈ wz := wz_in (pc_1 (List.mem_of_getElem? (i := 1) rfl)) rfl
theorem wd_2 : Cond.selects RX7 yX7_replace yX7_replace ∈ wz := wz_in (pc_1 (List.mem_of_getElem? (i := 2) rfl)) rfl
theorem wd_3 : Cond.selects RX1 yX1_readAny yX1_readAny ∈ wz := wz_in (pc_1 (List.mem_of_getElem? (i := 3) rfl)) rfl
theorem wd_4 : Cond.selects RX1 yX1_readAll yX1_readAll ∈ wz := wz_in (pc_1 (List.mem_of_getElem? (i := 4) rfl)) rfl
theorem wd_5 : Cond.selects RX1 yX1_readComparison yX1_readComparison ∈ wz := wz_in (pc_1 (List.mem_of_getElem? (i := 5) rfl)) rfl
theorem wd_6 : Cond.selects RX1 yX1_readSum yX1_readSum ∈ wz := wz_in (pc_1 (List.mem_of_getElem? (i := 6) rfl)) rfl
theorem wd_7 : Cond.selects RX1 yX1_readProduct yX1_readProduct ∈ wz := wz_in (pc_1 (List.mem_of_getElem? (i := 7) rfl)) rfl
theorem wd_8 : Cond.selects RX1 yX1_readSingle yX1_readSingle ∈ wz := wz_in (pc_1 (List.mem_of_getElem? (i := 8) rfl)) rfl
theorem wd_9 : Cond.selects RX1 yX1_next yX1_next ∈ wz := wz_in (pc_1 (List.mem_of_getElem? (i := 9) rfl)) rfl
theorem wd_10 : Cond.selects RX1 yX1_readOpened yX1_readOpened ∈ wz := wz_in (pc_1 (List.mem_of_getElem? (i := 10) rfl)) rfl
theorem wd_11 : Cond.selects RX1 yX1_readNumber yX1_readNumber ∈ wz := wz_in (pc_1 (List.mem_of_getElem? (i := 11) rfl)) rfl
theorem wd_12 : Cond.selects RX1 yX1_readName yX1_readName ∈ wz := wz_in (pc_1 (List.mem_of_getElem? (i := 12) rfl)) rfl
theorem wd_13 : Cond.selects RX0 yX0_haveOwn yX0_haveOwn ∈ wz := wz_in (pc_1 (List.mem_of_getElem? (i := 13) rfl)) rfl
theorem wd_14 : Cond.selects RX0 yX0_handOn yX0_handOn ∈ wz := wz_in (pc_1 (List.mem_of_getElem? (i := 14) rfl)) rfl
theorem wd_15 : Cond.selects RX0 yX0_countCrowds yX0_countCrowds ∈ wz := wz_in (pc_1 (List.mem_of_getElem? (i := 15) rfl)) rfl
theorem wd_16 : Cond.selects RX0 yX0_handOnAt yX0_handOnAt ∈ wz := wz_in (pc_2 (List.mem_of_getElem? (i := 0) rfl)) rfl
theorem wd_17 : Cond.selects RX0 yX0_doDeeds yX0_doDeeds ∈ wz := wz_in (pc_2 (List.mem_of_getElem? (i := 1) rfl)) rfl
theorem wd_18 : Cond.selects RX0 yX0_runOut yX0_runOut ∈ wz := wz_in (pc_2 (List.mem_of_getElem? (i := 2) rfl)) rfl
theorem wd_19 : Cond.selects RX0 yX0_steal yX0_steal ∈ wz := wz_in (pc_2 (List.mem_of_getElem? (i := 3) rfl)) rfl
theorem wd_20 : Cond.selects RX5 yX5_draw yX5_draw ∈ wz := wz_in (pc_2 (List.mem_of_getElem? (i := 4) rfl)) rfl
theorem wd_21 : Cond.selects RX7 yX7_think yX7_think ∈ wz := wz_in (pc_2 (List.mem_of_getElem? (i := 5) rfl)) rfl
theorem wd_22 : Cond.selects RX7 yX7_countTimesFree yX7_countTimesFree ∈ wz := wz_in (pc_2 (List.mem_of_getElem? (i := 6) rfl)) rfl
theorem wd_23 : Cond.selects RX7 yX7_staysAway yX7_staysAway ∈ wz := wz_in (pc_2 (List.mem_of_getElem? (i := 7) rfl)) rfl
theorem wd_24 : Cond.selects RX7 yX7_rowOf yX7_rowOf ∈ wz := wz_in (pc_2 (List.mem_of_getElem? (i := 8) rfl)) rfl
theorem wd_25 : Cond.selects RX7 yX7_canHaveComeBy yX7_canHaveComeBy ∈ wz := wz_in (pc_2 (List.mem_of_getElem? (i := 9) rfl)) rfl
theorem wd_26 : Cond.selects RX7 yX7_hoursWith yX7_hoursWith ∈ wz := wz_in (pc_2 (List.mem_of_getElem? (i := 10) rfl)) rfl
theorem wd_27 : Cond.selects RX6 yX6_own yX6_own ∈ wz := wz_in (pc_2 (List.mem_of_getElem? (i := 11) rfl)) rfl
theorem wd_28 : Cond.selects RX6 yX6_of yX6_of ∈ wz := wz_in (pc_2 (List.mem_of_getElem? (i := 12) rfl)) rfl
theorem wd_29 : Cond.selects RX6 yX6_work yX6_work ∈ wz := wz_in (pc_2 (List.mem_of_getElem? (i := 13) rfl)) rfl
theorem wd_30 : Cond.selects RX7 yX7_firstWrongOfWaiting yX7_firstWrongOfWaiting ∈ wz := wz_in (pc_2 (List.mem_of_getElem? (i := 14) rfl)) rfl
theorem wd_31 : Cond.selects RX8 yX8_finding yX8_finding ∈ wz := wz_in (pc_2 (List.mem_of_getElem? (i := 15) rfl)) rfl
theorem wd_32 : Cond.selects RX8 yX8_either yX8_either ∈ wz := wz_in (pc_3 (List.mem_of_getElem? (i := 0) rfl)) rfl
theorem wd_33 : Cond.selects RX8 yX8_both yX8_both ∈ wz := wz_in (pc_3 (List.mem_of_getElem? (i := 1) rfl)) rfl
theorem wd_34 : Cond.selects RX8 yX8_compared yX8_compared ∈ wz := wz_in (pc_3 (List.mem_of_getElem? (i := 2) rfl)) rfl
theorem wd_35 : Cond.selects RX8 yX8_sum yX8_sum ∈ wz := wz_in (pc_3 (List.mem_of_getElem? (i := 3) rfl)) rfl
theorem wd_36 : Cond.selects RX8 yX8_product yX8_product ∈ wz := wz_in (pc_3 (List.mem_of_getElem? (i := 4) rfl)) rfl
theorem wd_37 : Cond.selects RX8 yX8_one yX8_one ∈ wz := wz_in (pc_3 (List.mem_of_getElem? (i := 5) rfl)) rfl
theorem wd_38 : Cond.selects RX8 yX8_here yX8_here ∈ wz := wz_in (pc_3 (List.mem_of_getElem? (i := 6) rfl)) rfl
theorem wd_39 : Cond.selects RX8 yX8_codes yX8_codes ∈ wz := wz_in (pc_3 (List.mem_of_getElem? (i := 7) rfl)) rfl
theorem wd_40 : Cond.selects RX8 yX8_takes yX8_takes ∈ wz := wz_in (pc_3 (List.mem_of_getElem? (i := 8) rfl)) rfl
theorem wd_41 : Cond.selects RX8 yX8_nameOf yX8_nameOf ∈ wz := wz_in (pc_3 (List.mem_of_getElem? (i := 9) rfl)) rfl
theorem wd_42 : Cond.selects RX8 yX8_forget yX8_forget ∈ wz := wz_in (pc_3 (List.mem_of_getElem? (i := 10) rfl)) rfl
theorem wd_43 : Cond.selects RX8 yX8_given yX8_given ∈ wz := wz_in (pc_3 (List.mem_of_getElem? (i := 11) rfl)) rfl
theorem wd_44 : Cond.selects RX8 yX8_hasText yX8_hasText ∈ wz := wz_in (pc_3 (List.mem_of_getElem? (i := 12) rfl)) rfl
theorem wd_45 : Cond.selects RX8 yX8_worked yX8_worked ∈ wz := wz_in (pc_3 (List.mem_of_getElem? (i := 13) rfl)) rfl
theorem wd_46 : Cond.selects RX8 yX8_soulComes yX8_soulComes ∈ wz := wz_in (pc_3 (List.mem_of_getElem? (i := 14) rfl)) rfl
theorem wd_47 : Cond.selects RX8 yX8_isSoul yX8_isSoul ∈ wz := wz_in (pc_3 (List.mem_of_getElem? (i := 15) rfl)) rfl
theorem wd_48 : Cond.selects RX8 yX8_soulIs yX8_soulIs ∈ wz := wz_in (pc_4 (List.mem_of_getElem? (i := 0) rfl)) rfl
theorem wd_49 : Cond.selects RX8 yX8_keepsNow yX8_keepsNow ∈ wz := wz_in (pc_4 (List.mem_of_getElem? (i := 1) rfl)) rfl
theorem wd_50 : Cond.selects RX8 yX8_handsBy yX8_handsBy ∈ wz := wz_in (pc_4 (List.mem_of_getElem? (i := 2) rfl)) rfl
theorem wd_51 : Cond.selects RX8 yX8_runsNow yX8_runsNow ∈ wz := wz_in (pc_4 (List.mem_of_getElem? (i := 3) rfl)) rfl
theorem wd_52 : Cond.selects RX8 yX8_turn yX8_turn ∈ wz := wz_in (pc_4 (List.mem_of_getElem? (i := 4) rfl)) rfl
theorem wd_53 : Cond.selects RX8 yX8_atStreet yX8_atStreet ∈ wz := wz_in (pc_4 (List.mem_of_getElem? (i := 5) rfl)) rfl
theorem wd_54 : Cond.selects RX8 yX8_freeNow yX8_freeNow ∈ wz := wz_in (pc_4 (List.mem_of_getElem? (i := 6) rfl)) rfl
theorem wd_55 : Cond.selects RX8 yX8_doMeet yX8_doMeet ∈ wz := wz_in (pc_4 (List.mem_of_getElem? (i := 7) rfl)) rfl
theorem wd_56 : Cond.selects RX8 yX8_isMeeting yX8_isMeeting ∈ wz := wz_in (pc_4 (List.mem_of_getElem? (i := 8) rfl)) rfl
theorem wd_57 : Cond.selects RX8 yX8_stepsGo yX8_stepsGo ∈ wz := wz_in (pc_4 (List.mem_of_getElem? (i := 9) rfl)) rfl
theorem wd_58 : Cond.selects RX8 yX8_step yX8_step ∈ wz := wz_in (pc_4 (List.mem_of_getElem? (i := 10) rfl)) rfl
theorem wd_59 : Cond.selects RX8 yX8_handedTo yX8_handedTo ∈ wz := wz_in (pc_4 (List.mem_of_getElem? (i := 11) rfl)) rfl
theorem wd_60 : Cond.selects RX8 yX8_deedsFor yX8_deedsFor ∈ wz := wz_in (pc_4 (List.mem_of_getElem? (i := 12) rfl)) rfl
theorem wd_61 : Cond.selects RX8 yX8_sumOf yX8_sumOf ∈ wz := wz_in (pc_4 (List.mem_of_getElem? (i := 13) rfl)) rfl
theorem wd_62 : Cond.selects RX8 yX8_drawn yX8_drawn ∈ wz := wz_in (pc_4 (List.mem_of_getElem? (i := 14) rfl)) rfl
theorem wd_63 : Cond.selects RX8 yX8_putBack yX8_putBack ∈ wz := wz_in (pc_4 (List.mem_of_getElem? (i := 15) rfl)) rfl
theorem wd_64 : Cond.selects RX8 yX8_staysAway yX8_staysAway ∈ wz := wz_in (pc_5 (List.mem_of_getElem? (i := 0) rfl)) rfl
theorem wd_65 : Cond.selects RX8 yX8_comesFrom yX8_comesFrom ∈ wz := wz_in (pc_5 (List.mem_of_getElem? (i := 1) rfl)) rfl
theorem wd_66 : Cond.selects RX8 yX8_freeBehind yX8_freeBehind ∈ wz := wz_in (pc_5 (List.mem_of_getElem? (i := 2) rfl)) rfl
theorem wd_67 : Cond.selects RX8 yX8_keepsOf yX8_keepsOf ∈ wz := wz_in (pc_5 (List.mem_of_getElem? (i := 3) rfl)) rfl
theorem wd_68 : Cond.selects RX8 yX8_ran yX8_ran ∈ wz := wz_in (pc_5 (List.mem_of_getElem? (i := 4) rfl)) rfl
theorem wd_69 : Cond.selects RX8 yX8_handsOf yX8_handsOf ∈ wz := wz_in (pc_5 (List.mem_of_getElem? (i := 5) rfl)) rfl
theorem wd_70 : Cond.selects RX8 yX8_stealsOf yX8_stealsOf ∈ wz := wz_in (pc_5 (List.mem_of_getElem? (i := 6) rfl)) rfl
theorem wd_71 : Cond.selects RX8 yX8_tellsOf yX8_tellsOf ∈ wz := wz_in (pc_5 (List.mem_of_getElem? (i := 7) rfl)) rfl
theorem wd_72 : Cond.selects RX8 yX8_plainTells yX8_plainTells ∈ wz := wz_in (pc_5 (List.mem_of_getElem? (i := 8) rfl)) rfl
theorem wd_73 : Cond.selects RX8 yX8_gloved yX8_gloved ∈ wz := wz_in (pc_5 (List.mem_of_getElem? (i := 9) rfl)) rfl
theorem wd_74 : Cond.initialized RL ∈ wz := wz_in (tc_1 (List.mem_of_getElem? (i := 0) rfl)) rfl
theorem wd_75 : Cond.initialized RX7 ∈ wz := wz_in (tc_1 (List.mem_of_getElem? (i := 1) rfl)) rfl
theorem wd_76 : Cond.initialized RX5 ∈ wz := wz_in (tc_1 (List.mem_of_getElem? (i := 2) rfl)) rfl
theorem wd_77 : Cond.initialized RX3 ∈ wz := wz_in (tc_1 (List.mem_of_getElem? (i := 3) rfl)) rfl
theorem wd_78 : Cond.initialized RX0 ∈ wz := wz_in (tc_1 (List.mem_of_getElem? (i := 4) rfl)) rfl
theorem wd_79 : Cond.initialized RX4 ∈ wz := wz_in (tc_1 (List.mem_of_getElem? (i := 5) rfl)) rfl
theorem wd_80 : Cond.initialized RJ9 ∈ wz := wz_in (tc_1 (List.mem_of_getElem? (i := 6) rfl)) rfl
theorem wd_81 : Cond.initialized RX1 ∈ wz := wz_in (tc_1 (List.mem_of_getElem? (i := 7) rfl)) rfl
theorem wd_82 : Cond.initialized RX6 ∈ wz := wz_in (tc_1 (List.mem_of_getElem? (i := 8) rfl)) rfl
theorem wd_83 : Cond.initialized RX2 ∈ wz := wz_in (tc_1 (List.mem_of_getElem? (i := 9) rfl)) rfl
theorem wd_84 : Cond.initialized RX8 ∈ wz := wz_in (tc_1 (List.mem_of_getElem? (i := 10) rfl)) rfl
theorem wd_85 : Cond.initialized RJ6 ∈ wz := wz_in (tc_1 (List.mem_of_getElem? (i := 11) rfl)) rfl
theorem wd_86 : Cond.initialized RJ10 ∈ wz := wz_in (tc_1 (List.mem_of_getElem? (i := 12) rfl)) rfl
theorem wd_87 : Cond.initialized RJ0 ∈ wz := wz_in (tc_1 (List.mem_of_getElem? (i := 13) rfl)) rfl
theorem wd_88 : Cond.initialized RJ1 ∈ wz := wz_in (tc_1 (List.mem_of_getElem? (i := 14) rfl)) rfl
theorem wd_89 : Cond.initialized RJ3 ∈ wz := wz_in (tc_1 (List.mem_of_getElem? (i := 15) rfl)) rfl
theorem wd_90 : Cond.initialized RJ2 ∈ wz := wz_in (tc_1 (List.mem_of_getElem? (i := 16) rfl)) rfl
theorem wd_91 : Cond.classLink RL 7 RX7 ∈ wz := wz_in (tc_1 (List.mem_of_getElem? (i := 17) rfl)) rfl
theorem wd_92 : Cond.instantiable RX7 9 ∈ wz := wz_in (tc_1 (List.mem_of_getElem? (i := 18) rfl)) rfl
theorem wd_93 : Cond.methodLink RL 9 yX7_init ∈ wz := wz_in (tc_1 (List.mem_of_getElem? (i := 19) rfl)) rfl
theorem wd_94 : Cond.instanceMethod yX7_init ∈ wz := wz_in (tc_1 (List.mem_of_getElem? (i := 20) rfl)) rfl
theorem wd_95 : Cond.code yX7_init prog_1_method_1_code 2 none ∈ wz := wz_in (tc_1 (List.mem_of_getElem? (i := 21) rfl)) rfl
theorem wd_96 : Cond.methodLink RX7 1 objectInit ∈ wz := wz_in (tc_1 (List.mem_of_getElem? (i := 22) rfl)) rfl
theorem wd_97 : Cond.instanceMethod objectInit ∈ wz := wz_in (tc_1 (List.mem_of_getElem? (i := 23) rfl)) rfl
theorem wd_98 : Cond.code objectInit object_method_1_code 1 none ∈ wz := wz_in (tc_1 (List.mem_of_getElem? (i := 24) rfl)) rfl
theorem wd_99 : Cond.classLink RX7 7 RX5 ∈ wz := wz_in (tc_1 (List.mem_of_getElem? (i := 25) rfl)) rfl
theorem wd_100 : Cond.instantiable RX5 6 ∈ wz := wz_in (tc_1 (List.mem_of_getElem? (i := 26) rfl)) rfl
theorem wd_101 : Cond.methodLink RX7 9 yX5_init ∈ wz := wz_in (tc_1 (List.mem_of_getElem? (i := 27) rfl)) rfl
theorem wd_102 : Cond.instanceMethod yX5_init ∈ wz := wz_in (tc_1 (List.mem_of_getElem? (i := 28) rfl)) rfl
theorem wd_103 : Cond.code yX5_init prog_7_method_1_code 1 none ∈ wz := wz_in (tc_1 (List.mem_of_getElem? (i := 29) rfl)) rfl
theorem wd_104 : Cond.methodLink RX5 3 objectInit ∈ wz := wz_in (tc_1 (List.mem_of_getElem? (i := 30) rfl)) rfl
theorem wd_105 : Cond.classLink RX5 9 RX3 ∈ wz := wz_in (tc_1 (List.mem_of_getElem? (i := 31) rfl)) rfl
theorem wd_106 : Cond.instantiable RX3 4 ∈ wz := wz_in (tc_1 (List.mem_of_getElem? (i := 32) rfl)) rfl
theorem wd_107 : Cond.methodLink RX5 11 yX3_init ∈ wz := wz_in (tc_1 (List.mem_of_getElem? (i := 33) rfl)) rfl
theorem wd_108 : Cond.instanceMethod yX3_init ∈ wz := wz_in (tc_1 (List.mem_of_getElem? (i := 34) rfl)) rfl
theorem wd_109 : Cond.code yX3_init prog_5_method_1_code 1 none ∈ wz := wz_in (tc_1 (List.mem_of_getElem? (i := 35) rfl)) rfl
theorem wd_110 : Cond.methodLink RX3 3 objectInit ∈ wz := wz_in (tc_1 (List.mem_of_getElem? (i := 36) rfl)) rfl
theorem wd_111 : Cond.fieldLink RX3 9 "ImmunityCatching$Rule" "signs" "[I" ∈ wz := wz_in (tc_1 (List.mem_of_getElem? (i := 37) rfl)) rfl
theorem wd_112 : Cond.fieldLink RX3 15 "ImmunityCatching$Rule" "numbers" "[I" ∈ wz := wz_in (tc_1 (List.mem_of_getElem? (i := 38) rfl)) rfl
theorem wd_113 : Cond.fieldLink RX3 18 "ImmunityCatching$Rule" "pile" "[I" ∈ wz := wz_in (tc_1 (List.mem_of_getElem? (i := 39) rfl)) rfl
theorem wd_114 : Cond.fieldLink RX3 21 "ImmunityCatching$Rule" "size" "I" ∈ wz := wz_in (tc_1 (List.mem_of_getElem? (i := 40) rfl)) rfl
theorem wd_124 : Cond.arrayClass .int ∈ wz := wz_in (tc_1 (List.mem_of_getElem? (i := 50) rfl)) rfl
theorem wd_125 : Cond.classLink RX5 21 RX0 ∈ wz := wz_in (tc_1 (List.mem_of_getElem? (i := 51) rfl)) rfl
theorem wd_126 : Cond.instantiable RX0 13 ∈ wz := wz_in (tc_1 (List.mem_of_getElem? (i := 52) rfl)) rfl
theorem wd_127 : Cond.methodLink RX5 23 yX0_init ∈ wz := wz_in (tc_1 (List.mem_of_getElem? (i := 53) rfl)) rfl
theorem wd_128 : Cond.instanceMethod yX0_init ∈ wz := wz_in (tc_1 (List.mem_of_getElem? (i := 54) rfl)) rfl
theorem wd_129 : Cond.code yX0_init prog_2_method_1_code 3 none ∈ wz := wz_in (tc_1 (List.mem_of_getElem? (i := 55) rfl)) rfl
theorem wd_130 : Cond.methodLink RX0 3 objectInit ∈ wz := wz_in (tc_1 (List.mem_of_getElem? (i := 56) rfl)) rfl
theorem wd_131 : Cond.fieldLink RX0 36 "ImmunityCatching$Folk" "meeting" "LImmunityCatching$Rule;" ∈ wz := wz_in (tc_1 (List.mem_of_getElem? (i := 57) rfl)) rfl
theorem wd_132 : Cond.fieldLink RX0 40 "ImmunityCatching$Folk" "deed" "LImmunityCatching$Rule;" ∈ wz := wz_in (tc_1 (List.mem_of_getElem? (i := 58) rfl)) rfl
theorem wd_133 : Cond.fieldLink RX0 9 "ImmunityCatching$Folk" "kind" "[I" ∈ wz := wz_in (tc_1 (List.mem_of_getElem? (i := 59) rfl)) rfl
theorem wd_134 : Cond.fieldLink RX7 91 "ImmunityCatching$Folk" "kind" "[I" ∈ wz := wz_in (tc_1 (List.mem_of_getElem? (i := 60) rfl)) rfl
theorem wd_135 : Cond.fieldLink RX0 15 "ImmunityCatching$Folk" "m" "[I" ∈ wz := wz_in (tc_1 (List.mem_of_getElem? (i := 61) rfl)) rfl
theorem wd_136 : Cond.fieldLink RX7 94 "ImmunityCatching$Folk" "m" "[I" ∈ wz := wz_in (tc_1 (List.mem_of_getElem? (i := 62) rfl)) rfl
theorem wd_137 : Cond.fieldLink RX0 18 "ImmunityCatching$Folk" "at" "[I" ∈ wz := wz_in (tc_1 (List.mem_of_getElem? (i := 63) rfl)) rfl
theorem wd_138 : Cond.fieldLink RX7 97 "ImmunityCatching$Folk" "at" "[I" ∈ wz := wz_in (tc_1 (List.mem_of_getElem? (i := 64) rfl)) rfl
theorem wd_139 : Cond.fieldLink RX5 63 "ImmunityCatching$Folk" "at" "[I" ∈ wz := wz_in (tc_1 (List.mem_of_getElem? (i := 65) rfl)) rfl
theorem wd_140 : Cond.fieldLink RX0 21 "ImmunityCatching$Folk" "free" "[I" ∈ wz := wz_in (tc_1 (List.mem_of_getElem? (i := 66) rfl)) rfl
theorem wd_141 : Cond.fieldLink RX7 100 "ImmunityCatching$Folk" "free" "[I" ∈ wz := wz_in (tc_1 (List.mem_of_getElem? (i := 67) rfl)) rfl
theorem wd_142 : Cond.fieldLink RX0 24 "ImmunityCatching$Folk" "gloved" "[I" ∈ wz := wz_in (tc_1 (List.mem_of_getElem? (i := 68) rfl)) rfl
theorem wd_143 : Cond.fieldLink RX7 103 "ImmunityCatching$Folk" "gloved" "[I" ∈ wz := wz_in (tc_1 (List.mem_of_getElem? (i := 69) rfl)) rfl
theorem wd_144 : Cond.fieldLink RX0 27 "ImmunityCatching$Folk" "deeds" "[I" ∈ wz := wz_in (tc_1 (List.mem_of_getElem? (i := 70) rfl)) rfl
theorem wd_145 : Cond.fieldLink RX7 106 "ImmunityCatching$Folk" "deeds" "[I" ∈ wz := wz_in (tc_1 (List.mem_of_getElem? (i := 71) rfl)) rfl
theorem wd_146 : Cond.fieldLink RX0 30 "ImmunityCatching$Folk" "handed" "[I" ∈ wz := wz_in (tc_1 (List.mem_of_getElem? (i := 72) rfl)) rfl
theorem wd_147 : Cond.fieldLink RX0 33 "ImmunityCatching$Folk" "crowd" "[I" ∈ wz := wz_in (tc_1 (List.mem_of_getElem? (i := 73) rfl)) rfl
theorem wd_148 : Cond.fieldLink RX0 43 "ImmunityCatching$Folk" "size" "I" ∈ wz := wz_in (tc_1 (List.mem_of_getElem? (i := 74) rfl)) rfl
theorem wd_149 : Cond.fieldLink RX7 81 "ImmunityCatching$Folk" "size" "I" ∈ wz := wz_in (tc_1 (List.mem_of_getElem? (i := 75) rfl)) rfl
theorem wd_150 : Cond.fieldLink RX5 56 "ImmunityCatching$Folk" "size" "I" ∈ wz := wz_in (tc_1 (List.mem_of_getElem? (i := 76) rfl)) rfl
theorem wd_151 : Cond.fieldLink RX0 47 "ImmunityCatching$Folk" "step" "I" ∈ wz := wz_in (tc_1 (List.mem_of_getElem? (i := 77) rfl)) rfl
theorem wd_152 : Cond.fieldLink RX7 193 "ImmunityCatching$Folk" "step" "I" ∈ wz := wz_in (tc_1 (List.mem_of_getElem? (i := 78) rfl)) rfl
theorem wd_153 : Cond.fieldLink RX0 50 "ImmunityCatching$Folk" "loss" "I" ∈ wz := wz_in (tc_1 (List.mem_of_getElem? (i := 79) rfl)) rfl
theorem wd_154 : Cond.fieldLink RX7 134 "ImmunityCatching$Folk" "loss" "I" ∈ wz := wz_in (tc_1 (List.mem_of_getElem? (i := 80) rfl)) rfl
theorem wd_182 : Cond.classLink RX5 30 RX4 ∈ wz := wz_in (tc_1 (List.mem_of_getElem? (i := 108) rfl)) rfl
theorem wd_183 : Cond.instantiable RX4 2 ∈ wz := wz_in (tc_1 (List.mem_of_getElem? (i := 109) rfl)) rfl
theorem wd_184 : Cond.methodLink RX5 32 yX4_init ∈ wz := wz_in (tc_1 (List.mem_of_getElem? (i := 110) rfl)) rfl
theorem wd_185 : Cond.instanceMethod yX4_init ∈ wz := wz_in (tc_1 (List.mem_of_getElem? (i := 111) rfl)) rfl
theorem wd_186 : Cond.code yX4_init prog_6_method_1_code 2 none ∈ wz := wz_in (tc_1 (List.mem_of_getElem? (i := 112) rfl)) rfl
theorem wd_187 : Cond.methodLink RX4 1 objectInit ∈ wz := wz_in (tc_1 (List.mem_of_getElem? (i := 113) rfl)) rfl
theorem wd_188 : Cond.methodLink RX4 7 yJ9_max_7cf53 ∈ wz := wz_in (tc_1 (List.mem_of_getElem? (i := 114) rfl)) rfl
theorem wd_189 : Cond.static yJ9_max_7cf53 ∈ wz := wz_in (tc_1 (List.mem_of_getElem? (i := 115) rfl)) rfl
theorem wd_190 : Cond.code yJ9_max_7cf53 prog_12_method_65_code 2 (some .int) ∈ wz := wz_in (tc_1 (List.mem_of_getElem? (i := 116) rfl)) rfl
theorem wd_191 : Cond.fieldLink RX4 13 "ImmunityCatching$Shelf" "items" "[I" ∈ wz := wz_in (tc_1 (List.mem_of_getElem? (i := 117) rfl)) rfl
theorem wd_192 : Cond.fieldLink RX1 48 "ImmunityCatching$Shelf" "items" "[I" ∈ wz := wz_in (tc_1 (List.mem_of_getElem? (i := 118) rfl)) rfl
theorem wd_193 : Cond.fieldLink RX7 262 "ImmunityCatching$Shelf" "items" "[I" ∈ wz := wz_in (tc_1 (List.mem_of_getElem? (i := 119) rfl)) rfl
theorem wd_194 : Cond.fieldLink RX4 19 "ImmunityCatching$Shelf" "size" "I" ∈ wz := wz_in (tc_1 (List.mem_of_getElem? (i := 120) rfl)) rfl
theorem wd_195 : Cond.fieldLink RX1 45 "ImmunityCatching$Shelf" "size" "I" ∈ wz := wz_in (tc_1 (List.mem_of_getElem? (i := 121) rfl)) rfl
theorem wd_196 : Cond.fieldLink RX7 156 "ImmunityCatching$Shelf" "size" "I" ∈ wz := wz_in (tc_1 (List.mem_of_getElem? (i := 122) rfl)) rfl
theorem wd_202 : Cond.fieldLink RX5 12 "ImmunityCatching$Town" "meeting" "LImmunityCatching$Rule;" ∈ wz := wz_in (tc_1 (List.mem_of_getElem? (i := 128) rfl)) rfl
theorem wd_203 : Cond.fieldLink RX7 21 "ImmunityCatching$Town" "meeting" "LImmunityCatching$Rule;" ∈ wz := wz_in (tc_1 (List.mem_of_getElem? (i := 129) rfl)) rfl
theorem wd_204 : Cond.fieldLink RX5 18 "ImmunityCatching$Town" "deed" "LImmunityCatching$Rule;" ∈ wz := wz_in (tc_1 (List.mem_of_getElem? (i := 130) rfl)) rfl
theorem wd_205 : Cond.fieldLink RX7 25 "ImmunityCatching$Town" "deed" "LImmunityCatching$Rule;" ∈ wz := wz_in (tc_1 (List.mem_of_getElem? (i := 131) rfl)) rfl
theorem wd_206 : Cond.fieldLink RX5 26 "ImmunityCatching$Town" "folk" "LImmunityCatching$Folk;" ∈ wz := wz_in (tc_1 (List.mem_of_getElem? (i := 132) rfl)) rfl
theorem wd_207 : Cond.fieldLink RX7 78 "ImmunityCatching$Town" "folk" "LImmunityCatching$Folk;" ∈ wz := wz_in (tc_1 (List.mem_of_getElem? (i := 133) rfl)) rfl
theorem wd_208 : Cond.fieldLink RX5 35 "ImmunityCatching$Town" "tape" "LImmunityCatching$Shelf;" ∈ wz := wz_in (tc_1 (List.mem_of_getElem? (i := 134) rfl)) rfl
theorem wd_209 : Cond.fieldLink RX7 152 "ImmunityCatching$Town" "tape" "LImmunityCatching$Shelf;" ∈ wz := wz_in (tc_1 (List.mem_of_getElem? (i := 135) rfl)) rfl
theorem wd_210 : Cond.fieldLink RX5 39 "ImmunityCatching$Town" "waiting" "LImmunityCatching$Shelf;" ∈ wz := wz_in (tc_1 (List.mem_of_getElem? (i := 136) rfl)) rfl
theorem wd_211 : Cond.fieldLink RX7 291 "ImmunityCatching$Town" "waiting" "LImmunityCatching$Shelf;" ∈ wz := wz_in (tc_1 (List.mem_of_getElem? (i := 137) rfl)) rfl
theorem wd_212 : Cond.fieldLink RX5 42 "ImmunityCatching$Town" "z" "I" ∈ wz := wz_in (tc_1 (List.mem_of_getElem? (i := 138) rfl)) rfl
theorem wd_213 : Cond.fieldLink RX7 252 "ImmunityCatching$Town" "z" "I" ∈ wz := wz_in (tc_1 (List.mem_of_getElem? (i := 139) rfl)) rfl
theorem wd_227 : Cond.classLink RX7 19 RX0 ∈ wz := wz_in (tc_1 (List.mem_of_getElem? (i := 153) rfl)) rfl
theorem wd_228 : Cond.methodLink RX7 28 yX0_init ∈ wz := wz_in (tc_1 (List.mem_of_getElem? (i := 154) rfl)) rfl
theorem wd_229 : Cond.classLink RX7 35 RX1 ∈ wz := wz_in (tc_1 (List.mem_of_getElem? (i := 155) rfl)) rfl
theorem wd_230 : Cond.instantiable RX1 4 ∈ wz := wz_in (tc_1 (List.mem_of_getElem? (i := 156) rfl)) rfl
theorem wd_231 : Cond.methodLink RX7 37 yX1_init ∈ wz := wz_in (tc_1 (List.mem_of_getElem? (i := 157) rfl)) rfl
theorem wd_232 : Cond.instanceMethod yX1_init ∈ wz := wz_in (tc_1 (List.mem_of_getElem? (i := 158) rfl)) rfl
theorem wd_233 : Cond.code yX1_init prog_3_method_1_code 1 none ∈ wz := wz_in (tc_1 (List.mem_of_getElem? (i := 159) rfl)) rfl
theorem wd_234 : Cond.methodLink RX1 3 objectInit ∈ wz := wz_in (tc_1 (List.mem_of_getElem? (i := 160) rfl)) rfl
theorem wd_235 : Cond.classLink RX1 9 RX3 ∈ wz := wz_in (tc_1 (List.mem_of_getElem? (i := 161) rfl)) rfl
theorem wd_236 : Cond.methodLink RX1 11 yX3_init ∈ wz := wz_in (tc_1 (List.mem_of_getElem? (i := 162) rfl)) rfl
theorem wd_237 : Cond.classLink RX1 18 RX4 ∈ wz := wz_in (tc_1 (List.mem_of_getElem? (i := 163) rfl)) rfl
theorem wd_238 : Cond.methodLink RX1 20 yX4_init ∈ wz := wz_in (tc_1 (List.mem_of_getElem? (i := 164) rfl)) rfl
theorem wd_239 : Cond.fieldLink RX1 12 "ImmunityCatching$Reader" "rule" "LImmunityCatching$Rule;" ∈ wz := wz_in (tc_1 (List.mem_of_getElem? (i := 165) rfl)) rfl
theorem wd_240 : Cond.fieldLink RX7 177 "ImmunityCatching$Reader" "rule" "LImmunityCatching$Rule;" ∈ wz := wz_in (tc_1 (List.mem_of_getElem? (i := 166) rfl)) rfl
theorem wd_241 : Cond.fieldLink RX1 23 "ImmunityCatching$Reader" "bytes" "LImmunityCatching$Shelf;" ∈ wz := wz_in (tc_1 (List.mem_of_getElem? (i := 167) rfl)) rfl
theorem wd_242 : Cond.fieldLink RX1 27 "ImmunityCatching$Reader" "firstName" "I" ∈ wz := wz_in (tc_1 (List.mem_of_getElem? (i := 168) rfl)) rfl
theorem wd_243 : Cond.fieldLink RX1 31 "ImmunityCatching$Reader" "place" "I" ∈ wz := wz_in (tc_1 (List.mem_of_getElem? (i := 169) rfl)) rfl
theorem wd_253 : Cond.classLink RX7 42 RX6 ∈ wz := wz_in (tc_1 (List.mem_of_getElem? (i := 179) rfl)) rfl
theorem wd_254 : Cond.instantiable RX6 4 ∈ wz := wz_in (tc_1 (List.mem_of_getElem? (i := 180) rfl)) rfl
theorem wd_255 : Cond.methodLink RX7 44 yX6_init ∈ wz := wz_in (tc_1 (List.mem_of_getElem? (i := 181) rfl)) rfl
theorem wd_256 : Cond.instanceMethod yX6_init ∈ wz := wz_in (tc_1 (List.mem_of_getElem? (i := 182) rfl)) rfl
theorem wd_257 : Cond.code yX6_init prog_8_method_1_code 1 none ∈ wz := wz_in (tc_1 (List.mem_of_getElem? (i := 183) rfl)) rfl
theorem wd_258 : Cond.methodLink RX6 3 objectInit ∈ wz := wz_in (tc_1 (List.mem_of_getElem? (i := 184) rfl)) rfl
theorem wd_259 : Cond.classLink RX6 9 RX4 ∈ wz := wz_in (tc_1 (List.mem_of_getElem? (i := 185) rfl)) rfl
theorem wd_260 : Cond.methodLink RX6 11 yX4_init ∈ wz := wz_in (tc_1 (List.mem_of_getElem? (i := 186) rfl)) rfl
theorem wd_261 : Cond.fieldLink RX6 14 "ImmunityCatching$Voices" "begun" "LImmunityCatching$Shelf;" ∈ wz := wz_in (tc_1 (List.mem_of_getElem? (i := 187) rfl)) rfl
theorem wd_262 : Cond.fieldLink RX7 259 "ImmunityCatching$Voices" "begun" "LImmunityCatching$Shelf;" ∈ wz := wz_in (tc_1 (List.mem_of_getElem? (i := 188) rfl)) rfl
theorem wd_263 : Cond.fieldLink RX6 20 "ImmunityCatching$Voices" "kind" "I" ∈ wz := wz_in (tc_1 (List.mem_of_getElem? (i := 189) rfl)) rfl
theorem wd_264 : Cond.fieldLink RX6 24 "ImmunityCatching$Voices" "number" "I" ∈ wz := wz_in (tc_1 (List.mem_of_getElem? (i := 190) rfl)) rfl
theorem wd_265 : Cond.fieldLink RX6 27 "ImmunityCatching$Voices" "m" "I" ∈ wz := wz_in (tc_1 (List.mem_of_getElem? (i := 191) rfl)) rfl
theorem wd_275 : Cond.classLink RX7 49 RX2 ∈ wz := wz_in (tc_1 (List.mem_of_getElem? (i := 201) rfl)) rfl
theorem wd_277 : Cond.instantiable RX2 3 ∈ wz := wz_in (tc_1 (List.mem_of_getElem? (i := 203) rfl)) rfl
theorem wd_278 : Cond.methodLink RX7 55 yX2_init ∈ wz := wz_in (tc_1 (List.mem_of_getElem? (i := 204) rfl)) rfl
theorem wd_279 : Cond.instanceMethod yX2_init ∈ wz := wz_in (tc_1 (List.mem_of_getElem? (i := 205) rfl)) rfl
theorem wd_280 : Cond.code yX2_init prog_4_method_1_code 1 none ∈ wz := wz_in (tc_1 (List.mem_of_getElem? (i := 206) rfl)) rfl
theorem wd_281 : Cond.methodLink RX2 3 objectInit ∈ wz := wz_in (tc_1 (List.mem_of_getElem? (i := 207) rfl)) rfl
theorem wd_282 : Cond.fieldLink RX2 9 "ImmunityCatching$Row" "numbers" "[I" ∈ wz := wz_in (tc_1 (List.mem_of_getElem? (i := 208) rfl)) rfl
theorem wd_283 : Cond.fieldLink RX7 229 "ImmunityCatching$Row" "numbers" "[I" ∈ wz := wz_in (tc_1 (List.mem_of_getElem? (i := 209) rfl)) rfl
theorem wd_284 : Cond.fieldLink RX2 15 "ImmunityCatching$Row" "bits" "I" ∈ wz := wz_in (tc_1 (List.mem_of_getElem? (i := 210) rfl)) rfl
theorem wd_285 : Cond.fieldLink RX7 271 "ImmunityCatching$Row" "bits" "I" ∈ wz := wz_in (tc_1 (List.mem_of_getElem? (i := 211) rfl)) rfl
theorem wd_286 : Cond.fieldLink RX2 19 "ImmunityCatching$Row" "size" "I" ∈ wz := wz_in (tc_1 (List.mem_of_getElem? (i := 212) rfl)) rfl
theorem wd_287 : Cond.fieldLink RX7 228 "ImmunityCatching$Row" "size" "I" ∈ wz := wz_in (tc_1 (List.mem_of_getElem? (i := 213) rfl)) rfl
theorem wd_295 : Cond.fieldLink RX7 10 "ImmunityCatching" "now" "LImmunityCatching$Town;" ∈ wz := wz_in (tc_1 (List.mem_of_getElem? (i := 221) rfl)) rfl
theorem wd_296 : Cond.fieldLink RX7 16 "ImmunityCatching" "kept" "LImmunityCatching$Town;" ∈ wz := wz_in (tc_1 (List.mem_of_getElem? (i := 222) rfl)) rfl
theorem wd_297 : Cond.fieldLink RX7 31 "ImmunityCatching" "thought" "LImmunityCatching$Folk;" ∈ wz := wz_in (tc_1 (List.mem_of_getElem? (i := 223) rfl)) rfl
theorem wd_298 : Cond.fieldLink RX7 38 "ImmunityCatching" "reader" "LImmunityCatching$Reader;" ∈ wz := wz_in (tc_1 (List.mem_of_getElem? (i := 224) rfl)) rfl
theorem wd_299 : Cond.fieldLink RX7 45 "ImmunityCatching" "voices" "LImmunityCatching$Voices;" ∈ wz := wz_in (tc_1 (List.mem_of_getElem? (i := 225) rfl)) rfl
theorem wd_300 : Cond.fieldLink RX7 51 "ImmunityCatching" "rows" "[LImmunityCatching$Row;" ∈ wz := wz_in (tc_1 (List.mem_of_getElem? (i := 226) rfl)) rfl
theorem wd_301 : Cond.fieldLink RX7 56 "ImmunityCatching" "refused" "[I" ∈ wz := wz_in (tc_1 (List.mem_of_getElem? (i := 227) rfl)) rfl
theorem wd_302 : Cond.fieldLink RX7 60 "ImmunityCatching" "timesFree" "[I" ∈ wz := wz_in (tc_1 (List.mem_of_getElem? (i := 228) rfl)) rfl
theorem wd_303 : Cond.fieldLink RX7 63 "ImmunityCatching" "images" "I" ∈ wz := wz_in (tc_1 (List.mem_of_getElem? (i := 229) rfl)) rfl
theorem wd_323 : Cond.methodLink RL 13 yX7_soul ∈ wz := wz_in (tc_2 (List.mem_of_getElem? (i := 9) rfl)) rfl
theorem wd_324 : Cond.instanceMethod yX7_soul ∈ wz := wz_in (tc_2 (List.mem_of_getElem? (i := 10) rfl)) rfl
theorem wd_325 : Cond.selects RX7 yX7_soul yX7_soul ∈ wz := wz_in (tc_2 (List.mem_of_getElem? (i := 11) rfl)) rfl
theorem wd_326 : Cond.code yX7_soul prog_1_method_2_code 3 (some .int) ∈ wz := wz_in (tc_2 (List.mem_of_getElem? (i := 12) rfl)) rfl
theorem wd_327 : Cond.methodLink RX7 67 yX7_isKindAndNumber ∈ wz := wz_in (tc_2 (List.mem_of_getElem? (i := 13) rfl)) rfl
theorem wd_328 : Cond.static yX7_isKindAndNumber ∈ wz := wz_in (tc_2 (List.mem_of_getElem? (i := 14) rfl)) rfl
theorem wd_329 : Cond.code yX7_isKindAndNumber prog_1_method_53_code 1 (some .boolean) ∈ wz := wz_in (tc_2 (List.mem_of_getElem? (i := 15) rfl)) rfl
theorem wd_330 : Cond.methodLink RX7 126 yX7_within ∈ wz := wz_in (tc_2 (List.mem_of_getElem? (i := 16) rfl)) rfl
theorem wd_331 : Cond.static yX7_within ∈ wz := wz_in (tc_2 (List.mem_of_getElem? (i := 17) rfl)) rfl
theorem wd_332 : Cond.code yX7_within prog_1_method_50_code 3 (some .boolean) ∈ wz := wz_in (tc_2 (List.mem_of_getElem? (i := 18) rfl)) rfl
theorem wd_333 : Cond.methodLink RX7 71 yX7_isStreet ∈ wz := wz_in (tc_2 (List.mem_of_getElem? (i := 19) rfl)) rfl
theorem wd_334 : Cond.static yX7_isStreet ∈ wz := wz_in (tc_2 (List.mem_of_getElem? (i := 20) rfl)) rfl
theorem wd_335 : Cond.code yX7_isStreet prog_1_method_52_code 1 (some .boolean) ∈ wz := wz_in (tc_2 (List.mem_of_getElem? (i := 21) rfl)) rfl
theorem wd_336 : Cond.methodLink RX7 74 yX7_refuse ∈ wz := wz_in (tc_2 (List.mem_of_getElem? (i := 22) rfl)) rfl
theorem wd_338 : Cond.instanceMethod yX7_refuse ∈ wz := wz_in (tc_2 (List.mem_of_getElem? (i := 24) rfl)) rfl
theorem wd_339 : Cond.code yX7_refuse prog_1_method_40_code 2 (some .int) ∈ wz := wz_in (tc_2 (List.mem_of_getElem? (i := 25) rfl)) rfl
theorem wd_340 : Cond.constant RX7 300 (-1000000000) ∈ wz := wz_in (tc_2 (List.mem_of_getElem? (i := 26) rfl)) rfl
theorem wd_341 : Cond.methodLink RX7 84 yX0_join ∈ wz := wz_in (tc_2 (List.mem_of_getElem? (i := 27) rfl)) rfl
theorem wd_342 : Cond.instanceMethod yX0_join ∈ wz := wz_in (tc_2 (List.mem_of_getElem? (i := 28) rfl)) rfl
theorem wd_343 : Cond.selects RX0 yX0_join yX0_join ∈ wz := wz_in (tc_2 (List.mem_of_getElem? (i := 29) rfl)) rfl
theorem wd_344 : Cond.code yX0_join prog_2_method_3_code 4 (some .int) ∈ wz := wz_in (tc_2 (List.mem_of_getElem? (i := 30) rfl)) rfl
theorem wd_345 : Cond.methodLink RX0 59 yX0_turnInto ∈ wz := wz_in (tc_2 (List.mem_of_getElem? (i := 31) rfl)) rfl
theorem wd_346 : Cond.instanceMethod yX0_turnInto ∈ wz := wz_in (tc_2 (List.mem_of_getElem? (i := 32) rfl)) rfl
theorem wd_347 : Cond.selects RX0 yX0_turnInto yX0_turnInto ∈ wz := wz_in (tc_2 (List.mem_of_getElem? (i := 33) rfl)) rfl
theorem wd_348 : Cond.code yX0_turnInto prog_2_method_4_code 3 none ∈ wz := wz_in (tc_2 (List.mem_of_getElem? (i := 34) rfl)) rfl
theorem wd_349 : Cond.methodLink RL 18 yX7_ofSoul ∈ wz := wz_in (tc_2 (List.mem_of_getElem? (i := 35) rfl)) rfl
theorem wd_350 : Cond.instanceMethod yX7_ofSoul ∈ wz := wz_in (tc_2 (List.mem_of_getElem? (i := 36) rfl)) rfl
theorem wd_351 : Cond.selects RX7 yX7_ofSoul yX7_ofSoul ∈ wz := wz_in (tc_2 (List.mem_of_getElem? (i := 37) rfl)) rfl
theorem wd_352 : Cond.code yX7_ofSoul prog_1_method_3_code 4 (some .int) ∈ wz := wz_in (tc_2 (List.mem_of_getElem? (i := 38) rfl)) rfl
theorem wd_353 : Cond.methodLink RX7 88 yX7_isSoul ∈ wz := wz_in (tc_2 (List.mem_of_getElem? (i := 39) rfl)) rfl
theorem wd_355 : Cond.instanceMethod yX7_isSoul ∈ wz := wz_in (tc_2 (List.mem_of_getElem? (i := 41) rfl)) rfl
theorem wd_356 : Cond.code yX7_isSoul prog_1_method_42_code 2 (some .boolean) ∈ wz := wz_in (tc_2 (List.mem_of_getElem? (i := 42) rfl)) rfl
theorem wd_357 : Cond.methodLink RX7 109 yX0_keepsOf ∈ wz := wz_in (tc_2 (List.mem_of_getElem? (i := 43) rfl)) rfl
theorem wd_358 : Cond.instanceMethod yX0_keepsOf ∈ wz := wz_in (tc_2 (List.mem_of_getElem? (i := 44) rfl)) rfl
theorem wd_359 : Cond.selects RX0 yX0_keepsOf yX0_keepsOf ∈ wz := wz_in (tc_2 (List.mem_of_getElem? (i := 45) rfl)) rfl
theorem wd_360 : Cond.code yX0_keepsOf prog_2_method_5_code 3 (some .int) ∈ wz := wz_in (tc_2 (List.mem_of_getElem? (i := 46) rfl)) rfl
theorem wd_362 : Cond.static yX7_isUnder ∈ wz := wz_in (tc_2 (List.mem_of_getElem? (i := 48) rfl)) rfl
theorem wd_363 : Cond.code yX7_isUnder prog_1_method_56_code 4 (some .boolean) ∈ wz := wz_in (tc_2 (List.mem_of_getElem? (i := 49) rfl)) rfl
theorem wd_364 : Cond.fieldLink RX7 313 "ImmunityCatching" "KIND_ABOVE" "[I" ∈ wz := wz_in (tc_2 (List.mem_of_getElem? (i := 50) rfl)) rfl
theorem wd_366 : Cond.methodLink RX7 112 yX0_handsOf ∈ wz := wz_in (tc_2 (List.mem_of_getElem? (i := 52) rfl)) rfl
theorem wd_367 : Cond.instanceMethod yX0_handsOf ∈ wz := wz_in (tc_2 (List.mem_of_getElem? (i := 53) rfl)) rfl
theorem wd_368 : Cond.selects RX0 yX0_handsOf yX0_handsOf ∈ wz := wz_in (tc_2 (List.mem_of_getElem? (i := 54) rfl)) rfl
theorem wd_369 : Cond.code yX0_handsOf prog_2_method_6_code 3 (some .int) ∈ wz := wz_in (tc_2 (List.mem_of_getElem? (i := 55) rfl)) rfl
theorem wd_371 : Cond.static yX7_held ∈ wz := wz_in (tc_2 (List.mem_of_getElem? (i := 57) rfl)) rfl
theorem wd_372 : Cond.code yX7_held prog_1_method_51_code 3 (some .int) ∈ wz := wz_in (tc_2 (List.mem_of_getElem? (i := 58) rfl)) rfl
theorem wd_373 : Cond.methodLink RX7 283 yJ9_min_7cf53 ∈ wz := wz_in (tc_2 (List.mem_of_getElem? (i := 59) rfl)) rfl
theorem wd_374 : Cond.static yJ9_min_7cf53 ∈ wz := wz_in (tc_2 (List.mem_of_getElem? (i := 60) rfl)) rfl
theorem wd_375 : Cond.code yJ9_min_7cf53 prog_12_method_69_code 2 (some .int) ∈ wz := wz_in (tc_2 (List.mem_of_getElem? (i := 61) rfl)) rfl
theorem wd_376 : Cond.methodLink RX7 310 yJ9_max_7cf53 ∈ wz := wz_in (tc_2 (List.mem_of_getElem? (i := 62) rfl)) rfl
theorem wd_377 : Cond.methodLink RX0 71 yJ9_min_7cf53 ∈ wz := wz_in (tc_2 (List.mem_of_getElem? (i := 63) rfl)) rfl
theorem wd_378 : Cond.methodLink RX7 115 yX0_runsOf ∈ wz := wz_in (tc_2 (List.mem_of_getElem? (i := 64) rfl)) rfl
theorem wd_379 : Cond.instanceMethod yX0_runsOf ∈ wz := wz_in (tc_2 (List.mem_of_getElem? (i := 65) rfl)) rfl
theorem wd_380 : Cond.selects RX0 yX0_runsOf yX0_runsOf ∈ wz := wz_in (tc_2 (List.mem_of_getElem? (i := 66) rfl)) rfl
theorem wd_381 : Cond.code yX0_runsOf prog_2_method_7_code 2 (some .int) ∈ wz := wz_in (tc_2 (List.mem_of_getElem? (i := 67) rfl)) rfl
theorem wd_382 : Cond.methodLink RL 22 yX7_change ∈ wz := wz_in (tc_2 (List.mem_of_getElem? (i := 68) rfl)) rfl
theorem wd_383 : Cond.instanceMethod yX7_change ∈ wz := wz_in (tc_2 (List.mem_of_getElem? (i := 69) rfl)) rfl
theorem wd_384 : Cond.selects RX7 yX7_change yX7_change ∈ wz := wz_in (tc_2 (List.mem_of_getElem? (i := 70) rfl)) rfl
theorem wd_385 : Cond.code yX7_change prog_1_method_4_code 5 (some .int) ∈ wz := wz_in (tc_2 (List.mem_of_getElem? (i := 71) rfl)) rfl
theorem wd_386 : Cond.methodLink RX7 118 yX7_replace ∈ wz := wz_in (tc_2 (List.mem_of_getElem? (i := 72) rfl)) rfl
theorem wd_388 : Cond.instanceMethod yX7_replace ∈ wz := wz_in (tc_2 (List.mem_of_getElem? (i := 74) rfl)) rfl
theorem wd_389 : Cond.code yX7_replace prog_1_method_41_code 6 (some .int) ∈ wz := wz_in (tc_2 (List.mem_of_getElem? (i := 75) rfl)) rfl
theorem wd_390 : Cond.methodLink RL 27 yX7_become ∈ wz := wz_in (tc_2 (List.mem_of_getElem? (i := 76) rfl)) rfl
theorem wd_391 : Cond.instanceMethod yX7_become ∈ wz := wz_in (tc_2 (List.mem_of_getElem? (i := 77) rfl)) rfl
theorem wd_392 : Cond.selects RX7 yX7_become yX7_become ∈ wz := wz_in (tc_2 (List.mem_of_getElem? (i := 78) rfl)) rfl
theorem wd_393 : Cond.code yX7_become prog_1_method_5_code 4 (some .int) ∈ wz := wz_in (tc_2 (List.mem_of_getElem? (i := 79) rfl)) rfl
theorem wd_394 : Cond.methodLink RX7 122 yX0_turnInto ∈ wz := wz_in (tc_2 (List.mem_of_getElem? (i := 80) rfl)) rfl
theorem wd_395 : Cond.methodLink RL 31 yX7_as ∈ wz := wz_in (tc_2 (List.mem_of_getElem? (i := 81) rfl)) rfl
theorem wd_396 : Cond.instanceMethod yX7_as ∈ wz := wz_in (tc_2 (List.mem_of_getElem? (i := 82) rfl)) rfl
theorem wd_397 : Cond.selects RX7 yX7_as yX7_as ∈ wz := wz_in (tc_2 (List.mem_of_getElem? (i := 83) rfl)) rfl
theorem wd_398 : Cond.code yX7_as prog_1_method_6_code 3 (some .int) ∈ wz := wz_in (tc_2 (List.mem_of_getElem? (i := 84) rfl)) rfl
theorem wd_399 : Cond.methodLink RX7 130 yX7_isUnder ∈ wz := wz_in (tc_2 (List.mem_of_getElem? (i := 85) rfl)) rfl
theorem wd_400 : Cond.methodLink RL 35 yX7_loss ∈ wz := wz_in (tc_2 (List.mem_of_getElem? (i := 86) rfl)) rfl
theorem wd_401 : Cond.instanceMethod yX7_loss ∈ wz := wz_in (tc_2 (List.mem_of_getElem? (i := 87) rfl)) rfl
theorem wd_402 : Cond.selects RX7 yX7_loss yX7_loss ∈ wz := wz_in (tc_2 (List.mem_of_getElem? (i := 88) rfl)) rfl
theorem wd_403 : Cond.code yX7_loss prog_1_method_7_code 3 (some .int) ∈ wz := wz_in (tc_2 (List.mem_of_getElem? (i := 89) rfl)) rfl
theorem wd_404 : Cond.methodLink RL 40 yX7_street ∈ wz := wz_in (tc_2 (List.mem_of_getElem? (i := 90) rfl)) rfl
theorem wd_405 : Cond.instanceMethod yX7_street ∈ wz := wz_in (tc_2 (List.mem_of_getElem? (i := 91) rfl)) rfl
theorem wd_406 : Cond.selects RX7 yX7_street yX7_street ∈ wz := wz_in (tc_2 (List.mem_of_getElem? (i := 92) rfl)) rfl
theorem wd_407 : Cond.code yX7_street prog_1_method_8_code 3 (some .int) ∈ wz := wz_in (tc_2 (List.mem_of_getElem? (i := 93) rfl)) rfl
theorem wd_408 : Cond.methodLink RX7 137 yX7_isEither ∈ wz := wz_in (tc_2 (List.mem_of_getElem? (i := 94) rfl)) rfl
theorem wd_409 : Cond.static yX7_isEither ∈ wz := wz_in (tc_2 (List.mem_of_getElem? (i := 95) rfl)) rfl
theorem wd_410 : Cond.code yX7_isEither prog_1_method_55_code 1 (some .boolean) ∈ wz := wz_in (tc_2 (List.mem_of_getElem? (i := 96) rfl)) rfl
theorem wd_411 : Cond.methodLink RX7 140 yX0_whoAt ∈ wz := wz_in (tc_2 (List.mem_of_getElem? (i := 97) rfl)) rfl
theorem wd_412 : Cond.instanceMethod yX0_whoAt ∈ wz := wz_in (tc_2 (List.mem_of_getElem? (i := 98) rfl)) rfl
theorem wd_413 : Cond.selects RX0 yX0_whoAt yX0_whoAt ∈ wz := wz_in (tc_2 (List.mem_of_getElem? (i := 99) rfl)) rfl
theorem wd_414 : Cond.code yX0_whoAt prog_2_method_12_code 4 (some .int) ∈ wz := wz_in (tc_2 (List.mem_of_getElem? (i := 100) rfl)) rfl
theorem wd_415 : Cond.methodLink RX7 143 yX0_whoFreeAt ∈ wz := wz_in (tc_2 (List.mem_of_getElem? (i := 101) rfl)) rfl
theorem wd_416 : Cond.instanceMethod yX0_whoFreeAt ∈ wz := wz_in (tc_2 (List.mem_of_getElem? (i := 102) rfl)) rfl
theorem wd_417 : Cond.selects RX0 yX0_whoFreeAt yX0_whoFreeAt ∈ wz := wz_in (tc_2 (List.mem_of_getElem? (i := 103) rfl)) rfl
theorem wd_418 : Cond.code yX0_whoFreeAt prog_2_method_13_code 4 (some .int) ∈ wz := wz_in (tc_2 (List.mem_of_getElem? (i := 104) rfl)) rfl
theorem wd_419 : Cond.methodLink RL 44 yX7_meet ∈ wz := wz_in (tc_2 (List.mem_of_getElem? (i := 105) rfl)) rfl
theorem wd_420 : Cond.instanceMethod yX7_meet ∈ wz := wz_in (tc_2 (List.mem_of_getElem? (i := 106) rfl)) rfl
theorem wd_421 : Cond.selects RX7 yX7_meet yX7_meet ∈ wz := wz_in (tc_2 (List.mem_of_getElem? (i := 107) rfl)) rfl
theorem wd_422 : Cond.code yX7_meet prog_1_method_9_code 3 (some .int) ∈ wz := wz_in (tc_2 (List.mem_of_getElem? (i := 108) rfl)) rfl
theorem wd_423 : Cond.methodLink RX7 146 yX0_canTouch ∈ wz := wz_in (tc_2 (List.mem_of_getElem? (i := 109) rfl)) rfl
theorem wd_424 : Cond.instanceMethod yX0_canTouch ∈ wz := wz_in (tc_2 (List.mem_of_getElem? (i := 110) rfl)) rfl
theorem wd_425 : Cond.selects RX0 yX0_canTouch yX0_canTouch ∈ wz := wz_in (tc_2 (List.mem_of_getElem? (i := 111) rfl)) rfl
theorem wd_426 : Cond.code yX0_canTouch prog_2_method_10_code 3 (some .boolean) ∈ wz := wz_in (tc_2 (List.mem_of_getElem? (i := 112) rfl)) rfl
theorem wd_427 : Cond.methodLink RX7 149 yX0_handsOnAt ∈ wz := wz_in (tc_2 (List.mem_of_getElem? (i := 113) rfl)) rfl
theorem wd_428 : Cond.instanceMethod yX0_handsOnAt ∈ wz := wz_in (tc_2 (List.mem_of_getElem? (i := 114) rfl)) rfl
theorem wd_429 : Cond.selects RX0 yX0_handsOnAt yX0_handsOnAt ∈ wz := wz_in (tc_2 (List.mem_of_getElem? (i := 115) rfl)) rfl
theorem wd_430 : Cond.code yX0_handsOnAt prog_2_method_11_code 2 (some .boolean) ∈ wz := wz_in (tc_2 (List.mem_of_getElem? (i := 116) rfl)) rfl
theorem wd_431 : Cond.methodLink RX0 86 yX0_howManyAt ∈ wz := wz_in (tc_2 (List.mem_of_getElem? (i := 117) rfl)) rfl
theorem wd_432 : Cond.instanceMethod yX0_howManyAt ∈ wz := wz_in (tc_2 (List.mem_of_getElem? (i := 118) rfl)) rfl
theorem wd_433 : Cond.selects RX0 yX0_howManyAt yX0_howManyAt ∈ wz := wz_in (tc_2 (List.mem_of_getElem? (i := 119) rfl)) rfl
theorem wd_434 : Cond.code yX0_howManyAt prog_2_method_15_code 2 (some .int) ∈ wz := wz_in (tc_2 (List.mem_of_getElem? (i := 120) rfl)) rfl
theorem wd_435 : Cond.methodLink RX0 93 yX0_whoAt ∈ wz := wz_in (tc_2 (List.mem_of_getElem? (i := 121) rfl)) rfl
theorem wd_436 : Cond.methodLink RX0 96 yJ6_bitCount_0f7a4 ∈ wz := wz_in (tc_2 (List.mem_of_getElem? (i := 122) rfl)) rfl
theorem wd_437 : Cond.static yJ6_bitCount_0f7a4 ∈ wz := wz_in (tc_2 (List.mem_of_getElem? (i := 123) rfl)) rfl
theorem wd_438 : Cond.code yJ6_bitCount_0f7a4 prog_11_method_49_code 1 (some .int) ∈ wz := wz_in (tc_2 (List.mem_of_getElem? (i := 124) rfl)) rfl
theorem wd_439 : Cond.constant RJ6 265 1431655765 ∈ wz := wz_in (tc_2 (List.mem_of_getElem? (i := 125) rfl)) rfl
theorem wd_440 : Cond.constant RJ6 266 858993459 ∈ wz := wz_in (tc_2 (List.mem_of_getElem? (i := 126) rfl)) rfl
theorem wd_441 : Cond.constant RJ6 267 252645135 ∈ wz := wz_in (tc_2 (List.mem_of_getElem? (i := 127) rfl)) rfl
theorem wd_442 : Cond.methodLink RX0 90 yX0_meets ∈ wz := wz_in (tc_2 (List.mem_of_getElem? (i := 128) rfl)) rfl
theorem wd_443 : Cond.instanceMethod yX0_meets ∈ wz := wz_in (tc_2 (List.mem_of_getElem? (i := 129) rfl)) rfl
theorem wd_444 : Cond.selects RX0 yX0_meets yX0_meets ∈ wz := wz_in (tc_2 (List.mem_of_getElem? (i := 130) rfl)) rfl
theorem wd_445 : Cond.code yX0_meets prog_2_method_8_code 4 (some .int) ∈ wz := wz_in (tc_2 (List.mem_of_getElem? (i := 131) rfl)) rfl
theorem wd_446 : Cond.methodLink RX0 77 yX3_isEmpty ∈ wz := wz_in (tc_2 (List.mem_of_getElem? (i := 132) rfl)) rfl
theorem wd_447 : Cond.instanceMethod yX3_isEmpty ∈ wz := wz_in (tc_2 (List.mem_of_getElem? (i := 133) rfl)) rfl
theorem wd_448 : Cond.selects RX3 yX3_isEmpty yX3_isEmpty ∈ wz := wz_in (tc_2 (List.mem_of_getElem? (i := 134) rfl)) rfl
theorem wd_449 : Cond.code yX3_isEmpty prog_5_method_2_code 1 (some .boolean) ∈ wz := wz_in (tc_2 (List.mem_of_getElem? (i := 135) rfl)) rfl
theorem wd_450 : Cond.methodLink RX0 83 yX3_gives ∈ wz := wz_in (tc_2 (List.mem_of_getElem? (i := 136) rfl)) rfl
theorem wd_451 : Cond.instanceMethod yX3_gives ∈ wz := wz_in (tc_2 (List.mem_of_getElem? (i := 137) rfl)) rfl
theorem wd_452 : Cond.selects RX3 yX3_gives yX3_gives ∈ wz := wz_in (tc_2 (List.mem_of_getElem? (i := 138) rfl)) rfl
theorem wd_453 : Cond.code yX3_gives prog_5_method_6_code 7 (some .int) ∈ wz := wz_in (tc_2 (List.mem_of_getElem? (i := 139) rfl)) rfl
theorem wd_454 : Cond.methodLink RX3 31 yX3_single ∈ wz := wz_in (tc_2 (List.mem_of_getElem? (i := 140) rfl)) rfl
theorem wd_455 : Cond.static yX3_single ∈ wz := wz_in (tc_2 (List.mem_of_getElem? (i := 141) rfl)) rfl
theorem wd_456 : Cond.code yX3_single prog_5_method_7_code 5 (some .int) ∈ wz := wz_in (tc_2 (List.mem_of_getElem? (i := 142) rfl)) rfl
theorem wd_457 : Cond.methodLink RX3 35 yX3_joined ∈ wz := wz_in (tc_2 (List.mem_of_getElem? (i := 143) rfl)) rfl
theorem wd_458 : Cond.static yX3_joined ∈ wz := wz_in (tc_2 (List.mem_of_getElem? (i := 144) rfl)) rfl
theorem wd_459 : Cond.code yX3_joined prog_5_method_8_code 3 (some .int) ∈ wz := wz_in (tc_2 (List.mem_of_getElem? (i := 145) rfl)) rfl
theorem wd_460 : Cond.methodLink RL 50 yX7_feed ∈ wz := wz_in (tc_2 (List.mem_of_getElem? (i := 146) rfl)) rfl
theorem wd_461 : Cond.instanceMethod yX7_feed ∈ wz := wz_in (tc_2 (List.mem_of_getElem? (i := 147) rfl)) rfl
theorem wd_462 : Cond.selects RX7 yX7_feed yX7_feed ∈ wz := wz_in (tc_2 (List.mem_of_getElem? (i := 148) rfl)) rfl
theorem wd_463 : Cond.code yX7_feed prog_1_method_10_code 5 (some .int) ∈ wz := wz_in (tc_2 (List.mem_of_getElem? (i := 149) rfl)) rfl
theorem wd_464 : Cond.methodLink RX7 159 yX4_add ∈ wz := wz_in (tc_2 (List.mem_of_getElem? (i := 150) rfl)) rfl
theorem wd_465 : Cond.instanceMethod yX4_add ∈ wz := wz_in (tc_2 (List.mem_of_getElem? (i := 151) rfl)) rfl
theorem wd_466 : Cond.selects RX4 yX4_add yX4_add ∈ wz := wz_in (tc_2 (List.mem_of_getElem? (i := 152) rfl)) rfl
theorem wd_467 : Cond.code yX4_add prog_6_method_2_code 2 none ∈ wz := wz_in (tc_2 (List.mem_of_getElem? (i := 153) rfl)) rfl
theorem wd_468 : Cond.methodLink RL 55 yX7_text ∈ wz := wz_in (tc_2 (List.mem_of_getElem? (i := 154) rfl)) rfl
theorem wd_469 : Cond.instanceMethod yX7_text ∈ wz := wz_in (tc_2 (List.mem_of_getElem? (i := 155) rfl)) rfl
theorem wd_470 : Cond.selects RX7 yX7_text yX7_text ∈ wz := wz_in (tc_2 (List.mem_of_getElem? (i := 156) rfl)) rfl
theorem wd_471 : Cond.code yX7_text prog_1_method_11_code 3 (some .int) ∈ wz := wz_in (tc_2 (List.mem_of_getElem? (i := 157) rfl)) rfl
theorem wd_472 : Cond.methodLink RX7 163 yX7_isUse ∈ wz := wz_in (tc_2 (List.mem_of_getElem? (i := 158) rfl)) rfl
theorem wd_473 : Cond.static yX7_isUse ∈ wz := wz_in (tc_2 (List.mem_of_getElem? (i := 159) rfl)) rfl
theorem wd_474 : Cond.code yX7_isUse prog_1_method_54_code 1 (some .boolean) ∈ wz := wz_in (tc_2 (List.mem_of_getElem? (i := 160) rfl)) rfl
theorem wd_475 : Cond.methodLink RX7 166 yX1_read ∈ wz := wz_in (tc_2 (List.mem_of_getElem? (i := 161) rfl)) rfl
theorem wd_476 : Cond.instanceMethod yX1_read ∈ wz := wz_in (tc_2 (List.mem_of_getElem? (i := 162) rfl)) rfl
theorem wd_477 : Cond.selects RX1 yX1_read yX1_read ∈ wz := wz_in (tc_2 (List.mem_of_getElem? (i := 163) rfl)) rfl
theorem wd_478 : Cond.code yX1_read prog_3_method_2_code 3 (some .int) ∈ wz := wz_in (tc_2 (List.mem_of_getElem? (i := 164) rfl)) rfl
theorem wd_479 : Cond.methodLink RX1 34 yX4_copy ∈ wz := wz_in (tc_2 (List.mem_of_getElem? (i := 165) rfl)) rfl
theorem wd_480 : Cond.instanceMethod yX4_copy ∈ wz := wz_in (tc_2 (List.mem_of_getElem? (i := 166) rfl)) rfl
theorem wd_481 : Cond.selects RX4 yX4_copy yX4_copy ∈ wz := wz_in (tc_2 (List.mem_of_getElem? (i := 167) rfl)) rfl
theorem wd_482 : Cond.code yX4_copy prog_6_method_4_code 2 none ∈ wz := wz_in (tc_2 (List.mem_of_getElem? (i := 168) rfl)) rfl
theorem wd_483 : Cond.methodLink RX4 23 yJ9_min_7cf53 ∈ wz := wz_in (tc_2 (List.mem_of_getElem? (i := 169) rfl)) rfl
theorem wd_484 : Cond.methodLink RX4 26 arraycopyName ∈ wz := wz_in (tc_2 (List.mem_of_getElem? (i := 170) rfl)) rfl
theorem wd_485 : Cond.static arraycopyName ∈ wz := wz_in (tc_2 (List.mem_of_getElem? (i := 171) rfl)) rfl
theorem wd_486 : Cond.native arraycopyName ∈ wz := wz_in (tc_2 (List.mem_of_getElem? (i := 172) rfl)) rfl
theorem wd_487 : Cond.methodLink RX1 38 yX3_clear ∈ wz := wz_in (tc_2 (List.mem_of_getElem? (i := 173) rfl)) rfl
theorem wd_488 : Cond.instanceMethod yX3_clear ∈ wz := wz_in (tc_2 (List.mem_of_getElem? (i := 174) rfl)) rfl
theorem wd_489 : Cond.selects RX3 yX3_clear yX3_clear ∈ wz := wz_in (tc_2 (List.mem_of_getElem? (i := 175) rfl)) rfl
theorem wd_490 : Cond.code yX3_clear prog_5_method_3_code 1 none ∈ wz := wz_in (tc_2 (List.mem_of_getElem? (i := 176) rfl)) rfl
theorem wd_491 : Cond.methodLink RX1 41 yX1_readAny ∈ wz := wz_in (tc_2 (List.mem_of_getElem? (i := 177) rfl)) rfl
theorem wd_493 : Cond.instanceMethod yX1_readAny ∈ wz := wz_in (tc_2 (List.mem_of_getElem? (i := 179) rfl)) rfl
theorem wd_494 : Cond.code yX1_readAny prog_3_method_4_code 4 (some .boolean) ∈ wz := wz_in (tc_2 (List.mem_of_getElem? (i := 180) rfl)) rfl
theorem wd_495 : Cond.methodLink RX1 52 yX1_readAll ∈ wz := wz_in (tc_2 (List.mem_of_getElem? (i := 181) rfl)) rfl
theorem wd_497 : Cond.instanceMethod yX1_readAll ∈ wz := wz_in (tc_2 (List.mem_of_getElem? (i := 183) rfl)) rfl
theorem wd_498 : Cond.code yX1_readAll prog_3_method_5_code 4 (some .boolean) ∈ wz := wz_in (tc_2 (List.mem_of_getElem? (i := 184) rfl)) rfl
theorem wd_499 : Cond.methodLink RX1 63 yX1_readComparison ∈ wz := wz_in (tc_2 (List.mem_of_getElem? (i := 185) rfl)) rfl
theorem wd_501 : Cond.instanceMethod yX1_readComparison ∈ wz := wz_in (tc_2 (List.mem_of_getElem? (i := 187) rfl)) rfl
theorem wd_502 : Cond.code yX1_readComparison prog_3_method_6_code 4 (some .boolean) ∈ wz := wz_in (tc_2 (List.mem_of_getElem? (i := 188) rfl)) rfl
theorem wd_503 : Cond.methodLink RX1 66 yX1_readSum ∈ wz := wz_in (tc_2 (List.mem_of_getElem? (i := 189) rfl)) rfl
theorem wd_505 : Cond.instanceMethod yX1_readSum ∈ wz := wz_in (tc_2 (List.mem_of_getElem? (i := 191) rfl)) rfl
theorem wd_506 : Cond.code yX1_readSum prog_3_method_7_code 5 (some .boolean) ∈ wz := wz_in (tc_2 (List.mem_of_getElem? (i := 192) rfl)) rfl
theorem wd_507 : Cond.methodLink RX1 69 yX1_readProduct ∈ wz := wz_in (tc_2 (List.mem_of_getElem? (i := 193) rfl)) rfl
theorem wd_509 : Cond.instanceMethod yX1_readProduct ∈ wz := wz_in (tc_2 (List.mem_of_getElem? (i := 195) rfl)) rfl
theorem wd_510 : Cond.code yX1_readProduct prog_3_method_8_code 5 (some .boolean) ∈ wz := wz_in (tc_2 (List.mem_of_getElem? (i := 196) rfl)) rfl
theorem wd_511 : Cond.methodLink RX1 72 yX1_readSingle ∈ wz := wz_in (tc_2 (List.mem_of_getElem? (i := 197) rfl)) rfl
theorem wd_513 : Cond.instanceMethod yX1_readSingle ∈ wz := wz_in (tc_2 (List.mem_of_getElem? (i := 199) rfl)) rfl
theorem wd_514 : Cond.code yX1_readSingle prog_3_method_9_code 3 (some .boolean) ∈ wz := wz_in (tc_2 (List.mem_of_getElem? (i := 200) rfl)) rfl
theorem wd_515 : Cond.methodLink RX1 55 yX1_next ∈ wz := wz_in (tc_2 (List.mem_of_getElem? (i := 201) rfl)) rfl
theorem wd_517 : Cond.instanceMethod yX1_next ∈ wz := wz_in (tc_2 (List.mem_of_getElem? (i := 203) rfl)) rfl
theorem wd_518 : Cond.code yX1_next prog_3_method_3_code 1 (some .int) ∈ wz := wz_in (tc_2 (List.mem_of_getElem? (i := 204) rfl)) rfl
theorem wd_519 : Cond.methodLink RX1 75 yX1_readOpened ∈ wz := wz_in (tc_2 (List.mem_of_getElem? (i := 205) rfl)) rfl
theorem wd_521 : Cond.instanceMethod yX1_readOpened ∈ wz := wz_in (tc_2 (List.mem_of_getElem? (i := 207) rfl)) rfl
theorem wd_522 : Cond.code yX1_readOpened prog_3_method_10_code 4 (some .boolean) ∈ wz := wz_in (tc_2 (List.mem_of_getElem? (i := 208) rfl)) rfl
theorem wd_523 : Cond.methodLink RX1 59 yX3_add ∈ wz := wz_in (tc_2 (List.mem_of_getElem? (i := 209) rfl)) rfl
theorem wd_524 : Cond.instanceMethod yX3_add ∈ wz := wz_in (tc_2 (List.mem_of_getElem? (i := 210) rfl)) rfl
theorem wd_525 : Cond.selects RX3 yX3_add yX3_add ∈ wz := wz_in (tc_2 (List.mem_of_getElem? (i := 211) rfl)) rfl
theorem wd_526 : Cond.code yX3_add prog_5_method_4_code 3 none ∈ wz := wz_in (tc_2 (List.mem_of_getElem? (i := 212) rfl)) rfl
theorem wd_527 : Cond.methodLink RX1 79 yX1_isDigit ∈ wz := wz_in (tc_2 (List.mem_of_getElem? (i := 213) rfl)) rfl
theorem wd_528 : Cond.static yX1_isDigit ∈ wz := wz_in (tc_2 (List.mem_of_getElem? (i := 214) rfl)) rfl
theorem wd_529 : Cond.code yX1_isDigit prog_3_method_13_code 1 (some .boolean) ∈ wz := wz_in (tc_2 (List.mem_of_getElem? (i := 215) rfl)) rfl
theorem wd_530 : Cond.methodLink RX1 82 yX1_readNumber ∈ wz := wz_in (tc_2 (List.mem_of_getElem? (i := 216) rfl)) rfl
theorem wd_532 : Cond.instanceMethod yX1_readNumber ∈ wz := wz_in (tc_2 (List.mem_of_getElem? (i := 218) rfl)) rfl
theorem wd_533 : Cond.code yX1_readNumber prog_3_method_11_code 3 (some .boolean) ∈ wz := wz_in (tc_2 (List.mem_of_getElem? (i := 219) rfl)) rfl
theorem wd_534 : Cond.methodLink RX1 86 yX1_readName ∈ wz := wz_in (tc_2 (List.mem_of_getElem? (i := 220) rfl)) rfl
theorem wd_536 : Cond.instanceMethod yX1_readName ∈ wz := wz_in (tc_2 (List.mem_of_getElem? (i := 222) rfl)) rfl
theorem wd_537 : Cond.code yX1_readName prog_3_method_12_code 3 (some .boolean) ∈ wz := wz_in (tc_2 (List.mem_of_getElem? (i := 223) rfl)) rfl
theorem wd_538 : Cond.fieldLink RX1 89 "ImmunityCatching$Reader" "NAMES" "[C" ∈ wz := wz_in (tc_2 (List.mem_of_getElem? (i := 224) rfl)) rfl
theorem wd_540 : Cond.methodLink RX7 170 yX4_clear ∈ wz := wz_in (tc_2 (List.mem_of_getElem? (i := 226) rfl)) rfl
theorem wd_541 : Cond.instanceMethod yX4_clear ∈ wz := wz_in (tc_2 (List.mem_of_getElem? (i := 227) rfl)) rfl
theorem wd_542 : Cond.selects RX4 yX4_clear yX4_clear ∈ wz := wz_in (tc_2 (List.mem_of_getElem? (i := 228) rfl)) rfl
theorem wd_543 : Cond.code yX4_clear prog_6_method_3_code 1 none ∈ wz := wz_in (tc_2 (List.mem_of_getElem? (i := 229) rfl)) rfl
theorem wd_544 : Cond.methodLink RX7 173 yX5_ruleOf ∈ wz := wz_in (tc_2 (List.mem_of_getElem? (i := 230) rfl)) rfl
theorem wd_545 : Cond.instanceMethod yX5_ruleOf ∈ wz := wz_in (tc_2 (List.mem_of_getElem? (i := 231) rfl)) rfl
theorem wd_546 : Cond.selects RX5 yX5_ruleOf yX5_ruleOf ∈ wz := wz_in (tc_2 (List.mem_of_getElem? (i := 232) rfl)) rfl
theorem wd_547 : Cond.code yX5_ruleOf prog_7_method_3_code 2 (some (.object "ImmunityCatching$Rule")) ∈ wz := wz_in (tc_2 (List.mem_of_getElem? (i := 233) rfl)) rfl
theorem wd_548 : Cond.methodLink RX7 180 yX3_copy ∈ wz := wz_in (tc_2 (List.mem_of_getElem? (i := 234) rfl)) rfl
theorem wd_549 : Cond.instanceMethod yX3_copy ∈ wz := wz_in (tc_2 (List.mem_of_getElem? (i := 235) rfl)) rfl
theorem wd_550 : Cond.selects RX3 yX3_copy yX3_copy ∈ wz := wz_in (tc_2 (List.mem_of_getElem? (i := 236) rfl)) rfl
theorem wd_551 : Cond.code yX3_copy prog_5_method_5_code 2 none ∈ wz := wz_in (tc_2 (List.mem_of_getElem? (i := 237) rfl)) rfl
theorem wd_552 : Cond.methodLink RX3 25 arraycopyName ∈ wz := wz_in (tc_2 (List.mem_of_getElem? (i := 238) rfl)) rfl
theorem wd_553 : Cond.methodLink RL 59 yX7_law ∈ wz := wz_in (tc_2 (List.mem_of_getElem? (i := 239) rfl)) rfl
theorem wd_554 : Cond.instanceMethod yX7_law ∈ wz := wz_in (tc_3 (List.mem_of_getElem? (i := 0) rfl)) rfl
theorem wd_555 : Cond.selects RX7 yX7_law yX7_law ∈ wz := wz_in (tc_3 (List.mem_of_getElem? (i := 1) rfl)) rfl
theorem wd_556 : Cond.code yX7_law prog_1_method_12_code 5 (some .int) ∈ wz := wz_in (tc_3 (List.mem_of_getElem? (i := 2) rfl)) rfl
theorem wd_557 : Cond.methodLink RX7 186 yX0_meets ∈ wz := wz_in (tc_3 (List.mem_of_getElem? (i := 3) rfl)) rfl
theorem wd_558 : Cond.methodLink RX7 190 yX0_deedsBy ∈ wz := wz_in (tc_3 (List.mem_of_getElem? (i := 4) rfl)) rfl
theorem wd_559 : Cond.instanceMethod yX0_deedsBy ∈ wz := wz_in (tc_3 (List.mem_of_getElem? (i := 5) rfl)) rfl
theorem wd_560 : Cond.selects RX0 yX0_deedsBy yX0_deedsBy ∈ wz := wz_in (tc_3 (List.mem_of_getElem? (i := 6) rfl)) rfl
theorem wd_561 : Cond.code yX0_deedsBy prog_2_method_9_code 4 (some .int) ∈ wz := wz_in (tc_3 (List.mem_of_getElem? (i := 7) rfl)) rfl
theorem wd_562 : Cond.methodLink RL 64 yX7_steps ∈ wz := wz_in (tc_3 (List.mem_of_getElem? (i := 8) rfl)) rfl
theorem wd_563 : Cond.instanceMethod yX7_steps ∈ wz := wz_in (tc_3 (List.mem_of_getElem? (i := 9) rfl)) rfl
theorem wd_564 : Cond.selects RX7 yX7_steps yX7_steps ∈ wz := wz_in (tc_3 (List.mem_of_getElem? (i := 10) rfl)) rfl
theorem wd_565 : Cond.code yX7_steps prog_1_method_13_code 2 (some .int) ∈ wz := wz_in (tc_3 (List.mem_of_getElem? (i := 11) rfl)) rfl
theorem wd_566 : Cond.methodLink RX7 196 yX0_pass ∈ wz := wz_in (tc_3 (List.mem_of_getElem? (i := 12) rfl)) rfl
theorem wd_567 : Cond.instanceMethod yX0_pass ∈ wz := wz_in (tc_3 (List.mem_of_getElem? (i := 13) rfl)) rfl
theorem wd_568 : Cond.selects RX0 yX0_pass yX0_pass ∈ wz := wz_in (tc_3 (List.mem_of_getElem? (i := 14) rfl)) rfl
theorem wd_569 : Cond.code yX0_pass prog_2_method_21_code 3 none ∈ wz := wz_in (tc_3 (List.mem_of_getElem? (i := 15) rfl)) rfl
theorem wd_570 : Cond.methodLink RX0 101 yX0_haveOwn ∈ wz := wz_in (tc_3 (List.mem_of_getElem? (i := 16) rfl)) rfl
theorem wd_572 : Cond.instanceMethod yX0_haveOwn ∈ wz := wz_in (tc_3 (List.mem_of_getElem? (i := 18) rfl)) rfl
theorem wd_573 : Cond.code yX0_haveOwn prog_2_method_22_code 2 none ∈ wz := wz_in (tc_3 (List.mem_of_getElem? (i := 19) rfl)) rfl
theorem wd_574 : Cond.methodLink RX0 116 yX0_keepsOf ∈ wz := wz_in (tc_3 (List.mem_of_getElem? (i := 20) rfl)) rfl
theorem wd_575 : Cond.methodLink RX0 119 yJ9_max_7cf53 ∈ wz := wz_in (tc_3 (List.mem_of_getElem? (i := 21) rfl)) rfl
theorem wd_576 : Cond.methodLink RX0 104 yX0_handOn ∈ wz := wz_in (tc_3 (List.mem_of_getElem? (i := 22) rfl)) rfl
theorem wd_578 : Cond.instanceMethod yX0_handOn ∈ wz := wz_in (tc_3 (List.mem_of_getElem? (i := 24) rfl)) rfl
theorem wd_579 : Cond.code yX0_handOn prog_2_method_23_code 3 none ∈ wz := wz_in (tc_3 (List.mem_of_getElem? (i := 25) rfl)) rfl
theorem wd_580 : Cond.methodLink RX0 122 yX0_countCrowds ∈ wz := wz_in (tc_3 (List.mem_of_getElem? (i := 26) rfl)) rfl
theorem wd_582 : Cond.instanceMethod yX0_countCrowds ∈ wz := wz_in (tc_3 (List.mem_of_getElem? (i := 28) rfl)) rfl
theorem wd_583 : Cond.code yX0_countCrowds prog_2_method_24_code 2 none ∈ wz := wz_in (tc_3 (List.mem_of_getElem? (i := 29) rfl)) rfl
theorem wd_585 : Cond.methodLink RX0 125 yX0_handsOf ∈ wz := wz_in (tc_3 (List.mem_of_getElem? (i := 31) rfl)) rfl
theorem wd_586 : Cond.methodLink RX0 128 yX0_handOnAt ∈ wz := wz_in (tc_3 (List.mem_of_getElem? (i := 32) rfl)) rfl
theorem wd_588 : Cond.instanceMethod yX0_handOnAt ∈ wz := wz_in (tc_3 (List.mem_of_getElem? (i := 34) rfl)) rfl
theorem wd_589 : Cond.code yX0_handOnAt prog_2_method_25_code 4 none ∈ wz := wz_in (tc_3 (List.mem_of_getElem? (i := 35) rfl)) rfl
theorem wd_590 : Cond.methodLink RX0 136 yX0_canTouch ∈ wz := wz_in (tc_3 (List.mem_of_getElem? (i := 36) rfl)) rfl
theorem wd_591 : Cond.methodLink RX0 107 yX0_doDeeds ∈ wz := wz_in (tc_3 (List.mem_of_getElem? (i := 37) rfl)) rfl
theorem wd_593 : Cond.instanceMethod yX0_doDeeds ∈ wz := wz_in (tc_3 (List.mem_of_getElem? (i := 39) rfl)) rfl
theorem wd_594 : Cond.code yX0_doDeeds prog_2_method_26_code 3 none ∈ wz := wz_in (tc_3 (List.mem_of_getElem? (i := 40) rfl)) rfl
theorem wd_595 : Cond.methodLink RX0 139 yX0_deedsBy ∈ wz := wz_in (tc_3 (List.mem_of_getElem? (i := 41) rfl)) rfl
theorem wd_596 : Cond.methodLink RX0 110 yX0_runOut ∈ wz := wz_in (tc_3 (List.mem_of_getElem? (i := 42) rfl)) rfl
theorem wd_598 : Cond.instanceMethod yX0_runOut ∈ wz := wz_in (tc_3 (List.mem_of_getElem? (i := 44) rfl)) rfl
theorem wd_599 : Cond.code yX0_runOut prog_2_method_27_code 2 none ∈ wz := wz_in (tc_3 (List.mem_of_getElem? (i := 45) rfl)) rfl
theorem wd_600 : Cond.methodLink RX0 142 yX0_runsOf ∈ wz := wz_in (tc_3 (List.mem_of_getElem? (i := 46) rfl)) rfl
theorem wd_601 : Cond.methodLink RX0 113 yX0_steal ∈ wz := wz_in (tc_3 (List.mem_of_getElem? (i := 47) rfl)) rfl
theorem wd_603 : Cond.instanceMethod yX0_steal ∈ wz := wz_in (tc_3 (List.mem_of_getElem? (i := 49) rfl)) rfl
theorem wd_604 : Cond.code yX0_steal prog_2_method_28_code 2 none ∈ wz := wz_in (tc_3 (List.mem_of_getElem? (i := 50) rfl)) rfl
theorem wd_605 : Cond.methodLink RX7 199 yX0_freeTogether ∈ wz := wz_in (tc_3 (List.mem_of_getElem? (i := 51) rfl)) rfl
theorem wd_606 : Cond.instanceMethod yX0_freeTogether ∈ wz := wz_in (tc_3 (List.mem_of_getElem? (i := 52) rfl)) rfl
theorem wd_607 : Cond.selects RX0 yX0_freeTogether yX0_freeTogether ∈ wz := wz_in (tc_3 (List.mem_of_getElem? (i := 53) rfl)) rfl
theorem wd_608 : Cond.code yX0_freeTogether prog_2_method_17_code 3 (some .int) ∈ wz := wz_in (tc_3 (List.mem_of_getElem? (i := 54) rfl)) rfl
theorem wd_609 : Cond.methodLink RL 68 yX7_loose ∈ wz := wz_in (tc_3 (List.mem_of_getElem? (i := 55) rfl)) rfl
theorem wd_610 : Cond.instanceMethod yX7_loose ∈ wz := wz_in (tc_3 (List.mem_of_getElem? (i := 56) rfl)) rfl
theorem wd_611 : Cond.selects RX7 yX7_loose yX7_loose ∈ wz := wz_in (tc_3 (List.mem_of_getElem? (i := 57) rfl)) rfl
theorem wd_612 : Cond.code yX7_loose prog_1_method_14_code 3 (some .int) ∈ wz := wz_in (tc_3 (List.mem_of_getElem? (i := 58) rfl)) rfl
theorem wd_613 : Cond.methodLink RX7 203 yX5_stray ∈ wz := wz_in (tc_3 (List.mem_of_getElem? (i := 59) rfl)) rfl
theorem wd_614 : Cond.instanceMethod yX5_stray ∈ wz := wz_in (tc_3 (List.mem_of_getElem? (i := 60) rfl)) rfl
theorem wd_615 : Cond.selects RX5 yX5_stray yX5_stray ∈ wz := wz_in (tc_3 (List.mem_of_getElem? (i := 61) rfl)) rfl
theorem wd_616 : Cond.code yX5_stray prog_7_method_4_code 3 none ∈ wz := wz_in (tc_3 (List.mem_of_getElem? (i := 62) rfl)) rfl
theorem wd_617 : Cond.methodLink RX5 59 yX5_draw ∈ wz := wz_in (tc_3 (List.mem_of_getElem? (i := 63) rfl)) rfl
theorem wd_619 : Cond.instanceMethod yX5_draw ∈ wz := wz_in (tc_3 (List.mem_of_getElem? (i := 65) rfl)) rfl
theorem wd_620 : Cond.code yX5_draw prog_7_method_5_code 1 (some .int) ∈ wz := wz_in (tc_3 (List.mem_of_getElem? (i := 66) rfl)) rfl
theorem wd_621 : Cond.constant RX5 67 1103515245 ∈ wz := wz_in (tc_3 (List.mem_of_getElem? (i := 67) rfl)) rfl
theorem wd_622 : Cond.methodLink RL 72 yX7_then ∈ wz := wz_in (tc_3 (List.mem_of_getElem? (i := 68) rfl)) rfl
theorem wd_623 : Cond.instanceMethod yX7_then ∈ wz := wz_in (tc_3 (List.mem_of_getElem? (i := 69) rfl)) rfl
theorem wd_624 : Cond.selects RX7 yX7_then yX7_then ∈ wz := wz_in (tc_3 (List.mem_of_getElem? (i := 70) rfl)) rfl
theorem wd_625 : Cond.code yX7_then prog_1_method_15_code 4 (some .int) ∈ wz := wz_in (tc_3 (List.mem_of_getElem? (i := 71) rfl)) rfl
theorem wd_626 : Cond.methodLink RX7 206 yX7_think ∈ wz := wz_in (tc_3 (List.mem_of_getElem? (i := 72) rfl)) rfl
theorem wd_628 : Cond.instanceMethod yX7_think ∈ wz := wz_in (tc_3 (List.mem_of_getElem? (i := 74) rfl)) rfl
theorem wd_629 : Cond.code yX7_think prog_1_method_44_code 1 none ∈ wz := wz_in (tc_3 (List.mem_of_getElem? (i := 75) rfl)) rfl
theorem wd_630 : Cond.methodLink RX7 301 yX0_copy ∈ wz := wz_in (tc_3 (List.mem_of_getElem? (i := 76) rfl)) rfl
theorem wd_631 : Cond.instanceMethod yX0_copy ∈ wz := wz_in (tc_3 (List.mem_of_getElem? (i := 77) rfl)) rfl
theorem wd_632 : Cond.selects RX0 yX0_copy yX0_copy ∈ wz := wz_in (tc_3 (List.mem_of_getElem? (i := 78) rfl)) rfl
theorem wd_633 : Cond.code yX0_copy prog_2_method_2_code 2 none ∈ wz := wz_in (tc_3 (List.mem_of_getElem? (i := 79) rfl)) rfl
theorem wd_634 : Cond.methodLink RX0 53 arraycopyName ∈ wz := wz_in (tc_3 (List.mem_of_getElem? (i := 80) rfl)) rfl
theorem wd_635 : Cond.methodLink RL 76 yX7_last ∈ wz := wz_in (tc_3 (List.mem_of_getElem? (i := 81) rfl)) rfl
theorem wd_636 : Cond.instanceMethod yX7_last ∈ wz := wz_in (tc_3 (List.mem_of_getElem? (i := 82) rfl)) rfl
theorem wd_637 : Cond.selects RX7 yX7_last yX7_last ∈ wz := wz_in (tc_3 (List.mem_of_getElem? (i := 83) rfl)) rfl
theorem wd_638 : Cond.code yX7_last prog_1_method_16_code 5 (some .int) ∈ wz := wz_in (tc_3 (List.mem_of_getElem? (i := 84) rfl)) rfl
theorem wd_639 : Cond.methodLink RX7 209 yX7_countTimesFree ∈ wz := wz_in (tc_3 (List.mem_of_getElem? (i := 85) rfl)) rfl
theorem wd_641 : Cond.instanceMethod yX7_countTimesFree ∈ wz := wz_in (tc_3 (List.mem_of_getElem? (i := 87) rfl)) rfl
theorem wd_642 : Cond.code yX7_countTimesFree prog_1_method_45_code 4 none ∈ wz := wz_in (tc_3 (List.mem_of_getElem? (i := 88) rfl)) rfl
theorem wd_643 : Cond.methodLink RL 80 yX7_reaches ∈ wz := wz_in (tc_3 (List.mem_of_getElem? (i := 89) rfl)) rfl
theorem wd_644 : Cond.instanceMethod yX7_reaches ∈ wz := wz_in (tc_3 (List.mem_of_getElem? (i := 90) rfl)) rfl
theorem wd_645 : Cond.selects RX7 yX7_reaches yX7_reaches ∈ wz := wz_in (tc_3 (List.mem_of_getElem? (i := 91) rfl)) rfl
theorem wd_646 : Cond.code yX7_reaches prog_1_method_17_code 3 (some .int) ∈ wz := wz_in (tc_3 (List.mem_of_getElem? (i := 92) rfl)) rfl
theorem wd_647 : Cond.methodLink RL 84 yX7_gloves ∈ wz := wz_in (tc_3 (List.mem_of_getElem? (i := 93) rfl)) rfl
theorem wd_648 : Cond.instanceMethod yX7_gloves ∈ wz := wz_in (tc_3 (List.mem_of_getElem? (i := 94) rfl)) rfl
theorem wd_649 : Cond.selects RX7 yX7_gloves yX7_gloves ∈ wz := wz_in (tc_3 (List.mem_of_getElem? (i := 95) rfl)) rfl
theorem wd_650 : Cond.code yX7_gloves prog_1_method_18_code 7 (some .int) ∈ wz := wz_in (tc_3 (List.mem_of_getElem? (i := 96) rfl)) rfl
theorem wd_651 : Cond.methodLink RX7 212 yJ6_bitCount_0f7a4 ∈ wz := wz_in (tc_3 (List.mem_of_getElem? (i := 97) rfl)) rfl
theorem wd_652 : Cond.methodLink RX7 217 yX7_staysAway ∈ wz := wz_in (tc_3 (List.mem_of_getElem? (i := 98) rfl)) rfl
theorem wd_654 : Cond.instanceMethod yX7_staysAway ∈ wz := wz_in (tc_3 (List.mem_of_getElem? (i := 100) rfl)) rfl
theorem wd_655 : Cond.code yX7_staysAway prog_1_method_46_code 5 (some .boolean) ∈ wz := wz_in (tc_3 (List.mem_of_getElem? (i := 101) rfl)) rfl
theorem wd_656 : Cond.methodLink RX7 304 yX0_putGlovesOn ∈ wz := wz_in (tc_3 (List.mem_of_getElem? (i := 102) rfl)) rfl
theorem wd_657 : Cond.instanceMethod yX0_putGlovesOn ∈ wz := wz_in (tc_3 (List.mem_of_getElem? (i := 103) rfl)) rfl
theorem wd_658 : Cond.selects RX0 yX0_putGlovesOn yX0_putGlovesOn ∈ wz := wz_in (tc_3 (List.mem_of_getElem? (i := 104) rfl)) rfl
theorem wd_659 : Cond.code yX0_putGlovesOn prog_2_method_19_code 3 none ∈ wz := wz_in (tc_3 (List.mem_of_getElem? (i := 105) rfl)) rfl
theorem wd_660 : Cond.methodLink RL 88 yX7_from ∈ wz := wz_in (tc_3 (List.mem_of_getElem? (i := 106) rfl)) rfl
theorem wd_661 : Cond.instanceMethod yX7_from ∈ wz := wz_in (tc_3 (List.mem_of_getElem? (i := 107) rfl)) rfl
theorem wd_662 : Cond.selects RX7 yX7_from yX7_from ∈ wz := wz_in (tc_3 (List.mem_of_getElem? (i := 108) rfl)) rfl
theorem wd_663 : Cond.code yX7_from prog_1_method_19_code 7 (some .int) ∈ wz := wz_in (tc_3 (List.mem_of_getElem? (i := 109) rfl)) rfl
theorem wd_664 : Cond.methodLink RX7 220 yX7_rowOf ∈ wz := wz_in (tc_3 (List.mem_of_getElem? (i := 110) rfl)) rfl
theorem wd_666 : Cond.instanceMethod yX7_rowOf ∈ wz := wz_in (tc_3 (List.mem_of_getElem? (i := 112) rfl)) rfl
theorem wd_667 : Cond.code yX7_rowOf prog_1_method_43_code 2 (some (.object "ImmunityCatching$Row")) ∈ wz := wz_in (tc_3 (List.mem_of_getElem? (i := 113) rfl)) rfl
theorem wd_668 : Cond.methodLink RX7 224 yX2_isMissing ∈ wz := wz_in (tc_3 (List.mem_of_getElem? (i := 114) rfl)) rfl
theorem wd_669 : Cond.instanceMethod yX2_isMissing ∈ wz := wz_in (tc_3 (List.mem_of_getElem? (i := 115) rfl)) rfl
theorem wd_670 : Cond.selects RX2 yX2_isMissing yX2_isMissing ∈ wz := wz_in (tc_3 (List.mem_of_getElem? (i := 116) rfl)) rfl
theorem wd_671 : Cond.code yX2_isMissing prog_4_method_3_code 1 (some .boolean) ∈ wz := wz_in (tc_3 (List.mem_of_getElem? (i := 117) rfl)) rfl
theorem wd_672 : Cond.methodLink RX7 232 yX7_canHaveComeBy ∈ wz := wz_in (tc_3 (List.mem_of_getElem? (i := 118) rfl)) rfl
theorem wd_674 : Cond.instanceMethod yX7_canHaveComeBy ∈ wz := wz_in (tc_3 (List.mem_of_getElem? (i := 120) rfl)) rfl
theorem wd_675 : Cond.code yX7_canHaveComeBy prog_1_method_47_code 5 (some .boolean) ∈ wz := wz_in (tc_3 (List.mem_of_getElem? (i := 121) rfl)) rfl
theorem wd_676 : Cond.methodLink RX7 307 yX0_leaveFreeOnly ∈ wz := wz_in (tc_3 (List.mem_of_getElem? (i := 122) rfl)) rfl
theorem wd_677 : Cond.instanceMethod yX0_leaveFreeOnly ∈ wz := wz_in (tc_3 (List.mem_of_getElem? (i := 123) rfl)) rfl
theorem wd_678 : Cond.selects RX0 yX0_leaveFreeOnly yX0_leaveFreeOnly ∈ wz := wz_in (tc_3 (List.mem_of_getElem? (i := 124) rfl)) rfl
theorem wd_679 : Cond.code yX0_leaveFreeOnly prog_2_method_20_code 3 none ∈ wz := wz_in (tc_3 (List.mem_of_getElem? (i := 125) rfl)) rfl
theorem wd_680 : Cond.methodLink RL 92 yX7_stand ∈ wz := wz_in (tc_3 (List.mem_of_getElem? (i := 126) rfl)) rfl
theorem wd_681 : Cond.instanceMethod yX7_stand ∈ wz := wz_in (tc_3 (List.mem_of_getElem? (i := 127) rfl)) rfl
theorem wd_682 : Cond.selects RX7 yX7_stand yX7_stand ∈ wz := wz_in (tc_3 (List.mem_of_getElem? (i := 128) rfl)) rfl
theorem wd_683 : Cond.code yX7_stand prog_1_method_20_code 8 (some .int) ∈ wz := wz_in (tc_3 (List.mem_of_getElem? (i := 129) rfl)) rfl
theorem wd_684 : Cond.methodLink RX7 236 yX7_hoursWith ∈ wz := wz_in (tc_3 (List.mem_of_getElem? (i := 130) rfl)) rfl
theorem wd_686 : Cond.instanceMethod yX7_hoursWith ∈ wz := wz_in (tc_3 (List.mem_of_getElem? (i := 132) rfl)) rfl
theorem wd_687 : Cond.code yX7_hoursWith prog_1_method_48_code 5 (some .int) ∈ wz := wz_in (tc_3 (List.mem_of_getElem? (i := 133) rfl)) rfl
theorem wd_688 : Cond.methodLink RL 96 yX7_crush ∈ wz := wz_in (tc_3 (List.mem_of_getElem? (i := 134) rfl)) rfl
theorem wd_689 : Cond.instanceMethod yX7_crush ∈ wz := wz_in (tc_3 (List.mem_of_getElem? (i := 135) rfl)) rfl
theorem wd_690 : Cond.selects RX7 yX7_crush yX7_crush ∈ wz := wz_in (tc_3 (List.mem_of_getElem? (i := 136) rfl)) rfl
theorem wd_691 : Cond.code yX7_crush prog_1_method_21_code 5 (some .int) ∈ wz := wz_in (tc_3 (List.mem_of_getElem? (i := 137) rfl)) rfl
theorem wd_692 : Cond.methodLink RX7 240 yX0_howManyAt ∈ wz := wz_in (tc_3 (List.mem_of_getElem? (i := 138) rfl)) rfl
theorem wd_693 : Cond.methodLink RL 100 yX7_dies ∈ wz := wz_in (tc_3 (List.mem_of_getElem? (i := 139) rfl)) rfl
theorem wd_694 : Cond.instanceMethod yX7_dies ∈ wz := wz_in (tc_3 (List.mem_of_getElem? (i := 140) rfl)) rfl
theorem wd_695 : Cond.selects RX7 yX7_dies yX7_dies ∈ wz := wz_in (tc_3 (List.mem_of_getElem? (i := 141) rfl)) rfl
theorem wd_696 : Cond.code yX7_dies prog_1_method_22_code 2 (some .int) ∈ wz := wz_in (tc_3 (List.mem_of_getElem? (i := 142) rfl)) rfl
theorem wd_697 : Cond.methodLink RX7 243 yX0_howManyFree ∈ wz := wz_in (tc_3 (List.mem_of_getElem? (i := 143) rfl)) rfl
theorem wd_698 : Cond.instanceMethod yX0_howManyFree ∈ wz := wz_in (tc_3 (List.mem_of_getElem? (i := 144) rfl)) rfl
theorem wd_699 : Cond.selects RX0 yX0_howManyFree yX0_howManyFree ∈ wz := wz_in (tc_3 (List.mem_of_getElem? (i := 145) rfl)) rfl
theorem wd_700 : Cond.code yX0_howManyFree prog_2_method_16_code 3 (some .int) ∈ wz := wz_in (tc_3 (List.mem_of_getElem? (i := 146) rfl)) rfl
theorem wd_701 : Cond.methodLink RL 105 yX7_touch ∈ wz := wz_in (tc_3 (List.mem_of_getElem? (i := 147) rfl)) rfl
theorem wd_702 : Cond.instanceMethod yX7_touch ∈ wz := wz_in (tc_3 (List.mem_of_getElem? (i := 148) rfl)) rfl
theorem wd_703 : Cond.selects RX7 yX7_touch yX7_touch ∈ wz := wz_in (tc_3 (List.mem_of_getElem? (i := 149) rfl)) rfl
theorem wd_704 : Cond.code yX7_touch prog_1_method_23_code 9 (some .int) ∈ wz := wz_in (tc_3 (List.mem_of_getElem? (i := 150) rfl)) rfl
theorem wd_705 : Cond.methodLink RL 109 yX7_done ∈ wz := wz_in (tc_3 (List.mem_of_getElem? (i := 151) rfl)) rfl
theorem wd_706 : Cond.instanceMethod yX7_done ∈ wz := wz_in (tc_3 (List.mem_of_getElem? (i := 152) rfl)) rfl
theorem wd_707 : Cond.selects RX7 yX7_done yX7_done ∈ wz := wz_in (tc_3 (List.mem_of_getElem? (i := 153) rfl)) rfl
theorem wd_708 : Cond.code yX7_done prog_1_method_24_code 2 (some .int) ∈ wz := wz_in (tc_3 (List.mem_of_getElem? (i := 154) rfl)) rfl
theorem wd_709 : Cond.methodLink RX7 246 yX0_deedsTogether ∈ wz := wz_in (tc_3 (List.mem_of_getElem? (i := 155) rfl)) rfl
theorem wd_710 : Cond.instanceMethod yX0_deedsTogether ∈ wz := wz_in (tc_3 (List.mem_of_getElem? (i := 156) rfl)) rfl
theorem wd_711 : Cond.selects RX0 yX0_deedsTogether yX0_deedsTogether ∈ wz := wz_in (tc_3 (List.mem_of_getElem? (i := 157) rfl)) rfl
theorem wd_712 : Cond.code yX0_deedsTogether prog_2_method_18_code 3 (some .int) ∈ wz := wz_in (tc_3 (List.mem_of_getElem? (i := 158) rfl)) rfl
theorem wd_713 : Cond.methodLink RL 113 yX7_odds ∈ wz := wz_in (tc_3 (List.mem_of_getElem? (i := 159) rfl)) rfl
theorem wd_714 : Cond.instanceMethod yX7_odds ∈ wz := wz_in (tc_3 (List.mem_of_getElem? (i := 160) rfl)) rfl
theorem wd_715 : Cond.selects RX7 yX7_odds yX7_odds ∈ wz := wz_in (tc_3 (List.mem_of_getElem? (i := 161) rfl)) rfl
theorem wd_716 : Cond.code yX7_odds prog_1_method_25_code 6 (some .int) ∈ wz := wz_in (tc_3 (List.mem_of_getElem? (i := 162) rfl)) rfl
theorem wd_717 : Cond.methodLink RX7 249 yX7_commonDivisor ∈ wz := wz_in (tc_3 (List.mem_of_getElem? (i := 163) rfl)) rfl
theorem wd_718 : Cond.static yX7_commonDivisor ∈ wz := wz_in (tc_3 (List.mem_of_getElem? (i := 164) rfl)) rfl
theorem wd_719 : Cond.code yX7_commonDivisor prog_1_method_57_code 6 (some .int) ∈ wz := wz_in (tc_3 (List.mem_of_getElem? (i := 165) rfl)) rfl
theorem wd_720 : Cond.methodLink RL 117 yX7_seed ∈ wz := wz_in (tc_3 (List.mem_of_getElem? (i := 166) rfl)) rfl
theorem wd_721 : Cond.instanceMethod yX7_seed ∈ wz := wz_in (tc_3 (List.mem_of_getElem? (i := 167) rfl)) rfl
theorem wd_722 : Cond.selects RX7 yX7_seed yX7_seed ∈ wz := wz_in (tc_3 (List.mem_of_getElem? (i := 168) rfl)) rfl
theorem wd_723 : Cond.code yX7_seed prog_1_method_26_code 3 (some .int) ∈ wz := wz_in (tc_3 (List.mem_of_getElem? (i := 169) rfl)) rfl
theorem wd_724 : Cond.methodLink RL 121 yX7_voice ∈ wz := wz_in (tc_3 (List.mem_of_getElem? (i := 170) rfl)) rfl
theorem wd_725 : Cond.instanceMethod yX7_voice ∈ wz := wz_in (tc_3 (List.mem_of_getElem? (i := 171) rfl)) rfl
theorem wd_726 : Cond.selects RX7 yX7_voice yX7_voice ∈ wz := wz_in (tc_3 (List.mem_of_getElem? (i := 172) rfl)) rfl
theorem wd_727 : Cond.code yX7_voice prog_1_method_27_code 4 (some .int) ∈ wz := wz_in (tc_3 (List.mem_of_getElem? (i := 173) rfl)) rfl
theorem wd_728 : Cond.methodLink RX7 255 yX6_speak ∈ wz := wz_in (tc_3 (List.mem_of_getElem? (i := 174) rfl)) rfl
theorem wd_729 : Cond.instanceMethod yX6_speak ∈ wz := wz_in (tc_3 (List.mem_of_getElem? (i := 175) rfl)) rfl
theorem wd_730 : Cond.selects RX6 yX6_speak yX6_speak ∈ wz := wz_in (tc_3 (List.mem_of_getElem? (i := 176) rfl)) rfl
theorem wd_731 : Cond.code yX6_speak prog_8_method_2_code 6 (some .int) ∈ wz := wz_in (tc_3 (List.mem_of_getElem? (i := 177) rfl)) rfl
theorem wd_732 : Cond.methodLink RX6 30 yX4_clear ∈ wz := wz_in (tc_3 (List.mem_of_getElem? (i := 178) rfl)) rfl
theorem wd_733 : Cond.methodLink RX6 33 yX6_own ∈ wz := wz_in (tc_3 (List.mem_of_getElem? (i := 179) rfl)) rfl
theorem wd_735 : Cond.instanceMethod yX6_own ∈ wz := wz_in (tc_3 (List.mem_of_getElem? (i := 181) rfl)) rfl
theorem wd_736 : Cond.code yX6_own prog_8_method_3_code 4 (some .int) ∈ wz := wz_in (tc_3 (List.mem_of_getElem? (i := 182) rfl)) rfl
theorem wd_737 : Cond.methodLink RX6 37 yX6_of ∈ wz := wz_in (tc_3 (List.mem_of_getElem? (i := 183) rfl)) rfl
theorem wd_739 : Cond.instanceMethod yX6_of ∈ wz := wz_in (tc_3 (List.mem_of_getElem? (i := 185) rfl)) rfl
theorem wd_740 : Cond.code yX6_of prog_8_method_4_code 6 (some .int) ∈ wz := wz_in (tc_3 (List.mem_of_getElem? (i := 186) rfl)) rfl
theorem wd_741 : Cond.methodLink RX6 41 yX6_bodyOf ∈ wz := wz_in (tc_3 (List.mem_of_getElem? (i := 187) rfl)) rfl
theorem wd_742 : Cond.static yX6_bodyOf ∈ wz := wz_in (tc_3 (List.mem_of_getElem? (i := 188) rfl)) rfl
theorem wd_743 : Cond.code yX6_bodyOf prog_8_method_5_code 4 (some .int) ∈ wz := wz_in (tc_3 (List.mem_of_getElem? (i := 189) rfl)) rfl
theorem wd_745 : Cond.fieldLink RX6 55 "ImmunityCatching$Voices" "BODIES" "[I" ∈ wz := wz_in (tc_3 (List.mem_of_getElem? (i := 191) rfl)) rfl
theorem wd_748 : Cond.methodLink RX6 45 yX4_add ∈ wz := wz_in (tc_3 (List.mem_of_getElem? (i := 194) rfl)) rfl
theorem wd_749 : Cond.methodLink RX6 48 yX6_work ∈ wz := wz_in (tc_3 (List.mem_of_getElem? (i := 195) rfl)) rfl
theorem wd_751 : Cond.instanceMethod yX6_work ∈ wz := wz_in (tc_3 (List.mem_of_getElem? (i := 197) rfl)) rfl
theorem wd_752 : Cond.code yX6_work prog_8_method_6_code 4 (some .int) ∈ wz := wz_in (tc_3 (List.mem_of_getElem? (i := 198) rfl)) rfl
theorem wd_753 : Cond.methodLink RL 125 yX7_trace ∈ wz := wz_in (tc_3 (List.mem_of_getElem? (i := 199) rfl)) rfl
theorem wd_754 : Cond.instanceMethod yX7_trace ∈ wz := wz_in (tc_3 (List.mem_of_getElem? (i := 200) rfl)) rfl
theorem wd_755 : Cond.selects RX7 yX7_trace yX7_trace ∈ wz := wz_in (tc_3 (List.mem_of_getElem? (i := 201) rfl)) rfl
theorem wd_756 : Cond.code yX7_trace prog_1_method_28_code 2 (some .int) ∈ wz := wz_in (tc_3 (List.mem_of_getElem? (i := 202) rfl)) rfl
theorem wd_757 : Cond.methodLink RL 129 yX7_sheet ∈ wz := wz_in (tc_3 (List.mem_of_getElem? (i := 203) rfl)) rfl
theorem wd_758 : Cond.instanceMethod yX7_sheet ∈ wz := wz_in (tc_3 (List.mem_of_getElem? (i := 204) rfl)) rfl
theorem wd_759 : Cond.selects RX7 yX7_sheet yX7_sheet ∈ wz := wz_in (tc_3 (List.mem_of_getElem? (i := 205) rfl)) rfl
theorem wd_760 : Cond.code yX7_sheet prog_1_method_29_code 5 (some .int) ∈ wz := wz_in (tc_3 (List.mem_of_getElem? (i := 206) rfl)) rfl
theorem wd_761 : Cond.methodLink RX7 265 yX2_lay ∈ wz := wz_in (tc_3 (List.mem_of_getElem? (i := 207) rfl)) rfl
theorem wd_762 : Cond.instanceMethod yX2_lay ∈ wz := wz_in (tc_3 (List.mem_of_getElem? (i := 208) rfl)) rfl
theorem wd_763 : Cond.selects RX2 yX2_lay yX2_lay ∈ wz := wz_in (tc_3 (List.mem_of_getElem? (i := 209) rfl)) rfl
theorem wd_764 : Cond.code yX2_lay prog_4_method_2_code 4 none ∈ wz := wz_in (tc_3 (List.mem_of_getElem? (i := 210) rfl)) rfl
theorem wd_766 : Cond.methodLink RL 133 yX7_put ∈ wz := wz_in (tc_3 (List.mem_of_getElem? (i := 212) rfl)) rfl
theorem wd_767 : Cond.instanceMethod yX7_put ∈ wz := wz_in (tc_3 (List.mem_of_getElem? (i := 213) rfl)) rfl
theorem wd_768 : Cond.selects RX7 yX7_put yX7_put ∈ wz := wz_in (tc_3 (List.mem_of_getElem? (i := 214) rfl)) rfl
theorem wd_769 : Cond.code yX7_put prog_1_method_30_code 5 (some .int) ∈ wz := wz_in (tc_3 (List.mem_of_getElem? (i := 215) rfl)) rfl
theorem wd_770 : Cond.methodLink RX7 268 yX2_lowestBits ∈ wz := wz_in (tc_3 (List.mem_of_getElem? (i := 216) rfl)) rfl
theorem wd_771 : Cond.instanceMethod yX2_lowestBits ∈ wz := wz_in (tc_3 (List.mem_of_getElem? (i := 217) rfl)) rfl
theorem wd_772 : Cond.selects RX2 yX2_lowestBits yX2_lowestBits ∈ wz := wz_in (tc_3 (List.mem_of_getElem? (i := 218) rfl)) rfl
theorem wd_773 : Cond.code yX2_lowestBits prog_4_method_4_code 2 (some .int) ∈ wz := wz_in (tc_3 (List.mem_of_getElem? (i := 219) rfl)) rfl
theorem wd_774 : Cond.constant RX2 26 65535 ∈ wz := wz_in (tc_3 (List.mem_of_getElem? (i := 220) rfl)) rfl
theorem wd_775 : Cond.methodLink RL 137 yX7_move ∈ wz := wz_in (tc_3 (List.mem_of_getElem? (i := 221) rfl)) rfl
theorem wd_776 : Cond.instanceMethod yX7_move ∈ wz := wz_in (tc_3 (List.mem_of_getElem? (i := 222) rfl)) rfl
theorem wd_777 : Cond.selects RX7 yX7_move yX7_move ∈ wz := wz_in (tc_3 (List.mem_of_getElem? (i := 223) rfl)) rfl
theorem wd_778 : Cond.code yX7_move prog_1_method_31_code 8 (some .int) ∈ wz := wz_in (tc_3 (List.mem_of_getElem? (i := 224) rfl)) rfl
theorem wd_779 : Cond.methodLink RX7 274 yX2_holds ∈ wz := wz_in (tc_3 (List.mem_of_getElem? (i := 225) rfl)) rfl
theorem wd_780 : Cond.instanceMethod yX2_holds ∈ wz := wz_in (tc_3 (List.mem_of_getElem? (i := 226) rfl)) rfl
theorem wd_781 : Cond.selects RX2 yX2_holds yX2_holds ∈ wz := wz_in (tc_3 (List.mem_of_getElem? (i := 227) rfl)) rfl
theorem wd_782 : Cond.code yX2_holds prog_4_method_5_code 3 (some .boolean) ∈ wz := wz_in (tc_3 (List.mem_of_getElem? (i := 228) rfl)) rfl
theorem wd_783 : Cond.methodLink RX7 277 arraycopyName ∈ wz := wz_in (tc_3 (List.mem_of_getElem? (i := 229) rfl)) rfl
theorem wd_784 : Cond.methodLink RL 142 yX7_frees ∈ wz := wz_in (tc_3 (List.mem_of_getElem? (i := 230) rfl)) rfl
theorem wd_785 : Cond.instanceMethod yX7_frees ∈ wz := wz_in (tc_3 (List.mem_of_getElem? (i := 231) rfl)) rfl
theorem wd_786 : Cond.selects RX7 yX7_frees yX7_frees ∈ wz := wz_in (tc_3 (List.mem_of_getElem? (i := 232) rfl)) rfl
theorem wd_787 : Cond.code yX7_frees prog_1_method_32_code 5 (some .int) ∈ wz := wz_in (tc_3 (List.mem_of_getElem? (i := 233) rfl)) rfl
theorem wd_788 : Cond.methodLink RL 146 yX7_judge ∈ wz := wz_in (tc_3 (List.mem_of_getElem? (i := 234) rfl)) rfl
theorem wd_789 : Cond.instanceMethod yX7_judge ∈ wz := wz_in (tc_3 (List.mem_of_getElem? (i := 235) rfl)) rfl
theorem wd_790 : Cond.selects RX7 yX7_judge yX7_judge ∈ wz := wz_in (tc_3 (List.mem_of_getElem? (i := 236) rfl)) rfl
theorem wd_791 : Cond.code yX7_judge prog_1_method_33_code 5 (some .int) ∈ wz := wz_in (tc_3 (List.mem_of_getElem? (i := 237) rfl)) rfl
theorem wd_792 : Cond.methodLink RL 150 yX7_image ∈ wz := wz_in (tc_3 (List.mem_of_getElem? (i := 238) rfl)) rfl
theorem wd_793 : Cond.instanceMethod yX7_image ∈ wz := wz_in (tc_3 (List.mem_of_getElem? (i := 239) rfl)) rfl
theorem wd_794 : Cond.selects RX7 yX7_image yX7_image ∈ wz := wz_in (tc_4 (List.mem_of_getElem? (i := 0) rfl)) rfl
theorem wd_795 : Cond.code yX7_image prog_1_method_34_code 1 (some .int) ∈ wz := wz_in (tc_4 (List.mem_of_getElem? (i := 1) rfl)) rfl
theorem wd_796 : Cond.methodLink RX7 288 yX5_copy ∈ wz := wz_in (tc_4 (List.mem_of_getElem? (i := 2) rfl)) rfl
theorem wd_797 : Cond.instanceMethod yX5_copy ∈ wz := wz_in (tc_4 (List.mem_of_getElem? (i := 3) rfl)) rfl
theorem wd_798 : Cond.selects RX5 yX5_copy yX5_copy ∈ wz := wz_in (tc_4 (List.mem_of_getElem? (i := 4) rfl)) rfl
theorem wd_799 : Cond.code yX5_copy prog_7_method_2_code 2 none ∈ wz := wz_in (tc_4 (List.mem_of_getElem? (i := 5) rfl)) rfl
theorem wd_800 : Cond.methodLink RX5 46 yX3_copy ∈ wz := wz_in (tc_4 (List.mem_of_getElem? (i := 6) rfl)) rfl
theorem wd_801 : Cond.methodLink RX5 50 yX0_copy ∈ wz := wz_in (tc_4 (List.mem_of_getElem? (i := 7) rfl)) rfl
theorem wd_802 : Cond.methodLink RX5 53 yX4_copy ∈ wz := wz_in (tc_4 (List.mem_of_getElem? (i := 8) rfl)) rfl
theorem wd_803 : Cond.methodLink RL 154 yX7_restore ∈ wz := wz_in (tc_4 (List.mem_of_getElem? (i := 9) rfl)) rfl
theorem wd_804 : Cond.instanceMethod yX7_restore ∈ wz := wz_in (tc_4 (List.mem_of_getElem? (i := 10) rfl)) rfl
theorem wd_805 : Cond.selects RX7 yX7_restore yX7_restore ∈ wz := wz_in (tc_4 (List.mem_of_getElem? (i := 11) rfl)) rfl
theorem wd_806 : Cond.code yX7_restore prog_1_method_35_code 1 (some .int) ∈ wz := wz_in (tc_4 (List.mem_of_getElem? (i := 12) rfl)) rfl
theorem wd_807 : Cond.methodLink RL 158 yX7_tell ∈ wz := wz_in (tc_4 (List.mem_of_getElem? (i := 13) rfl)) rfl
theorem wd_808 : Cond.instanceMethod yX7_tell ∈ wz := wz_in (tc_4 (List.mem_of_getElem? (i := 14) rfl)) rfl
theorem wd_809 : Cond.selects RX7 yX7_tell yX7_tell ∈ wz := wz_in (tc_4 (List.mem_of_getElem? (i := 15) rfl)) rfl
theorem wd_810 : Cond.code yX7_tell prog_1_method_36_code 2 (some .int) ∈ wz := wz_in (tc_4 (List.mem_of_getElem? (i := 16) rfl)) rfl
theorem wd_811 : Cond.methodLink RL 162 yX7_check ∈ wz := wz_in (tc_4 (List.mem_of_getElem? (i := 17) rfl)) rfl
theorem wd_812 : Cond.instanceMethod yX7_check ∈ wz := wz_in (tc_4 (List.mem_of_getElem? (i := 18) rfl)) rfl
theorem wd_813 : Cond.selects RX7 yX7_check yX7_check ∈ wz := wz_in (tc_4 (List.mem_of_getElem? (i := 19) rfl)) rfl
theorem wd_814 : Cond.code yX7_check prog_1_method_37_code 2 (some .int) ∈ wz := wz_in (tc_4 (List.mem_of_getElem? (i := 20) rfl)) rfl
theorem wd_815 : Cond.methodLink RX7 294 yX7_firstWrongOfWaiting ∈ wz := wz_in (tc_4 (List.mem_of_getElem? (i := 21) rfl)) rfl
theorem wd_817 : Cond.instanceMethod yX7_firstWrongOfWaiting ∈ wz := wz_in (tc_4 (List.mem_of_getElem? (i := 23) rfl)) rfl
theorem wd_818 : Cond.code yX7_firstWrongOfWaiting prog_1_method_49_code 2 (some .int) ∈ wz := wz_in (tc_4 (List.mem_of_getElem? (i := 24) rfl)) rfl
theorem wd_819 : Cond.methodLink RL 166 yX7_count ∈ wz := wz_in (tc_4 (List.mem_of_getElem? (i := 25) rfl)) rfl
theorem wd_820 : Cond.instanceMethod yX7_count ∈ wz := wz_in (tc_4 (List.mem_of_getElem? (i := 26) rfl)) rfl
theorem wd_821 : Cond.selects RX7 yX7_count yX7_count ∈ wz := wz_in (tc_4 (List.mem_of_getElem? (i := 27) rfl)) rfl
theorem wd_822 : Cond.code yX7_count prog_1_method_38_code 2 (some .int) ∈ wz := wz_in (tc_4 (List.mem_of_getElem? (i := 28) rfl)) rfl
theorem wd_823 : Cond.methodLink RX7 297 yX0_whoWearGloves ∈ wz := wz_in (tc_4 (List.mem_of_getElem? (i := 29) rfl)) rfl
theorem wd_824 : Cond.instanceMethod yX0_whoWearGloves ∈ wz := wz_in (tc_4 (List.mem_of_getElem? (i := 30) rfl)) rfl
theorem wd_825 : Cond.selects RX0 yX0_whoWearGloves yX0_whoWearGloves ∈ wz := wz_in (tc_4 (List.mem_of_getElem? (i := 31) rfl)) rfl
theorem wd_826 : Cond.code yX0_whoWearGloves prog_2_method_14_code 3 (some .int) ∈ wz := wz_in (tc_4 (List.mem_of_getElem? (i := 32) rfl)) rfl
theorem wd_827 : Cond.methodLink RL 170 yX7_told ∈ wz := wz_in (tc_4 (List.mem_of_getElem? (i := 33) rfl)) rfl
theorem wd_828 : Cond.instanceMethod yX7_told ∈ wz := wz_in (tc_4 (List.mem_of_getElem? (i := 34) rfl)) rfl
theorem wd_829 : Cond.selects RX7 yX7_told yX7_told ∈ wz := wz_in (tc_4 (List.mem_of_getElem? (i := 35) rfl)) rfl
theorem wd_830 : Cond.code yX7_told prog_1_method_39_code 2 (some .int) ∈ wz := wz_in (tc_4 (List.mem_of_getElem? (i := 36) rfl)) rfl
theorem wd_831 : Cond.classLink RL 10 RX8 ∈ wz := wz_in (tc_4 (List.mem_of_getElem? (i := 37) rfl)) rfl
theorem wd_832 : Cond.instantiable RX8 27 ∈ wz := wz_in (tc_4 (List.mem_of_getElem? (i := 38) rfl)) rfl
theorem wd_833 : Cond.methodLink RL 12 yX8_init ∈ wz := wz_in (tc_4 (List.mem_of_getElem? (i := 39) rfl)) rfl
theorem wd_834 : Cond.instanceMethod yX8_init ∈ wz := wz_in (tc_4 (List.mem_of_getElem? (i := 40) rfl)) rfl
theorem wd_835 : Cond.code yX8_init prog_10_method_1_code 1 none ∈ wz := wz_in (tc_4 (List.mem_of_getElem? (i := 41) rfl)) rfl
theorem wd_836 : Cond.methodLink RX8 3 objectInit ∈ wz := wz_in (tc_4 (List.mem_of_getElem? (i := 42) rfl)) rfl
theorem wd_837 : Cond.classLink RX8 31 RJ0 ∈ wz := wz_in (tc_4 (List.mem_of_getElem? (i := 43) rfl)) rfl
theorem wd_839 : Cond.stringRef RX8 33 "shn" ∈ lw_tbl := tc_4 (List.mem_of_getElem? (i := 45) rfl)
theorem wd_840 : Cond.stringRef RX8 35 "fms" ∈ lw_tbl := tc_4 (List.mem_of_getElem? (i := 46) rfl)
theorem wd_841 : Cond.fieldLink RX8 9 "ImmunityCatchingModel" "now" "[I" ∈ wz := wz_in (tc_4 (List.mem_of_getElem? (i := 47) rfl)) rfl
theorem wd_842 : Cond.fieldLink RX8 13 "ImmunityCatchingModel" "kept" "[I" ∈ wz := wz_in (tc_4 (List.mem_of_getElem? (i := 48) rfl)) rfl
theorem wd_843 : Cond.fieldLink RX8 16 "ImmunityCatchingModel" "aside" "[I" ∈ wz := wz_in (tc_4 (List.mem_of_getElem? (i := 49) rfl)) rfl
theorem wd_844 : Cond.fieldLink RX8 302 "ImmunityCatchingModel" "images" "I" ∈ wz := wz_in (tc_4 (List.mem_of_getElem? (i := 50) rfl)) rfl
theorem wd_845 : Cond.fieldLink RX8 19 "ImmunityCatchingModel" "errors" "[I" ∈ wz := wz_in (tc_4 (List.mem_of_getElem? (i := 51) rfl)) rfl
theorem wd_846 : Cond.fieldLink RX8 22 "ImmunityCatchingModel" "meetsFound" "[I" ∈ wz := wz_in (tc_4 (List.mem_of_getElem? (i := 52) rfl)) rfl
theorem wd_847 : Cond.fieldLink RX8 25 "ImmunityCatchingModel" "deedsFound" "[I" ∈ wz := wz_in (tc_4 (List.mem_of_getElem? (i := 53) rfl)) rfl
theorem wd_848 : Cond.fieldLink RX8 28 "ImmunityCatchingModel" "ahead" "[I" ∈ wz := wz_in (tc_4 (List.mem_of_getElem? (i := 54) rfl)) rfl
theorem wd_849 : Cond.fieldLink RX8 37 "ImmunityCatchingModel" "NAMED" "[Ljava/lang/String;" ∈ wz := wz_in (tc_4 (List.mem_of_getElem? (i := 55) rfl)) rfl
theorem wd_850 : Cond.fieldLink RX8 98 "ImmunityCatchingModel" "at" "I" ∈ wz := wz_in (tc_4 (List.mem_of_getElem? (i := 56) rfl)) rfl
theorem wd_851 : Cond.fieldLink RX8 142 "ImmunityCatchingModel" "open" "I" ∈ wz := wz_in (tc_4 (List.mem_of_getElem? (i := 57) rfl)) rfl
theorem wd_852 : Cond.fieldLink RX8 132 "ImmunityCatchingModel" "use" "I" ∈ wz := wz_in (tc_4 (List.mem_of_getElem? (i := 58) rfl)) rfl
theorem wd_853 : Cond.fieldLink RX8 94 "ImmunityCatchingModel" "isWrong" "Z" ∈ wz := wz_in (tc_4 (List.mem_of_getElem? (i := 59) rfl)) rfl
theorem wd_854 : Cond.fieldLink RX8 41 "ImmunityCatchingModel" "code" "[I" ∈ wz := wz_in (tc_4 (List.mem_of_getElem? (i := 60) rfl)) rfl
theorem wd_855 : Cond.fieldLink RX8 106 "ImmunityCatchingModel" "coded" "I" ∈ wz := wz_in (tc_4 (List.mem_of_getElem? (i := 61) rfl)) rfl
theorem wd_856 : Cond.fieldLink RX8 44 "ImmunityCatchingModel" "named" "[I" ∈ wz := wz_in (tc_4 (List.mem_of_getElem? (i := 62) rfl)) rfl
theorem wd_857 : Cond.fieldLink RX8 47 "ImmunityCatchingModel" "pile" "[I" ∈ wz := wz_in (tc_4 (List.mem_of_getElem? (i := 63) rfl)) rfl
theorem wd_858 : Cond.fieldLink RX8 50 "ImmunityCatchingModel" "often" "[I" ∈ wz := wz_in (tc_4 (List.mem_of_getElem? (i := 64) rfl)) rfl
theorem wd_859 : Cond.fieldLink RX8 53 "ImmunityCatchingModel" "trace" "[I" ∈ wz := wz_in (tc_4 (List.mem_of_getElem? (i := 65) rfl)) rfl
theorem wd_860 : Cond.fieldLink RX8 272 "ImmunityCatchingModel" "traced" "I" ∈ wz := wz_in (tc_4 (List.mem_of_getElem? (i := 66) rfl)) rfl
theorem wd_861 : Cond.fieldLink RX8 275 "ImmunityCatchingModel" "kind" "I" ∈ wz := wz_in (tc_4 (List.mem_of_getElem? (i := 67) rfl)) rfl
theorem wd_862 : Cond.fieldLink RX8 281 "ImmunityCatchingModel" "number" "I" ∈ wz := wz_in (tc_4 (List.mem_of_getElem? (i := 68) rfl)) rfl
theorem wd_863 : Cond.fieldLink RX8 290 "ImmunityCatchingModel" "told" "I" ∈ wz := wz_in (tc_4 (List.mem_of_getElem? (i := 69) rfl)) rfl
theorem wd_864 : Cond.fieldLink RX8 56 "ImmunityCatchingModel" "widths" "[I" ∈ wz := wz_in (tc_4 (List.mem_of_getElem? (i := 70) rfl)) rfl
theorem wd_865 : Cond.fieldLink RX8 59 "ImmunityCatchingModel" "sizes" "[I" ∈ wz := wz_in (tc_4 (List.mem_of_getElem? (i := 71) rfl)) rfl
theorem wd_866 : Cond.fieldLink RX8 62 "ImmunityCatchingModel" "numbers" "[I" ∈ wz := wz_in (tc_4 (List.mem_of_getElem? (i := 72) rfl)) rfl
theorem wd_867 : Cond.fieldLink RX8 65 "ImmunityCatchingModel" "carried" "[I" ∈ wz := wz_in (tc_4 (List.mem_of_getElem? (i := 73) rfl)) rfl
theorem wd_923 : Cond.arrayClass .byte ∈ wz := wz_in (tc_4 (List.mem_of_getElem? (i := 129) rfl)) rfl
theorem wd_924 : Cond.methodLink RL 54 yX8_feed ∈ wz := wz_in (tc_4 (List.mem_of_getElem? (i := 130) rfl)) rfl
theorem wd_925 : Cond.instanceMethod yX8_feed ∈ wz := wz_in (tc_4 (List.mem_of_getElem? (i := 131) rfl)) rfl
theorem wd_926 : Cond.selects RX8 yX8_feed yX8_feed ∈ wz := wz_in (tc_4 (List.mem_of_getElem? (i := 132) rfl)) rfl
theorem wd_927 : Cond.code yX8_feed prog_10_method_8_code 5 (some .int) ∈ wz := wz_in (tc_4 (List.mem_of_getElem? (i := 133) rfl)) rfl
theorem wd_928 : Cond.methodLink RX8 82 yX8_within ∈ wz := wz_in (tc_4 (List.mem_of_getElem? (i := 134) rfl)) rfl
theorem wd_929 : Cond.static yX8_within ∈ wz := wz_in (tc_4 (List.mem_of_getElem? (i := 135) rfl)) rfl
theorem wd_930 : Cond.code yX8_within prog_10_method_3_code 3 (some .boolean) ∈ wz := wz_in (tc_4 (List.mem_of_getElem? (i := 136) rfl)) rfl
theorem wd_931 : Cond.constant RX8 86 (-1000000001) ∈ wz := wz_in (tc_4 (List.mem_of_getElem? (i := 137) rfl)) rfl
theorem wd_932 : Cond.methodLink RX8 87 yX8_finding ∈ wz := wz_in (tc_4 (List.mem_of_getElem? (i := 138) rfl)) rfl
theorem wd_934 : Cond.instanceMethod yX8_finding ∈ wz := wz_in (tc_4 (List.mem_of_getElem? (i := 140) rfl)) rfl
theorem wd_935 : Cond.code yX8_finding prog_10_method_2_code 2 (some .int) ∈ wz := wz_in (tc_4 (List.mem_of_getElem? (i := 141) rfl)) rfl
theorem wd_936 : Cond.constant RX8 68 (-1000000000) ∈ wz := wz_in (tc_4 (List.mem_of_getElem? (i := 142) rfl)) rfl
theorem wd_937 : Cond.constant RX8 91 (-1000000004) ∈ wz := wz_in (tc_4 (List.mem_of_getElem? (i := 143) rfl)) rfl
theorem wd_938 : Cond.constantLong RX8 92 255 ∈ wz := wz_in (tc_4 (List.mem_of_getElem? (i := 144) rfl)) rfl
theorem wd_939 : Cond.methodLink RL 58 yX8_text ∈ wz := wz_in (tc_4 (List.mem_of_getElem? (i := 145) rfl)) rfl
theorem wd_940 : Cond.instanceMethod yX8_text ∈ wz := wz_in (tc_4 (List.mem_of_getElem? (i := 146) rfl)) rfl
theorem wd_941 : Cond.selects RX8 yX8_text yX8_text ∈ wz := wz_in (tc_4 (List.mem_of_getElem? (i := 147) rfl)) rfl
theorem wd_942 : Cond.code yX8_text prog_10_method_19_code 3 (some .int) ∈ wz := wz_in (tc_4 (List.mem_of_getElem? (i := 148) rfl)) rfl
theorem wd_943 : Cond.methodLink RX8 145 yX8_either ∈ wz := wz_in (tc_4 (List.mem_of_getElem? (i := 149) rfl)) rfl
theorem wd_945 : Cond.instanceMethod yX8_either ∈ wz := wz_in (tc_4 (List.mem_of_getElem? (i := 151) rfl)) rfl
theorem wd_946 : Cond.code yX8_either prog_10_method_12_code 1 none ∈ wz := wz_in (tc_4 (List.mem_of_getElem? (i := 152) rfl)) rfl
theorem wd_947 : Cond.methodLink RX8 109 yX8_both ∈ wz := wz_in (tc_4 (List.mem_of_getElem? (i := 153) rfl)) rfl
theorem wd_949 : Cond.instanceMethod yX8_both ∈ wz := wz_in (tc_4 (List.mem_of_getElem? (i := 155) rfl)) rfl
theorem wd_950 : Cond.code yX8_both prog_10_method_13_code 1 none ∈ wz := wz_in (tc_4 (List.mem_of_getElem? (i := 156) rfl)) rfl
theorem wd_951 : Cond.methodLink RX8 120 yX8_compared ∈ wz := wz_in (tc_4 (List.mem_of_getElem? (i := 157) rfl)) rfl
theorem wd_953 : Cond.instanceMethod yX8_compared ∈ wz := wz_in (tc_4 (List.mem_of_getElem? (i := 159) rfl)) rfl
theorem wd_954 : Cond.code yX8_compared prog_10_method_14_code 2 none ∈ wz := wz_in (tc_4 (List.mem_of_getElem? (i := 160) rfl)) rfl
theorem wd_955 : Cond.methodLink RX8 123 yX8_sum ∈ wz := wz_in (tc_4 (List.mem_of_getElem? (i := 161) rfl)) rfl
theorem wd_957 : Cond.instanceMethod yX8_sum ∈ wz := wz_in (tc_4 (List.mem_of_getElem? (i := 163) rfl)) rfl
theorem wd_958 : Cond.code yX8_sum prog_10_method_15_code 2 none ∈ wz := wz_in (tc_4 (List.mem_of_getElem? (i := 164) rfl)) rfl
theorem wd_959 : Cond.methodLink RX8 126 yX8_product ∈ wz := wz_in (tc_4 (List.mem_of_getElem? (i := 165) rfl)) rfl
theorem wd_961 : Cond.instanceMethod yX8_product ∈ wz := wz_in (tc_4 (List.mem_of_getElem? (i := 167) rfl)) rfl
theorem wd_962 : Cond.code yX8_product prog_10_method_16_code 2 none ∈ wz := wz_in (tc_4 (List.mem_of_getElem? (i := 168) rfl)) rfl
theorem wd_963 : Cond.methodLink RX8 129 yX8_one ∈ wz := wz_in (tc_4 (List.mem_of_getElem? (i := 169) rfl)) rfl
theorem wd_965 : Cond.instanceMethod yX8_one ∈ wz := wz_in (tc_4 (List.mem_of_getElem? (i := 171) rfl)) rfl
theorem wd_966 : Cond.code yX8_one prog_10_method_18_code 4 none ∈ wz := wz_in (tc_4 (List.mem_of_getElem? (i := 172) rfl)) rfl
theorem wd_967 : Cond.methodLink RX8 102 yX8_here ∈ wz := wz_in (tc_4 (List.mem_of_getElem? (i := 173) rfl)) rfl
theorem wd_969 : Cond.instanceMethod yX8_here ∈ wz := wz_in (tc_4 (List.mem_of_getElem? (i := 175) rfl)) rfl
theorem wd_970 : Cond.code yX8_here prog_10_method_9_code 1 (some .int) ∈ wz := wz_in (tc_4 (List.mem_of_getElem? (i := 176) rfl)) rfl
theorem wd_971 : Cond.methodLink RX8 116 yX8_codes ∈ wz := wz_in (tc_4 (List.mem_of_getElem? (i := 177) rfl)) rfl
theorem wd_973 : Cond.instanceMethod yX8_codes ∈ wz := wz_in (tc_4 (List.mem_of_getElem? (i := 179) rfl)) rfl
theorem wd_974 : Cond.code yX8_codes prog_10_method_11_code 2 none ∈ wz := wz_in (tc_4 (List.mem_of_getElem? (i := 180) rfl)) rfl
theorem wd_975 : Cond.methodLink RX8 112 yX8_takes ∈ wz := wz_in (tc_4 (List.mem_of_getElem? (i := 181) rfl)) rfl
theorem wd_977 : Cond.instanceMethod yX8_takes ∈ wz := wz_in (tc_4 (List.mem_of_getElem? (i := 183) rfl)) rfl
theorem wd_978 : Cond.code yX8_takes prog_10_method_10_code 3 (some .boolean) ∈ wz := wz_in (tc_4 (List.mem_of_getElem? (i := 184) rfl)) rfl
theorem wd_979 : Cond.methodLink RX8 148 yX8_nameOf ∈ wz := wz_in (tc_4 (List.mem_of_getElem? (i := 185) rfl)) rfl
theorem wd_981 : Cond.instanceMethod yX8_nameOf ∈ wz := wz_in (tc_4 (List.mem_of_getElem? (i := 187) rfl)) rfl
theorem wd_982 : Cond.code yX8_nameOf prog_10_method_17_code 4 (some .int) ∈ wz := wz_in (tc_4 (List.mem_of_getElem? (i := 188) rfl)) rfl
theorem wd_983 : Cond.methodLink RX8 135 yJ0_length_8abf5 ∈ wz := wz_in (tc_4 (List.mem_of_getElem? (i := 189) rfl)) rfl
theorem wd_984 : Cond.instanceMethod yJ0_length_8abf5 ∈ wz := wz_in (tc_4 (List.mem_of_getElem? (i := 190) rfl)) rfl
theorem wd_985 : Cond.selects RJ0 yJ0_length_8abf5 yJ0_length_8abf5 ∈ wz := wz_in (tc_4 (List.mem_of_getElem? (i := 191) rfl)) rfl
theorem wd_986 : Cond.code yJ0_length_8abf5 prog_13_method_54_code 1 (some .int) ∈ wz := wz_in (tc_4 (List.mem_of_getElem? (i := 192) rfl)) rfl
theorem wd_987 : Cond.methodLink RJ0 335 yJ0_coder_7d493 ∈ wz := wz_in (tc_4 (List.mem_of_getElem? (i := 193) rfl)) rfl
theorem wd_988 : Cond.instanceMethod yJ0_coder_7d493 ∈ wz := wz_in (tc_4 (List.mem_of_getElem? (i := 194) rfl)) rfl
theorem wd_989 : Cond.selects RJ0 yJ0_coder_7d493 yJ0_coder_7d493 ∈ wz := wz_in (tc_4 (List.mem_of_getElem? (i := 195) rfl)) rfl
theorem wd_990 : Cond.code yJ0_coder_7d493 prog_13_method_152_code 1 (some .byte) ∈ wz := wz_in (tc_4 (List.mem_of_getElem? (i := 196) rfl)) rfl
theorem wd_991 : Cond.fieldLink RJ0 38 "java/lang/String" "COMPACT_STRINGS" "Z" ∈ wz := wz_in (tc_4 (List.mem_of_getElem? (i := 197) rfl)) rfl
theorem wd_993 : Cond.methodLink RX8 138 yJ0_charAt_5068e ∈ wz := wz_in (tc_4 (List.mem_of_getElem? (i := 199) rfl)) rfl
theorem wd_994 : Cond.instanceMethod yJ0_charAt_5068e ∈ wz := wz_in (tc_4 (List.mem_of_getElem? (i := 200) rfl)) rfl
theorem wd_995 : Cond.selects RJ0 yJ0_charAt_5068e yJ0_charAt_5068e ∈ wz := wz_in (tc_4 (List.mem_of_getElem? (i := 201) rfl)) rfl
theorem wd_996 : Cond.code yJ0_charAt_5068e prog_13_method_56_code 2 (some .char) ∈ wz := wz_in (tc_4 (List.mem_of_getElem? (i := 202) rfl)) rfl
theorem wd_997 : Cond.methodLink RJ0 492 yJ0_isLatin1_aae02 ∈ wz := wz_in (tc_4 (List.mem_of_getElem? (i := 203) rfl)) rfl
theorem wd_998 : Cond.instanceMethod yJ0_isLatin1_aae02 ∈ wz := wz_in (tc_4 (List.mem_of_getElem? (i := 204) rfl)) rfl
theorem wd_999 : Cond.selects RJ0 yJ0_isLatin1_aae02 yJ0_isLatin1_aae02 ∈ wz := wz_in (tc_4 (List.mem_of_getElem? (i := 205) rfl)) rfl
theorem wd_1000 : Cond.code yJ0_isLatin1_aae02 prog_13_method_154_code 1 (some .boolean) ∈ wz := wz_in (tc_4 (List.mem_of_getElem? (i := 206) rfl)) rfl
theorem wd_1001 : Cond.methodLink RJ0 495 yJ1_charAt_3b067 ∈ wz := wz_in (tc_4 (List.mem_of_getElem? (i := 207) rfl)) rfl
theorem wd_1002 : Cond.static yJ1_charAt_3b067 ∈ wz := wz_in (tc_4 (List.mem_of_getElem? (i := 208) rfl)) rfl
theorem wd_1003 : Cond.code yJ1_charAt_3b067 prog_14_method_2_code 2 (some .char) ∈ wz := wz_in (tc_4 (List.mem_of_getElem? (i := 209) rfl)) rfl
theorem wd_1004 : Cond.methodLink RJ1 9 yJ0_checkIndex_df160 ∈ wz := wz_in (tc_4 (List.mem_of_getElem? (i := 210) rfl)) rfl
theorem wd_1005 : Cond.static yJ0_checkIndex_df160 ∈ wz := wz_in (tc_4 (List.mem_of_getElem? (i := 211) rfl)) rfl
theorem wd_1006 : Cond.code yJ0_checkIndex_df160 prog_13_method_155_code 2 none ∈ wz := wz_in (tc_4 (List.mem_of_getElem? (i := 212) rfl)) rfl
theorem wd_1007 : Cond.fieldLink RJ0 1053 "jdk/internal/util/Preconditions" "SIOOBE_FORMATTER" "Ljava/util/function/BiFunction;" ∈ wz := wz_in (tc_4 (List.mem_of_getElem? (i := 213) rfl)) rfl
theorem wd_1009 : Cond.methodLink RJ0 1059 yJ3_checkIndex_8e157 ∈ wz := wz_in (tc_4 (List.mem_of_getElem? (i := 215) rfl)) rfl
theorem wd_1010 : Cond.static yJ3_checkIndex_8e157 ∈ wz := wz_in (tc_4 (List.mem_of_getElem? (i := 216) rfl)) rfl
theorem wd_1011 : Cond.code yJ3_checkIndex_8e157 prog_17_method_11_code 3 (some .int) ∈ wz := wz_in (tc_4 (List.mem_of_getElem? (i := 217) rfl)) rfl
theorem wd_1012 : Cond.methodLink RJ0 498 yJ2_charAt_3b067 ∈ wz := wz_in (tc_4 (List.mem_of_getElem? (i := 218) rfl)) rfl
theorem wd_1013 : Cond.static yJ2_charAt_3b067 ∈ wz := wz_in (tc_4 (List.mem_of_getElem? (i := 219) rfl)) rfl
theorem wd_1014 : Cond.code yJ2_charAt_3b067 prog_15_method_83_code 2 (some .char) ∈ wz := wz_in (tc_4 (List.mem_of_getElem? (i := 220) rfl)) rfl
theorem wd_1015 : Cond.methodLink RJ2 67 yJ2_checkIndex_2214a ∈ wz := wz_in (tc_4 (List.mem_of_getElem? (i := 221) rfl)) rfl
theorem wd_1016 : Cond.static yJ2_checkIndex_2214a ∈ wz := wz_in (tc_4 (List.mem_of_getElem? (i := 222) rfl)) rfl
theorem wd_1017 : Cond.code yJ2_checkIndex_2214a prog_15_method_91_code 2 none ∈ wz := wz_in (tc_4 (List.mem_of_getElem? (i := 223) rfl)) rfl
theorem wd_1018 : Cond.methodLink RJ2 48 yJ2_length_9d52b ∈ wz := wz_in (tc_4 (List.mem_of_getElem? (i := 224) rfl)) rfl
theorem wd_1019 : Cond.static yJ2_length_9d52b ∈ wz := wz_in (tc_4 (List.mem_of_getElem? (i := 225) rfl)) rfl
theorem wd_1020 : Cond.code yJ2_length_9d52b prog_15_method_6_code 1 (some .int) ∈ wz := wz_in (tc_4 (List.mem_of_getElem? (i := 226) rfl)) rfl
theorem wd_1021 : Cond.methodLink RJ2 414 yJ0_checkIndex_df160 ∈ wz := wz_in (tc_4 (List.mem_of_getElem? (i := 227) rfl)) rfl
theorem wd_1022 : Cond.methodLink RJ2 71 yJ2_getChar_3b067 ∈ wz := wz_in (tc_4 (List.mem_of_getElem? (i := 228) rfl)) rfl
theorem wd_1023 : Cond.static yJ2_getChar_3b067 ∈ wz := wz_in (tc_4 (List.mem_of_getElem? (i := 229) rfl)) rfl
theorem wd_1024 : Cond.code yJ2_getChar_3b067 prog_15_method_5_code 2 (some .char) ∈ wz := wz_in (tc_4 (List.mem_of_getElem? (i := 230) rfl)) rfl
theorem wd_1025 : Cond.fieldLink RJ2 44 "java/lang/StringUTF16" "$assertionsDisabled" "Z" ∈ wz := wz_in (tc_4 (List.mem_of_getElem? (i := 231) rfl)) rfl
theorem wd_1027 : Cond.fieldLink RJ2 59 "java/lang/StringUTF16" "HI_BYTE_SHIFT" "I" ∈ wz := wz_in (tc_4 (List.mem_of_getElem? (i := 233) rfl)) rfl
theorem wd_1029 : Cond.fieldLink RJ2 63 "java/lang/StringUTF16" "LO_BYTE_SHIFT" "I" ∈ wz := wz_in (tc_4 (List.mem_of_getElem? (i := 235) rfl)) rfl
theorem wd_1031 : Cond.methodLink RX8 151 yX8_forget ∈ wz := wz_in (tc_4 (List.mem_of_getElem? (i := 237) rfl)) rfl
theorem wd_1033 : Cond.instanceMethod yX8_forget ∈ wz := wz_in (tc_4 (List.mem_of_getElem? (i := 239) rfl)) rfl
theorem wd_1034 : Cond.code yX8_forget prog_10_method_25_code 2 none ∈ wz := wz_in (tc_5 (List.mem_of_getElem? (i := 0) rfl)) rfl
theorem wd_1035 : Cond.methodLink RL 63 yX8_law ∈ wz := wz_in (tc_5 (List.mem_of_getElem? (i := 1) rfl)) rfl
theorem wd_1036 : Cond.instanceMethod yX8_law ∈ wz := wz_in (tc_5 (List.mem_of_getElem? (i := 2) rfl)) rfl
theorem wd_1037 : Cond.selects RX8 yX8_law yX8_law ∈ wz := wz_in (tc_5 (List.mem_of_getElem? (i := 3) rfl)) rfl
theorem wd_1038 : Cond.code yX8_law prog_10_method_24_code 5 (some .int) ∈ wz := wz_in (tc_5 (List.mem_of_getElem? (i := 4) rfl)) rfl
theorem wd_1039 : Cond.methodLink RX8 167 yX8_given ∈ wz := wz_in (tc_5 (List.mem_of_getElem? (i := 5) rfl)) rfl
theorem wd_1041 : Cond.instanceMethod yX8_given ∈ wz := wz_in (tc_5 (List.mem_of_getElem? (i := 7) rfl)) rfl
theorem wd_1042 : Cond.code yX8_given prog_10_method_23_code 6 (some .int) ∈ wz := wz_in (tc_5 (List.mem_of_getElem? (i := 8) rfl)) rfl
theorem wd_1043 : Cond.methodLink RX8 158 yX8_hasText ∈ wz := wz_in (tc_5 (List.mem_of_getElem? (i := 9) rfl)) rfl
theorem wd_1045 : Cond.instanceMethod yX8_hasText ∈ wz := wz_in (tc_5 (List.mem_of_getElem? (i := 11) rfl)) rfl
theorem wd_1046 : Cond.code yX8_hasText prog_10_method_22_code 2 (some .boolean) ∈ wz := wz_in (tc_5 (List.mem_of_getElem? (i := 12) rfl)) rfl
theorem wd_1047 : Cond.methodLink RX8 161 yX8_worked ∈ wz := wz_in (tc_5 (List.mem_of_getElem? (i := 13) rfl)) rfl
theorem wd_1049 : Cond.instanceMethod yX8_worked ∈ wz := wz_in (tc_5 (List.mem_of_getElem? (i := 15) rfl)) rfl
theorem wd_1050 : Cond.code yX8_worked prog_10_method_21_code 5 (some .int) ∈ wz := wz_in (tc_5 (List.mem_of_getElem? (i := 16) rfl)) rfl
theorem wd_1051 : Cond.methodLink RX8 154 yX8_done ∈ wz := wz_in (tc_5 (List.mem_of_getElem? (i := 17) rfl)) rfl
theorem wd_1052 : Cond.static yX8_done ∈ wz := wz_in (tc_5 (List.mem_of_getElem? (i := 18) rfl)) rfl
theorem wd_1053 : Cond.code yX8_done prog_10_method_20_code 3 (some .int) ∈ wz := wz_in (tc_5 (List.mem_of_getElem? (i := 19) rfl)) rfl
theorem wd_1054 : Cond.methodLink RX8 164 yX8_held ∈ wz := wz_in (tc_5 (List.mem_of_getElem? (i := 20) rfl)) rfl
theorem wd_1055 : Cond.static yX8_held ∈ wz := wz_in (tc_5 (List.mem_of_getElem? (i := 21) rfl)) rfl
theorem wd_1056 : Cond.code yX8_held prog_10_method_4_code 3 (some .int) ∈ wz := wz_in (tc_5 (List.mem_of_getElem? (i := 22) rfl)) rfl
theorem wd_1057 : Cond.methodLink RX8 69 yJ9_min_7cf53 ∈ wz := wz_in (tc_5 (List.mem_of_getElem? (i := 23) rfl)) rfl
theorem wd_1058 : Cond.methodLink RX8 75 yJ9_max_7cf53 ∈ wz := wz_in (tc_5 (List.mem_of_getElem? (i := 24) rfl)) rfl
theorem wd_1059 : Cond.methodLink RL 17 yX8_soul ∈ wz := wz_in (tc_5 (List.mem_of_getElem? (i := 25) rfl)) rfl
theorem wd_1060 : Cond.instanceMethod yX8_soul ∈ wz := wz_in (tc_5 (List.mem_of_getElem? (i := 26) rfl)) rfl
theorem wd_1061 : Cond.selects RX8 yX8_soul yX8_soul ∈ wz := wz_in (tc_5 (List.mem_of_getElem? (i := 27) rfl)) rfl
theorem wd_1062 : Cond.code yX8_soul prog_10_method_36_code 3 (some .int) ∈ wz := wz_in (tc_5 (List.mem_of_getElem? (i := 28) rfl)) rfl
theorem wd_1063 : Cond.methodLink RX8 174 yX8_isKindM ∈ wz := wz_in (tc_5 (List.mem_of_getElem? (i := 29) rfl)) rfl
theorem wd_1064 : Cond.static yX8_isKindM ∈ wz := wz_in (tc_5 (List.mem_of_getElem? (i := 30) rfl)) rfl
theorem wd_1065 : Cond.code yX8_isKindM prog_10_method_34_code 1 (some .boolean) ∈ wz := wz_in (tc_5 (List.mem_of_getElem? (i := 31) rfl)) rfl
theorem wd_1066 : Cond.methodLink RX8 177 yX8_isStreet ∈ wz := wz_in (tc_5 (List.mem_of_getElem? (i := 32) rfl)) rfl
theorem wd_1067 : Cond.static yX8_isStreet ∈ wz := wz_in (tc_5 (List.mem_of_getElem? (i := 33) rfl)) rfl
theorem wd_1068 : Cond.code yX8_isStreet prog_10_method_31_code 1 (some .boolean) ∈ wz := wz_in (tc_5 (List.mem_of_getElem? (i := 34) rfl)) rfl
theorem wd_1069 : Cond.methodLink RX8 180 yX8_soulComes ∈ wz := wz_in (tc_5 (List.mem_of_getElem? (i := 35) rfl)) rfl
theorem wd_1071 : Cond.instanceMethod yX8_soulComes ∈ wz := wz_in (tc_5 (List.mem_of_getElem? (i := 37) rfl)) rfl
theorem wd_1072 : Cond.code yX8_soulComes prog_10_method_35_code 5 (some .int) ∈ wz := wz_in (tc_5 (List.mem_of_getElem? (i := 38) rfl)) rfl
theorem wd_1073 : Cond.methodLink RX8 171 yX8_soulAt ∈ wz := wz_in (tc_5 (List.mem_of_getElem? (i := 39) rfl)) rfl
theorem wd_1074 : Cond.static yX8_soulAt ∈ wz := wz_in (tc_5 (List.mem_of_getElem? (i := 40) rfl)) rfl
theorem wd_1075 : Cond.code yX8_soulAt prog_10_method_32_code 2 (some .int) ∈ wz := wz_in (tc_5 (List.mem_of_getElem? (i := 41) rfl)) rfl
theorem wd_1076 : Cond.methodLink RL 21 yX8_ofSoul ∈ wz := wz_in (tc_5 (List.mem_of_getElem? (i := 42) rfl)) rfl
theorem wd_1077 : Cond.instanceMethod yX8_ofSoul ∈ wz := wz_in (tc_5 (List.mem_of_getElem? (i := 43) rfl)) rfl
theorem wd_1078 : Cond.selects RX8 yX8_ofSoul yX8_ofSoul ∈ wz := wz_in (tc_5 (List.mem_of_getElem? (i := 44) rfl)) rfl
theorem wd_1079 : Cond.code yX8_ofSoul prog_10_method_42_code 3 (some .int) ∈ wz := wz_in (tc_5 (List.mem_of_getElem? (i := 45) rfl)) rfl
theorem wd_1080 : Cond.methodLink RX8 193 yX8_isSoul ∈ wz := wz_in (tc_5 (List.mem_of_getElem? (i := 46) rfl)) rfl
theorem wd_1082 : Cond.instanceMethod yX8_isSoul ∈ wz := wz_in (tc_5 (List.mem_of_getElem? (i := 48) rfl)) rfl
theorem wd_1083 : Cond.code yX8_isSoul prog_10_method_30_code 2 (some .boolean) ∈ wz := wz_in (tc_5 (List.mem_of_getElem? (i := 49) rfl)) rfl
theorem wd_1084 : Cond.methodLink RX8 186 yX8_soulIs ∈ wz := wz_in (tc_5 (List.mem_of_getElem? (i := 50) rfl)) rfl
theorem wd_1086 : Cond.instanceMethod yX8_soulIs ∈ wz := wz_in (tc_5 (List.mem_of_getElem? (i := 52) rfl)) rfl
theorem wd_1087 : Cond.code yX8_soulIs prog_10_method_33_code 3 (some .int) ∈ wz := wz_in (tc_5 (List.mem_of_getElem? (i := 53) rfl)) rfl
theorem wd_1088 : Cond.methodLink RX8 196 yX8_keepsNow ∈ wz := wz_in (tc_5 (List.mem_of_getElem? (i := 54) rfl)) rfl
theorem wd_1090 : Cond.instanceMethod yX8_keepsNow ∈ wz := wz_in (tc_5 (List.mem_of_getElem? (i := 56) rfl)) rfl
theorem wd_1091 : Cond.code yX8_keepsNow prog_10_method_39_code 3 (some .int) ∈ wz := wz_in (tc_5 (List.mem_of_getElem? (i := 57) rfl)) rfl
theorem wd_1092 : Cond.methodLink RX8 189 yX8_isUnder ∈ wz := wz_in (tc_5 (List.mem_of_getElem? (i := 58) rfl)) rfl
theorem wd_1093 : Cond.static yX8_isUnder ∈ wz := wz_in (tc_5 (List.mem_of_getElem? (i := 59) rfl)) rfl
theorem wd_1094 : Cond.code yX8_isUnder prog_10_method_38_code 3 (some .boolean) ∈ wz := wz_in (tc_5 (List.mem_of_getElem? (i := 60) rfl)) rfl
theorem wd_1095 : Cond.methodLink RX8 183 yX8_above ∈ wz := wz_in (tc_5 (List.mem_of_getElem? (i := 61) rfl)) rfl
theorem wd_1096 : Cond.static yX8_above ∈ wz := wz_in (tc_5 (List.mem_of_getElem? (i := 62) rfl)) rfl
theorem wd_1097 : Cond.code yX8_above prog_10_method_37_code 1 (some .int) ∈ wz := wz_in (tc_5 (List.mem_of_getElem? (i := 63) rfl)) rfl
theorem wd_1098 : Cond.methodLink RX8 199 yX8_handsBy ∈ wz := wz_in (tc_5 (List.mem_of_getElem? (i := 64) rfl)) rfl
theorem wd_1100 : Cond.instanceMethod yX8_handsBy ∈ wz := wz_in (tc_5 (List.mem_of_getElem? (i := 66) rfl)) rfl
theorem wd_1101 : Cond.code yX8_handsBy prog_10_method_40_code 5 (some .int) ∈ wz := wz_in (tc_5 (List.mem_of_getElem? (i := 67) rfl)) rfl
theorem wd_1102 : Cond.methodLink RX8 202 yX8_runsNow ∈ wz := wz_in (tc_5 (List.mem_of_getElem? (i := 68) rfl)) rfl
theorem wd_1104 : Cond.instanceMethod yX8_runsNow ∈ wz := wz_in (tc_5 (List.mem_of_getElem? (i := 70) rfl)) rfl
theorem wd_1105 : Cond.code yX8_runsNow prog_10_method_41_code 2 (some .int) ∈ wz := wz_in (tc_5 (List.mem_of_getElem? (i := 71) rfl)) rfl
theorem wd_1106 : Cond.methodLink RL 26 yX8_change ∈ wz := wz_in (tc_5 (List.mem_of_getElem? (i := 72) rfl)) rfl
theorem wd_1107 : Cond.instanceMethod yX8_change ∈ wz := wz_in (tc_5 (List.mem_of_getElem? (i := 73) rfl)) rfl
theorem wd_1108 : Cond.selects RX8 yX8_change yX8_change ∈ wz := wz_in (tc_5 (List.mem_of_getElem? (i := 74) rfl)) rfl
theorem wd_1109 : Cond.code yX8_change prog_10_method_44_code 4 (some .int) ∈ wz := wz_in (tc_5 (List.mem_of_getElem? (i := 75) rfl)) rfl
theorem wd_1110 : Cond.methodLink RX8 205 yX8_mayBe ∈ wz := wz_in (tc_5 (List.mem_of_getElem? (i := 76) rfl)) rfl
theorem wd_1111 : Cond.static yX8_mayBe ∈ wz := wz_in (tc_5 (List.mem_of_getElem? (i := 77) rfl)) rfl
theorem wd_1112 : Cond.code yX8_mayBe prog_10_method_43_code 2 (some .boolean) ∈ wz := wz_in (tc_5 (List.mem_of_getElem? (i := 78) rfl)) rfl
theorem wd_1113 : Cond.methodLink RX8 208 yX8_turn ∈ wz := wz_in (tc_5 (List.mem_of_getElem? (i := 79) rfl)) rfl
theorem wd_1115 : Cond.instanceMethod yX8_turn ∈ wz := wz_in (tc_5 (List.mem_of_getElem? (i := 81) rfl)) rfl
theorem wd_1116 : Cond.code yX8_turn prog_10_method_6_code 4 (some .int) ∈ wz := wz_in (tc_5 (List.mem_of_getElem? (i := 82) rfl)) rfl
theorem wd_1117 : Cond.methodLink RL 30 yX8_become ∈ wz := wz_in (tc_5 (List.mem_of_getElem? (i := 83) rfl)) rfl
theorem wd_1118 : Cond.instanceMethod yX8_become ∈ wz := wz_in (tc_5 (List.mem_of_getElem? (i := 84) rfl)) rfl
theorem wd_1119 : Cond.selects RX8 yX8_become yX8_become ∈ wz := wz_in (tc_5 (List.mem_of_getElem? (i := 85) rfl)) rfl
theorem wd_1120 : Cond.code yX8_become prog_10_method_45_code 3 (some .int) ∈ wz := wz_in (tc_5 (List.mem_of_getElem? (i := 86) rfl)) rfl
theorem wd_1121 : Cond.methodLink RL 34 yX8_as ∈ wz := wz_in (tc_5 (List.mem_of_getElem? (i := 87) rfl)) rfl
theorem wd_1122 : Cond.instanceMethod yX8_as ∈ wz := wz_in (tc_5 (List.mem_of_getElem? (i := 88) rfl)) rfl
theorem wd_1123 : Cond.selects RX8 yX8_as yX8_as ∈ wz := wz_in (tc_5 (List.mem_of_getElem? (i := 89) rfl)) rfl
theorem wd_1124 : Cond.code yX8_as prog_10_method_46_code 3 (some .int) ∈ wz := wz_in (tc_5 (List.mem_of_getElem? (i := 90) rfl)) rfl
theorem wd_1125 : Cond.constant RX8 211 (-1000000005) ∈ wz := wz_in (tc_5 (List.mem_of_getElem? (i := 91) rfl)) rfl
theorem wd_1126 : Cond.methodLink RL 39 yX8_loss ∈ wz := wz_in (tc_5 (List.mem_of_getElem? (i := 92) rfl)) rfl
theorem wd_1127 : Cond.instanceMethod yX8_loss ∈ wz := wz_in (tc_5 (List.mem_of_getElem? (i := 93) rfl)) rfl
theorem wd_1128 : Cond.selects RX8 yX8_loss yX8_loss ∈ wz := wz_in (tc_5 (List.mem_of_getElem? (i := 94) rfl)) rfl
theorem wd_1129 : Cond.code yX8_loss prog_10_method_47_code 2 (some .int) ∈ wz := wz_in (tc_5 (List.mem_of_getElem? (i := 95) rfl)) rfl
theorem wd_1130 : Cond.methodLink RL 43 yX8_street ∈ wz := wz_in (tc_5 (List.mem_of_getElem? (i := 96) rfl)) rfl
theorem wd_1131 : Cond.instanceMethod yX8_street ∈ wz := wz_in (tc_5 (List.mem_of_getElem? (i := 97) rfl)) rfl
theorem wd_1132 : Cond.selects RX8 yX8_street yX8_street ∈ wz := wz_in (tc_5 (List.mem_of_getElem? (i := 98) rfl)) rfl
theorem wd_1133 : Cond.code yX8_street prog_10_method_50_code 3 (some .int) ∈ wz := wz_in (tc_5 (List.mem_of_getElem? (i := 99) rfl)) rfl
theorem wd_1134 : Cond.methodLink RX8 212 yX8_atStreet ∈ wz := wz_in (tc_5 (List.mem_of_getElem? (i := 100) rfl)) rfl
theorem wd_1136 : Cond.instanceMethod yX8_atStreet ∈ wz := wz_in (tc_5 (List.mem_of_getElem? (i := 102) rfl)) rfl
theorem wd_1137 : Cond.code yX8_atStreet prog_10_method_48_code 4 (some .int) ∈ wz := wz_in (tc_5 (List.mem_of_getElem? (i := 103) rfl)) rfl
theorem wd_1138 : Cond.methodLink RX8 215 yX8_freeNow ∈ wz := wz_in (tc_5 (List.mem_of_getElem? (i := 104) rfl)) rfl
theorem wd_1140 : Cond.instanceMethod yX8_freeNow ∈ wz := wz_in (tc_5 (List.mem_of_getElem? (i := 106) rfl)) rfl
theorem wd_1141 : Cond.code yX8_freeNow prog_10_method_49_code 3 (some .int) ∈ wz := wz_in (tc_5 (List.mem_of_getElem? (i := 107) rfl)) rfl
theorem wd_1142 : Cond.methodLink RL 47 yX8_meet ∈ wz := wz_in (tc_5 (List.mem_of_getElem? (i := 108) rfl)) rfl
theorem wd_1143 : Cond.instanceMethod yX8_meet ∈ wz := wz_in (tc_5 (List.mem_of_getElem? (i := 109) rfl)) rfl
theorem wd_1144 : Cond.selects RX8 yX8_meet yX8_meet ∈ wz := wz_in (tc_5 (List.mem_of_getElem? (i := 110) rfl)) rfl
theorem wd_1145 : Cond.code yX8_meet prog_10_method_52_code 3 (some .int) ∈ wz := wz_in (tc_5 (List.mem_of_getElem? (i := 111) rfl)) rfl
theorem wd_1146 : Cond.methodLink RX8 224 yX8_doMeet ∈ wz := wz_in (tc_5 (List.mem_of_getElem? (i := 112) rfl)) rfl
theorem wd_1148 : Cond.instanceMethod yX8_doMeet ∈ wz := wz_in (tc_5 (List.mem_of_getElem? (i := 114) rfl)) rfl
theorem wd_1149 : Cond.code yX8_doMeet prog_10_method_51_code 4 (some .boolean) ∈ wz := wz_in (tc_5 (List.mem_of_getElem? (i := 115) rfl)) rfl
theorem wd_1150 : Cond.methodLink RX8 218 yX8_bits ∈ wz := wz_in (tc_5 (List.mem_of_getElem? (i := 116) rfl)) rfl
theorem wd_1151 : Cond.static yX8_bits ∈ wz := wz_in (tc_5 (List.mem_of_getElem? (i := 117) rfl)) rfl
theorem wd_1152 : Cond.code yX8_bits prog_10_method_29_code 3 (some .int) ∈ wz := wz_in (tc_5 (List.mem_of_getElem? (i := 118) rfl)) rfl
theorem wd_1153 : Cond.methodLink RX8 221 yX8_isMeeting ∈ wz := wz_in (tc_5 (List.mem_of_getElem? (i := 119) rfl)) rfl
theorem wd_1155 : Cond.instanceMethod yX8_isMeeting ∈ wz := wz_in (tc_5 (List.mem_of_getElem? (i := 121) rfl)) rfl
theorem wd_1156 : Cond.code yX8_isMeeting prog_10_method_26_code 5 (some .boolean) ∈ wz := wz_in (tc_5 (List.mem_of_getElem? (i := 122) rfl)) rfl
theorem wd_1157 : Cond.methodLink RL 67 yX8_steps ∈ wz := wz_in (tc_5 (List.mem_of_getElem? (i := 123) rfl)) rfl
theorem wd_1158 : Cond.instanceMethod yX8_steps ∈ wz := wz_in (tc_5 (List.mem_of_getElem? (i := 124) rfl)) rfl
theorem wd_1159 : Cond.selects RX8 yX8_steps yX8_steps ∈ wz := wz_in (tc_5 (List.mem_of_getElem? (i := 125) rfl)) rfl
theorem wd_1160 : Cond.code yX8_steps prog_10_method_57_code 2 (some .int) ∈ wz := wz_in (tc_5 (List.mem_of_getElem? (i := 126) rfl)) rfl
theorem wd_1161 : Cond.constant RX8 236 (-1000000003) ∈ wz := wz_in (tc_5 (List.mem_of_getElem? (i := 127) rfl)) rfl
theorem wd_1162 : Cond.methodLink RX8 237 yX8_stepsGo ∈ wz := wz_in (tc_5 (List.mem_of_getElem? (i := 128) rfl)) rfl
theorem wd_1164 : Cond.instanceMethod yX8_stepsGo ∈ wz := wz_in (tc_5 (List.mem_of_getElem? (i := 130) rfl)) rfl
theorem wd_1165 : Cond.code yX8_stepsGo prog_10_method_55_code 3 none ∈ wz := wz_in (tc_5 (List.mem_of_getElem? (i := 131) rfl)) rfl
theorem wd_1166 : Cond.methodLink RX8 233 yX8_step ∈ wz := wz_in (tc_5 (List.mem_of_getElem? (i := 132) rfl)) rfl
theorem wd_1168 : Cond.instanceMethod yX8_step ∈ wz := wz_in (tc_5 (List.mem_of_getElem? (i := 134) rfl)) rfl
theorem wd_1169 : Cond.code yX8_step prog_10_method_54_code 4 none ∈ wz := wz_in (tc_5 (List.mem_of_getElem? (i := 135) rfl)) rfl
theorem wd_1170 : Cond.methodLink RX8 227 yX8_handedTo ∈ wz := wz_in (tc_5 (List.mem_of_getElem? (i := 136) rfl)) rfl
theorem wd_1172 : Cond.instanceMethod yX8_handedTo ∈ wz := wz_in (tc_5 (List.mem_of_getElem? (i := 138) rfl)) rfl
theorem wd_1173 : Cond.code yX8_handedTo prog_10_method_53_code 4 (some .int) ∈ wz := wz_in (tc_5 (List.mem_of_getElem? (i := 139) rfl)) rfl
theorem wd_1174 : Cond.methodLink RX8 230 yX8_deedsFor ∈ wz := wz_in (tc_5 (List.mem_of_getElem? (i := 140) rfl)) rfl
theorem wd_1176 : Cond.instanceMethod yX8_deedsFor ∈ wz := wz_in (tc_5 (List.mem_of_getElem? (i := 142) rfl)) rfl
theorem wd_1177 : Cond.code yX8_deedsFor prog_10_method_27_code 5 (some .int) ∈ wz := wz_in (tc_5 (List.mem_of_getElem? (i := 143) rfl)) rfl
theorem wd_1178 : Cond.methodLink RX8 240 yX8_sumOf ∈ wz := wz_in (tc_5 (List.mem_of_getElem? (i := 144) rfl)) rfl
theorem wd_1180 : Cond.instanceMethod yX8_sumOf ∈ wz := wz_in (tc_5 (List.mem_of_getElem? (i := 146) rfl)) rfl
theorem wd_1181 : Cond.code yX8_sumOf prog_10_method_56_code 4 (some .int) ∈ wz := wz_in (tc_5 (List.mem_of_getElem? (i := 147) rfl)) rfl
theorem wd_1182 : Cond.methodLink RL 71 yX8_loose ∈ wz := wz_in (tc_5 (List.mem_of_getElem? (i := 148) rfl)) rfl
theorem wd_1183 : Cond.instanceMethod yX8_loose ∈ wz := wz_in (tc_5 (List.mem_of_getElem? (i := 149) rfl)) rfl
theorem wd_1184 : Cond.selects RX8 yX8_loose yX8_loose ∈ wz := wz_in (tc_5 (List.mem_of_getElem? (i := 150) rfl)) rfl
theorem wd_1185 : Cond.code yX8_loose prog_10_method_59_code 5 (some .int) ∈ wz := wz_in (tc_5 (List.mem_of_getElem? (i := 151) rfl)) rfl
theorem wd_1186 : Cond.methodLink RX8 244 yX8_drawn ∈ wz := wz_in (tc_5 (List.mem_of_getElem? (i := 152) rfl)) rfl
theorem wd_1188 : Cond.instanceMethod yX8_drawn ∈ wz := wz_in (tc_5 (List.mem_of_getElem? (i := 154) rfl)) rfl
theorem wd_1189 : Cond.code yX8_drawn prog_10_method_58_code 1 (some .int) ∈ wz := wz_in (tc_5 (List.mem_of_getElem? (i := 155) rfl)) rfl
theorem wd_1190 : Cond.constant RX8 243 1103515245 ∈ wz := wz_in (tc_5 (List.mem_of_getElem? (i := 156) rfl)) rfl
theorem wd_1191 : Cond.methodLink RL 75 yX8_then ∈ wz := wz_in (tc_5 (List.mem_of_getElem? (i := 157) rfl)) rfl
theorem wd_1192 : Cond.instanceMethod yX8_then ∈ wz := wz_in (tc_5 (List.mem_of_getElem? (i := 158) rfl)) rfl
theorem wd_1193 : Cond.selects RX8 yX8_then yX8_then ∈ wz := wz_in (tc_5 (List.mem_of_getElem? (i := 159) rfl)) rfl
theorem wd_1194 : Cond.code yX8_then prog_10_method_62_code 4 (some .int) ∈ wz := wz_in (tc_5 (List.mem_of_getElem? (i := 160) rfl)) rfl
theorem wd_1195 : Cond.methodLink RX8 247 yX8_isBehind ∈ wz := wz_in (tc_5 (List.mem_of_getElem? (i := 161) rfl)) rfl
theorem wd_1196 : Cond.static yX8_isBehind ∈ wz := wz_in (tc_5 (List.mem_of_getElem? (i := 162) rfl)) rfl
theorem wd_1197 : Cond.code yX8_isBehind prog_10_method_60_code 1 (some .boolean) ∈ wz := wz_in (tc_5 (List.mem_of_getElem? (i := 163) rfl)) rfl
theorem wd_1198 : Cond.methodLink RX8 78 yX8_copy ∈ wz := wz_in (tc_5 (List.mem_of_getElem? (i := 164) rfl)) rfl
theorem wd_1199 : Cond.static yX8_copy ∈ wz := wz_in (tc_5 (List.mem_of_getElem? (i := 165) rfl)) rfl
theorem wd_1200 : Cond.code yX8_copy prog_10_method_5_code 3 none ∈ wz := wz_in (tc_5 (List.mem_of_getElem? (i := 166) rfl)) rfl
theorem wd_1201 : Cond.methodLink RX8 250 yX8_putBack ∈ wz := wz_in (tc_5 (List.mem_of_getElem? (i := 167) rfl)) rfl
theorem wd_1203 : Cond.instanceMethod yX8_putBack ∈ wz := wz_in (tc_5 (List.mem_of_getElem? (i := 169) rfl)) rfl
theorem wd_1204 : Cond.code yX8_putBack prog_10_method_7_code 2 (some .int) ∈ wz := wz_in (tc_5 (List.mem_of_getElem? (i := 170) rfl)) rfl
theorem wd_1205 : Cond.methodLink RL 79 yX8_last ∈ wz := wz_in (tc_5 (List.mem_of_getElem? (i := 171) rfl)) rfl
theorem wd_1206 : Cond.instanceMethod yX8_last ∈ wz := wz_in (tc_5 (List.mem_of_getElem? (i := 172) rfl)) rfl
theorem wd_1207 : Cond.selects RX8 yX8_last yX8_last ∈ wz := wz_in (tc_5 (List.mem_of_getElem? (i := 173) rfl)) rfl
theorem wd_1208 : Cond.code yX8_last prog_10_method_63_code 5 (some .int) ∈ wz := wz_in (tc_5 (List.mem_of_getElem? (i := 174) rfl)) rfl
theorem wd_1209 : Cond.constant RX8 253 (-1000000002) ∈ wz := wz_in (tc_5 (List.mem_of_getElem? (i := 175) rfl)) rfl
theorem wd_1210 : Cond.methodLink RL 83 yX8_reaches ∈ wz := wz_in (tc_5 (List.mem_of_getElem? (i := 176) rfl)) rfl
theorem wd_1211 : Cond.instanceMethod yX8_reaches ∈ wz := wz_in (tc_5 (List.mem_of_getElem? (i := 177) rfl)) rfl
theorem wd_1212 : Cond.selects RX8 yX8_reaches yX8_reaches ∈ wz := wz_in (tc_5 (List.mem_of_getElem? (i := 178) rfl)) rfl
theorem wd_1213 : Cond.code yX8_reaches prog_10_method_64_code 4 (some .int) ∈ wz := wz_in (tc_5 (List.mem_of_getElem? (i := 179) rfl)) rfl
theorem wd_1214 : Cond.methodLink RL 87 yX8_gloves ∈ wz := wz_in (tc_5 (List.mem_of_getElem? (i := 180) rfl)) rfl
theorem wd_1215 : Cond.instanceMethod yX8_gloves ∈ wz := wz_in (tc_5 (List.mem_of_getElem? (i := 181) rfl)) rfl
theorem wd_1216 : Cond.selects RX8 yX8_gloves yX8_gloves ∈ wz := wz_in (tc_5 (List.mem_of_getElem? (i := 182) rfl)) rfl
theorem wd_1217 : Cond.code yX8_gloves prog_10_method_66_code 6 (some .int) ∈ wz := wz_in (tc_5 (List.mem_of_getElem? (i := 183) rfl)) rfl
theorem wd_1218 : Cond.methodLink RX8 257 yX8_isSoon ∈ wz := wz_in (tc_5 (List.mem_of_getElem? (i := 184) rfl)) rfl
theorem wd_1219 : Cond.static yX8_isSoon ∈ wz := wz_in (tc_5 (List.mem_of_getElem? (i := 185) rfl)) rfl
theorem wd_1220 : Cond.code yX8_isSoon prog_10_method_61_code 1 (some .boolean) ∈ wz := wz_in (tc_5 (List.mem_of_getElem? (i := 186) rfl)) rfl
theorem wd_1221 : Cond.methodLink RX8 260 yX8_staysAway ∈ wz := wz_in (tc_5 (List.mem_of_getElem? (i := 187) rfl)) rfl
theorem wd_1223 : Cond.instanceMethod yX8_staysAway ∈ wz := wz_in (tc_5 (List.mem_of_getElem? (i := 189) rfl)) rfl
theorem wd_1224 : Cond.code yX8_staysAway prog_10_method_65_code 6 (some .boolean) ∈ wz := wz_in (tc_5 (List.mem_of_getElem? (i := 190) rfl)) rfl
theorem wd_1225 : Cond.methodLink RX8 254 yX8_hasBit ∈ wz := wz_in (tc_5 (List.mem_of_getElem? (i := 191) rfl)) rfl
theorem wd_1226 : Cond.static yX8_hasBit ∈ wz := wz_in (tc_5 (List.mem_of_getElem? (i := 192) rfl)) rfl
theorem wd_1227 : Cond.code yX8_hasBit prog_10_method_28_code 2 (some .boolean) ∈ wz := wz_in (tc_5 (List.mem_of_getElem? (i := 193) rfl)) rfl
theorem wd_1228 : Cond.methodLink RL 91 yX8_from ∈ wz := wz_in (tc_5 (List.mem_of_getElem? (i := 194) rfl)) rfl
theorem wd_1229 : Cond.instanceMethod yX8_from ∈ wz := wz_in (tc_5 (List.mem_of_getElem? (i := 195) rfl)) rfl
theorem wd_1230 : Cond.selects RX8 yX8_from yX8_from ∈ wz := wz_in (tc_5 (List.mem_of_getElem? (i := 196) rfl)) rfl
theorem wd_1231 : Cond.code yX8_from prog_10_method_68_code 6 (some .int) ∈ wz := wz_in (tc_5 (List.mem_of_getElem? (i := 197) rfl)) rfl
theorem wd_1232 : Cond.methodLink RX8 263 yX8_isSheet ∈ wz := wz_in (tc_5 (List.mem_of_getElem? (i := 198) rfl)) rfl
theorem wd_1233 : Cond.static yX8_isSheet ∈ wz := wz_in (tc_5 (List.mem_of_getElem? (i := 199) rfl)) rfl
theorem wd_1234 : Cond.code yX8_isSheet prog_10_method_85_code 1 (some .boolean) ∈ wz := wz_in (tc_5 (List.mem_of_getElem? (i := 200) rfl)) rfl
theorem wd_1235 : Cond.methodLink RX8 266 yX8_comesFrom ∈ wz := wz_in (tc_5 (List.mem_of_getElem? (i := 201) rfl)) rfl
theorem wd_1237 : Cond.instanceMethod yX8_comesFrom ∈ wz := wz_in (tc_5 (List.mem_of_getElem? (i := 203) rfl)) rfl
theorem wd_1238 : Cond.code yX8_comesFrom prog_10_method_67_code 6 (some .boolean) ∈ wz := wz_in (tc_5 (List.mem_of_getElem? (i := 204) rfl)) rfl
theorem wd_1239 : Cond.methodLink RL 95 yX8_stand ∈ wz := wz_in (tc_5 (List.mem_of_getElem? (i := 205) rfl)) rfl
theorem wd_1240 : Cond.instanceMethod yX8_stand ∈ wz := wz_in (tc_5 (List.mem_of_getElem? (i := 206) rfl)) rfl
theorem wd_1241 : Cond.selects RX8 yX8_stand yX8_stand ∈ wz := wz_in (tc_5 (List.mem_of_getElem? (i := 207) rfl)) rfl
theorem wd_1242 : Cond.code yX8_stand prog_10_method_70_code 9 (some .int) ∈ wz := wz_in (tc_5 (List.mem_of_getElem? (i := 208) rfl)) rfl
theorem wd_1243 : Cond.methodLink RX8 269 yX8_freeBehind ∈ wz := wz_in (tc_5 (List.mem_of_getElem? (i := 209) rfl)) rfl
theorem wd_1245 : Cond.instanceMethod yX8_freeBehind ∈ wz := wz_in (tc_5 (List.mem_of_getElem? (i := 211) rfl)) rfl
theorem wd_1246 : Cond.code yX8_freeBehind prog_10_method_69_code 3 (some .int) ∈ wz := wz_in (tc_5 (List.mem_of_getElem? (i := 212) rfl)) rfl
theorem wd_1247 : Cond.methodLink RL 99 yX8_crush ∈ wz := wz_in (tc_5 (List.mem_of_getElem? (i := 213) rfl)) rfl
theorem wd_1248 : Cond.instanceMethod yX8_crush ∈ wz := wz_in (tc_5 (List.mem_of_getElem? (i := 214) rfl)) rfl
theorem wd_1249 : Cond.selects RX8 yX8_crush yX8_crush ∈ wz := wz_in (tc_5 (List.mem_of_getElem? (i := 215) rfl)) rfl
theorem wd_1250 : Cond.code yX8_crush prog_10_method_71_code 5 (some .int) ∈ wz := wz_in (tc_5 (List.mem_of_getElem? (i := 216) rfl)) rfl
theorem wd_1251 : Cond.methodLink RL 104 yX8_dies ∈ wz := wz_in (tc_5 (List.mem_of_getElem? (i := 217) rfl)) rfl
theorem wd_1252 : Cond.instanceMethod yX8_dies ∈ wz := wz_in (tc_5 (List.mem_of_getElem? (i := 218) rfl)) rfl
theorem wd_1253 : Cond.selects RX8 yX8_dies yX8_dies ∈ wz := wz_in (tc_5 (List.mem_of_getElem? (i := 219) rfl)) rfl
theorem wd_1254 : Cond.code yX8_dies prog_10_method_72_code 3 (some .int) ∈ wz := wz_in (tc_5 (List.mem_of_getElem? (i := 220) rfl)) rfl
theorem wd_1255 : Cond.methodLink RL 108 yX8_touch ∈ wz := wz_in (tc_5 (List.mem_of_getElem? (i := 221) rfl)) rfl
theorem wd_1256 : Cond.instanceMethod yX8_touch ∈ wz := wz_in (tc_5 (List.mem_of_getElem? (i := 222) rfl)) rfl
theorem wd_1257 : Cond.selects RX8 yX8_touch yX8_touch ∈ wz := wz_in (tc_5 (List.mem_of_getElem? (i := 223) rfl)) rfl
theorem wd_1258 : Cond.code yX8_touch prog_10_method_73_code 9 (some .int) ∈ wz := wz_in (tc_5 (List.mem_of_getElem? (i := 224) rfl)) rfl
theorem wd_1259 : Cond.methodLink RL 112 yX8_done_ ∈ wz := wz_in (tc_5 (List.mem_of_getElem? (i := 225) rfl)) rfl
theorem wd_1260 : Cond.instanceMethod yX8_done_ ∈ wz := wz_in (tc_5 (List.mem_of_getElem? (i := 226) rfl)) rfl
theorem wd_1261 : Cond.selects RX8 yX8_done_ yX8_done_ ∈ wz := wz_in (tc_5 (List.mem_of_getElem? (i := 227) rfl)) rfl
theorem wd_1262 : Cond.code yX8_done_ prog_10_method_74_code 3 (some .int) ∈ wz := wz_in (tc_5 (List.mem_of_getElem? (i := 228) rfl)) rfl
theorem wd_1263 : Cond.methodLink RL 116 yX8_odds ∈ wz := wz_in (tc_5 (List.mem_of_getElem? (i := 229) rfl)) rfl
theorem wd_1264 : Cond.instanceMethod yX8_odds ∈ wz := wz_in (tc_5 (List.mem_of_getElem? (i := 230) rfl)) rfl
theorem wd_1265 : Cond.selects RX8 yX8_odds yX8_odds ∈ wz := wz_in (tc_5 (List.mem_of_getElem? (i := 231) rfl)) rfl
theorem wd_1266 : Cond.code yX8_odds prog_10_method_75_code 9 (some .int) ∈ wz := wz_in (tc_5 (List.mem_of_getElem? (i := 232) rfl)) rfl
theorem wd_1267 : Cond.methodLink RL 120 yX8_seed ∈ wz := wz_in (tc_5 (List.mem_of_getElem? (i := 233) rfl)) rfl
theorem wd_1268 : Cond.instanceMethod yX8_seed ∈ wz := wz_in (tc_5 (List.mem_of_getElem? (i := 234) rfl)) rfl
theorem wd_1269 : Cond.selects RX8 yX8_seed yX8_seed ∈ wz := wz_in (tc_5 (List.mem_of_getElem? (i := 235) rfl)) rfl
theorem wd_1270 : Cond.code yX8_seed prog_10_method_76_code 2 (some .int) ∈ wz := wz_in (tc_5 (List.mem_of_getElem? (i := 236) rfl)) rfl
theorem wd_1271 : Cond.methodLink RL 124 yX8_voice ∈ wz := wz_in (tc_5 (List.mem_of_getElem? (i := 237) rfl)) rfl
theorem wd_1272 : Cond.instanceMethod yX8_voice ∈ wz := wz_in (tc_5 (List.mem_of_getElem? (i := 238) rfl)) rfl
theorem wd_1273 : Cond.selects RX8 yX8_voice yX8_voice ∈ wz := wz_in (tc_5 (List.mem_of_getElem? (i := 239) rfl)) rfl
theorem wd_1274 : Cond.code yX8_voice prog_10_method_83_code 4 (some .int) ∈ wz := wz_in (tc_6 (List.mem_of_getElem? (i := 0) rfl)) rfl
theorem wd_1275 : Cond.methodLink RX8 284 yX8_keepsOf ∈ wz := wz_in (tc_6 (List.mem_of_getElem? (i := 1) rfl)) rfl
theorem wd_1277 : Cond.instanceMethod yX8_keepsOf ∈ wz := wz_in (tc_6 (List.mem_of_getElem? (i := 3) rfl)) rfl
theorem wd_1278 : Cond.code yX8_keepsOf prog_10_method_78_code 3 (some .int) ∈ wz := wz_in (tc_6 (List.mem_of_getElem? (i := 4) rfl)) rfl
theorem wd_1279 : Cond.methodLink RX8 278 yX8_ran ∈ wz := wz_in (tc_6 (List.mem_of_getElem? (i := 5) rfl)) rfl
theorem wd_1281 : Cond.instanceMethod yX8_ran ∈ wz := wz_in (tc_6 (List.mem_of_getElem? (i := 7) rfl)) rfl
theorem wd_1282 : Cond.code yX8_ran prog_10_method_77_code 2 none ∈ wz := wz_in (tc_6 (List.mem_of_getElem? (i := 8) rfl)) rfl
theorem wd_1283 : Cond.methodLink RX8 293 yX8_handsOf ∈ wz := wz_in (tc_6 (List.mem_of_getElem? (i := 9) rfl)) rfl
theorem wd_1285 : Cond.instanceMethod yX8_handsOf ∈ wz := wz_in (tc_6 (List.mem_of_getElem? (i := 11) rfl)) rfl
theorem wd_1286 : Cond.code yX8_handsOf prog_10_method_79_code 5 (some .int) ∈ wz := wz_in (tc_6 (List.mem_of_getElem? (i := 12) rfl)) rfl
theorem wd_1287 : Cond.methodLink RX8 287 yX8_stealsOf ∈ wz := wz_in (tc_6 (List.mem_of_getElem? (i := 13) rfl)) rfl
theorem wd_1289 : Cond.instanceMethod yX8_stealsOf ∈ wz := wz_in (tc_6 (List.mem_of_getElem? (i := 15) rfl)) rfl
theorem wd_1290 : Cond.code yX8_stealsOf prog_10_method_80_code 4 (some .int) ∈ wz := wz_in (tc_6 (List.mem_of_getElem? (i := 16) rfl)) rfl
theorem wd_1291 : Cond.methodLink RX8 299 yX8_tellsOf ∈ wz := wz_in (tc_6 (List.mem_of_getElem? (i := 17) rfl)) rfl
theorem wd_1293 : Cond.instanceMethod yX8_tellsOf ∈ wz := wz_in (tc_6 (List.mem_of_getElem? (i := 19) rfl)) rfl
theorem wd_1294 : Cond.code yX8_tellsOf prog_10_method_82_code 3 (some .int) ∈ wz := wz_in (tc_6 (List.mem_of_getElem? (i := 20) rfl)) rfl
theorem wd_1295 : Cond.methodLink RX8 296 yX8_plainTells ∈ wz := wz_in (tc_6 (List.mem_of_getElem? (i := 21) rfl)) rfl
theorem wd_1297 : Cond.instanceMethod yX8_plainTells ∈ wz := wz_in (tc_6 (List.mem_of_getElem? (i := 23) rfl)) rfl
theorem wd_1298 : Cond.code yX8_plainTells prog_10_method_81_code 3 (some .int) ∈ wz := wz_in (tc_6 (List.mem_of_getElem? (i := 24) rfl)) rfl
theorem wd_1299 : Cond.methodLink RL 128 yX8_trace ∈ wz := wz_in (tc_6 (List.mem_of_getElem? (i := 25) rfl)) rfl
theorem wd_1300 : Cond.instanceMethod yX8_trace ∈ wz := wz_in (tc_6 (List.mem_of_getElem? (i := 26) rfl)) rfl
theorem wd_1301 : Cond.selects RX8 yX8_trace yX8_trace ∈ wz := wz_in (tc_6 (List.mem_of_getElem? (i := 27) rfl)) rfl
theorem wd_1302 : Cond.code yX8_trace prog_10_method_84_code 2 (some .int) ∈ wz := wz_in (tc_6 (List.mem_of_getElem? (i := 28) rfl)) rfl
theorem wd_1303 : Cond.methodLink RL 132 yX8_sheet ∈ wz := wz_in (tc_6 (List.mem_of_getElem? (i := 29) rfl)) rfl
theorem wd_1304 : Cond.instanceMethod yX8_sheet ∈ wz := wz_in (tc_6 (List.mem_of_getElem? (i := 30) rfl)) rfl
theorem wd_1305 : Cond.selects RX8 yX8_sheet yX8_sheet ∈ wz := wz_in (tc_6 (List.mem_of_getElem? (i := 31) rfl)) rfl
theorem wd_1306 : Cond.code yX8_sheet prog_10_method_86_code 5 (some .int) ∈ wz := wz_in (tc_6 (List.mem_of_getElem? (i := 32) rfl)) rfl
theorem wd_1307 : Cond.methodLink RL 136 yX8_put ∈ wz := wz_in (tc_6 (List.mem_of_getElem? (i := 33) rfl)) rfl
theorem wd_1308 : Cond.instanceMethod yX8_put ∈ wz := wz_in (tc_6 (List.mem_of_getElem? (i := 34) rfl)) rfl
theorem wd_1309 : Cond.selects RX8 yX8_put yX8_put ∈ wz := wz_in (tc_6 (List.mem_of_getElem? (i := 35) rfl)) rfl
theorem wd_1310 : Cond.code yX8_put prog_10_method_87_code 4 (some .int) ∈ wz := wz_in (tc_6 (List.mem_of_getElem? (i := 36) rfl)) rfl
theorem wd_1311 : Cond.methodLink RL 141 yX8_move ∈ wz := wz_in (tc_6 (List.mem_of_getElem? (i := 37) rfl)) rfl
theorem wd_1312 : Cond.instanceMethod yX8_move ∈ wz := wz_in (tc_6 (List.mem_of_getElem? (i := 38) rfl)) rfl
theorem wd_1313 : Cond.selects RX8 yX8_move yX8_move ∈ wz := wz_in (tc_6 (List.mem_of_getElem? (i := 39) rfl)) rfl
theorem wd_1314 : Cond.code yX8_move prog_10_method_88_code 7 (some .int) ∈ wz := wz_in (tc_6 (List.mem_of_getElem? (i := 40) rfl)) rfl
theorem wd_1315 : Cond.methodLink RL 145 yX8_frees ∈ wz := wz_in (tc_6 (List.mem_of_getElem? (i := 41) rfl)) rfl
theorem wd_1316 : Cond.instanceMethod yX8_frees ∈ wz := wz_in (tc_6 (List.mem_of_getElem? (i := 42) rfl)) rfl
theorem wd_1317 : Cond.selects RX8 yX8_frees yX8_frees ∈ wz := wz_in (tc_6 (List.mem_of_getElem? (i := 43) rfl)) rfl
theorem wd_1318 : Cond.code yX8_frees prog_10_method_89_code 3 (some .int) ∈ wz := wz_in (tc_6 (List.mem_of_getElem? (i := 44) rfl)) rfl
theorem wd_1319 : Cond.methodLink RL 149 yX8_judge ∈ wz := wz_in (tc_6 (List.mem_of_getElem? (i := 45) rfl)) rfl
theorem wd_1320 : Cond.instanceMethod yX8_judge ∈ wz := wz_in (tc_6 (List.mem_of_getElem? (i := 46) rfl)) rfl
theorem wd_1321 : Cond.selects RX8 yX8_judge yX8_judge ∈ wz := wz_in (tc_6 (List.mem_of_getElem? (i := 47) rfl)) rfl
theorem wd_1322 : Cond.code yX8_judge prog_10_method_90_code 3 (some .int) ∈ wz := wz_in (tc_6 (List.mem_of_getElem? (i := 48) rfl)) rfl
theorem wd_1323 : Cond.methodLink RL 153 yX8_image ∈ wz := wz_in (tc_6 (List.mem_of_getElem? (i := 49) rfl)) rfl
theorem wd_1324 : Cond.instanceMethod yX8_image ∈ wz := wz_in (tc_6 (List.mem_of_getElem? (i := 50) rfl)) rfl
theorem wd_1325 : Cond.selects RX8 yX8_image yX8_image ∈ wz := wz_in (tc_6 (List.mem_of_getElem? (i := 51) rfl)) rfl
theorem wd_1326 : Cond.code yX8_image prog_10_method_91_code 1 (some .int) ∈ wz := wz_in (tc_6 (List.mem_of_getElem? (i := 52) rfl)) rfl
theorem wd_1327 : Cond.methodLink RL 157 yX8_restore ∈ wz := wz_in (tc_6 (List.mem_of_getElem? (i := 53) rfl)) rfl
theorem wd_1328 : Cond.instanceMethod yX8_restore ∈ wz := wz_in (tc_6 (List.mem_of_getElem? (i := 54) rfl)) rfl
theorem wd_1329 : Cond.selects RX8 yX8_restore yX8_restore ∈ wz := wz_in (tc_6 (List.mem_of_getElem? (i := 55) rfl)) rfl
theorem wd_1330 : Cond.code yX8_restore prog_10_method_92_code 1 (some .int) ∈ wz := wz_in (tc_6 (List.mem_of_getElem? (i := 56) rfl)) rfl
theorem wd_1331 : Cond.methodLink RL 161 yX8_tell ∈ wz := wz_in (tc_6 (List.mem_of_getElem? (i := 57) rfl)) rfl
theorem wd_1332 : Cond.instanceMethod yX8_tell ∈ wz := wz_in (tc_6 (List.mem_of_getElem? (i := 58) rfl)) rfl
theorem wd_1333 : Cond.selects RX8 yX8_tell yX8_tell ∈ wz := wz_in (tc_6 (List.mem_of_getElem? (i := 59) rfl)) rfl
theorem wd_1334 : Cond.code yX8_tell prog_10_method_93_code 2 (some .int) ∈ wz := wz_in (tc_6 (List.mem_of_getElem? (i := 60) rfl)) rfl
theorem wd_1335 : Cond.methodLink RL 165 yX8_check ∈ wz := wz_in (tc_6 (List.mem_of_getElem? (i := 61) rfl)) rfl
theorem wd_1336 : Cond.instanceMethod yX8_check ∈ wz := wz_in (tc_6 (List.mem_of_getElem? (i := 62) rfl)) rfl
theorem wd_1337 : Cond.selects RX8 yX8_check yX8_check ∈ wz := wz_in (tc_6 (List.mem_of_getElem? (i := 63) rfl)) rfl
theorem wd_1338 : Cond.code yX8_check prog_10_method_94_code 4 (some .int) ∈ wz := wz_in (tc_6 (List.mem_of_getElem? (i := 64) rfl)) rfl
theorem wd_1339 : Cond.methodLink RL 169 yX8_count ∈ wz := wz_in (tc_6 (List.mem_of_getElem? (i := 65) rfl)) rfl
theorem wd_1340 : Cond.instanceMethod yX8_count ∈ wz := wz_in (tc_6 (List.mem_of_getElem? (i := 66) rfl)) rfl
theorem wd_1341 : Cond.selects RX8 yX8_count yX8_count ∈ wz := wz_in (tc_6 (List.mem_of_getElem? (i := 67) rfl)) rfl
theorem wd_1342 : Cond.code yX8_count prog_10_method_96_code 2 (some .int) ∈ wz := wz_in (tc_6 (List.mem_of_getElem? (i := 68) rfl)) rfl
theorem wd_1343 : Cond.methodLink RX8 305 yX8_gloved ∈ wz := wz_in (tc_6 (List.mem_of_getElem? (i := 69) rfl)) rfl
theorem wd_1345 : Cond.instanceMethod yX8_gloved ∈ wz := wz_in (tc_6 (List.mem_of_getElem? (i := 71) rfl)) rfl
theorem wd_1346 : Cond.code yX8_gloved prog_10_method_95_code 3 (some .int) ∈ wz := wz_in (tc_6 (List.mem_of_getElem? (i := 72) rfl)) rfl
theorem wd_1347 : Cond.methodLink RL 173 yX8_told ∈ wz := wz_in (tc_6 (List.mem_of_getElem? (i := 73) rfl)) rfl
theorem wd_1348 : Cond.instanceMethod yX8_told ∈ wz := wz_in (tc_6 (List.mem_of_getElem? (i := 74) rfl)) rfl
theorem wd_1349 : Cond.selects RX8 yX8_told yX8_told ∈ wz := wz_in (tc_6 (List.mem_of_getElem? (i := 75) rfl)) rfl
theorem wd_1350 : Cond.code yX8_told prog_10_method_97_code 2 (some .int) ∈ wz := wz_in (tc_6 (List.mem_of_getElem? (i := 76) rfl)) rfl
theorem wd_1351 : Cond.constantLong RL 48 4294967295 ∈ wz := wz_in (tc_6 (List.mem_of_getElem? (i := 77) rfl)) rfl
theorem wd_1352 : Cond.fieldLink RJ0 9 "java/lang/String" "value" "[B" ∈ wz := wz_in (tc_6 (List.mem_of_getElem? (i := 78) rfl)) rfl
theorem wd_1353 : Cond.fieldLink RJ0 15 "java/lang/String" "coder" "B" ∈ wz := wz_in (tc_6 (List.mem_of_getElem? (i := 79) rfl)) rfl
theorem wd_1354 : Cond.arrayClass .char ∈ wz := wz_in (tc_6 (List.mem_of_getElem? (i := 80) rfl)) rfl
theorem inX0 : ∀ w ∈ u_ws RX0 TX0 13, w ∈ wz := List.forall_mem_cons.mpr ⟨wz_in (tc_1 (List.mem_of_getElem? (i := 81) rfl)) rfl, List.forall_mem_cons.mpr ⟨wz_in (tc_1 (List.mem_of_getElem? (i := 83) rfl)) rfl, List.forall_mem_cons.mpr ⟨wz_in (tc_1 (List.mem_of_getElem? (i := 85) rfl)) rfl, List.forall_mem_cons.mpr ⟨wz_in (tc_1 (List.mem_of_getElem? (i := 87) rfl)) rfl, List.forall_mem_cons.mpr ⟨wz_in (tc_1 (List.mem_of_getElem? (i := 89) rfl)) rfl, List.forall_mem_cons.mpr ⟨wz_in (tc_1 (List.mem_of_getElem? (i := 91) rfl)) rfl, List.forall_mem_cons.mpr ⟨wz_in (tc_1 (List.mem_of_getElem? (i := 93) rfl)) rfl, List.forall_mem_cons.mpr ⟨wz_in (tc_1 (List.mem_of_getElem? (i := 95) rfl)) rfl, List.forall_mem_cons.mpr ⟨wz_in (tc_1 (List.mem_of_getElem? (i := 97) rfl)) rfl, List.forall_mem_cons.mpr ⟨wz_in (tc_1 (List.mem_of_getElem? (i := 99) rfl)) rfl, List.forall_mem_cons.mpr ⟨wz_in (tc_1 (List.mem_of_getElem? (i := 101) rfl)) rfl, List.forall_mem_cons.mpr ⟨wz_in (tc_1 (List.mem_of_getElem? (i := 103) rfl)) rfl, List.forall_mem_cons.mpr ⟨wz_in (tc_1 (List.mem_of_getElem? (i := 105) rfl)) rfl, fun _ h => absurd h List.not_mem_nil⟩⟩⟩⟩⟩⟩⟩⟩⟩⟩⟩⟩⟩
theorem inX1 : ∀ w ∈ u_ws RX1 TX1 4, w ∈ wz := List.forall_mem_cons.mpr ⟨wz_in (tc_1 (List.mem_of_getElem? (i := 170) rfl)) rfl, List.forall_mem_cons.mpr ⟨wz_in (tc_1 (List.mem_of_getElem? (i := 172) rfl)) rfl, List.forall_mem_cons.mpr ⟨wz_in (tc_1 (List.mem_of_getElem? (i := 174) rfl)) rfl, List.forall_mem_cons.mpr ⟨wz_in (tc_1 (List.mem_of_getElem? (i := 176) rfl)) rfl, fun _ h => absurd h List.not_mem_nil⟩⟩⟩⟩
theorem inX2 : ∀ w ∈ u_ws RX2 TX2 3, w ∈ wz := List.forall_mem_cons.mpr ⟨wz_in (tc_1 (List.mem_of_getElem? (i := 214) rfl)) rfl, List.forall_mem_cons.mpr ⟨wz_in (tc_1 (List.mem_of_getElem? (i := 216) rfl)) rfl, List.forall_mem_cons.mpr ⟨wz_in (tc_1 (List.mem_of_getElem? (i := 218) rfl)) rfl, fun _ h => absurd h List.not_mem_nil⟩⟩⟩
theorem inX3 : ∀ w ∈ u_ws RX3 TX3 4, w ∈ wz := List.forall_mem_cons.mpr ⟨wz_in (tc_1 (List.mem_of_getElem? (i := 41) rfl)) rfl, List.forall_mem_cons.mpr ⟨wz_in (tc_1 (List.mem_of_getElem? (i := 43) rfl)) rfl, List.forall_mem_cons.mpr ⟨wz_in (tc_1 (List.mem_of_getElem? (i := 45) rfl)) rfl, List.forall_mem_cons.mpr ⟨wz_in (tc_1 (List.mem_of_getElem? (i := 47) rfl)) rfl, fun _ h => absurd h List.not_mem_nil⟩⟩⟩⟩
theorem inX4 : ∀ w ∈ u_ws RX4 TX4 2, w ∈ wz := List.forall_mem_cons.mpr ⟨wz_in (tc_1 (List.mem_of_getElem? (i := 123) rfl)) rfl, List.forall_mem_cons.mpr ⟨wz_in (tc_1 (List.mem_of_getElem? (i := 125) rfl)) rfl, fun _ h => absurd h List.not_mem_nil⟩⟩
theorem inX5 : ∀ w ∈ u_ws RX5 TX5 6, w ∈ wz := List.forall_mem_cons.mpr ⟨wz_in (tc_1 (List.mem_of_getElem? (i := 140) rfl)) rfl, List.forall_mem_cons.mpr ⟨wz_in (tc_1 (List.mem_of_getElem? (i := 142) rfl)) rfl, List.forall_mem_cons.mpr ⟨wz_in (tc_1 (List.mem_of_getElem? (i := 144) rfl)) rfl, List.forall_mem_cons.mpr ⟨wz_in (tc_1 (List.mem_of_getElem? (i := 146) rfl)) rfl, List.forall_mem_cons.mpr ⟨wz_in (tc_1 (List.mem_of_getElem? (i := 148) rfl)) rfl, List.forall_mem_cons.mpr ⟨wz_in (tc_1 (List.mem_of_getElem? (i := 150) rfl)) rfl, fun _ h => absurd h List.not_mem_nil⟩⟩⟩⟩⟩⟩
theorem inX6 : ∀ w ∈ u_ws RX6 TX6 4, w ∈ wz := List.forall_mem_cons.mpr ⟨wz_in (tc_1 (List.mem_of_getElem? (i := 192) rfl)) rfl, List.forall_mem_cons.mpr ⟨wz_in (tc_1 (List.mem_of_getElem? (i := 194) rfl)) rfl, List.forall_mem_cons.mpr ⟨wz_in (tc_1 (List.mem_of_getElem? (i := 196) rfl)) rfl, List.forall_mem_cons.mpr ⟨wz_in (tc_1 (List.mem_of_getElem? (i := 198) rfl)) rfl, fun _ h => absurd h List.not_mem_nil⟩⟩⟩⟩
theorem inX7 : ∀ w ∈ u_ws RX7 TX7 9, w ∈ wz := List.forall_mem_cons.mpr ⟨wz_in (tc_1 (List.mem_of_getElem? (i := 230) rfl)) rfl, List.forall_mem_cons.mpr ⟨wz_in (tc_1 (List.mem_of_getElem? (i := 232) rfl)) rfl, List.forall_mem_cons.mpr ⟨wz_in (tc_1 (List.mem_of_getElem? (i := 234) rfl)) rfl, List.forall_mem_cons.mpr ⟨wz_in (tc_1 (List.mem_of_getElem? (i := 236) rfl)) rfl, List.forall_mem_cons.mpr ⟨wz_in (tc_1 (List.mem_of_getElem? (i := 238) rfl)) rfl, List.forall_mem_cons.mpr ⟨wz_in (tc_2 (List.mem_of_getElem? (i := 0) rfl)) rfl, List.forall_mem_cons.mpr ⟨wz_in (tc_2 (List.mem_of_getElem? (i := 2) rfl)) rfl, List.forall_mem_cons.mpr ⟨wz_in (tc_2 (List.mem_of_getElem? (i := 4) rfl)) rfl, List.forall_mem_cons.mpr ⟨wz_in (tc_2 (List.mem_of_getElem? (i := 6) rfl)) rfl, fun _ h => absurd h List.not_mem_nil⟩⟩⟩⟩⟩⟩⟩⟩⟩
theorem inX8 : ∀ w ∈ u_ws RX8 TX8 27, w ∈ wz := List.forall_mem_cons.mpr ⟨wz_in (tc_4 (List.mem_of_getElem? (i := 74) rfl)) rfl, List.forall_mem_cons.mpr ⟨wz_in (tc_4 (List.mem_of_getElem? (i := 76) rfl)) rfl, List.forall_mem_cons.mpr ⟨wz_in (tc_4 (List.mem_of_getElem? (i := 78) rfl)) rfl, List.forall_mem_cons.mpr ⟨wz_in (tc_4 (List.mem_of_getElem? (i := 80) rfl)) rfl, List.forall_mem_cons.mpr ⟨wz_in (tc_4 (List.mem_of_getElem? (i := 82) rfl)) rfl, List.forall_mem_cons.mpr ⟨wz_in (tc_4 (List.mem_of_getElem? (i := 84) rfl)) rfl, List.forall_mem_cons.mpr ⟨wz_in (tc_4 (List.mem_of_getElem? (i := 86) rfl)) rfl, List.forall_mem_cons.mpr ⟨wz_in (tc_4 (List.mem_of_getElem? (i := 88) rfl)) rfl, List.forall_mem_cons.mpr ⟨wz_in (tc_4 (List.mem_of_getElem? (i := 90) rfl)) rfl, List.forall_mem_cons.mpr ⟨wz_in (tc_4 (List.mem_of_getElem? (i := 92) rfl)) rfl, List.forall_mem_cons.mpr ⟨wz_in (tc_4 (List.mem_of_getElem? (i := 94) rfl)) rfl, List.forall_mem_cons.mpr ⟨wz_in (tc_4 (List.mem_of_getElem? (i := 96) rfl)) rfl, List.forall_mem_cons.mpr ⟨wz_in (tc_4 (List.mem_of_getElem? (i := 98) rfl)) rfl, List.forall_mem_cons.mpr ⟨wz_in (tc_4 (List.mem_of_getElem? (i := 100) rfl)) rfl, List.forall_mem_cons.mpr ⟨wz_in (tc_4 (List.mem_of_getElem? (i := 102) rfl)) rfl, List.forall_mem_cons.mpr ⟨wz_in (tc_4 (List.mem_of_getElem? (i := 104) rfl)) rfl, List.forall_mem_cons.mpr ⟨wz_in (tc_4 (List.mem_of_getElem? (i := 106) rfl)) rfl, List.forall_mem_cons.mpr ⟨wz_in (tc_4 (List.mem_of_getElem? (i := 108) rfl)) rfl, List.forall_mem_cons.mpr ⟨wz_in (tc_4 (List.mem_of_getElem? (i := 110) rfl)) rfl, List.forall_mem_cons.mpr ⟨wz_in (tc_4 (List.mem_of_getElem? (i := 112) rfl)) rfl, List.forall_mem_cons.mpr ⟨wz_in (tc_4 (List.mem_of_getElem? (i := 114) rfl)) rfl, List.forall_mem_cons.mpr ⟨wz_in (tc_4 (List.mem_of_getElem? (i := 116) rfl)) rfl, List.forall_mem_cons.mpr ⟨wz_in (tc_4 (List.mem_of_getElem? (i := 118) rfl)) rfl, List.forall_mem_cons.mpr ⟨wz_in (tc_4 (List.mem_of_getElem? (i := 120) rfl)) rfl, List.forall_mem_cons.mpr ⟨wz_in (tc_4 (List.mem_of_getElem? (i := 122) rfl)) rfl, List.forall_mem_cons.mpr ⟨wz_in (tc_4 (List.mem_of_getElem? (i := 124) rfl)) rfl, List.forall_mem_cons.mpr ⟨wz_in (tc_4 (List.mem_of_getElem? (i := 126) rfl)) rfl, fun _ h => absurd h List.not_mem_nil⟩⟩⟩⟩⟩⟩⟩⟩⟩⟩⟩⟩⟩⟩⟩⟩⟩⟩⟩⟩⟩⟩⟩⟩⟩⟩⟩
theorem gm_L_9 : GoodIn wz (wc yX7_init cX7_init 2 none) := gd_code wd_95
theorem gm_X7_9 : GoodIn wz (wc yX5_init cX5_init 1 none) := gd_code wd_103
theorem gm_X5_11 : GoodIn wz (wc yX3_init cX3_init 1 none) := gd_code wd_109
theorem fl_X3_9 : FLk RX3 9 3 0 RX3 TX3 4 := ⟨rfl, Nat.le_of_ble_eq_true rfl, inX3, wd_111⟩
theorem fl_X3_15 : FLk RX3 15 3 1 RX3 TX3 4 := ⟨rfl, Nat.le_of_ble_eq_true rfl, inX3, wd_112⟩
theorem fl_X3_18 : FLk RX3 18 3 2 RX3 TX3 4 := ⟨rfl, Nat.le_of_ble_eq_true rfl, inX3, wd_113⟩
theorem fl_X3_21 : FLk RX3 21 3 3 RX3 TX3 4 := ⟨rfl, Nat.le_of_ble_eq_true rfl, inX3, wd_114⟩
theorem gm_X5_23 : GoodIn wz (wc yX0_init cX0_init 3 none) := gd_code wd_129
theorem fl_X0_36 : FLk RX0 36 0 0 RX0 TX0 13 := ⟨rfl, Nat.le_of_ble_eq_true rfl, inX0, wd_131⟩
theorem fl_X0_40 : FLk RX0 40 0 1 RX0 TX0 13 := ⟨rfl, Nat.le_of_ble_eq_true rfl, inX0, wd_132⟩
theorem fl_X0_9 : FLk RX0 9 0 2 RX0 TX0 13 := ⟨rfl, Nat.le_of_ble_eq_true rfl, inX0, wd_133⟩
theorem fl_X7_91 : FLk RX7 91 0 2 RX0 TX0 13 := ⟨rfl, Nat.le_of_ble_eq_true rfl, inX0, wd_134⟩
theorem fl_X0_15 : FLk RX0 15 0 3 RX0 TX0 13 := ⟨rfl, Nat.le_of_ble_eq_true rfl, inX0, wd_135⟩
theorem fl_X7_94 : FLk RX7 94 0 3 RX0 TX0 13 := ⟨rfl, Nat.le_of_ble_eq_true rfl, inX0, wd_136⟩
theorem fl_X0_18 : FLk RX0 18 0 4 RX0 TX0 13 := ⟨rfl, Nat.le_of_ble_eq_true rfl, inX0, wd_137⟩
theorem fl_X7_97 : FLk RX7 97 0 4 RX0 TX0 13 := ⟨rfl, Nat.le_of_ble_eq_true rfl, inX0, wd_138⟩
theorem fl_X5_63 : FLk RX5 63 0 4 RX0 TX0 13 := ⟨rfl, Nat.le_of_ble_eq_true rfl, inX0, wd_139⟩
theorem fl_X0_21 : FLk RX0 21 0 5 RX0 TX0 13 := ⟨rfl, Nat.le_of_ble_eq_true rfl, inX0, wd_140⟩
theorem fl_X7_100 : FLk RX7 100 0 5 RX0 TX0 13 := ⟨rfl, Nat.le_of_ble_eq_true rfl, inX0, wd_141⟩
theorem fl_X0_24 : FLk RX0 24 0 6 RX0 TX0 13 := ⟨rfl, Nat.le_of_ble_eq_true rfl, inX0, wd_142⟩
theorem fl_X7_103 : FLk RX7 103 0 6 RX0 TX0 13 := ⟨rfl, Nat.le_of_ble_eq_true rfl, inX0, wd_143⟩
theorem fl_X0_27 : FLk RX0 27 0 7 RX0 TX0 13 := ⟨rfl, Nat.le_of_ble_eq_true rfl, inX0, wd_144⟩
theorem fl_X7_106 : FLk RX7 106 0 7 RX0 TX0 13 := ⟨rfl, Nat.le_of_ble_eq_true rfl, inX0, wd_145⟩
theorem fl_X0_30 : FLk RX0 30 0 8 RX0 TX0 13 := ⟨rfl, Nat.le_of_ble_eq_true rfl, inX0, wd_146⟩
theorem fl_X0_33 : FLk RX0 33 0 9 RX0 TX0 13 := ⟨rfl, Nat.le_of_ble_eq_true rfl, inX0, wd_147⟩
theorem fl_X0_43 : FLk RX0 43 0 10 RX0 TX0 13 := ⟨rfl, Nat.le_of_ble_eq_true rfl, inX0, wd_148⟩
theorem fl_X7_81 : FLk RX7 81 0 10 RX0 TX0 13 := ⟨rfl, Nat.le_of_ble_eq_true rfl, inX0, wd_149⟩
theorem fl_X5_56 : FLk RX5 56 0 10 RX0 TX0 13 := ⟨rfl, Nat.le_of_ble_eq_true rfl, inX0, wd_150⟩
theorem fl_X0_47 : FLk RX0 47 0 11 RX0 TX0 13 := ⟨rfl, Nat.le_of_ble_eq_true rfl, inX0, wd_151⟩
theorem fl_X7_193 : FLk RX7 193 0 11 RX0 TX0 13 := ⟨rfl, Nat.le_of_ble_eq_true rfl, inX0, wd_152⟩
theorem fl_X0_50 : FLk RX0 50 0 12 RX0 TX0 13 := ⟨rfl, Nat.le_of_ble_eq_true rfl, inX0, wd_153⟩
theorem fl_X7_134 : FLk RX7 134 0 12 RX0 TX0 13 := ⟨rfl, Nat.le_of_ble_eq_true rfl, inX0, wd_154⟩
theorem gm_X5_32 : GoodIn wz (wc yX4_init cX4_init 2 none) := gd_code wd_186
theorem fl_X4_13 : FLk RX4 13 4 0 RX4 TX4 2 := ⟨rfl, Nat.le_of_ble_eq_true rfl, inX4, wd_191⟩
theorem fl_X1_48 : FLk RX1 48 4 0 RX4 TX4 2 := ⟨rfl, Nat.le_of_ble_eq_true rfl, inX4, wd_192⟩
theorem fl_X7_262 : FLk RX7 262 4 0 RX4 TX4 2 := ⟨rfl, Nat.le_of_ble_eq_true rfl, inX4, wd_193⟩
theorem fl_X4_19 : FLk RX4 19 4 1 RX4 TX4 2 := ⟨rfl, Nat.le_of_ble_eq_true rfl, inX4, wd_194⟩
theorem fl_X1_45 : FLk RX1 45 4 1 RX4 TX4 2 := ⟨rfl, Nat.le_of_ble_eq_true rfl, inX4, wd_195⟩
theorem fl_X7_156 : FLk RX7 156 4 1 RX4 TX4 2 := ⟨rfl, Nat.le_of_ble_eq_true rfl, inX4, wd_196⟩
theorem fl_X5_12 : FLk RX5 12 5 0 RX5 TX5 6 := ⟨rfl, Nat.le_of_ble_eq_true rfl, inX5, wd_202⟩
theorem fl_X7_21 : FLk RX7 21 5 0 RX5 TX5 6 := ⟨rfl, Nat.le_of_ble_eq_true rfl, inX5, wd_203⟩
theorem fl_X5_18 : FLk RX5 18 5 1 RX5 TX5 6 := ⟨rfl, Nat.le_of_ble_eq_true rfl, inX5, wd_204⟩
theorem fl_X7_25 : FLk RX7 25 5 1 RX5 TX5 6 := ⟨rfl, Nat.le_of_ble_eq_true rfl, inX5, wd_205⟩
theorem fl_X5_26 : FLk RX5 26 5 2 RX5 TX5 6 := ⟨rfl, Nat.le_of_ble_eq_true rfl, inX5, wd_206⟩
theorem fl_X7_78 : FLk RX7 78 5 2 RX5 TX5 6 := ⟨rfl, Nat.le_of_ble_eq_true rfl, inX5, wd_207⟩
theorem fl_X5_35 : FLk RX5 35 5 3 RX5 TX5 6 := ⟨rfl, Nat.le_of_ble_eq_true rfl, inX5, wd_208⟩
theorem fl_X7_152 : FLk RX7 152 5 3 RX5 TX5 6 := ⟨rfl, Nat.le_of_ble_eq_true rfl, inX5, wd_209⟩
theorem fl_X5_39 : FLk RX5 39 5 4 RX5 TX5 6 := ⟨rfl, Nat.le_of_ble_eq_true rfl, inX5, wd_210⟩
theorem fl_X7_291 : FLk RX7 291 5 4 RX5 TX5 6 := ⟨rfl, Nat.le_of_ble_eq_true rfl, inX5, wd_211⟩
theorem fl_X5_42 : FLk RX5 42 5 5 RX5 TX5 6 := ⟨rfl, Nat.le_of_ble_eq_true rfl, inX5, wd_212⟩
theorem fl_X7_252 : FLk RX7 252 5 5 RX5 TX5 6 := ⟨rfl, Nat.le_of_ble_eq_true rfl, inX5, wd_213⟩
theorem gm_X7_28 : GoodIn wz (wc yX0_init cX0_init 3 none) := gd_code wd_129
theorem gm_X7_37 : GoodIn wz (wc yX1_init cX1_init 1 none) := gd_code wd_233
theorem gm_X1_11 : GoodIn wz (wc yX3_init cX3_init 1 none) := gd_code wd_109
theorem gm_X1_20 : GoodIn wz (wc yX4_init cX4_init 2 none) := gd_code wd_186
theorem fl_X1_12 : FLk RX1 12 1 0 RX1 TX1 4 := ⟨rfl, Nat.le_of_ble_eq_true rfl, inX1, wd_239⟩
theorem fl_X7_177 : FLk RX7 177 1 0 RX1 TX1 4 := ⟨rfl, Nat.le_of_ble_eq_true rfl, inX1, wd_240⟩
theorem fl_X1_23 : FLk RX1 23 1 1 RX1 TX1 4 := ⟨rfl, Nat.le_of_ble_eq_true rfl, inX1, wd_241⟩
theorem fl_X1_27 : FLk RX1 27 1 2 RX1 TX1 4 := ⟨rfl, Nat.le_of_ble_eq_true rfl, inX1, wd_242⟩
theorem fl_X1_31 : FLk RX1 31 1 3 RX1 TX1 4 := ⟨rfl, Nat.le_of_ble_eq_true rfl, inX1, wd_243⟩
theorem gm_X7_44 : GoodIn wz (wc yX6_init cX6_init 1 none) := gd_code wd_257
theorem gm_X6_11 : GoodIn wz (wc yX4_init cX4_init 2 none) := gd_code wd_186
theorem fl_X6_14 : FLk RX6 14 6 0 RX6 TX6 4 := ⟨rfl, Nat.le_of_ble_eq_true rfl, inX6, wd_261⟩
theorem fl_X7_259 : FLk RX7 259 6 0 RX6 TX6 4 := ⟨rfl, Nat.le_of_ble_eq_true rfl, inX6, wd_262⟩
theorem fl_X6_20 : FLk RX6 20 6 1 RX6 TX6 4 := ⟨rfl, Nat.le_of_ble_eq_true rfl, inX6, wd_263⟩
theorem fl_X6_24 : FLk RX6 24 6 2 RX6 TX6 4 := ⟨rfl, Nat.le_of_ble_eq_true rfl, inX6, wd_264⟩
theorem fl_X6_27 : FLk RX6 27 6 3 RX6 TX6 4 := ⟨rfl, Nat.le_of_ble_eq_true rfl, inX6, wd_265⟩
theorem gm_X7_55 : GoodIn wz (wc yX2_init cX2_init 1 none) := gd_code wd_280
theorem fl_X2_9 : FLk RX2 9 2 0 RX2 TX2 3 := ⟨rfl, Nat.le_of_ble_eq_true rfl, inX2, wd_282⟩
theorem fl_X7_229 : FLk RX7 229 2 0 RX2 TX2 3 := ⟨rfl, Nat.le_of_ble_eq_true rfl, inX2, wd_283⟩
theorem fl_X2_15 : FLk RX2 15 2 1 RX2 TX2 3 := ⟨rfl, Nat.le_of_ble_eq_true rfl, inX2, wd_284⟩
theorem fl_X7_271 : FLk RX7 271 2 1 RX2 TX2 3 := ⟨rfl, Nat.le_of_ble_eq_true rfl, inX2, wd_285⟩
theorem fl_X2_19 : FLk RX2 19 2 2 RX2 TX2 3 := ⟨rfl, Nat.le_of_ble_eq_true rfl, inX2, wd_286⟩
theorem fl_X7_228 : FLk RX7 228 2 2 RX2 TX2 3 := ⟨rfl, Nat.le_of_ble_eq_true rfl, inX2, wd_287⟩
theorem fl_X7_10 : FLk RX7 10 7 0 RX7 TX7 9 := ⟨rfl, Nat.le_of_ble_eq_true rfl, inX7, wd_295⟩
theorem fl_X7_16 : FLk RX7 16 7 1 RX7 TX7 9 := ⟨rfl, Nat.le_of_ble_eq_true rfl, inX7, wd_296⟩
theorem fl_X7_31 : FLk RX7 31 7 2 RX7 TX7 9 := ⟨rfl, Nat.le_of_ble_eq_true rfl, inX7, wd_297⟩
theorem fl_X7_38 : FLk RX7 38 7 3 RX7 TX7 9 := ⟨rfl, Nat.le_of_ble_eq_true rfl, inX7, wd_298⟩
theorem fl_X7_45 : FLk RX7 45 7 4 RX7 TX7 9 := ⟨rfl, Nat.le_of_ble_eq_true rfl, inX7, wd_299⟩
theorem fl_X7_51 : FLk RX7 51 7 5 RX7 TX7 9 := ⟨rfl, Nat.le_of_ble_eq_true rfl, inX7, wd_300⟩
theorem fl_X7_56 : FLk RX7 56 7 6 RX7 TX7 9 := ⟨rfl, Nat.le_of_ble_eq_true rfl, inX7, wd_301⟩
theorem fl_X7_60 : FLk RX7 60 7 7 RX7 TX7 9 := ⟨rfl, Nat.le_of_ble_eq_true rfl, inX7, wd_302⟩
theorem fl_X7_63 : FLk RX7 63 7 8 RX7 TX7 9 := ⟨rfl, Nat.le_of_ble_eq_true rfl, inX7, wd_303⟩
theorem gm_L_13 : GoodIn wz (wsV RL 13 RX7 yX7_soul (wc yX7_soul cX7_soul 3 (some .int))) := gd_V wd_323 wd_324 wd_325 wd_75 wd_326
theorem gm_X7_67 : GoodIn wz (wsS RX7 67 yX7_isKindAndNumber (wc yX7_isKindAndNumber cX7_isKindAndNumber 1 (some .boolean))) := gd_S wd_327 wd_328 wd_75 wd_329
theorem gm_X7_126 : GoodIn wz (wsS RX7 126 yX7_within (wc yX7_within cX7_within 3 (some .boolean))) := gd_S wd_330 wd_331 wd_75 wd_332
theorem gm_X7_71 : GoodIn wz (wsS RX7 71 yX7_isStreet (wc yX7_isStreet cX7_isStreet 1 (some .boolean))) := gd_S wd_333 wd_334 wd_75 wd_335
theorem gm_X7_74 : GoodIn wz (wsV RX7 74 RX7 yX7_refuse (wc yX7_refuse cX7_refuse 2 (some .int))) := gd_V wd_336 wd_338 wd_0 wd_75 wd_339
theorem gm_X7_84 : GoodIn wz (wsV RX7 84 RX0 yX0_join (wc yX0_join cX0_join 4 (some .int))) := gd_V wd_341 wd_342 wd_343 wd_78 wd_344
theorem gm_X0_59 : GoodIn wz (wsV RX0 59 RX0 yX0_turnInto (wc yX0_turnInto cX0_turnInto 3 none)) := gd_V wd_345 wd_346 wd_347 wd_78 wd_348
theorem gm_L_18 : GoodIn wz (wsV RL 18 RX7 yX7_ofSoul (wc yX7_ofSoul cX7_ofSoul 4 (some .int))) := gd_V wd_349 wd_350 wd_351 wd_75 wd_352
theorem gm_X7_88 : GoodIn wz (wsV RX7 88 RX7 yX7_isSoul (wc yX7_isSoul cX7_isSoul 2 (some .boolean))) := gd_V wd_353 wd_355 wd_1 wd_75 wd_356
theorem gm_X7_109 : GoodIn wz (wsV RX7 109 RX0 yX0_keepsOf (wc yX0_keepsOf cX0_keepsOf 3 (some .int))) := gd_V wd_357 wd_358 wd_359 wd_78 wd_360
theorem gm_X7_112 : GoodIn wz (wsV RX7 112 RX0 yX0_handsOf (wc yX0_handsOf cX0_handsOf 3 (some .int))) := gd_V wd_366 wd_367 wd_368 wd_78 wd_369
theorem gm_X7_115 : GoodIn wz (wsV RX7 115 RX0 yX0_runsOf (wc yX0_runsOf cX0_runsOf 2 (some .int))) := gd_V wd_378 wd_379 wd_380 wd_78 wd_381
theorem gm_L_22 : GoodIn wz (wsV RL 22 RX7 yX7_change (wc yX7_change cX7_change 5 (some .int))) := gd_V wd_382 wd_383 wd_384 wd_75 wd_385
theorem gm_X7_118 : GoodIn wz (wsV RX7 118 RX7 yX7_replace (wc yX7_replace cX7_replace 6 (some .int))) := gd_V wd_386 wd_388 wd_2 wd_75 wd_389
theorem gm_L_27 : GoodIn wz (wsV RL 27 RX7 yX7_become (wc yX7_become cX7_become 4 (some .int))) := gd_V wd_390 wd_391 wd_392 wd_75 wd_393
theorem gm_X7_122 : GoodIn wz (wsV RX7 122 RX0 yX0_turnInto (wc yX0_turnInto cX0_turnInto 3 none)) := gd_V wd_394 wd_346 wd_347 wd_78 wd_348
theorem gm_L_31 : GoodIn wz (wsV RL 31 RX7 yX7_as (wc yX7_as cX7_as 3 (some .int))) := gd_V wd_395 wd_396 wd_397 wd_75 wd_398
theorem gm_X7_130 : GoodIn wz (wsS RX7 130 yX7_isUnder (wc yX7_isUnder cX7_isUnder 4 (some .boolean))) := gd_S wd_399 wd_362 wd_75 wd_363
theorem gm_L_35 : GoodIn wz (wsV RL 35 RX7 yX7_loss (wc yX7_loss cX7_loss 3 (some .int))) := gd_V wd_400 wd_401 wd_402 wd_75 wd_403
theorem gm_L_40 : GoodIn wz (wsV RL 40 RX7 yX7_street (wc yX7_street cX7_street 3 (some .int))) := gd_V wd_404 wd_405 wd_406 wd_75 wd_407
theorem gm_X7_137 : GoodIn wz (wsS RX7 137 yX7_isEither (wc yX7_isEither cX7_isEither 1 (some .boolean))) := gd_S wd_408 wd_409 wd_75 wd_410
theorem gm_X7_140 : GoodIn wz (wsV RX7 140 RX0 yX0_whoAt (wc yX0_whoAt cX0_whoAt 4 (some .int))) := gd_V wd_411 wd_412 wd_413 wd_78 wd_414
theorem gm_X7_143 : GoodIn wz (wsV RX7 143 RX0 yX0_whoFreeAt (wc yX0_whoFreeAt cX0_whoFreeAt 4 (some .int))) := gd_V wd_415 wd_416 wd_417 wd_78 wd_418
theorem gm_L_44 : GoodIn wz (wsV RL 44 RX7 yX7_meet (wc yX7_meet cX7_meet 3 (some .int))) := gd_V wd_419 wd_420 wd_421 wd_75 wd_422
theorem gm_X7_146 : GoodIn wz (wsV RX7 146 RX0 yX0_canTouch (wc yX0_canTouch cX0_canTouch 3 (some .boolean))) := gd_V wd_423 wd_424 wd_425 wd_78 wd_426
theorem gm_X7_149 : GoodIn wz (wsV RX7 149 RX0 yX0_handsOnAt (wc yX0_handsOnAt cX0_handsOnAt 2 (some .boolean))) := gd_V wd_427 wd_428 wd_429 wd_78 wd_430
theorem gm_X0_86 : GoodIn wz (wsV RX0 86 RX0 yX0_howManyAt (wc yX0_howManyAt cX0_howManyAt 2 (some .int))) := gd_V wd_431 wd_432 wd_433 wd_78 wd_434
theorem gm_X0_93 : GoodIn wz (wsV RX0 93 RX0 yX0_whoAt (wc yX0_whoAt cX0_whoAt 4 (some .int))) := gd_V wd_435 wd_412 wd_413 wd_78 wd_414
theorem gm_X0_96 : GoodIn wz (va_wsS RX0 96 yJ6_bitCount_0f7a4 (wc yJ6_bitCount_0f7a4 cJ6_bitCount_0f7a4 1 (some .int))) := gd_SO wd_436 wd_437 wd_85 wd_438
theorem gm_X0_90 : GoodIn wz (wsV RX0 90 RX0 yX0_meets (wc yX0_meets cX0_meets 4 (some .int))) := gd_V wd_442 wd_443 wd_444 wd_78 wd_445
theorem gm_X0_77 : GoodIn wz (wsV RX0 77 RX3 yX3_isEmpty (wc yX3_isEmpty cX3_isEmpty 1 (some .boolean))) := gd_V wd_446 wd_447 wd_448 wd_77 wd_449
theorem gm_X0_83 : GoodIn wz (wsV RX0 83 RX3 yX3_gives (wc yX3_gives cX3_gives 7 (some .int))) := gd_V wd_450 wd_451 wd_452 wd_77 wd_453
theorem gm_X3_31 : GoodIn wz (wsS RX3 31 yX3_single (wc yX3_single cX3_single 5 (some .int))) := gd_S wd_454 wd_455 wd_77 wd_456
theorem gm_X3_35 : GoodIn wz (wsS RX3 35 yX3_joined (wc yX3_joined cX3_joined 3 (some .int))) := gd_S wd_457 wd_458 wd_77 wd_459
theorem gm_L_50 : GoodIn wz (wsV RL 50 RX7 yX7_feed (wc yX7_feed cX7_feed 5 (some .int))) := gd_V wd_460 wd_461 wd_462 wd_75 wd_463
theorem gm_X7_159 : GoodIn wz (wsV RX7 159 RX4 yX4_add (wc yX4_add cX4_add 2 none)) := gd_V wd_464 wd_465 wd_466 wd_79 wd_467
theorem gm_L_55 : GoodIn wz (wsV RL 55 RX7 yX7_text (wc yX7_text cX7_text 3 (some .int))) := gd_V wd_468 wd_469 wd_470 wd_75 wd_471
theorem gm_X7_163 : GoodIn wz (wsS RX7 163 yX7_isUse (wc yX7_isUse cX7_isUse 1 (some .boolean))) := gd_S wd_472 wd_473 wd_75 wd_474
theorem gm_X7_166 : GoodIn wz (wsV RX7 166 RX1 yX1_read (wc yX1_read cX1_read 3 (some .int))) := gd_V wd_475 wd_476 wd_477 wd_81 wd_478
theorem gm_X1_34 : GoodIn wz (wsV RX1 34 RX4 yX4_copy (wc yX4_copy cX4_copy 2 none)) := gd_V wd_479 wd_480 wd_481 wd_79 wd_482
theorem gm_X1_38 : GoodIn wz (wsV RX1 38 RX3 yX3_clear (wc yX3_clear cX3_clear 1 none)) := gd_V wd_487 wd_488 wd_489 wd_77 wd_490
theorem gm_X1_41 : GoodIn wz (wsV RX1 41 RX1 yX1_readAny (wc yX1_readAny cX1_readAny 4 (some .boolean))) := gd_V wd_491 wd_493 wd_3 wd_81 wd_494
theorem gm_X1_52 : GoodIn wz (wsV RX1 52 RX1 yX1_readAll (wc yX1_readAll cX1_readAll 4 (some .boolean))) := gd_V wd_495 wd_497 wd_4 wd_81 wd_498
theorem gm_X1_63 : GoodIn wz (wsV RX1 63 RX1 yX1_readComparison (wc yX1_readComparison cX1_readComparison 4 (some .boolean))) := gd_V wd_499 wd_501 wd_5 wd_81 wd_502
theorem gm_X1_66 : GoodIn wz (wsV RX1 66 RX1 yX1_readSum (wc yX1_readSum cX1_readSum 5 (some .boolean))) := gd_V wd_503 wd_505 wd_6 wd_81 wd_506
theorem gm_X1_69 : GoodIn wz (wsV RX1 69 RX1 yX1_readProduct (wc yX1_readProduct cX1_readProduct 5 (some .boolean))) := gd_V wd_507 wd_509 wd_7 wd_81 wd_510
theorem gm_X1_72 : GoodIn wz (wsV RX1 72 RX1 yX1_readSingle (wc yX1_readSingle cX1_readSingle 3 (some .boolean))) := gd_V wd_511 wd_513 wd_8 wd_81 wd_514
theorem gm_X1_55 : GoodIn wz (wsV RX1 55 RX1 yX1_next (wc yX1_next cX1_next 1 (some .int))) := gd_V wd_515 wd_517 wd_9 wd_81 wd_518
theorem gm_X1_75 : GoodIn wz (wsV RX1 75 RX1 yX1_readOpened (wc yX1_readOpened cX1_readOpened 4 (some .boolean))) := gd_V wd_519 wd_521 wd_10 wd_81 wd_522
theorem gm_X1_59 : GoodIn wz (wsV RX1 59 RX3 yX3_add (wc yX3_add cX3_add 3 none)) := gd_V wd_523 wd_524 wd_525 wd_77 wd_526
theorem gm_X1_79 : GoodIn wz (wsS RX1 79 yX1_isDigit (wc yX1_isDigit cX1_isDigit 1 (some .boolean))) := gd_S wd_527 wd_528 wd_81 wd_529
theorem gm_X1_82 : GoodIn wz (wsV RX1 82 RX1 yX1_readNumber (wc yX1_readNumber cX1_readNumber 3 (some .boolean))) := gd_V wd_530 wd_532 wd_11 wd_81 wd_533
theorem gm_X1_86 : GoodIn wz (wsV RX1 86 RX1 yX1_readName (wc yX1_readName cX1_readName 3 (some .boolean))) := gd_V wd_534 wd_536 wd_12 wd_81 wd_537
theorem gm_X7_170 : GoodIn wz (wsV RX7 170 RX4 yX4_clear (wc yX4_clear cX4_clear 1 none)) := gd_V wd_540 wd_541 wd_542 wd_79 wd_543
theorem gm_X7_173 : GoodIn wz (wsV RX7 173 RX5 yX5_ruleOf (wc yX5_ruleOf cX5_ruleOf 2 (some (.object "ImmunityCatching$Rule")))) := gd_V wd_544 wd_545 wd_546 wd_76 wd_547
theorem gm_X7_180 : GoodIn wz (wsV RX7 180 RX3 yX3_copy (wc yX3_copy cX3_copy 2 none)) := gd_V wd_548 wd_549 wd_550 wd_77 wd_551
theorem gm_L_59 : GoodIn wz (wsV RL 59 RX7 yX7_law (wc yX7_law cX7_law 5 (some .int))) := gd_V wd_553 wd_554 wd_555 wd_75 wd_556
theorem gm_X7_186 : GoodIn wz (wsV RX7 186 RX0 yX0_meets (wc yX0_meets cX0_meets 4 (some .int))) := gd_V wd_557 wd_443 wd_444 wd_78 wd_445
theorem gm_X7_190 : GoodIn wz (wsV RX7 190 RX0 yX0_deedsBy (wc yX0_deedsBy cX0_deedsBy 4 (some .int))) := gd_V wd_558 wd_559 wd_560 wd_78 wd_561
theorem gm_L_64 : GoodIn wz (wsV RL 64 RX7 yX7_steps (wc yX7_steps cX7_steps 2 (some .int))) := gd_V wd_562 wd_563 wd_564 wd_75 wd_565
theorem gm_X7_196 : GoodIn wz (wsV RX7 196 RX0 yX0_pass (wc yX0_pass cX0_pass 3 none)) := gd_V wd_566 wd_567 wd_568 wd_78 wd_569
theorem gm_X0_101 : GoodIn wz (wsV RX0 101 RX0 yX0_haveOwn (wc yX0_haveOwn cX0_haveOwn 2 none)) := gd_V wd_570 wd_572 wd_13 wd_78 wd_573
theorem gm_X0_116 : GoodIn wz (wsV RX0 116 RX0 yX0_keepsOf (wc yX0_keepsOf cX0_keepsOf 3 (some .int))) := gd_V wd_574 wd_358 wd_359 wd_78 wd_360
theorem gm_X0_104 : GoodIn wz (wsV RX0 104 RX0 yX0_handOn (wc yX0_handOn cX0_handOn 3 none)) := gd_V wd_576 wd_578 wd_14 wd_78 wd_579
theorem gm_X0_122 : GoodIn wz (wsV RX0 122 RX0 yX0_countCrowds (wc yX0_countCrowds cX0_countCrowds 2 none)) := gd_V wd_580 wd_582 wd_15 wd_78 wd_583
theorem gm_X0_125 : GoodIn wz (wsV RX0 125 RX0 yX0_handsOf (wc yX0_handsOf cX0_handsOf 3 (some .int))) := gd_V wd_585 wd_367 wd_368 wd_78 wd_369
theorem gm_X0_128 : GoodIn wz (wsV RX0 128 RX0 yX0_handOnAt (wc yX0_handOnAt cX0_handOnAt 4 none)) := gd_V wd_586 wd_588 wd_16 wd_78 wd_589
theorem gm_X0_136 : GoodIn wz (wsV RX0 136 RX0 yX0_canTouch (wc yX0_canTouch cX0_canTouch 3 (some .boolean))) := gd_V wd_590 wd_424 wd_425 wd_78 wd_426
theorem gm_X0_107 : GoodIn wz (wsV RX0 107 RX0 yX0_doDeeds (wc yX0_doDeeds cX0_doDeeds 3 none)) := gd_V wd_591 wd_593 wd_17 wd_78 wd_594
theorem gm_X0_139 : GoodIn wz (wsV RX0 139 RX0 yX0_deedsBy (wc yX0_deedsBy cX0_deedsBy 4 (some .int))) := gd_V wd_595 wd_559 wd_560 wd_78 wd_561
theorem gm_X0_110 : GoodIn wz (wsV RX0 110 RX0 yX0_runOut (wc yX0_runOut cX0_runOut 2 none)) := gd_V wd_596 wd_598 wd_18 wd_78 wd_599
theorem gm_X0_142 : GoodIn wz (wsV RX0 142 RX0 yX0_runsOf (wc yX0_runsOf cX0_runsOf 2 (some .int))) := gd_V wd_600 wd_379 wd_380 wd_78 wd_381
theorem gm_X0_113 : GoodIn wz (wsV RX0 113 RX0 yX0_steal (wc yX0_steal cX0_steal 2 none)) := gd_V wd_601 wd_603 wd_19 wd_78 wd_604
theorem gm_X7_199 : GoodIn wz (wsV RX7 199 RX0 yX0_freeTogether (wc yX0_freeTogether cX0_freeTogether 3 (some .int))) := gd_V wd_605 wd_606 wd_607 wd_78 wd_608
theorem gm_L_68 : GoodIn wz (wsV RL 68 RX7 yX7_loose (wc yX7_loose cX7_loose 3 (some .int))) := gd_V wd_609 wd_610 wd_611 wd_75 wd_612
theorem gm_X7_203 : GoodIn wz (wsV RX7 203 RX5 yX5_stray (wc yX5_stray cX5_stray 3 none)) := gd_V wd_613 wd_614 wd_615 wd_76 wd_616
theorem gm_X5_59 : GoodIn wz (wsV RX5 59 RX5 yX5_draw (wc yX5_draw cX5_draw 1 (some .int))) := gd_V wd_617 wd_619 wd_20 wd_76 wd_620
theorem gm_L_72 : GoodIn wz (wsV RL 72 RX7 yX7_then (wc yX7_then cX7_then 4 (some .int))) := gd_V wd_622 wd_623 wd_624 wd_75 wd_625
theorem gm_X7_206 : GoodIn wz (wsV RX7 206 RX7 yX7_think (wc yX7_think cX7_think 1 none)) := gd_V wd_626 wd_628 wd_21 wd_75 wd_629
theorem gm_X7_301 : GoodIn wz (wsV RX7 301 RX0 yX0_copy (wc yX0_copy cX0_copy 2 none)) := gd_V wd_630 wd_631 wd_632 wd_78 wd_633
theorem gm_L_76 : GoodIn wz (wsV RL 76 RX7 yX7_last (wc yX7_last cX7_last 5 (some .int))) := gd_V wd_635 wd_636 wd_637 wd_75 wd_638
theorem gm_X7_209 : GoodIn wz (wsV RX7 209 RX7 yX7_countTimesFree (wc yX7_countTimesFree cX7_countTimesFree 4 none)) := gd_V wd_639 wd_641 wd_22 wd_75 wd_642
theorem gm_L_80 : GoodIn wz (wsV RL 80 RX7 yX7_reaches (wc yX7_reaches cX7_reaches 3 (some .int))) := gd_V wd_643 wd_644 wd_645 wd_75 wd_646
theorem gm_L_84 : GoodIn wz (wsV RL 84 RX7 yX7_gloves (wc yX7_gloves cX7_gloves 7 (some .int))) := gd_V wd_647 wd_648 wd_649 wd_75 wd_650
theorem gm_X7_212 : GoodIn wz (va_wsS RX7 212 yJ6_bitCount_0f7a4 (wc yJ6_bitCount_0f7a4 cJ6_bitCount_0f7a4 1 (some .int))) := gd_SO wd_651 wd_437 wd_85 wd_438
theorem gm_X7_217 : GoodIn wz (wsV RX7 217 RX7 yX7_staysAway (wc yX7_staysAway cX7_staysAway 5 (some .boolean))) := gd_V wd_652 wd_654 wd_23 wd_75 wd_655
theorem gm_X7_304 : GoodIn wz (wsV RX7 304 RX0 yX0_putGlovesOn (wc yX0_putGlovesOn cX0_putGlovesOn 3 none)) := gd_V wd_656 wd_657 wd_658 wd_78 wd_659
theorem gm_L_88 : GoodIn wz (wsV RL 88 RX7 yX7_from (wc yX7_from cX7_from 7 (some .int))) := gd_V wd_660 wd_661 wd_662 wd_75 wd_663
theorem gm_X7_220 : GoodIn wz (wsV RX7 220 RX7 yX7_rowOf (wc yX7_rowOf cX7_rowOf 2 (some (.object "ImmunityCatching$Row")))) := gd_V wd_664 wd_666 wd_24 wd_75 wd_667
theorem gm_X7_224 : GoodIn wz (wsV RX7 224 RX2 yX2_isMissing (wc yX2_isMissing cX2_isMissing 1 (some .boolean))) := gd_V wd_668 wd_669 wd_670 wd_83 wd_671
theorem gm_X7_232 : GoodIn wz (wsV RX7 232 RX7 yX7_canHaveComeBy (wc yX7_canHaveComeBy cX7_canHaveComeBy 5 (some .boolean))) := gd_V wd_672 wd_674 wd_25 wd_75 wd_675
theorem gm_X7_307 : GoodIn wz (wsV RX7 307 RX0 yX0_leaveFreeOnly (wc yX0_leaveFreeOnly cX0_leaveFreeOnly 3 none)) := gd_V wd_676 wd_677 wd_678 wd_78 wd_679
theorem gm_L_92 : GoodIn wz (wsV RL 92 RX7 yX7_stand (wc yX7_stand cX7_stand 8 (some .int))) := gd_V wd_680 wd_681 wd_682 wd_75 wd_683
theorem gm_X7_236 : GoodIn wz (wsV RX7 236 RX7 yX7_hoursWith (wc yX7_hoursWith cX7_hoursWith 5 (some .int))) := gd_V wd_684 wd_686 wd_26 wd_75 wd_687
theorem gm_L_96 : GoodIn wz (wsV RL 96 RX7 yX7_crush (wc yX7_crush cX7_crush 5 (some .int))) := gd_V wd_688 wd_689 wd_690 wd_75 wd_691
theorem gm_X7_240 : GoodIn wz (wsV RX7 240 RX0 yX0_howManyAt (wc yX0_howManyAt cX0_howManyAt 2 (some .int))) := gd_V wd_692 wd_432 wd_433 wd_78 wd_434
theorem gm_L_100 : GoodIn wz (wsV RL 100 RX7 yX7_dies (wc yX7_dies cX7_dies 2 (some .int))) := gd_V wd_693 wd_694 wd_695 wd_75 wd_696
theorem gm_X7_243 : GoodIn wz (wsV RX7 243 RX0 yX0_howManyFree (wc yX0_howManyFree cX0_howManyFree 3 (some .int))) := gd_V wd_697 wd_698 wd_699 wd_78 wd_700
theorem gm_L_105 : GoodIn wz (wsV RL 105 RX7 yX7_touch (wc yX7_touch cX7_touch 9 (some .int))) := gd_V wd_701 wd_702 wd_703 wd_75 wd_704
theorem gm_L_109 : GoodIn wz (wsV RL 109 RX7 yX7_done (wc yX7_done cX7_done 2 (some .int))) := gd_V wd_705 wd_706 wd_707 wd_75 wd_708
theorem gm_X7_246 : GoodIn wz (wsV RX7 246 RX0 yX0_deedsTogether (wc yX0_deedsTogether cX0_deedsTogether 3 (some .int))) := gd_V wd_709 wd_710 wd_711 wd_78 wd_712
theorem gm_L_113 : GoodIn wz (wsV RL 113 RX7 yX7_odds (wc yX7_odds cX7_odds 6 (some .int))) := gd_V wd_713 wd_714 wd_715 wd_75 wd_716
theorem gm_X7_249 : GoodIn wz (wsS RX7 249 yX7_commonDivisor (wc yX7_commonDivisor cX7_commonDivisor 6 (some .int))) := gd_S wd_717 wd_718 wd_75 wd_719
theorem gm_L_117 : GoodIn wz (wsV RL 117 RX7 yX7_seed (wc yX7_seed cX7_seed 3 (some .int))) := gd_V wd_720 wd_721 wd_722 wd_75 wd_723
theorem gm_L_121 : GoodIn wz (wsV RL 121 RX7 yX7_voice (wc yX7_voice cX7_voice 4 (some .int))) := gd_V wd_724 wd_725 wd_726 wd_75 wd_727
theorem gm_X7_255 : GoodIn wz (wsV RX7 255 RX6 yX6_speak (wc yX6_speak cX6_speak 6 (some .int))) := gd_V wd_728 wd_729 wd_730 wd_82 wd_731
theorem gm_X6_30 : GoodIn wz (wsV RX6 30 RX4 yX4_clear (wc yX4_clear cX4_clear 1 none)) := gd_V wd_732 wd_541 wd_542 wd_79 wd_543
theorem gm_X6_33 : GoodIn wz (wsV RX6 33 RX6 yX6_own (wc yX6_own cX6_own 4 (some .int))) := gd_V wd_733 wd_735 wd_27 wd_82 wd_736
theorem gm_X6_37 : GoodIn wz (wsV RX6 37 RX6 yX6_of (wc yX6_of cX6_of 6 (some .int))) := gd_V wd_737 wd_739 wd_28 wd_82 wd_740
theorem gm_X6_41 : GoodIn wz (wsS RX6 41 yX6_bodyOf (wc yX6_bodyOf cX6_bodyOf 4 (some .int))) := gd_S wd_741 wd_742 wd_82 wd_743
theorem gm_X6_45 : GoodIn wz (wsV RX6 45 RX4 yX4_add (wc yX4_add cX4_add 2 none)) := gd_V wd_748 wd_465 wd_466 wd_79 wd_467
theorem gm_X6_48 : GoodIn wz (wsV RX6 48 RX6 yX6_work (wc yX6_work cX6_work 4 (some .int))) := gd_V wd_749 wd_751 wd_29 wd_82 wd_752
theorem gm_L_125 : GoodIn wz (wsV RL 125 RX7 yX7_trace (wc yX7_trace cX7_trace 2 (some .int))) := gd_V wd_753 wd_754 wd_755 wd_75 wd_756
theorem gm_L_129 : GoodIn wz (wsV RL 129 RX7 yX7_sheet (wc yX7_sheet cX7_sheet 5 (some .int))) := gd_V wd_757 wd_758 wd_759 wd_75 wd_760
theorem gm_X7_265 : GoodIn wz (wsV RX7 265 RX2 yX2_lay (wc yX2_lay cX2_lay 4 none)) := gd_V wd_761 wd_762 wd_763 wd_83 wd_764
theorem gm_L_133 : GoodIn wz (wsV RL 133 RX7 yX7_put (wc yX7_put cX7_put 5 (some .int))) := gd_V wd_766 wd_767 wd_768 wd_75 wd_769
theorem gm_X7_268 : GoodIn wz (wsV RX7 268 RX2 yX2_lowestBits (wc yX2_lowestBits cX2_lowestBits 2 (some .int))) := gd_V wd_770 wd_771 wd_772 wd_83 wd_773
theorem gm_L_137 : GoodIn wz (wsV RL 137 RX7 yX7_move (wc yX7_move cX7_move 8 (some .int))) := gd_V wd_775 wd_776 wd_777 wd_75 wd_778
theorem gm_X7_274 : GoodIn wz (wsV RX7 274 RX2 yX2_holds (wc yX2_holds cX2_holds 3 (some .boolean))) := gd_V wd_779 wd_780 wd_781 wd_83 wd_782
theorem gm_L_142 : GoodIn wz (wsV RL 142 RX7 yX7_frees (wc yX7_frees cX7_frees 5 (some .int))) := gd_V wd_784 wd_785 wd_786 wd_75 wd_787
theorem gm_L_146 : GoodIn wz (wsV RL 146 RX7 yX7_judge (wc yX7_judge cX7_judge 5 (some .int))) := gd_V wd_788 wd_789 wd_790 wd_75 wd_791
theorem gm_L_150 : GoodIn wz (wsV RL 150 RX7 yX7_image (wc yX7_image cX7_image 1 (some .int))) := gd_V wd_792 wd_793 wd_794 wd_75 wd_795
theorem gm_X7_288 : GoodIn wz (wsV RX7 288 RX5 yX5_copy (wc yX5_copy cX5_copy 2 none)) := gd_V wd_796 wd_797 wd_798 wd_76 wd_799
theorem gm_X5_46 : GoodIn wz (wsV RX5 46 RX3 yX3_copy (wc yX3_copy cX3_copy 2 none)) := gd_V wd_800 wd_549 wd_550 wd_77 wd_551
theorem gm_X5_50 : GoodIn wz (wsV RX5 50 RX0 yX0_copy (wc yX0_copy cX0_copy 2 none)) := gd_V wd_801 wd_631 wd_632 wd_78 wd_633
theorem gm_X5_53 : GoodIn wz (wsV RX5 53 RX4 yX4_copy (wc yX4_copy cX4_copy 2 none)) := gd_V wd_802 wd_480 wd_481 wd_79 wd_482
theorem gm_L_154 : GoodIn wz (wsV RL 154 RX7 yX7_restore (wc yX7_restore cX7_restore 1 (some .int))) := gd_V wd_803 wd_804 wd_805 wd_75 wd_806
theorem gm_L_158 : GoodIn wz (wsV RL 158 RX7 yX7_tell (wc yX7_tell cX7_tell 2 (some .int))) := gd_V wd_807 wd_808 wd_809 wd_75 wd_810
theorem gm_L_162 : GoodIn wz (wsV RL 162 RX7 yX7_check (wc yX7_check cX7_check 2 (some .int))) := gd_V wd_811 wd_812 wd_813 wd_75 wd_814
theorem gm_X7_294 : GoodIn wz (wsV RX7 294 RX7 yX7_firstWrongOfWaiting (wc yX7_firstWrongOfWaiting cX7_firstWrongOfWaiting 2 (some .int))) := gd_V wd_815 wd_817 wd_30 wd_75 wd_818
theorem gm_L_166 : GoodIn wz (wsV RL 166 RX7 yX7_count (wc yX7_count cX7_count 2 (some .int))) := gd_V wd_819 wd_820 wd_821 wd_75 wd_822
theorem gm_X7_297 : GoodIn wz (wsV RX7 297 RX0 yX0_whoWearGloves (wc yX0_whoWearGloves cX0_whoWearGloves 3 (some .int))) := gd_V wd_823 wd_824 wd_825 wd_78 wd_826
theorem gm_L_170 : GoodIn wz (wsV RL 170 RX7 yX7_told (wc yX7_told cX7_told 2 (some .int))) := gd_V wd_827 wd_828 wd_829 wd_75 wd_830
theorem gm_L_12 : GoodIn wz (wc yX8_init cX8_init 1 none) := gd_code wd_835
theorem fl_X8_9 : FLk RX8 9 8 0 RX8 TX8 27 := ⟨rfl, Nat.le_of_ble_eq_true rfl, inX8, wd_841⟩
theorem fl_X8_13 : FLk RX8 13 8 1 RX8 TX8 27 := ⟨rfl, Nat.le_of_ble_eq_true rfl, inX8, wd_842⟩
theorem fl_X8_16 : FLk RX8 16 8 2 RX8 TX8 27 := ⟨rfl, Nat.le_of_ble_eq_true rfl, inX8, wd_843⟩
theorem fl_X8_302 : FLk RX8 302 8 3 RX8 TX8 27 := ⟨rfl, Nat.le_of_ble_eq_true rfl, inX8, wd_844⟩
theorem fl_X8_19 : FLk RX8 19 8 4 RX8 TX8 27 := ⟨rfl, Nat.le_of_ble_eq_true rfl, inX8, wd_845⟩
theorem fl_X8_22 : FLk RX8 22 8 5 RX8 TX8 27 := ⟨rfl, Nat.le_of_ble_eq_true rfl, inX8, wd_846⟩
theorem fl_X8_25 : FLk RX8 25 8 6 RX8 TX8 27 := ⟨rfl, Nat.le_of_ble_eq_true rfl, inX8, wd_847⟩
theorem fl_X8_28 : FLk RX8 28 8 7 RX8 TX8 27 := ⟨rfl, Nat.le_of_ble_eq_true rfl, inX8, wd_848⟩
theorem fl_X8_37 : FLk RX8 37 8 8 RX8 TX8 27 := ⟨rfl, Nat.le_of_ble_eq_true rfl, inX8, wd_849⟩
theorem fl_X8_98 : FLk RX8 98 8 9 RX8 TX8 27 := ⟨rfl, Nat.le_of_ble_eq_true rfl, inX8, wd_850⟩
theorem fl_X8_142 : FLk RX8 142 8 10 RX8 TX8 27 := ⟨rfl, Nat.le_of_ble_eq_true rfl, inX8, wd_851⟩
theorem fl_X8_132 : FLk RX8 132 8 11 RX8 TX8 27 := ⟨rfl, Nat.le_of_ble_eq_true rfl, inX8, wd_852⟩
theorem fl_X8_94 : FLk RX8 94 8 12 RX8 TX8 27 := ⟨rfl, Nat.le_of_ble_eq_true rfl, inX8, wd_853⟩
theorem fl_X8_41 : FLk RX8 41 8 13 RX8 TX8 27 := ⟨rfl, Nat.le_of_ble_eq_true rfl, inX8, wd_854⟩
theorem fl_X8_106 : FLk RX8 106 8 14 RX8 TX8 27 := ⟨rfl, Nat.le_of_ble_eq_true rfl, inX8, wd_855⟩
theorem fl_X8_44 : FLk RX8 44 8 15 RX8 TX8 27 := ⟨rfl, Nat.le_of_ble_eq_true rfl, inX8, wd_856⟩
theorem fl_X8_47 : FLk RX8 47 8 16 RX8 TX8 27 := ⟨rfl, Nat.le_of_ble_eq_true rfl, inX8, wd_857⟩
theorem fl_X8_50 : FLk RX8 50 8 17 RX8 TX8 27 := ⟨rfl, Nat.le_of_ble_eq_true rfl, inX8, wd_858⟩
theorem fl_X8_53 : FLk RX8 53 8 18 RX8 TX8 27 := ⟨rfl, Nat.le_of_ble_eq_true rfl, inX8, wd_859⟩
theorem fl_X8_272 : FLk RX8 272 8 19 RX8 TX8 27 := ⟨rfl, Nat.le_of_ble_eq_true rfl, inX8, wd_860⟩
theorem fl_X8_275 : FLk RX8 275 8 20 RX8 TX8 27 := ⟨rfl, Nat.le_of_ble_eq_true rfl, inX8, wd_861⟩
theorem fl_X8_281 : FLk RX8 281 8 21 RX8 TX8 27 := ⟨rfl, Nat.le_of_ble_eq_true rfl, inX8, wd_862⟩
theorem fl_X8_290 : FLk RX8 290 8 22 RX8 TX8 27 := ⟨rfl, Nat.le_of_ble_eq_true rfl, inX8, wd_863⟩
theorem fl_X8_56 : FLk RX8 56 8 23 RX8 TX8 27 := ⟨rfl, Nat.le_of_ble_eq_true rfl, inX8, wd_864⟩
theorem fl_X8_59 : FLk RX8 59 8 24 RX8 TX8 27 := ⟨rfl, Nat.le_of_ble_eq_true rfl, inX8, wd_865⟩
theorem fl_X8_62 : FLk RX8 62 8 25 RX8 TX8 27 := ⟨rfl, Nat.le_of_ble_eq_true rfl, inX8, wd_866⟩
theorem fl_X8_65 : FLk RX8 65 8 26 RX8 TX8 27 := ⟨rfl, Nat.le_of_ble_eq_true rfl, inX8, wd_867⟩
theorem gm_L_54 : GoodIn wz (wsV RL 54 RX8 yX8_feed (wc yX8_feed cX8_feed 5 (some .int))) := gd_V wd_924 wd_925 wd_926 wd_84 wd_927
theorem gm_X8_82 : GoodIn wz (wsS RX8 82 yX8_within (wc yX8_within cX8_within 3 (some .boolean))) := gd_S wd_928 wd_929 wd_84 wd_930
theorem gm_X8_87 : GoodIn wz (wsV RX8 87 RX8 yX8_finding (wc yX8_finding cX8_finding 2 (some .int))) := gd_V wd_932 wd_934 wd_31 wd_84 wd_935
theorem gm_L_58 : GoodIn wz (wsV RL 58 RX8 yX8_text (wc yX8_text cX8_text 3 (some .int))) := gd_V wd_939 wd_940 wd_941 wd_84 wd_942
theorem gm_X8_145 : GoodIn wz (wsV RX8 145 RX8 yX8_either (wc yX8_either cX8_either 1 none)) := gd_V wd_943 wd_945 wd_32 wd_84 wd_946
theorem gm_X8_109 : GoodIn wz (wsV RX8 109 RX8 yX8_both (wc yX8_both cX8_both 1 none)) := gd_V wd_947 wd_949 wd_33 wd_84 wd_950
theorem gm_X8_120 : GoodIn wz (wsV RX8 120 RX8 yX8_compared (wc yX8_compared cX8_compared 2 none)) := gd_V wd_951 wd_953 wd_34 wd_84 wd_954
theorem gm_X8_123 : GoodIn wz (wsV RX8 123 RX8 yX8_sum (wc yX8_sum cX8_sum 2 none)) := gd_V wd_955 wd_957 wd_35 wd_84 wd_958
theorem gm_X8_126 : GoodIn wz (wsV RX8 126 RX8 yX8_product (wc yX8_product cX8_product 2 none)) := gd_V wd_959 wd_961 wd_36 wd_84 wd_962
theorem gm_X8_129 : GoodIn wz (wsV RX8 129 RX8 yX8_one (wc yX8_one cX8_one 4 none)) := gd_V wd_963 wd_965 wd_37 wd_84 wd_966
theorem gm_X8_102 : GoodIn wz (wsV RX8 102 RX8 yX8_here (wc yX8_here cX8_here 1 (some .int))) := gd_V wd_967 wd_969 wd_38 wd_84 wd_970
theorem gm_X8_116 : GoodIn wz (wsV RX8 116 RX8 yX8_codes (wc yX8_codes cX8_codes 2 none)) := gd_V wd_971 wd_973 wd_39 wd_84 wd_974
theorem gm_X8_112 : GoodIn wz (wsV RX8 112 RX8 yX8_takes (wc yX8_takes cX8_takes 3 (some .boolean))) := gd_V wd_975 wd_977 wd_40 wd_84 wd_978
theorem gm_X8_148 : GoodIn wz (wsV RX8 148 RX8 yX8_nameOf (wc yX8_nameOf cX8_nameOf 4 (some .int))) := gd_V wd_979 wd_981 wd_41 wd_84 wd_982
theorem gm_X8_135 : GoodIn wz (wsV RX8 135 RJ0 yJ0_length_8abf5 (wc yJ0_length_8abf5 cJ0_length_8abf5 1 (some .int))) := gd_V wd_983 wd_984 wd_985 wd_87 wd_986
theorem gm_J0_335 : GoodIn wz (wsV RJ0 335 RJ0 yJ0_coder_7d493 (wc yJ0_coder_7d493 cJ0_coder_7d493 1 (some .byte))) := gd_V wd_987 wd_988 wd_989 wd_87 wd_990
theorem gm_X8_138 : GoodIn wz (wsV RX8 138 RJ0 yJ0_charAt_5068e (wc yJ0_charAt_5068e cJ0_charAt_5068e 2 (some .char))) := gd_V wd_993 wd_994 wd_995 wd_87 wd_996
theorem gm_J0_492 : GoodIn wz (wsV RJ0 492 RJ0 yJ0_isLatin1_aae02 (wc yJ0_isLatin1_aae02 cJ0_isLatin1_aae02 1 (some .boolean))) := gd_V wd_997 wd_998 wd_999 wd_87 wd_1000
theorem gm_J0_495 : GoodIn wz (va_wsS RJ0 495 yJ1_charAt_3b067 (wc yJ1_charAt_3b067 cJ1_charAt_3b067 2 (some .char))) := gd_SO wd_1001 wd_1002 wd_88 wd_1003
theorem gm_J1_9 : GoodIn wz (va_wsS RJ1 9 yJ0_checkIndex_df160 (wc yJ0_checkIndex_df160 cJ0_checkIndex_df160 2 none)) := gd_SO wd_1004 wd_1005 wd_87 wd_1006
theorem gm_J0_1059 : GoodIn wz (va_wsS RJ0 1059 yJ3_checkIndex_8e157 (wc yJ3_checkIndex_8e157 cJ3_checkIndex_8e157 3 (some .int))) := gd_SO wd_1009 wd_1010 wd_89 wd_1011
theorem gm_J0_498 : GoodIn wz (va_wsS RJ0 498 yJ2_charAt_3b067 (wc yJ2_charAt_3b067 cJ2_charAt_3b067 2 (some .char))) := gd_SO wd_1012 wd_1013 wd_90 wd_1014
theorem gm_J2_67 : GoodIn wz (wsS RJ2 67 yJ2_checkIndex_2214a (wc yJ2_checkIndex_2214a cJ2_checkIndex_2214a 2 none)) := gd_S wd_1015 wd_1016 wd_90 wd_1017
theorem gm_J2_48 : GoodIn wz (wsS RJ2 48 yJ2_length_9d52b (wc yJ2_length_9d52b cJ2_length_9d52b 1 (some .int))) := gd_S wd_1018 wd_1019 wd_90 wd_1020
theorem gm_J2_414 : GoodIn wz (va_wsS RJ2 414 yJ0_checkIndex_df160 (wc yJ0_checkIndex_df160 cJ0_checkIndex_df160 2 none)) := gd_SO wd_1021 wd_1005 wd_87 wd_1006
theorem gm_J2_71 : GoodIn wz (wsS RJ2 71 yJ2_getChar_3b067 (wc yJ2_getChar_3b067 cJ2_getChar_3b067 2 (some .char))) := gd_S wd_1022 wd_1023 wd_90 wd_1024
theorem gm_X8_151 : GoodIn wz (wsV RX8 151 RX8 yX8_forget (wc yX8_forget cX8_forget 2 none)) := gd_V wd_1031 wd_1033 wd_42 wd_84 wd_1034
theorem gm_L_63 : GoodIn wz (wsV RL 63 RX8 yX8_law (wc yX8_law cX8_law 5 (some .int))) := gd_V wd_1035 wd_1036 wd_1037 wd_84 wd_1038
theorem gm_X8_167 : GoodIn wz (wsV RX8 167 RX8 yX8_given (wc yX8_given cX8_given 6 (some .int))) := gd_V wd_1039 wd_1041 wd_43 wd_84 wd_1042
theorem gm_X8_158 : GoodIn wz (wsV RX8 158 RX8 yX8_hasText (wc yX8_hasText cX8_hasText 2 (some .boolean))) := gd_V wd_1043 wd_1045 wd_44 wd_84 wd_1046
theorem gm_X8_161 : GoodIn wz (wsV RX8 161 RX8 yX8_worked (wc yX8_worked cX8_worked 5 (some .int))) := gd_V wd_1047 wd_1049 wd_45 wd_84 wd_1050
theorem gm_X8_154 : GoodIn wz (wsS RX8 154 yX8_done (wc yX8_done cX8_done 3 (some .int))) := gd_S wd_1051 wd_1052 wd_84 wd_1053
theorem gm_X8_164 : GoodIn wz (wsS RX8 164 yX8_held (wc yX8_held cX8_held 3 (some .int))) := gd_S wd_1054 wd_1055 wd_84 wd_1056
theorem gm_L_17 : GoodIn wz (wsV RL 17 RX8 yX8_soul (wc yX8_soul cX8_soul 3 (some .int))) := gd_V wd_1059 wd_1060 wd_1061 wd_84 wd_1062
theorem gm_X8_174 : GoodIn wz (wsS RX8 174 yX8_isKindM (wc yX8_isKindM cX8_isKindM 1 (some .boolean))) := gd_S wd_1063 wd_1064 wd_84 wd_1065
theorem gm_X8_177 : GoodIn wz (wsS RX8 177 yX8_isStreet (wc yX8_isStreet cX8_isStreet 1 (some .boolean))) := gd_S wd_1066 wd_1067 wd_84 wd_1068
theorem gm_X8_180 : GoodIn wz (wsV RX8 180 RX8 yX8_soulComes (wc yX8_soulComes cX8_soulComes 5 (some .int))) := gd_V wd_1069 wd_1071 wd_46 wd_84 wd_1072
theorem gm_X8_171 : GoodIn wz (wsS RX8 171 yX8_soulAt (wc yX8_soulAt cX8_soulAt 2 (some .int))) := gd_S wd_1073 wd_1074 wd_84 wd_1075
theorem gm_L_21 : GoodIn wz (wsV RL 21 RX8 yX8_ofSoul (wc yX8_ofSoul cX8_ofSoul 3 (some .int))) := gd_V wd_1076 wd_1077 wd_1078 wd_84 wd_1079
theorem gm_X8_193 : GoodIn wz (wsV RX8 193 RX8 yX8_isSoul (wc yX8_isSoul cX8_isSoul 2 (some .boolean))) := gd_V wd_1080 wd_1082 wd_47 wd_84 wd_1083
theorem gm_X8_186 : GoodIn wz (wsV RX8 186 RX8 yX8_soulIs (wc yX8_soulIs cX8_soulIs 3 (some .int))) := gd_V wd_1084 wd_1086 wd_48 wd_84 wd_1087
theorem gm_X8_196 : GoodIn wz (wsV RX8 196 RX8 yX8_keepsNow (wc yX8_keepsNow cX8_keepsNow 3 (some .int))) := gd_V wd_1088 wd_1090 wd_49 wd_84 wd_1091
theorem gm_X8_189 : GoodIn wz (wsS RX8 189 yX8_isUnder (wc yX8_isUnder cX8_isUnder 3 (some .boolean))) := gd_S wd_1092 wd_1093 wd_84 wd_1094
theorem gm_X8_183 : GoodIn wz (wsS RX8 183 yX8_above (wc yX8_above cX8_above 1 (some .int))) := gd_S wd_1095 wd_1096 wd_84 wd_1097
theorem gm_X8_199 : GoodIn wz (wsV RX8 199 RX8 yX8_handsBy (wc yX8_handsBy cX8_handsBy 5 (some .int))) := gd_V wd_1098 wd_1100 wd_50 wd_84 wd_1101
theorem gm_X8_202 : GoodIn wz (wsV RX8 202 RX8 yX8_runsNow (wc yX8_runsNow cX8_runsNow 2 (some .int))) := gd_V wd_1102 wd_1104 wd_51 wd_84 wd_1105
theorem gm_L_26 : GoodIn wz (wsV RL 26 RX8 yX8_change (wc yX8_change cX8_change 4 (some .int))) := gd_V wd_1106 wd_1107 wd_1108 wd_84 wd_1109
theorem gm_X8_205 : GoodIn wz (wsS RX8 205 yX8_mayBe (wc yX8_mayBe cX8_mayBe 2 (some .boolean))) := gd_S wd_1110 wd_1111 wd_84 wd_1112
theorem gm_X8_208 : GoodIn wz (wsV RX8 208 RX8 yX8_turn (wc yX8_turn cX8_turn 4 (some .int))) := gd_V wd_1113 wd_1115 wd_52 wd_84 wd_1116
theorem gm_L_30 : GoodIn wz (wsV RL 30 RX8 yX8_become (wc yX8_become cX8_become 3 (some .int))) := gd_V wd_1117 wd_1118 wd_1119 wd_84 wd_1120
theorem gm_L_34 : GoodIn wz (wsV RL 34 RX8 yX8_as (wc yX8_as cX8_as 3 (some .int))) := gd_V wd_1121 wd_1122 wd_1123 wd_84 wd_1124
theorem gm_L_39 : GoodIn wz (wsV RL 39 RX8 yX8_loss (wc yX8_loss cX8_loss 2 (some .int))) := gd_V wd_1126 wd_1127 wd_1128 wd_84 wd_1129
theorem gm_L_43 : GoodIn wz (wsV RL 43 RX8 yX8_street (wc yX8_street cX8_street 3 (some .int))) := gd_V wd_1130 wd_1131 wd_1132 wd_84 wd_1133
theorem gm_X8_212 : GoodIn wz (wsV RX8 212 RX8 yX8_atStreet (wc yX8_atStreet cX8_atStreet 4 (some .int))) := gd_V wd_1134 wd_1136 wd_53 wd_84 wd_1137
theorem gm_X8_215 : GoodIn wz (wsV RX8 215 RX8 yX8_freeNow (wc yX8_freeNow cX8_freeNow 3 (some .int))) := gd_V wd_1138 wd_1140 wd_54 wd_84 wd_1141
theorem gm_L_47 : GoodIn wz (wsV RL 47 RX8 yX8_meet (wc yX8_meet cX8_meet 3 (some .int))) := gd_V wd_1142 wd_1143 wd_1144 wd_84 wd_1145
theorem gm_X8_224 : GoodIn wz (wsV RX8 224 RX8 yX8_doMeet (wc yX8_doMeet cX8_doMeet 4 (some .boolean))) := gd_V wd_1146 wd_1148 wd_55 wd_84 wd_1149
theorem gm_X8_218 : GoodIn wz (wsS RX8 218 yX8_bits (wc yX8_bits cX8_bits 3 (some .int))) := gd_S wd_1150 wd_1151 wd_84 wd_1152
theorem gm_X8_221 : GoodIn wz (wsV RX8 221 RX8 yX8_isMeeting (wc yX8_isMeeting cX8_isMeeting 5 (some .boolean))) := gd_V wd_1153 wd_1155 wd_56 wd_84 wd_1156
theorem gm_L_67 : GoodIn wz (wsV RL 67 RX8 yX8_steps (wc yX8_steps cX8_steps 2 (some .int))) := gd_V wd_1157 wd_1158 wd_1159 wd_84 wd_1160
theorem gm_X8_237 : GoodIn wz (wsV RX8 237 RX8 yX8_stepsGo (wc yX8_stepsGo cX8_stepsGo 3 none)) := gd_V wd_1162 wd_1164 wd_57 wd_84 wd_1165
theorem gm_X8_233 : GoodIn wz (wsV RX8 233 RX8 yX8_step (wc yX8_step cX8_step 4 none)) := gd_V wd_1166 wd_1168 wd_58 wd_84 wd_1169
theorem gm_X8_227 : GoodIn wz (wsV RX8 227 RX8 yX8_handedTo (wc yX8_handedTo cX8_handedTo 4 (some .int))) := gd_V wd_1170 wd_1172 wd_59 wd_84 wd_1173
theorem gm_X8_230 : GoodIn wz (wsV RX8 230 RX8 yX8_deedsFor (wc yX8_deedsFor cX8_deedsFor 5 (some .int))) := gd_V wd_1174 wd_1176 wd_60 wd_84 wd_1177
theorem gm_X8_240 : GoodIn wz (wsV RX8 240 RX8 yX8_sumOf (wc yX8_sumOf cX8_sumOf 4 (some .int))) := gd_V wd_1178 wd_1180 wd_61 wd_84 wd_1181
theorem gm_L_71 : GoodIn wz (wsV RL 71 RX8 yX8_loose (wc yX8_loose cX8_loose 5 (some .int))) := gd_V wd_1182 wd_1183 wd_1184 wd_84 wd_1185
theorem gm_X8_244 : GoodIn wz (wsV RX8 244 RX8 yX8_drawn (wc yX8_drawn cX8_drawn 1 (some .int))) := gd_V wd_1186 wd_1188 wd_62 wd_84 wd_1189
theorem gm_L_75 : GoodIn wz (wsV RL 75 RX8 yX8_then (wc yX8_then cX8_then 4 (some .int))) := gd_V wd_1191 wd_1192 wd_1193 wd_84 wd_1194
theorem gm_X8_247 : GoodIn wz (wsS RX8 247 yX8_isBehind (wc yX8_isBehind cX8_isBehind 1 (some .boolean))) := gd_S wd_1195 wd_1196 wd_84 wd_1197
theorem gm_X8_78 : GoodIn wz (wsS RX8 78 yX8_copy (wc yX8_copy cX8_copy 3 none)) := gd_S wd_1198 wd_1199 wd_84 wd_1200
theorem gm_X8_250 : GoodIn wz (wsV RX8 250 RX8 yX8_putBack (wc yX8_putBack cX8_putBack 2 (some .int))) := gd_V wd_1201 wd_1203 wd_63 wd_84 wd_1204
theorem gm_L_79 : GoodIn wz (wsV RL 79 RX8 yX8_last (wc yX8_last cX8_last 5 (some .int))) := gd_V wd_1205 wd_1206 wd_1207 wd_84 wd_1208
theorem gm_L_83 : GoodIn wz (wsV RL 83 RX8 yX8_reaches (wc yX8_reaches cX8_reaches 4 (some .int))) := gd_V wd_1210 wd_1211 wd_1212 wd_84 wd_1213
theorem gm_L_87 : GoodIn wz (wsV RL 87 RX8 yX8_gloves (wc yX8_gloves cX8_gloves 6 (some .int))) := gd_V wd_1214 wd_1215 wd_1216 wd_84 wd_1217
theorem gm_X8_257 : GoodIn wz (wsS RX8 257 yX8_isSoon (wc yX8_isSoon cX8_isSoon 1 (some .boolean))) := gd_S wd_1218 wd_1219 wd_84 wd_1220
theorem gm_X8_260 : GoodIn wz (wsV RX8 260 RX8 yX8_staysAway (wc yX8_staysAway cX8_staysAway 6 (some .boolean))) := gd_V wd_1221 wd_1223 wd_64 wd_84 wd_1224
theorem gm_X8_254 : GoodIn wz (wsS RX8 254 yX8_hasBit (wc yX8_hasBit cX8_hasBit 2 (some .boolean))) := gd_S wd_1225 wd_1226 wd_84 wd_1227
theorem gm_L_91 : GoodIn wz (wsV RL 91 RX8 yX8_from (wc yX8_from cX8_from 6 (some .int))) := gd_V wd_1228 wd_1229 wd_1230 wd_84 wd_1231
theorem gm_X8_263 : GoodIn wz (wsS RX8 263 yX8_isSheet (wc yX8_isSheet cX8_isSheet 1 (some .boolean))) := gd_S wd_1232 wd_1233 wd_84 wd_1234
theorem gm_X8_266 : GoodIn wz (wsV RX8 266 RX8 yX8_comesFrom (wc yX8_comesFrom cX8_comesFrom 6 (some .boolean))) := gd_V wd_1235 wd_1237 wd_65 wd_84 wd_1238
theorem gm_L_95 : GoodIn wz (wsV RL 95 RX8 yX8_stand (wc yX8_stand cX8_stand 9 (some .int))) := gd_V wd_1239 wd_1240 wd_1241 wd_84 wd_1242
theorem gm_X8_269 : GoodIn wz (wsV RX8 269 RX8 yX8_freeBehind (wc yX8_freeBehind cX8_freeBehind 3 (some .int))) := gd_V wd_1243 wd_1245 wd_66 wd_84 wd_1246
theorem gm_L_99 : GoodIn wz (wsV RL 99 RX8 yX8_crush (wc yX8_crush cX8_crush 5 (some .int))) := gd_V wd_1247 wd_1248 wd_1249 wd_84 wd_1250
theorem gm_L_104 : GoodIn wz (wsV RL 104 RX8 yX8_dies (wc yX8_dies cX8_dies 3 (some .int))) := gd_V wd_1251 wd_1252 wd_1253 wd_84 wd_1254
theorem gm_L_108 : GoodIn wz (wsV RL 108 RX8 yX8_touch (wc yX8_touch cX8_touch 9 (some .int))) := gd_V wd_1255 wd_1256 wd_1257 wd_84 wd_1258
theorem gm_L_112 : GoodIn wz (wsV RL 112 RX8 yX8_done_ (wc yX8_done_ cX8_done_ 3 (some .int))) := gd_V wd_1259 wd_1260 wd_1261 wd_84 wd_1262
theorem gm_L_116 : GoodIn wz (wsV RL 116 RX8 yX8_odds (wc yX8_odds cX8_odds 9 (some .int))) := gd_V wd_1263 wd_1264 wd_1265 wd_84 wd_1266
theorem gm_L_120 : GoodIn wz (wsV RL 120 RX8 yX8_seed (wc yX8_seed cX8_seed 2 (some .int))) := gd_V wd_1267 wd_1268 wd_1269 wd_84 wd_1270
theorem gm_L_124 : GoodIn wz (wsV RL 124 RX8 yX8_voice (wc yX8_voice cX8_voice 4 (some .int))) := gd_V wd_1271 wd_1272 wd_1273 wd_84 wd_1274
theorem gm_X8_284 : GoodIn wz (wsV RX8 284 RX8 yX8_keepsOf (wc yX8_keepsOf cX8_keepsOf 3 (some .int))) := gd_V wd_1275 wd_1277 wd_67 wd_84 wd_1278
theorem gm_X8_278 : GoodIn wz (wsV RX8 278 RX8 yX8_ran (wc yX8_ran cX8_ran 2 none)) := gd_V wd_1279 wd_1281 wd_68 wd_84 wd_1282
theorem gm_X8_293 : GoodIn wz (wsV RX8 293 RX8 yX8_handsOf (wc yX8_handsOf cX8_handsOf 5 (some .int))) := gd_V wd_1283 wd_1285 wd_69 wd_84 wd_1286
theorem gm_X8_287 : GoodIn wz (wsV RX8 287 RX8 yX8_stealsOf (wc yX8_stealsOf cX8_stealsOf 4 (some .int))) := gd_V wd_1287 wd_1289 wd_70 wd_84 wd_1290
theorem gm_X8_299 : GoodIn wz (wsV RX8 299 RX8 yX8_tellsOf (wc yX8_tellsOf cX8_tellsOf 3 (some .int))) := gd_V wd_1291 wd_1293 wd_71 wd_84 wd_1294
theorem gm_X8_296 : GoodIn wz (wsV RX8 296 RX8 yX8_plainTells (wc yX8_plainTells cX8_plainTells 3 (some .int))) := gd_V wd_1295 wd_1297 wd_72 wd_84 wd_1298
theorem gm_L_128 : GoodIn wz (wsV RL 128 RX8 yX8_trace (wc yX8_trace cX8_trace 2 (some .int))) := gd_V wd_1299 wd_1300 wd_1301 wd_84 wd_1302
theorem gm_L_132 : GoodIn wz (wsV RL 132 RX8 yX8_sheet (wc yX8_sheet cX8_sheet 5 (some .int))) := gd_V wd_1303 wd_1304 wd_1305 wd_84 wd_1306
theorem gm_L_136 : GoodIn wz (wsV RL 136 RX8 yX8_put (wc yX8_put cX8_put 4 (some .int))) := gd_V wd_1307 wd_1308 wd_1309 wd_84 wd_1310
theorem gm_L_141 : GoodIn wz (wsV RL 141 RX8 yX8_move (wc yX8_move cX8_move 7 (some .int))) := gd_V wd_1311 wd_1312 wd_1313 wd_84 wd_1314
theorem gm_L_145 : GoodIn wz (wsV RL 145 RX8 yX8_frees (wc yX8_frees cX8_frees 3 (some .int))) := gd_V wd_1315 wd_1316 wd_1317 wd_84 wd_1318
theorem gm_L_149 : GoodIn wz (wsV RL 149 RX8 yX8_judge (wc yX8_judge cX8_judge 3 (some .int))) := gd_V wd_1319 wd_1320 wd_1321 wd_84 wd_1322
theorem gm_L_153 : GoodIn wz (wsV RL 153 RX8 yX8_image (wc yX8_image cX8_image 1 (some .int))) := gd_V wd_1323 wd_1324 wd_1325 wd_84 wd_1326
theorem gm_L_157 : GoodIn wz (wsV RL 157 RX8 yX8_restore (wc yX8_restore cX8_restore 1 (some .int))) := gd_V wd_1327 wd_1328 wd_1329 wd_84 wd_1330
theorem gm_L_161 : GoodIn wz (wsV RL 161 RX8 yX8_tell (wc yX8_tell cX8_tell 2 (some .int))) := gd_V wd_1331 wd_1332 wd_1333 wd_84 wd_1334
theorem gm_L_165 : GoodIn wz (wsV RL 165 RX8 yX8_check (wc yX8_check cX8_check 4 (some .int))) := gd_V wd_1335 wd_1336 wd_1337 wd_84 wd_1338
theorem gm_L_169 : GoodIn wz (wsV RL 169 RX8 yX8_count (wc yX8_count cX8_count 2 (some .int))) := gd_V wd_1339 wd_1340 wd_1341 wd_84 wd_1342
theorem gm_X8_305 : GoodIn wz (wsV RX8 305 RX8 yX8_gloved (wc yX8_gloved cX8_gloved 3 (some .int))) := gd_V wd_1343 wd_1345 wd_73 wd_84 wd_1346
theorem gm_L_173 : GoodIn wz (wsV RL 173 RX8 yX8_told (wc yX8_told cX8_told 2 (some .int))) := gd_V wd_1347 wd_1348 wd_1349 wd_84 wd_1350
theorem gc_X7_init : GoodIn wz (wc yX7_init cX7_init 2 none) := gd_code wd_95
theorem gc_X5_init : GoodIn wz (wc yX5_init cX5_init 1 none) := gd_code wd_103
theorem gc_X3_init : GoodIn wz (wc yX3_init cX3_init 1 none) := gd_code wd_109
theorem gc_X0_init : GoodIn wz (wc yX0_init cX0_init 3 none) := gd_code wd_129
theorem gc_X4_init : GoodIn wz (wc yX4_init cX4_init 2 none) := gd_code wd_186
theorem gc_X1_init : GoodIn wz (wc yX1_init cX1_init 1 none) := gd_code wd_233
theorem gc_X6_init : GoodIn wz (wc yX6_init cX6_init 1 none) := gd_code wd_257
theorem gc_X2_init : GoodIn wz (wc yX2_init cX2_init 1 none) := gd_code wd_280
theorem gc_X7_soul : GoodIn wz (wc yX7_soul cX7_soul 3 (some .int)) := gd_code wd_326
theorem gc_X7_isKindAndNumber : GoodIn wz (wc yX7_isKindAndNumber cX7_isKindAndNumber 1 (some .boolean)) := gd_code wd_329
theorem gc_X7_within : GoodIn wz (wc yX7_within cX7_within 3 (some .boolean)) := gd_code wd_332
theorem gc_X7_isStreet : GoodIn wz (wc yX7_isStreet cX7_isStreet 1 (some .boolean)) := gd_code wd_335
theorem gc_X7_refuse : GoodIn wz (wc yX7_refuse cX7_refuse 2 (some .int)) := gd_code wd_339
theorem gc_X0_join : GoodIn wz (wc yX0_join cX0_join 4 (some .int)) := gd_code wd_344
theorem gc_X0_turnInto : GoodIn wz (wc yX0_turnInto cX0_turnInto 3 none) := gd_code wd_348
theorem gc_X7_ofSoul : GoodIn wz (wc yX7_ofSoul cX7_ofSoul 4 (some .int)) := gd_code wd_352
theorem gc_X7_isSoul : GoodIn wz (wc yX7_isSoul cX7_isSoul 2 (some .boolean)) := gd_code wd_356
theorem gc_X0_keepsOf : GoodIn wz (wc yX0_keepsOf cX0_keepsOf 3 (some .int)) := gd_code wd_360
theorem gc_X7_isUnder : GoodIn wz (wc yX7_isUnder cX7_isUnder 4 (some .boolean)) := gd_code wd_363
theorem gc_X0_handsOf : GoodIn wz (wc yX0_handsOf cX0_handsOf 3 (some .int)) := gd_code wd_369
theorem gc_X7_held : GoodIn wz (wc yX7_held cX7_held 3 (some .int)) := gd_code wd_372
theorem gc_X0_runsOf : GoodIn wz (wc yX0_runsOf cX0_runsOf 2 (some .int)) := gd_code wd_381
theorem gc_X7_change : GoodIn wz (wc yX7_change cX7_change 5 (some .int)) := gd_code wd_385
theorem gc_X7_replace : GoodIn wz (wc yX7_replace cX7_replace 6 (some .int)) := gd_code wd_389
theorem gc_X7_become : GoodIn wz (wc yX7_become cX7_become 4 (some .int)) := gd_code wd_393
theorem gc_X7_as : GoodIn wz (wc yX7_as cX7_as 3 (some .int)) := gd_code wd_398
theorem gc_X7_loss : GoodIn wz (wc yX7_loss cX7_loss 3 (some .int)) := gd_code wd_403
theorem gc_X7_street : GoodIn wz (wc yX7_street cX7_street 3 (some .int)) := gd_code wd_407
theorem gc_X7_isEither : GoodIn wz (wc yX7_isEither cX7_isEither 1 (some .boolean)) := gd_code wd_410
theorem gc_X0_whoAt : GoodIn wz (wc yX0_whoAt cX0_whoAt 4 (some .int)) := gd_code wd_414
theorem gc_X0_whoFreeAt : GoodIn wz (wc yX0_whoFreeAt cX0_whoFreeAt 4 (some .int)) := gd_code wd_418
theorem gc_X7_meet : GoodIn wz (wc yX7_meet cX7_meet 3 (some .int)) := gd_code wd_422
theorem gc_X0_canTouch : GoodIn wz (wc yX0_canTouch cX0_canTouch 3 (some .boolean)) := gd_code wd_426
theorem gc_X0_handsOnAt : GoodIn wz (wc yX0_handsOnAt cX0_handsOnAt 2 (some .boolean)) := gd_code wd_430
theorem gc_X0_howManyAt : GoodIn wz (wc yX0_howManyAt cX0_howManyAt 2 (some .int)) := gd_code wd_434
theorem gc_J6_bitCount_0f7a4 : GoodIn wz (wc yJ6_bitCount_0f7a4 cJ6_bitCount_0f7a4 1 (some .int)) := gd_code wd_438
theorem gc_X0_meets : GoodIn wz (wc yX0_meets cX0_meets 4 (some .int)) := gd_code wd_445
theorem gc_X3_isEmpty : GoodIn wz (wc yX3_isEmpty cX3_isEmpty 1 (some .boolean)) := gd_code wd_449
theorem gc_X3_gives : GoodIn wz (wc yX3_gives cX3_gives 7 (some .int)) := gd_code wd_453
theorem gc_X3_single : GoodIn wz (wc yX3_single cX3_single 5 (some .int)) := gd_code wd_456
theorem gc_X3_joined : GoodIn wz (wc yX3_joined cX3_joined 3 (some .int)) := gd_code wd_459
theorem gc_X7_feed : GoodIn wz (wc yX7_feed cX7_feed 5 (some .int)) := gd_code wd_463
theorem gc_X4_add : GoodIn wz (wc yX4_add cX4_add 2 none) := gd_code wd_467
theorem gc_X7_text : GoodIn wz (wc yX7_text cX7_text 3 (some .int)) := gd_code wd_471
theorem gc_X7_isUse : GoodIn wz (wc yX7_isUse cX7_isUse 1 (some .boolean)) := gd_code wd_474
theorem gc_X1_read : GoodIn wz (wc yX1_read cX1_read 3 (some .int)) := gd_code wd_478
theorem gc_X4_copy : GoodIn wz (wc yX4_copy cX4_copy 2 none) := gd_code wd_482
theorem gc_X3_clear : GoodIn wz (wc yX3_clear cX3_clear 1 none) := gd_code wd_490
theorem gc_X1_readAny : GoodIn wz (wc yX1_readAny cX1_readAny 4 (some .boolean)) := gd_code wd_494
theorem gc_X1_readAll : GoodIn wz (wc yX1_readAll cX1_readAll 4 (some .boolean)) := gd_code wd_498
theorem gc_X1_readComparison : GoodIn wz (wc yX1_readComparison cX1_readComparison 4 (some .boolean)) := gd_code wd_502
theorem gc_X1_readSum : GoodIn wz (wc yX1_readSum cX1_readSum 5 (some .boolean)) := gd_code wd_506
theorem gc_X1_readProduct : GoodIn wz (wc yX1_readProduct cX1_readProduct 5 (some .boolean)) := gd_code wd_510
theorem gc_X1_readSingle : GoodIn wz (wc yX1_readSingle cX1_readSingle 3 (some .boolean)) := gd_code wd_514
theorem gc_X1_next : GoodIn wz (wc yX1_next cX1_next 1 (some .int)) := gd_code wd_518
theorem gc_X1_readOpened : GoodIn wz (wc yX1_readOpened cX1_readOpened 4 (some .boolean)) := gd_code wd_522
theorem gc_X3_add : GoodIn wz (wc yX3_add cX3_add 3 none) := gd_code wd_526
theorem gc_X1_isDigit : GoodIn wz (wc yX1_isDigit cX1_isDigit 1 (some .boolean)) := gd_code wd_529
theorem gc_X1_readNumber : GoodIn wz (wc yX1_readNumber cX1_readNumber 3 (some .boolean)) := gd_code wd_533
theorem gc_X1_readName : GoodIn wz (wc yX1_readName cX1_readName 3 (some .boolean)) := gd_code wd_537
theorem gc_X4_clear : GoodIn wz (wc yX4_clear cX4_clear 1 none) := gd_code wd_543
theorem gc_X5_ruleOf : GoodIn wz (wc yX5_ruleOf cX5_ruleOf 2 (some (.object "ImmunityCatching$Rule"))) := gd_code wd_547
theorem gc_X3_copy : GoodIn wz (wc yX3_copy cX3_copy 2 none) := gd_code wd_551
theorem gc_X7_law : GoodIn wz (wc yX7_law cX7_law 5 (some .int)) := gd_code wd_556
theorem gc_X0_deedsBy : GoodIn wz (wc yX0_deedsBy cX0_deedsBy 4 (some .int)) := gd_code wd_561
theorem gc_X7_steps : GoodIn wz (wc yX7_steps cX7_steps 2 (some .int)) := gd_code wd_565
theorem gc_X0_pass : GoodIn wz (wc yX0_pass cX0_pass 3 none) := gd_code wd_569
theorem gc_X0_haveOwn : GoodIn wz (wc yX0_haveOwn cX0_haveOwn 2 none) := gd_code wd_573
theorem gc_X0_handOn : GoodIn wz (wc yX0_handOn cX0_handOn 3 none) := gd_code wd_579
theorem gc_X0_countCrowds : GoodIn wz (wc yX0_countCrowds cX0_countCrowds 2 none) := gd_code wd_583
theorem gc_X0_handOnAt : GoodIn wz (wc yX0_handOnAt cX0_handOnAt 4 none) := gd_code wd_589
theorem gc_X0_doDeeds : GoodIn wz (wc yX0_doDeeds cX0_doDeeds 3 none) := gd_code wd_594
theorem gc_X0_runOut : GoodIn wz (wc yX0_runOut cX0_runOut 2 none) := gd_code wd_599
theorem gc_X0_steal : GoodIn wz (wc yX0_steal cX0_steal 2 none) := gd_code wd_604
theorem gc_X0_freeTogether : GoodIn wz (wc yX0_freeTogether cX0_freeTogether 3 (some .int)) := gd_code wd_608
theorem gc_X7_loose : GoodIn wz (wc yX7_loose cX7_loose 3 (some .int)) := gd_code wd_612
theorem gc_X5_stray : GoodIn wz (wc yX5_stray cX5_stray 3 none) := gd_code wd_616
theorem gc_X5_draw : GoodIn wz (wc yX5_draw cX5_draw 1 (some .int)) := gd_code wd_620
theorem gc_X7_then : GoodIn wz (wc yX7_then cX7_then 4 (some .int)) := gd_code wd_625
theorem gc_X7_think : GoodIn wz (wc yX7_think cX7_think 1 none) := gd_code wd_629
theorem gc_X0_copy : GoodIn wz (wc yX0_copy cX0_copy 2 none) := gd_code wd_633
theorem gc_X7_last : GoodIn wz (wc yX7_last cX7_last 5 (some .int)) := gd_code wd_638
theorem gc_X7_countTimesFree : GoodIn wz (wc yX7_countTimesFree cX7_countTimesFree 4 none) := gd_code wd_642
theorem gc_X7_reaches : GoodIn wz (wc yX7_reaches cX7_reaches 3 (some .int)) := gd_code wd_646
theorem gc_X7_gloves : GoodIn wz (wc yX7_gloves cX7_gloves 7 (some .int)) := gd_code wd_650
theorem gc_X7_staysAway : GoodIn wz (wc yX7_staysAway cX7_staysAway 5 (some .boolean)) := gd_code wd_655
theorem gc_X0_putGlovesOn : GoodIn wz (wc yX0_putGlovesOn cX0_putGlovesOn 3 none) := gd_code wd_659
theorem gc_X7_from : GoodIn wz (wc yX7_from cX7_from 7 (some .int)) := gd_code wd_663
theorem gc_X7_rowOf : GoodIn wz (wc yX7_rowOf cX7_rowOf 2 (some (.object "ImmunityCatching$Row"))) := gd_code wd_667
theorem gc_X2_isMissing : GoodIn wz (wc yX2_isMissing cX2_isMissing 1 (some .boolean)) := gd_code wd_671
theorem gc_X7_canHaveComeBy : GoodIn wz (wc yX7_canHaveComeBy cX7_canHaveComeBy 5 (some .boolean)) := gd_code wd_675
theorem gc_X0_leaveFreeOnly : GoodIn wz (wc yX0_leaveFreeOnly cX0_leaveFreeOnly 3 none) := gd_code wd_679
theorem gc_X7_stand : GoodIn wz (wc yX7_stand cX7_stand 8 (some .int)) := gd_code wd_683
theorem gc_X7_hoursWith : GoodIn wz (wc yX7_hoursWith cX7_hoursWith 5 (some .int)) := gd_code wd_687
theorem gc_X7_crush : GoodIn wz (wc yX7_crush cX7_crush 5 (some .int)) := gd_code wd_691
theorem gc_X7_dies : GoodIn wz (wc yX7_dies cX7_dies 2 (some .int)) := gd_code wd_696
theorem gc_X0_howManyFree : GoodIn wz (wc yX0_howManyFree cX0_howManyFree 3 (some .int)) := gd_code wd_700
theorem gc_X7_touch : GoodIn wz (wc yX7_touch cX7_touch 9 (some .int)) := gd_code wd_704
theorem gc_X7_done : GoodIn wz (wc yX7_done cX7_done 2 (some .int)) := gd_code wd_708
theorem gc_X0_deedsTogether : GoodIn wz (wc yX0_deedsTogether cX0_deedsTogether 3 (some .int)) := gd_code wd_712
theorem gc_X7_odds : GoodIn wz (wc yX7_odds cX7_odds 6 (some .int)) := gd_code wd_716
theorem gc_X7_commonDivisor : GoodIn wz (wc yX7_commonDivisor cX7_commonDivisor 6 (some .int)) := gd_code wd_719
theorem gc_X7_seed : GoodIn wz (wc yX7_seed cX7_seed 3 (some .int)) := gd_code wd_723
theorem gc_X7_voice : GoodIn wz (wc yX7_voice cX7_voice 4 (some .int)) := gd_code wd_727
theorem gc_X6_speak : GoodIn wz (wc yX6_speak cX6_speak 6 (some .int)) := gd_code wd_731
theorem gc_X6_own : GoodIn wz (wc yX6_own cX6_own 4 (some .int)) := gd_code wd_736
theorem gc_X6_of : GoodIn wz (wc yX6_of cX6_of 6 (some .int)) := gd_code wd_740
theorem gc_X6_bodyOf : GoodIn wz (wc yX6_bodyOf cX6_bodyOf 4 (some .int)) := gd_code wd_743
theorem gc_X6_work : GoodIn wz (wc yX6_work cX6_work 4 (some .int)) := gd_code wd_752
theorem gc_X7_trace : GoodIn wz (wc yX7_trace cX7_trace 2 (some .int)) := gd_code wd_756
theorem gc_X7_sheet : GoodIn wz (wc yX7_sheet cX7_sheet 5 (some .int)) := gd_code wd_760
theorem gc_X2_lay : GoodIn wz (wc yX2_lay cX2_lay 4 none) := gd_code wd_764
theorem gc_X7_put : GoodIn wz (wc yX7_put cX7_put 5 (some .int)) := gd_code wd_769
theorem gc_X2_lowestBits : GoodIn wz (wc yX2_lowestBits cX2_lowestBits 2 (some .int)) := gd_code wd_773
theorem gc_X7_move : GoodIn wz (wc yX7_move cX7_move 8 (some .int)) := gd_code wd_778
theorem gc_X2_holds : GoodIn wz (wc yX2_holds cX2_holds 3 (some .boolean)) := gd_code wd_782
theorem gc_X7_frees : GoodIn wz (wc yX7_frees cX7_frees 5 (some .int)) := gd_code wd_787
theorem gc_X7_judge : GoodIn wz (wc yX7_judge cX7_judge 5 (some .int)) := gd_code wd_791
theorem gc_X7_image : GoodIn wz (wc yX7_image cX7_image 1 (some .int)) := gd_code wd_795
theorem gc_X5_copy : GoodIn wz (wc yX5_copy cX5_copy 2 none) := gd_code wd_799
theorem gc_X7_restore : GoodIn wz (wc yX7_restore cX7_restore 1 (some .int)) := gd_code wd_806
theorem gc_X7_tell : GoodIn wz (wc yX7_tell cX7_tell 2 (some .int)) := gd_code wd_810
theorem gc_X7_check : GoodIn wz (wc yX7_check cX7_check 2 (some .int)) := gd_code wd_814
theorem gc_X7_firstWrongOfWaiting : GoodIn wz (wc yX7_firstWrongOfWaiting cX7_firstWrongOfWaiting 2 (some .int)) := gd_code wd_818
theorem gc_X7_count : GoodIn wz (wc yX7_count cX7_count 2 (some .int)) := gd_code wd_822
theorem gc_X0_whoWearGloves : GoodIn wz (wc yX0_whoWearGloves cX0_whoWearGloves 3 (some .int)) := gd_code wd_826
theorem gc_X7_told : GoodIn wz (wc yX7_told cX7_told 2 (some .int)) := gd_code wd_830
theorem gc_X8_init : GoodIn wz (wc yX8_init cX8_init 1 none) := gd_code wd_835
theorem gc_X8_feed : GoodIn wz (wc yX8_feed cX8_feed 5 (some .int)) := gd_code wd_927
theorem gc_X8_within : GoodIn wz (wc yX8_within cX8_within 3 (some .boolean)) := gd_code wd_930
theorem gc_X8_finding : GoodIn wz (wc yX8_finding cX8_finding 2 (some .int)) := gd_code wd_935
theorem gc_X8_text : GoodIn wz (wc yX8_text cX8_text 3 (some .int)) := gd_code wd_942
theorem gc_X8_either : GoodIn wz (wc yX8_either cX8_either 1 none) := gd_code wd_946
theorem gc_X8_both : GoodIn wz (wc yX8_both cX8_both 1 none) := gd_code wd_950
theorem gc_X8_compared : GoodIn wz (wc yX8_compared cX8_compared 2 none) := gd_code wd_954
theorem gc_X8_sum : GoodIn wz (wc yX8_sum cX8_sum 2 none) := gd_code wd_958
theorem gc_X8_product : GoodIn wz (wc yX8_product cX8_product 2 none) := gd_code wd_962
theorem gc_X8_one : GoodIn wz (wc yX8_one cX8_one 4 none) := gd_code wd_966
theorem gc_X8_here : GoodIn wz (wc yX8_here cX8_here 1 (some .int)) := gd_code wd_970
theorem gc_X8_codes : GoodIn wz (wc yX8_codes cX8_codes 2 none) := gd_code wd_974
theorem gc_X8_takes : GoodIn wz (wc yX8_takes cX8_takes 3 (some .boolean)) := gd_code wd_978
theorem gc_X8_nameOf : GoodIn wz (wc yX8_nameOf cX8_nameOf 4 (some .int)) := gd_code wd_982
theorem gc_J0_length_8abf5 : GoodIn wz (wc yJ0_length_8abf5 cJ0_length_8abf5 1 (some .int)) := gd_code wd_986
theorem gc_J0_coder_7d493 : GoodIn wz (wc yJ0_coder_7d493 cJ0_coder_7d493 1 (some .byte)) := gd_code wd_990
theorem gc_J0_charAt_5068e : GoodIn wz (wc yJ0_charAt_5068e cJ0_charAt_5068e 2 (some .char)) := gd_code wd_996
theorem gc_J0_isLatin1_aae02 : GoodIn wz (wc yJ0_isLatin1_aae02 cJ0_isLatin1_aae02 1 (some .boolean)) := gd_code wd_1000
theorem gc_J1_charAt_3b067 : GoodIn wz (wc yJ1_charAt_3b067 cJ1_charAt_3b067 2 (some .char)) := gd_code wd_1003
theorem gc_J0_checkIndex_df160 : GoodIn wz (wc yJ0_checkIndex_df160 cJ0_checkIndex_df160 2 none) := gd_code wd_1006
theorem gc_J3_checkIndex_8e157 : GoodIn wz (wc yJ3_checkIndex_8e157 cJ3_checkIndex_8e157 3 (some .int)) := gd_code wd_1011
theorem gc_J2_charAt_3b067 : GoodIn wz (wc yJ2_charAt_3b067 cJ2_charAt_3b067 2 (some .char)) := gd_code wd_1014
theorem gc_J2_checkIndex_2214a : GoodIn wz (wc yJ2_checkIndex_2214a cJ2_checkIndex_2214a 2 none) := gd_code wd_1017
theorem gc_J2_length_9d52b : GoodIn wz (wc yJ2_length_9d52b cJ2_length_9d52b 1 (some .int)) := gd_code wd_1020
theorem gc_J2_getChar_3b067 : GoodIn wz (wc yJ2_getChar_3b067 cJ2_getChar_3b067 2 (some .char)) := gd_code wd_1024
theorem gc_X8_forget : GoodIn wz (wc yX8_forget cX8_forget 2 none) := gd_code wd_1034
theorem gc_X8_law : GoodIn wz (wc yX8_law cX8_law 5 (some .int)) := gd_code wd_1038
theorem gc_X8_given : GoodIn wz (wc yX8_given cX8_given 6 (some .int)) := gd_code wd_1042
theorem gc_X8_hasText : GoodIn wz (wc yX8_hasText cX8_hasText 2 (some .boolean)) := gd_code wd_1046
theorem gc_X8_worked : GoodIn wz (wc yX8_worked cX8_worked 5 (some .int)) := gd_code wd_1050
theorem gc_X8_done : GoodIn wz (wc yX8_done cX8_done 3 (some .int)) := gd_code wd_1053
theorem gc_X8_held : GoodIn wz (wc yX8_held cX8_held 3 (some .int)) := gd_code wd_1056
theorem gc_X8_soul : GoodIn wz (wc yX8_soul cX8_soul 3 (some .int)) := gd_code wd_1062
theorem gc_X8_isKindM : GoodIn wz (wc yX8_isKindM cX8_isKindM 1 (some .boolean)) := gd_code wd_1065
theorem gc_X8_isStreet : GoodIn wz (wc yX8_isStreet cX8_isStreet 1 (some .boolean)) := gd_code wd_1068
theorem gc_X8_soulComes : GoodIn wz (wc yX8_soulComes cX8_soulComes 5 (some .int)) := gd_code wd_1072
theorem gc_X8_soulAt : GoodIn wz (wc yX8_soulAt cX8_soulAt 2 (some .int)) := gd_code wd_1075
theorem gc_X8_ofSoul : GoodIn wz (wc yX8_ofSoul cX8_ofSoul 3 (some .int)) := gd_code wd_1079
theorem gc_X8_isSoul : GoodIn wz (wc yX8_isSoul cX8_isSoul 2 (some .boolean)) := gd_code wd_1083
theorem gc_X8_soulIs : GoodIn wz (wc yX8_soulIs cX8_soulIs 3 (some .int)) := gd_code wd_1087
theorem gc_X8_keepsNow : GoodIn wz (wc yX8_keepsNow cX8_keepsNow 3 (some .int)) := gd_code wd_1091
theorem gc_X8_isUnder : GoodIn wz (wc yX8_isUnder cX8_isUnder 3 (some .boolean)) := gd_code wd_1094
theorem gc_X8_above : GoodIn wz (wc yX8_above cX8_above 1 (some .int)) := gd_code wd_1097
theorem gc_X8_handsBy : GoodIn wz (wc yX8_handsBy cX8_handsBy 5 (some .int)) := gd_code wd_1101
theorem gc_X8_runsNow : GoodIn wz (wc yX8_runsNow cX8_runsNow 2 (some .int)) := gd_code wd_1105
theorem gc_X8_change : GoodIn wz (wc yX8_change cX8_change 4 (some .int)) := gd_code wd_1109
theorem gc_X8_mayBe : GoodIn wz (wc yX8_mayBe cX8_mayBe 2 (some .boolean)) := gd_code wd_1112
theorem gc_X8_turn : GoodIn wz (wc yX8_turn cX8_turn 4 (some .int)) := gd_code wd_1116
theorem gc_X8_become : GoodIn wz (wc yX8_become cX8_become 3 (some .int)) := gd_code wd_1120
theorem gc_X8_as : GoodIn wz (wc yX8_as cX8_as 3 (some .int)) := gd_code wd_1124
theorem gc_X8_loss : GoodIn wz (wc yX8_loss cX8_loss 2 (some .int)) := gd_code wd_1129
theorem gc_X8_street : GoodIn wz (wc yX8_street cX8_street 3 (some .int)) := gd_code wd_1133
theorem gc_X8_atStreet : GoodIn wz (wc yX8_atStreet cX8_atStreet 4 (some .int)) := gd_code wd_1137
theorem gc_X8_freeNow : GoodIn wz (wc yX8_freeNow cX8_freeNow 3 (some .int)) := gd_code wd_1141
theorem gc_X8_meet : GoodIn wz (wc yX8_meet cX8_meet 3 (some .int)) := gd_code wd_1145
theorem gc_X8_doMeet : GoodIn wz (wc yX8_doMeet cX8_doMeet 4 (some .boolean)) := gd_code wd_1149
theorem gc_X8_bits : GoodIn wz (wc yX8_bits cX8_bits 3 (some .int)) := gd_code wd_1152
theorem gc_X8_isMeeting : GoodIn wz (wc yX8_isMeeting cX8_isMeeting 5 (some .boolean)) := gd_code wd_1156
theorem gc_X8_steps : GoodIn wz (wc yX8_steps cX8_steps 2 (some .int)) := gd_code wd_1160
theorem gc_X8_stepsGo : GoodIn wz (wc yX8_stepsGo cX8_stepsGo 3 none) := gd_code wd_1165
theorem gc_X8_step : GoodIn wz (wc yX8_step cX8_step 4 none) := gd_code wd_1169
theorem gc_X8_handedTo : GoodIn wz (wc yX8_handedTo cX8_handedTo 4 (some .int)) := gd_code wd_1173
theorem gc_X8_deedsFor : GoodIn wz (wc yX8_deedsFor cX8_deedsFor 5 (some .int)) := gd_code wd_1177
theorem gc_X8_sumOf : GoodIn wz (wc yX8_sumOf cX8_sumOf 4 (some .int)) := gd_code wd_1181
theorem gc_X8_loose : GoodIn wz (wc yX8_loose cX8_loose 5 (some .int)) := gd_code wd_1185
theorem gc_X8_drawn : GoodIn wz (wc yX8_drawn cX8_drawn 1 (some .int)) := gd_code wd_1189
theorem gc_X8_then : GoodIn wz (wc yX8_then cX8_then 4 (some .int)) := gd_code wd_1194
theorem gc_X8_isBehind : GoodIn wz (wc yX8_isBehind cX8_isBehind 1 (some .boolean)) := gd_code wd_1197
theorem gc_X8_copy : GoodIn wz (wc yX8_copy cX8_copy 3 none) := gd_code wd_1200
theorem gc_X8_putBack : GoodIn wz (wc yX8_putBack cX8_putBack 2 (some .int)) := gd_code wd_1204
theorem gc_X8_last : GoodIn wz (wc yX8_last cX8_last 5 (some .int)) := gd_code wd_1208
theorem gc_X8_reaches : GoodIn wz (wc yX8_reaches cX8_reaches 4 (some .int)) := gd_code wd_1213
theorem gc_X8_gloves : GoodIn wz (wc yX8_gloves cX8_gloves 6 (some .int)) := gd_code wd_1217
theorem gc_X8_isSoon : GoodIn wz (wc yX8_isSoon cX8_isSoon 1 (some .boolean)) := gd_code wd_1220
theorem gc_X8_staysAway : GoodIn wz (wc yX8_staysAway cX8_staysAway 6 (some .boolean)) := gd_code wd_1224
theorem gc_X8_hasBit : GoodIn wz (wc yX8_hasBit cX8_hasBit 2 (some .boolean)) := gd_code wd_1227
theorem gc_X8_from : GoodIn wz (wc yX8_from cX8_from 6 (some .int)) := gd_code wd_1231
theorem gc_X8_isSheet : GoodIn wz (wc yX8_isSheet cX8_isSheet 1 (some .boolean)) := gd_code wd_1234
theorem gc_X8_comesFrom : GoodIn wz (wc yX8_comesFrom cX8_comesFrom 6 (some .boolean)) := gd_code wd_1238
theorem gc_X8_stand : GoodIn wz (wc yX8_stand cX8_stand 9 (some .int)) := gd_code wd_1242
theorem gc_X8_freeBehind : GoodIn wz (wc yX8_freeBehind cX8_freeBehind 3 (some .int)) := gd_code wd_1246
theorem gc_X8_crush : GoodIn wz (wc yX8_crush cX8_crush 5 (some .int)) := gd_code wd_1250
theorem gc_X8_dies : GoodIn wz (wc yX8_dies cX8_dies 3 (some .int)) := gd_code wd_1254
theorem gc_X8_touch : GoodIn wz (wc yX8_touch cX8_touch 9 (some .int)) := gd_code wd_1258
theorem gc_X8_done_ : GoodIn wz (wc yX8_done_ cX8_done_ 3 (some .int)) := gd_code wd_1262
theorem gc_X8_odds : GoodIn wz (wc yX8_odds cX8_odds 9 (some .int)) := gd_code wd_1266
theorem gc_X8_seed : GoodIn wz (wc yX8_seed cX8_seed 2 (some .int)) := gd_code wd_1270
theorem gc_X8_voice : GoodIn wz (wc yX8_voice cX8_voice 4 (some .int)) := gd_code wd_1274
theorem gc_X8_keepsOf : GoodIn wz (wc yX8_keepsOf cX8_keepsOf 3 (some .int)) := gd_code wd_1278
theorem gc_X8_ran : GoodIn wz (wc yX8_ran cX8_ran 2 none) := gd_code wd_1282
theorem gc_X8_handsOf : GoodIn wz (wc yX8_handsOf cX8_handsOf 5 (some .int)) := gd_code wd_1286
theorem gc_X8_stealsOf : GoodIn wz (wc yX8_stealsOf cX8_stealsOf 4 (some .int)) := gd_code wd_1290
theorem gc_X8_tellsOf : GoodIn wz (wc yX8_tellsOf cX8_tellsOf 3 (some .int)) := gd_code wd_1294
theorem gc_X8_plainTells : GoodIn wz (wc yX8_plainTells cX8_plainTells 3 (some .int)) := gd_code wd_1298
theorem gc_X8_trace : GoodIn wz (wc yX8_trace cX8_trace 2 (some .int)) := gd_code wd_1302
theorem gc_X8_sheet : GoodIn wz (wc yX8_sheet cX8_sheet 5 (some .int)) := gd_code wd_1306
theorem gc_X8_put : GoodIn wz (wc yX8_put cX8_put 4 (some .int)) := gd_code wd_1310
theorem gc_X8_move : GoodIn wz (wc yX8_move cX8_move 7 (some .int)) := gd_code wd_1314
theorem gc_X8_frees : GoodIn wz (wc yX8_frees cX8_frees 3 (some .int)) := gd_code wd_1318
theorem gc_X8_judge : GoodIn wz (wc yX8_judge cX8_judge 3 (some .int)) := gd_code wd_1322
theorem gc_X8_image : GoodIn wz (wc yX8_image cX8_image 1 (some .int)) := gd_code wd_1326
theorem gc_X8_restore : GoodIn wz (wc yX8_restore cX8_restore 1 (some .int)) := gd_code wd_1330
theorem gc_X8_tell : GoodIn wz (wc yX8_tell cX8_tell 2 (some .int)) := gd_code wd_1334
theorem gc_X8_check : GoodIn wz (wc yX8_check cX8_check 4 (some .int)) := gd_code wd_1338
theorem gc_X8_count : GoodIn wz (wc yX8_count cX8_count 2 (some .int)) := gd_code wd_1342
theorem gc_X8_gloved : GoodIn wz (wc yX8_gloved cX8_gloved 3 (some .int)) := gd_code wd_1346
theorem gc_X8_told : GoodIn wz (wc yX8_told cX8_told 2 (some .int)) := gd_code wd_1350
