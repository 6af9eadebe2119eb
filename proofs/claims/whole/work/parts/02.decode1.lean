theorem dX0_init_0 : decode cX0_init 0 = .ok (.aload_n 0, 1) := by decide +kernel
theorem dX0_init_1 : decode cX0_init 1 = .ok (.invokespecial 3, 3) := by decide +kernel
theorem dX0_init_4 : decode cX0_init 4 = .ok (.aload_n 0, 1) := by decide +kernel
theorem dX0_init_5 : decode cX0_init 5 = .ok (.bipush 8, 2) := by decide +kernel
theorem dX0_init_7 : decode cX0_init 7 = .ok (.newarray .int, 2) := by decide +kernel
theorem dX0_init_9 : decode cX0_init 9 = .ok (.putfield 9, 3) := by decide +kernel
theorem dX0_init_12 : decode cX0_init 12 = .ok (.aload_n 0, 1) := by decide +kernel
theorem dX0_init_13 : decode cX0_init 13 = .ok (.bipush 8, 2) := by decide +kernel
theorem dX0_init_15 : decode cX0_init 15 = .ok (.newarray .int, 2) := by decide +kernel
theorem dX0_init_17 : decode cX0_init 17 = .ok (.putfield 15, 3) := by decide +kernel
theorem dX0_init_20 : decode cX0_init 20 = .ok (.aload_n 0, 1) := by decide +kernel
theorem dX0_init_21 : decode cX0_init 21 = .ok (.bipush 8, 2) := by decide +kernel
theorem dX0_init_23 : decode cX0_init 23 = .ok (.newarray .int, 2) := by decide +kernel
theorem dX0_init_25 : decode cX0_init 25 = .ok (.putfield 18, 3) := by decide +kernel
theorem dX0_init_28 : decode cX0_init 28 = .ok (.aload_n 0, 1) := by decide +kernel
theorem dX0_init_29 : decode cX0_init 29 = .ok (.bipush 8, 2) := by decide +kernel
theorem dX0_init_31 : decode cX0_init 31 = .ok (.newarray .int, 2) := by decide +kernel
theorem dX0_init_33 : decode cX0_init 33 = .ok (.putfield 21, 3) := by decide +kernel
theorem dX0_init_36 : decode cX0_init 36 = .ok (.aload_n 0, 1) := by decide +kernel
theorem dX0_init_37 : decode cX0_init 37 = .ok (.bipush 8, 2) := by decide +kernel
theorem dX0_init_39 : decode cX0_init 39 = .ok (.newarray .int, 2) := by decide +kernel
theorem dX0_init_41 : decode cX0_init 41 = .ok (.putfield 24, 3) := by decide +kernel
theorem dX0_init_44 : decode cX0_init 44 = .ok (.aload_n 0, 1) := by decide +kernel
theorem dX0_init_45 : decode cX0_init 45 = .ok (.bipush 8, 2) := by decide +kernel
theorem dX0_init_47 : decode cX0_init 47 = .ok (.newarray .int, 2) := by decide +kernel
theorem dX0_init_49 : decode cX0_init 49 = .ok (.putfield 27, 3) := by decide +kernel
theorem dX0_init_52 : decode cX0_init 52 = .ok (.aload_n 0, 1) := by decide +kernel
theorem dX0_init_53 : decode cX0_init 53 = .ok (.bipush 8, 2) := by decide +kernel
theorem dX0_init_55 : decode cX0_init 55 = .ok (.newarray .int, 2) := by decide +kernel
theorem dX0_init_57 : decode cX0_init 57 = .ok (.putfield 30, 3) := by decide +kernel
theorem dX0_init_60 : decode cX0_init 60 = .ok (.aload_n 0, 1) := by decide +kernel
theorem dX0_init_61 : decode cX0_init 61 = .ok (.bipush 8, 2) := by decide +kernel
theorem dX0_init_63 : decode cX0_init 63 = .ok (.newarray .int, 2) := by decide +kernel
theorem dX0_init_65 : decode cX0_init 65 = .ok (.putfield 33, 3) := by decide +kernel
theorem dX0_init_68 : decode cX0_init 68 = .ok (.aload_n 0, 1) := by decide +kernel
theorem dX0_init_69 : decode cX0_init 69 = .ok (.aload_n 1, 1) := by decide +kernel
theorem dX0_init_70 : decode cX0_init 70 = .ok (.putfield 36, 3) := by decide +kernel
theorem dX0_init_73 : decode cX0_init 73 = .ok (.aload_n 0, 1) := by decide +kernel
theorem dX0_init_74 : decode cX0_init 74 = .ok (.aload_n 2, 1) := by decide +kernel
theorem dX0_init_75 : decode cX0_init 75 = .ok (.putfield 40, 3) := by decide +kernel
theorem dX0_init_78 : decode cX0_init 78 = .ok (.aload_n 0, 1) := by decide +kernel
theorem dX0_init_79 : decode cX0_init 79 = .ok (.iconst 0, 1) := by decide +kernel
theorem dX0_init_80 : decode cX0_init 80 = .ok (.putfield 43, 3) := by decide +kernel
theorem dX0_init_83 : decode cX0_init 83 = .ok (.aload_n 0, 1) := by decide +kernel
theorem dX0_init_84 : decode cX0_init 84 = .ok (.iconst 0, 1) := by decide +kernel
theorem dX0_init_85 : decode cX0_init 85 = .ok (.putfield 47, 3) := by decide +kernel
theorem dX0_init_88 : decode cX0_init 88 = .ok (.aload_n 0, 1) := by decide +kernel
theorem dX0_init_89 : decode cX0_init 89 = .ok (.iconst 1, 1) := by decide +kernel
theorem dX0_init_90 : decode cX0_init 90 = .ok (.putfield 50, 3) := by decide +kernel
theorem dX0_init_93 : decode cX0_init 93 = .ok (.return_, 1) := by decide +kernel
theorem dX0_copy_0 : decode cX0_copy 0 = .ok (.aload_n 1, 1) := by decide +kernel
theorem dX0_copy_1 : decode cX0_copy 1 = .ok (.getfield 9, 3) := by decide +kernel
theorem dX0_copy_4 : decode cX0_copy 4 = .ok (.iconst 0, 1) := by decide +kernel
theorem dX0_copy_5 : decode cX0_copy 5 = .ok (.aload_n 0, 1) := by decide +kernel
theorem dX0_copy_6 : decode cX0_copy 6 = .ok (.getfield 9, 3) := by decide +kernel
theorem dX0_copy_9 : decode cX0_copy 9 = .ok (.iconst 0, 1) := by decide +kernel
theorem dX0_copy_10 : decode cX0_copy 10 = .ok (.bipush 8, 2) := by decide +kernel
theorem dX0_copy_12 : decode cX0_copy 12 = .ok (.invokestatic 53, 3) := by decide +kernel
theorem dX0_copy_15 : decode cX0_copy 15 = .ok (.aload_n 1, 1) := by decide +kernel
theorem dX0_copy_16 : decode cX0_copy 16 = .ok (.getfield 15, 3) := by decide +kernel
theorem dX0_copy_19 : decode cX0_copy 19 = .ok (.iconst 0, 1) := by decide +kernel
theorem dX0_copy_20 : decode cX0_copy 20 = .ok (.aload_n 0, 1) := by decide +kernel
theorem dX0_copy_21 : decode cX0_copy 21 = .ok (.getfield 15, 3) := by decide +kernel
theorem dX0_copy_24 : decode cX0_copy 24 = .ok (.iconst 0, 1) := by decide +kernel
theorem dX0_copy_25 : decode cX0_copy 25 = .ok (.bipush 8, 2) := by decide +kernel
theorem dX0_copy_27 : decode cX0_copy 27 = .ok (.invokestatic 53, 3) := by decide +kernel
theorem dX0_copy_30 : decode cX0_copy 30 = .ok (.aload_n 1, 1) := by decide +kernel
theorem dX0_copy_31 : decode cX0_copy 31 = .ok (.getfield 18, 3) := by decide +kernel
theorem dX0_copy_34 : decode cX0_copy 34 = .ok (.iconst 0, 1) := by decide +kernel
theorem dX0_copy_35 : decode cX0_copy 35 = .ok (.aload_n 0, 1) := by decide +kernel
theorem dX0_copy_36 : decode cX0_copy 36 = .ok (.getfield 18, 3) := by decide +kernel
theorem dX0_copy_39 : decode cX0_copy 39 = .ok (.iconst 0, 1) := by decide +kernel
theorem dX0_copy_40 : decode cX0_copy 40 = .ok (.bipush 8, 2) := by decide +kernel
theorem dX0_copy_42 : decode cX0_copy 42 = .ok (.invokestatic 53, 3) := by decide +kernel
theorem dX0_copy_45 : decode cX0_copy 45 = .ok (.aload_n 1, 1) := by decide +kernel
theorem dX0_copy_46 : decode cX0_copy 46 = .ok (.getfield 21, 3) := by decide +kernel
theorem dX0_copy_49 : decode cX0_copy 49 = .ok (.iconst 0, 1) := by decide +kernel
theorem dX0_copy_50 : decode cX0_copy 50 = .ok (.aload_n 0, 1) := by decide +kernel
theorem dX0_copy_51 : decode cX0_copy 51 = .ok (.getfield 21, 3) := by decide +kernel
theorem dX0_copy_54 : decode cX0_copy 54 = .ok (.iconst 0, 1) := by decide +kernel
theorem dX0_copy_55 : decode cX0_copy 55 = .ok (.bipush 8, 2) := by decide +kernel
theorem dX0_copy_57 : decode cX0_copy 57 = .ok (.invokestatic 53, 3) := by decide +kernel
theorem dX0_copy_60 : decode cX0_copy 60 = .ok (.aload_n 1, 1) := by decide +kernel
theorem dX0_copy_61 : decode cX0_copy 61 = .ok (.getfield 24, 3) := by decide +kernel
theorem dX0_copy_64 : decode cX0_copy 64 = .ok (.iconst 0, 1) := by decide +kernel
theorem dX0_copy_65 : decode cX0_copy 65 = .ok (.aload_n 0, 1) := by decide +kernel
theorem dX0_copy_66 : decode cX0_copy 66 = .ok (.getfield 24, 3) := by decide +kernel
theorem dX0_copy_69 : decode cX0_copy 69 = .ok (.iconst 0, 1) := by decide +kernel
theorem dX0_copy_70 : decode cX0_copy 70 = .ok (.bipush 8, 2) := by decide +kernel
theorem dX0_copy_72 : decode cX0_copy 72 = .ok (.invokestatic 53, 3) := by decide +kernel
theorem dX0_copy_75 : decode cX0_copy 75 = .ok (.aload_n 1, 1) := by decide +kernel
theorem dX0_copy_76 : decode cX0_copy 76 = .ok (.getfield 27, 3) := by decide +kernel
theorem dX0_copy_79 : decode cX0_copy 79 = .ok (.iconst 0, 1) := by decide +kernel
theorem dX0_copy_80 : decode cX0_copy 80 = .ok (.aload_n 0, 1) := by decide +kernel
theorem dX0_copy_81 : decode cX0_copy 81 = .ok (.getfield 27, 3) := by decide +kernel
theorem dX0_copy_84 : decode cX0_copy 84 = .ok (.iconst 0, 1) := by decide +kernel
theorem dX0_copy_85 : decode cX0_copy 85 = .ok (.bipush 8, 2) := by decide +kernel
theorem dX0_copy_87 : decode cX0_copy 87 = .ok (.invokestatic 53, 3) := by decide +kernel
theorem dX0_copy_90 : decode cX0_copy 90 = .ok (.aload_n 0, 1) := by decide +kernel
theorem dX0_copy_91 : decode cX0_copy 91 = .ok (.aload_n 1, 1) := by decide +kernel
theorem dX0_copy_92 : decode cX0_copy 92 = .ok (.getfield 43, 3) := by decide +kernel
theorem dX0_copy_95 : decode cX0_copy 95 = .ok (.putfield 43, 3) := by decide +kernel
theorem dX0_copy_98 : decode cX0_copy 98 = .ok (.aload_n 0, 1) := by decide +kernel
theorem dX0_copy_99 : decode cX0_copy 99 = .ok (.aload_n 1, 1) := by decide +kernel
theorem dX0_copy_100 : decode cX0_copy 100 = .ok (.getfield 47, 3) := by decide +kernel
theorem dX0_copy_103 : decode cX0_copy 103 = .ok (.putfield 47, 3) := by decide +kernel
theorem dX0_copy_106 : decode cX0_copy 106 = .ok (.aload_n 0, 1) := by decide +kernel
theorem dX0_copy_107 : decode cX0_copy 107 = .ok (.aload_n 1, 1) := by decide +kernel
theorem dX0_copy_108 : decode cX0_copy 108 = .ok (.getfield 50, 3) := by decide +kernel
theorem dX0_copy_111 : decode cX0_copy 111 = .ok (.putfield 50, 3) := by decide +kernel
theorem dX0_copy_114 : decode cX0_copy 114 = .ok (.return_, 1) := by decide +kernel
theorem dX0_join_0 : decode cX0_join 0 = .ok (.aload_n 0, 1) := by decide +kernel
theorem dX0_join_1 : decode cX0_join 1 = .ok (.getfield 43, 3) := by decide +kernel
theorem dX0_join_4 : decode cX0_join 4 = .ok (.istore_n 3, 1) := by decide +kernel
theorem dX0_join_5 : decode cX0_join 5 = .ok (.aload_n 0, 1) := by decide +kernel
theorem dX0_join_6 : decode cX0_join 6 = .ok (.dup, 1) := by decide +kernel
theorem dX0_join_7 : decode cX0_join 7 = .ok (.getfield 43, 3) := by decide +kernel
theorem dX0_join_10 : decode cX0_join 10 = .ok (.iconst 1, 1) := by decide +kernel
theorem dX0_join_11 : decode cX0_join 11 = .ok (.iadd, 1) := by decide +kernel
theorem dX0_join_12 : decode cX0_join 12 = .ok (.putfield 43, 3) := by decide +kernel
theorem dX0_join_15 : decode cX0_join 15 = .ok (.aload_n 0, 1) := by decide +kernel
theorem dX0_join_16 : decode cX0_join 16 = .ok (.iload_n 3, 1) := by decide +kernel
theorem dX0_join_17 : decode cX0_join 17 = .ok (.iload_n 1, 1) := by decide +kernel
theorem dX0_join_18 : decode cX0_join 18 = .ok (.invokevirtual 59, 3) := by decide +kernel
theorem dX0_join_21 : decode cX0_join 21 = .ok (.aload_n 0, 1) := by decide +kernel
theorem dX0_join_22 : decode cX0_join 22 = .ok (.getfield 18, 3) := by decide +kernel
theorem dX0_join_25 : decode cX0_join 25 = .ok (.iload_n 3, 1) := by decide +kernel
theorem dX0_join_26 : decode cX0_join 26 = .ok (.iload_n 2, 1) := by decide +kernel
theorem dX0_join_27 : decode cX0_join 27 = .ok (.iastore, 1) := by decide +kernel
theorem dX0_join_28 : decode cX0_join 28 = .ok (.aload_n 0, 1) := by decide +kernel
theorem dX0_join_29 : decode cX0_join 29 = .ok (.getfield 21, 3) := by decide +kernel
theorem dX0_join_32 : decode cX0_join 32 = .ok (.iload_n 3, 1) := by decide +kernel
theorem dX0_join_33 : decode cX0_join 33 = .ok (.iconst 0, 1) := by decide +kernel
theorem dX0_join_34 : decode cX0_join 34 = .ok (.iastore, 1) := by decide +kernel
theorem dX0_join_35 : decode cX0_join 35 = .ok (.aload_n 0, 1) := by decide +kernel
theorem dX0_join_36 : decode cX0_join 36 = .ok (.getfield 24, 3) := by decide +kernel
theorem dX0_join_39 : decode cX0_join 39 = .ok (.iload_n 3, 1) := by decide +kernel
theorem dX0_join_40 : decode cX0_join 40 = .ok (.iconst 0, 1) := by decide +kernel
theorem dX0_join_41 : decode cX0_join 41 = .ok (.iastore, 1) := by decide +kernel
theorem dX0_join_42 : decode cX0_join 42 = .ok (.aload_n 0, 1) := by decide +kernel
theorem dX0_join_43 : decode cX0_join 43 = .ok (.getfield 27, 3) := by decide +kernel
theorem dX0_join_46 : decode cX0_join 46 = .ok (.iload_n 3, 1) := by decide +kernel
theorem dX0_join_47 : decode cX0_join 47 = .ok (.iconst 0, 1) := by decide +kernel
theorem dX0_join_48 : decode cX0_join 48 = .ok (.iastore, 1) := by decide +kernel
theorem dX0_join_49 : decode cX0_join 49 = .ok (.iload_n 3, 1) := by decide +kernel
theorem dX0_join_50 : decode cX0_join 50 = .ok (.ireturn, 1) := by decide +kernel
theorem dX0_turnInto_0 : decode cX0_turnInto 0 = .ok (.aload_n 0, 1) := by decide +kernel
theorem dX0_turnInto_1 : decode cX0_turnInto 1 = .ok (.getfield 9, 3) := by decide +kernel
theorem dX0_turnInto_4 : decode cX0_turnInto 4 = .ok (.iload_n 1, 1) := by decide +kernel
theorem dX0_turnInto_5 : decode cX0_turnInto 5 = .ok (.iload_n 2, 1) := by decide +kernel
theorem dX0_turnInto_6 : decode cX0_turnInto 6 = .ok (.bipush 10, 2) := by decide +kernel
theorem dX0_turnInto_8 : decode cX0_turnInto 8 = .ok (.idiv, 1) := by decide +kernel
theorem dX0_turnInto_9 : decode cX0_turnInto 9 = .ok (.iastore, 1) := by decide +kernel
theorem dX0_turnInto_10 : decode cX0_turnInto 10 = .ok (.aload_n 0, 1) := by decide +kernel
theorem dX0_turnInto_11 : decode cX0_turnInto 11 = .ok (.getfield 15, 3) := by decide +kernel
theorem dX0_turnInto_14 : decode cX0_turnInto 14 = .ok (.iload_n 1, 1) := by decide +kernel
theorem dX0_turnInto_15 : decode cX0_turnInto 15 = .ok (.iload_n 2, 1) := by decide +kernel
theorem dX0_turnInto_16 : decode cX0_turnInto 16 = .ok (.bipush 10, 2) := by decide +kernel
theorem dX0_turnInto_18 : decode cX0_turnInto 18 = .ok (.irem, 1) := by decide +kernel
theorem dX0_turnInto_19 : decode cX0_turnInto 19 = .ok (.iastore, 1) := by decide +kernel
theorem dX0_turnInto_20 : decode cX0_turnInto 20 = .ok (.return_, 1) := by decide +kernel
theorem dX0_keepsOf_0 : decode cX0_keepsOf 0 = .ok (.aload_n 0, 1) := by decide +kernel
theorem dX0_keepsOf_1 : decode cX0_keepsOf 1 = .ok (.getfield 9, 3) := by decide +kernel
theorem dX0_keepsOf_4 : decode cX0_keepsOf 4 = .ok (.iload_n 1, 1) := by decide +kernel
theorem dX0_keepsOf_5 : decode cX0_keepsOf 5 = .ok (.iaload, 1) := by decide +kernel
theorem dX0_keepsOf_6 : decode cX0_keepsOf 6 = .ok (.iconst 1, 1) := by decide +kernel
theorem dX0_keepsOf_7 : decode cX0_keepsOf 7 = .ok (.invokestatic 63, 3) := by decide +kernel
theorem dX0_keepsOf_10 : decode cX0_keepsOf 10 = .ok (.ifCond .eq 15, 3) := by decide +kernel
theorem dX0_keepsOf_13 : decode cX0_keepsOf 13 = .ok (.bipush 10, 2) := by decide +kernel
theorem dX0_keepsOf_15 : decode cX0_keepsOf 15 = .ok (.aload_n 0, 1) := by decide +kernel
theorem dX0_keepsOf_16 : decode cX0_keepsOf 16 = .ok (.getfield 15, 3) := by decide +kernel
theorem dX0_keepsOf_19 : decode cX0_keepsOf 19 = .ok (.iload_n 1, 1) := by decide +kernel
theorem dX0_keepsOf_20 : decode cX0_keepsOf 20 = .ok (.iaload, 1) := by decide +kernel
theorem dX0_keepsOf_21 : decode cX0_keepsOf 21 = .ok (.iadd, 1) := by decide +kernel
theorem dX0_keepsOf_22 : decode cX0_keepsOf 22 = .ok (.goto 4, 3) := by decide +kernel
theorem dX0_keepsOf_25 : decode cX0_keepsOf 25 = .ok (.iconst 0, 1) := by decide +kernel
theorem dX0_keepsOf_26 : decode cX0_keepsOf 26 = .ok (.istore_n 2, 1) := by decide +kernel
theorem dX0_keepsOf_27 : decode cX0_keepsOf 27 = .ok (.aload_n 0, 1) := by decide +kernel
theorem dX0_keepsOf_28 : decode cX0_keepsOf 28 = .ok (.getfield 9, 3) := by decide +kernel
theorem dX0_keepsOf_31 : decode cX0_keepsOf 31 = .ok (.iload_n 1, 1) := by decide +kernel
theorem dX0_keepsOf_32 : decode cX0_keepsOf 32 = .ok (.iaload, 1) := by decide +kernel
theorem dX0_keepsOf_33 : decode cX0_keepsOf 33 = .ok (.iconst 4, 1) := by decide +kernel
theorem dX0_keepsOf_34 : decode cX0_keepsOf 34 = .ok (.if_icmp .ne 20, 3) := by decide +kernel
theorem dX0_keepsOf_37 : decode cX0_keepsOf 37 = .ok (.aload_n 0, 1) := by decide +kernel
theorem dX0_keepsOf_38 : decode cX0_keepsOf 38 = .ok (.getfield 47, 3) := by decide +kernel
theorem dX0_keepsOf_41 : decode cX0_keepsOf 41 = .ok (.bipush 7, 2) := by decide +kernel
theorem dX0_keepsOf_43 : decode cX0_keepsOf 43 = .ok (.irem, 1) := by decide +kernel
theorem dX0_keepsOf_44 : decode cX0_keepsOf 44 = .ok (.ifCond .ne 10, 3) := by decide +kernel
theorem dX0_keepsOf_47 : decode cX0_keepsOf 47 = .ok (.iload_n 2, 1) := by decide +kernel
theorem dX0_keepsOf_48 : decode cX0_keepsOf 48 = .ok (.bipush 20, 2) := by decide +kernel
theorem dX0_keepsOf_50 : decode cX0_keepsOf 50 = .ok (.iadd, 1) := by decide +kernel
theorem dX0_keepsOf_51 : decode cX0_keepsOf 51 = .ok (.goto 4, 3) := by decide +kernel
theorem dX0_keepsOf_54 : decode cX0_keepsOf 54 = .ok (.iload_n 2, 1) := by decide +kernel
theorem dX0_keepsOf_55 : decode cX0_keepsOf 55 = .ok (.ireturn, 1) := by decide +kernel
theorem dX0_handsOf_0 : decode cX0_handsOf 0 = .ok (.aload_n 0, 1) := by decide +kernel
theorem dX0_handsOf_1 : decode cX0_handsOf 1 = .ok (.getfield 21, 3) := by decide +kernel
theorem dX0_handsOf_4 : decode cX0_handsOf 4 = .ok (.iload_n 1, 1) := by decide +kernel
theorem dX0_handsOf_5 : decode cX0_handsOf 5 = .ok (.iaload, 1) := by decide +kernel
theorem dX0_handsOf_6 : decode cX0_handsOf 6 = .ok (.aload_n 0, 1) := by decide +kernel
theorem dX0_handsOf_7 : decode cX0_handsOf 7 = .ok (.getfield 50, 3) := by decide +kernel
theorem dX0_handsOf_10 : decode cX0_handsOf 10 = .ok (.isub, 1) := by decide +kernel
theorem dX0_handsOf_11 : decode cX0_handsOf 11 = .ok (.istore_n 2, 1) := by decide +kernel
theorem dX0_handsOf_12 : decode cX0_handsOf 12 = .ok (.aload_n 0, 1) := by decide +kernel
theorem dX0_handsOf_13 : decode cX0_handsOf 13 = .ok (.getfield 9, 3) := by decide +kernel
theorem dX0_handsOf_16 : decode cX0_handsOf 16 = .ok (.iload_n 1, 1) := by decide +kernel
theorem dX0_handsOf_17 : decode cX0_handsOf 17 = .ok (.iaload, 1) := by decide +kernel
theorem dX0_handsOf_18 : decode cX0_handsOf 18 = .ok (.tableswitch 96 2 6 #[34, 46, 96, 44, 70], 34) := by decide +kernel
theorem dX0_handsOf_52 : decode cX0_handsOf 52 = .ok (.iload_n 2, 1) := by decide +kernel
theorem dX0_handsOf_53 : decode cX0_handsOf 53 = .ok (.iconst 2, 1) := by decide +kernel
theorem dX0_handsOf_54 : decode cX0_handsOf 54 = .ok (.idiv, 1) := by decide +kernel
theorem dX0_handsOf_55 : decode cX0_handsOf 55 = .ok (.iconst 0, 1) := by decide +kernel
theorem dX0_handsOf_56 : decode cX0_handsOf 56 = .ok (.bipush 99, 2) := by decide +kernel
theorem dX0_handsOf_58 : decode cX0_handsOf 58 = .ok (.invokestatic 67, 3) := by decide +kernel
theorem dX0_handsOf_61 : decode cX0_handsOf 61 = .ok (.ireturn, 1) := by decide +kernel
theorem dX0_handsOf_62 : decode cX0_handsOf 62 = .ok (.iconst 0, 1) := by decide +kernel
theorem dX0_handsOf_63 : decode cX0_handsOf 63 = .ok (.ireturn, 1) := by decide +kernel
theorem dX0_handsOf_64 : decode cX0_handsOf 64 = .ok (.iload_n 2, 1) := by decide +kernel
theorem dX0_handsOf_65 : decode cX0_handsOf 65 = .ok (.aload_n 0, 1) := by decide +kernel
theorem dX0_handsOf_66 : decode cX0_handsOf 66 = .ok (.getfield 15, 3) := by decide +kernel
theorem dX0_handsOf_69 : decode cX0_handsOf 69 = .ok (.iload_n 1, 1) := by decide +kernel
theorem dX0_handsOf_70 : decode cX0_handsOf 70 = .ok (.iaload, 1) := by decide +kernel
theorem dX0_handsOf_71 : decode cX0_handsOf 71 = .ok (.iadd, 1) := by decide +kernel
theorem dX0_handsOf_72 : decode cX0_handsOf 72 = .ok (.aload_n 0, 1) := by decide +kernel
theorem dX0_handsOf_73 : decode cX0_handsOf 73 = .ok (.getfield 21, 3) := by decide +kernel
theorem dX0_handsOf_76 : decode cX0_handsOf 76 = .ok (.iload_n 1, 1) := by decide +kernel
theorem dX0_handsOf_77 : decode cX0_handsOf 77 = .ok (.iaload, 1) := by decide +kernel
theorem dX0_handsOf_78 : decode cX0_handsOf 78 = .ok (.invokestatic 71, 3) := by decide +kernel
theorem dX0_handsOf_81 : decode cX0_handsOf 81 = .ok (.iconst 0, 1) := by decide +kernel
theorem dX0_handsOf_82 : decode cX0_handsOf 82 = .ok (.bipush 99, 2) := by decide +kernel
theorem dX0_handsOf_84 : decode cX0_handsOf 84 = .ok (.invokestatic 67, 3) := by decide +kernel
theorem dX0_handsOf_87 : decode cX0_handsOf 87 = .ok (.ireturn, 1) := by decide +kernel
theorem dX0_handsOf_88 : decode cX0_handsOf 88 = .ok (.iload_n 2, 1) := by decide +kernel
theorem dX0_handsOf_89 : decode cX0_handsOf 89 = .ok (.aload_n 0, 1) := by decide +kernel
theorem dX0_handsOf_90 : decode cX0_handsOf 90 = .ok (.getfield 15, 3) := by decide +kernel
theorem dX0_handsOf_93 : decode cX0_handsOf 93 = .ok (.iload_n 1, 1) := by decide +kernel
theorem dX0_handsOf_94 : decode cX0_handsOf 94 = .ok (.iaload, 1) := by decide +kernel
theorem dX0_handsOf_95 : decode cX0_handsOf 95 = .ok (.iadd, 1) := by decide +kernel
theorem dX0_handsOf_96 : decode cX0_handsOf 96 = .ok (.aload_n 0, 1) := by decide +kernel
theorem dX0_handsOf_97 : decode cX0_handsOf 97 = .ok (.getfield 21, 3) := by decide +kernel
theorem dX0_handsOf_100 : decode cX0_handsOf 100 = .ok (.iload_n 1, 1) := by decide +kernel
theorem dX0_handsOf_101 : decode cX0_handsOf 101 = .ok (.iaload, 1) := by decide +kernel
theorem dX0_handsOf_102 : decode cX0_handsOf 102 = .ok (.invokestatic 71, 3) := by decide +kernel
theorem dX0_handsOf_105 : decode cX0_handsOf 105 = .ok (.iconst 1, 1) := by decide +kernel
theorem dX0_handsOf_106 : decode cX0_handsOf 106 = .ok (.iadd, 1) := by decide +kernel
theorem dX0_handsOf_107 : decode cX0_handsOf 107 = .ok (.iconst 0, 1) := by decide +kernel
theorem dX0_handsOf_108 : decode cX0_handsOf 108 = .ok (.bipush 99, 2) := by decide +kernel
theorem dX0_handsOf_110 : decode cX0_handsOf 110 = .ok (.invokestatic 67, 3) := by decide +kernel
theorem dX0_handsOf_113 : decode cX0_handsOf 113 = .ok (.ireturn, 1) := by decide +kernel
theorem dX0_handsOf_114 : decode cX0_handsOf 114 = .ok (.iload_n 2, 1) := by decide +kernel
theorem dX0_handsOf_115 : decode cX0_handsOf 115 = .ok (.iconst 0, 1) := by decide +kernel
theorem dX0_handsOf_116 : decode cX0_handsOf 116 = .ok (.bipush 99, 2) := by decide +kernel
theorem dX0_handsOf_118 : decode cX0_handsOf 118 = .ok (.invokestatic 67, 3) := by decide +kernel
theorem dX0_handsOf_121 : decode cX0_handsOf 121 = .ok (.ireturn, 1) := by decide +kernel
theorem dX0_runsOf_0 : decode cX0_runsOf 0 = .ok (.aload_n 0, 1) := by decide +kernel
theorem dX0_runsOf_1 : decode cX0_runsOf 1 = .ok (.getfield 9, 3) := by decide +kernel
theorem dX0_runsOf_4 : decode cX0_runsOf 4 = .ok (.iload_n 1, 1) := by decide +kernel
theorem dX0_runsOf_5 : decode cX0_runsOf 5 = .ok (.iaload, 1) := by decide +kernel
theorem dX0_runsOf_6 : decode cX0_runsOf 6 = .ok (.tableswitch 51 2 6 #[34, 38, 51, 36, 49], 34) := by decide +kernel
theorem dX0_runsOf_40 : decode cX0_runsOf 40 = .ok (.iconst 2, 1) := by decide +kernel
theorem dX0_runsOf_41 : decode cX0_runsOf 41 = .ok (.ireturn, 1) := by decide +kernel
theorem dX0_runsOf_42 : decode cX0_runsOf 42 = .ok (.iconst 3, 1) := by decide +kernel
theorem dX0_runsOf_43 : decode cX0_runsOf 43 = .ok (.ireturn, 1) := by decide +kernel
theorem dX0_runsOf_44 : decode cX0_runsOf 44 = .ok (.iconst 1, 1) := by decide +kernel
theorem dX0_runsOf_45 : decode cX0_runsOf 45 = .ok (.aload_n 0, 1) := by decide +kernel
theorem dX0_runsOf_46 : decode cX0_runsOf 46 = .ok (.getfield 15, 3) := by decide +kernel
theorem dX0_runsOf_49 : decode cX0_runsOf 49 = .ok (.iload_n 1, 1) := by decide +kernel
theorem dX0_runsOf_50 : decode cX0_runsOf 50 = .ok (.iaload, 1) := by decide +kernel
theorem dX0_runsOf_51 : decode cX0_runsOf 51 = .ok (.iconst 2, 1) := by decide +kernel
theorem dX0_runsOf_52 : decode cX0_runsOf 52 = .ok (.irem, 1) := by decide +kernel
theorem dX0_runsOf_53 : decode cX0_runsOf 53 = .ok (.iadd, 1) := by decide +kernel
theorem dX0_runsOf_54 : decode cX0_runsOf 54 = .ok (.ireturn, 1) := by decide +kernel
theorem dX0_runsOf_55 : decode cX0_runsOf 55 = .ok (.iconst 0, 1) := by decide +kernel
theorem dX0_runsOf_56 : decode cX0_runsOf 56 = .ok (.ireturn, 1) := by decide +kernel
theorem dX0_runsOf_57 : decode cX0_runsOf 57 = .ok (.iconst 1, 1) := by decide +kernel
theorem dX0_runsOf_58 : decode cX0_runsOf 58 = .ok (.ireturn, 1) := by decide +kernel
theorem dX0_meets_0 : decode cX0_meets 0 = .ok (.aload_n 0, 1) := by decide +kernel
theorem dX0_meets_1 : decode cX0_meets 1 = .ok (.getfield 36, 3) := by decide +kernel
theorem dX0_meets_4 : decode cX0_meets 4 = .ok (.invokevirtual 77, 3) := by decide +kernel
theorem dX0_meets_7 : decode cX0_meets 7 = .ok (.ifCond .eq 7, 3) := by decide +kernel
theorem dX0_meets_10 : decode cX0_meets 10 = .ok (.iconst 1, 1) := by decide +kernel
theorem dX0_meets_11 : decode cX0_meets 11 = .ok (.goto 18, 3) := by decide +kernel
theorem dX0_meets_14 : decode cX0_meets 14 = .ok (.aload_n 0, 1) := by decide +kernel
theorem dX0_meets_15 : decode cX0_meets 15 = .ok (.getfield 36, 3) := by decide +kernel
theorem dX0_meets_18 : decode cX0_meets 18 = .ok (.iload_n 1, 1) := by decide +kernel
theorem dX0_meets_19 : decode cX0_meets 19 = .ok (.iload_n 2, 1) := by decide +kernel
theorem dX0_meets_20 : decode cX0_meets 20 = .ok (.iload_n 3, 1) := by decide +kernel
theorem dX0_meets_21 : decode cX0_meets 21 = .ok (.invokevirtual 83, 3) := by decide +kernel
theorem dX0_meets_24 : decode cX0_meets 24 = .ok (.iconst 0, 1) := by decide +kernel
theorem dX0_meets_25 : decode cX0_meets 25 = .ok (.iconst 1, 1) := by decide +kernel
theorem dX0_meets_26 : decode cX0_meets 26 = .ok (.invokestatic 67, 3) := by decide +kernel
theorem dX0_meets_29 : decode cX0_meets 29 = .ok (.ireturn, 1) := by decide +kernel
theorem dX0_deedsBy_0 : decode cX0_deedsBy 0 = .ok (.aload_n 0, 1) := by decide +kernel
theorem dX0_deedsBy_1 : decode cX0_deedsBy 1 = .ok (.getfield 40, 3) := by decide +kernel
theorem dX0_deedsBy_4 : decode cX0_deedsBy 4 = .ok (.invokevirtual 77, 3) := by decide +kernel
theorem dX0_deedsBy_7 : decode cX0_deedsBy 7 = .ok (.ifCond .eq 14, 3) := by decide +kernel
theorem dX0_deedsBy_10 : decode cX0_deedsBy 10 = .ok (.iload_n 1, 1) := by decide +kernel
theorem dX0_deedsBy_11 : decode cX0_deedsBy 11 = .ok (.iconst 5, 1) := by decide +kernel
theorem dX0_deedsBy_12 : decode cX0_deedsBy 12 = .ok (.if_icmp .le 7, 3) := by decide +kernel
theorem dX0_deedsBy_15 : decode cX0_deedsBy 15 = .ok (.iconst 1, 1) := by decide +kernel
theorem dX0_deedsBy_16 : decode cX0_deedsBy 16 = .ok (.goto 4, 3) := by decide +kernel
theorem dX0_deedsBy_19 : decode cX0_deedsBy 19 = .ok (.iconst 0, 1) := by decide +kernel
theorem dX0_deedsBy_20 : decode cX0_deedsBy 20 = .ok (.ireturn, 1) := by decide +kernel
theorem dX0_deedsBy_21 : decode cX0_deedsBy 21 = .ok (.aload_n 0, 1) := by decide +kernel
theorem dX0_deedsBy_22 : decode cX0_deedsBy 22 = .ok (.getfield 40, 3) := by decide +kernel
theorem dX0_deedsBy_25 : decode cX0_deedsBy 25 = .ok (.iload_n 1, 1) := by decide +kernel
theorem dX0_deedsBy_26 : decode cX0_deedsBy 26 = .ok (.iload_n 2, 1) := by decide +kernel
theorem dX0_deedsBy_27 : decode cX0_deedsBy 27 = .ok (.iload_n 3, 1) := by decide +kernel
theorem dX0_deedsBy_28 : decode cX0_deedsBy 28 = .ok (.invokevirtual 83, 3) := by decide +kernel
theorem dX0_deedsBy_31 : decode cX0_deedsBy 31 = .ok (.iconst 0, 1) := by decide +kernel
theorem dX0_deedsBy_32 : decode cX0_deedsBy 32 = .ok (.bipush 9, 2) := by decide +kernel
theorem dX0_deedsBy_34 : decode cX0_deedsBy 34 = .ok (.invokestatic 67, 3) := by decide +kernel
theorem dX0_deedsBy_37 : decode cX0_deedsBy 37 = .ok (.ireturn, 1) := by decide +kernel
theorem dX0_canTouch_0 : decode cX0_canTouch 0 = .ok (.aload_n 0, 1) := by decide +kernel
theorem dX0_canTouch_1 : decode cX0_canTouch 1 = .ok (.getfield 18, 3) := by decide +kernel
theorem dX0_canTouch_4 : decode cX0_canTouch 4 = .ok (.iload_n 1, 1) := by decide +kernel
theorem dX0_canTouch_5 : decode cX0_canTouch 5 = .ok (.iaload, 1) := by decide +kernel
theorem dX0_canTouch_6 : decode cX0_canTouch 6 = .ok (.aload_n 0, 1) := by decide +kernel
theorem dX0_canTouch_7 : decode cX0_canTouch 7 = .ok (.getfield 18, 3) := by decide +kernel
theorem dX0_canTouch_10 : decode cX0_canTouch 10 = .ok (.iload_n 2, 1) := by decide +kernel
theorem dX0_canTouch_11 : decode cX0_canTouch 11 = .ok (.iaload, 1) := by decide +kernel
theorem dX0_canTouch_12 : decode cX0_canTouch 12 = .ok (.if_icmp .ne 25, 3) := by decide +kernel
theorem dX0_canTouch_15 : decode cX0_canTouch 15 = .ok (.aload_n 0, 1) := by decide +kernel
theorem dX0_canTouch_16 : decode cX0_canTouch 16 = .ok (.getfield 24, 3) := by decide +kernel
theorem dX0_canTouch_19 : decode cX0_canTouch 19 = .ok (.iload_n 1, 1) := by decide +kernel
theorem dX0_canTouch_20 : decode cX0_canTouch 20 = .ok (.iaload, 1) := by decide +kernel
theorem dX0_canTouch_21 : decode cX0_canTouch 21 = .ok (.ifCond .ne 16, 3) := by decide +kernel
theorem dX0_canTouch_24 : decode cX0_canTouch 24 = .ok (.aload_n 0, 1) := by decide +kernel
theorem dX0_canTouch_25 : decode cX0_canTouch 25 = .ok (.getfield 24, 3) := by decide +kernel
theorem dX0_canTouch_28 : decode cX0_canTouch 28 = .ok (.iload_n 2, 1) := by decide +kernel
theorem dX0_canTouch_29 : decode cX0_canTouch 29 = .ok (.iaload, 1) := by decide +kernel
theorem dX0_canTouch_30 : decode cX0_canTouch 30 = .ok (.ifCond .ne 7, 3) := by decide +kernel
theorem dX0_canTouch_33 : decode cX0_canTouch 33 = .ok (.iconst 1, 1) := by decide +kernel
theorem dX0_canTouch_34 : decode cX0_canTouch 34 = .ok (.goto 4, 3) := by decide +kernel
theorem dX0_canTouch_37 : decode cX0_canTouch 37 = .ok (.iconst 0, 1) := by decide +kernel
theorem dX0_canTouch_38 : decode cX0_canTouch 38 = .ok (.ireturn, 1) := by decide +kernel
theorem dX0_handsOnAt_0 : decode cX0_handsOnAt 0 = .ok (.aload_n 0, 1) := by decide +kernel
theorem dX0_handsOnAt_1 : decode cX0_handsOnAt 1 = .ok (.iload_n 1, 1) := by decide +kernel
theorem dX0_handsOnAt_2 : decode cX0_handsOnAt 2 = .ok (.aload_n 0, 1) := by decide +kernel
theorem dX0_handsOnAt_3 : decode cX0_handsOnAt 3 = .ok (.getfield 47, 3) := by decide +kernel
theorem dX0_handsOnAt_6 : decode cX0_handsOnAt 6 = .ok (.bipush 24, 2) := by decide +kernel
theorem dX0_handsOnAt_8 : decode cX0_handsOnAt 8 = .ok (.irem, 1) := by decide +kernel
theorem dX0_handsOnAt_9 : decode cX0_handsOnAt 9 = .ok (.aload_n 0, 1) := by decide +kernel
theorem dX0_handsOnAt_10 : decode cX0_handsOnAt 10 = .ok (.iload_n 1, 1) := by decide +kernel
theorem dX0_handsOnAt_11 : decode cX0_handsOnAt 11 = .ok (.invokevirtual 86, 3) := by decide +kernel
theorem dX0_handsOnAt_14 : decode cX0_handsOnAt 14 = .ok (.invokevirtual 90, 3) := by decide +kernel
theorem dX0_handsOnAt_17 : decode cX0_handsOnAt 17 = .ok (.ifCond .eq 7, 3) := by decide +kernel
theorem dX0_handsOnAt_20 : decode cX0_handsOnAt 20 = .ok (.iconst 1, 1) := by decide +kernel
theorem dX0_handsOnAt_21 : decode cX0_handsOnAt 21 = .ok (.goto 4, 3) := by decide +kernel
theorem dX0_handsOnAt_24 : decode cX0_handsOnAt 24 = .ok (.iconst 0, 1) := by decide +kernel
theorem dX0_handsOnAt_25 : decode cX0_handsOnAt 25 = .ok (.ireturn, 1) := by decide +kernel
theorem dX0_whoAt_0 : decode cX0_whoAt 0 = .ok (.iconst 0, 1) := by decide +kernel
theorem dX0_whoAt_1 : decode cX0_whoAt 1 = .ok (.istore_n 2, 1) := by decide +kernel
theorem dX0_whoAt_2 : decode cX0_whoAt 2 = .ok (.iconst 0, 1) := by decide +kernel
theorem dX0_whoAt_3 : decode cX0_whoAt 3 = .ok (.istore_n 3, 1) := by decide +kernel
theorem dX0_whoAt_4 : decode cX0_whoAt 4 = .ok (.iload_n 3, 1) := by decide +kernel
theorem dX0_whoAt_5 : decode cX0_whoAt 5 = .ok (.aload_n 0, 1) := by decide +kernel
theorem dX0_whoAt_6 : decode cX0_whoAt 6 = .ok (.getfield 43, 3) := by decide +kernel
theorem dX0_whoAt_9 : decode cX0_whoAt 9 = .ok (.if_icmp .ge 29, 3) := by decide +kernel
theorem dX0_whoAt_12 : decode cX0_whoAt 12 = .ok (.iload_n 2, 1) := by decide +kernel
theorem dX0_whoAt_13 : decode cX0_whoAt 13 = .ok (.aload_n 0, 1) := by decide +kernel
theorem dX0_whoAt_14 : decode cX0_whoAt 14 = .ok (.getfield 18, 3) := by decide +kernel
theorem dX0_whoAt_17 : decode cX0_whoAt 17 = .ok (.iload_n 3, 1) := by decide +kernel
theorem dX0_whoAt_18 : decode cX0_whoAt 18 = .ok (.iaload, 1) := by decide +kernel
theorem dX0_whoAt_19 : decode cX0_whoAt 19 = .ok (.iload_n 1, 1) := by decide +kernel
theorem dX0_whoAt_20 : decode cX0_whoAt 20 = .ok (.if_icmp .ne 9, 3) := by decide +kernel
theorem dX0_whoAt_23 : decode cX0_whoAt 23 = .ok (.iconst 1, 1) := by decide +kernel
theorem dX0_whoAt_24 : decode cX0_whoAt 24 = .ok (.iload_n 3, 1) := by decide +kernel
theorem dX0_whoAt_25 : decode cX0_whoAt 25 = .ok (.ishl, 1) := by decide +kernel
theorem dX0_whoAt_26 : decode cX0_whoAt 26 = .ok (.goto 4, 3) := by decide +kernel
theorem dX0_whoAt_29 : decode cX0_whoAt 29 = .ok (.iconst 0, 1) := by decide +kernel
theorem dX0_whoAt_30 : decode cX0_whoAt 30 = .ok (.ior, 1) := by decide +kernel
theorem dX0_whoAt_31 : decode cX0_whoAt 31 = .ok (.istore_n 2, 1) := by decide +kernel
theorem dX0_whoAt_32 : decode cX0_whoAt 32 = .ok (.iinc 3 1, 3) := by decide +kernel
theorem dX0_whoAt_35 : decode cX0_whoAt 35 = .ok (.goto (-31), 3) := by decide +kernel
theorem dX0_whoAt_38 : decode cX0_whoAt 38 = .ok (.iload_n 2, 1) := by decide +kernel
theorem dX0_whoAt_39 : decode cX0_whoAt 39 = .ok (.ireturn, 1) := by decide +kernel
theorem dX0_whoFreeAt_0 : decode cX0_whoFreeAt 0 = .ok (.iconst 0, 1) := by decide +kernel
theorem dX0_whoFreeAt_1 : decode cX0_whoFreeAt 1 = .ok (.istore_n 2, 1) := by decide +kernel
theorem dX0_whoFreeAt_2 : decode cX0_whoFreeAt 2 = .ok (.iconst 0, 1) := by decide +kernel
theorem dX0_whoFreeAt_3 : decode cX0_whoFreeAt 3 = .ok (.istore_n 3, 1) := by decide +kernel
theorem dX0_whoFreeAt_4 : decode cX0_whoFreeAt 4 = .ok (.iload_n 3, 1) := by decide +kernel
theorem dX0_whoFreeAt_5 : decode cX0_whoFreeAt 5 = .ok (.aload_n 0, 1) := by decide +kernel
theorem dX0_whoFreeAt_6 : decode cX0_whoFreeAt 6 = .ok (.getfield 43, 3) := by decide +kernel
theorem dX0_whoFreeAt_9 : decode cX0_whoFreeAt 9 = .ok (.if_icmp .ge 38, 3) := by decide +kernel
theorem dX0_whoFreeAt_12 : decode cX0_whoFreeAt 12 = .ok (.iload_n 2, 1) := by decide +kernel
theorem dX0_whoFreeAt_13 : decode cX0_whoFreeAt 13 = .ok (.aload_n 0, 1) := by decide +kernel
theorem dX0_whoFreeAt_14 : decode cX0_whoFreeAt 14 = .ok (.getfield 18, 3) := by decide +kernel
theorem dX0_whoFreeAt_17 : decode cX0_whoFreeAt 17 = .ok (.iload_n 3, 1) := by decide +kernel
theorem dX0_whoFreeAt_18 : decode cX0_whoFreeAt 18 = .ok (.iaload, 1) := by decide +kernel
theorem dX0_whoFreeAt_19 : decode cX0_whoFreeAt 19 = .ok (.iload_n 1, 1) := by decide +kernel
theorem dX0_whoFreeAt_20 : decode cX0_whoFreeAt 20 = .ok (.if_icmp .ne 18, 3) := by decide +kernel
theorem dX0_whoFreeAt_23 : decode cX0_whoFreeAt 23 = .ok (.aload_n 0, 1) := by decide +kernel
theorem dX0_whoFreeAt_24 : decode cX0_whoFreeAt 24 = .ok (.getfield 21, 3) := by decide +kernel
theorem dX0_whoFreeAt_27 : decode cX0_whoFreeAt 27 = .ok (.iload_n 3, 1) := by decide +kernel
theorem dX0_whoFreeAt_28 : decode cX0_whoFreeAt 28 = .ok (.iaload, 1) := by decide +kernel
theorem dX0_whoFreeAt_29 : decode cX0_whoFreeAt 29 = .ok (.ifCond .le 9, 3) := by decide +kernel
theorem dX0_whoFreeAt_32 : decode cX0_whoFreeAt 32 = .ok (.iconst 1, 1) := by decide +kernel
theorem dX0_whoFreeAt_33 : decode cX0_whoFreeAt 33 = .ok (.iload_n 3, 1) := by decide +kernel
theorem dX0_whoFreeAt_34 : decode cX0_whoFreeAt 34 = .ok (.ishl, 1) := by decide +kernel
theorem dX0_whoFreeAt_35 : decode cX0_whoFreeAt 35 = .ok (.goto 4, 3) := by decide +kernel
theorem dX0_whoFreeAt_38 : decode cX0_whoFreeAt 38 = .ok (.iconst 0, 1) := by decide +kernel
theorem dX0_whoFreeAt_39 : decode cX0_whoFreeAt 39 = .ok (.ior, 1) := by decide +kernel
theorem dX0_whoFreeAt_40 : decode cX0_whoFreeAt 40 = .ok (.istore_n 2, 1) := by decide +kernel
theorem dX0_whoFreeAt_41 : decode cX0_whoFreeAt 41 = .ok (.iinc 3 1, 3) := by decide +kernel
theorem dX0_whoFreeAt_44 : decode cX0_whoFreeAt 44 = .ok (.goto (-40), 3) := by decide +kernel
theorem dX0_whoFreeAt_47 : decode cX0_whoFreeAt 47 = .ok (.iload_n 2, 1) := by decide +kernel
theorem dX0_whoFreeAt_48 : decode cX0_whoFreeAt 48 = .ok (.ireturn, 1) := by decide +kernel
theorem dX0_whoWearGloves_0 : decode cX0_whoWearGloves 0 = .ok (.iconst 0, 1) := by decide +kernel
theorem dX0_whoWearGloves_1 : decode cX0_whoWearGloves 1 = .ok (.istore_n 1, 1) := by decide +kernel
theorem dX0_whoWearGloves_2 : decode cX0_whoWearGloves 2 = .ok (.iconst 0, 1) := by decide +kernel
theorem dX0_whoWearGloves_3 : decode cX0_whoWearGloves 3 = .ok (.istore_n 2, 1) := by decide +kernel
theorem dX0_whoWearGloves_4 : decode cX0_whoWearGloves 4 = .ok (.iload_n 2, 1) := by decide +kernel
theorem dX0_whoWearGloves_5 : decode cX0_whoWearGloves 5 = .ok (.aload_n 0, 1) := by decide +kernel
theorem dX0_whoWearGloves_6 : decode cX0_whoWearGloves 6 = .ok (.getfield 43, 3) := by decide +kernel
theorem dX0_whoWearGloves_9 : decode cX0_whoWearGloves 9 = .ok (.if_icmp .ge 28, 3) := by decide +kernel
theorem dX0_whoWearGloves_12 : decode cX0_whoWearGloves 12 = .ok (.iload_n 1, 1) := by decide +kernel
theorem dX0_whoWearGloves_13 : decode cX0_whoWearGloves 13 = .ok (.aload_n 0, 1) := by decide +kernel
theorem dX0_whoWearGloves_14 : decode cX0_whoWearGloves 14 = .ok (.getfield 24, 3) := by decide +kernel
theorem dX0_whoWearGloves_17 : decode cX0_whoWearGloves 17 = .ok (.iload_n 2, 1) := by decide +kernel
theorem dX0_whoWearGloves_18 : decode cX0_whoWearGloves 18 = .ok (.iaload, 1) := by decide +kernel
theorem dX0_whoWearGloves_19 : decode cX0_whoWearGloves 19 = .ok (.ifCond .eq 9, 3) := by decide +kernel
theorem dX0_whoWearGloves_22 : decode cX0_whoWearGloves 22 = .ok (.iconst 1, 1) := by decide +kernel
theorem dX0_whoWearGloves_23 : decode cX0_whoWearGloves 23 = .ok (.iload_n 2, 1) := by decide +kernel
theorem dX0_whoWearGloves_24 : decode cX0_whoWearGloves 24 = .ok (.ishl, 1) := by decide +kernel
theorem dX0_whoWearGloves_25 : decode cX0_whoWearGloves 25 = .ok (.goto 4, 3) := by decide +kernel
theorem dX0_whoWearGloves_28 : decode cX0_whoWearGloves 28 = .ok (.iconst 0, 1) := by decide +kernel
theorem dX0_whoWearGloves_29 : decode cX0_whoWearGloves 29 = .ok (.ior, 1) := by decide +kernel
theorem dX0_whoWearGloves_30 : decode cX0_whoWearGloves 30 = .ok (.istore_n 1, 1) := by decide +kernel
theorem dX0_whoWearGloves_31 : decode cX0_whoWearGloves 31 = .ok (.iinc 2 1, 3) := by decide +kernel
theorem dX0_whoWearGloves_34 : decode cX0_whoWearGloves 34 = .ok (.goto (-30), 3) := by decide +kernel
theorem dX0_whoWearGloves_37 : decode cX0_whoWearGloves 37 = .ok (.iload_n 1, 1) := by decide +kernel
theorem dX0_whoWearGloves_38 : decode cX0_whoWearGloves 38 = .ok (.ireturn, 1) := by decide +kernel
theorem dX0_howManyAt_0 : decode cX0_howManyAt 0 = .ok (.aload_n 0, 1) := by decide +kernel
theorem dX0_howManyAt_1 : decode cX0_howManyAt 1 = .ok (.iload_n 1, 1) := by decide +kernel
theorem dX0_howManyAt_2 : decode cX0_howManyAt 2 = .ok (.invokevirtual 93, 3) := by decide +kernel
theorem dX0_howManyAt_5 : decode cX0_howManyAt 5 = .ok (.invokestatic 96, 3) := by decide +kernel
theorem dX0_howManyAt_8 : decode cX0_howManyAt 8 = .ok (.ireturn, 1) := by decide +kernel
theorem dX0_howManyFree_0 : decode cX0_howManyFree 0 = .ok (.iconst 0, 1) := by decide +kernel
theorem dX0_howManyFree_1 : decode cX0_howManyFree 1 = .ok (.istore_n 1, 1) := by decide +kernel
theorem dX0_howManyFree_2 : decode cX0_howManyFree 2 = .ok (.iconst 0, 1) := by decide +kernel
theorem dX0_howManyFree_3 : decode cX0_howManyFree 3 = .ok (.istore_n 2, 1) := by decide +kernel
theorem dX0_howManyFree_4 : decode cX0_howManyFree 4 = .ok (.iload_n 2, 1) := by decide +kernel
theorem dX0_howManyFree_5 : decode cX0_howManyFree 5 = .ok (.aload_n 0, 1) := by decide +kernel
theorem dX0_howManyFree_6 : decode cX0_howManyFree 6 = .ok (.getfield 43, 3) := by decide +kernel
theorem dX0_howManyFree_9 : decode cX0_howManyFree 9 = .ok (.if_icmp .ge 26, 3) := by decide +kernel
theorem dX0_howManyFree_12 : decode cX0_howManyFree 12 = .ok (.iload_n 1, 1) := by decide +kernel
theorem dX0_howManyFree_13 : decode cX0_howManyFree 13 = .ok (.aload_n 0, 1) := by decide +kernel
theorem dX0_howManyFree_14 : decode cX0_howManyFree 14 = .ok (.getfield 21, 3) := by decide +kernel
theorem dX0_howManyFree_17 : decode cX0_howManyFree 17 = .ok (.iload_n 2, 1) := by decide +kernel
theorem dX0_howManyFree_18 : decode cX0_howManyFree 18 = .ok (.iaload, 1) := by decide +kernel
theorem dX0_howManyFree_19 : decode cX0_howManyFree 19 = .ok (.ifCond .le 7, 3) := by decide +kernel
theorem dX0_howManyFree_22 : decode cX0_howManyFree 22 = .ok (.iconst 1, 1) := by decide +kernel
theorem dX0_howManyFree_23 : decode cX0_howManyFree 23 = .ok (.goto 4, 3) := by decide +kernel
theorem dX0_howManyFree_26 : decode cX0_howManyFree 26 = .ok (.iconst 0, 1) := by decide +kernel
theorem dX0_howManyFree_27 : decode cX0_howManyFree 27 = .ok (.iadd, 1) := by decide +kernel
theorem dX0_howManyFree_28 : decode cX0_howManyFree 28 = .ok (.istore_n 1, 1) := by decide +kernel
theorem dX0_howManyFree_29 : decode cX0_howManyFree 29 = .ok (.iinc 2 1, 3) := by decide +kernel
theorem dX0_howManyFree_32 : decode cX0_howManyFree 32 = .ok (.goto (-28), 3) := by decide +kernel
theorem dX0_howManyFree_35 : decode cX0_howManyFree 35 = .ok (.iload_n 1, 1) := by decide +kernel
theorem dX0_howManyFree_36 : decode cX0_howManyFree 36 = .ok (.ireturn, 1) := by decide +kernel
theorem dX0_freeTogether_0 : decode cX0_freeTogether 0 = .ok (.iconst 0, 1) := by decide +kernel
theorem dX0_freeTogether_1 : decode cX0_freeTogether 1 = .ok (.istore_n 1, 1) := by decide +kernel
theorem dX0_freeTogether_2 : decode cX0_freeTogether 2 = .ok (.iconst 0, 1) := by decide +kernel
theorem dX0_freeTogether_3 : decode cX0_freeTogether 3 = .ok (.istore_n 2, 1) := by decide +kernel
theorem dX0_freeTogether_4 : decode cX0_freeTogether 4 = .ok (.iload_n 2, 1) := by decide +kernel
theorem dX0_freeTogether_5 : decode cX0_freeTogether 5 = .ok (.aload_n 0, 1) := by decide +kernel
theorem dX0_freeTogether_6 : decode cX0_freeTogether 6 = .ok (.getfield 43, 3) := by decide +kernel
theorem dX0_freeTogether_9 : decode cX0_freeTogether 9 = .ok (.if_icmp .ge 18, 3) := by decide +kernel
theorem dX0_freeTogether_12 : decode cX0_freeTogether 12 = .ok (.iload_n 1, 1) := by decide +kernel
theorem dX0_freeTogether_13 : decode cX0_freeTogether 13 = .ok (.aload_n 0, 1) := by decide +kernel
theorem dX0_freeTogether_14 : decode cX0_freeTogether 14 = .ok (.getfield 21, 3) := by decide +kernel
theorem dX0_freeTogether_17 : decode cX0_freeTogether 17 = .ok (.iload_n 2, 1) := by decide +kernel
theorem dX0_freeTogether_18 : decode cX0_freeTogether 18 = .ok (.iaload, 1) := by decide +kernel
theorem dX0_freeTogether_19 : decode cX0_freeTogether 19 = .ok (.iadd, 1) := by decide +kernel
theorem dX0_freeTogether_20 : decode cX0_freeTogether 20 = .ok (.istore_n 1, 1) := by decide +kernel
theorem dX0_freeTogether_21 : decode cX0_freeTogether 21 = .ok (.iinc 2 1, 3) := by decide +kernel
theorem dX0_freeTogether_24 : decode cX0_freeTogether 24 = .ok (.goto (-20), 3) := by decide +kernel
theorem dX0_freeTogether_27 : decode cX0_freeTogether 27 = .ok (.iload_n 1, 1) := by decide +kernel
theorem dX0_freeTogether_28 : decode cX0_freeTogether 28 = .ok (.ireturn, 1) := by decide +kernel
theorem dX0_deedsTogether_0 : decode cX0_deedsTogether 0 = .ok (.iconst 0, 1) := by decide +kernel
theorem dX0_deedsTogether_1 : decode cX0_deedsTogether 1 = .ok (.istore_n 1, 1) := by decide +kernel
theorem dX0_deedsTogether_2 : decode cX0_deedsTogether 2 = .ok (.iconst 0, 1) := by decide +kernel
theorem dX0_deedsTogether_3 : decode cX0_deedsTogether 3 = .ok (.istore_n 2, 1) := by decide +kernel
theorem dX0_deedsTogether_4 : decode cX0_deedsTogether 4 = .ok (.iload_n 2, 1) := by decide +kernel
theorem dX0_deedsTogether_5 : decode cX0_deedsTogether 5 = .ok (.aload_n 0, 1) := by decide +kernel
theorem dX0_deedsTogether_6 : decode cX0_deedsTogether 6 = .ok (.getfield 43, 3) := by decide +kernel
theorem dX0_deedsTogether_9 : decode cX0_deedsTogether 9 = .ok (.if_icmp .ge 18, 3) := by decide +kernel
theorem dX0_deedsTogether_12 : decode cX0_deedsTogether 12 = .ok (.iload_n 1, 1) := by decide +kernel
theorem dX0_deedsTogether_13 : decode cX0_deedsTogether 13 = .ok (.aload_n 0, 1) := by decide +kernel
theorem dX0_deedsTogether_14 : decode cX0_deedsTogether 14 = .ok (.getfield 27, 3) := by decide +kernel
theorem dX0_deedsTogether_17 : decode cX0_deedsTogether 17 = .ok (.iload_n 2, 1) := by decide +kernel
theorem dX0_deedsTogether_18 : decode cX0_deedsTogether 18 = .ok (.iaload, 1) := by decide +kernel
theorem dX0_deedsTogether_19 : decode cX0_deedsTogether 19 = .ok (.iadd, 1) := by decide +kernel
theorem dX0_deedsTogether_20 : decode cX0_deedsTogether 20 = .ok (.istore_n 1, 1) := by decide +kernel
theorem dX0_deedsTogether_21 : decode cX0_deedsTogether 21 = .ok (.iinc 2 1, 3) := by decide +kernel
theorem dX0_deedsTogether_24 : decode cX0_deedsTogether 24 = .ok (.goto (-20), 3) := by decide +kernel
theorem dX0_deedsTogether_27 : decode cX0_deedsTogether 27 = .ok (.iload_n 1, 1) := by decide +kernel
theorem dX0_deedsTogether_28 : decode cX0_deedsTogether 28 = .ok (.ireturn, 1) := by decide +kernel
theorem dX0_putGlovesOn_0 : decode cX0_putGlovesOn 0 = .ok (.iconst 0, 1) := by decide +kernel
theorem dX0_putGlovesOn_1 : decode cX0_putGlovesOn 1 = .ok (.istore_n 2, 1) := by decide +kernel
theorem dX0_putGlovesOn_2 : decode cX0_putGlovesOn 2 = .ok (.iload_n 2, 1) := by decide +kernel
theorem dX0_putGlovesOn_3 : decode cX0_putGlovesOn 3 = .ok (.aload_n 0, 1) := by decide +kernel
theorem dX0_putGlovesOn_4 : decode cX0_putGlovesOn 4 = .ok (.getfield 43, 3) := by decide +kernel
theorem dX0_putGlovesOn_7 : decode cX0_putGlovesOn 7 = .ok (.if_icmp .ge 25, 3) := by decide +kernel
theorem dX0_putGlovesOn_10 : decode cX0_putGlovesOn 10 = .ok (.iload_n 1, 1) := by decide +kernel
theorem dX0_putGlovesOn_11 : decode cX0_putGlovesOn 11 = .ok (.iload_n 2, 1) := by decide +kernel
theorem dX0_putGlovesOn_12 : decode cX0_putGlovesOn 12 = .ok (.ishr, 1) := by decide +kernel
theorem dX0_putGlovesOn_13 : decode cX0_putGlovesOn 13 = .ok (.iconst 1, 1) := by decide +kernel
theorem dX0_putGlovesOn_14 : decode cX0_putGlovesOn 14 = .ok (.iand, 1) := by decide +kernel
theorem dX0_putGlovesOn_15 : decode cX0_putGlovesOn 15 = .ok (.iconst 1, 1) := by decide +kernel
theorem dX0_putGlovesOn_16 : decode cX0_putGlovesOn 16 = .ok (.if_icmp .ne 10, 3) := by decide +kernel
theorem dX0_putGlovesOn_19 : decode cX0_putGlovesOn 19 = .ok (.aload_n 0, 1) := by decide +kernel
theorem dX0_putGlovesOn_20 : decode cX0_putGlovesOn 20 = .ok (.getfield 24, 3) := by decide +kernel
theorem dX0_putGlovesOn_23 : decode cX0_putGlovesOn 23 = .ok (.iload_n 2, 1) := by decide +kernel
theorem dX0_putGlovesOn_24 : decode cX0_putGlovesOn 24 = .ok (.iconst 1, 1) := by decide +kernel
theorem dX0_putGlovesOn_25 : decode cX0_putGlovesOn 25 = .ok (.iastore, 1) := by decide +kernel
theorem dX0_putGlovesOn_26 : decode cX0_putGlovesOn 26 = .ok (.iinc 2 1, 3) := by decide +kernel
theorem dX0_putGlovesOn_29 : decode cX0_putGlovesOn 29 = .ok (.goto (-27), 3) := by decide +kernel
theorem dX0_putGlovesOn_32 : decode cX0_putGlovesOn 32 = .ok (.return_, 1) := by decide +kernel
theorem dX0_leaveFreeOnly_0 : decode cX0_leaveFreeOnly 0 = .ok (.iconst 0, 1) := by decide +kernel
theorem dX0_leaveFreeOnly_1 : decode cX0_leaveFreeOnly 1 = .ok (.istore_n 2, 1) := by decide +kernel
theorem dX0_leaveFreeOnly_2 : decode cX0_leaveFreeOnly 2 = .ok (.iload_n 2, 1) := by decide +kernel
theorem dX0_leaveFreeOnly_3 : decode cX0_leaveFreeOnly 3 = .ok (.aload_n 0, 1) := by decide +kernel
theorem dX0_leaveFreeOnly_4 : decode cX0_leaveFreeOnly 4 = .ok (.getfield 43, 3) := by decide +kernel
theorem dX0_leaveFreeOnly_7 : decode cX0_leaveFreeOnly 7 = .ok (.if_icmp .ge 21, 3) := by decide +kernel
theorem dX0_leaveFreeOnly_10 : decode cX0_leaveFreeOnly 10 = .ok (.iload_n 2, 1) := by decide +kernel
theorem dX0_leaveFreeOnly_11 : decode cX0_leaveFreeOnly 11 = .ok (.iload_n 1, 1) := by decide +kernel
theorem dX0_leaveFreeOnly_12 : decode cX0_leaveFreeOnly 12 = .ok (.if_icmp .eq 10, 3) := by decide +kernel
theorem dX0_leaveFreeOnly_15 : decode cX0_leaveFreeOnly 15 = .ok (.aload_n 0, 1) := by decide +kernel
theorem dX0_leaveFreeOnly_16 : decode cX0_leaveFreeOnly 16 = .ok (.getfield 21, 3) := by decide +kernel
theorem dX0_leaveFreeOnly_19 : decode cX0_leaveFreeOnly 19 = .ok (.iload_n 2, 1) := by decide +kernel
theorem dX0_leaveFreeOnly_20 : decode cX0_leaveFreeOnly 20 = .ok (.iconst 0, 1) := by decide +kernel
theorem dX0_leaveFreeOnly_21 : decode cX0_leaveFreeOnly 21 = .ok (.iastore, 1) := by decide +kernel
theorem dX0_leaveFreeOnly_22 : decode cX0_leaveFreeOnly 22 = .ok (.iinc 2 1, 3) := by decide +kernel
theorem dX0_leaveFreeOnly_25 : decode cX0_leaveFreeOnly 25 = .ok (.goto (-23), 3) := by decide +kernel
theorem dX0_leaveFreeOnly_28 : decode cX0_leaveFreeOnly 28 = .ok (.return_, 1) := by decide +kernel
theorem dX0_pass_0 : decode cX0_pass 0 = .ok (.iconst 0, 1) := by decide +kernel
theorem dX0_pass_1 : decode cX0_pass 1 = .ok (.istore_n 2, 1) := by decide +kernel
theorem dX0_pass_2 : decode cX0_pass 2 = .ok (.iload_n 2, 1) := by decide +kernel
theorem dX0_pass_3 : decode cX0_pass 3 = .ok (.iload_n 1, 1) := by decide +kernel
theorem dX0_pass_4 : decode cX0_pass 4 = .ok (.if_icmp .ge 39, 3) := by decide +kernel
theorem dX0_pass_7 : decode cX0_pass 7 = .ok (.aload_n 0, 1) := by decide +kernel
theorem dX0_pass_8 : decode cX0_pass 8 = .ok (.invokevirtual 101, 3) := by decide +kernel
theorem dX0_pass_11 : decode cX0_pass 11 = .ok (.aload_n 0, 1) := by decide +kernel
theorem dX0_pass_12 : decode cX0_pass 12 = .ok (.invokevirtual 104, 3) := by decide +kernel
theorem dX0_pass_15 : decode cX0_pass 15 = .ok (.aload_n 0, 1) := by decide +kernel
theorem dX0_pass_16 : decode cX0_pass 16 = .ok (.invokevirtual 107, 3) := by decide +kernel
theorem dX0_pass_19 : decode cX0_pass 19 = .ok (.aload_n 0, 1) := by decide +kernel
theorem dX0_pass_20 : decode cX0_pass 20 = .ok (.invokevirtual 110, 3) := by decide +kernel
theorem dX0_pass_23 : decode cX0_pass 23 = .ok (.aload_n 0, 1) := by decide +kernel
theorem dX0_pass_24 : decode cX0_pass 24 = .ok (.invokevirtual 113, 3) := by decide +kernel
theorem dX0_pass_27 : decode cX0_pass 27 = .ok (.aload_n 0, 1) := by decide +kernel
theorem dX0_pass_28 : decode cX0_pass 28 = .ok (.dup, 1) := by decide +kernel
theorem dX0_pass_29 : decode cX0_pass 29 = .ok (.getfield 47, 3) := by decide +kernel
theorem dX0_pass_32 : decode cX0_pass 32 = .ok (.iconst 1, 1) := by decide +kernel
theorem dX0_pass_33 : decode cX0_pass 33 = .ok (.iadd, 1) := by decide +kernel
theorem dX0_pass_34 : decode cX0_pass 34 = .ok (.putfield 47, 3) := by decide +kernel
theorem dX0_pass_37 : decode cX0_pass 37 = .ok (.iinc 2 1, 3) := by decide +kernel
theorem dX0_pass_40 : decode cX0_pass 40 = .ok (.goto (-38), 3) := by decide +kernel
theorem dX0_pass_43 : decode cX0_pass 43 = .ok (.return_, 1) := by decide +kernel
theorem dX0_haveOwn_0 : decode cX0_haveOwn 0 = .ok (.iconst 0, 1) := by decide +kernel
theorem dX0_haveOwn_1 : decode cX0_haveOwn 1 = .ok (.istore_n 1, 1) := by decide +kernel
theorem dX0_haveOwn_2 : decode cX0_haveOwn 2 = .ok (.iload_n 1, 1) := by decide +kernel
theorem dX0_haveOwn_3 : decode cX0_haveOwn 3 = .ok (.aload_n 0, 1) := by decide +kernel
theorem dX0_haveOwn_4 : decode cX0_haveOwn 4 = .ok (.getfield 43, 3) := by decide +kernel
theorem dX0_haveOwn_7 : decode cX0_haveOwn 7 = .ok (.if_icmp .ge 29, 3) := by decide +kernel
theorem dX0_haveOwn_10 : decode cX0_haveOwn 10 = .ok (.aload_n 0, 1) := by decide +kernel
theorem dX0_haveOwn_11 : decode cX0_haveOwn 11 = .ok (.getfield 21, 3) := by decide +kernel
theorem dX0_haveOwn_14 : decode cX0_haveOwn 14 = .ok (.iload_n 1, 1) := by decide +kernel
theorem dX0_haveOwn_15 : decode cX0_haveOwn 15 = .ok (.aload_n 0, 1) := by decide +kernel
theorem dX0_haveOwn_16 : decode cX0_haveOwn 16 = .ok (.getfield 21, 3) := by decide +kernel
theorem dX0_haveOwn_19 : decode cX0_haveOwn 19 = .ok (.iload_n 1, 1) := by decide +kernel
theorem dX0_haveOwn_20 : decode cX0_haveOwn 20 = .ok (.iaload, 1) := by decide +kernel
theorem dX0_haveOwn_21 : decode cX0_haveOwn 21 = .ok (.aload_n 0, 1) := by decide +kernel
theorem dX0_haveOwn_22 : decode cX0_haveOwn 22 = .ok (.iload_n 1, 1) := by decide +kernel
theorem dX0_haveOwn_23 : decode cX0_haveOwn 23 = .ok (.invokevirtual 116, 3) := by decide +kernel
theorem dX0_haveOwn_26 : decode cX0_haveOwn 26 = .ok (.invokestatic 119, 3) := by decide +kernel
theorem dX0_haveOwn_29 : decode cX0_haveOwn 29 = .ok (.iastore, 1) := by decide +kernel
theorem dX0_haveOwn_30 : decode cX0_haveOwn 30 = .ok (.iinc 1 1, 3) := by decide +kernel
theorem dX0_haveOwn_33 : decode cX0_haveOwn 33 = .ok (.goto (-31), 3) := by decide +kernel
theorem dX0_haveOwn_36 : decode cX0_haveOwn 36 = .ok (.return_, 1) := by decide +kernel
theorem dX0_handOn_0 : decode cX0_handOn 0 = .ok (.aload_n 0, 1) := by decide +kernel
theorem dX0_handOn_1 : decode cX0_handOn 1 = .ok (.invokevirtual 122, 3) := by decide +kernel
theorem dX0_handOn_4 : decode cX0_handOn 4 = .ok (.iconst 0, 1) := by decide +kernel
theorem dX0_handOn_5 : decode cX0_handOn 5 = .ok (.istore_n 1, 1) := by decide +kernel
theorem dX0_handOn_6 : decode cX0_handOn 6 = .ok (.iload_n 1, 1) := by decide +kernel
theorem dX0_handOn_7 : decode cX0_handOn 7 = .ok (.aload_n 0, 1) := by decide +kernel
theorem dX0_handOn_8 : decode cX0_handOn 8 = .ok (.getfield 43, 3) := by decide +kernel
theorem dX0_handOn_11 : decode cX0_handOn 11 = .ok (.if_icmp .ge 20, 3) := by decide +kernel
theorem dX0_handOn_14 : decode cX0_handOn 14 = .ok (.aload_n 0, 1) := by decide +kernel
theorem dX0_handOn_15 : decode cX0_handOn 15 = .ok (.getfield 30, 3) := by decide +kernel
theorem dX0_handOn_18 : decode cX0_handOn 18 = .ok (.iload_n 1, 1) := by decide +kernel
theorem dX0_handOn_19 : decode cX0_handOn 19 = .ok (.aload_n 0, 1) := by decide +kernel
theorem dX0_handOn_20 : decode cX0_handOn 20 = .ok (.iload_n 1, 1) := by decide +kernel
theorem dX0_handOn_21 : decode cX0_handOn 21 = .ok (.invokevirtual 125, 3) := by decide +kernel
theorem dX0_handOn_24 : decode cX0_handOn 24 = .ok (.iastore, 1) := by decide +kernel
theorem dX0_handOn_25 : decode cX0_handOn 25 = .ok (.iinc 1 1, 3) := by decide +kernel
theorem dX0_handOn_28 : decode cX0_handOn 28 = .ok (.goto (-22), 3) := by decide +kernel
theorem dX0_handOn_31 : decode cX0_handOn 31 = .ok (.iconst 0, 1) := by decide +kernel
theorem dX0_handOn_32 : decode cX0_handOn 32 = .ok (.istore_n 1, 1) := by decide +kernel
theorem dX0_handOn_33 : decode cX0_handOn 33 = .ok (.iload_n 1, 1) := by decide +kernel
theorem dX0_handOn_34 : decode cX0_handOn 34 = .ok (.bipush 8, 2) := by decide +kernel
theorem dX0_handOn_36 : decode cX0_handOn 36 = .ok (.if_icmp .ge 42, 3) := by decide +kernel
theorem dX0_handOn_39 : decode cX0_handOn 39 = .ok (.aload_n 0, 1) := by decide +kernel
theorem dX0_handOn_40 : decode cX0_handOn 40 = .ok (.getfield 33, 3) := by decide +kernel
theorem dX0_handOn_43 : decode cX0_handOn 43 = .ok (.iload_n 1, 1) := by decide +kernel
theorem dX0_handOn_44 : decode cX0_handOn 44 = .ok (.iaload, 1) := by decide +kernel
theorem dX0_handOn_45 : decode cX0_handOn 45 = .ok (.istore_n 2, 1) := by decide +kernel
theorem dX0_handOn_46 : decode cX0_handOn 46 = .ok (.iload_n 2, 1) := by decide +kernel
theorem dX0_handOn_47 : decode cX0_handOn 47 = .ok (.iconst 1, 1) := by decide +kernel
theorem dX0_handOn_48 : decode cX0_handOn 48 = .ok (.if_icmp .le 24, 3) := by decide +kernel
theorem dX0_handOn_51 : decode cX0_handOn 51 = .ok (.aload_n 0, 1) := by decide +kernel
theorem dX0_handOn_52 : decode cX0_handOn 52 = .ok (.iload_n 1, 1) := by decide +kernel
theorem dX0_handOn_53 : decode cX0_handOn 53 = .ok (.aload_n 0, 1) := by decide +kernel
theorem dX0_handOn_54 : decode cX0_handOn 54 = .ok (.getfield 47, 3) := by decide +kernel
theorem dX0_handOn_57 : decode cX0_handOn 57 = .ok (.bipush 24, 2) := by decide +kernel
theorem dX0_handOn_59 : decode cX0_handOn 59 = .ok (.irem, 1) := by decide +kernel
theorem dX0_handOn_60 : decode cX0_handOn 60 = .ok (.iload_n 2, 1) := by decide +kernel
theorem dX0_handOn_61 : decode cX0_handOn 61 = .ok (.invokevirtual 90, 3) := by decide +kernel
theorem dX0_handOn_64 : decode cX0_handOn 64 = .ok (.ifCond .eq 8, 3) := by decide +kernel
theorem dX0_handOn_67 : decode cX0_handOn 67 = .ok (.aload_n 0, 1) := by decide +kernel
theorem dX0_handOn_68 : decode cX0_handOn 68 = .ok (.iload_n 1, 1) := by decide +kernel
theorem dX0_handOn_69 : decode cX0_handOn 69 = .ok (.invokevirtual 128, 3) := by decide +kernel
theorem dX0_handOn_72 : decode cX0_handOn 72 = .ok (.iinc 1 1, 3) := by decide +kernel
theorem dX0_handOn_75 : decode cX0_handOn 75 = .ok (.goto (-42), 3) := by decide +kernel
theorem dX0_handOn_78 : decode cX0_handOn 78 = .ok (.return_, 1) := by decide +kernel
theorem dX0_countCrowds_0 : decode cX0_countCrowds 0 = .ok (.iconst 0, 1) := by decide +kernel
theorem dX0_countCrowds_1 : decode cX0_countCrowds 1 = .ok (.istore_n 1, 1) := by decide +kernel
theorem dX0_countCrowds_2 : decode cX0_countCrowds 2 = .ok (.iload_n 1, 1) := by decide +kernel
theorem dX0_countCrowds_3 : decode cX0_countCrowds 3 = .ok (.bipush 8, 2) := by decide +kernel
theorem dX0_countCrowds_5 : decode cX0_countCrowds 5 = .ok (.if_icmp .ge 16, 3) := by decide +kernel
theorem dX0_countCrowds_8 : decode cX0_countCrowds 8 = .ok (.aload_n 0, 1) := by decide +kernel
theorem dX0_countCrowds_9 : decode cX0_countCrowds 9 = .ok (.getfield 33, 3) := by decide +kernel
theorem dX0_countCrowds_12 : decode cX0_countCrowds 12 = .ok (.iload_n 1, 1) := by decide +kernel
theorem dX0_countCrowds_13 : decode cX0_countCrowds 13 = .ok (.iconst 0, 1) := by decide +kernel
theorem dX0_countCrowds_14 : decode cX0_countCrowds 14 = .ok (.iastore, 1) := by decide +kernel
theorem dX0_countCrowds_15 : decode cX0_countCrowds 15 = .ok (.iinc 1 1, 3) := by decide +kernel
theorem dX0_countCrowds_18 : decode cX0_countCrowds 18 = .ok (.goto (-16), 3) := by decide +kernel
theorem dX0_countCrowds_21 : decode cX0_countCrowds 21 = .ok (.iconst 0, 1) := by decide +kernel
theorem dX0_countCrowds_22 : decode cX0_countCrowds 22 = .ok (.istore_n 1, 1) := by decide +kernel
theorem dX0_countCrowds_23 : decode cX0_countCrowds 23 = .ok (.iload_n 1, 1) := by decide +kernel
theorem dX0_countCrowds_24 : decode cX0_countCrowds 24 = .ok (.aload_n 0, 1) := by decide +kernel
theorem dX0_countCrowds_25 : decode cX0_countCrowds 25 = .ok (.getfield 43, 3) := by decide +kernel
theorem dX0_countCrowds_28 : decode cX0_countCrowds 28 = .ok (.if_icmp .ge 36, 3) := by decide +kernel
theorem dX0_countCrowds_31 : decode cX0_countCrowds 31 = .ok (.aload_n 0, 1) := by decide +kernel
theorem dX0_countCrowds_32 : decode cX0_countCrowds 32 = .ok (.getfield 18, 3) := by decide +kernel
theorem dX0_countCrowds_35 : decode cX0_countCrowds 35 = .ok (.iload_n 1, 1) := by decide +kernel
theorem dX0_countCrowds_36 : decode cX0_countCrowds 36 = .ok (.iaload, 1) := by decide +kernel
theorem dX0_countCrowds_37 : decode cX0_countCrowds 37 = .ok (.invokestatic 132, 3) := by decide +kernel
theorem dX0_countCrowds_40 : decode cX0_countCrowds 40 = .ok (.ifCond .eq 18, 3) := by decide +kernel
theorem dX0_countCrowds_43 : decode cX0_countCrowds 43 = .ok (.aload_n 0, 1) := by decide +kernel
theorem dX0_countCrowds_44 : decode cX0_countCrowds 44 = .ok (.getfield 33, 3) := by decide +kernel
theorem dX0_countCrowds_47 : decode cX0_countCrowds 47 = .ok (.aload_n 0, 1) := by decide +kernel
theorem dX0_countCrowds_48 : decode cX0_countCrowds 48 = .ok (.getfield 18, 3) := by decide +kernel
theorem dX0_countCrowds_51 : decode cX0_countCrowds 51 = .ok (.iload_n 1, 1) := by decide +kernel
theorem dX0_countCrowds_52 : decode cX0_countCrowds 52 = .ok (.iaload, 1) := by decide +kernel
theorem dX0_countCrowds_53 : decode cX0_countCrowds 53 = .ok (.dup2, 1) := by decide +kernel
theorem dX0_countCrowds_54 : decode cX0_countCrowds 54 = .ok (.iaload, 1) := by decide +kernel
theorem dX0_countCrowds_55 : decode cX0_countCrowds 55 = .ok (.iconst 1, 1) := by decide +kernel
theorem dX0_countCrowds_56 : decode cX0_countCrowds 56 = .ok (.iadd, 1) := by decide +kernel
theorem dX0_countCrowds_57 : decode cX0_countCrowds 57 = .ok (.iastore, 1) := by decide +kernel
theorem dX0_countCrowds_58 : decode cX0_countCrowds 58 = .ok (.iinc 1 1, 3) := by decide +kernel
theorem dX0_countCrowds_61 : decode cX0_countCrowds 61 = .ok (.goto (-38), 3) := by decide +kernel
theorem dX0_countCrowds_64 : decode cX0_countCrowds 64 = .ok (.return_, 1) := by decide +kernel
theorem dX0_handOnAt_0 : decode cX0_handOnAt 0 = .ok (.iconst 0, 1) := by decide +kernel
theorem dX0_handOnAt_1 : decode cX0_handOnAt 1 = .ok (.istore_n 2, 1) := by decide +kernel
theorem dX0_handOnAt_2 : decode cX0_handOnAt 2 = .ok (.iload_n 2, 1) := by decide +kernel
theorem dX0_handOnAt_3 : decode cX0_handOnAt 3 = .ok (.aload_n 0, 1) := by decide +kernel
theorem dX0_handOnAt_4 : decode cX0_handOnAt 4 = .ok (.getfield 43, 3) := by decide +kernel
theorem dX0_handOnAt_7 : decode cX0_handOnAt 7 = .ok (.if_icmp .ge 70, 3) := by decide +kernel
theorem dX0_handOnAt_10 : decode cX0_handOnAt 10 = .ok (.iconst 0, 1) := by decide +kernel
theorem dX0_handOnAt_11 : decode cX0_handOnAt 11 = .ok (.istore_n 3, 1) := by decide +kernel
theorem dX0_handOnAt_12 : decode cX0_handOnAt 12 = .ok (.aload_n 0, 1) := by decide +kernel
theorem dX0_handOnAt_13 : decode cX0_handOnAt 13 = .ok (.getfield 18, 3) := by decide +kernel
theorem dX0_handOnAt_16 : decode cX0_handOnAt 16 = .ok (.iload_n 2, 1) := by decide +kernel
theorem dX0_handOnAt_17 : decode cX0_handOnAt 17 = .ok (.iaload, 1) := by decide +kernel
theorem dX0_handOnAt_18 : decode cX0_handOnAt 18 = .ok (.iload_n 1, 1) := by decide +kernel
theorem dX0_handOnAt_19 : decode cX0_handOnAt 19 = .ok (.if_icmp .ne 52, 3) := by decide +kernel
theorem dX0_handOnAt_22 : decode cX0_handOnAt 22 = .ok (.iload_n 3, 1) := by decide +kernel
theorem dX0_handOnAt_23 : decode cX0_handOnAt 23 = .ok (.aload_n 0, 1) := by decide +kernel
theorem dX0_handOnAt_24 : decode cX0_handOnAt 24 = .ok (.getfield 43, 3) := by decide +kernel
theorem dX0_handOnAt_27 : decode cX0_handOnAt 27 = .ok (.if_icmp .ge 44, 3) := by decide +kernel
theorem dX0_handOnAt_30 : decode cX0_handOnAt 30 = .ok (.iload_n 2, 1) := by decide +kernel
theorem dX0_handOnAt_31 : decode cX0_handOnAt 31 = .ok (.iload_n 3, 1) := by decide +kernel
theorem dX0_handOnAt_32 : decode cX0_handOnAt 32 = .ok (.if_icmp .eq 33, 3) := by decide +kernel
theorem dX0_handOnAt_35 : decode cX0_handOnAt 35 = .ok (.aload_n 0, 1) := by decide +kernel
theorem dX0_handOnAt_36 : decode cX0_handOnAt 36 = .ok (.iload_n 2, 1) := by decide +kernel
theorem dX0_handOnAt_37 : decode cX0_handOnAt 37 = .ok (.iload_n 3, 1) := by decide +kernel
theorem dX0_handOnAt_38 : decode cX0_handOnAt 38 = .ok (.invokevirtual 136, 3) := by decide +kernel
theorem dX0_handOnAt_41 : decode cX0_handOnAt 41 = .ok (.ifCond .eq 24, 3) := by decide +kernel
theorem dX0_handOnAt_44 : decode cX0_handOnAt 44 = .ok (.aload_n 0, 1) := by decide +kernel
theorem dX0_handOnAt_45 : decode cX0_handOnAt 45 = .ok (.getfield 21, 3) := by decide +kernel
theorem dX0_handOnAt_48 : decode cX0_handOnAt 48 = .ok (.iload_n 2, 1) := by decide +kernel
theorem dX0_handOnAt_49 : decode cX0_handOnAt 49 = .ok (.aload_n 0, 1) := by decide +kernel
theorem dX0_handOnAt_50 : decode cX0_handOnAt 50 = .ok (.getfield 21, 3) := by decide +kernel
theorem dX0_handOnAt_53 : decode cX0_handOnAt 53 = .ok (.iload_n 2, 1) := by decide +kernel
theorem dX0_handOnAt_54 : decode cX0_handOnAt 54 = .ok (.iaload, 1) := by decide +kernel
theorem dX0_handOnAt_55 : decode cX0_handOnAt 55 = .ok (.aload_n 0, 1) := by decide +kernel
theorem dX0_handOnAt_56 : decode cX0_handOnAt 56 = .ok (.getfield 30, 3) := by decide +kernel
theorem dX0_handOnAt_59 : decode cX0_handOnAt 59 = .ok (.iload_n 3, 1) := by decide +kernel
theorem dX0_handOnAt_60 : decode cX0_handOnAt 60 = .ok (.iaload, 1) := by decide +kernel
theorem dX0_handOnAt_61 : decode cX0_handOnAt 61 = .ok (.invokestatic 119, 3) := by decide +kernel
theorem dX0_handOnAt_64 : decode cX0_handOnAt 64 = .ok (.iastore, 1) := by decide +kernel
theorem dX0_handOnAt_65 : decode cX0_handOnAt 65 = .ok (.iinc 3 1, 3) := by decide +kernel
theorem dX0_handOnAt_68 : decode cX0_handOnAt 68 = .ok (.goto (-56), 3) := by decide +kernel
theorem dX0_handOnAt_71 : decode cX0_handOnAt 71 = .ok (.iinc 2 1, 3) := by decide +kernel
theorem dX0_handOnAt_74 : decode cX0_handOnAt 74 = .ok (.goto (-72), 3) := by decide +kernel
theorem dX0_handOnAt_77 : decode cX0_handOnAt 77 = .ok (.return_, 1) := by decide +kernel
theorem dX0_doDeeds_0 : decode cX0_doDeeds 0 = .ok (.iconst 0, 1) := by decide +kernel
theorem dX0_doDeeds_1 : decode cX0_doDeeds 1 = .ok (.istore_n 1, 1) := by decide +kernel
theorem dX0_doDeeds_2 : decode cX0_doDeeds 2 = .ok (.iload_n 1, 1) := by decide +kernel
theorem dX0_doDeeds_3 : decode cX0_doDeeds 3 = .ok (.aload_n 0, 1) := by decide +kernel
theorem dX0_doDeeds_4 : decode cX0_doDeeds 4 = .ok (.getfield 43, 3) := by decide +kernel
theorem dX0_doDeeds_7 : decode cX0_doDeeds 7 = .ok (.if_icmp .ge 61, 3) := by decide +kernel
theorem dX0_doDeeds_10 : decode cX0_doDeeds 10 = .ok (.aload_n 0, 1) := by decide +kernel
theorem dX0_doDeeds_11 : decode cX0_doDeeds 11 = .ok (.getfield 21, 3) := by decide +kernel
theorem dX0_doDeeds_14 : decode cX0_doDeeds 14 = .ok (.iload_n 1, 1) := by decide +kernel
theorem dX0_doDeeds_15 : decode cX0_doDeeds 15 = .ok (.iaload, 1) := by decide +kernel
theorem dX0_doDeeds_16 : decode cX0_doDeeds 16 = .ok (.ifCond .le 46, 3) := by decide +kernel
theorem dX0_doDeeds_19 : decode cX0_doDeeds 19 = .ok (.aload_n 0, 1) := by decide +kernel
theorem dX0_doDeeds_20 : decode cX0_doDeeds 20 = .ok (.aload_n 0, 1) := by decide +kernel
theorem dX0_doDeeds_21 : decode cX0_doDeeds 21 = .ok (.getfield 21, 3) := by decide +kernel
theorem dX0_doDeeds_24 : decode cX0_doDeeds 24 = .ok (.iload_n 1, 1) := by decide +kernel
theorem dX0_doDeeds_25 : decode cX0_doDeeds 25 = .ok (.iaload, 1) := by decide +kernel
theorem dX0_doDeeds_26 : decode cX0_doDeeds 26 = .ok (.aload_n 0, 1) := by decide +kernel
theorem dX0_doDeeds_27 : decode cX0_doDeeds 27 = .ok (.getfield 15, 3) := by decide +kernel
theorem dX0_doDeeds_30 : decode cX0_doDeeds 30 = .ok (.iload_n 1, 1) := by decide +kernel
theorem dX0_doDeeds_31 : decode cX0_doDeeds 31 = .ok (.iaload, 1) := by decide +kernel
theorem dX0_doDeeds_32 : decode cX0_doDeeds 32 = .ok (.aload_n 0, 1) := by decide +kernel
theorem dX0_doDeeds_33 : decode cX0_doDeeds 33 = .ok (.getfield 18, 3) := by decide +kernel
theorem dX0_doDeeds_36 : decode cX0_doDeeds 36 = .ok (.iload_n 1, 1) := by decide +kernel
theorem dX0_doDeeds_37 : decode cX0_doDeeds 37 = .ok (.iaload, 1) := by decide +kernel
theorem dX0_doDeeds_38 : decode cX0_doDeeds 38 = .ok (.invokevirtual 139, 3) := by decide +kernel
theorem dX0_doDeeds_41 : decode cX0_doDeeds 41 = .ok (.istore_n 2, 1) := by decide +kernel
theorem dX0_doDeeds_42 : decode cX0_doDeeds 42 = .ok (.aload_n 0, 1) := by decide +kernel
theorem dX0_doDeeds_43 : decode cX0_doDeeds 43 = .ok (.getfield 27, 3) := by decide +kernel
theorem dX0_doDeeds_46 : decode cX0_doDeeds 46 = .ok (.iload_n 1, 1) := by decide +kernel
theorem dX0_doDeeds_47 : decode cX0_doDeeds 47 = .ok (.sipush 9999, 3) := by decide +kernel
theorem dX0_doDeeds_50 : decode cX0_doDeeds 50 = .ok (.aload_n 0, 1) := by decide +kernel
theorem dX0_doDeeds_51 : decode cX0_doDeeds 51 = .ok (.getfield 27, 3) := by decide +kernel
theorem dX0_doDeeds_54 : decode cX0_doDeeds 54 = .ok (.iload_n 1, 1) := by decide +kernel
theorem dX0_doDeeds_55 : decode cX0_doDeeds 55 = .ok (.iaload, 1) := by decide +kernel
theorem dX0_doDeeds_56 : decode cX0_doDeeds 56 = .ok (.iload_n 2, 1) := by decide +kernel
theorem dX0_doDeeds_57 : decode cX0_doDeeds 57 = .ok (.iadd, 1) := by decide +kernel
theorem dX0_doDeeds_58 : decode cX0_doDeeds 58 = .ok (.invokestatic 71, 3) := by decide +kernel
theorem dX0_doDeeds_61 : decode cX0_doDeeds 61 = .ok (.iastore, 1) := by decide +kernel
theorem dX0_doDeeds_62 : decode cX0_doDeeds 62 = .ok (.iinc 1 1, 3) := by decide +kernel
theorem dX0_doDeeds_65 : decode cX0_doDeeds 65 = .ok (.goto (-63), 3) := by decide +kernel
theorem dX0_doDeeds_68 : decode cX0_doDeeds 68 = .ok (.return_, 1) := by decide +kernel
theorem dX0_runOut_0 : decode cX0_runOut 0 = .ok (.iconst 0, 1) := by decide +kernel
theorem dX0_runOut_1 : decode cX0_runOut 1 = .ok (.istore_n 1, 1) := by decide +kernel
theorem dX0_runOut_2 : decode cX0_runOut 2 = .ok (.iload_n 1, 1) := by decide +kernel
theorem dX0_runOut_3 : decode cX0_runOut 3 = .ok (.aload_n 0, 1) := by decide +kernel
theorem dX0_runOut_4 : decode cX0_runOut 4 = .ok (.getfield 43, 3) := by decide +kernel
theorem dX0_runOut_7 : decode cX0_runOut 7 = .ok (.if_icmp .ge 31, 3) := by decide +kernel
theorem dX0_runOut_10 : decode cX0_runOut 10 = .ok (.aload_n 0, 1) := by decide +kernel
theorem dX0_runOut_11 : decode cX0_runOut 11 = .ok (.getfield 21, 3) := by decide +kernel
theorem dX0_runOut_14 : decode cX0_runOut 14 = .ok (.iload_n 1, 1) := by decide +kernel
theorem dX0_runOut_15 : decode cX0_runOut 15 = .ok (.iconst 0, 1) := by decide +kernel
theorem dX0_runOut_16 : decode cX0_runOut 16 = .ok (.aload_n 0, 1) := by decide +kernel
theorem dX0_runOut_17 : decode cX0_runOut 17 = .ok (.getfield 21, 3) := by decide +kernel
theorem dX0_runOut_20 : decode cX0_runOut 20 = .ok (.iload_n 1, 1) := by decide +kernel
theorem dX0_runOut_21 : decode cX0_runOut 21 = .ok (.iaload, 1) := by decide +kernel
theorem dX0_runOut_22 : decode cX0_runOut 22 = .ok (.aload_n 0, 1) := by decide +kernel
theorem dX0_runOut_23 : decode cX0_runOut 23 = .ok (.iload_n 1, 1) := by decide +kernel
theorem dX0_runOut_24 : decode cX0_runOut 24 = .ok (.invokevirtual 142, 3) := by decide +kernel
theorem dX0_runOut_27 : decode cX0_runOut 27 = .ok (.isub, 1) := by decide +kernel
theorem dX0_runOut_28 : decode cX0_runOut 28 = .ok (.invokestatic 119, 3) := by decide +kernel
theorem dX0_runOut_31 : decode cX0_runOut 31 = .ok (.iastore, 1) := by decide +kernel
theorem dX0_runOut_32 : decode cX0_runOut 32 = .ok (.iinc 1 1, 3) := by decide +kernel
theorem dX0_runOut_35 : decode cX0_runOut 35 = .ok (.goto (-33), 3) := by decide +kernel
theorem dX0_runOut_38 : decode cX0_runOut 38 = .ok (.return_, 1) := by decide +kernel
theorem dX0_steal_0 : decode cX0_steal 0 = .ok (.iconst 0, 1) := by decide +kernel
theorem dX0_steal_1 : decode cX0_steal 1 = .ok (.istore_n 1, 1) := by decide +kernel
theorem dX0_steal_2 : decode cX0_steal 2 = .ok (.iload_n 1, 1) := by decide +kernel
theorem dX0_steal_3 : decode cX0_steal 3 = .ok (.aload_n 0, 1) := by decide +kernel
theorem dX0_steal_4 : decode cX0_steal 4 = .ok (.getfield 43, 3) := by decide +kernel
theorem dX0_steal_7 : decode cX0_steal 7 = .ok (.if_icmp .ge 53, 3) := by decide +kernel
theorem dX0_steal_10 : decode cX0_steal 10 = .ok (.aload_n 0, 1) := by decide +kernel
theorem dX0_steal_11 : decode cX0_steal 11 = .ok (.getfield 24, 3) := by decide +kernel
theorem dX0_steal_14 : decode cX0_steal 14 = .ok (.iload_n 1, 1) := by decide +kernel
theorem dX0_steal_15 : decode cX0_steal 15 = .ok (.iaload, 1) := by decide +kernel
theorem dX0_steal_16 : decode cX0_steal 16 = .ok (.ifCond .ne 38, 3) := by decide +kernel
theorem dX0_steal_19 : decode cX0_steal 19 = .ok (.aload_n 0, 1) := by decide +kernel
theorem dX0_steal_20 : decode cX0_steal 20 = .ok (.getfield 9, 3) := by decide +kernel
theorem dX0_steal_23 : decode cX0_steal 23 = .ok (.iload_n 1, 1) := by decide +kernel
theorem dX0_steal_24 : decode cX0_steal 24 = .ok (.iaload, 1) := by decide +kernel
theorem dX0_steal_25 : decode cX0_steal 25 = .ok (.iconst 3, 1) := by decide +kernel
theorem dX0_steal_26 : decode cX0_steal 26 = .ok (.invokestatic 63, 3) := by decide +kernel
theorem dX0_steal_29 : decode cX0_steal 29 = .ok (.ifCond .eq 25, 3) := by decide +kernel
theorem dX0_steal_32 : decode cX0_steal 32 = .ok (.aload_n 0, 1) := by decide +kernel
theorem dX0_steal_33 : decode cX0_steal 33 = .ok (.getfield 18, 3) := by decide +kernel
theorem dX0_steal_36 : decode cX0_steal 36 = .ok (.iload_n 1, 1) := by decide +kernel
theorem dX0_steal_37 : decode cX0_steal 37 = .ok (.aload_n 0, 1) := by decide +kernel
theorem dX0_steal_38 : decode cX0_steal 38 = .ok (.getfield 18, 3) := by decide +kernel
theorem dX0_steal_41 : decode cX0_steal 41 = .ok (.iload_n 1, 1) := by decide +kernel
theorem dX0_steal_42 : decode cX0_steal 42 = .ok (.iaload, 1) := by decide +kernel
theorem dX0_steal_43 : decode cX0_steal 43 = .ok (.aload_n 0, 1) := by decide +kernel
theorem dX0_steal_44 : decode cX0_steal 44 = .ok (.getfield 15, 3) := by decide +kernel
theorem dX0_steal_47 : decode cX0_steal 47 = .ok (.iload_n 1, 1) := by decide +kernel
theorem dX0_steal_48 : decode cX0_steal 48 = .ok (.iaload, 1) := by decide +kernel
theorem dX0_steal_49 : decode cX0_steal 49 = .ok (.iadd, 1) := by decide +kernel
theorem dX0_steal_50 : decode cX0_steal 50 = .ok (.bipush 8, 2) := by decide +kernel
theorem dX0_steal_52 : decode cX0_steal 52 = .ok (.irem, 1) := by decide +kernel
theorem dX0_steal_53 : decode cX0_steal 53 = .ok (.iastore, 1) := by decide +kernel
theorem dX0_steal_54 : decode cX0_steal 54 = .ok (.iinc 1 1, 3) := by decide +kernel
theorem dX0_steal_57 : decode cX0_steal 57 = .ok (.goto (-55), 3) := by decide +kernel
theorem dX0_steal_60 : decode cX0_steal 60 = .ok (.return_, 1) := by decide +kernel
theorem dX1_init_0 : decode cX1_init 0 = .ok (.aload_n 0, 1) := by decide +kernel
theorem dX1_init_1 : decode cX1_init 1 = .ok (.invokespecial 3, 3) := by decide +kernel
theorem dX1_init_4 : decode cX1_init 4 = .ok (.aload_n 0, 1) := by decide +kernel
theorem dX1_init_5 : decode cX1_init 5 = .ok (.new 9, 3) := by decide +kernel
theorem dX1_init_8 : decode cX1_init 8 = .ok (.dup, 1) := by decide +kernel
theorem dX1_init_9 : decode cX1_init 9 = .ok (.invokespecial 11, 3) := by decide +kernel
theorem dX1_init_12 : decode cX1_init 12 = .ok (.putfield 12, 3) := by decide +kernel
theorem dX1_init_15 : decode cX1_init 15 = .ok (.aload_n 0, 1) := by decide +kernel
theorem dX1_init_16 : decode cX1_init 16 = .ok (.new 18, 3) := by decide +kernel
theorem dX1_init_19 : decode cX1_init 19 = .ok (.dup, 1) := by decide +kernel
theorem dX1_init_20 : decode cX1_init 20 = .ok (.bipush 50, 2) := by decide +kernel
theorem dX1_init_22 : decode cX1_init 22 = .ok (.invokespecial 20, 3) := by decide +kernel
theorem dX1_init_25 : decode cX1_init 25 = .ok (.putfield 23, 3) := by decide +kernel
theorem dX1_init_28 : decode cX1_init 28 = .ok (.aload_n 0, 1) := by decide +kernel
theorem dX1_init_29 : decode cX1_init 29 = .ok (.iconst 0, 1) := by decide +kernel
theorem dX1_init_30 : decode cX1_init 30 = .ok (.putfield 27, 3) := by decide +kernel
theorem dX1_init_33 : decode cX1_init 33 = .ok (.aload_n 0, 1) := by decide +kernel
theorem dX1_init_34 : decode cX1_init 34 = .ok (.iconst 0, 1) := by decide +kernel
theorem dX1_init_35 : decode cX1_init 35 = .ok (.putfield 31, 3) := by decide +kernel
theorem dX1_init_38 : decode cX1_init 38 = .ok (.return_, 1) := by decide +kernel
theorem dX1_read_0 : decode cX1_read 0 = .ok (.aload_n 0, 1) := by decide +kernel
theorem dX1_read_1 : decode cX1_read 1 = .ok (.getfield 23, 3) := by decide +kernel
theorem dX1_read_4 : decode cX1_read 4 = .ok (.aload_n 1, 1) := by decide +kernel
theorem dX1_read_5 : decode cX1_read 5 = .ok (.invokevirtual 34, 3) := by decide +kernel
theorem dX1_read_8 : decode cX1_read 8 = .ok (.aload_n 0, 1) := by decide +kernel
theorem dX1_read_9 : decode cX1_read 9 = .ok (.getfield 12, 3) := by decide +kernel
theorem dX1_read_12 : decode cX1_read 12 = .ok (.invokevirtual 38, 3) := by decide +kernel
theorem dX1_read_15 : decode cX1_read 15 = .ok (.aload_n 0, 1) := by decide +kernel
theorem dX1_read_16 : decode cX1_read 16 = .ok (.iload_n 2, 1) := by decide +kernel
theorem dX1_read_17 : decode cX1_read 17 = .ok (.ifCond .ne 7, 3) := by decide +kernel
theorem dX1_read_20 : decode cX1_read 20 = .ok (.iconst 0, 1) := by decide +kernel
theorem dX1_read_21 : decode cX1_read 21 = .ok (.goto 4, 3) := by decide +kernel
theorem dX1_read_24 : decode cX1_read 24 = .ok (.iconst 3, 1) := by decide +kernel
theorem dX1_read_25 : decode cX1_read 25 = .ok (.putfield 27, 3) := by decide +kernel
theorem dX1_read_28 : decode cX1_read 28 = .ok (.aload_n 0, 1) := by decide +kernel
theorem dX1_read_29 : decode cX1_read 29 = .ok (.iconst 0, 1) := by decide +kernel
theorem dX1_read_30 : decode cX1_read 30 = .ok (.putfield 31, 3) := by decide +kernel
theorem dX1_read_33 : decode cX1_read 33 = .ok (.aload_n 0, 1) := by decide +kernel
theorem dX1_read_34 : decode cX1_read 34 = .ok (.iconst 0, 1) := by decide +kernel
theorem dX1_read_35 : decode cX1_read 35 = .ok (.invokevirtual 41, 3) := by decide +kernel
theorem dX1_read_38 : decode cX1_read 38 = .ok (.ifCond .eq 21, 3) := by decide +kernel
theorem dX1_read_41 : decode cX1_read 41 = .ok (.aload_n 0, 1) := by decide +kernel
theorem dX1_read_42 : decode cX1_read 42 = .ok (.getfield 31, 3) := by decide +kernel
theorem dX1_read_45 : decode cX1_read 45 = .ok (.aload_n 0, 1) := by decide +kernel
theorem dX1_read_46 : decode cX1_read 46 = .ok (.getfield 23, 3) := by decide +kernel
theorem dX1_read_49 : decode cX1_read 49 = .ok (.getfield 45, 3) := by decide +kernel
theorem dX1_read_52 : decode cX1_read 52 = .ok (.if_icmp .ne 7, 3) := by decide +kernel
theorem dX1_read_55 : decode cX1_read 55 = .ok (.iconst (-1), 1) := by decide +kernel
theorem dX1_read_56 : decode cX1_read 56 = .ok (.goto 7, 3) := by decide +kernel
theorem dX1_read_59 : decode cX1_read 59 = .ok (.aload_n 0, 1) := by decide +kernel
theorem dX1_read_60 : decode cX1_read 60 = .ok (.getfield 31, 3) := by decide +kernel
theorem dX1_read_63 : decode cX1_read 63 = .ok (.ireturn, 1) := by decide +kernel
theorem dX1_next_0 : decode cX1_next 0 = .ok (.aload_n 0, 1) := by decide +kernel
theorem dX1_next_1 : decode cX1_next 1 = .ok (.getfield 31, 3) := by decide +kernel
theorem dX1_next_4 : decode cX1_next 4 = .ok (.aload_n 0, 1) := by decide +kernel
theorem dX1_next_5 : decode cX1_next 5 = .ok (.getfield 23, 3) := by decide +kernel
theorem dX1_next_8 : decode cX1_next 8 = .ok (.getfield 45, 3) := by decide +kernel
theorem dX1_next_11 : decode cX1_next 11 = .ok (.if_icmp .ge 18, 3) := by decide +kernel
theorem dX1_next_14 : decode cX1_next 14 = .ok (.aload_n 0, 1) := by decide +kernel
theorem dX1_next_15 : decode cX1_next 15 = .ok (.getfield 23, 3) := by decide +kernel
theorem dX1_next_18 : decode cX1_next 18 = .ok (.getfield 48, 3) := by decide +kernel
theorem dX1_next_21 : decode cX1_next 21 = .ok (.aload_n 0, 1) := by decide +kernel
theorem dX1_next_22 : decode cX1_next 22 = .ok (.getfield 31, 3) := by decide +kernel
theorem dX1_next_25 : decode cX1_next 25 = .ok (.iaload, 1) := by decide +kernel
theorem dX1_next_26 : decode cX1_next 26 = .ok (.goto 4, 3) := by decide +kernel
theorem dX1_next_29 : decode cX1_next 29 = .ok (.iconst (-1), 1) := by decide +kernel
theorem dX1_next_30 : decode cX1_next 30 = .ok (.ireturn, 1) := by decide +kernel
theorem dX1_readAny_0 : decode cX1_readAny 0 = .ok (.aload_n 0, 1) := by decide +kernel
theorem dX1_readAny_1 : decode cX1_readAny 1 = .ok (.iload_n 1, 1) := by decide +kernel
theorem dX1_readAny_2 : decode cX1_readAny 2 = .ok (.invokevirtual 52, 3) := by decide +kernel
theorem dX1_readAny_5 : decode cX1_readAny 5 = .ok (.istore_n 2, 1) := by decide +kernel
theorem dX1_readAny_6 : decode cX1_readAny 6 = .ok (.iconst 0, 1) := by decide +kernel
theorem dX1_readAny_7 : decode cX1_readAny 7 = .ok (.istore_n 3, 1) := by decide +kernel
theorem dX1_readAny_8 : decode cX1_readAny 8 = .ok (.iload_n 3, 1) := by decide +kernel
theorem dX1_readAny_9 : decode cX1_readAny 9 = .ok (.bipush 50, 2) := by decide +kernel
theorem dX1_readAny_11 : decode cX1_readAny 11 = .ok (.if_icmp .ge 48, 3) := by decide +kernel
theorem dX1_readAny_14 : decode cX1_readAny 14 = .ok (.iload_n 2, 1) := by decide +kernel
theorem dX1_readAny_15 : decode cX1_readAny 15 = .ok (.ifCond .eq 44, 3) := by decide +kernel
theorem dX1_readAny_18 : decode cX1_readAny 18 = .ok (.aload_n 0, 1) := by decide +kernel
theorem dX1_readAny_19 : decode cX1_readAny 19 = .ok (.invokevirtual 55, 3) := by decide +kernel
theorem dX1_readAny_22 : decode cX1_readAny 22 = .ok (.bipush 124, 2) := by decide +kernel
theorem dX1_readAny_24 : decode cX1_readAny 24 = .ok (.if_icmp .ne 35, 3) := by decide +kernel
theorem dX1_readAny_27 : decode cX1_readAny 27 = .ok (.aload_n 0, 1) := by decide +kernel
theorem dX1_readAny_28 : decode cX1_readAny 28 = .ok (.dup, 1) := by decide +kernel
theorem dX1_readAny_29 : decode cX1_readAny 29 = .ok (.getfield 31, 3) := by decide +kernel
theorem dX1_readAny_32 : decode cX1_readAny 32 = .ok (.iconst 1, 1) := by decide +kernel
theorem dX1_readAny_33 : decode cX1_readAny 33 = .ok (.iadd, 1) := by decide +kernel
theorem dX1_readAny_34 : decode cX1_readAny 34 = .ok (.putfield 31, 3) := by decide +kernel
theorem dX1_readAny_37 : decode cX1_readAny 37 = .ok (.aload_n 0, 1) := by decide +kernel
theorem dX1_readAny_38 : decode cX1_readAny 38 = .ok (.iload_n 1, 1) := by decide +kernel
theorem dX1_readAny_39 : decode cX1_readAny 39 = .ok (.invokevirtual 52, 3) := by decide +kernel
theorem dX1_readAny_42 : decode cX1_readAny 42 = .ok (.istore_n 2, 1) := by decide +kernel
theorem dX1_readAny_43 : decode cX1_readAny 43 = .ok (.aload_n 0, 1) := by decide +kernel
theorem dX1_readAny_44 : decode cX1_readAny 44 = .ok (.getfield 12, 3) := by decide +kernel
theorem dX1_readAny_47 : decode cX1_readAny 47 = .ok (.bipush 124, 2) := by decide +kernel
theorem dX1_readAny_49 : decode cX1_readAny 49 = .ok (.iconst 0, 1) := by decide +kernel
theorem dX1_readAny_50 : decode cX1_readAny 50 = .ok (.invokevirtual 59, 3) := by decide +kernel
theorem dX1_readAny_53 : decode cX1_readAny 53 = .ok (.iinc 3 1, 3) := by decide +kernel
theorem dX1_readAny_56 : decode cX1_readAny 56 = .ok (.goto (-48), 3) := by decide +kernel
theorem dX1_readAny_59 : decode cX1_readAny 59 = .ok (.iload_n 2, 1) := by decide +kernel
theorem dX1_readAny_60 : decode cX1_readAny 60 = .ok (.ireturn, 1) := by decide +kernel
theorem dX1_readAll_0 : decode cX1_readAll 0 = .ok (.aload_n 0, 1) := by decide +kernel
theorem dX1_readAll_1 : decode cX1_readAll 1 = .ok (.iload_n 1, 1) := by decide +kernel
theorem dX1_readAll_2 : decode cX1_readAll 2 = .ok (.invokevirtual 63, 3) := by decide +kernel
theorem dX1_readAll_5 : decode cX1_readAll 5 = .ok (.istore_n 2, 1) := by decide +kernel
theorem dX1_readAll_6 : decode cX1_readAll 6 = .ok (.iconst 0, 1) := by decide +kernel
theorem dX1_readAll_7 : decode cX1_readAll 7 = .ok (.istore_n 3, 1) := by decide +kernel
theorem dX1_readAll_8 : decode cX1_readAll 8 = .ok (.iload_n 3, 1) := by decide +kernel
theorem dX1_readAll_9 : decode cX1_readAll 9 = .ok (.bipush 50, 2) := by decide +kernel
theorem dX1_readAll_11 : decode cX1_readAll 11 = .ok (.if_icmp .ge 48, 3) := by decide +kernel
theorem dX1_readAll_14 : decode cX1_readAll 14 = .ok (.iload_n 2, 1) := by decide +kernel
theorem dX1_readAll_15 : decode cX1_readAll 15 = .ok (.ifCond .eq 44, 3) := by decide +kernel
theorem dX1_readAll_18 : decode cX1_readAll 18 = .ok (.aload_n 0, 1) := by decide +kernel
theorem dX1_readAll_19 : decode cX1_readAll 19 = .ok (.invokevirtual 55, 3) := by decide +kernel
theorem dX1_readAll_22 : decode cX1_readAll 22 = .ok (.bipush 38, 2) := by decide +kernel
theorem dX1_readAll_24 : decode cX1_readAll 24 = .ok (.if_icmp .ne 35, 3) := by decide +kernel
theorem dX1_readAll_27 : decode cX1_readAll 27 = .ok (.aload_n 0, 1) := by decide +kernel
theorem dX1_readAll_28 : decode cX1_readAll 28 = .ok (.dup, 1) := by decide +kernel
theorem dX1_readAll_29 : decode cX1_readAll 29 = .ok (.getfield 31, 3) := by decide +kernel
theorem dX1_readAll_32 : decode cX1_readAll 32 = .ok (.iconst 1, 1) := by decide +kernel
theorem dX1_readAll_33 : decode cX1_readAll 33 = .ok (.iadd, 1) := by decide +kernel
theorem dX1_readAll_34 : decode cX1_readAll 34 = .ok (.putfield 31, 3) := by decide +kernel
theorem dX1_readAll_37 : decode cX1_readAll 37 = .ok (.aload_n 0, 1) := by decide +kernel
theorem dX1_readAll_38 : decode cX1_readAll 38 = .ok (.iload_n 1, 1) := by decide +kernel
theorem dX1_readAll_39 : decode cX1_readAll 39 = .ok (.invokevirtual 63, 3) := by decide +kernel
theorem dX1_readAll_42 : decode cX1_readAll 42 = .ok (.istore_n 2, 1) := by decide +kernel
theorem dX1_readAll_43 : decode cX1_readAll 43 = .ok (.aload_n 0, 1) := by decide +kernel
theorem dX1_readAll_44 : decode cX1_readAll 44 = .ok (.getfield 12, 3) := by decide +kernel
theorem dX1_readAll_47 : decode cX1_readAll 47 = .ok (.bipush 38, 2) := by decide +kernel
theorem dX1_readAll_49 : decode cX1_readAll 49 = .ok (.iconst 0, 1) := by decide +kernel
theorem dX1_readAll_50 : decode cX1_readAll 50 = .ok (.invokevirtual 59, 3) := by decide +kernel
theorem dX1_readAll_53 : decode cX1_readAll 53 = .ok (.iinc 3 1, 3) := by decide +kernel
theorem dX1_readAll_56 : decode cX1_readAll 56 = .ok (.goto (-48), 3) := by decide +kernel
theorem dX1_readAll_59 : decode cX1_readAll 59 = .ok (.iload_n 2, 1) := by decide +kernel
theorem dX1_readAll_60 : decode cX1_readAll 60 = .ok (.ireturn, 1) := by decide +kernel
theorem dX1_readComparison_0 : decode cX1_readComparison 0 = .ok (.aload_n 0, 1) := by decide +kernel
theorem dX1_readComparison_1 : decode cX1_readComparison 1 = .ok (.iload_n 1, 1) := by decide +kernel
theorem dX1_readComparison_2 : decode cX1_readComparison 2 = .ok (.invokevirtual 66, 3) := by decide +kernel
theorem dX1_readComparison_5 : decode cX1_readComparison 5 = .ok (.istore_n 2, 1) := by decide +kernel
theorem dX1_readComparison_6 : decode cX1_readComparison 6 = .ok (.aload_n 0, 1) := by decide +kernel
theorem dX1_readComparison_7 : decode cX1_readComparison 7 = .ok (.invokevirtual 55, 3) := by decide +kernel
theorem dX1_readComparison_10 : decode cX1_readComparison 10 = .ok (.istore_n 3, 1) := by decide +kernel
theorem dX1_readComparison_11 : decode cX1_readComparison 11 = .ok (.iload_n 2, 1) := by decide +kernel
theorem dX1_readComparison_12 : decode cX1_readComparison 12 = .ok (.ifCond .eq 46, 3) := by decide +kernel
theorem dX1_readComparison_15 : decode cX1_readComparison 15 = .ok (.iload_n 3, 1) := by decide +kernel
theorem dX1_readComparison_16 : decode cX1_readComparison 16 = .ok (.bipush 60, 2) := by decide +kernel
theorem dX1_readComparison_18 : decode cX1_readComparison 18 = .ok (.if_icmp .eq 15, 3) := by decide +kernel
theorem dX1_readComparison_21 : decode cX1_readComparison 21 = .ok (.iload_n 3, 1) := by decide +kernel
theorem dX1_readComparison_22 : decode cX1_readComparison 22 = .ok (.bipush 61, 2) := by decide +kernel
theorem dX1_readComparison_24 : decode cX1_readComparison 24 = .ok (.if_icmp .eq 9, 3) := by decide +kernel
theorem dX1_readComparison_27 : decode cX1_readComparison 27 = .ok (.iload_n 3, 1) := by decide +kernel
theorem dX1_readComparison_28 : decode cX1_readComparison 28 = .ok (.bipush 62, 2) := by decide +kernel
theorem dX1_readComparison_30 : decode cX1_readComparison 30 = .ok (.if_icmp .ne 28, 3) := by decide +kernel
theorem dX1_readComparison_33 : decode cX1_readComparison 33 = .ok (.aload_n 0, 1) := by decide +kernel
theorem dX1_readComparison_34 : decode cX1_readComparison 34 = .ok (.dup, 1) := by decide +kernel
theorem dX1_readComparison_35 : decode cX1_readComparison 35 = .ok (.getfield 31, 3) := by decide +kernel
theorem dX1_readComparison_38 : decode cX1_readComparison 38 = .ok (.iconst 1, 1) := by decide +kernel
theorem dX1_readComparison_39 : decode cX1_readComparison 39 = .ok (.iadd, 1) := by decide +kernel
theorem dX1_readComparison_40 : decode cX1_readComparison 40 = .ok (.putfield 31, 3) := by decide +kernel
theorem dX1_readComparison_43 : decode cX1_readComparison 43 = .ok (.aload_n 0, 1) := by decide +kernel
theorem dX1_readComparison_44 : decode cX1_readComparison 44 = .ok (.iload_n 1, 1) := by decide +kernel
theorem dX1_readComparison_45 : decode cX1_readComparison 45 = .ok (.invokevirtual 66, 3) := by decide +kernel
theorem dX1_readComparison_48 : decode cX1_readComparison 48 = .ok (.istore_n 2, 1) := by decide +kernel
theorem dX1_readComparison_49 : decode cX1_readComparison 49 = .ok (.aload_n 0, 1) := by decide +kernel
theorem dX1_readComparison_50 : decode cX1_readComparison 50 = .ok (.getfield 12, 3) := by decide +kernel
theorem dX1_readComparison_53 : decode cX1_readComparison 53 = .ok (.iload_n 3, 1) := by decide +kernel
theorem dX1_readComparison_54 : decode cX1_readComparison 54 = .ok (.iconst 0, 1) := by decide +kernel
theorem dX1_readComparison_55 : decode cX1_readComparison 55 = .ok (.invokevirtual 59, 3) := by decide +kernel
theorem dX1_readComparison_58 : decode cX1_readComparison 58 = .ok (.iload_n 2, 1) := by decide +kernel
theorem dX1_readComparison_59 : decode cX1_readComparison 59 = .ok (.ireturn, 1) := by decide +kernel
theorem dX1_readSum_0 : decode cX1_readSum 0 = .ok (.aload_n 0, 1) := by decide +kernel
theorem dX1_readSum_1 : decode cX1_readSum 1 = .ok (.iload_n 1, 1) := by decide +kernel
theorem dX1_readSum_2 : decode cX1_readSum 2 = .ok (.invokevirtual 69, 3) := by decide +kernel
theorem dX1_readSum_5 : decode cX1_readSum 5 = .ok (.istore_n 2, 1) := by decide +kernel
theorem dX1_readSum_6 : decode cX1_readSum 6 = .ok (.iconst 0, 1) := by decide +kernel
theorem dX1_readSum_7 : decode cX1_readSum 7 = .ok (.istore_n 3, 1) := by decide +kernel
theorem dX1_readSum_8 : decode cX1_readSum 8 = .ok (.iload_n 3, 1) := by decide +kernel
theorem dX1_readSum_9 : decode cX1_readSum 9 = .ok (.bipush 50, 2) := by decide +kernel
theorem dX1_readSum_11 : decode cX1_readSum 11 = .ok (.if_icmp .ge 63, 3) := by decide +kernel
theorem dX1_readSum_14 : decode cX1_readSum 14 = .ok (.iload_n 2, 1) := by decide +kernel
theorem dX1_readSum_15 : decode cX1_readSum 15 = .ok (.ifCond .eq 59, 3) := by decide +kernel
theorem dX1_readSum_18 : decode cX1_readSum 18 = .ok (.aload_n 0, 1) := by decide +kernel
theorem dX1_readSum_19 : decode cX1_readSum 19 = .ok (.invokevirtual 55, 3) := by decide +kernel
theorem dX1_readSum_22 : decode cX1_readSum 22 = .ok (.bipush 43, 2) := by decide +kernel
theorem dX1_readSum_24 : decode cX1_readSum 24 = .ok (.if_icmp .eq 12, 3) := by decide +kernel
theorem dX1_readSum_27 : decode cX1_readSum 27 = .ok (.aload_n 0, 1) := by decide +kernel
theorem dX1_readSum_28 : decode cX1_readSum 28 = .ok (.invokevirtual 55, 3) := by decide +kernel
theorem dX1_readSum_31 : decode cX1_readSum 31 = .ok (.bipush 45, 2) := by decide +kernel
theorem dX1_readSum_33 : decode cX1_readSum 33 = .ok (.if_icmp .ne 41, 3) := by decide +kernel
theorem dX1_readSum_36 : decode cX1_readSum 36 = .ok (.aload_n 0, 1) := by decide +kernel
theorem dX1_readSum_37 : decode cX1_readSum 37 = .ok (.invokevirtual 55, 3) := by decide +kernel
theorem dX1_readSum_40 : decode cX1_readSum 40 = .ok (.istore 4, 2) := by decide +kernel
theorem dX1_readSum_42 : decode cX1_readSum 42 = .ok (.aload_n 0, 1) := by decide +kernel
theorem dX1_readSum_43 : decode cX1_readSum 43 = .ok (.dup, 1) := by decide +kernel
theorem dX1_readSum_44 : decode cX1_readSum 44 = .ok (.getfield 31, 3) := by decide +kernel
theorem dX1_readSum_47 : decode cX1_readSum 47 = .ok (.iconst 1, 1) := by decide +kernel
theorem dX1_readSum_48 : decode cX1_readSum 48 = .ok (.iadd, 1) := by decide +kernel
theorem dX1_readSum_49 : decode cX1_readSum 49 = .ok (.putfield 31, 3) := by decide +kernel
theorem dX1_readSum_52 : decode cX1_readSum 52 = .ok (.aload_n 0, 1) := by decide +kernel
theorem dX1_readSum_53 : decode cX1_readSum 53 = .ok (.iload_n 1, 1) := by decide +kernel
theorem dX1_readSum_54 : decode cX1_readSum 54 = .ok (.invokevirtual 69, 3) := by decide +kernel
theorem dX1_readSum_57 : decode cX1_readSum 57 = .ok (.istore_n 2, 1) := by decide +kernel
theorem dX1_readSum_58 : decode cX1_readSum 58 = .ok (.aload_n 0, 1) := by decide +kernel
theorem dX1_readSum_59 : decode cX1_readSum 59 = .ok (.getfield 12, 3) := by decide +kernel
theorem dX1_readSum_62 : decode cX1_readSum 62 = .ok (.iload 4, 2) := by decide +kernel
theorem dX1_readSum_64 : decode cX1_readSum 64 = .ok (.iconst 0, 1) := by decide +kernel
theorem dX1_readSum_65 : decode cX1_readSum 65 = .ok (.invokevirtual 59, 3) := by decide +kernel
theorem dX1_readSum_68 : decode cX1_readSum 68 = .ok (.iinc 3 1, 3) := by decide +kernel
theorem dX1_readSum_71 : decode cX1_readSum 71 = .ok (.goto (-63), 3) := by decide +kernel
theorem dX1_readSum_74 : decode cX1_readSum 74 = .ok (.iload_n 2, 1) := by decide +kernel
theorem dX1_readSum_75 : decode cX1_readSum 75 = .ok (.ireturn, 1) := by decide +kernel
theorem dX1_readProduct_0 : decode cX1_readProduct 0 = .ok (.aload_n 0, 1) := by decide +kernel
theorem dX1_readProduct_1 : decode cX1_readProduct 1 = .ok (.iload_n 1, 1) := by decide +kernel
theorem dX1_readProduct_2 : decode cX1_readProduct 2 = .ok (.invokevirtual 72, 3) := by decide +kernel
theorem dX1_readProduct_5 : decode cX1_readProduct 5 = .ok (.istore_n 2, 1) := by decide +kernel
theorem dX1_readProduct_6 : decode cX1_readProduct 6 = .ok (.iconst 0, 1) := by decide +kernel
theorem dX1_readProduct_7 : decode cX1_readProduct 7 = .ok (.istore_n 3, 1) := by decide +kernel
theorem dX1_readProduct_8 : decode cX1_readProduct 8 = .ok (.iload_n 3, 1) := by decide +kernel
theorem dX1_readProduct_9 : decode cX1_readProduct 9 = .ok (.bipush 50, 2) := by decide +kernel
theorem dX1_readProduct_11 : decode cX1_readProduct 11 = .ok (.if_icmp .ge 72, 3) := by decide +kernel
theorem dX1_readProduct_14 : decode cX1_readProduct 14 = .ok (.iload_n 2, 1) := by decide +kernel
theorem dX1_readProduct_15 : decode cX1_readProduct 15 = .ok (.ifCond .eq 68, 3) := by decide +kernel
theorem dX1_readProduct_18 : decode cX1_readProduct 18 = .ok (.aload_n 0, 1) := by decide +kernel
theorem dX1_readProduct_19 : decode cX1_readProduct 19 = .ok (.invokevirtual 55, 3) := by decide +kernel
theorem dX1_readProduct_22 : decode cX1_readProduct 22 = .ok (.bipush 42, 2) := by decide +kernel
theorem dX1_readProduct_24 : decode cX1_readProduct 24 = .ok (.if_icmp .eq 21, 3) := by decide +kernel
theorem dX1_readProduct_27 : decode cX1_readProduct 27 = .ok (.aload_n 0, 1) := by decide +kernel
theorem dX1_readProduct_28 : decode cX1_readProduct 28 = .ok (.invokevirtual 55, 3) := by decide +kernel
theorem dX1_readProduct_31 : decode cX1_readProduct 31 = .ok (.bipush 47, 2) := by decide +kernel
theorem dX1_readProduct_33 : decode cX1_readProduct 33 = .ok (.if_icmp .eq 12, 3) := by decide +kernel
theorem dX1_readProduct_36 : decode cX1_readProduct 36 = .ok (.aload_n 0, 1) := by decide +kernel
theorem dX1_readProduct_37 : decode cX1_readProduct 37 = .ok (.invokevirtual 55, 3) := by decide +kernel
theorem dX1_readProduct_40 : decode cX1_readProduct 40 = .ok (.bipush 37, 2) := by decide +kernel
theorem dX1_readProduct_42 : decode cX1_readProduct 42 = .ok (.if_icmp .ne 41, 3) := by decide +kernel
theorem dX1_readProduct_45 : decode cX1_readProduct 45 = .ok (.aload_n 0, 1) := by decide +kernel
theorem dX1_readProduct_46 : decode cX1_readProduct 46 = .ok (.invokevirtual 55, 3) := by decide +kernel
theorem dX1_readProduct_49 : decode cX1_readProduct 49 = .ok (.istore 4, 2) := by decide +kernel
theorem dX1_readProduct_51 : decode cX1_readProduct 51 = .ok (.aload_n 0, 1) := by decide +kernel
theorem dX1_readProduct_52 : decode cX1_readProduct 52 = .ok (.dup, 1) := by decide +kernel
theorem dX1_readProduct_53 : decode cX1_readProduct 53 = .ok (.getfield 31, 3) := by decide +kernel
theorem dX1_readProduct_56 : decode cX1_readProduct 56 = .ok (.iconst 1, 1) := by decide +kernel
theorem dX1_readProduct_57 : decode cX1_readProduct 57 = .ok (.iadd, 1) := by decide +kernel
theorem dX1_readProduct_58 : decode cX1_readProduct 58 = .ok (.putfield 31, 3) := by decide +kernel
theorem dX1_readProduct_61 : decode cX1_readProduct 61 = .ok (.aload_n 0, 1) := by decide +kernel
theorem dX1_readProduct_62 : decode cX1_readProduct 62 = .ok (.iload_n 1, 1) := by decide +kernel
theorem dX1_readProduct_63 : decode cX1_readProduct 63 = .ok (.invokevirtual 72, 3) := by decide +kernel
theorem dX1_readProduct_66 : decode cX1_readProduct 66 = .ok (.istore_n 2, 1) := by decide +kernel
theorem dX1_readProduct_67 : decode cX1_readProduct 67 = .ok (.aload_n 0, 1) := by decide +kernel
theorem dX1_readProduct_68 : decode cX1_readProduct 68 = .ok (.getfield 12, 3) := by decide +kernel
theorem dX1_readProduct_71 : decode cX1_readProduct 71 = .ok (.iload 4, 2) := by decide +kernel
theorem dX1_readProduct_73 : decode cX1_readProduct 73 = .ok (.iconst 0, 1) := by decide +kernel
theorem dX1_readProduct_74 : decode cX1_readProduct 74 = .ok (.invokevirtual 59, 3) := by decide +kernel
theorem dX1_readProduct_77 : decode cX1_readProduct 77 = .ok (.iinc 3 1, 3) := by decide +kernel
theorem dX1_readProduct_80 : decode cX1_readProduct 80 = .ok (.goto (-72), 3) := by decide +kernel
theorem dX1_readProduct_83 : decode cX1_readProduct 83 = .ok (.iload_n 2, 1) := by decide +kernel
theorem dX1_readProduct_84 : decode cX1_readProduct 84 = .ok (.ireturn, 1) := by decide +kernel
theorem dX1_readSingle_0 : decode cX1_readSingle 0 = .ok (.aload_n 0, 1) := by decide +kernel
theorem dX1_readSingle_1 : decode cX1_readSingle 1 = .ok (.invokevirtual 55, 3) := by decide +kernel
theorem dX1_readSingle_4 : decode cX1_readSingle 4 = .ok (.istore_n 2, 1) := by decide +kernel
theorem dX1_readSingle_5 : decode cX1_readSingle 5 = .ok (.iload_n 2, 1) := by decide +kernel
theorem dX1_readSingle_6 : decode cX1_readSingle 6 = .ok (.bipush 33, 2) := by decide +kernel
theorem dX1_readSingle_8 : decode cX1_readSingle 8 = .ok (.if_icmp .eq 9, 3) := by decide +kernel
theorem dX1_readSingle_11 : decode cX1_readSingle 11 = .ok (.iload_n 2, 1) := by decide +kernel
theorem dX1_readSingle_12 : decode cX1_readSingle 12 = .ok (.bipush 40, 2) := by decide +kernel
theorem dX1_readSingle_14 : decode cX1_readSingle 14 = .ok (.if_icmp .ne 25, 3) := by decide +kernel
theorem dX1_readSingle_17 : decode cX1_readSingle 17 = .ok (.iload_n 1, 1) := by decide +kernel
theorem dX1_readSingle_18 : decode cX1_readSingle 18 = .ok (.iconst 5, 1) := by decide +kernel
theorem dX1_readSingle_19 : decode cX1_readSingle 19 = .ok (.if_icmp .ge 18, 3) := by decide +kernel
theorem dX1_readSingle_22 : decode cX1_readSingle 22 = .ok (.aload_n 0, 1) := by decide +kernel
theorem dX1_readSingle_23 : decode cX1_readSingle 23 = .ok (.iload_n 2, 1) := by decide +kernel
theorem dX1_readSingle_24 : decode cX1_readSingle 24 = .ok (.iload_n 1, 1) := by decide +kernel
theorem dX1_readSingle_25 : decode cX1_readSingle 25 = .ok (.iconst 1, 1) := by decide +kernel
theorem dX1_readSingle_26 : decode cX1_readSingle 26 = .ok (.iadd, 1) := by decide +kernel
theorem dX1_readSingle_27 : decode cX1_readSingle 27 = .ok (.invokevirtual 75, 3) := by decide +kernel
theorem dX1_readSingle_30 : decode cX1_readSingle 30 = .ok (.ifCond .eq 7, 3) := by decide +kernel
theorem dX1_readSingle_33 : decode cX1_readSingle 33 = .ok (.iconst 1, 1) := by decide +kernel
theorem dX1_readSingle_34 : decode cX1_readSingle 34 = .ok (.goto 4, 3) := by decide +kernel
theorem dX1_readSingle_37 : decode cX1_readSingle 37 = .ok (.iconst 0, 1) := by decide +kernel
theorem dX1_readSingle_38 : decode cX1_readSingle 38 = .ok (.ireturn, 1) := by decide +kernel
theorem dX1_readSingle_39 : decode cX1_readSingle 39 = .ok (.iload_n 2, 1) := by decide +kernel
theorem dX1_readSingle_40 : decode cX1_readSingle 40 = .ok (.invokestatic 79, 3) := by decide +kernel
theorem dX1_readSingle_43 : decode cX1_readSingle 43 = .ok (.ifCond .eq 10, 3) := by decide +kernel
theorem dX1_readSingle_46 : decode cX1_readSingle 46 = .ok (.aload_n 0, 1) := by decide +kernel
theorem dX1_readSingle_47 : decode cX1_readSingle 47 = .ok (.invokevirtual 82, 3) := by decide +kernel
theorem dX1_readSingle_50 : decode cX1_readSingle 50 = .ok (.goto 8, 3) := by decide +kernel
theorem dX1_readSingle_53 : decode cX1_readSingle 53 = .ok (.aload_n 0, 1) := by decide +kernel
theorem dX1_readSingle_54 : decode cX1_readSingle 54 = .ok (.iload_n 2, 1) := by decide +kernel
theorem dX1_readSingle_55 : decode cX1_readSingle 55 = .ok (.invokevirtual 86, 3) := by decide +kernel
theorem dX1_readSingle_58 : decode cX1_readSingle 58 = .ok (.ireturn, 1) := by decide +kernel
theorem dX1_readOpened_0 : decode cX1_readOpened 0 = .ok (.aload_n 0, 1) := by decide +kernel
theorem dX1_readOpened_1 : decode cX1_readOpened 1 = .ok (.dup, 1) := by decide +kernel
theorem dX1_readOpened_2 : decode cX1_readOpened 2 = .ok (.getfield 31, 3) := by decide +kernel
theorem dX1_readOpened_5 : decode cX1_readOpened 5 = .ok (.iconst 1, 1) := by decide +kernel
theorem dX1_readOpened_6 : decode cX1_readOpened 6 = .ok (.iadd, 1) := by decide +kernel
theorem dX1_readOpened_7 : decode cX1_readOpened 7 = .ok (.putfield 31, 3) := by decide +kernel
theorem dX1_readOpened_10 : decode cX1_readOpened 10 = .ok (.iload_n 1, 1) := by decide +kernel
theorem dX1_readOpened_11 : decode cX1_readOpened 11 = .ok (.bipush 33, 2) := by decide +kernel
theorem dX1_readOpened_13 : decode cX1_readOpened 13 = .ok (.if_icmp .ne 21, 3) := by decide +kernel
theorem dX1_readOpened_16 : decode cX1_readOpened 16 = .ok (.aload_n 0, 1) := by decide +kernel
theorem dX1_readOpened_17 : decode cX1_readOpened 17 = .ok (.iload_n 2, 1) := by decide +kernel
theorem dX1_readOpened_18 : decode cX1_readOpened 18 = .ok (.invokevirtual 72, 3) := by decide +kernel
theorem dX1_readOpened_21 : decode cX1_readOpened 21 = .ok (.istore_n 3, 1) := by decide +kernel
theorem dX1_readOpened_22 : decode cX1_readOpened 22 = .ok (.aload_n 0, 1) := by decide +kernel
theorem dX1_readOpened_23 : decode cX1_readOpened 23 = .ok (.getfield 12, 3) := by decide +kernel
theorem dX1_readOpened_26 : decode cX1_readOpened 26 = .ok (.bipush 33, 2) := by decide +kernel
theorem dX1_readOpened_28 : decode cX1_readOpened 28 = .ok (.iconst 0, 1) := by decide +kernel
theorem dX1_readOpened_29 : decode cX1_readOpened 29 = .ok (.invokevirtual 59, 3) := by decide +kernel
theorem dX1_readOpened_32 : decode cX1_readOpened 32 = .ok (.iload_n 3, 1) := by decide +kernel
theorem dX1_readOpened_33 : decode cX1_readOpened 33 = .ok (.ireturn, 1) := by decide +kernel
theorem dX1_readOpened_34 : decode cX1_readOpened 34 = .ok (.aload_n 0, 1) := by decide +kernel
theorem dX1_readOpened_35 : decode cX1_readOpened 35 = .ok (.iload_n 2, 1) := by decide +kernel
theorem dX1_readOpened_36 : decode cX1_readOpened 36 = .ok (.invokevirtual 41, 3) := by decide +kernel
theorem dX1_readOpened_39 : decode cX1_readOpened 39 = .ok (.ifCond .eq 12, 3) := by decide +kernel
theorem dX1_readOpened_42 : decode cX1_readOpened 42 = .ok (.aload_n 0, 1) := by decide +kernel
theorem dX1_readOpened_43 : decode cX1_readOpened 43 = .ok (.invokevirtual 55, 3) := by decide +kernel
theorem dX1_readOpened_46 : decode cX1_readOpened 46 = .ok (.bipush 41, 2) := by decide +kernel
theorem dX1_readOpened_48 : decode cX1_readOpened 48 = .ok (.if_icmp .eq 5, 3) := by decide +kernel
theorem dX1_readOpened_51 : decode cX1_readOpened 51 = .ok (.iconst 0, 1) := by decide +kernel
theorem dX1_readOpened_52 : decode cX1_readOpened 52 = .ok (.ireturn, 1) := by decide +kernel
theorem dX1_readOpened_53 : decode cX1_readOpened 53 = .ok (.aload_n 0, 1) := by decide +kernel
theorem dX1_readOpened_54 : decode cX1_readOpened 54 = .ok (.dup, 1) := by decide +kernel
theorem dX1_readOpened_55 : decode cX1_readOpened 55 = .ok (.getfield 31, 3) := by decide +kernel
theorem dX1_readOpened_58 : decode cX1_readOpened 58 = .ok (.iconst 1, 1) := by decide +kernel
theorem dX1_readOpened_59 : decode cX1_readOpened 59 = .ok (.iadd, 1) := by decide +kernel
theorem dX1_readOpened_60 : decode cX1_readOpened 60 = .ok (.putfield 31, 3) := by decide +kernel
theorem dX1_readOpened_63 : decode cX1_readOpened 63 = .ok (.iconst 1, 1) := by decide +kernel
theorem dX1_readOpened_64 : decode cX1_readOpened 64 = .ok (.ireturn, 1) := by decide +kernel
theorem dX1_readNumber_0 : decode cX1_readNumber 0 = .ok (.iconst 0, 1) := by decide +kernel
theorem dX1_readNumber_1 : decode cX1_readNumber 1 = .ok (.istore_n 1, 1) := by decide +kernel
theorem dX1_readNumber_2 : decode cX1_readNumber 2 = .ok (.iconst 0, 1) := by decide +kernel
theorem dX1_readNumber_3 : decode cX1_readNumber 3 = .ok (.istore_n 2, 1) := by decide +kernel
theorem dX1_readNumber_4 : decode cX1_readNumber 4 = .ok (.iload_n 2, 1) := by decide +kernel
theorem dX1_readNumber_5 : decode cX1_readNumber 5 = .ok (.iconst 4, 1) := by decide +kernel
theorem dX1_readNumber_6 : decode cX1_readNumber 6 = .ok (.if_icmp .ge 42, 3) := by decide +kernel
theorem dX1_readNumber_9 : decode cX1_readNumber 9 = .ok (.aload_n 0, 1) := by decide +kernel
theorem dX1_readNumber_10 : decode cX1_readNumber 10 = .ok (.invokevirtual 55, 3) := by decide +kernel
theorem dX1_readNumber_13 : decode cX1_readNumber 13 = .ok (.invokestatic 79, 3) := by decide +kernel
theorem dX1_readNumber_16 : decode cX1_readNumber 16 = .ok (.ifCond .eq 32, 3) := by decide +kernel
theorem dX1_readNumber_19 : decode cX1_readNumber 19 = .ok (.iload_n 1, 1) := by decide +kernel
theorem dX1_readNumber_20 : decode cX1_readNumber 20 = .ok (.bipush 10, 2) := by decide +kernel
theorem dX1_readNumber_22 : decode cX1_readNumber 22 = .ok (.imul, 1) := by decide +kernel
theorem dX1_readNumber_23 : decode cX1_readNumber 23 = .ok (.aload_n 0, 1) := by decide +kernel
theorem dX1_readNumber_24 : decode cX1_readNumber 24 = .ok (.invokevirtual 55, 3) := by decide +kernel
theorem dX1_readNumber_27 : decode cX1_readNumber 27 = .ok (.iadd, 1) := by decide +kernel
theorem dX1_readNumber_28 : decode cX1_readNumber 28 = .ok (.bipush 48, 2) := by decide +kernel
theorem dX1_readNumber_30 : decode cX1_readNumber 30 = .ok (.isub, 1) := by decide +kernel
theorem dX1_readNumber_31 : decode cX1_readNumber 31 = .ok (.istore_n 1, 1) := by decide +kernel
theorem dX1_readNumber_32 : decode cX1_readNumber 32 = .ok (.aload_n 0, 1) := by decide +kernel
theorem dX1_readNumber_33 : decode cX1_readNumber 33 = .ok (.dup, 1) := by decide +kernel
theorem dX1_readNumber_34 : decode cX1_readNumber 34 = .ok (.getfield 31, 3) := by decide +kernel
theorem dX1_readNumber_37 : decode cX1_readNumber 37 = .ok (.iconst 1, 1) := by decide +kernel
theorem dX1_readNumber_38 : decode cX1_readNumber 38 = .ok (.iadd, 1) := by decide +kernel
theorem dX1_readNumber_39 : decode cX1_readNumber 39 = .ok (.putfield 31, 3) := by decide +kernel
theorem dX1_readNumber_42 : decode cX1_readNumber 42 = .ok (.iinc 2 1, 3) := by decide +kernel
theorem dX1_readNumber_45 : decode cX1_readNumber 45 = .ok (.goto (-41), 3) := by decide +kernel
theorem dX1_readNumber_48 : decode cX1_readNumber 48 = .ok (.aload_n 0, 1) := by decide +kernel
theorem dX1_readNumber_49 : decode cX1_readNumber 49 = .ok (.getfield 12, 3) := by decide +kernel
theorem dX1_readNumber_52 : decode cX1_readNumber 52 = .ok (.iconst 0, 1) := by decide +kernel
theorem dX1_readNumber_53 : decode cX1_readNumber 53 = .ok (.iload_n 1, 1) := by decide +kernel
theorem dX1_readNumber_54 : decode cX1_readNumber 54 = .ok (.invokevirtual 59, 3) := by decide +kernel
theorem dX1_readNumber_57 : decode cX1_readNumber 57 = .ok (.iconst 1, 1) := by decide +kernel
theorem dX1_readNumber_58 : decode cX1_readNumber 58 = .ok (.ireturn, 1) := by decide +kernel
theorem dX1_readName_0 : decode cX1_readName 0 = .ok (.iconst 0, 1) := by decide +kernel
theorem dX1_readName_1 : decode cX1_readName 1 = .ok (.istore_n 2, 1) := by decide +kernel
theorem dX1_readName_2 : decode cX1_readName 2 = .ok (.iload_n 2, 1) := by decide +kernel
theorem dX1_readName_3 : decode cX1_readName 3 = .ok (.iconst 3, 1) := by decide +kernel
theorem dX1_readName_4 : decode cX1_readName 4 = .ok (.if_icmp .ge 46, 3) := by decide +kernel
theorem dX1_readName_7 : decode cX1_readName 7 = .ok (.iload_n 1, 1) := by decide +kernel
theorem dX1_readName_8 : decode cX1_readName 8 = .ok (.getstatic 89, 3) := by decide +kernel
theorem dX1_readName_11 : decode cX1_readName 11 = .ok (.aload_n 0, 1) := by decide +kernel
theorem dX1_readName_12 : decode cX1_readName 12 = .ok (.getfield 27, 3) := by decide +kernel
theorem dX1_readName_15 : decode cX1_readName 15 = .ok (.iload_n 2, 1) := by decide +kernel
theorem dX1_readName_16 : decode cX1_readName 16 = .ok (.iadd, 1) := by decide +kernel
theorem dX1_readName_17 : decode cX1_readName 17 = .ok (.caload, 1) := by decide +kernel
theorem dX1_readName_18 : decode cX1_readName 18 = .ok (.if_icmp .ne 26, 3) := by decide +kernel
theorem dX1_readName_21 : decode cX1_readName 21 = .ok (.aload_n 0, 1) := by decide +kernel
theorem dX1_readName_22 : decode cX1_readName 22 = .ok (.dup, 1) := by decide +kernel
theorem dX1_readName_23 : decode cX1_readName 23 = .ok (.getfield 31, 3) := by decide +kernel
theorem dX1_readName_26 : decode cX1_readName 26 = .ok (.iconst 1, 1) := by decide +kernel
theorem dX1_readName_27 : decode cX1_readName 27 = .ok (.iadd, 1) := by decide +kernel
theorem dX1_readName_28 : decode cX1_readName 28 = .ok (.putfield 31, 3) := by decide +kernel
theorem dX1_readName_31 : decode cX1_readName 31 = .ok (.aload_n 0, 1) := by decide +kernel
theorem dX1_readName_32 : decode cX1_readName 32 = .ok (.getfield 12, 3) := by decide +kernel
theorem dX1_readName_35 : decode cX1_readName 35 = .ok (.iconst 1, 1) := by decide +kernel
theorem dX1_readName_36 : decode cX1_readName 36 = .ok (.iload_n 2, 1) := by decide +kernel
theorem dX1_readName_37 : decode cX1_readName 37 = .ok (.iadd, 1) := by decide +kernel
theorem dX1_readName_38 : decode cX1_readName 38 = .ok (.iconst 0, 1) := by decide +kernel
theorem dX1_readName_39 : decode cX1_readName 39 = .ok (.invokevirtual 59, 3) := by decide +kernel
theorem dX1_readName_42 : decode cX1_readName 42 = .ok (.iconst 1, 1) := by decide +kernel
theorem dX1_readName_43 : decode cX1_readName 43 = .ok (.ireturn, 1) := by decide +kernel
theorem dX1_readName_44 : decode cX1_readName 44 = .ok (.iinc 2 1, 3) := by decide +kernel
theorem dX1_readName_47 : decode cX1_readName 47 = .ok (.goto (-45), 3) := by decide +kernel
theorem dX1_readName_50 : decode cX1_readName 50 = .ok (.iconst 0, 1) := by decide +kernel
theorem dX1_readName_51 : decode cX1_readName 51 = .ok (.ireturn, 1) := by decide +kernel
theorem dX1_isDigit_0 : decode cX1_isDigit 0 = .ok (.iload_n 0, 1) := by decide +kernel
theorem dX1_isDigit_1 : decode cX1_isDigit 1 = .ok (.bipush 48, 2) := by decide +kernel
theorem dX1_isDigit_3 : decode cX1_isDigit 3 = .ok (.if_icmp .lt 13, 3) := by decide +kernel
theorem dX1_isDigit_6 : decode cX1_isDigit 6 = .ok (.iload_n 0, 1) := by decide +kernel
theorem dX1_isDigit_7 : decode cX1_isDigit 7 = .ok (.bipush 57, 2) := by decide +kernel
theorem dX1_isDigit_9 : decode cX1_isDigit 9 = .ok (.if_icmp .gt 7, 3) := by decide +kernel
theorem dX1_isDigit_12 : decode cX1_isDigit 12 = .ok (.iconst 1, 1) := by decide +kernel
theorem dX1_isDigit_13 : decode cX1_isDigit 13 = .ok (.goto 4, 3) := by decide +kernel
theorem dX1_isDigit_16 : decode cX1_isDigit 16 = .ok (.iconst 0, 1) := by decide +kernel
theorem dX1_isDigit_17 : decode cX1_isDigit 17 = .ok (.ireturn, 1) := by decide +kernel
theorem dX2_init_0 : decode cX2_init 0 = .ok (.aload_n 0, 1) := by decide +kernel
theorem dX2_init_1 : decode cX2_init 1 = .ok (.invokespecial 3, 3) := by decide +kernel
theorem dX2_init_4 : decode cX2_init 4 = .ok (.aload_n 0, 1) := by decide +kernel
theorem dX2_init_5 : decode cX2_init 5 = .ok (.bipush 40, 2) := by decide +kernel
theorem dX2_init_7 : decode cX2_init 7 = .ok (.newarray .int, 2) := by decide +kernel
theorem dX2_init_9 : decode cX2_init 9 = .ok (.putfield 9, 3) := by decide +kernel
theorem dX2_init_12 : decode cX2_init 12 = .ok (.aload_n 0, 1) := by decide +kernel
theorem dX2_init_13 : decode cX2_init 13 = .ok (.iconst 0, 1) := by decide +kernel
theorem dX2_init_14 : decode cX2_init 14 = .ok (.putfield 15, 3) := by decide +kernel
theorem dX2_init_17 : decode cX2_init 17 = .ok (.aload_n 0, 1) := by decide +kernel
theorem dX2_init_18 : decode cX2_init 18 = .ok (.iconst 0, 1) := by decide +kernel
theorem dX2_init_19 : decode cX2_init 19 = .ok (.putfield 19, 3) := by decide +kernel
theorem dX2_init_22 : decode cX2_init 22 = .ok (.return_, 1) := by decide +kernel
theorem dX2_lay_0 : decode cX2_lay 0 = .ok (.aload_n 0, 1) := by decide +kernel
theorem dX2_lay_1 : decode cX2_lay 1 = .ok (.iload_n 1, 1) := by decide +kernel
theorem dX2_lay_2 : decode cX2_lay 2 = .ok (.putfield 15, 3) := by decide +kernel
theorem dX2_lay_5 : decode cX2_lay 5 = .ok (.aload_n 0, 1) := by decide +kernel
theorem dX2_lay_6 : decode cX2_lay 6 = .ok (.iload_n 2, 1) := by decide +kernel
theorem dX2_lay_7 : decode cX2_lay 7 = .ok (.iconst 0, 1) := by decide +kernel
theorem dX2_lay_8 : decode cX2_lay 8 = .ok (.bipush 40, 2) := by decide +kernel
theorem dX2_lay_10 : decode cX2_lay 10 = .ok (.invokestatic 22, 3) := by decide +kernel
theorem dX2_lay_13 : decode cX2_lay 13 = .ok (.putfield 19, 3) := by decide +kernel
theorem dX2_lay_16 : decode cX2_lay 16 = .ok (.iconst 0, 1) := by decide +kernel
theorem dX2_lay_17 : decode cX2_lay 17 = .ok (.istore_n 3, 1) := by decide +kernel
theorem dX2_lay_18 : decode cX2_lay 18 = .ok (.iload_n 3, 1) := by decide +kernel
theorem dX2_lay_19 : decode cX2_lay 19 = .ok (.aload_n 0, 1) := by decide +kernel
theorem dX2_lay_20 : decode cX2_lay 20 = .ok (.getfield 19, 3) := by decide +kernel
theorem dX2_lay_23 : decode cX2_lay 23 = .ok (.if_icmp .ge 16, 3) := by decide +kernel
theorem dX2_lay_26 : decode cX2_lay 26 = .ok (.aload_n 0, 1) := by decide +kernel
theorem dX2_lay_27 : decode cX2_lay 27 = .ok (.getfield 9, 3) := by decide +kernel
theorem dX2_lay_30 : decode cX2_lay 30 = .ok (.iload_n 3, 1) := by decide +kernel
theorem dX2_lay_31 : decode cX2_lay 31 = .ok (.iconst 0, 1) := by decide +kernel
theorem dX2_lay_32 : decode cX2_lay 32 = .ok (.iastore, 1) := by decide +kernel
theorem dX2_lay_33 : decode cX2_lay 33 = .ok (.iinc 3 1, 3) := by decide +kernel
theorem dX2_lay_36 : decode cX2_lay 36 = .ok (.goto (-18), 3) := by decide +kernel
theorem dX2_lay_39 : decode cX2_lay 39 = .ok (.return_, 1) := by decide +kernel
theorem dX2_isMissing_0 : decode cX2_isMissing 0 = .ok (.aload_n 0, 1) := by decide +kernel
theorem dX2_isMissing_1 : decode cX2_isMissing 1 = .ok (.getfield 15, 3) := by decide +kernel
theorem dX2_isMissing_4 : decode cX2_isMissing 4 = .ok (.ifCond .ne 7, 3) := by decide +kernel
theorem dX2_isMissing_7 : decode cX2_isMissing 7 = .ok (.iconst 1, 1) := by decide +kernel
theorem dX2_isMissing_8 : decode cX2_isMissing 8 = .ok (.goto 4, 3) := by decide +kernel
theorem dX2_isMissing_11 : decode cX2_isMissing 11 = .ok (.iconst 0, 1) := by decide +kernel
theorem dX2_isMissing_12 : decode cX2_isMissing 12 = .ok (.ireturn, 1) := by decide +kernel
theorem dX2_lowestBits_0 : decode cX2_lowestBits 0 = .ok (.aload_n 0, 1) := by decide +kernel
theorem dX2_lowestBits_1 : decode cX2_lowestBits 1 = .ok (.getfield 15, 3) := by decide +kernel
theorem dX2_lowestBits_4 : decode cX2_lowestBits 4 = .ok (.bipush 8, 2) := by decide +kernel
theorem dX2_lowestBits_6 : decode cX2_lowestBits 6 = .ok (.if_icmp .ne 11, 3) := by decide +kernel
theorem dX2_lowestBits_9 : decode cX2_lowestBits 9 = .ok (.iload_n 1, 1) := by decide +kernel
theorem dX2_lowestBits_10 : decode cX2_lowestBits 10 = .ok (.sipush 255, 3) := by decide +kernel
theorem dX2_lowestBits_13 : decode cX2_lowestBits 13 = .ok (.iand, 1) := by decide +kernel
theorem dX2_lowestBits_14 : decode cX2_lowestBits 14 = .ok (.goto 20, 3) := by decide +kernel
theorem dX2_lowestBits_17 : decode cX2_lowestBits 17 = .ok (.aload_n 0, 1) := by decide +kernel
theorem dX2_lowestBits_18 : decode cX2_lowestBits 18 = .ok (.getfield 15, 3) := by decide +kernel
theorem dX2_lowestBits_21 : decode cX2_lowestBits 21 = .ok (.bipush 16, 2) := by decide +kernel
theorem dX2_lowestBits_23 : decode cX2_lowestBits 23 = .ok (.if_icmp .ne 10, 3) := by decide +kernel
theorem dX2_lowestBits_26 : decode cX2_lowestBits 26 = .ok (.iload_n 1, 1) := by decide +kernel
theorem dX2_lowestBits_27 : decode cX2_lowestBits 27 = .ok (.ldc 26, 2) := by decide +kernel
theorem dX2_lowestBits_29 : decode cX2_lowestBits 29 = .ok (.iand, 1) := by decide +kernel
theorem dX2_lowestBits_30 : decode cX2_lowestBits 30 = .ok (.goto 4, 3) := by decide +kernel
theorem dX2_lowestBits_33 : decode cX2_lowestBits 33 = .ok (.iload_n 1, 1) := by decide +kernel
theorem dX2_lowestBits_34 : decode cX2_lowestBits 34 = .ok (.ireturn, 1) := by decide +kernel
theorem dX2_holds_0 : decode cX2_holds 0 = .ok (.iload_n 2, 1) := by decide +kernel
theorem dX2_holds_1 : decode cX2_holds 1 = .ok (.ifCond .lt 29, 3) := by decide +kernel
theorem dX2_holds_4 : decode cX2_holds 4 = .ok (.iload_n 1, 1) := by decide +kernel
theorem dX2_holds_5 : decode cX2_holds 5 = .ok (.ifCond .lt 25, 3) := by decide +kernel
theorem dX2_holds_8 : decode cX2_holds 8 = .ok (.iload_n 2, 1) := by decide +kernel
theorem dX2_holds_9 : decode cX2_holds 9 = .ok (.aload_n 0, 1) := by decide +kernel
theorem dX2_holds_10 : decode cX2_holds 10 = .ok (.getfield 19, 3) := by decide +kernel
theorem dX2_holds_13 : decode cX2_holds 13 = .ok (.if_icmp .gt 17, 3) := by decide +kernel
theorem dX2_holds_16 : decode cX2_holds 16 = .ok (.iload_n 1, 1) := by decide +kernel
theorem dX2_holds_17 : decode cX2_holds 17 = .ok (.aload_n 0, 1) := by decide +kernel
theorem dX2_holds_18 : decode cX2_holds 18 = .ok (.getfield 19, 3) := by decide +kernel
theorem dX2_holds_21 : decode cX2_holds 21 = .ok (.iload_n 2, 1) := by decide +kernel
theorem dX2_holds_22 : decode cX2_holds 22 = .ok (.isub, 1) := by decide +kernel
theorem dX2_holds_23 : decode cX2_holds 23 = .ok (.if_icmp .gt 7, 3) := by decide +kernel
theorem dX2_holds_26 : decode cX2_holds 26 = .ok (.iconst 1, 1) := by decide +kernel
theorem dX2_holds_27 : decode cX2_holds 27 = .ok (.goto 4, 3) := by decide +kernel
theorem dX2_holds_30 : decode cX2_holds 30 = .ok (.iconst 0, 1) := by decide +kernel
theorem dX2_holds_31 : decode cX2_holds 31 = .ok (.ireturn, 1) := by decide +kernel
theorem dX3_init_0 : decode cX3_init 0 = .ok (.aload_n 0, 1) := by decide +kernel
theorem dX3_init_1 : decode cX3_init 1 = .ok (.invokespecial 3, 3) := by decide +kernel
theorem dX3_init_4 : decode cX3_init 4 = .ok (.aload_n 0, 1) := by decide +kernel
theorem dX3_init_5 : decode cX3_init 5 = .ok (.bipush 50, 2) := by decide +kernel
theorem dX3_init_7 : decode cX3_init 7 = .ok (.newarray .int, 2) := by decide +kernel
theorem dX3_init_9 : decode cX3_init 9 = .ok (.putfield 9, 3) := by decide +kernel
theorem dX3_init_12 : decode cX3_init 12 = .ok (.aload_n 0, 1) := by decide +kernel
theorem dX3_init_13 : decode cX3_init 13 = .ok (.bipush 50, 2) := by decide +kernel
theorem dX3_init_15 : decode cX3_init 15 = .ok (.newarray .int, 2) := by decide +kernel
theorem dX3_init_17 : decode cX3_init 17 = .ok (.putfield 15, 3) := by decide +kernel
theorem dX3_init_20 : decode cX3_init 20 = .ok (.aload_n 0, 1) := by decide +kernel
theorem dX3_init_21 : decode cX3_init 21 = .ok (.bipush 50, 2) := by decide +kernel
theorem dX3_init_23 : decode cX3_init 23 = .ok (.newarray .int, 2) := by decide +kernel
theorem dX3_init_25 : decode cX3_init 25 = .ok (.putfield 18, 3) := by decide +kernel
theorem dX3_init_28 : decode cX3_init 28 = .ok (.aload_n 0, 1) := by decide +kernel
theorem dX3_init_29 : decode cX3_init 29 = .ok (.iconst 0, 1) := by decide +kernel
theorem dX3_init_30 : decode cX3_init 30 = .ok (.putfield 21, 3) := by decide +kernel
theorem dX3_init_33 : decode cX3_init 33 = .ok (.return_, 1) := by decide +kernel
theorem dX3_isEmpty_0 : decode cX3_isEmpty 0 = .ok (.aload_n 0, 1) := by decide +kernel
theorem dX3_isEmpty_1 : decode cX3_isEmpty 1 = .ok (.getfield 21, 3) := by decide +kernel
theorem dX3_isEmpty_4 : decode cX3_isEmpty 4 = .ok (.ifCond .ne 7, 3) := by decide +kernel
theorem dX3_isEmpty_7 : decode cX3_isEmpty 7 = .ok (.iconst 1, 1) := by decide +kernel
theorem dX3_isEmpty_8 : decode cX3_isEmpty 8 = .ok (.goto 4, 3) := by decide +kernel
theorem dX3_isEmpty_11 : decode cX3_isEmpty 11 = .ok (.iconst 0, 1) := by decide +kernel
theorem dX3_isEmpty_12 : decode cX3_isEmpty 12 = .ok (.ireturn, 1) := by decide +kernel
theorem dX3_clear_0 : decode cX3_clear 0 = .ok (.aload_n 0, 1) := by decide +kernel
theorem dX3_clear_1 : decode cX3_clear 1 = .ok (.iconst 0, 1) := by decide +kernel
theorem dX3_clear_2 : decode cX3_clear 2 = .ok (.putfield 21, 3) := by decide +kernel
theorem dX3_clear_5 : decode cX3_clear 5 = .ok (.return_, 1) := by decide +kernel
theorem dX3_add_0 : decode cX3_add 0 = .ok (.aload_n 0, 1) := by decide +kernel
theorem dX3_add_1 : decode cX3_add 1 = .ok (.getfield 21, 3) := by decide +kernel
theorem dX3_add_4 : decode cX3_add 4 = .ok (.bipush 50, 2) := by decide +kernel
theorem dX3_add_6 : decode cX3_add 6 = .ok (.if_icmp .ge 33, 3) := by decide +kernel
theorem dX3_add_9 : decode cX3_add 9 = .ok (.aload_n 0, 1) := by decide +kernel
theorem dX3_add_10 : decode cX3_add 10 = .ok (.getfield 9, 3) := by decide +kernel
theorem dX3_add_13 : decode cX3_add 13 = .ok (.aload_n 0, 1) := by decide +kernel
theorem dX3_add_14 : decode cX3_add 14 = .ok (.getfield 21, 3) := by decide +kernel
theorem dX3_add_17 : decode cX3_add 17 = .ok (.iload_n 1, 1) := by decide +kernel
theorem dX3_add_18 : decode cX3_add 18 = .ok (.iastore, 1) := by decide +kernel
theorem dX3_add_19 : decode cX3_add 19 = .ok (.aload_n 0, 1) := by decide +kernel
theorem dX3_add_20 : decode cX3_add 20 = .ok (.getfield 15, 3) := by decide +kernel
theorem dX3_add_23 : decode cX3_add 23 = .ok (.aload_n 0, 1) := by decide +kernel
theorem dX3_add_24 : decode cX3_add 24 = .ok (.getfield 21, 3) := by decide +kernel
theorem dX3_add_27 : decode cX3_add 27 = .ok (.iload_n 2, 1) := by decide +kernel
theorem dX3_add_28 : decode cX3_add 28 = .ok (.iastore, 1) := by decide +kernel
theorem dX3_add_29 : decode cX3_add 29 = .ok (.aload_n 0, 1) := by decide +kernel
theorem dX3_add_30 : decode cX3_add 30 = .ok (.dup, 1) := by decide +kernel
theorem dX3_add_31 : decode cX3_add 31 = .ok (.getfield 21, 3) := by decide +kernel
theorem dX3_add_34 : decode cX3_add 34 = .ok (.iconst 1, 1) := by decide +kernel
theorem dX3_add_35 : decode cX3_add 35 = .ok (.iadd, 1) := by decide +kernel
theorem dX3_add_36 : decode cX3_add 36 = .ok (.putfield 21, 3) := by decide +kernel
theorem dX3_add_39 : decode cX3_add 39 = .ok (.return_, 1) := by decide +kernel
theorem dX3_copy_0 : decode cX3_copy 0 = .ok (.aload_n 1, 1) := by decide +kernel
theorem dX3_copy_1 : decode cX3_copy 1 = .ok (.getfield 9, 3) := by decide +kernel
theorem dX3_copy_4 : decode cX3_copy 4 = .ok (.iconst 0, 1) := by decide +kernel
theorem dX3_copy_5 : decode cX3_copy 5 = .ok (.aload_n 0, 1) := by decide +kernel
theorem dX3_copy_6 : decode cX3_copy 6 = .ok (.getfield 9, 3) := by decide +kernel
theorem dX3_copy_9 : decode cX3_copy 9 = .ok (.iconst 0, 1) := by decide +kernel
theorem dX3_copy_10 : decode cX3_copy 10 = .ok (.bipush 50, 2) := by decide +kernel
theorem dX3_copy_12 : decode cX3_copy 12 = .ok (.invokestatic 25, 3) := by decide +kernel
theorem dX3_copy_15 : decode cX3_copy 15 = .ok (.aload_n 1, 1) := by decide +kernel
theorem dX3_copy_16 : decode cX3_copy 16 = .ok (.getfield 15, 3) := by decide +kernel
theorem dX3_copy_19 : decode cX3_copy 19 = .ok (.iconst 0, 1) := by decide +kernel
theorem dX3_copy_20 : decode cX3_copy 20 = .ok (.aload_n 0, 1) := by decide +kernel
theorem dX3_copy_21 : decode cX3_copy 21 = .ok (.getfield 15, 3) := by decide +kernel
theorem dX3_copy_24 : decode cX3_copy 24 = .ok (.iconst 0, 1) := by decide +kernel
theorem dX3_copy_25 : decode cX3_copy 25 = .ok (.bipush 50, 2) := by decide +kernel
theorem dX3_copy_27 : decode cX3_copy 27 = .ok (.invokestatic 25, 3) := by decide +kernel
theorem dX3_copy_30 : decode cX3_copy 30 = .ok (.aload_n 0, 1) := by decide +kernel
theorem dX3_copy_31 : decode cX3_copy 31 = .ok (.aload_n 1, 1) := by decide +kernel
theorem dX3_copy_32 : decode cX3_copy 32 = .ok (.getfield 21, 3) := by decide +kernel
theorem dX3_copy_35 : decode cX3_copy 35 = .ok (.putfield 21, 3) := by decide +kernel
theorem dX3_copy_38 : decode cX3_copy 38 = .ok (.return_, 1) := by decide +kernel
theorem dX3_gives_0 : decode cX3_gives 0 = .ok (.iconst 0, 1) := by decide +kernel
theorem dX3_gives_1 : decode cX3_gives 1 = .ok (.istore 4, 2) := by decide +kernel
theorem dX3_gives_3 : decode cX3_gives 3 = .ok (.iconst 0, 1) := by decide +kernel
theorem dX3_gives_4 : decode cX3_gives 4 = .ok (.istore 5, 2) := by decide +kernel
theorem dX3_gives_6 : decode cX3_gives 6 = .ok (.iload 5, 2) := by decide +kernel
theorem dX3_gives_8 : decode cX3_gives 8 = .ok (.aload_n 0, 1) := by decide +kernel
theorem dX3_gives_9 : decode cX3_gives 9 = .ok (.getfield 21, 3) := by decide +kernel
theorem dX3_gives_12 : decode cX3_gives 12 = .ok (.if_icmp .ge 142, 3) := by decide +kernel
theorem dX3_gives_15 : decode cX3_gives 15 = .ok (.aload_n 0, 1) := by decide +kernel
theorem dX3_gives_16 : decode cX3_gives 16 = .ok (.getfield 9, 3) := by decide +kernel
theorem dX3_gives_19 : decode cX3_gives 19 = .ok (.iload 5, 2) := by decide +kernel
theorem dX3_gives_21 : decode cX3_gives 21 = .ok (.iaload, 1) := by decide +kernel
theorem dX3_gives_22 : decode cX3_gives 22 = .ok (.istore 6, 2) := by decide +kernel
theorem dX3_gives_24 : decode cX3_gives 24 = .ok (.iload 6, 2) := by decide +kernel
theorem dX3_gives_26 : decode cX3_gives 26 = .ok (.iconst 3, 1) := by decide +kernel
theorem dX3_gives_27 : decode cX3_gives 27 = .ok (.if_icmp .gt 38, 3) := by decide +kernel
theorem dX3_gives_30 : decode cX3_gives 30 = .ok (.iload 4, 2) := by decide +kernel
theorem dX3_gives_32 : decode cX3_gives 32 = .ok (.bipush 50, 2) := by decide +kernel
theorem dX3_gives_34 : decode cX3_gives 34 = .ok (.if_icmp .ge 114, 3) := by decide +kernel
theorem dX3_gives_37 : decode cX3_gives 37 = .ok (.aload_n 0, 1) := by decide +kernel
theorem dX3_gives_38 : decode cX3_gives 38 = .ok (.getfield 18, 3) := by decide +kernel
theorem dX3_gives_41 : decode cX3_gives 41 = .ok (.iload 4, 2) := by decide +kernel
theorem dX3_gives_43 : decode cX3_gives 43 = .ok (.iload 6, 2) := by decide +kernel
theorem dX3_gives_45 : decode cX3_gives 45 = .ok (.aload_n 0, 1) := by decide +kernel
theorem dX3_gives_46 : decode cX3_gives 46 = .ok (.getfield 15, 3) := by decide +kernel
theorem dX3_gives_49 : decode cX3_gives 49 = .ok (.iload 5, 2) := by decide +kernel
theorem dX3_gives_51 : decode cX3_gives 51 = .ok (.iaload, 1) := by decide +kernel
theorem dX3_gives_52 : decode cX3_gives 52 = .ok (.iload_n 1, 1) := by decide +kernel
theorem dX3_gives_53 : decode cX3_gives 53 = .ok (.iload_n 2, 1) := by decide +kernel
theorem dX3_gives_54 : decode cX3_gives 54 = .ok (.iload_n 3, 1) := by decide +kernel
theorem dX3_gives_55 : decode cX3_gives 55 = .ok (.invokestatic 31, 3) := by decide +kernel
theorem dX3_gives_58 : decode cX3_gives 58 = .ok (.iastore, 1) := by decide +kernel
theorem dX3_gives_59 : decode cX3_gives 59 = .ok (.iinc 4 1, 3) := by decide +kernel
theorem dX3_gives_62 : decode cX3_gives 62 = .ok (.goto 86, 3) := by decide +kernel
theorem dX3_gives_65 : decode cX3_gives 65 = .ok (.iload 6, 2) := by decide +kernel
theorem dX3_gives_67 : decode cX3_gives 67 = .ok (.bipush 33, 2) := by decide +kernel
theorem dX3_gives_69 : decode cX3_gives 69 = .ok (.if_icmp .ne 38, 3) := by decide +kernel
theorem dX3_gives_72 : decode cX3_gives 72 = .ok (.iload 4, 2) := by decide +kernel
theorem dX3_gives_74 : decode cX3_gives 74 = .ok (.iconst 1, 1) := by decide +kernel
theorem dX3_gives_75 : decode cX3_gives 75 = .ok (.if_icmp .lt 73, 3) := by decide +kernel
theorem dX3_gives_78 : decode cX3_gives 78 = .ok (.aload_n 0, 1) := by decide +kernel
theorem dX3_gives_79 : decode cX3_gives 79 = .ok (.getfield 18, 3) := by decide +kernel
theorem dX3_gives_82 : decode cX3_gives 82 = .ok (.iload 4, 2) := by decide +kernel
theorem dX3_gives_84 : decode cX3_gives 84 = .ok (.iconst 1, 1) := by decide +kernel
theorem dX3_gives_85 : decode cX3_gives 85 = .ok (.isub, 1) := by decide +kernel
theorem dX3_gives_86 : decode cX3_gives 86 = .ok (.aload_n 0, 1) := by decide +kernel
theorem dX3_gives_87 : decode cX3_gives 87 = .ok (.getfield 18, 3) := by decide +kernel
theorem dX3_gives_90 : decode cX3_gives 90 = .ok (.iload 4, 2) := by decide +kernel
theorem dX3_gives_92 : decode cX3_gives 92 = .ok (.iconst 1, 1) := by decide +kernel
theorem dX3_gives_93 : decode cX3_gives 93 = .ok (.isub, 1) := by decide +kernel
theorem dX3_gives_94 : decode cX3_gives 94 = .ok (.iaload, 1) := by decide +kernel
theorem dX3_gives_95 : decode cX3_gives 95 = .ok (.ifCond .ne 7, 3) := by decide +kernel
theorem dX3_gives_98 : decode cX3_gives 98 = .ok (.iconst 1, 1) := by decide +kernel
theorem dX3_gives_99 : decode cX3_gives 99 = .ok (.goto 4, 3) := by decide +kernel
theorem dX3_gives_102 : decode cX3_gives 102 = .ok (.iconst 0, 1) := by decide +kernel
theorem dX3_gives_103 : decode cX3_gives 103 = .ok (.iastore, 1) := by decide +kernel
theorem dX3_gives_104 : decode cX3_gives 104 = .ok (.goto 44, 3) := by decide +kernel
theorem dX3_gives_107 : decode cX3_gives 107 = .ok (.iload 4, 2) := by decide +kernel
theorem dX3_gives_109 : decode cX3_gives 109 = .ok (.iconst 2, 1) := by decide +kernel
theorem dX3_gives_110 : decode cX3_gives 110 = .ok (.if_icmp .lt 38, 3) := by decide +kernel
theorem dX3_gives_113 : decode cX3_gives 113 = .ok (.aload_n 0, 1) := by decide +kernel
theorem dX3_gives_114 : decode cX3_gives 114 = .ok (.getfield 18, 3) := by decide +kernel
theorem dX3_gives_117 : decode cX3_gives 117 = .ok (.iload 4, 2) := by decide +kernel
theorem dX3_gives_119 : decode cX3_gives 119 = .ok (.iconst 2, 1) := by decide +kernel
theorem dX3_gives_120 : decode cX3_gives 120 = .ok (.isub, 1) := by decide +kernel
theorem dX3_gives_121 : decode cX3_gives 121 = .ok (.iload 6, 2) := by decide +kernel
theorem dX3_gives_123 : decode cX3_gives 123 = .ok (.aload_n 0, 1) := by decide +kernel
theorem dX3_gives_124 : decode cX3_gives 124 = .ok (.getfield 18, 3) := by decide +kernel
theorem dX3_gives_127 : decode cX3_gives 127 = .ok (.iload 4, 2) := by decide +kernel
theorem dX3_gives_129 : decode cX3_gives 129 = .ok (.iconst 2, 1) := by decide +kernel
theorem dX3_gives_130 : decode cX3_gives 130 = .ok (.isub, 1) := by decide +kernel
theorem dX3_gives_131 : decode cX3_gives 131 = .ok (.iaload, 1) := by decide +kernel
theorem dX3_gives_132 : decode cX3_gives 132 = .ok (.aload_n 0, 1) := by decide +kernel
theorem dX3_gives_133 : decode cX3_gives 133 = .ok (.getfield 18, 3) := by decide +kernel
theorem dX3_gives_136 : decode cX3_gives 136 = .ok (.iload 4, 2) := by decide +kernel
theorem dX3_gives_138 : decode cX3_gives 138 = .ok (.iconst 1, 1) := by decide +kernel
theorem dX3_gives_139 : decode cX3_gives 139 = .ok (.isub, 1) := by decide +kernel
theorem dX3_gives_140 : decode cX3_gives 140 = .ok (.iaload, 1) := by decide +kernel
theorem dX3_gives_141 : decode cX3_gives 141 = .ok (.invokestatic 35, 3) := by decide +kernel
theorem dX3_gives_144 : decode cX3_gives 144 = .ok (.iastore, 1) := by decide +kernel
theorem dX3_gives_145 : decode cX3_gives 145 = .ok (.iinc 4 (-1), 3) := by decide +kernel
theorem dX3_gives_148 : decode cX3_gives 148 = .ok (.iinc 5 1, 3) := by decide +kernel
theorem dX3_gives_151 : decode cX3_gives 151 = .ok (.goto (-145), 3) := by decide +kernel
theorem dX3_gives_154 : decode cX3_gives 154 = .ok (.iload 4, 2) := by decide +kernel
theorem dX3_gives_156 : decode cX3_gives 156 = .ok (.iconst 1, 1) := by decide +kernel
theorem dX3_gives_157 : decode cX3_gives 157 = .ok (.if_icmp .lt 12, 3) := by decide +kernel
theorem dX3_gives_160 : decode cX3_gives 160 = .ok (.aload_n 0, 1) := by decide +kernel
theorem dX3_gives_161 : decode cX3_gives 161 = .ok (.getfield 18, 3) := by decide +kernel
theorem dX3_gives_164 : decode cX3_gives 164 = .ok (.iconst 0, 1) := by decide +kernel
theorem dX3_gives_165 : decode cX3_gives 165 = .ok (.iaload, 1) := by decide +kernel
theorem dX3_gives_166 : decode cX3_gives 166 = .ok (.goto 4, 3) := by decide +kernel
theorem dX3_gives_169 : decode cX3_gives 169 = .ok (.iconst 0, 1) := by decide +kernel
theorem dX3_gives_170 : decode cX3_gives 170 = .ok (.ireturn, 1) := by decide +kernel
theorem dX3_single_0 : decode cX3_single 0 = .ok (.iload_n 0, 1) := by decide +kernel
theorem dX3_single_1 : decode cX3_single 1 = .ok (.tableswitch 34 1 3 #[27, 29, 31], 27) := by decide +kernel
theorem dX3_single_28 : decode cX3_single 28 = .ok (.iload_n 2, 1) := by decide +kernel
theorem dX3_single_29 : decode cX3_single 29 = .ok (.ireturn, 1) := by decide +kernel
theorem dX3_single_30 : decode cX3_single 30 = .ok (.iload_n 3, 1) := by decide +kernel
theorem dX3_single_31 : decode cX3_single 31 = .ok (.ireturn, 1) := by decide +kernel
theorem dX3_single_32 : decode cX3_single 32 = .ok (.iload 4, 2) := by decide +kernel
theorem dX3_single_34 : decode cX3_single 34 = .ok (.ireturn, 1) := by decide +kernel
theorem dX3_single_35 : decode cX3_single 35 = .ok (.iload_n 1, 1) := by decide +kernel
theorem dX3_single_36 : decode cX3_single 36 = .ok (.ireturn, 1) := by decide +kernel
theorem dX3_joined_0 : decode cX3_joined 0 = .ok (.iload_n 0, 1) := by decide +kernel
theorem dX3_joined_1 : decode cX3_joined 1 = .ok (.lookupswitch 188 #[(37, 176), (38, 105), (42, 160), (43, 152), (45, 156), (47, 164), (60, 119), (61, 130), (62, 141), (124, 91)], 91) := by decide +kernel
theorem dX3_joined_92 : decode cX3_joined 92 = .ok (.iload_n 1, 1) := by decide +kernel
theorem dX3_joined_93 : decode cX3_joined 93 = .ok (.ifCond .ne 7, 3) := by decide +kernel
theorem dX3_joined_96 : decode cX3_joined 96 = .ok (.iload_n 2, 1) := by decide +kernel
theorem dX3_joined_97 : decode cX3_joined 97 = .ok (.ifCond .eq 7, 3) := by decide +kernel
theorem dX3_joined_100 : decode cX3_joined 100 = .ok (.iconst 1, 1) := by decide +kernel
theorem dX3_joined_101 : decode cX3_joined 101 = .ok (.goto 4, 3) := by decide +kernel
theorem dX3_joined_104 : decode cX3_joined 104 = .ok (.iconst 0, 1) := by decide +kernel
theorem dX3_joined_105 : decode cX3_joined 105 = .ok (.ireturn, 1) := by decide +kernel
theorem dX3_joined_106 : decode cX3_joined 106 = .ok (.iload_n 1, 1) := by decide +kernel
theorem dX3_joined_107 : decode cX3_joined 107 = .ok (.ifCond .eq 11, 3) := by decide +kernel
theorem dX3_joined_110 : decode cX3_joined 110 = .ok (.iload_n 2, 1) := by decide +kernel
theorem dX3_joined_111 : decode cX3_joined 111 = .ok (.ifCond .eq 7, 3) := by decide +kernel
theorem dX3_joined_114 : decode cX3_joined 114 = .ok (.iconst 1, 1) := by decide +kernel
theorem dX3_joined_115 : decode cX3_joined 115 = .ok (.goto 4, 3) := by decide +kernel
theorem dX3_joined_118 : decode cX3_joined 118 = .ok (.iconst 0, 1) := by decide +kernel
theorem dX3_joined_119 : decode cX3_joined 119 = .ok (.ireturn, 1) := by decide +kernel
theorem dX3_joined_120 : decode cX3_joined 120 = .ok (.iload_n 1, 1) := by decide +kernel
theorem dX3_joined_121 : decode cX3_joined 121 = .ok (.iload_n 2, 1) := by decide +kernel
theorem dX3_joined_122 : decode cX3_joined 122 = .ok (.if_icmp .ge 7, 3) := by decide +kernel
theorem dX3_joined_125 : decode cX3_joined 125 = .ok (.iconst 1, 1) := by decide +kernel
theorem dX3_joined_126 : decode cX3_joined 126 = .ok (.goto 4, 3) := by decide +kernel
theorem dX3_joined_129 : decode cX3_joined 129 = .ok (.iconst 0, 1) := by decide +kernel
theorem dX3_joined_130 : decode cX3_joined 130 = .ok (.ireturn, 1) := by decide +kernel
theorem dX3_joined_131 : decode cX3_joined 131 = .ok (.iload_n 1, 1) := by decide +kernel
theorem dX3_joined_132 : decode cX3_joined 132 = .ok (.iload_n 2, 1) := by decide +kernel
theorem dX3_joined_133 : decode cX3_joined 133 = .ok (.if_icmp .ne 7, 3) := by decide +kernel
theorem dX3_joined_136 : decode cX3_joined 136 = .ok (.iconst 1, 1) := by decide +kernel
theorem dX3_joined_137 : decode cX3_joined 137 = .ok (.goto 4, 3) := by decide +kernel
theorem dX3_joined_140 : decode cX3_joined 140 = .ok (.iconst 0, 1) := by decide +kernel
theorem dX3_joined_141 : decode cX3_joined 141 = .ok (.ireturn, 1) := by decide +kernel
theorem dX3_joined_142 : decode cX3_joined 142 = .ok (.iload_n 1, 1) := by decide +kernel
theorem dX3_joined_143 : decode cX3_joined 143 = .ok (.iload_n 2, 1) := by decide +kernel
theorem dX3_joined_144 : decode cX3_joined 144 = .ok (.if_icmp .le 7, 3) := by decide +kernel
theorem dX3_joined_147 : decode cX3_joined 147 = .ok (.iconst 1, 1) := by decide +kernel
theorem dX3_joined_148 : decode cX3_joined 148 = .ok (.goto 4, 3) := by decide +kernel
theorem dX3_joined_151 : decode cX3_joined 151 = .ok (.iconst 0, 1) := by decide +kernel
theorem dX3_joined_152 : decode cX3_joined 152 = .ok (.ireturn, 1) := by decide +kernel
theorem dX3_joined_153 : decode cX3_joined 153 = .ok (.iload_n 1, 1) := by decide +kernel
theorem dX3_joined_154 : decode cX3_joined 154 = .ok (.iload_n 2, 1) := by decide +kernel
theorem dX3_joined_155 : decode cX3_joined 155 = .ok (.iadd, 1) := by decide +kernel
theorem dX3_joined_156 : decode cX3_joined 156 = .ok (.ireturn, 1) := by decide +kernel
theorem dX3_joined_157 : decode cX3_joined 157 = .ok (.iload_n 1, 1) := by decide +kernel
theorem dX3_joined_158 : decode cX3_joined 158 = .ok (.iload_n 2, 1) := by decide +kernel
theorem dX3_joined_159 : decode cX3_joined 159 = .ok (.isub, 1) := by decide +kernel
theorem dX3_joined_160 : decode cX3_joined 160 = .ok (.ireturn, 1) := by decide +kernel
theorem dX3_joined_161 : decode cX3_joined 161 = .ok (.iload_n 1, 1) := by decide +kernel
theorem dX3_joined_162 : decode cX3_joined 162 = .ok (.iload_n 2, 1) := by decide +kernel
theorem dX3_joined_163 : decode cX3_joined 163 = .ok (.imul, 1) := by decide +kernel
theorem dX3_joined_164 : decode cX3_joined 164 = .ok (.ireturn, 1) := by decide +kernel
theorem dX3_joined_165 : decode cX3_joined 165 = .ok (.iload_n 2, 1) := by decide +kernel
theorem dX3_joined_166 : decode cX3_joined 166 = .ok (.ifCond .ne 7, 3) := by decide +kernel
theorem dX3_joined_169 : decode cX3_joined 169 = .ok (.iconst 0, 1) := by decide +kernel
theorem dX3_joined_170 : decode cX3_joined 170 = .ok (.goto 6, 3) := by decide +kernel
theorem dX3_joined_173 : decode cX3_joined 173 = .ok (.iload_n 1, 1) := by decide +kernel
theorem dX3_joined_174 : decode cX3_joined 174 = .ok (.iload_n 2, 1) := by decide +kernel
theorem dX3_joined_175 : decode cX3_joined 175 = .ok (.idiv, 1) := by decide +kernel
theorem dX3_joined_176 : decode cX3_joined 176 = .ok (.ireturn, 1) := by decide +kernel
theorem dX3_joined_177 : decode cX3_joined 177 = .ok (.iload_n 2, 1) := by decide +kernel
theorem dX3_joined_178 : decode cX3_joined 178 = .ok (.ifCond .ne 7, 3) := by decide +kernel
theorem dX3_joined_181 : decode cX3_joined 181 = .ok (.iconst 0, 1) := by decide +kernel
theorem dX3_joined_182 : decode cX3_joined 182 = .ok (.goto 6, 3) := by decide +kernel
theorem dX3_joined_185 : decode cX3_joined 185 = .ok (.iload_n 1, 1) := by decide +kernel
theorem dX3_joined_186 : decode cX3_joined 186 = .ok (.iload_n 2, 1) := by decide +kernel
theorem dX3_joined_187 : decode cX3_joined 187 = .ok (.irem, 1) := by decide +kernel
theorem dX3_joined_188 : decode cX3_joined 188 = .ok (.ireturn, 1) := by decide +kernel
theorem dX3_joined_189 : decode cX3_joined 189 = .ok (.iconst 0, 1) := by decide +kernel
theorem dX3_joined_190 : decode cX3_joined 190 = .ok (.ireturn, 1) := by decide +kernel
theorem dX4_init_0 : decode cX4_init 0 = .ok (.aload_n 0, 1) := by decide +kernel
theorem dX4_init_1 : decode cX4_init 1 = .ok (.invokespecial 1, 3) := by decide +kernel
theorem dX4_init_4 : decode cX4_init 4 = .ok (.aload_n 0, 1) := by decide +kernel
theorem dX4_init_5 : decode cX4_init 5 = .ok (.iconst 0, 1) := by decide +kernel
theorem dX4_init_6 : decode cX4_init 6 = .ok (.iload_n 1, 1) := by decide +kernel
theorem dX4_init_7 : decode cX4_init 7 = .ok (.invokestatic 7, 3) := by decide +kernel
theorem dX4_init_10 : decode cX4_init 10 = .ok (.newarray .int, 2) := by decide +kernel
theorem dX4_init_12 : decode cX4_init 12 = .ok (.putfield 13, 3) := by decide +kernel
theorem dX4_init_15 : decode cX4_init 15 = .ok (.aload_n 0, 1) := by decide +kernel
theorem dX4_init_16 : decode cX4_init 16 = .ok (.iconst 0, 1) := by decide +kernel
theorem dX4_init_17 : decode cX4_init 17 = .ok (.putfield 19, 3) := by decide +kernel
theorem dX4_init_20 : decode cX4_init 20 = .ok (.return_, 1) := by decide +kernel
theorem dX4_add_0 : decode cX4_add 0 = .ok (.aload_n 0, 1) := by decide +kernel
theorem dX4_add_1 : decode cX4_add 1 = .ok (.getfield 19, 3) := by decide +kernel
theorem dX4_add_4 : decode cX4_add 4 = .ok (.aload_n 0, 1) := by decide +kernel
theorem dX4_add_5 : decode cX4_add 5 = .ok (.getfield 13, 3) := by decide +kernel
theorem dX4_add_8 : decode cX4_add 8 = .ok (.arraylength, 1) := by decide +kernel
theorem dX4_add_9 : decode cX4_add 9 = .ok (.if_icmp .ge 23, 3) := by decide +kernel
theorem dX4_add_12 : decode cX4_add 12 = .ok (.aload_n 0, 1) := by decide +kernel
theorem dX4_add_13 : decode cX4_add 13 = .ok (.getfield 13, 3) := by decide +kernel
theorem dX4_add_16 : decode cX4_add 16 = .ok (.aload_n 0, 1) := by decide +kernel
theorem dX4_add_17 : decode cX4_add 17 = .ok (.getfield 19, 3) := by decide +kernel
theorem dX4_add_20 : decode cX4_add 20 = .ok (.iload_n 1, 1) := by decide +kernel
theorem dX4_add_21 : decode cX4_add 21 = .ok (.iastore, 1) := by decide +kernel
theorem dX4_add_22 : decode cX4_add 22 = .ok (.aload_n 0, 1) := by decide +kernel
theorem dX4_add_23 : decode cX4_add 23 = .ok (.dup, 1) := by decide +kernel
theorem dX4_add_24 : decode cX4_add 24 = .ok (.getfield 19, 3) := by decide +kernel
theorem dX4_add_27 : decode cX4_add 27 = .ok (.iconst 1, 1) := by decide +kernel
theorem dX4_add_28 : decode cX4_add 28 = .ok (.iadd, 1) := by decide +kernel
theorem dX4_add_29 : decode cX4_add 29 = .ok (.putfield 19, 3) := by decide +kernel
theorem dX4_add_32 : decode cX4_add 32 = .ok (.return_, 1) := by decide +kernel
theorem dX4_clear_0 : decode cX4_clear 0 = .ok (.aload_n 0, 1) := by decide +kernel
theorem dX4_clear_1 : decode cX4_clear 1 = .ok (.iconst 0, 1) := by decide +kernel
theorem dX4_clear_2 : decode cX4_clear 2 = .ok (.putfield 19, 3) := by decide +kernel
theorem dX4_clear_5 : decode cX4_clear 5 = .ok (.return_, 1) := by decide +kernel
theorem dX4_copy_0 : decode cX4_copy 0 = .ok (.aload_n 0, 1) := by decide +kernel
theorem dX4_copy_1 : decode cX4_copy 1 = .ok (.aload_n 0, 1) := by decide +kernel
theorem dX4_copy_2 : decode cX4_copy 2 = .ok (.getfield 13, 3) := by decide +kernel
theorem dX4_copy_5 : decode cX4_copy 5 = .ok (.arraylength, 1) := by decide +kernel
theorem dX4_copy_6 : decode cX4_copy 6 = .ok (.aload_n 1, 1) := by decide +kernel
theorem dX4_copy_7 : decode cX4_copy 7 = .ok (.getfield 19, 3) := by decide +kernel
theorem dX4_copy_10 : decode cX4_copy 10 = .ok (.invokestatic 23, 3) := by decide +kernel
theorem dX4_copy_13 : decode cX4_copy 13 = .ok (.putfield 19, 3) := by decide +kernel
theorem dX4_copy_16 : decode cX4_copy 16 = .ok (.aload_n 1, 1) := by decide +kernel
theorem dX4_copy_17 : decode cX4_copy 17 = .ok (.getfield 13, 3) := by decide +kernel
theorem dX4_copy_20 : decode cX4_copy 20 = .ok (.iconst 0, 1) := by decide +kernel
theorem dX4_copy_21 : decode cX4_copy 21 = .ok (.aload_n 0, 1) := by decide +kernel
theorem dX4_copy_22 : decode cX4_copy 22 = .ok (.getfield 13, 3) := by decide +kernel
theorem dX4_copy_25 : decode cX4_copy 25 = .ok (.iconst 0, 1) := by decide +kernel
theorem dX4_copy_26 : decode cX4_copy 26 = .ok (.aload_n 0, 1) := by decide +kernel
theorem dX4_copy_27 : decode cX4_copy 27 = .ok (.getfield 19, 3) := by decide +kernel
theorem dX4_copy_30 : decode cX4_copy 30 = .ok (.invokestatic 26, 3) := by decide +kernel
theorem dX4_copy_33 : decode cX4_copy 33 = .ok (.return_, 1) := by decide +kernel
theorem dX5_init_0 : decode cX5_init 0 = .ok (.aload_n 0, 1) := by decide +kernel
theorem dX5_init_1 : decode cX5_init 1 = .ok (.invokespecial 3, 3) := by decide +kernel
theorem dX5_init_4 : decode cX5_init 4 = .ok (.aload_n 0, 1) := by decide +kernel
theorem dX5_init_5 : decode cX5_init 5 = .ok (.new 9, 3) := by decide +kernel
theorem dX5_init_8 : decode cX5_init 8 = .ok (.dup, 1) := by decide +kernel
theorem dX5_init_9 : decode cX5_init 9 = .ok (.invokespecial 11, 3) := by decide +kernel
theorem dX5_init_12 : decode cX5_init 12 = .ok (.putfield 12, 3) := by decide +kernel
theorem dX5_init_15 : decode cX5_init 15 = .ok (.aload_n 0, 1) := by decide +kernel
theorem dX5_init_16 : decode cX5_init 16 = .ok (.new 9, 3) := by decide +kernel
theorem dX5_init_19 : decode cX5_init 19 = .ok (.dup, 1) := by decide +kernel
theorem dX5_init_20 : decode cX5_init 20 = .ok (.invokespecial 11, 3) := by decide +kernel
theorem dX5_init_23 : decode cX5_init 23 = .ok (.putfield 18, 3) := by decide +kernel
theorem dX5_init_26 : decode cX5_init 26 = .ok (.aload_n 0, 1) := by decide +kernel
theorem dX5_init_27 : decode cX5_init 27 = .ok (.new 21, 3) := by decide +kernel
theorem dX5_init_30 : decode cX5_init 30 = .ok (.dup, 1) := by decide +kernel
theorem dX5_init_31 : decode cX5_init 31 = .ok (.aload_n 0, 1) := by decide +kernel
theorem dX5_init_32 : decode cX5_init 32 = .ok (.getfield 12, 3) := by decide +kernel
theorem dX5_init_35 : decode cX5_init 35 = .ok (.aload_n 0, 1) := by decide +kernel
theorem dX5_init_36 : decode cX5_init 36 = .ok (.getfield 18, 3) := by decide +kernel
theorem dX5_init_39 : decode cX5_init 39 = .ok (.invokespecial 23, 3) := by decide +kernel
theorem dX5_init_42 : decode cX5_init 42 = .ok (.putfield 26, 3) := by decide +kernel
theorem dX5_init_45 : decode cX5_init 45 = .ok (.aload_n 0, 1) := by decide +kernel
theorem dX5_init_46 : decode cX5_init 46 = .ok (.new 30, 3) := by decide +kernel
theorem dX5_init_49 : decode cX5_init 49 = .ok (.dup, 1) := by decide +kernel
theorem dX5_init_50 : decode cX5_init 50 = .ok (.bipush 50, 2) := by decide +kernel
theorem dX5_init_52 : decode cX5_init 52 = .ok (.invokespecial 32, 3) := by decide +kernel
theorem dX5_init_55 : decode cX5_init 55 = .ok (.putfield 35, 3) := by decide +kernel
theorem dX5_init_58 : decode cX5_init 58 = .ok (.aload_n 0, 1) := by decide +kernel
theorem dX5_init_59 : decode cX5_init 59 = .ok (.new 30, 3) := by decide +kernel
theorem dX5_init_62 : decode cX5_init 62 = .ok (.dup, 1) := by decide +kernel
theorem dX5_init_63 : decode cX5_init 63 = .ok (.bipush 20, 2) := by decide +kernel
theorem dX5_init_65 : decode cX5_init 65 = .ok (.invokespecial 32, 3) := by decide +kernel
theorem dX5_init_68 : decode cX5_init 68 = .ok (.putfield 39, 3) := by decide +kernel
theorem dX5_init_71 : decode cX5_init 71 = .ok (.aload_n 0, 1) := by decide +kernel
theorem dX5_init_72 : decode cX5_init 72 = .ok (.iconst 1, 1) := by decide +kernel
theorem dX5_init_73 : decode cX5_init 73 = .ok (.putfield 42, 3) := by decide +kernel
theorem dX5_init_76 : decode cX5_init 76 = .ok (.return_, 1) := by decide +kernel
theorem dX5_copy_0 : decode cX5_copy 0 = .ok (.aload_n 0, 1) := by decide +kernel
theorem dX5_copy_1 : decode cX5_copy 1 = .ok (.getfield 12, 3) := by decide +kernel
theorem dX5_copy_4 : decode cX5_copy 4 = .ok (.aload_n 1, 1) := by decide +kernel
theorem dX5_copy_5 : decode cX5_copy 5 = .ok (.getfield 12, 3) := by decide +kernel
theorem dX5_copy_8 : decode cX5_copy 8 = .ok (.invokevirtual 46, 3) := by decide +kernel
theorem dX5_copy_11 : decode cX5_copy 11 = .ok (.aload_n 0, 1) := by decide +kernel
theorem dX5_copy_12 : decode cX5_copy 12 = .ok (.getfield 18, 3) := by decide +kernel
theorem dX5_copy_15 : decode cX5_copy 15 = .ok (.aload_n 1, 1) := by decide +kernel
theorem dX5_copy_16 : decode cX5_copy 16 = .ok (.getfield 18, 3) := by decide +kernel
theorem dX5_copy_19 : decode cX5_copy 19 = .ok (.invokevirtual 46, 3) := by decide +kernel
theorem dX5_copy_22 : decode cX5_copy 22 = .ok (.aload_n 0, 1) := by decide +kernel
theorem dX5_copy_23 : decode cX5_copy 23 = .ok (.getfield 26, 3) := by decide +kernel
theorem dX5_copy_26 : decode cX5_copy 26 = .ok (.aload_n 1, 1) := by decide +kernel
theorem dX5_copy_27 : decode cX5_copy 27 = .ok (.getfield 26, 3) := by decide +kernel
theorem dX5_copy_30 : decode cX5_copy 30 = .ok (.invokevirtual 50, 3) := by decide +kernel
theorem dX5_copy_33 : decode cX5_copy 33 = .ok (.aload_n 0, 1) := by decide +kernel
theorem dX5_copy_34 : decode cX5_copy 34 = .ok (.getfield 35, 3) := by decide +kernel
theorem dX5_copy_37 : decode cX5_copy 37 = .ok (.aload_n 1, 1) := by decide +kernel
theorem dX5_copy_38 : decode cX5_copy 38 = .ok (.getfield 35, 3) := by decide +kernel
theorem dX5_copy_41 : decode cX5_copy 41 = .ok (.invokevirtual 53, 3) := by decide +kernel
theorem dX5_copy_44 : decode cX5_copy 44 = .ok (.aload_n 0, 1) := by decide +kernel
theorem dX5_copy_45 : decode cX5_copy 45 = .ok (.getfield 39, 3) := by decide +kernel
theorem dX5_copy_48 : decode cX5_copy 48 = .ok (.aload_n 1, 1) := by decide +kernel
theorem dX5_copy_49 : decode cX5_copy 49 = .ok (.getfield 39, 3) := by decide +kernel
theorem dX5_copy_52 : decode cX5_copy 52 = .ok (.invokevirtual 53, 3) := by decide +kernel
theorem dX5_copy_55 : decode cX5_copy 55 = .ok (.aload_n 0, 1) := by decide +kernel
theorem dX5_copy_56 : decode cX5_copy 56 = .ok (.aload_n 1, 1) := by decide +kernel
theorem dX5_copy_57 : decode cX5_copy 57 = .ok (.getfield 42, 3) := by decide +kernel
theorem dX5_copy_60 : decode cX5_copy 60 = .ok (.putfield 42, 3) := by decide +kernel
theorem dX5_copy_63 : decode cX5_copy 63 = .ok (.return_, 1) := by decide +kernel
theorem dX5_ruleOf_0 : decode cX5_ruleOf 0 = .ok (.iload_n 1, 1) := by decide +kernel
theorem dX5_ruleOf_1 : decode cX5_ruleOf 1 = .ok (.ifCond .ne 10, 3) := by decide +kernel
theorem dX5_ruleOf_4 : decode cX5_ruleOf 4 = .ok (.aload_n 0, 1) := by decide +kernel
theorem dX5_ruleOf_5 : decode cX5_ruleOf 5 = .ok (.getfield 12, 3) := by decide +kernel
theorem dX5_ruleOf_8 : decode cX5_ruleOf 8 = .ok (.goto 7, 3) := by decide +kernel
theorem dX5_ruleOf_11 : decode cX5_ruleOf 11 = .ok (.aload_n 0, 1) := by decide +kernel
theorem dX5_ruleOf_12 : decode cX5_ruleOf 12 = .ok (.getfield 18, 3) := by decide +kernel
theorem dX5_ruleOf_15 : decode cX5_ruleOf 15 = .ok (.areturn, 1) := by decide +kernel
theorem dX5_stray_0 : decode cX5_stray 0 = .ok (.iconst 0, 1) := by decide +kernel
theorem dX5_stray_1 : decode cX5_stray 1 = .ok (.istore_n 1, 1) := by decide +kernel
theorem dX5_stray_2 : decode cX5_stray 2 = .ok (.iload_n 1, 1) := by decide +kernel
theorem dX5_stray_3 : decode cX5_stray 3 = .ok (.aload_n 0, 1) := by decide +kernel
theorem dX5_stray_4 : decode cX5_stray 4 = .ok (.getfield 26, 3) := by decide +kernel
theorem dX5_stray_7 : decode cX5_stray 7 = .ok (.getfield 56, 3) := by decide +kernel
theorem dX5_stray_10 : decode cX5_stray 10 = .ok (.if_icmp .ge 35, 3) := by decide +kernel
theorem dX5_stray_13 : decode cX5_stray 13 = .ok (.aload_n 0, 1) := by decide +kernel
theorem dX5_stray_14 : decode cX5_stray 14 = .ok (.invokevirtual 59, 3) := by decide +kernel
theorem dX5_stray_17 : decode cX5_stray 17 = .ok (.istore_n 2, 1) := by decide +kernel
theorem dX5_stray_18 : decode cX5_stray 18 = .ok (.iload_n 2, 1) := by decide +kernel
theorem dX5_stray_19 : decode cX5_stray 19 = .ok (.iconst 4, 1) := by decide +kernel
theorem dX5_stray_20 : decode cX5_stray 20 = .ok (.irem, 1) := by decide +kernel
theorem dX5_stray_21 : decode cX5_stray 21 = .ok (.ifCond .ne 18, 3) := by decide +kernel
theorem dX5_stray_24 : decode cX5_stray 24 = .ok (.aload_n 0, 1) := by decide +kernel
theorem dX5_stray_25 : decode cX5_stray 25 = .ok (.getfield 26, 3) := by decide +kernel
theorem dX5_stray_28 : decode cX5_stray 28 = .ok (.getfield 63, 3) := by decide +kernel
theorem dX5_stray_31 : decode cX5_stray 31 = .ok (.iload_n 1, 1) := by decide +kernel
theorem dX5_stray_32 : decode cX5_stray 32 = .ok (.iload_n 2, 1) := by decide +kernel
theorem dX5_stray_33 : decode cX5_stray 33 = .ok (.iconst 4, 1) := by decide +kernel
theorem dX5_stray_34 : decode cX5_stray 34 = .ok (.idiv, 1) := by decide +kernel
theorem dX5_stray_35 : decode cX5_stray 35 = .ok (.bipush 8, 2) := by decide +kernel
theorem dX5_stray_37 : decode cX5_stray 37 = .ok (.irem, 1) := by decide +kernel
theorem dX5_stray_38 : decode cX5_stray 38 = .ok (.iastore, 1) := by decide +kernel
theorem dX5_stray_39 : decode cX5_stray 39 = .ok (.iinc 1 1, 3) := by decide +kernel
theorem dX5_stray_42 : decode cX5_stray 42 = .ok (.goto (-40), 3) := by decide +kernel
theorem dX5_stray_45 : decode cX5_stray 45 = .ok (.return_, 1) := by decide +kernel
theorem dX5_draw_0 : decode cX5_draw 0 = .ok (.aload_n 0, 1) := by decide +kernel
theorem dX5_draw_1 : decode cX5_draw 1 = .ok (.aload_n 0, 1) := by decide +kernel
theorem dX5_draw_2 : decode cX5_draw 2 = .ok (.getfield 42, 3) := by decide +kernel
theorem dX5_draw_5 : decode cX5_draw 5 = .ok (.ldc 67, 2) := by decide +kernel
theorem dX5_draw_7 : decode cX5_draw 7 = .ok (.imul, 1) := by decide +kernel
theorem dX5_draw_8 : decode cX5_draw 8 = .ok (.sipush 12345, 3) := by decide +kernel
theorem dX5_draw_11 : decode cX5_draw 11 = .ok (.iadd, 1) := by decide +kernel
theorem dX5_draw_12 : decode cX5_draw 12 = .ok (.putfield 42, 3) := by decide +kernel
theorem dX5_draw_15 : decode cX5_draw 15 = .ok (.aload_n 0, 1) := by decide +kernel
theorem dX5_draw_16 : decode cX5_draw 16 = .ok (.getfield 42, 3) := by decide +kernel
theorem dX5_draw_19 : decode cX5_draw 19 = .ok (.bipush 8, 2) := by decide +kernel
theorem dX5_draw_21 : decode cX5_draw 21 = .ok (.iushr, 1) := by decide +kernel
theorem dX5_draw_22 : decode cX5_draw 22 = .ok (.ireturn, 1) := by decide +kernel
theorem dX6_init_0 : decode cX6_init 0 = .ok (.aload_n 0, 1) := by decide +kernel
theorem dX6_init_1 : decode cX6_init 1 = .ok (.invokespecial 3, 3) := by decide +kernel
theorem dX6_init_4 : decode cX6_init 4 = .ok (.aload_n 0, 1) := by decide +kernel
theorem dX6_init_5 : decode cX6_init 5 = .ok (.new 9, 3) := by decide +kernel
theorem dX6_init_8 : decode cX6_init 8 = .ok (.dup, 1) := by decide +kernel
theorem dX6_init_9 : decode cX6_init 9 = .ok (.bipush 40, 2) := by decide +kernel
theorem dX6_init_11 : decode cX6_init 11 = .ok (.invokespecial 11, 3) := by decide +kernel
theorem dX6_init_14 : decode cX6_init 14 = .ok (.putfield 14, 3) := by decide +kernel
theorem dX6_init_17 : decode cX6_init 17 = .ok (.aload_n 0, 1) := by decide +kernel
theorem dX6_init_18 : decode cX6_init 18 = .ok (.iconst 0, 1) := by decide +kernel
theorem dX6_init_19 : decode cX6_init 19 = .ok (.putfield 20, 3) := by decide +kernel
theorem dX6_init_22 : decode cX6_init 22 = .ok (.aload_n 0, 1) := by decide +kernel
theorem dX6_init_23 : decode cX6_init 23 = .ok (.iconst 0, 1) := by decide +kernel
theorem dX6_init_24 : decode cX6_init 24 = .ok (.putfield 24, 3) := by decide +kernel
theorem dX6_init_27 : decode cX6_init 27 = .ok (.aload_n 0, 1) := by decide +kernel
theorem dX6_init_28 : decode cX6_init 28 = .ok (.iconst 0, 1) := by decide +kernel
theorem dX6_init_29 : decode cX6_init 29 = .ok (.putfield 27, 3) := by decide +kernel
theorem dX6_init_32 : decode cX6_init 32 = .ok (.return_, 1) := by decide +kernel
theorem dX6_speak_0 : decode cX6_speak 0 = .ok (.aload_n 0, 1) := by decide +kernel
theorem dX6_speak_1 : decode cX6_speak 1 = .ok (.getfield 14, 3) := by decide +kernel
theorem dX6_speak_4 : decode cX6_speak 4 = .ok (.invokevirtual 30, 3) := by decide +kernel
theorem dX6_speak_7 : decode cX6_speak 7 = .ok (.aload_n 0, 1) := by decide +kernel
theorem dX6_speak_8 : decode cX6_speak 8 = .ok (.iload_n 1, 1) := by decide +kernel
theorem dX6_speak_9 : decode cX6_speak 9 = .ok (.putfield 20, 3) := by decide +kernel
theorem dX6_speak_12 : decode cX6_speak 12 = .ok (.aload_n 0, 1) := by decide +kernel
theorem dX6_speak_13 : decode cX6_speak 13 = .ok (.iload_n 2, 1) := by decide +kernel
theorem dX6_speak_14 : decode cX6_speak 14 = .ok (.putfield 24, 3) := by decide +kernel
theorem dX6_speak_17 : decode cX6_speak 17 = .ok (.aload_n 0, 1) := by decide +kernel
theorem dX6_speak_18 : decode cX6_speak 18 = .ok (.iload_n 3, 1) := by decide +kernel
theorem dX6_speak_19 : decode cX6_speak 19 = .ok (.putfield 27, 3) := by decide +kernel
theorem dX6_speak_22 : decode cX6_speak 22 = .ok (.aload_n 0, 1) := by decide +kernel
theorem dX6_speak_23 : decode cX6_speak 23 = .ok (.iload 4, 2) := by decide +kernel
theorem dX6_speak_25 : decode cX6_speak 25 = .ok (.iload 5, 2) := by decide +kernel
theorem dX6_speak_27 : decode cX6_speak 27 = .ok (.iconst 0, 1) := by decide +kernel
theorem dX6_speak_28 : decode cX6_speak 28 = .ok (.invokevirtual 33, 3) := by decide +kernel
theorem dX6_speak_31 : decode cX6_speak 31 = .ok (.ireturn, 1) := by decide +kernel
theorem dX6_own_0 : decode cX6_own 0 = .ok (.aload_n 0, 1) := by decide +kernel
theorem dX6_own_1 : decode cX6_own 1 = .ok (.aload_n 0, 1) := by decide +kernel
theorem dX6_own_2 : decode cX6_own 2 = .ok (.getfield 20, 3) := by decide +kernel
theorem dX6_own_5 : decode cX6_own 5 = .ok (.iload_n 1, 1) := by decide +kernel
theorem dX6_own_6 : decode cX6_own 6 = .ok (.iload_n 2, 1) := by decide +kernel
theorem dX6_own_7 : decode cX6_own 7 = .ok (.iload_n 3, 1) := by decide +kernel
theorem dX6_own_8 : decode cX6_own 8 = .ok (.invokevirtual 37, 3) := by decide +kernel
theorem dX6_own_11 : decode cX6_own 11 = .ok (.ireturn, 1) := by decide +kernel
theorem dX6_of_0 : decode cX6_of 0 = .ok (.iload_n 1, 1) := by decide +kernel
theorem dX6_of_1 : decode cX6_of 1 = .ok (.iload_n 2, 1) := by decide +kernel
theorem dX6_of_2 : decode cX6_of 2 = .ok (.invokestatic 41, 3) := by decide +kernel
theorem dX6_of_5 : decode cX6_of 5 = .ok (.istore 5, 2) := by decide +kernel
theorem dX6_of_7 : decode cX6_of 7 = .ok (.iload 4, 2) := by decide +kernel
theorem dX6_of_9 : decode cX6_of 9 = .ok (.bipush 40, 2) := by decide +kernel
theorem dX6_of_11 : decode cX6_of 11 = .ok (.if_icmp .ge 8, 3) := by decide +kernel
theorem dX6_of_14 : decode cX6_of 14 = .ok (.iload 5, 2) := by decide +kernel
theorem dX6_of_16 : decode cX6_of 16 = .ok (.ifCond .ne 5, 3) := by decide +kernel
theorem dX6_of_19 : decode cX6_of 19 = .ok (.iconst 0, 1) := by decide +kernel
theorem dX6_of_20 : decode cX6_of 20 = .ok (.ireturn, 1) := by decide +kernel
theorem dX6_of_21 : decode cX6_of 21 = .ok (.aload_n 0, 1) := by decide +kernel
theorem dX6_of_22 : decode cX6_of 22 = .ok (.getfield 14, 3) := by decide +kernel
theorem dX6_of_25 : decode cX6_of 25 = .ok (.iload 5, 2) := by decide +kernel
theorem dX6_of_27 : decode cX6_of 27 = .ok (.invokevirtual 45, 3) := by decide +kernel
theorem dX6_of_30 : decode cX6_of 30 = .ok (.aload_n 0, 1) := by decide +kernel
theorem dX6_of_31 : decode cX6_of 31 = .ok (.iload 5, 2) := by decide +kernel
theorem dX6_of_33 : decode cX6_of 33 = .ok (.iload_n 3, 1) := by decide +kernel
theorem dX6_of_34 : decode cX6_of 34 = .ok (.iload 4, 2) := by decide +kernel
theorem dX6_of_36 : decode cX6_of 36 = .ok (.iconst 1, 1) := by decide +kernel
theorem dX6_of_37 : decode cX6_of 37 = .ok (.iadd, 1) := by decide +kernel
theorem dX6_of_38 : decode cX6_of 38 = .ok (.invokevirtual 48, 3) := by decide +kernel
theorem dX6_of_41 : decode cX6_of 41 = .ok (.ireturn, 1) := by decide +kernel
theorem dX6_bodyOf_0 : decode cX6_bodyOf 0 = .ok (.iload_n 0, 1) := by decide +kernel
theorem dX6_bodyOf_1 : decode cX6_bodyOf 1 = .ok (.istore_n 2, 1) := by decide +kernel
theorem dX6_bodyOf_2 : decode cX6_bodyOf 2 = .ok (.iconst 0, 1) := by decide +kernel
theorem dX6_bodyOf_3 : decode cX6_bodyOf 3 = .ok (.istore_n 3, 1) := by decide +kernel
theorem dX6_bodyOf_4 : decode cX6_bodyOf 4 = .ok (.iload_n 3, 1) := by decide +kernel
theorem dX6_bodyOf_5 : decode cX6_bodyOf 5 = .ok (.iconst 3, 1) := by decide +kernel
theorem dX6_bodyOf_6 : decode cX6_bodyOf 6 = .ok (.if_icmp .ge 56, 3) := by decide +kernel
theorem dX6_bodyOf_9 : decode cX6_bodyOf 9 = .ok (.iload_n 2, 1) := by decide +kernel
theorem dX6_bodyOf_10 : decode cX6_bodyOf 10 = .ok (.iconst 0, 1) := by decide +kernel
theorem dX6_bodyOf_11 : decode cX6_bodyOf 11 = .ok (.bipush 6, 2) := by decide +kernel
theorem dX6_bodyOf_13 : decode cX6_bodyOf 13 = .ok (.invokestatic 51, 3) := by decide +kernel
theorem dX6_bodyOf_16 : decode cX6_bodyOf 16 = .ok (.ifCond .eq 46, 3) := by decide +kernel
theorem dX6_bodyOf_19 : decode cX6_bodyOf 19 = .ok (.iload_n 1, 1) := by decide +kernel
theorem dX6_bodyOf_20 : decode cX6_bodyOf 20 = .ok (.iconst 0, 1) := by decide +kernel
theorem dX6_bodyOf_21 : decode cX6_bodyOf 21 = .ok (.iconst 3, 1) := by decide +kernel
theorem dX6_bodyOf_22 : decode cX6_bodyOf 22 = .ok (.invokestatic 51, 3) := by decide +kernel
theorem dX6_bodyOf_25 : decode cX6_bodyOf 25 = .ok (.ifCond .eq 37, 3) := by decide +kernel
theorem dX6_bodyOf_28 : decode cX6_bodyOf 28 = .ok (.getstatic 55, 3) := by decide +kernel
theorem dX6_bodyOf_31 : decode cX6_bodyOf 31 = .ok (.iload_n 2, 1) := by decide +kernel
theorem dX6_bodyOf_32 : decode cX6_bodyOf 32 = .ok (.iconst 4, 1) := by decide +kernel
theorem dX6_bodyOf_33 : decode cX6_bodyOf 33 = .ok (.imul, 1) := by decide +kernel
theorem dX6_bodyOf_34 : decode cX6_bodyOf 34 = .ok (.iload_n 1, 1) := by decide +kernel
theorem dX6_bodyOf_35 : decode cX6_bodyOf 35 = .ok (.iadd, 1) := by decide +kernel
theorem dX6_bodyOf_36 : decode cX6_bodyOf 36 = .ok (.iaload, 1) := by decide +kernel
theorem dX6_bodyOf_37 : decode cX6_bodyOf 37 = .ok (.ifCond .eq 13, 3) := by decide +kernel
theorem dX6_bodyOf_40 : decode cX6_bodyOf 40 = .ok (.getstatic 55, 3) := by decide +kernel
theorem dX6_bodyOf_43 : decode cX6_bodyOf 43 = .ok (.iload_n 2, 1) := by decide +kernel
theorem dX6_bodyOf_44 : decode cX6_bodyOf 44 = .ok (.iconst 4, 1) := by decide +kernel
theorem dX6_bodyOf_45 : decode cX6_bodyOf 45 = .ok (.imul, 1) := by decide +kernel
theorem dX6_bodyOf_46 : decode cX6_bodyOf 46 = .ok (.iload_n 1, 1) := by decide +kernel
theorem dX6_bodyOf_47 : decode cX6_bodyOf 47 = .ok (.iadd, 1) := by decide +kernel
theorem dX6_bodyOf_48 : decode cX6_bodyOf 48 = .ok (.iaload, 1) := by decide +kernel
theorem dX6_bodyOf_49 : decode cX6_bodyOf 49 = .ok (.ireturn, 1) := by decide +kernel
theorem dX6_bodyOf_50 : decode cX6_bodyOf 50 = .ok (.getstatic 59, 3) := by decide +kernel
theorem dX6_bodyOf_53 : decode cX6_bodyOf 53 = .ok (.iload_n 2, 1) := by decide +kernel
theorem dX6_bodyOf_54 : decode cX6_bodyOf 54 = .ok (.iaload, 1) := by decide +kernel
theorem dX6_bodyOf_55 : decode cX6_bodyOf 55 = .ok (.istore_n 2, 1) := by decide +kernel
theorem dX6_bodyOf_56 : decode cX6_bodyOf 56 = .ok (.iinc 3 1, 3) := by decide +kernel
theorem dX6_bodyOf_59 : decode cX6_bodyOf 59 = .ok (.goto (-55), 3) := by decide +kernel
theorem dX6_bodyOf_62 : decode cX6_bodyOf 62 = .ok (.iconst 0, 1) := by decide +kernel
theorem dX6_bodyOf_63 : decode cX6_bodyOf 63 = .ok (.ireturn, 1) := by decide +kernel
theorem dX6_work_0 : decode cX6_work 0 = .ok (.iload_n 1, 1) := by decide +kernel
theorem dX6_work_1 : decode cX6_work 1 = .ok (.lookupswitch 236 #[(10, 99), (11, 106), (12, 116), (13, 123), (20, 139), (30, 150), (40, 167), (50, 177), (60, 194), (70, 205), (71, 219)], 99) := by decide +kernel
theorem dX6_work_100 : decode cX6_work 100 = .ok (.iload_n 2, 1) := by decide +kernel
theorem dX6_work_101 : decode cX6_work 101 = .ok (.aload_n 0, 1) := by decide +kernel
theorem dX6_work_102 : decode cX6_work 102 = .ok (.getfield 24, 3) := by decide +kernel
theorem dX6_work_105 : decode cX6_work 105 = .ok (.iadd, 1) := by decide +kernel
theorem dX6_work_106 : decode cX6_work 106 = .ok (.ireturn, 1) := by decide +kernel
theorem dX6_work_107 : decode cX6_work 107 = .ok (.aload_n 0, 1) := by decide +kernel
theorem dX6_work_108 : decode cX6_work 108 = .ok (.iconst 0, 1) := by decide +kernel
theorem dX6_work_109 : decode cX6_work 109 = .ok (.iload_n 2, 1) := by decide +kernel
theorem dX6_work_110 : decode cX6_work 110 = .ok (.iload_n 3, 1) := by decide +kernel
theorem dX6_work_111 : decode cX6_work 111 = .ok (.invokevirtual 33, 3) := by decide +kernel
theorem dX6_work_114 : decode cX6_work 114 = .ok (.iconst 2, 1) := by decide +kernel
theorem dX6_work_115 : decode cX6_work 115 = .ok (.imul, 1) := by decide +kernel
theorem dX6_work_116 : decode cX6_work 116 = .ok (.ireturn, 1) := by decide +kernel
theorem dX6_work_117 : decode cX6_work 117 = .ok (.iload_n 2, 1) := by decide +kernel
theorem dX6_work_118 : decode cX6_work 118 = .ok (.aload_n 0, 1) := by decide +kernel
theorem dX6_work_119 : decode cX6_work 119 = .ok (.getfield 27, 3) := by decide +kernel
theorem dX6_work_122 : decode cX6_work 122 = .ok (.isub, 1) := by decide +kernel
theorem dX6_work_123 : decode cX6_work 123 = .ok (.ireturn, 1) := by decide +kernel
theorem dX6_work_124 : decode cX6_work 124 = .ok (.aload_n 0, 1) := by decide +kernel
theorem dX6_work_125 : decode cX6_work 125 = .ok (.iconst 1, 1) := by decide +kernel
theorem dX6_work_126 : decode cX6_work 126 = .ok (.iload_n 2, 1) := by decide +kernel
theorem dX6_work_127 : decode cX6_work 127 = .ok (.iload_n 3, 1) := by decide +kernel
theorem dX6_work_128 : decode cX6_work 128 = .ok (.invokevirtual 33, 3) := by decide +kernel
theorem dX6_work_131 : decode cX6_work 131 = .ok (.aload_n 0, 1) := by decide +kernel
theorem dX6_work_132 : decode cX6_work 132 = .ok (.iconst 2, 1) := by decide +kernel
theorem dX6_work_133 : decode cX6_work 133 = .ok (.iload_n 2, 1) := by decide +kernel
theorem dX6_work_134 : decode cX6_work 134 = .ok (.iload_n 3, 1) := by decide +kernel
theorem dX6_work_135 : decode cX6_work 135 = .ok (.invokevirtual 33, 3) := by decide +kernel
theorem dX6_work_138 : decode cX6_work 138 = .ok (.ixor, 1) := by decide +kernel
theorem dX6_work_139 : decode cX6_work 139 = .ok (.ireturn, 1) := by decide +kernel
theorem dX6_work_140 : decode cX6_work 140 = .ok (.aload_n 0, 1) := by decide +kernel
theorem dX6_work_141 : decode cX6_work 141 = .ok (.iconst 0, 1) := by decide +kernel
theorem dX6_work_142 : decode cX6_work 142 = .ok (.iconst 0, 1) := by decide +kernel
theorem dX6_work_143 : decode cX6_work 143 = .ok (.iload_n 2, 1) := by decide +kernel
theorem dX6_work_144 : decode cX6_work 144 = .ok (.iload_n 3, 1) := by decide +kernel
theorem dX6_work_145 : decode cX6_work 145 = .ok (.invokevirtual 37, 3) := by decide +kernel
theorem dX6_work_148 : decode cX6_work 148 = .ok (.iconst 3, 1) := by decide +kernel
theorem dX6_work_149 : decode cX6_work 149 = .ok (.imul, 1) := by decide +kernel
theorem dX6_work_150 : decode cX6_work 150 = .ok (.ireturn, 1) := by decide +kernel
theorem dX6_work_151 : decode cX6_work 151 = .ok (.aload_n 0, 1) := by decide +kernel
theorem dX6_work_152 : decode cX6_work 152 = .ok (.iconst 0, 1) := by decide +kernel
theorem dX6_work_153 : decode cX6_work 153 = .ok (.iconst 1, 1) := by decide +kernel
theorem dX6_work_154 : decode cX6_work 154 = .ok (.iload_n 2, 1) := by decide +kernel
theorem dX6_work_155 : decode cX6_work 155 = .ok (.iload_n 3, 1) := by decide +kernel
theorem dX6_work_156 : decode cX6_work 156 = .ok (.invokevirtual 37, 3) := by decide +kernel
theorem dX6_work_159 : decode cX6_work 159 = .ok (.aload_n 0, 1) := by decide +kernel
theorem dX6_work_160 : decode cX6_work 160 = .ok (.iconst 2, 1) := by decide +kernel
theorem dX6_work_161 : decode cX6_work 161 = .ok (.iconst 1, 1) := by decide +kernel
theorem dX6_work_162 : decode cX6_work 162 = .ok (.iload_n 3, 1) := by decide +kernel
theorem dX6_work_163 : decode cX6_work 163 = .ok (.invokevirtual 33, 3) := by decide +kernel
theorem dX6_work_166 : decode cX6_work 166 = .ok (.isub, 1) := by decide +kernel
theorem dX6_work_167 : decode cX6_work 167 = .ok (.ireturn, 1) := by decide +kernel
theorem dX6_work_168 : decode cX6_work 168 = .ok (.aload_n 0, 1) := by decide +kernel
theorem dX6_work_169 : decode cX6_work 169 = .ok (.iconst 0, 1) := by decide +kernel
theorem dX6_work_170 : decode cX6_work 170 = .ok (.iconst 2, 1) := by decide +kernel
theorem dX6_work_171 : decode cX6_work 171 = .ok (.iload_n 2, 1) := by decide +kernel
theorem dX6_work_172 : decode cX6_work 172 = .ok (.iload_n 3, 1) := by decide +kernel
theorem dX6_work_173 : decode cX6_work 173 = .ok (.invokevirtual 37, 3) := by decide +kernel
theorem dX6_work_176 : decode cX6_work 176 = .ok (.ineg, 1) := by decide +kernel
theorem dX6_work_177 : decode cX6_work 177 = .ok (.ireturn, 1) := by decide +kernel
theorem dX6_work_178 : decode cX6_work 178 = .ok (.aload_n 0, 1) := by decide +kernel
theorem dX6_work_179 : decode cX6_work 179 = .ok (.iconst 1, 1) := by decide +kernel
theorem dX6_work_180 : decode cX6_work 180 = .ok (.iconst 3, 1) := by decide +kernel
theorem dX6_work_181 : decode cX6_work 181 = .ok (.iload_n 2, 1) := by decide +kernel
theorem dX6_work_182 : decode cX6_work 182 = .ok (.iload_n 3, 1) := by decide +kernel
theorem dX6_work_183 : decode cX6_work 183 = .ok (.invokevirtual 37, 3) := by decide +kernel
theorem dX6_work_186 : decode cX6_work 186 = .ok (.aload_n 0, 1) := by decide +kernel
theorem dX6_work_187 : decode cX6_work 187 = .ok (.iconst 0, 1) := by decide +kernel
theorem dX6_work_188 : decode cX6_work 188 = .ok (.iconst 2, 1) := by decide +kernel
theorem dX6_work_189 : decode cX6_work 189 = .ok (.iload_n 3, 1) := by decide +kernel
theorem dX6_work_190 : decode cX6_work 190 = .ok (.invokevirtual 33, 3) := by decide +kernel
theorem dX6_work_193 : decode cX6_work 193 = .ok (.isub, 1) := by decide +kernel
theorem dX6_work_194 : decode cX6_work 194 = .ok (.ireturn, 1) := by decide +kernel
theorem dX6_work_195 : decode cX6_work 195 = .ok (.aload_n 0, 1) := by decide +kernel
theorem dX6_work_196 : decode cX6_work 196 = .ok (.iconst 2, 1) := by decide +kernel
theorem dX6_work_197 : decode cX6_work 197 = .ok (.iconst 1, 1) := by decide +kernel
theorem dX6_work_198 : decode cX6_work 198 = .ok (.iload_n 2, 1) := by decide +kernel
theorem dX6_work_199 : decode cX6_work 199 = .ok (.iconst 1, 1) := by decide +kernel
theorem dX6_work_200 : decode cX6_work 200 = .ok (.iadd, 1) := by decide +kernel
theorem dX6_work_201 : decode cX6_work 201 = .ok (.iload_n 3, 1) := by decide +kernel
theorem dX6_work_202 : decode cX6_work 202 = .ok (.invokevirtual 37, 3) := by decide +kernel
theorem dX6_work_205 : decode cX6_work 205 = .ok (.ireturn, 1) := by decide +kernel
theorem dX6_work_206 : decode cX6_work 206 = .ok (.aload_n 0, 1) := by decide +kernel
theorem dX6_work_207 : decode cX6_work 207 = .ok (.iconst 3, 1) := by decide +kernel
theorem dX6_work_208 : decode cX6_work 208 = .ok (.iconst 2, 1) := by decide +kernel
theorem dX6_work_209 : decode cX6_work 209 = .ok (.iload_n 2, 1) := by decide +kernel
theorem dX6_work_210 : decode cX6_work 210 = .ok (.iload_n 3, 1) := by decide +kernel
theorem dX6_work_211 : decode cX6_work 211 = .ok (.invokevirtual 37, 3) := by decide +kernel
theorem dX6_work_214 : decode cX6_work 214 = .ok (.aload_n 0, 1) := by decide +kernel
theorem dX6_work_215 : decode cX6_work 215 = .ok (.getfield 24, 3) := by decide +kernel
theorem dX6_work_218 : decode cX6_work 218 = .ok (.ixor, 1) := by decide +kernel
theorem dX6_work_219 : decode cX6_work 219 = .ok (.ireturn, 1) := by decide +kernel
theorem dX6_work_220 : decode cX6_work 220 = .ok (.aload_n 0, 1) := by decide +kernel
theorem dX6_work_221 : decode cX6_work 221 = .ok (.iconst 1, 1) := by decide +kernel
theorem dX6_work_222 : decode cX6_work 222 = .ok (.iload_n 2, 1) := by decide +kernel
theorem dX6_work_223 : decode cX6_work 223 = .ok (.iload_n 3, 1) := by decide +kernel
theorem dX6_work_224 : decode cX6_work 224 = .ok (.invokevirtual 33, 3) := by decide +kernel
theorem dX6_work_227 : decode cX6_work 227 = .ok (.aload_n 0, 1) := by decide +kernel
theorem dX6_work_228 : decode cX6_work 228 = .ok (.iconst 3, 1) := by decide +kernel
theorem dX6_work_229 : decode cX6_work 229 = .ok (.iconst 3, 1) := by decide +kernel
theorem dX6_work_230 : decode cX6_work 230 = .ok (.iload_n 2, 1) := by decide +kernel
theorem dX6_work_231 : decode cX6_work 231 = .ok (.iload_n 3, 1) := by decide +kernel
theorem dX6_work_232 : decode cX6_work 232 = .ok (.invokevirtual 37, 3) := by decide +kernel
theorem dX6_work_235 : decode cX6_work 235 = .ok (.isub, 1) := by decide +kernel
theorem dX6_work_236 : decode cX6_work 236 = .ok (.ireturn, 1) := by decide +kernel
theorem dX6_work_237 : decode cX6_work 237 = .ok (.iconst 0, 1) := by decide +kernel
theorem dX6_work_238 : decode cX6_work 238 = .ok (.ireturn, 1) := by decide +kernel
theorem dX7_init_0 : decode cX7_init 0 = .ok (.aload_n 0, 1) := by decide +kernel
theorem dX7_init_1 : decode cX7_init 1 = .ok (.invokespecial 1, 3) := by decide +kernel
theorem dX7_init_4 : decode cX7_init 4 = .ok (.aload_n 0, 1) := by decide +kernel
theorem dX7_init_5 : decode cX7_init 5 = .ok (.new 7, 3) := by decide +kernel
theorem dX7_init_8 : decode cX7_init 8 = .ok (.dup, 1) := by decide +kernel
theorem dX7_init_9 : decode cX7_init 9 = .ok (.invokespecial 9, 3) := by decide +kernel
theorem dX7_init_12 : decode cX7_init 12 = .ok (.putfield 10, 3) := by decide +kernel
theorem dX7_init_15 : decode cX7_init 15 = .ok (.aload_n 0, 1) := by decide +kernel
theorem dX7_init_16 : decode cX7_init 16 = .ok (.new 7, 3) := by decide +kernel
theorem dX7_init_19 : decode cX7_init 19 = .ok (.dup, 1) := by decide +kernel
theorem dX7_init_20 : decode cX7_init 20 = .ok (.invokespecial 9, 3) := by decide +kernel
theorem dX7_init_23 : decode cX7_init 23 = .ok (.putfield 16, 3) := by decide +kernel
theorem dX7_init_26 : decode cX7_init 26 = .ok (.aload_n 0, 1) := by decide +kernel
theorem dX7_init_27 : decode cX7_init 27 = .ok (.new 19, 3) := by decide +kernel
theorem dX7_init_30 : decode cX7_init 30 = .ok (.dup, 1) := by decide +kernel
theorem dX7_init_31 : decode cX7_init 31 = .ok (.aload_n 0, 1) := by decide +kernel
theorem dX7_init_32 : decode cX7_init 32 = .ok (.getfield 10, 3) := by decide +kernel
theorem dX7_init_35 : decode cX7_init 35 = .ok (.getfield 21, 3) := by decide +kernel
theorem dX7_init_38 : decode cX7_init 38 = .ok (.aload_n 0, 1) := by decide +kernel
theorem dX7_init_39 : decode cX7_init 39 = .ok (.getfield 10, 3) := by decide +kernel
theorem dX7_init_42 : decode cX7_init 42 = .ok (.getfield 25, 3) := by decide +kernel
theorem dX7_init_45 : decode cX7_init 45 = .ok (.invokespecial 28, 3) := by decide +kernel
theorem dX7_init_48 : decode cX7_init 48 = .ok (.putfield 31, 3) := by decide +kernel
theorem dX7_init_51 : decode cX7_init 51 = .ok (.aload_n 0, 1) := by decide +kernel
theorem dX7_init_52 : decode cX7_init 52 = .ok (.new 35, 3) := by decide +kernel
theorem dX7_init_55 : decode cX7_init 55 = .ok (.dup, 1) := by decide +kernel
theorem dX7_init_56 : decode cX7_init 56 = .ok (.invokespecial 37, 3) := by decide +kernel
theorem dX7_init_59 : decode cX7_init 59 = .ok (.putfield 38, 3) := by decide +kernel
theorem dX7_init_62 : decode cX7_init 62 = .ok (.aload_n 0, 1) := by decide +kernel
theorem dX7_init_63 : decode cX7_init 63 = .ok (.new 42, 3) := by decide +kernel
theorem dX7_init_66 : decode cX7_init 66 = .ok (.dup, 1) := by decide +kernel
theorem dX7_init_67 : decode cX7_init 67 = .ok (.invokespecial 44, 3) := by decide +kernel
theorem dX7_init_70 : decode cX7_init 70 = .ok (.putfield 45, 3) := by decide +kernel
theorem dX7_init_73 : decode cX7_init 73 = .ok (.aload_n 0, 1) := by decide +kernel
theorem dX7_init_74 : decode cX7_init 74 = .ok (.iconst 4, 1) := by decide +kernel
theorem dX7_init_75 : decode cX7_init 75 = .ok (.anewarray 49, 3) := by decide +kernel
theorem dX7_init_78 : decode cX7_init 78 = .ok (.putfield 51, 3) := by decide +kernel
theorem dX7_init_81 : decode cX7_init 81 = .ok (.iconst 0, 1) := by decide +kernel
theorem dX7_init_82 : decode cX7_init 82 = .ok (.istore_n 1, 1) := by decide +kernel
theorem dX7_init_83 : decode cX7_init 83 = .ok (.iload_n 1, 1) := by decide +kernel
theorem dX7_init_84 : decode cX7_init 84 = .ok (.iconst 4, 1) := by decide +kernel
theorem dX7_init_85 : decode cX7_init 85 = .ok (.if_icmp .ge 22, 3) := by decide +kernel
theorem dX7_init_88 : decode cX7_init 88 = .ok (.aload_n 0, 1) := by decide +kernel
theorem dX7_init_89 : decode cX7_init 89 = .ok (.getfield 51, 3) := by decide +kernel
theorem dX7_init_92 : decode cX7_init 92 = .ok (.iload_n 1, 1) := by decide +kernel
theorem dX7_init_93 : decode cX7_init 93 = .ok (.new 49, 3) := by decide +kernel
theorem dX7_init_96 : decode cX7_init 96 = .ok (.dup, 1) := by decide +kernel
theorem dX7_init_97 : decode cX7_init 97 = .ok (.invokespecial 55, 3) := by decide +kernel
theorem dX7_init_100 : decode cX7_init 100 = .ok (.aastore, 1) := by decide +kernel
theorem dX7_init_101 : decode cX7_init 101 = .ok (.iinc 1 1, 3) := by decide +kernel
theorem dX7_init_104 : decode cX7_init 104 = .ok (.goto (-21), 3) := by decide +kernel
theorem dX7_init_107 : decode cX7_init 107 = .ok (.aload_n 0, 1) := by decide +kernel
theorem dX7_init_108 : decode cX7_init 108 = .ok (.bipush 6, 2) := by decide +kernel
theorem dX7_init_110 : decode cX7_init 110 = .ok (.newarray .int, 2) := by decide +kernel
theorem dX7_init_112 : decode cX7_init 112 = .ok (.putfield 56, 3) := by decide +kernel
theorem dX7_init_115 : decode cX7_init 115 = .ok (.aload_n 0, 1) := by decide +kernel
theorem dX7_init_116 : decode cX7_init 116 = .ok (.bipush 8, 2) := by decide +kernel
theorem dX7_init_118 : decode cX7_init 118 = .ok (.newarray .int, 2) := by decide +kernel
theorem dX7_init_120 : decode cX7_init 120 = .ok (.putfield 60, 3) := by decide +kernel
theorem dX7_init_123 : decode cX7_init 123 = .ok (.aload_n 0, 1) := by decide +kernel
theorem dX7_init_124 : decode cX7_init 124 = .ok (.iconst 0, 1) := by decide +kernel
theorem dX7_init_125 : decode cX7_init 125 = .ok (.putfield 63, 3) := by decide +kernel
theorem dX7_init_128 : decode cX7_init 128 = .ok (.return_, 1) := by decide +kernel
theorem dX7_soul_0 : decode cX7_soul 0 = .ok (.iload_n 1, 1) := by decide +kernel
theorem dX7_soul_1 : decode cX7_soul 1 = .ok (.invokestatic 67, 3) := by decide +kernel
theorem dX7_soul_4 : decode cX7_soul 4 = .ok (.ifCond .eq 10, 3) := by decide +kernel
theorem dX7_soul_7 : decode cX7_soul 7 = .ok (.iload_n 2, 1) := by decide +kernel
theorem dX7_soul_8 : decode cX7_soul 8 = .ok (.invokestatic 71, 3) := by decide +kernel
theorem dX7_soul_11 : decode cX7_soul 11 = .ok (.ifCond .ne 9, 3) := by decide +kernel
theorem dX7_soul_14 : decode cX7_soul 14 = .ok (.aload_n 0, 1) := by decide +kernel
theorem dX7_soul_15 : decode cX7_soul 15 = .ok (.iconst 1, 1) := by decide +kernel
theorem dX7_soul_16 : decode cX7_soul 16 = .ok (.invokevirtual 74, 3) := by decide +kernel
theorem dX7_soul_19 : decode cX7_soul 19 = .ok (.ireturn, 1) := by decide +kernel
theorem dX7_soul_20 : decode cX7_soul 20 = .ok (.aload_n 0, 1) := by decide +kernel
theorem dX7_soul_21 : decode cX7_soul 21 = .ok (.getfield 10, 3) := by decide +kernel
theorem dX7_soul_24 : decode cX7_soul 24 = .ok (.getfield 78, 3) := by decide +kernel
theorem dX7_soul_27 : decode cX7_soul 27 = .ok (.getfield 81, 3) := by decide +kernel
theorem dX7_soul_30 : decode cX7_soul 30 = .ok (.bipush 8, 2) := by decide +kernel
theorem dX7_soul_32 : decode cX7_soul 32 = .ok (.if_icmp .lt 9, 3) := by decide +kernel
theorem dX7_soul_35 : decode cX7_soul 35 = .ok (.aload_n 0, 1) := by decide +kernel
theorem dX7_soul_36 : decode cX7_soul 36 = .ok (.iconst 4, 1) := by decide +kernel
theorem dX7_soul_37 : decode cX7_soul 37 = .ok (.invokevirtual 74, 3) := by decide +kernel
theorem dX7_soul_40 : decode cX7_soul 40 = .ok (.ireturn, 1) := by decide +kernel
theorem dX7_soul_41 : decode cX7_soul 41 = .ok (.aload_n 0, 1) := by decide +kernel
theorem dX7_soul_42 : decode cX7_soul 42 = .ok (.getfield 10, 3) := by decide +kernel
theorem dX7_soul_45 : decode cX7_soul 45 = .ok (.getfield 78, 3) := by decide +kernel
theorem dX7_soul_48 : decode cX7_soul 48 = .ok (.iload_n 1, 1) := by decide +kernel
theorem dX7_soul_49 : decode cX7_soul 49 = .ok (.iload_n 2, 1) := by decide +kernel
theorem dX7_soul_50 : decode cX7_soul 50 = .ok (.invokevirtual 84, 3) := by decide +kernel
theorem dX7_soul_53 : decode cX7_soul 53 = .ok (.ireturn, 1) := by decide +kernel
theorem dX7_ofSoul_0 : decode cX7_ofSoul 0 = .ok (.aload_n 0, 1) := by decide +kernel
theorem dX7_ofSoul_1 : decode cX7_ofSoul 1 = .ok (.iload_n 1, 1) := by decide +kernel
theorem dX7_ofSoul_2 : decode cX7_ofSoul 2 = .ok (.invokevirtual 88, 3) := by decide +kernel
theorem dX7_ofSoul_5 : decode cX7_ofSoul 5 = .ok (.ifCond .ne 9, 3) := by decide +kernel
theorem dX7_ofSoul_8 : decode cX7_ofSoul 8 = .ok (.aload_n 0, 1) := by decide +kernel
theorem dX7_ofSoul_9 : decode cX7_ofSoul 9 = .ok (.iconst 1, 1) := by decide +kernel
theorem dX7_ofSoul_10 : decode cX7_ofSoul 10 = .ok (.invokevirtual 74, 3) := by decide +kernel
theorem dX7_ofSoul_13 : decode cX7_ofSoul 13 = .ok (.ireturn, 1) := by decide +kernel
theorem dX7_ofSoul_14 : decode cX7_ofSoul 14 = .ok (.aload_n 0, 1) := by decide +kernel
theorem dX7_ofSoul_15 : decode cX7_ofSoul 15 = .ok (.getfield 10, 3) := by decide +kernel
theorem dX7_ofSoul_18 : decode cX7_ofSoul 18 = .ok (.getfield 78, 3) := by decide +kernel
theorem dX7_ofSoul_21 : decode cX7_ofSoul 21 = .ok (.astore_n 3, 1) := by decide +kernel
theorem dX7_ofSoul_22 : decode cX7_ofSoul 22 = .ok (.iload_n 2, 1) := by decide +kernel
theorem dX7_ofSoul_23 : decode cX7_ofSoul 23 = .ok (.tableswitch 109 0 8 #[49, 56, 63, 70, 77, 84, 91, 97, 103], 49) := by decide +kernel
theorem dX7_ofSoul_72 : decode cX7_ofSoul 72 = .ok (.aload_n 3, 1) := by decide +kernel
theorem dX7_ofSoul_73 : decode cX7_ofSoul 73 = .ok (.getfield 91, 3) := by decide +kernel
theorem dX7_ofSoul_76 : decode cX7_ofSoul 76 = .ok (.iload_n 1, 1) := by decide +kernel
theorem dX7_ofSoul_77 : decode cX7_ofSoul 77 = .ok (.iaload, 1) := by decide +kernel
theorem dX7_ofSoul_78 : decode cX7_ofSoul 78 = .ok (.ireturn, 1) := by decide +kernel
theorem dX7_ofSoul_79 : decode cX7_ofSoul 79 = .ok (.aload_n 3, 1) := by decide +kernel
theorem dX7_ofSoul_80 : decode cX7_ofSoul 80 = .ok (.getfield 94, 3) := by decide +kernel
theorem dX7_ofSoul_83 : decode cX7_ofSoul 83 = .ok (.iload_n 1, 1) := by decide +kernel
theorem dX7_ofSoul_84 : decode cX7_ofSoul 84 = .ok (.iaload, 1) := by decide +kernel
theorem dX7_ofSoul_85 : decode cX7_ofSoul 85 = .ok (.ireturn, 1) := by decide +kernel
theorem dX7_ofSoul_86 : decode cX7_ofSoul 86 = .ok (.aload_n 3, 1) := by decide +kernel
theorem dX7_ofSoul_87 : decode cX7_ofSoul 87 = .ok (.getfield 97, 3) := by decide +kernel
theorem dX7_ofSoul_90 : decode cX7_ofSoul 90 = .ok (.iload_n 1, 1) := by decide +kernel
theorem dX7_ofSoul_91 : decode cX7_ofSoul 91 = .ok (.iaload, 1) := by decide +kernel
theorem dX7_ofSoul_92 : decode cX7_ofSoul 92 = .ok (.ireturn, 1) := by decide +kernel
theorem dX7_ofSoul_93 : decode cX7_ofSoul 93 = .ok (.aload_n 3, 1) := by decide +kernel
theorem dX7_ofSoul_94 : decode cX7_ofSoul 94 = .ok (.getfield 100, 3) := by decide +kernel
theorem dX7_ofSoul_97 : decode cX7_ofSoul 97 = .ok (.iload_n 1, 1) := by decide +kernel
theorem dX7_ofSoul_98 : decode cX7_ofSoul 98 = .ok (.iaload, 1) := by decide +kernel
theorem dX7_ofSoul_99 : decode cX7_ofSoul 99 = .ok (.ireturn, 1) := by decide +kernel
theorem dX7_ofSoul_100 : decode cX7_ofSoul 100 = .ok (.aload_n 3, 1) := by decide +kernel
theorem dX7_ofSoul_101 : decode cX7_ofSoul 101 = .ok (.getfield 103, 3) := by decide +kernel
theorem dX7_ofSoul_104 : decode cX7_ofSoul 104 = .ok (.iload_n 1, 1) := by decide +kernel
theorem dX7_ofSoul_105 : decode cX7_ofSoul 105 = .ok (.iaload, 1) := by decide +kernel
theorem dX7_ofSoul_106 : decode cX7_ofSoul 106 = .ok (.ireturn, 1) := by decide +kernel
theorem dX7_ofSoul_107 : decode cX7_ofSoul 107 = .ok (.aload_n 3, 1) := by decide +kernel
theorem dX7_ofSoul_108 : decode cX7_ofSoul 108 = .ok (.getfield 106, 3) := by decide +kernel
theorem dX7_ofSoul_111 : decode cX7_ofSoul 111 = .ok (.iload_n 1, 1) := by decide +kernel
theorem dX7_ofSoul_112 : decode cX7_ofSoul 112 = .ok (.iaload, 1) := by decide +kernel
theorem dX7_ofSoul_113 : decode cX7_ofSoul 113 = .ok (.ireturn, 1) := by decide +kernel
theorem dX7_ofSoul_114 : decode cX7_ofSoul 114 = .ok (.aload_n 3, 1) := by decide +kernel
theorem dX7_ofSoul_115 : decode cX7_ofSoul 115 = .ok (.iload_n 1, 1) := by decide +kernel
theorem dX7_ofSoul_116 : decode cX7_ofSoul 116 = .ok (.invokevirtual 109, 3) := by decide +kernel
theorem dX7_ofSoul_119 : decode cX7_ofSoul 119 = .ok (.ireturn, 1) := by decide +kernel
theorem dX7_ofSoul_120 : decode cX7_ofSoul 120 = .ok (.aload_n 3, 1) := by decide +kernel
theorem dX7_ofSoul_121 : decode cX7_ofSoul 121 = .ok (.iload_n 1, 1) := by decide +kernel
theorem dX7_ofSoul_122 : decode cX7_ofSoul 122 = .ok (.invokevirtual 112, 3) := by decide +kernel
theorem dX7_ofSoul_125 : decode cX7_ofSoul 125 = .ok (.ireturn, 1) := by decide +kernel
theorem dX7_ofSoul_126 : decode cX7_ofSoul 126 = .ok (.aload_n 3, 1) := by decide +kernel
theorem dX7_ofSoul_127 : decode cX7_ofSoul 127 = .ok (.iload_n 1, 1) := by decide +kernel
theorem dX7_ofSoul_128 : decode cX7_ofSoul 128 = .ok (.invokevirtual 115, 3) := by decide +kernel
theorem dX7_ofSoul_131 : decode cX7_ofSoul 131 = .ok (.ireturn, 1) := by decide +kernel
theorem dX7_ofSoul_132 : decode cX7_ofSoul 132 = .ok (.aload_n 0, 1) := by decide +kernel
theorem dX7_ofSoul_133 : decode cX7_ofSoul 133 = .ok (.iconst 1, 1) := by decide +kernel
theorem dX7_ofSoul_134 : decode cX7_ofSoul 134 = .ok (.invokevirtual 74, 3) := by decide +kernel
theorem dX7_ofSoul_137 : decode cX7_ofSoul 137 = .ok (.ireturn, 1) := by decide +kernel
theorem dX7_change_0 : decode cX7_change 0 = .ok (.aload_n 0, 1) := by decide +kernel
theorem dX7_change_1 : decode cX7_change 1 = .ok (.iload_n 1, 1) := by decide +kernel
theorem dX7_change_2 : decode cX7_change 2 = .ok (.invokevirtual 88, 3) := by decide +kernel
theorem dX7_change_5 : decode cX7_change 5 = .ok (.ifCond .ne 9, 3) := by decide +kernel
theorem dX7_change_8 : decode cX7_change 8 = .ok (.aload_n 0, 1) := by decide +kernel
theorem dX7_change_9 : decode cX7_change 9 = .ok (.iconst 1, 1) := by decide +kernel
theorem dX7_change_10 : decode cX7_change 10 = .ok (.invokevirtual 74, 3) := by decide +kernel
theorem dX7_change_13 : decode cX7_change 13 = .ok (.ireturn, 1) := by decide +kernel
theorem dX7_change_14 : decode cX7_change 14 = .ok (.aload_n 0, 1) := by decide +kernel
theorem dX7_change_15 : decode cX7_change 15 = .ok (.getfield 10, 3) := by decide +kernel
theorem dX7_change_18 : decode cX7_change 18 = .ok (.getfield 78, 3) := by decide +kernel
theorem dX7_change_21 : decode cX7_change 21 = .ok (.astore 4, 2) := by decide +kernel
theorem dX7_change_23 : decode cX7_change 23 = .ok (.iload_n 2, 1) := by decide +kernel
theorem dX7_change_24 : decode cX7_change 24 = .ok (.tableswitch 88 0 3 #[32, 46, 60, 73], 32) := by decide +kernel
theorem dX7_change_56 : decode cX7_change 56 = .ok (.aload_n 0, 1) := by decide +kernel
theorem dX7_change_57 : decode cX7_change 57 = .ok (.aload 4, 2) := by decide +kernel
theorem dX7_change_59 : decode cX7_change 59 = .ok (.getfield 97, 3) := by decide +kernel
theorem dX7_change_62 : decode cX7_change 62 = .ok (.iload_n 1, 1) := by decide +kernel
theorem dX7_change_63 : decode cX7_change 63 = .ok (.iload_n 3, 1) := by decide +kernel
theorem dX7_change_64 : decode cX7_change 64 = .ok (.bipush 7, 2) := by decide +kernel
theorem dX7_change_66 : decode cX7_change 66 = .ok (.invokevirtual 118, 3) := by decide +kernel
theorem dX7_change_69 : decode cX7_change 69 = .ok (.ireturn, 1) := by decide +kernel
theorem dX7_change_70 : decode cX7_change 70 = .ok (.aload_n 0, 1) := by decide +kernel
theorem dX7_change_71 : decode cX7_change 71 = .ok (.aload 4, 2) := by decide +kernel
theorem dX7_change_73 : decode cX7_change 73 = .ok (.getfield 100, 3) := by decide +kernel
theorem dX7_change_76 : decode cX7_change 76 = .ok (.iload_n 1, 1) := by decide +kernel
theorem dX7_change_77 : decode cX7_change 77 = .ok (.iload_n 3, 1) := by decide +kernel
theorem dX7_change_78 : decode cX7_change 78 = .ok (.bipush 99, 2) := by decide +kernel
theorem dX7_change_80 : decode cX7_change 80 = .ok (.invokevirtual 118, 3) := by decide +kernel
theorem dX7_change_83 : decode cX7_change 83 = .ok (.ireturn, 1) := by decide +kernel
theorem dX7_change_84 : decode cX7_change 84 = .ok (.aload_n 0, 1) := by decide +kernel
theorem dX7_change_85 : decode cX7_change 85 = .ok (.aload 4, 2) := by decide +kernel
theorem dX7_change_87 : decode cX7_change 87 = .ok (.getfield 103, 3) := by decide +kernel
theorem dX7_change_90 : decode cX7_change 90 = .ok (.iload_n 1, 1) := by decide +kernel
theorem dX7_change_91 : decode cX7_change 91 = .ok (.iload_n 3, 1) := by decide +kernel
theorem dX7_change_92 : decode cX7_change 92 = .ok (.iconst 1, 1) := by decide +kernel
theorem dX7_change_93 : decode cX7_change 93 = .ok (.invokevirtual 118, 3) := by decide +kernel
theorem dX7_change_96 : decode cX7_change 96 = .ok (.ireturn, 1) := by decide +kernel
theorem dX7_change_97 : decode cX7_change 97 = .ok (.aload_n 0, 1) := by decide +kernel
theorem dX7_change_98 : decode cX7_change 98 = .ok (.aload 4, 2) := by decide +kernel
theorem dX7_change_100 : decode cX7_change 100 = .ok (.getfield 106, 3) := by decide +kernel
theorem dX7_change_103 : decode cX7_change 103 = .ok (.iload_n 1, 1) := by decide +kernel
theorem dX7_change_104 : decode cX7_change 104 = .ok (.iload_n 3, 1) := by decide +kernel
theorem dX7_change_105 : decode cX7_change 105 = .ok (.sipush 9999, 3) := by decide +kernel
theorem dX7_change_108 : decode cX7_change 108 = .ok (.invokevirtual 118, 3) := by decide +kernel
theorem dX7_change_111 : decode cX7_change 111 = .ok (.ireturn, 1) := by decide +kernel
theorem dX7_change_112 : decode cX7_change 112 = .ok (.aload_n 0, 1) := by decide +kernel
theorem dX7_change_113 : decode cX7_change 113 = .ok (.iconst 1, 1) := by decide +kernel
theorem dX7_change_114 : decode cX7_change 114 = .ok (.invokevirtual 74, 3) := by decide +kernel
theorem dX7_change_117 : decode cX7_change 117 = .ok (.ireturn, 1) := by decide +kernel
theorem dX7_become_0 : decode cX7_become 0 = .ok (.aload_n 0, 1) := by decide +kernel
theorem dX7_become_1 : decode cX7_become 1 = .ok (.iload_n 1, 1) := by decide +kernel
theorem dX7_become_2 : decode cX7_become 2 = .ok (.invokevirtual 88, 3) := by decide +kernel
theorem dX7_become_5 : decode cX7_become 5 = .ok (.ifCond .eq 10, 3) := by decide +kernel
theorem dX7_become_8 : decode cX7_become 8 = .ok (.iload_n 2, 1) := by decide +kernel
theorem dX7_become_9 : decode cX7_become 9 = .ok (.invokestatic 67, 3) := by decide +kernel
theorem dX7_become_12 : decode cX7_become 12 = .ok (.ifCond .ne 9, 3) := by decide +kernel
theorem dX7_become_15 : decode cX7_become 15 = .ok (.aload_n 0, 1) := by decide +kernel
theorem dX7_become_16 : decode cX7_become 16 = .ok (.iconst 1, 1) := by decide +kernel
theorem dX7_become_17 : decode cX7_become 17 = .ok (.invokevirtual 74, 3) := by decide +kernel
theorem dX7_become_20 : decode cX7_become 20 = .ok (.ireturn, 1) := by decide +kernel
theorem dX7_become_21 : decode cX7_become 21 = .ok (.aload_n 0, 1) := by decide +kernel
theorem dX7_become_22 : decode cX7_become 22 = .ok (.getfield 10, 3) := by decide +kernel
theorem dX7_become_25 : decode cX7_become 25 = .ok (.getfield 78, 3) := by decide +kernel
theorem dX7_become_28 : decode cX7_become 28 = .ok (.getfield 91, 3) := by decide +kernel
theorem dX7_become_31 : decode cX7_become 31 = .ok (.iload_n 1, 1) := by decide +kernel
theorem dX7_become_32 : decode cX7_become 32 = .ok (.iaload, 1) := by decide +kernel
theorem dX7_become_33 : decode cX7_become 33 = .ok (.istore_n 3, 1) := by decide +kernel
theorem dX7_become_34 : decode cX7_become 34 = .ok (.aload_n 0, 1) := by decide +kernel
theorem dX7_become_35 : decode cX7_become 35 = .ok (.getfield 10, 3) := by decide +kernel
theorem dX7_become_38 : decode cX7_become 38 = .ok (.getfield 78, 3) := by decide +kernel
theorem dX7_become_41 : decode cX7_become 41 = .ok (.iload_n 1, 1) := by decide +kernel
theorem dX7_become_42 : decode cX7_become 42 = .ok (.iload_n 2, 1) := by decide +kernel
theorem dX7_become_43 : decode cX7_become 43 = .ok (.invokevirtual 122, 3) := by decide +kernel
theorem dX7_become_46 : decode cX7_become 46 = .ok (.iload_n 3, 1) := by decide +kernel
theorem dX7_become_47 : decode cX7_become 47 = .ok (.ireturn, 1) := by decide +kernel
theorem dX7_as_0 : decode cX7_as 0 = .ok (.aload_n 0, 1) := by decide +kernel
theorem dX7_as_1 : decode cX7_as 1 = .ok (.iload_n 1, 1) := by decide +kernel
theorem dX7_as_2 : decode cX7_as 2 = .ok (.invokevirtual 88, 3) := by decide +kernel
theorem dX7_as_5 : decode cX7_as 5 = .ok (.ifCond .eq 13, 3) := by decide +kernel
theorem dX7_as_8 : decode cX7_as 8 = .ok (.iload_n 2, 1) := by decide +kernel
theorem dX7_as_9 : decode cX7_as 9 = .ok (.iconst 0, 1) := by decide +kernel
theorem dX7_as_10 : decode cX7_as 10 = .ok (.bipush 6, 2) := by decide +kernel
theorem dX7_as_12 : decode cX7_as 12 = .ok (.invokestatic 126, 3) := by decide +kernel
theorem dX7_as_15 : decode cX7_as 15 = .ok (.ifCond .ne 9, 3) := by decide +kernel
theorem dX7_as_18 : decode cX7_as 18 = .ok (.aload_n 0, 1) := by decide +kernel
theorem dX7_as_19 : decode cX7_as 19 = .ok (.iconst 1, 1) := by decide +kernel
theorem dX7_as_20 : decode cX7_as 20 = .ok (.invokevirtual 74, 3) := by decide +kernel
theorem dX7_as_23 : decode cX7_as 23 = .ok (.ireturn, 1) := by decide +kernel
theorem dX7_as_24 : decode cX7_as 24 = .ok (.aload_n 0, 1) := by decide +kernel
theorem dX7_as_25 : decode cX7_as 25 = .ok (.getfield 10, 3) := by decide +kernel
theorem dX7_as_28 : decode cX7_as 28 = .ok (.getfield 78, 3) := by decide +kernel
theorem dX7_as_31 : decode cX7_as 31 = .ok (.getfield 91, 3) := by decide +kernel
theorem dX7_as_34 : decode cX7_as 34 = .ok (.iload_n 1, 1) := by decide +kernel
theorem dX7_as_35 : decode cX7_as 35 = .ok (.iaload, 1) := by decide +kernel
theorem dX7_as_36 : decode cX7_as 36 = .ok (.iload_n 2, 1) := by decide +kernel
theorem dX7_as_37 : decode cX7_as 37 = .ok (.invokestatic 130, 3) := by decide +kernel
theorem dX7_as_40 : decode cX7_as 40 = .ok (.ifCond .ne 9, 3) := by decide +kernel
theorem dX7_as_43 : decode cX7_as 43 = .ok (.aload_n 0, 1) := by decide +kernel
theorem dX7_as_44 : decode cX7_as 44 = .ok (.iconst 5, 1) := by decide +kernel
theorem dX7_as_45 : decode cX7_as 45 = .ok (.invokevirtual 74, 3) := by decide +kernel
theorem dX7_as_48 : decode cX7_as 48 = .ok (.ireturn, 1) := by decide +kernel
theorem dX7_as_49 : decode cX7_as 49 = .ok (.aload_n 0, 1) := by decide +kernel
theorem dX7_as_50 : decode cX7_as 50 = .ok (.getfield 10, 3) := by decide +kernel
theorem dX7_as_53 : decode cX7_as 53 = .ok (.getfield 78, 3) := by decide +kernel
theorem dX7_as_56 : decode cX7_as 56 = .ok (.getfield 94, 3) := by decide +kernel
theorem dX7_as_59 : decode cX7_as 59 = .ok (.iload_n 1, 1) := by decide +kernel
theorem dX7_as_60 : decode cX7_as 60 = .ok (.iaload, 1) := by decide +kernel
theorem dX7_as_61 : decode cX7_as 61 = .ok (.ireturn, 1) := by decide +kernel
theorem dX7_loss_0 : decode cX7_loss 0 = .ok (.iload_n 1, 1) := by decide +kernel
theorem dX7_loss_1 : decode cX7_loss 1 = .ok (.iconst 1, 1) := by decide +kernel
theorem dX7_loss_2 : decode cX7_loss 2 = .ok (.bipush 9, 2) := by decide +kernel
theorem dX7_loss_4 : decode cX7_loss 4 = .ok (.invokestatic 126, 3) := by decide +kernel
theorem dX7_loss_7 : decode cX7_loss 7 = .ok (.ifCond .ne 9, 3) := by decide +kernel
theorem dX7_loss_10 : decode cX7_loss 10 = .ok (.aload_n 0, 1) := by decide +kernel
theorem dX7_loss_11 : decode cX7_loss 11 = .ok (.iconst 1, 1) := by decide +kernel
theorem dX7_loss_12 : decode cX7_loss 12 = .ok (.invokevirtual 74, 3) := by decide +kernel
theorem dX7_loss_15 : decode cX7_loss 15 = .ok (.ireturn, 1) := by decide +kernel
theorem dX7_loss_16 : decode cX7_loss 16 = .ok (.aload_n 0, 1) := by decide +kernel
theorem dX7_loss_17 : decode cX7_loss 17 = .ok (.getfield 10, 3) := by decide +kernel
theorem dX7_loss_20 : decode cX7_loss 20 = .ok (.getfield 78, 3) := by decide +kernel
theorem dX7_loss_23 : decode cX7_loss 23 = .ok (.getfield 134, 3) := by decide +kernel
theorem dX7_loss_26 : decode cX7_loss 26 = .ok (.istore_n 2, 1) := by decide +kernel
theorem dX7_loss_27 : decode cX7_loss 27 = .ok (.aload_n 0, 1) := by decide +kernel
theorem dX7_loss_28 : decode cX7_loss 28 = .ok (.getfield 10, 3) := by decide +kernel
theorem dX7_loss_31 : decode cX7_loss 31 = .ok (.getfield 78, 3) := by decide +kernel
theorem dX7_loss_34 : decode cX7_loss 34 = .ok (.iload_n 1, 1) := by decide +kernel
theorem dX7_loss_35 : decode cX7_loss 35 = .ok (.putfield 134, 3) := by decide +kernel
theorem dX7_loss_38 : decode cX7_loss 38 = .ok (.iload_n 2, 1) := by decide +kernel
