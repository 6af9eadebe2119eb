theorem dX8_done_56 : decode cX8_done 56 = .ok (.iload_n 2, 1) := by decide +kernel
theorem dX8_done_57 : decode cX8_done 57 = .ok (.ifCond .eq 7, 3) := by decide +kernel
theorem dX8_done_60 : decode cX8_done 60 = .ok (.iconst 1, 1) := by decide +kernel
theorem dX8_done_61 : decode cX8_done 61 = .ok (.goto 4, 3) := by decide +kernel
theorem dX8_done_64 : decode cX8_done 64 = .ok (.iconst 0, 1) := by decide +kernel
theorem dX8_done_65 : decode cX8_done 65 = .ok (.ireturn, 1) := by decide +kernel
theorem dX8_done_66 : decode cX8_done 66 = .ok (.iload_n 1, 1) := by decide +kernel
theorem dX8_done_67 : decode cX8_done 67 = .ok (.ifCond .eq 11, 3) := by decide +kernel
theorem dX8_done_70 : decode cX8_done 70 = .ok (.iload_n 2, 1) := by decide +kernel
theorem dX8_done_71 : decode cX8_done 71 = .ok (.ifCond .eq 7, 3) := by decide +kernel
theorem dX8_done_74 : decode cX8_done 74 = .ok (.iconst 1, 1) := by decide +kernel
theorem dX8_done_75 : decode cX8_done 75 = .ok (.goto 4, 3) := by decide +kernel
theorem dX8_done_78 : decode cX8_done 78 = .ok (.iconst 0, 1) := by decide +kernel
theorem dX8_done_79 : decode cX8_done 79 = .ok (.ireturn, 1) := by decide +kernel
theorem dX8_done_80 : decode cX8_done 80 = .ok (.iload_n 1, 1) := by decide +kernel
theorem dX8_done_81 : decode cX8_done 81 = .ok (.iload_n 2, 1) := by decide +kernel
theorem dX8_done_82 : decode cX8_done 82 = .ok (.if_icmp .ge 7, 3) := by decide +kernel
theorem dX8_done_85 : decode cX8_done 85 = .ok (.iconst 1, 1) := by decide +kernel
theorem dX8_done_86 : decode cX8_done 86 = .ok (.goto 4, 3) := by decide +kernel
theorem dX8_done_89 : decode cX8_done 89 = .ok (.iconst 0, 1) := by decide +kernel
theorem dX8_done_90 : decode cX8_done 90 = .ok (.ireturn, 1) := by decide +kernel
theorem dX8_done_91 : decode cX8_done 91 = .ok (.iload_n 1, 1) := by decide +kernel
theorem dX8_done_92 : decode cX8_done 92 = .ok (.iload_n 2, 1) := by decide +kernel
theorem dX8_done_93 : decode cX8_done 93 = .ok (.if_icmp .ne 7, 3) := by decide +kernel
theorem dX8_done_96 : decode cX8_done 96 = .ok (.iconst 1, 1) := by decide +kernel
theorem dX8_done_97 : decode cX8_done 97 = .ok (.goto 4, 3) := by decide +kernel
theorem dX8_done_100 : decode cX8_done 100 = .ok (.iconst 0, 1) := by decide +kernel
theorem dX8_done_101 : decode cX8_done 101 = .ok (.ireturn, 1) := by decide +kernel
theorem dX8_done_102 : decode cX8_done 102 = .ok (.iload_n 1, 1) := by decide +kernel
theorem dX8_done_103 : decode cX8_done 103 = .ok (.iload_n 2, 1) := by decide +kernel
theorem dX8_done_104 : decode cX8_done 104 = .ok (.if_icmp .le 7, 3) := by decide +kernel
theorem dX8_done_107 : decode cX8_done 107 = .ok (.iconst 1, 1) := by decide +kernel
theorem dX8_done_108 : decode cX8_done 108 = .ok (.goto 4, 3) := by decide +kernel
theorem dX8_done_111 : decode cX8_done 111 = .ok (.iconst 0, 1) := by decide +kernel
theorem dX8_done_112 : decode cX8_done 112 = .ok (.ireturn, 1) := by decide +kernel
theorem dX8_done_113 : decode cX8_done 113 = .ok (.iload_n 1, 1) := by decide +kernel
theorem dX8_done_114 : decode cX8_done 114 = .ok (.iload_n 2, 1) := by decide +kernel
theorem dX8_done_115 : decode cX8_done 115 = .ok (.iadd, 1) := by decide +kernel
theorem dX8_done_116 : decode cX8_done 116 = .ok (.ireturn, 1) := by decide +kernel
theorem dX8_done_117 : decode cX8_done 117 = .ok (.iload_n 1, 1) := by decide +kernel
theorem dX8_done_118 : decode cX8_done 118 = .ok (.iload_n 2, 1) := by decide +kernel
theorem dX8_done_119 : decode cX8_done 119 = .ok (.isub, 1) := by decide +kernel
theorem dX8_done_120 : decode cX8_done 120 = .ok (.ireturn, 1) := by decide +kernel
theorem dX8_done_121 : decode cX8_done 121 = .ok (.iload_n 1, 1) := by decide +kernel
theorem dX8_done_122 : decode cX8_done 122 = .ok (.iload_n 2, 1) := by decide +kernel
theorem dX8_done_123 : decode cX8_done 123 = .ok (.imul, 1) := by decide +kernel
theorem dX8_done_124 : decode cX8_done 124 = .ok (.ireturn, 1) := by decide +kernel
theorem dX8_done_125 : decode cX8_done 125 = .ok (.iload_n 2, 1) := by decide +kernel
theorem dX8_done_126 : decode cX8_done 126 = .ok (.ifCond .ne 7, 3) := by decide +kernel
theorem dX8_done_129 : decode cX8_done 129 = .ok (.iconst 0, 1) := by decide +kernel
theorem dX8_done_130 : decode cX8_done 130 = .ok (.goto 6, 3) := by decide +kernel
theorem dX8_done_133 : decode cX8_done 133 = .ok (.iload_n 1, 1) := by decide +kernel
theorem dX8_done_134 : decode cX8_done 134 = .ok (.iload_n 2, 1) := by decide +kernel
theorem dX8_done_135 : decode cX8_done 135 = .ok (.idiv, 1) := by decide +kernel
theorem dX8_done_136 : decode cX8_done 136 = .ok (.ireturn, 1) := by decide +kernel
theorem dX8_done_137 : decode cX8_done 137 = .ok (.iload_n 2, 1) := by decide +kernel
theorem dX8_done_138 : decode cX8_done 138 = .ok (.ifCond .ne 7, 3) := by decide +kernel
theorem dX8_done_141 : decode cX8_done 141 = .ok (.iconst 0, 1) := by decide +kernel
theorem dX8_done_142 : decode cX8_done 142 = .ok (.goto 6, 3) := by decide +kernel
theorem dX8_done_145 : decode cX8_done 145 = .ok (.iload_n 1, 1) := by decide +kernel
theorem dX8_done_146 : decode cX8_done 146 = .ok (.iload_n 2, 1) := by decide +kernel
theorem dX8_done_147 : decode cX8_done 147 = .ok (.irem, 1) := by decide +kernel
theorem dX8_done_148 : decode cX8_done 148 = .ok (.ireturn, 1) := by decide +kernel
theorem dX8_worked_0 : decode cX8_worked 0 = .ok (.iconst 0, 1) := by decide +kernel
theorem dX8_worked_1 : decode cX8_worked 1 = .ok (.istore_n 2, 1) := by decide +kernel
theorem dX8_worked_2 : decode cX8_worked 2 = .ok (.iload_n 1, 1) := by decide +kernel
theorem dX8_worked_3 : decode cX8_worked 3 = .ok (.istore_n 3, 1) := by decide +kernel
theorem dX8_worked_4 : decode cX8_worked 4 = .ok (.iload_n 3, 1) := by decide +kernel
theorem dX8_worked_5 : decode cX8_worked 5 = .ok (.iload_n 1, 1) := by decide +kernel
theorem dX8_worked_6 : decode cX8_worked 6 = .ok (.aload_n 0, 1) := by decide +kernel
theorem dX8_worked_7 : decode cX8_worked 7 = .ok (.getfield 9, 3) := by decide +kernel
theorem dX8_worked_10 : decode cX8_worked 10 = .ok (.iload_n 1, 1) := by decide +kernel
theorem dX8_worked_11 : decode cX8_worked 11 = .ok (.iconst 1, 1) := by decide +kernel
theorem dX8_worked_12 : decode cX8_worked 12 = .ok (.isub, 1) := by decide +kernel
theorem dX8_worked_13 : decode cX8_worked 13 = .ok (.iaload, 1) := by decide +kernel
theorem dX8_worked_14 : decode cX8_worked 14 = .ok (.iadd, 1) := by decide +kernel
theorem dX8_worked_15 : decode cX8_worked 15 = .ok (.if_icmp .ge 126, 3) := by decide +kernel
theorem dX8_worked_18 : decode cX8_worked 18 = .ok (.aload_n 0, 1) := by decide +kernel
theorem dX8_worked_19 : decode cX8_worked 19 = .ok (.getfield 9, 3) := by decide +kernel
theorem dX8_worked_22 : decode cX8_worked 22 = .ok (.iload_n 3, 1) := by decide +kernel
theorem dX8_worked_23 : decode cX8_worked 23 = .ok (.iaload, 1) := by decide +kernel
theorem dX8_worked_24 : decode cX8_worked 24 = .ok (.istore 4, 2) := by decide +kernel
theorem dX8_worked_26 : decode cX8_worked 26 = .ok (.iload 4, 2) := by decide +kernel
theorem dX8_worked_28 : decode cX8_worked 28 = .ok (.sipush 20000, 3) := by decide +kernel
theorem dX8_worked_31 : decode cX8_worked 31 = .ok (.if_icmp .ge 39, 3) := by decide +kernel
theorem dX8_worked_34 : decode cX8_worked 34 = .ok (.aload_n 0, 1) := by decide +kernel
theorem dX8_worked_35 : decode cX8_worked 35 = .ok (.getfield 47, 3) := by decide +kernel
theorem dX8_worked_38 : decode cX8_worked 38 = .ok (.iload_n 2, 1) := by decide +kernel
theorem dX8_worked_39 : decode cX8_worked 39 = .ok (.iload 4, 2) := by decide +kernel
theorem dX8_worked_41 : decode cX8_worked 41 = .ok (.sipush 10000, 3) := by decide +kernel
theorem dX8_worked_44 : decode cX8_worked 44 = .ok (.if_icmp .ge 8, 3) := by decide +kernel
theorem dX8_worked_47 : decode cX8_worked 47 = .ok (.iload 4, 2) := by decide +kernel
theorem dX8_worked_49 : decode cX8_worked 49 = .ok (.goto 14, 3) := by decide +kernel
theorem dX8_worked_52 : decode cX8_worked 52 = .ok (.aload_n 0, 1) := by decide +kernel
theorem dX8_worked_53 : decode cX8_worked 53 = .ok (.getfield 44, 3) := by decide +kernel
theorem dX8_worked_56 : decode cX8_worked 56 = .ok (.iload 4, 2) := by decide +kernel
theorem dX8_worked_58 : decode cX8_worked 58 = .ok (.sipush 10000, 3) := by decide +kernel
theorem dX8_worked_61 : decode cX8_worked 61 = .ok (.isub, 1) := by decide +kernel
theorem dX8_worked_62 : decode cX8_worked 62 = .ok (.iaload, 1) := by decide +kernel
theorem dX8_worked_63 : decode cX8_worked 63 = .ok (.iastore, 1) := by decide +kernel
theorem dX8_worked_64 : decode cX8_worked 64 = .ok (.iinc 2 1, 3) := by decide +kernel
theorem dX8_worked_67 : decode cX8_worked 67 = .ok (.goto 68, 3) := by decide +kernel
theorem dX8_worked_70 : decode cX8_worked 70 = .ok (.iload 4, 2) := by decide +kernel
theorem dX8_worked_72 : decode cX8_worked 72 = .ok (.sipush 20010, 3) := by decide +kernel
theorem dX8_worked_75 : decode cX8_worked 75 = .ok (.if_icmp .ne 30, 3) := by decide +kernel
theorem dX8_worked_78 : decode cX8_worked 78 = .ok (.aload_n 0, 1) := by decide +kernel
theorem dX8_worked_79 : decode cX8_worked 79 = .ok (.getfield 47, 3) := by decide +kernel
theorem dX8_worked_82 : decode cX8_worked 82 = .ok (.iload_n 2, 1) := by decide +kernel
theorem dX8_worked_83 : decode cX8_worked 83 = .ok (.iconst 1, 1) := by decide +kernel
theorem dX8_worked_84 : decode cX8_worked 84 = .ok (.isub, 1) := by decide +kernel
theorem dX8_worked_85 : decode cX8_worked 85 = .ok (.aload_n 0, 1) := by decide +kernel
theorem dX8_worked_86 : decode cX8_worked 86 = .ok (.getfield 47, 3) := by decide +kernel
theorem dX8_worked_89 : decode cX8_worked 89 = .ok (.iload_n 2, 1) := by decide +kernel
theorem dX8_worked_90 : decode cX8_worked 90 = .ok (.iconst 1, 1) := by decide +kernel
theorem dX8_worked_91 : decode cX8_worked 91 = .ok (.isub, 1) := by decide +kernel
theorem dX8_worked_92 : decode cX8_worked 92 = .ok (.iaload, 1) := by decide +kernel
theorem dX8_worked_93 : decode cX8_worked 93 = .ok (.ifCond .ne 7, 3) := by decide +kernel
theorem dX8_worked_96 : decode cX8_worked 96 = .ok (.iconst 1, 1) := by decide +kernel
theorem dX8_worked_97 : decode cX8_worked 97 = .ok (.goto 4, 3) := by decide +kernel
theorem dX8_worked_100 : decode cX8_worked 100 = .ok (.iconst 0, 1) := by decide +kernel
theorem dX8_worked_101 : decode cX8_worked 101 = .ok (.iastore, 1) := by decide +kernel
theorem dX8_worked_102 : decode cX8_worked 102 = .ok (.goto 33, 3) := by decide +kernel
theorem dX8_worked_105 : decode cX8_worked 105 = .ok (.iinc 2 (-1), 3) := by decide +kernel
theorem dX8_worked_108 : decode cX8_worked 108 = .ok (.aload_n 0, 1) := by decide +kernel
theorem dX8_worked_109 : decode cX8_worked 109 = .ok (.getfield 47, 3) := by decide +kernel
theorem dX8_worked_112 : decode cX8_worked 112 = .ok (.iload_n 2, 1) := by decide +kernel
theorem dX8_worked_113 : decode cX8_worked 113 = .ok (.iconst 1, 1) := by decide +kernel
theorem dX8_worked_114 : decode cX8_worked 114 = .ok (.isub, 1) := by decide +kernel
theorem dX8_worked_115 : decode cX8_worked 115 = .ok (.iload 4, 2) := by decide +kernel
theorem dX8_worked_117 : decode cX8_worked 117 = .ok (.aload_n 0, 1) := by decide +kernel
theorem dX8_worked_118 : decode cX8_worked 118 = .ok (.getfield 47, 3) := by decide +kernel
theorem dX8_worked_121 : decode cX8_worked 121 = .ok (.iload_n 2, 1) := by decide +kernel
theorem dX8_worked_122 : decode cX8_worked 122 = .ok (.iconst 1, 1) := by decide +kernel
theorem dX8_worked_123 : decode cX8_worked 123 = .ok (.isub, 1) := by decide +kernel
theorem dX8_worked_124 : decode cX8_worked 124 = .ok (.iaload, 1) := by decide +kernel
theorem dX8_worked_125 : decode cX8_worked 125 = .ok (.aload_n 0, 1) := by decide +kernel
theorem dX8_worked_126 : decode cX8_worked 126 = .ok (.getfield 47, 3) := by decide +kernel
theorem dX8_worked_129 : decode cX8_worked 129 = .ok (.iload_n 2, 1) := by decide +kernel
theorem dX8_worked_130 : decode cX8_worked 130 = .ok (.iaload, 1) := by decide +kernel
theorem dX8_worked_131 : decode cX8_worked 131 = .ok (.invokestatic 154, 3) := by decide +kernel
theorem dX8_worked_134 : decode cX8_worked 134 = .ok (.iastore, 1) := by decide +kernel
theorem dX8_worked_135 : decode cX8_worked 135 = .ok (.iinc 3 1, 3) := by decide +kernel
theorem dX8_worked_138 : decode cX8_worked 138 = .ok (.goto (-134), 3) := by decide +kernel
theorem dX8_worked_141 : decode cX8_worked 141 = .ok (.aload_n 0, 1) := by decide +kernel
theorem dX8_worked_142 : decode cX8_worked 142 = .ok (.getfield 47, 3) := by decide +kernel
theorem dX8_worked_145 : decode cX8_worked 145 = .ok (.iconst 0, 1) := by decide +kernel
theorem dX8_worked_146 : decode cX8_worked 146 = .ok (.iaload, 1) := by decide +kernel
theorem dX8_worked_147 : decode cX8_worked 147 = .ok (.ireturn, 1) := by decide +kernel
theorem dX8_hasText_0 : decode cX8_hasText 0 = .ok (.aload_n 0, 1) := by decide +kernel
theorem dX8_hasText_1 : decode cX8_hasText 1 = .ok (.getfield 9, 3) := by decide +kernel
theorem dX8_hasText_4 : decode cX8_hasText 4 = .ok (.bipush 124, 2) := by decide +kernel
theorem dX8_hasText_6 : decode cX8_hasText 6 = .ok (.bipush 52, 2) := by decide +kernel
theorem dX8_hasText_8 : decode cX8_hasText 8 = .ok (.iload_n 1, 1) := by decide +kernel
theorem dX8_hasText_9 : decode cX8_hasText 9 = .ok (.imul, 1) := by decide +kernel
theorem dX8_hasText_10 : decode cX8_hasText 10 = .ok (.iadd, 1) := by decide +kernel
theorem dX8_hasText_11 : decode cX8_hasText 11 = .ok (.iaload, 1) := by decide +kernel
theorem dX8_hasText_12 : decode cX8_hasText 12 = .ok (.ifCond .le 7, 3) := by decide +kernel
theorem dX8_hasText_15 : decode cX8_hasText 15 = .ok (.iconst 1, 1) := by decide +kernel
theorem dX8_hasText_16 : decode cX8_hasText 16 = .ok (.goto 4, 3) := by decide +kernel
theorem dX8_hasText_19 : decode cX8_hasText 19 = .ok (.iconst 0, 1) := by decide +kernel
theorem dX8_hasText_20 : decode cX8_hasText 20 = .ok (.ireturn, 1) := by decide +kernel
theorem dX8_given_0 : decode cX8_given 0 = .ok (.aload_n 0, 1) := by decide +kernel
theorem dX8_given_1 : decode cX8_given 1 = .ok (.getfield 44, 3) := by decide +kernel
theorem dX8_given_4 : decode cX8_given 4 = .ok (.iconst 0, 1) := by decide +kernel
theorem dX8_given_5 : decode cX8_given 5 = .ok (.iload_n 2, 1) := by decide +kernel
theorem dX8_given_6 : decode cX8_given 6 = .ok (.iastore, 1) := by decide +kernel
theorem dX8_given_7 : decode cX8_given 7 = .ok (.aload_n 0, 1) := by decide +kernel
theorem dX8_given_8 : decode cX8_given 8 = .ok (.getfield 44, 3) := by decide +kernel
theorem dX8_given_11 : decode cX8_given 11 = .ok (.iconst 1, 1) := by decide +kernel
theorem dX8_given_12 : decode cX8_given 12 = .ok (.iload_n 3, 1) := by decide +kernel
theorem dX8_given_13 : decode cX8_given 13 = .ok (.iastore, 1) := by decide +kernel
theorem dX8_given_14 : decode cX8_given 14 = .ok (.aload_n 0, 1) := by decide +kernel
theorem dX8_given_15 : decode cX8_given 15 = .ok (.getfield 44, 3) := by decide +kernel
theorem dX8_given_18 : decode cX8_given 18 = .ok (.iconst 2, 1) := by decide +kernel
theorem dX8_given_19 : decode cX8_given 19 = .ok (.iload 4, 2) := by decide +kernel
theorem dX8_given_21 : decode cX8_given 21 = .ok (.iastore, 1) := by decide +kernel
theorem dX8_given_22 : decode cX8_given 22 = .ok (.iload_n 1, 1) := by decide +kernel
theorem dX8_given_23 : decode cX8_given 23 = .ok (.ifCond .eq 8, 3) := by decide +kernel
theorem dX8_given_26 : decode cX8_given 26 = .ok (.iload_n 2, 1) := by decide +kernel
theorem dX8_given_27 : decode cX8_given 27 = .ok (.iconst 5, 1) := by decide +kernel
theorem dX8_given_28 : decode cX8_given 28 = .ok (.if_icmp .le 7, 3) := by decide +kernel
theorem dX8_given_31 : decode cX8_given 31 = .ok (.iconst 1, 1) := by decide +kernel
theorem dX8_given_32 : decode cX8_given 32 = .ok (.goto 4, 3) := by decide +kernel
theorem dX8_given_35 : decode cX8_given 35 = .ok (.iconst 0, 1) := by decide +kernel
theorem dX8_given_36 : decode cX8_given 36 = .ok (.istore 5, 2) := by decide +kernel
theorem dX8_given_38 : decode cX8_given 38 = .ok (.aload_n 0, 1) := by decide +kernel
theorem dX8_given_39 : decode cX8_given 39 = .ok (.iload_n 1, 1) := by decide +kernel
theorem dX8_given_40 : decode cX8_given 40 = .ok (.invokevirtual 158, 3) := by decide +kernel
theorem dX8_given_43 : decode cX8_given 43 = .ok (.ifCond .eq 19, 3) := by decide +kernel
theorem dX8_given_46 : decode cX8_given 46 = .ok (.aload_n 0, 1) := by decide +kernel
theorem dX8_given_47 : decode cX8_given 47 = .ok (.bipush 124, 2) := by decide +kernel
theorem dX8_given_49 : decode cX8_given 49 = .ok (.bipush 52, 2) := by decide +kernel
theorem dX8_given_51 : decode cX8_given 51 = .ok (.iload_n 1, 1) := by decide +kernel
theorem dX8_given_52 : decode cX8_given 52 = .ok (.imul, 1) := by decide +kernel
theorem dX8_given_53 : decode cX8_given 53 = .ok (.iadd, 1) := by decide +kernel
theorem dX8_given_54 : decode cX8_given 54 = .ok (.iconst 1, 1) := by decide +kernel
theorem dX8_given_55 : decode cX8_given 55 = .ok (.iadd, 1) := by decide +kernel
theorem dX8_given_56 : decode cX8_given 56 = .ok (.invokevirtual 161, 3) := by decide +kernel
theorem dX8_given_59 : decode cX8_given 59 = .ok (.goto 5, 3) := by decide +kernel
theorem dX8_given_62 : decode cX8_given 62 = .ok (.iload 5, 2) := by decide +kernel
theorem dX8_given_64 : decode cX8_given 64 = .ok (.iconst 0, 1) := by decide +kernel
theorem dX8_given_65 : decode cX8_given 65 = .ok (.iload_n 1, 1) := by decide +kernel
theorem dX8_given_66 : decode cX8_given 66 = .ok (.ifCond .ne 7, 3) := by decide +kernel
theorem dX8_given_69 : decode cX8_given 69 = .ok (.iconst 1, 1) := by decide +kernel
theorem dX8_given_70 : decode cX8_given 70 = .ok (.goto 5, 3) := by decide +kernel
theorem dX8_given_73 : decode cX8_given 73 = .ok (.bipush 9, 2) := by decide +kernel
theorem dX8_given_75 : decode cX8_given 75 = .ok (.invokestatic 164, 3) := by decide +kernel
theorem dX8_given_78 : decode cX8_given 78 = .ok (.ireturn, 1) := by decide +kernel
theorem dX8_law_0 : decode cX8_law 0 = .ok (.iload_n 1, 1) := by decide +kernel
theorem dX8_law_1 : decode cX8_law 1 = .ok (.iconst 0, 1) := by decide +kernel
theorem dX8_law_2 : decode cX8_law 2 = .ok (.iconst 1, 1) := by decide +kernel
theorem dX8_law_3 : decode cX8_law 3 = .ok (.invokestatic 82, 3) := by decide +kernel
theorem dX8_law_6 : decode cX8_law 6 = .ok (.ifCond .eq 15, 3) := by decide +kernel
theorem dX8_law_9 : decode cX8_law 9 = .ok (.aload_n 0, 1) := by decide +kernel
theorem dX8_law_10 : decode cX8_law 10 = .ok (.iload_n 1, 1) := by decide +kernel
theorem dX8_law_11 : decode cX8_law 11 = .ok (.iload_n 2, 1) := by decide +kernel
theorem dX8_law_12 : decode cX8_law 12 = .ok (.iload_n 3, 1) := by decide +kernel
theorem dX8_law_13 : decode cX8_law 13 = .ok (.iload 4, 2) := by decide +kernel
theorem dX8_law_15 : decode cX8_law 15 = .ok (.invokevirtual 167, 3) := by decide +kernel
theorem dX8_law_18 : decode cX8_law 18 = .ok (.goto 9, 3) := by decide +kernel
theorem dX8_law_21 : decode cX8_law 21 = .ok (.aload_n 0, 1) := by decide +kernel
theorem dX8_law_22 : decode cX8_law 22 = .ok (.ldc 86, 2) := by decide +kernel
theorem dX8_law_24 : decode cX8_law 24 = .ok (.invokevirtual 87, 3) := by decide +kernel
theorem dX8_law_27 : decode cX8_law 27 = .ok (.ireturn, 1) := by decide +kernel
theorem dX8_forget_0 : decode cX8_forget 0 = .ok (.iconst 0, 1) := by decide +kernel
theorem dX8_forget_1 : decode cX8_forget 1 = .ok (.istore_n 1, 1) := by decide +kernel
theorem dX8_forget_2 : decode cX8_forget 2 = .ok (.iload_n 1, 1) := by decide +kernel
theorem dX8_forget_3 : decode cX8_forget 3 = .ok (.aload_n 0, 1) := by decide +kernel
theorem dX8_forget_4 : decode cX8_forget 4 = .ok (.getfield 22, 3) := by decide +kernel
theorem dX8_forget_7 : decode cX8_forget 7 = .ok (.arraylength, 1) := by decide +kernel
theorem dX8_forget_8 : decode cX8_forget 8 = .ok (.if_icmp .ge 16, 3) := by decide +kernel
theorem dX8_forget_11 : decode cX8_forget 11 = .ok (.aload_n 0, 1) := by decide +kernel
theorem dX8_forget_12 : decode cX8_forget 12 = .ok (.getfield 22, 3) := by decide +kernel
theorem dX8_forget_15 : decode cX8_forget 15 = .ok (.iload_n 1, 1) := by decide +kernel
theorem dX8_forget_16 : decode cX8_forget 16 = .ok (.iconst 0, 1) := by decide +kernel
theorem dX8_forget_17 : decode cX8_forget 17 = .ok (.iastore, 1) := by decide +kernel
theorem dX8_forget_18 : decode cX8_forget 18 = .ok (.iinc 1 1, 3) := by decide +kernel
theorem dX8_forget_21 : decode cX8_forget 21 = .ok (.goto (-19), 3) := by decide +kernel
theorem dX8_forget_24 : decode cX8_forget 24 = .ok (.iconst 0, 1) := by decide +kernel
theorem dX8_forget_25 : decode cX8_forget 25 = .ok (.istore_n 1, 1) := by decide +kernel
theorem dX8_forget_26 : decode cX8_forget 26 = .ok (.iload_n 1, 1) := by decide +kernel
theorem dX8_forget_27 : decode cX8_forget 27 = .ok (.aload_n 0, 1) := by decide +kernel
theorem dX8_forget_28 : decode cX8_forget 28 = .ok (.getfield 25, 3) := by decide +kernel
theorem dX8_forget_31 : decode cX8_forget 31 = .ok (.arraylength, 1) := by decide +kernel
theorem dX8_forget_32 : decode cX8_forget 32 = .ok (.if_icmp .ge 16, 3) := by decide +kernel
theorem dX8_forget_35 : decode cX8_forget 35 = .ok (.aload_n 0, 1) := by decide +kernel
theorem dX8_forget_36 : decode cX8_forget 36 = .ok (.getfield 25, 3) := by decide +kernel
theorem dX8_forget_39 : decode cX8_forget 39 = .ok (.iload_n 1, 1) := by decide +kernel
theorem dX8_forget_40 : decode cX8_forget 40 = .ok (.iconst 0, 1) := by decide +kernel
theorem dX8_forget_41 : decode cX8_forget 41 = .ok (.iastore, 1) := by decide +kernel
theorem dX8_forget_42 : decode cX8_forget 42 = .ok (.iinc 1 1, 3) := by decide +kernel
theorem dX8_forget_45 : decode cX8_forget 45 = .ok (.goto (-19), 3) := by decide +kernel
theorem dX8_forget_48 : decode cX8_forget 48 = .ok (.return_, 1) := by decide +kernel
theorem dX8_isMeeting_0 : decode cX8_isMeeting 0 = .ok (.aload_n 0, 1) := by decide +kernel
theorem dX8_isMeeting_1 : decode cX8_isMeeting 1 = .ok (.getfield 9, 3) := by decide +kernel
theorem dX8_isMeeting_4 : decode cX8_isMeeting 4 = .ok (.iconst 0, 1) := by decide +kernel
theorem dX8_isMeeting_5 : decode cX8_isMeeting 5 = .ok (.iaload, 1) := by decide +kernel
theorem dX8_isMeeting_6 : decode cX8_isMeeting 6 = .ok (.bipush 24, 2) := by decide +kernel
theorem dX8_isMeeting_8 : decode cX8_isMeeting 8 = .ok (.irem, 1) := by decide +kernel
theorem dX8_isMeeting_9 : decode cX8_isMeeting 9 = .ok (.istore_n 3, 1) := by decide +kernel
theorem dX8_isMeeting_10 : decode cX8_isMeeting 10 = .ok (.sipush 216, 3) := by decide +kernel
theorem dX8_isMeeting_13 : decode cX8_isMeeting 13 = .ok (.iload_n 1, 1) := by decide +kernel
theorem dX8_isMeeting_14 : decode cX8_isMeeting 14 = .ok (.imul, 1) := by decide +kernel
theorem dX8_isMeeting_15 : decode cX8_isMeeting 15 = .ok (.bipush 9, 2) := by decide +kernel
theorem dX8_isMeeting_17 : decode cX8_isMeeting 17 = .ok (.iload_n 3, 1) := by decide +kernel
theorem dX8_isMeeting_18 : decode cX8_isMeeting 18 = .ok (.imul, 1) := by decide +kernel
theorem dX8_isMeeting_19 : decode cX8_isMeeting 19 = .ok (.iadd, 1) := by decide +kernel
theorem dX8_isMeeting_20 : decode cX8_isMeeting 20 = .ok (.iload_n 2, 1) := by decide +kernel
theorem dX8_isMeeting_21 : decode cX8_isMeeting 21 = .ok (.iadd, 1) := by decide +kernel
theorem dX8_isMeeting_22 : decode cX8_isMeeting 22 = .ok (.istore 4, 2) := by decide +kernel
theorem dX8_isMeeting_24 : decode cX8_isMeeting 24 = .ok (.aload_n 0, 1) := by decide +kernel
theorem dX8_isMeeting_25 : decode cX8_isMeeting 25 = .ok (.getfield 22, 3) := by decide +kernel
theorem dX8_isMeeting_28 : decode cX8_isMeeting 28 = .ok (.iload 4, 2) := by decide +kernel
theorem dX8_isMeeting_30 : decode cX8_isMeeting 30 = .ok (.iaload, 1) := by decide +kernel
theorem dX8_isMeeting_31 : decode cX8_isMeeting 31 = .ok (.ifCond .ne 20, 3) := by decide +kernel
theorem dX8_isMeeting_34 : decode cX8_isMeeting 34 = .ok (.aload_n 0, 1) := by decide +kernel
theorem dX8_isMeeting_35 : decode cX8_isMeeting 35 = .ok (.getfield 22, 3) := by decide +kernel
theorem dX8_isMeeting_38 : decode cX8_isMeeting 38 = .ok (.iload 4, 2) := by decide +kernel
theorem dX8_isMeeting_40 : decode cX8_isMeeting 40 = .ok (.iconst 1, 1) := by decide +kernel
theorem dX8_isMeeting_41 : decode cX8_isMeeting 41 = .ok (.aload_n 0, 1) := by decide +kernel
theorem dX8_isMeeting_42 : decode cX8_isMeeting 42 = .ok (.iconst 0, 1) := by decide +kernel
theorem dX8_isMeeting_43 : decode cX8_isMeeting 43 = .ok (.iload_n 1, 1) := by decide +kernel
theorem dX8_isMeeting_44 : decode cX8_isMeeting 44 = .ok (.iload_n 3, 1) := by decide +kernel
theorem dX8_isMeeting_45 : decode cX8_isMeeting 45 = .ok (.iload_n 2, 1) := by decide +kernel
theorem dX8_isMeeting_46 : decode cX8_isMeeting 46 = .ok (.invokevirtual 167, 3) := by decide +kernel
theorem dX8_isMeeting_49 : decode cX8_isMeeting 49 = .ok (.iadd, 1) := by decide +kernel
theorem dX8_isMeeting_50 : decode cX8_isMeeting 50 = .ok (.iastore, 1) := by decide +kernel
theorem dX8_isMeeting_51 : decode cX8_isMeeting 51 = .ok (.aload_n 0, 1) := by decide +kernel
theorem dX8_isMeeting_52 : decode cX8_isMeeting 52 = .ok (.getfield 22, 3) := by decide +kernel
theorem dX8_isMeeting_55 : decode cX8_isMeeting 55 = .ok (.iload 4, 2) := by decide +kernel
theorem dX8_isMeeting_57 : decode cX8_isMeeting 57 = .ok (.iaload, 1) := by decide +kernel
theorem dX8_isMeeting_58 : decode cX8_isMeeting 58 = .ok (.iconst 2, 1) := by decide +kernel
theorem dX8_isMeeting_59 : decode cX8_isMeeting 59 = .ok (.if_icmp .ne 7, 3) := by decide +kernel
theorem dX8_isMeeting_62 : decode cX8_isMeeting 62 = .ok (.iconst 1, 1) := by decide +kernel
theorem dX8_isMeeting_63 : decode cX8_isMeeting 63 = .ok (.goto 4, 3) := by decide +kernel
theorem dX8_isMeeting_66 : decode cX8_isMeeting 66 = .ok (.iconst 0, 1) := by decide +kernel
theorem dX8_isMeeting_67 : decode cX8_isMeeting 67 = .ok (.ireturn, 1) := by decide +kernel
theorem dX8_deedsFor_0 : decode cX8_deedsFor 0 = .ok (.bipush 10, 2) := by decide +kernel
theorem dX8_deedsFor_2 : decode cX8_deedsFor 2 = .ok (.bipush 100, 2) := by decide +kernel
theorem dX8_deedsFor_4 : decode cX8_deedsFor 4 = .ok (.iload_n 3, 1) := by decide +kernel
theorem dX8_deedsFor_5 : decode cX8_deedsFor 5 = .ok (.imul, 1) := by decide +kernel
theorem dX8_deedsFor_6 : decode cX8_deedsFor 6 = .ok (.iload_n 1, 1) := by decide +kernel
theorem dX8_deedsFor_7 : decode cX8_deedsFor 7 = .ok (.iadd, 1) := by decide +kernel
theorem dX8_deedsFor_8 : decode cX8_deedsFor 8 = .ok (.imul, 1) := by decide +kernel
theorem dX8_deedsFor_9 : decode cX8_deedsFor 9 = .ok (.iload_n 2, 1) := by decide +kernel
theorem dX8_deedsFor_10 : decode cX8_deedsFor 10 = .ok (.iadd, 1) := by decide +kernel
theorem dX8_deedsFor_11 : decode cX8_deedsFor 11 = .ok (.istore 4, 2) := by decide +kernel
theorem dX8_deedsFor_13 : decode cX8_deedsFor 13 = .ok (.aload_n 0, 1) := by decide +kernel
theorem dX8_deedsFor_14 : decode cX8_deedsFor 14 = .ok (.getfield 25, 3) := by decide +kernel
theorem dX8_deedsFor_17 : decode cX8_deedsFor 17 = .ok (.iload 4, 2) := by decide +kernel
theorem dX8_deedsFor_19 : decode cX8_deedsFor 19 = .ok (.iaload, 1) := by decide +kernel
theorem dX8_deedsFor_20 : decode cX8_deedsFor 20 = .ok (.ifCond .ne 20, 3) := by decide +kernel
theorem dX8_deedsFor_23 : decode cX8_deedsFor 23 = .ok (.aload_n 0, 1) := by decide +kernel
theorem dX8_deedsFor_24 : decode cX8_deedsFor 24 = .ok (.getfield 25, 3) := by decide +kernel
theorem dX8_deedsFor_27 : decode cX8_deedsFor 27 = .ok (.iload 4, 2) := by decide +kernel
theorem dX8_deedsFor_29 : decode cX8_deedsFor 29 = .ok (.iconst 1, 1) := by decide +kernel
theorem dX8_deedsFor_30 : decode cX8_deedsFor 30 = .ok (.aload_n 0, 1) := by decide +kernel
theorem dX8_deedsFor_31 : decode cX8_deedsFor 31 = .ok (.iconst 1, 1) := by decide +kernel
theorem dX8_deedsFor_32 : decode cX8_deedsFor 32 = .ok (.iload_n 1, 1) := by decide +kernel
theorem dX8_deedsFor_33 : decode cX8_deedsFor 33 = .ok (.iload_n 2, 1) := by decide +kernel
theorem dX8_deedsFor_34 : decode cX8_deedsFor 34 = .ok (.iload_n 3, 1) := by decide +kernel
theorem dX8_deedsFor_35 : decode cX8_deedsFor 35 = .ok (.invokevirtual 167, 3) := by decide +kernel
theorem dX8_deedsFor_38 : decode cX8_deedsFor 38 = .ok (.iadd, 1) := by decide +kernel
theorem dX8_deedsFor_39 : decode cX8_deedsFor 39 = .ok (.iastore, 1) := by decide +kernel
theorem dX8_deedsFor_40 : decode cX8_deedsFor 40 = .ok (.aload_n 0, 1) := by decide +kernel
theorem dX8_deedsFor_41 : decode cX8_deedsFor 41 = .ok (.getfield 25, 3) := by decide +kernel
theorem dX8_deedsFor_44 : decode cX8_deedsFor 44 = .ok (.iload 4, 2) := by decide +kernel
theorem dX8_deedsFor_46 : decode cX8_deedsFor 46 = .ok (.iaload, 1) := by decide +kernel
theorem dX8_deedsFor_47 : decode cX8_deedsFor 47 = .ok (.iconst 1, 1) := by decide +kernel
theorem dX8_deedsFor_48 : decode cX8_deedsFor 48 = .ok (.isub, 1) := by decide +kernel
theorem dX8_deedsFor_49 : decode cX8_deedsFor 49 = .ok (.ireturn, 1) := by decide +kernel
theorem dX8_hasBit_0 : decode cX8_hasBit 0 = .ok (.iload_n 0, 1) := by decide +kernel
theorem dX8_hasBit_1 : decode cX8_hasBit 1 = .ok (.iload_n 1, 1) := by decide +kernel
theorem dX8_hasBit_2 : decode cX8_hasBit 2 = .ok (.ishr, 1) := by decide +kernel
theorem dX8_hasBit_3 : decode cX8_hasBit 3 = .ok (.iconst 1, 1) := by decide +kernel
theorem dX8_hasBit_4 : decode cX8_hasBit 4 = .ok (.iand, 1) := by decide +kernel
theorem dX8_hasBit_5 : decode cX8_hasBit 5 = .ok (.iconst 1, 1) := by decide +kernel
theorem dX8_hasBit_6 : decode cX8_hasBit 6 = .ok (.if_icmp .ne 7, 3) := by decide +kernel
theorem dX8_hasBit_9 : decode cX8_hasBit 9 = .ok (.iconst 1, 1) := by decide +kernel
theorem dX8_hasBit_10 : decode cX8_hasBit 10 = .ok (.goto 4, 3) := by decide +kernel
theorem dX8_hasBit_13 : decode cX8_hasBit 13 = .ok (.iconst 0, 1) := by decide +kernel
theorem dX8_hasBit_14 : decode cX8_hasBit 14 = .ok (.ireturn, 1) := by decide +kernel
theorem dX8_bits_0 : decode cX8_bits 0 = .ok (.iconst 0, 1) := by decide +kernel
theorem dX8_bits_1 : decode cX8_bits 1 = .ok (.istore_n 1, 1) := by decide +kernel
theorem dX8_bits_2 : decode cX8_bits 2 = .ok (.iload_n 0, 1) := by decide +kernel
theorem dX8_bits_3 : decode cX8_bits 3 = .ok (.istore_n 2, 1) := by decide +kernel
theorem dX8_bits_4 : decode cX8_bits 4 = .ok (.iload_n 2, 1) := by decide +kernel
theorem dX8_bits_5 : decode cX8_bits 5 = .ok (.ifCond .eq 15, 3) := by decide +kernel
theorem dX8_bits_8 : decode cX8_bits 8 = .ok (.iinc 1 1, 3) := by decide +kernel
theorem dX8_bits_11 : decode cX8_bits 11 = .ok (.iload_n 2, 1) := by decide +kernel
theorem dX8_bits_12 : decode cX8_bits 12 = .ok (.iload_n 2, 1) := by decide +kernel
theorem dX8_bits_13 : decode cX8_bits 13 = .ok (.iconst 1, 1) := by decide +kernel
theorem dX8_bits_14 : decode cX8_bits 14 = .ok (.isub, 1) := by decide +kernel
theorem dX8_bits_15 : decode cX8_bits 15 = .ok (.iand, 1) := by decide +kernel
theorem dX8_bits_16 : decode cX8_bits 16 = .ok (.istore_n 2, 1) := by decide +kernel
theorem dX8_bits_17 : decode cX8_bits 17 = .ok (.goto (-13), 3) := by decide +kernel
theorem dX8_bits_20 : decode cX8_bits 20 = .ok (.iload_n 1, 1) := by decide +kernel
theorem dX8_bits_21 : decode cX8_bits 21 = .ok (.ireturn, 1) := by decide +kernel
theorem dX8_isSoul_0 : decode cX8_isSoul 0 = .ok (.iload_n 1, 1) := by decide +kernel
theorem dX8_isSoul_1 : decode cX8_isSoul 1 = .ok (.iconst 0, 1) := by decide +kernel
theorem dX8_isSoul_2 : decode cX8_isSoul 2 = .ok (.aload_n 0, 1) := by decide +kernel
theorem dX8_isSoul_3 : decode cX8_isSoul 3 = .ok (.getfield 9, 3) := by decide +kernel
theorem dX8_isSoul_6 : decode cX8_isSoul 6 = .ok (.iconst 1, 1) := by decide +kernel
theorem dX8_isSoul_7 : decode cX8_isSoul 7 = .ok (.iaload, 1) := by decide +kernel
theorem dX8_isSoul_8 : decode cX8_isSoul 8 = .ok (.iconst 1, 1) := by decide +kernel
theorem dX8_isSoul_9 : decode cX8_isSoul 9 = .ok (.isub, 1) := by decide +kernel
theorem dX8_isSoul_10 : decode cX8_isSoul 10 = .ok (.invokestatic 82, 3) := by decide +kernel
theorem dX8_isSoul_13 : decode cX8_isSoul 13 = .ok (.ireturn, 1) := by decide +kernel
theorem dX8_isStreet_0 : decode cX8_isStreet 0 = .ok (.iload_n 0, 1) := by decide +kernel
theorem dX8_isStreet_1 : decode cX8_isStreet 1 = .ok (.iconst 0, 1) := by decide +kernel
theorem dX8_isStreet_2 : decode cX8_isStreet 2 = .ok (.bipush 7, 2) := by decide +kernel
theorem dX8_isStreet_4 : decode cX8_isStreet 4 = .ok (.invokestatic 82, 3) := by decide +kernel
theorem dX8_isStreet_7 : decode cX8_isStreet 7 = .ok (.ireturn, 1) := by decide +kernel
theorem dX8_soulAt_0 : decode cX8_soulAt 0 = .ok (.bipush 6, 2) := by decide +kernel
theorem dX8_soulAt_2 : decode cX8_soulAt 2 = .ok (.bipush 6, 2) := by decide +kernel
theorem dX8_soulAt_4 : decode cX8_soulAt 4 = .ok (.iload_n 0, 1) := by decide +kernel
theorem dX8_soulAt_5 : decode cX8_soulAt 5 = .ok (.imul, 1) := by decide +kernel
theorem dX8_soulAt_6 : decode cX8_soulAt 6 = .ok (.iadd, 1) := by decide +kernel
theorem dX8_soulAt_7 : decode cX8_soulAt 7 = .ok (.iload_n 1, 1) := by decide +kernel
theorem dX8_soulAt_8 : decode cX8_soulAt 8 = .ok (.iadd, 1) := by decide +kernel
theorem dX8_soulAt_9 : decode cX8_soulAt 9 = .ok (.ireturn, 1) := by decide +kernel
theorem dX8_soulIs_0 : decode cX8_soulIs 0 = .ok (.aload_n 0, 1) := by decide +kernel
theorem dX8_soulIs_1 : decode cX8_soulIs 1 = .ok (.getfield 9, 3) := by decide +kernel
theorem dX8_soulIs_4 : decode cX8_soulIs 4 = .ok (.iload_n 1, 1) := by decide +kernel
theorem dX8_soulIs_5 : decode cX8_soulIs 5 = .ok (.iload_n 2, 1) := by decide +kernel
theorem dX8_soulIs_6 : decode cX8_soulIs 6 = .ok (.invokestatic 171, 3) := by decide +kernel
theorem dX8_soulIs_9 : decode cX8_soulIs 9 = .ok (.iaload, 1) := by decide +kernel
theorem dX8_soulIs_10 : decode cX8_soulIs 10 = .ok (.ireturn, 1) := by decide +kernel
theorem dX8_isKindM_0 : decode cX8_isKindM 0 = .ok (.iload_n 0, 1) := by decide +kernel
theorem dX8_isKindM_1 : decode cX8_isKindM 1 = .ok (.iconst 0, 1) := by decide +kernel
theorem dX8_isKindM_2 : decode cX8_isKindM 2 = .ok (.bipush 69, 2) := by decide +kernel
theorem dX8_isKindM_4 : decode cX8_isKindM 4 = .ok (.invokestatic 82, 3) := by decide +kernel
theorem dX8_isKindM_7 : decode cX8_isKindM 7 = .ok (.ireturn, 1) := by decide +kernel
theorem dX8_soulComes_0 : decode cX8_soulComes 0 = .ok (.aload_n 0, 1) := by decide +kernel
theorem dX8_soulComes_1 : decode cX8_soulComes 1 = .ok (.getfield 9, 3) := by decide +kernel
theorem dX8_soulComes_4 : decode cX8_soulComes 4 = .ok (.iconst 1, 1) := by decide +kernel
theorem dX8_soulComes_5 : decode cX8_soulComes 5 = .ok (.iaload, 1) := by decide +kernel
theorem dX8_soulComes_6 : decode cX8_soulComes 6 = .ok (.istore_n 3, 1) := by decide +kernel
theorem dX8_soulComes_7 : decode cX8_soulComes 7 = .ok (.iconst 0, 1) := by decide +kernel
theorem dX8_soulComes_8 : decode cX8_soulComes 8 = .ok (.istore 4, 2) := by decide +kernel
theorem dX8_soulComes_10 : decode cX8_soulComes 10 = .ok (.iload 4, 2) := by decide +kernel
theorem dX8_soulComes_12 : decode cX8_soulComes 12 = .ok (.bipush 6, 2) := by decide +kernel
theorem dX8_soulComes_14 : decode cX8_soulComes 14 = .ok (.if_icmp .ge 21, 3) := by decide +kernel
theorem dX8_soulComes_17 : decode cX8_soulComes 17 = .ok (.aload_n 0, 1) := by decide +kernel
theorem dX8_soulComes_18 : decode cX8_soulComes 18 = .ok (.getfield 9, 3) := by decide +kernel
theorem dX8_soulComes_21 : decode cX8_soulComes 21 = .ok (.iload_n 3, 1) := by decide +kernel
theorem dX8_soulComes_22 : decode cX8_soulComes 22 = .ok (.iload 4, 2) := by decide +kernel
theorem dX8_soulComes_24 : decode cX8_soulComes 24 = .ok (.invokestatic 171, 3) := by decide +kernel
theorem dX8_soulComes_27 : decode cX8_soulComes 27 = .ok (.iconst 0, 1) := by decide +kernel
theorem dX8_soulComes_28 : decode cX8_soulComes 28 = .ok (.iastore, 1) := by decide +kernel
theorem dX8_soulComes_29 : decode cX8_soulComes 29 = .ok (.iinc 4 1, 3) := by decide +kernel
theorem dX8_soulComes_32 : decode cX8_soulComes 32 = .ok (.goto (-22), 3) := by decide +kernel
theorem dX8_soulComes_35 : decode cX8_soulComes 35 = .ok (.aload_n 0, 1) := by decide +kernel
theorem dX8_soulComes_36 : decode cX8_soulComes 36 = .ok (.getfield 9, 3) := by decide +kernel
theorem dX8_soulComes_39 : decode cX8_soulComes 39 = .ok (.iload_n 3, 1) := by decide +kernel
theorem dX8_soulComes_40 : decode cX8_soulComes 40 = .ok (.iconst 0, 1) := by decide +kernel
theorem dX8_soulComes_41 : decode cX8_soulComes 41 = .ok (.invokestatic 171, 3) := by decide +kernel
theorem dX8_soulComes_44 : decode cX8_soulComes 44 = .ok (.iload_n 1, 1) := by decide +kernel
theorem dX8_soulComes_45 : decode cX8_soulComes 45 = .ok (.bipush 10, 2) := by decide +kernel
theorem dX8_soulComes_47 : decode cX8_soulComes 47 = .ok (.idiv, 1) := by decide +kernel
theorem dX8_soulComes_48 : decode cX8_soulComes 48 = .ok (.iastore, 1) := by decide +kernel
theorem dX8_soulComes_49 : decode cX8_soulComes 49 = .ok (.aload_n 0, 1) := by decide +kernel
theorem dX8_soulComes_50 : decode cX8_soulComes 50 = .ok (.getfield 9, 3) := by decide +kernel
theorem dX8_soulComes_53 : decode cX8_soulComes 53 = .ok (.iload_n 3, 1) := by decide +kernel
theorem dX8_soulComes_54 : decode cX8_soulComes 54 = .ok (.iconst 1, 1) := by decide +kernel
theorem dX8_soulComes_55 : decode cX8_soulComes 55 = .ok (.invokestatic 171, 3) := by decide +kernel
theorem dX8_soulComes_58 : decode cX8_soulComes 58 = .ok (.iload_n 1, 1) := by decide +kernel
theorem dX8_soulComes_59 : decode cX8_soulComes 59 = .ok (.bipush 10, 2) := by decide +kernel
theorem dX8_soulComes_61 : decode cX8_soulComes 61 = .ok (.irem, 1) := by decide +kernel
theorem dX8_soulComes_62 : decode cX8_soulComes 62 = .ok (.iastore, 1) := by decide +kernel
theorem dX8_soulComes_63 : decode cX8_soulComes 63 = .ok (.aload_n 0, 1) := by decide +kernel
theorem dX8_soulComes_64 : decode cX8_soulComes 64 = .ok (.getfield 9, 3) := by decide +kernel
theorem dX8_soulComes_67 : decode cX8_soulComes 67 = .ok (.iload_n 3, 1) := by decide +kernel
theorem dX8_soulComes_68 : decode cX8_soulComes 68 = .ok (.iconst 2, 1) := by decide +kernel
theorem dX8_soulComes_69 : decode cX8_soulComes 69 = .ok (.invokestatic 171, 3) := by decide +kernel
theorem dX8_soulComes_72 : decode cX8_soulComes 72 = .ok (.iload_n 2, 1) := by decide +kernel
theorem dX8_soulComes_73 : decode cX8_soulComes 73 = .ok (.iastore, 1) := by decide +kernel
theorem dX8_soulComes_74 : decode cX8_soulComes 74 = .ok (.aload_n 0, 1) := by decide +kernel
theorem dX8_soulComes_75 : decode cX8_soulComes 75 = .ok (.getfield 9, 3) := by decide +kernel
theorem dX8_soulComes_78 : decode cX8_soulComes 78 = .ok (.iconst 1, 1) := by decide +kernel
theorem dX8_soulComes_79 : decode cX8_soulComes 79 = .ok (.dup2, 1) := by decide +kernel
theorem dX8_soulComes_80 : decode cX8_soulComes 80 = .ok (.iaload, 1) := by decide +kernel
theorem dX8_soulComes_81 : decode cX8_soulComes 81 = .ok (.iconst 1, 1) := by decide +kernel
theorem dX8_soulComes_82 : decode cX8_soulComes 82 = .ok (.iadd, 1) := by decide +kernel
theorem dX8_soulComes_83 : decode cX8_soulComes 83 = .ok (.iastore, 1) := by decide +kernel
theorem dX8_soulComes_84 : decode cX8_soulComes 84 = .ok (.iload_n 3, 1) := by decide +kernel
theorem dX8_soulComes_85 : decode cX8_soulComes 85 = .ok (.ireturn, 1) := by decide +kernel
theorem dX8_soul_0 : decode cX8_soul 0 = .ok (.iload_n 1, 1) := by decide +kernel
theorem dX8_soul_1 : decode cX8_soul 1 = .ok (.invokestatic 174, 3) := by decide +kernel
theorem dX8_soul_4 : decode cX8_soul 4 = .ok (.ifCond .eq 10, 3) := by decide +kernel
theorem dX8_soul_7 : decode cX8_soul 7 = .ok (.iload_n 2, 1) := by decide +kernel
theorem dX8_soul_8 : decode cX8_soul 8 = .ok (.invokestatic 177, 3) := by decide +kernel
theorem dX8_soul_11 : decode cX8_soul 11 = .ok (.ifCond .ne 10, 3) := by decide +kernel
theorem dX8_soul_14 : decode cX8_soul 14 = .ok (.aload_n 0, 1) := by decide +kernel
theorem dX8_soul_15 : decode cX8_soul 15 = .ok (.ldc 86, 2) := by decide +kernel
theorem dX8_soul_17 : decode cX8_soul 17 = .ok (.invokevirtual 87, 3) := by decide +kernel
theorem dX8_soul_20 : decode cX8_soul 20 = .ok (.ireturn, 1) := by decide +kernel
theorem dX8_soul_21 : decode cX8_soul 21 = .ok (.aload_n 0, 1) := by decide +kernel
theorem dX8_soul_22 : decode cX8_soul 22 = .ok (.getfield 9, 3) := by decide +kernel
theorem dX8_soul_25 : decode cX8_soul 25 = .ok (.iconst 1, 1) := by decide +kernel
theorem dX8_soul_26 : decode cX8_soul 26 = .ok (.iaload, 1) := by decide +kernel
theorem dX8_soul_27 : decode cX8_soul 27 = .ok (.bipush 8, 2) := by decide +kernel
theorem dX8_soul_29 : decode cX8_soul 29 = .ok (.if_icmp .ne 12, 3) := by decide +kernel
theorem dX8_soul_32 : decode cX8_soul 32 = .ok (.aload_n 0, 1) := by decide +kernel
theorem dX8_soul_33 : decode cX8_soul 33 = .ok (.ldc 91, 2) := by decide +kernel
theorem dX8_soul_35 : decode cX8_soul 35 = .ok (.invokevirtual 87, 3) := by decide +kernel
theorem dX8_soul_38 : decode cX8_soul 38 = .ok (.goto 9, 3) := by decide +kernel
theorem dX8_soul_41 : decode cX8_soul 41 = .ok (.aload_n 0, 1) := by decide +kernel
theorem dX8_soul_42 : decode cX8_soul 42 = .ok (.iload_n 1, 1) := by decide +kernel
theorem dX8_soul_43 : decode cX8_soul 43 = .ok (.iload_n 2, 1) := by decide +kernel
theorem dX8_soul_44 : decode cX8_soul 44 = .ok (.invokevirtual 180, 3) := by decide +kernel
theorem dX8_soul_47 : decode cX8_soul 47 = .ok (.ireturn, 1) := by decide +kernel
theorem dX8_above_0 : decode cX8_above 0 = .ok (.iload_n 0, 1) := by decide +kernel
theorem dX8_above_1 : decode cX8_above 1 = .ok (.ifCond .ne 7, 3) := by decide +kernel
theorem dX8_above_4 : decode cX8_above 4 = .ok (.iconst (-1), 1) := by decide +kernel
theorem dX8_above_5 : decode cX8_above 5 = .ok (.goto 32, 3) := by decide +kernel
theorem dX8_above_8 : decode cX8_above 8 = .ok (.iload_n 0, 1) := by decide +kernel
theorem dX8_above_9 : decode cX8_above 9 = .ok (.iconst 4, 1) := by decide +kernel
theorem dX8_above_10 : decode cX8_above 10 = .ok (.if_icmp .ne 7, 3) := by decide +kernel
theorem dX8_above_13 : decode cX8_above 13 = .ok (.iconst 1, 1) := by decide +kernel
theorem dX8_above_14 : decode cX8_above 14 = .ok (.goto 23, 3) := by decide +kernel
theorem dX8_above_17 : decode cX8_above 17 = .ok (.iload_n 0, 1) := by decide +kernel
theorem dX8_above_18 : decode cX8_above 18 = .ok (.iconst 5, 1) := by decide +kernel
theorem dX8_above_19 : decode cX8_above 19 = .ok (.if_icmp .ne 7, 3) := by decide +kernel
theorem dX8_above_22 : decode cX8_above 22 = .ok (.iconst 2, 1) := by decide +kernel
theorem dX8_above_23 : decode cX8_above 23 = .ok (.goto 14, 3) := by decide +kernel
theorem dX8_above_26 : decode cX8_above 26 = .ok (.iload_n 0, 1) := by decide +kernel
theorem dX8_above_27 : decode cX8_above 27 = .ok (.bipush 6, 2) := by decide +kernel
theorem dX8_above_29 : decode cX8_above 29 = .ok (.if_icmp .ne 7, 3) := by decide +kernel
theorem dX8_above_32 : decode cX8_above 32 = .ok (.iconst 3, 1) := by decide +kernel
theorem dX8_above_33 : decode cX8_above 33 = .ok (.goto 4, 3) := by decide +kernel
theorem dX8_above_36 : decode cX8_above 36 = .ok (.iconst 0, 1) := by decide +kernel
theorem dX8_above_37 : decode cX8_above 37 = .ok (.ireturn, 1) := by decide +kernel
theorem dX8_isUnder_0 : decode cX8_isUnder 0 = .ok (.iload_n 0, 1) := by decide +kernel
theorem dX8_isUnder_1 : decode cX8_isUnder 1 = .ok (.istore_n 2, 1) := by decide +kernel
theorem dX8_isUnder_2 : decode cX8_isUnder 2 = .ok (.iload_n 2, 1) := by decide +kernel
theorem dX8_isUnder_3 : decode cX8_isUnder 3 = .ok (.ifCond .lt 16, 3) := by decide +kernel
theorem dX8_isUnder_6 : decode cX8_isUnder 6 = .ok (.iload_n 2, 1) := by decide +kernel
theorem dX8_isUnder_7 : decode cX8_isUnder 7 = .ok (.iload_n 1, 1) := by decide +kernel
theorem dX8_isUnder_8 : decode cX8_isUnder 8 = .ok (.if_icmp .eq 11, 3) := by decide +kernel
theorem dX8_isUnder_11 : decode cX8_isUnder 11 = .ok (.iload_n 2, 1) := by decide +kernel
theorem dX8_isUnder_12 : decode cX8_isUnder 12 = .ok (.invokestatic 183, 3) := by decide +kernel
theorem dX8_isUnder_15 : decode cX8_isUnder 15 = .ok (.istore_n 2, 1) := by decide +kernel
theorem dX8_isUnder_16 : decode cX8_isUnder 16 = .ok (.goto (-14), 3) := by decide +kernel
theorem dX8_isUnder_19 : decode cX8_isUnder 19 = .ok (.iload_n 2, 1) := by decide +kernel
theorem dX8_isUnder_20 : decode cX8_isUnder 20 = .ok (.ifCond .lt 7, 3) := by decide +kernel
theorem dX8_isUnder_23 : decode cX8_isUnder 23 = .ok (.iconst 1, 1) := by decide +kernel
theorem dX8_isUnder_24 : decode cX8_isUnder 24 = .ok (.goto 4, 3) := by decide +kernel
theorem dX8_isUnder_27 : decode cX8_isUnder 27 = .ok (.iconst 0, 1) := by decide +kernel
theorem dX8_isUnder_28 : decode cX8_isUnder 28 = .ok (.ireturn, 1) := by decide +kernel
theorem dX8_keepsNow_0 : decode cX8_keepsNow 0 = .ok (.aload_n 0, 1) := by decide +kernel
theorem dX8_keepsNow_1 : decode cX8_keepsNow 1 = .ok (.iload_n 1, 1) := by decide +kernel
theorem dX8_keepsNow_2 : decode cX8_keepsNow 2 = .ok (.iconst 0, 1) := by decide +kernel
theorem dX8_keepsNow_3 : decode cX8_keepsNow 3 = .ok (.invokevirtual 186, 3) := by decide +kernel
theorem dX8_keepsNow_6 : decode cX8_keepsNow 6 = .ok (.istore_n 2, 1) := by decide +kernel
theorem dX8_keepsNow_7 : decode cX8_keepsNow 7 = .ok (.iload_n 2, 1) := by decide +kernel
theorem dX8_keepsNow_8 : decode cX8_keepsNow 8 = .ok (.iconst 1, 1) := by decide +kernel
theorem dX8_keepsNow_9 : decode cX8_keepsNow 9 = .ok (.invokestatic 189, 3) := by decide +kernel
theorem dX8_keepsNow_12 : decode cX8_keepsNow 12 = .ok (.ifCond .ne 5, 3) := by decide +kernel
theorem dX8_keepsNow_15 : decode cX8_keepsNow 15 = .ok (.iconst 0, 1) := by decide +kernel
theorem dX8_keepsNow_16 : decode cX8_keepsNow 16 = .ok (.ireturn, 1) := by decide +kernel
theorem dX8_keepsNow_17 : decode cX8_keepsNow 17 = .ok (.bipush 10, 2) := by decide +kernel
theorem dX8_keepsNow_19 : decode cX8_keepsNow 19 = .ok (.aload_n 0, 1) := by decide +kernel
theorem dX8_keepsNow_20 : decode cX8_keepsNow 20 = .ok (.iload_n 1, 1) := by decide +kernel
theorem dX8_keepsNow_21 : decode cX8_keepsNow 21 = .ok (.iconst 1, 1) := by decide +kernel
theorem dX8_keepsNow_22 : decode cX8_keepsNow 22 = .ok (.invokevirtual 186, 3) := by decide +kernel
theorem dX8_keepsNow_25 : decode cX8_keepsNow 25 = .ok (.iadd, 1) := by decide +kernel
theorem dX8_keepsNow_26 : decode cX8_keepsNow 26 = .ok (.iload_n 2, 1) := by decide +kernel
theorem dX8_keepsNow_27 : decode cX8_keepsNow 27 = .ok (.iconst 4, 1) := by decide +kernel
theorem dX8_keepsNow_28 : decode cX8_keepsNow 28 = .ok (.if_icmp .ne 20, 3) := by decide +kernel
theorem dX8_keepsNow_31 : decode cX8_keepsNow 31 = .ok (.aload_n 0, 1) := by decide +kernel
theorem dX8_keepsNow_32 : decode cX8_keepsNow 32 = .ok (.getfield 9, 3) := by decide +kernel
theorem dX8_keepsNow_35 : decode cX8_keepsNow 35 = .ok (.iconst 0, 1) := by decide +kernel
theorem dX8_keepsNow_36 : decode cX8_keepsNow 36 = .ok (.iaload, 1) := by decide +kernel
theorem dX8_keepsNow_37 : decode cX8_keepsNow 37 = .ok (.bipush 7, 2) := by decide +kernel
theorem dX8_keepsNow_39 : decode cX8_keepsNow 39 = .ok (.irem, 1) := by decide +kernel
theorem dX8_keepsNow_40 : decode cX8_keepsNow 40 = .ok (.ifCond .ne 8, 3) := by decide +kernel
theorem dX8_keepsNow_43 : decode cX8_keepsNow 43 = .ok (.bipush 20, 2) := by decide +kernel
theorem dX8_keepsNow_45 : decode cX8_keepsNow 45 = .ok (.goto 4, 3) := by decide +kernel
theorem dX8_keepsNow_48 : decode cX8_keepsNow 48 = .ok (.iconst 0, 1) := by decide +kernel
theorem dX8_keepsNow_49 : decode cX8_keepsNow 49 = .ok (.iadd, 1) := by decide +kernel
theorem dX8_keepsNow_50 : decode cX8_keepsNow 50 = .ok (.ireturn, 1) := by decide +kernel
theorem dX8_handsBy_0 : decode cX8_handsBy 0 = .ok (.iload_n 2, 1) := by decide +kernel
theorem dX8_handsBy_1 : decode cX8_handsBy 1 = .ok (.aload_n 0, 1) := by decide +kernel
theorem dX8_handsBy_2 : decode cX8_handsBy 2 = .ok (.getfield 9, 3) := by decide +kernel
theorem dX8_handsBy_5 : decode cX8_handsBy 5 = .ok (.iconst 2, 1) := by decide +kernel
theorem dX8_handsBy_6 : decode cX8_handsBy 6 = .ok (.iaload, 1) := by decide +kernel
theorem dX8_handsBy_7 : decode cX8_handsBy 7 = .ok (.isub, 1) := by decide +kernel
theorem dX8_handsBy_8 : decode cX8_handsBy 8 = .ok (.istore_n 3, 1) := by decide +kernel
theorem dX8_handsBy_9 : decode cX8_handsBy 9 = .ok (.iload_n 2, 1) := by decide +kernel
theorem dX8_handsBy_10 : decode cX8_handsBy 10 = .ok (.iload_n 3, 1) := by decide +kernel
theorem dX8_handsBy_11 : decode cX8_handsBy 11 = .ok (.aload_n 0, 1) := by decide +kernel
theorem dX8_handsBy_12 : decode cX8_handsBy 12 = .ok (.iload_n 1, 1) := by decide +kernel
theorem dX8_handsBy_13 : decode cX8_handsBy 13 = .ok (.iconst 1, 1) := by decide +kernel
theorem dX8_handsBy_14 : decode cX8_handsBy 14 = .ok (.invokevirtual 186, 3) := by decide +kernel
theorem dX8_handsBy_17 : decode cX8_handsBy 17 = .ok (.iadd, 1) := by decide +kernel
theorem dX8_handsBy_18 : decode cX8_handsBy 18 = .ok (.invokestatic 69, 3) := by decide +kernel
theorem dX8_handsBy_21 : decode cX8_handsBy 21 = .ok (.istore 4, 2) := by decide +kernel
theorem dX8_handsBy_23 : decode cX8_handsBy 23 = .ok (.aload_n 0, 1) := by decide +kernel
theorem dX8_handsBy_24 : decode cX8_handsBy 24 = .ok (.iload_n 1, 1) := by decide +kernel
theorem dX8_handsBy_25 : decode cX8_handsBy 25 = .ok (.iconst 0, 1) := by decide +kernel
theorem dX8_handsBy_26 : decode cX8_handsBy 26 = .ok (.invokevirtual 186, 3) := by decide +kernel
theorem dX8_handsBy_29 : decode cX8_handsBy 29 = .ok (.tableswitch 67 2 6 #[35, 47, 67, 45, 56], 35) := by decide +kernel
theorem dX8_handsBy_64 : decode cX8_handsBy 64 = .ok (.iload_n 3, 1) := by decide +kernel
theorem dX8_handsBy_65 : decode cX8_handsBy 65 = .ok (.iconst 2, 1) := by decide +kernel
theorem dX8_handsBy_66 : decode cX8_handsBy 66 = .ok (.idiv, 1) := by decide +kernel
theorem dX8_handsBy_67 : decode cX8_handsBy 67 = .ok (.iconst 0, 1) := by decide +kernel
theorem dX8_handsBy_68 : decode cX8_handsBy 68 = .ok (.bipush 99, 2) := by decide +kernel
theorem dX8_handsBy_70 : decode cX8_handsBy 70 = .ok (.invokestatic 164, 3) := by decide +kernel
theorem dX8_handsBy_73 : decode cX8_handsBy 73 = .ok (.ireturn, 1) := by decide +kernel
theorem dX8_handsBy_74 : decode cX8_handsBy 74 = .ok (.iconst 0, 1) := by decide +kernel
theorem dX8_handsBy_75 : decode cX8_handsBy 75 = .ok (.ireturn, 1) := by decide +kernel
theorem dX8_handsBy_76 : decode cX8_handsBy 76 = .ok (.iload 4, 2) := by decide +kernel
theorem dX8_handsBy_78 : decode cX8_handsBy 78 = .ok (.iconst 0, 1) := by decide +kernel
theorem dX8_handsBy_79 : decode cX8_handsBy 79 = .ok (.bipush 99, 2) := by decide +kernel
theorem dX8_handsBy_81 : decode cX8_handsBy 81 = .ok (.invokestatic 164, 3) := by decide +kernel
theorem dX8_handsBy_84 : decode cX8_handsBy 84 = .ok (.ireturn, 1) := by decide +kernel
theorem dX8_handsBy_85 : decode cX8_handsBy 85 = .ok (.iload 4, 2) := by decide +kernel
theorem dX8_handsBy_87 : decode cX8_handsBy 87 = .ok (.iconst 1, 1) := by decide +kernel
theorem dX8_handsBy_88 : decode cX8_handsBy 88 = .ok (.iadd, 1) := by decide +kernel
theorem dX8_handsBy_89 : decode cX8_handsBy 89 = .ok (.iconst 0, 1) := by decide +kernel
theorem dX8_handsBy_90 : decode cX8_handsBy 90 = .ok (.bipush 99, 2) := by decide +kernel
theorem dX8_handsBy_92 : decode cX8_handsBy 92 = .ok (.invokestatic 164, 3) := by decide +kernel
theorem dX8_handsBy_95 : decode cX8_handsBy 95 = .ok (.ireturn, 1) := by decide +kernel
theorem dX8_handsBy_96 : decode cX8_handsBy 96 = .ok (.iload_n 3, 1) := by decide +kernel
theorem dX8_handsBy_97 : decode cX8_handsBy 97 = .ok (.iconst 0, 1) := by decide +kernel
theorem dX8_handsBy_98 : decode cX8_handsBy 98 = .ok (.bipush 99, 2) := by decide +kernel
theorem dX8_handsBy_100 : decode cX8_handsBy 100 = .ok (.invokestatic 164, 3) := by decide +kernel
theorem dX8_handsBy_103 : decode cX8_handsBy 103 = .ok (.ireturn, 1) := by decide +kernel
theorem dX8_runsNow_0 : decode cX8_runsNow 0 = .ok (.aload_n 0, 1) := by decide +kernel
theorem dX8_runsNow_1 : decode cX8_runsNow 1 = .ok (.iload_n 1, 1) := by decide +kernel
theorem dX8_runsNow_2 : decode cX8_runsNow 2 = .ok (.iconst 0, 1) := by decide +kernel
theorem dX8_runsNow_3 : decode cX8_runsNow 3 = .ok (.invokevirtual 186, 3) := by decide +kernel
theorem dX8_runsNow_6 : decode cX8_runsNow 6 = .ok (.tableswitch 51 2 6 #[34, 38, 51, 36, 49], 34) := by decide +kernel
theorem dX8_runsNow_40 : decode cX8_runsNow 40 = .ok (.iconst 2, 1) := by decide +kernel
theorem dX8_runsNow_41 : decode cX8_runsNow 41 = .ok (.ireturn, 1) := by decide +kernel
theorem dX8_runsNow_42 : decode cX8_runsNow 42 = .ok (.iconst 3, 1) := by decide +kernel
theorem dX8_runsNow_43 : decode cX8_runsNow 43 = .ok (.ireturn, 1) := by decide +kernel
theorem dX8_runsNow_44 : decode cX8_runsNow 44 = .ok (.iconst 1, 1) := by decide +kernel
theorem dX8_runsNow_45 : decode cX8_runsNow 45 = .ok (.aload_n 0, 1) := by decide +kernel
theorem dX8_runsNow_46 : decode cX8_runsNow 46 = .ok (.iload_n 1, 1) := by decide +kernel
theorem dX8_runsNow_47 : decode cX8_runsNow 47 = .ok (.iconst 1, 1) := by decide +kernel
theorem dX8_runsNow_48 : decode cX8_runsNow 48 = .ok (.invokevirtual 186, 3) := by decide +kernel
theorem dX8_runsNow_51 : decode cX8_runsNow 51 = .ok (.iconst 2, 1) := by decide +kernel
theorem dX8_runsNow_52 : decode cX8_runsNow 52 = .ok (.irem, 1) := by decide +kernel
theorem dX8_runsNow_53 : decode cX8_runsNow 53 = .ok (.iadd, 1) := by decide +kernel
theorem dX8_runsNow_54 : decode cX8_runsNow 54 = .ok (.ireturn, 1) := by decide +kernel
theorem dX8_runsNow_55 : decode cX8_runsNow 55 = .ok (.iconst 0, 1) := by decide +kernel
theorem dX8_runsNow_56 : decode cX8_runsNow 56 = .ok (.ireturn, 1) := by decide +kernel
theorem dX8_runsNow_57 : decode cX8_runsNow 57 = .ok (.iconst 1, 1) := by decide +kernel
theorem dX8_runsNow_58 : decode cX8_runsNow 58 = .ok (.ireturn, 1) := by decide +kernel
theorem dX8_ofSoul_0 : decode cX8_ofSoul 0 = .ok (.aload_n 0, 1) := by decide +kernel
theorem dX8_ofSoul_1 : decode cX8_ofSoul 1 = .ok (.iload_n 1, 1) := by decide +kernel
theorem dX8_ofSoul_2 : decode cX8_ofSoul 2 = .ok (.invokevirtual 193, 3) := by decide +kernel
theorem dX8_ofSoul_5 : decode cX8_ofSoul 5 = .ok (.ifCond .eq 13, 3) := by decide +kernel
theorem dX8_ofSoul_8 : decode cX8_ofSoul 8 = .ok (.iload_n 2, 1) := by decide +kernel
theorem dX8_ofSoul_9 : decode cX8_ofSoul 9 = .ok (.iconst 0, 1) := by decide +kernel
theorem dX8_ofSoul_10 : decode cX8_ofSoul 10 = .ok (.bipush 8, 2) := by decide +kernel
theorem dX8_ofSoul_12 : decode cX8_ofSoul 12 = .ok (.invokestatic 82, 3) := by decide +kernel
theorem dX8_ofSoul_15 : decode cX8_ofSoul 15 = .ok (.ifCond .ne 10, 3) := by decide +kernel
theorem dX8_ofSoul_18 : decode cX8_ofSoul 18 = .ok (.aload_n 0, 1) := by decide +kernel
theorem dX8_ofSoul_19 : decode cX8_ofSoul 19 = .ok (.ldc 86, 2) := by decide +kernel
theorem dX8_ofSoul_21 : decode cX8_ofSoul 21 = .ok (.invokevirtual 87, 3) := by decide +kernel
theorem dX8_ofSoul_24 : decode cX8_ofSoul 24 = .ok (.ireturn, 1) := by decide +kernel
theorem dX8_ofSoul_25 : decode cX8_ofSoul 25 = .ok (.iload_n 2, 1) := by decide +kernel
theorem dX8_ofSoul_26 : decode cX8_ofSoul 26 = .ok (.bipush 6, 2) := by decide +kernel
theorem dX8_ofSoul_28 : decode cX8_ofSoul 28 = .ok (.if_icmp .ge 12, 3) := by decide +kernel
theorem dX8_ofSoul_31 : decode cX8_ofSoul 31 = .ok (.aload_n 0, 1) := by decide +kernel
theorem dX8_ofSoul_32 : decode cX8_ofSoul 32 = .ok (.iload_n 1, 1) := by decide +kernel
theorem dX8_ofSoul_33 : decode cX8_ofSoul 33 = .ok (.iload_n 2, 1) := by decide +kernel
theorem dX8_ofSoul_34 : decode cX8_ofSoul 34 = .ok (.invokevirtual 186, 3) := by decide +kernel
theorem dX8_ofSoul_37 : decode cX8_ofSoul 37 = .ok (.goto 42, 3) := by decide +kernel
theorem dX8_ofSoul_40 : decode cX8_ofSoul 40 = .ok (.iload_n 2, 1) := by decide +kernel
theorem dX8_ofSoul_41 : decode cX8_ofSoul 41 = .ok (.bipush 6, 2) := by decide +kernel
theorem dX8_ofSoul_43 : decode cX8_ofSoul 43 = .ok (.if_icmp .ne 11, 3) := by decide +kernel
theorem dX8_ofSoul_46 : decode cX8_ofSoul 46 = .ok (.aload_n 0, 1) := by decide +kernel
theorem dX8_ofSoul_47 : decode cX8_ofSoul 47 = .ok (.iload_n 1, 1) := by decide +kernel
theorem dX8_ofSoul_48 : decode cX8_ofSoul 48 = .ok (.invokevirtual 196, 3) := by decide +kernel
theorem dX8_ofSoul_51 : decode cX8_ofSoul 51 = .ok (.goto 28, 3) := by decide +kernel
theorem dX8_ofSoul_54 : decode cX8_ofSoul 54 = .ok (.iload_n 2, 1) := by decide +kernel
theorem dX8_ofSoul_55 : decode cX8_ofSoul 55 = .ok (.bipush 7, 2) := by decide +kernel
theorem dX8_ofSoul_57 : decode cX8_ofSoul 57 = .ok (.if_icmp .ne 17, 3) := by decide +kernel
theorem dX8_ofSoul_60 : decode cX8_ofSoul 60 = .ok (.aload_n 0, 1) := by decide +kernel
theorem dX8_ofSoul_61 : decode cX8_ofSoul 61 = .ok (.iload_n 1, 1) := by decide +kernel
theorem dX8_ofSoul_62 : decode cX8_ofSoul 62 = .ok (.aload_n 0, 1) := by decide +kernel
theorem dX8_ofSoul_63 : decode cX8_ofSoul 63 = .ok (.iload_n 1, 1) := by decide +kernel
theorem dX8_ofSoul_64 : decode cX8_ofSoul 64 = .ok (.iconst 3, 1) := by decide +kernel
theorem dX8_ofSoul_65 : decode cX8_ofSoul 65 = .ok (.invokevirtual 186, 3) := by decide +kernel
theorem dX8_ofSoul_68 : decode cX8_ofSoul 68 = .ok (.invokevirtual 199, 3) := by decide +kernel
theorem dX8_ofSoul_71 : decode cX8_ofSoul 71 = .ok (.goto 8, 3) := by decide +kernel
theorem dX8_ofSoul_74 : decode cX8_ofSoul 74 = .ok (.aload_n 0, 1) := by decide +kernel
theorem dX8_ofSoul_75 : decode cX8_ofSoul 75 = .ok (.iload_n 1, 1) := by decide +kernel
theorem dX8_ofSoul_76 : decode cX8_ofSoul 76 = .ok (.invokevirtual 202, 3) := by decide +kernel
theorem dX8_ofSoul_79 : decode cX8_ofSoul 79 = .ok (.ireturn, 1) := by decide +kernel
theorem dX8_mayBe_0 : decode cX8_mayBe 0 = .ok (.iload_n 0, 1) := by decide +kernel
theorem dX8_mayBe_1 : decode cX8_mayBe 1 = .ok (.ifCond .ne 10, 3) := by decide +kernel
theorem dX8_mayBe_4 : decode cX8_mayBe 4 = .ok (.iload_n 1, 1) := by decide +kernel
theorem dX8_mayBe_5 : decode cX8_mayBe 5 = .ok (.invokestatic 177, 3) := by decide +kernel
theorem dX8_mayBe_8 : decode cX8_mayBe 8 = .ok (.goto 53, 3) := by decide +kernel
theorem dX8_mayBe_11 : decode cX8_mayBe 11 = .ok (.iload_n 0, 1) := by decide +kernel
theorem dX8_mayBe_12 : decode cX8_mayBe 12 = .ok (.iconst 1, 1) := by decide +kernel
theorem dX8_mayBe_13 : decode cX8_mayBe 13 = .ok (.if_icmp .ne 13, 3) := by decide +kernel
theorem dX8_mayBe_16 : decode cX8_mayBe 16 = .ok (.iload_n 1, 1) := by decide +kernel
theorem dX8_mayBe_17 : decode cX8_mayBe 17 = .ok (.iconst 0, 1) := by decide +kernel
theorem dX8_mayBe_18 : decode cX8_mayBe 18 = .ok (.bipush 99, 2) := by decide +kernel
theorem dX8_mayBe_20 : decode cX8_mayBe 20 = .ok (.invokestatic 82, 3) := by decide +kernel
theorem dX8_mayBe_23 : decode cX8_mayBe 23 = .ok (.goto 38, 3) := by decide +kernel
theorem dX8_mayBe_26 : decode cX8_mayBe 26 = .ok (.iload_n 0, 1) := by decide +kernel
theorem dX8_mayBe_27 : decode cX8_mayBe 27 = .ok (.iconst 2, 1) := by decide +kernel
theorem dX8_mayBe_28 : decode cX8_mayBe 28 = .ok (.if_icmp .ne 12, 3) := by decide +kernel
theorem dX8_mayBe_31 : decode cX8_mayBe 31 = .ok (.iload_n 1, 1) := by decide +kernel
theorem dX8_mayBe_32 : decode cX8_mayBe 32 = .ok (.iconst 0, 1) := by decide +kernel
theorem dX8_mayBe_33 : decode cX8_mayBe 33 = .ok (.iconst 1, 1) := by decide +kernel
theorem dX8_mayBe_34 : decode cX8_mayBe 34 = .ok (.invokestatic 82, 3) := by decide +kernel
theorem dX8_mayBe_37 : decode cX8_mayBe 37 = .ok (.goto 24, 3) := by decide +kernel
theorem dX8_mayBe_40 : decode cX8_mayBe 40 = .ok (.iload_n 0, 1) := by decide +kernel
theorem dX8_mayBe_41 : decode cX8_mayBe 41 = .ok (.iconst 3, 1) := by decide +kernel
theorem dX8_mayBe_42 : decode cX8_mayBe 42 = .ok (.if_icmp .ne 18, 3) := by decide +kernel
theorem dX8_mayBe_45 : decode cX8_mayBe 45 = .ok (.iload_n 1, 1) := by decide +kernel
theorem dX8_mayBe_46 : decode cX8_mayBe 46 = .ok (.iconst 0, 1) := by decide +kernel
theorem dX8_mayBe_47 : decode cX8_mayBe 47 = .ok (.sipush 9999, 3) := by decide +kernel
theorem dX8_mayBe_50 : decode cX8_mayBe 50 = .ok (.invokestatic 82, 3) := by decide +kernel
theorem dX8_mayBe_53 : decode cX8_mayBe 53 = .ok (.ifCond .eq 7, 3) := by decide +kernel
theorem dX8_mayBe_56 : decode cX8_mayBe 56 = .ok (.iconst 1, 1) := by decide +kernel
theorem dX8_mayBe_57 : decode cX8_mayBe 57 = .ok (.goto 4, 3) := by decide +kernel
theorem dX8_mayBe_60 : decode cX8_mayBe 60 = .ok (.iconst 0, 1) := by decide +kernel
theorem dX8_mayBe_61 : decode cX8_mayBe 61 = .ok (.ireturn, 1) := by decide +kernel
theorem dX8_change_0 : decode cX8_change 0 = .ok (.aload_n 0, 1) := by decide +kernel
theorem dX8_change_1 : decode cX8_change 1 = .ok (.iload_n 1, 1) := by decide +kernel
theorem dX8_change_2 : decode cX8_change 2 = .ok (.invokevirtual 193, 3) := by decide +kernel
theorem dX8_change_5 : decode cX8_change 5 = .ok (.ifCond .eq 26, 3) := by decide +kernel
theorem dX8_change_8 : decode cX8_change 8 = .ok (.iload_n 2, 1) := by decide +kernel
theorem dX8_change_9 : decode cX8_change 9 = .ok (.iload_n 3, 1) := by decide +kernel
theorem dX8_change_10 : decode cX8_change 10 = .ok (.invokestatic 205, 3) := by decide +kernel
theorem dX8_change_13 : decode cX8_change 13 = .ok (.ifCond .eq 18, 3) := by decide +kernel
theorem dX8_change_16 : decode cX8_change 16 = .ok (.aload_n 0, 1) := by decide +kernel
theorem dX8_change_17 : decode cX8_change 17 = .ok (.iload_n 1, 1) := by decide +kernel
theorem dX8_change_18 : decode cX8_change 18 = .ok (.iconst 2, 1) := by decide +kernel
theorem dX8_change_19 : decode cX8_change 19 = .ok (.iload_n 2, 1) := by decide +kernel
theorem dX8_change_20 : decode cX8_change 20 = .ok (.iadd, 1) := by decide +kernel
theorem dX8_change_21 : decode cX8_change 21 = .ok (.invokestatic 171, 3) := by decide +kernel
theorem dX8_change_24 : decode cX8_change 24 = .ok (.iload_n 3, 1) := by decide +kernel
theorem dX8_change_25 : decode cX8_change 25 = .ok (.invokevirtual 208, 3) := by decide +kernel
theorem dX8_change_28 : decode cX8_change 28 = .ok (.goto 9, 3) := by decide +kernel
theorem dX8_change_31 : decode cX8_change 31 = .ok (.aload_n 0, 1) := by decide +kernel
theorem dX8_change_32 : decode cX8_change 32 = .ok (.ldc 86, 2) := by decide +kernel
theorem dX8_change_34 : decode cX8_change 34 = .ok (.invokevirtual 87, 3) := by decide +kernel
theorem dX8_change_37 : decode cX8_change 37 = .ok (.ireturn, 1) := by decide +kernel
theorem dX8_become_0 : decode cX8_become 0 = .ok (.aload_n 0, 1) := by decide +kernel
theorem dX8_become_1 : decode cX8_become 1 = .ok (.iload_n 1, 1) := by decide +kernel
theorem dX8_become_2 : decode cX8_become 2 = .ok (.invokevirtual 193, 3) := by decide +kernel
theorem dX8_become_5 : decode cX8_become 5 = .ok (.ifCond .eq 10, 3) := by decide +kernel
theorem dX8_become_8 : decode cX8_become 8 = .ok (.iload_n 2, 1) := by decide +kernel
theorem dX8_become_9 : decode cX8_become 9 = .ok (.invokestatic 174, 3) := by decide +kernel
theorem dX8_become_12 : decode cX8_become 12 = .ok (.ifCond .ne 10, 3) := by decide +kernel
theorem dX8_become_15 : decode cX8_become 15 = .ok (.aload_n 0, 1) := by decide +kernel
theorem dX8_become_16 : decode cX8_become 16 = .ok (.ldc 86, 2) := by decide +kernel
theorem dX8_become_18 : decode cX8_become 18 = .ok (.invokevirtual 87, 3) := by decide +kernel
theorem dX8_become_21 : decode cX8_become 21 = .ok (.ireturn, 1) := by decide +kernel
theorem dX8_become_22 : decode cX8_become 22 = .ok (.aload_n 0, 1) := by decide +kernel
theorem dX8_become_23 : decode cX8_become 23 = .ok (.getfield 9, 3) := by decide +kernel
theorem dX8_become_26 : decode cX8_become 26 = .ok (.iload_n 1, 1) := by decide +kernel
theorem dX8_become_27 : decode cX8_become 27 = .ok (.iconst 1, 1) := by decide +kernel
theorem dX8_become_28 : decode cX8_become 28 = .ok (.invokestatic 171, 3) := by decide +kernel
theorem dX8_become_31 : decode cX8_become 31 = .ok (.iload_n 2, 1) := by decide +kernel
theorem dX8_become_32 : decode cX8_become 32 = .ok (.bipush 10, 2) := by decide +kernel
theorem dX8_become_34 : decode cX8_become 34 = .ok (.irem, 1) := by decide +kernel
theorem dX8_become_35 : decode cX8_become 35 = .ok (.iastore, 1) := by decide +kernel
theorem dX8_become_36 : decode cX8_become 36 = .ok (.aload_n 0, 1) := by decide +kernel
theorem dX8_become_37 : decode cX8_become 37 = .ok (.iload_n 1, 1) := by decide +kernel
theorem dX8_become_38 : decode cX8_become 38 = .ok (.iconst 0, 1) := by decide +kernel
theorem dX8_become_39 : decode cX8_become 39 = .ok (.invokestatic 171, 3) := by decide +kernel
theorem dX8_become_42 : decode cX8_become 42 = .ok (.iload_n 2, 1) := by decide +kernel
theorem dX8_become_43 : decode cX8_become 43 = .ok (.bipush 10, 2) := by decide +kernel
theorem dX8_become_45 : decode cX8_become 45 = .ok (.idiv, 1) := by decide +kernel
theorem dX8_become_46 : decode cX8_become 46 = .ok (.invokevirtual 208, 3) := by decide +kernel
theorem dX8_become_49 : decode cX8_become 49 = .ok (.ireturn, 1) := by decide +kernel
theorem dX8_as_0 : decode cX8_as 0 = .ok (.aload_n 0, 1) := by decide +kernel
theorem dX8_as_1 : decode cX8_as 1 = .ok (.iload_n 1, 1) := by decide +kernel
theorem dX8_as_2 : decode cX8_as 2 = .ok (.invokevirtual 193, 3) := by decide +kernel
theorem dX8_as_5 : decode cX8_as 5 = .ok (.ifCond .eq 13, 3) := by decide +kernel
theorem dX8_as_8 : decode cX8_as 8 = .ok (.iload_n 2, 1) := by decide +kernel
theorem dX8_as_9 : decode cX8_as 9 = .ok (.iconst 0, 1) := by decide +kernel
theorem dX8_as_10 : decode cX8_as 10 = .ok (.bipush 6, 2) := by decide +kernel
theorem dX8_as_12 : decode cX8_as 12 = .ok (.invokestatic 82, 3) := by decide +kernel
theorem dX8_as_15 : decode cX8_as 15 = .ok (.ifCond .ne 10, 3) := by decide +kernel
theorem dX8_as_18 : decode cX8_as 18 = .ok (.aload_n 0, 1) := by decide +kernel
theorem dX8_as_19 : decode cX8_as 19 = .ok (.ldc 86, 2) := by decide +kernel
theorem dX8_as_21 : decode cX8_as 21 = .ok (.invokevirtual 87, 3) := by decide +kernel
theorem dX8_as_24 : decode cX8_as 24 = .ok (.ireturn, 1) := by decide +kernel
theorem dX8_as_25 : decode cX8_as 25 = .ok (.aload_n 0, 1) := by decide +kernel
theorem dX8_as_26 : decode cX8_as 26 = .ok (.iload_n 1, 1) := by decide +kernel
theorem dX8_as_27 : decode cX8_as 27 = .ok (.iconst 0, 1) := by decide +kernel
theorem dX8_as_28 : decode cX8_as 28 = .ok (.invokevirtual 186, 3) := by decide +kernel
theorem dX8_as_31 : decode cX8_as 31 = .ok (.iload_n 2, 1) := by decide +kernel
theorem dX8_as_32 : decode cX8_as 32 = .ok (.invokestatic 189, 3) := by decide +kernel
theorem dX8_as_35 : decode cX8_as 35 = .ok (.ifCond .eq 12, 3) := by decide +kernel
theorem dX8_as_38 : decode cX8_as 38 = .ok (.aload_n 0, 1) := by decide +kernel
theorem dX8_as_39 : decode cX8_as 39 = .ok (.iload_n 1, 1) := by decide +kernel
theorem dX8_as_40 : decode cX8_as 40 = .ok (.iconst 1, 1) := by decide +kernel
theorem dX8_as_41 : decode cX8_as 41 = .ok (.invokevirtual 186, 3) := by decide +kernel
theorem dX8_as_44 : decode cX8_as 44 = .ok (.goto 9, 3) := by decide +kernel
theorem dX8_as_47 : decode cX8_as 47 = .ok (.aload_n 0, 1) := by decide +kernel
theorem dX8_as_48 : decode cX8_as 48 = .ok (.ldc 211, 2) := by decide +kernel
theorem dX8_as_50 : decode cX8_as 50 = .ok (.invokevirtual 87, 3) := by decide +kernel
theorem dX8_as_53 : decode cX8_as 53 = .ok (.ireturn, 1) := by decide +kernel
theorem dX8_loss_0 : decode cX8_loss 0 = .ok (.iload_n 1, 1) := by decide +kernel
theorem dX8_loss_1 : decode cX8_loss 1 = .ok (.iconst 1, 1) := by decide +kernel
theorem dX8_loss_2 : decode cX8_loss 2 = .ok (.bipush 9, 2) := by decide +kernel
theorem dX8_loss_4 : decode cX8_loss 4 = .ok (.invokestatic 82, 3) := by decide +kernel
theorem dX8_loss_7 : decode cX8_loss 7 = .ok (.ifCond .eq 12, 3) := by decide +kernel
theorem dX8_loss_10 : decode cX8_loss 10 = .ok (.aload_n 0, 1) := by decide +kernel
theorem dX8_loss_11 : decode cX8_loss 11 = .ok (.iconst 2, 1) := by decide +kernel
theorem dX8_loss_12 : decode cX8_loss 12 = .ok (.iload_n 1, 1) := by decide +kernel
theorem dX8_loss_13 : decode cX8_loss 13 = .ok (.invokevirtual 208, 3) := by decide +kernel
theorem dX8_loss_16 : decode cX8_loss 16 = .ok (.goto 9, 3) := by decide +kernel
theorem dX8_loss_19 : decode cX8_loss 19 = .ok (.aload_n 0, 1) := by decide +kernel
theorem dX8_loss_20 : decode cX8_loss 20 = .ok (.ldc 86, 2) := by decide +kernel
theorem dX8_loss_22 : decode cX8_loss 22 = .ok (.invokevirtual 87, 3) := by decide +kernel
theorem dX8_loss_25 : decode cX8_loss 25 = .ok (.ireturn, 1) := by decide +kernel
theorem dX8_atStreet_0 : decode cX8_atStreet 0 = .ok (.iconst 0, 1) := by decide +kernel
theorem dX8_atStreet_1 : decode cX8_atStreet 1 = .ok (.istore_n 2, 1) := by decide +kernel
theorem dX8_atStreet_2 : decode cX8_atStreet 2 = .ok (.iconst 0, 1) := by decide +kernel
theorem dX8_atStreet_3 : decode cX8_atStreet 3 = .ok (.istore_n 3, 1) := by decide +kernel
theorem dX8_atStreet_4 : decode cX8_atStreet 4 = .ok (.iload_n 3, 1) := by decide +kernel
theorem dX8_atStreet_5 : decode cX8_atStreet 5 = .ok (.aload_n 0, 1) := by decide +kernel
theorem dX8_atStreet_6 : decode cX8_atStreet 6 = .ok (.getfield 9, 3) := by decide +kernel
theorem dX8_atStreet_9 : decode cX8_atStreet 9 = .ok (.iconst 1, 1) := by decide +kernel
theorem dX8_atStreet_10 : decode cX8_atStreet 10 = .ok (.iaload, 1) := by decide +kernel
theorem dX8_atStreet_11 : decode cX8_atStreet 11 = .ok (.if_icmp .ge 29, 3) := by decide +kernel
theorem dX8_atStreet_14 : decode cX8_atStreet 14 = .ok (.iload_n 2, 1) := by decide +kernel
theorem dX8_atStreet_15 : decode cX8_atStreet 15 = .ok (.aload_n 0, 1) := by decide +kernel
theorem dX8_atStreet_16 : decode cX8_atStreet 16 = .ok (.iload_n 3, 1) := by decide +kernel
theorem dX8_atStreet_17 : decode cX8_atStreet 17 = .ok (.iconst 2, 1) := by decide +kernel
theorem dX8_atStreet_18 : decode cX8_atStreet 18 = .ok (.invokevirtual 186, 3) := by decide +kernel
theorem dX8_atStreet_21 : decode cX8_atStreet 21 = .ok (.iload_n 1, 1) := by decide +kernel
theorem dX8_atStreet_22 : decode cX8_atStreet 22 = .ok (.if_icmp .ne 9, 3) := by decide +kernel
theorem dX8_atStreet_25 : decode cX8_atStreet 25 = .ok (.iconst 1, 1) := by decide +kernel
theorem dX8_atStreet_26 : decode cX8_atStreet 26 = .ok (.iload_n 3, 1) := by decide +kernel
theorem dX8_atStreet_27 : decode cX8_atStreet 27 = .ok (.ishl, 1) := by decide +kernel
theorem dX8_atStreet_28 : decode cX8_atStreet 28 = .ok (.goto 4, 3) := by decide +kernel
theorem dX8_atStreet_31 : decode cX8_atStreet 31 = .ok (.iconst 0, 1) := by decide +kernel
theorem dX8_atStreet_32 : decode cX8_atStreet 32 = .ok (.ior, 1) := by decide +kernel
theorem dX8_atStreet_33 : decode cX8_atStreet 33 = .ok (.istore_n 2, 1) := by decide +kernel
theorem dX8_atStreet_34 : decode cX8_atStreet 34 = .ok (.iinc 3 1, 3) := by decide +kernel
theorem dX8_atStreet_37 : decode cX8_atStreet 37 = .ok (.goto (-33), 3) := by decide +kernel
theorem dX8_atStreet_40 : decode cX8_atStreet 40 = .ok (.iload_n 2, 1) := by decide +kernel
theorem dX8_atStreet_41 : decode cX8_atStreet 41 = .ok (.ireturn, 1) := by decide +kernel
theorem dX8_freeNow_0 : decode cX8_freeNow 0 = .ok (.iconst 0, 1) := by decide +kernel
theorem dX8_freeNow_1 : decode cX8_freeNow 1 = .ok (.istore_n 1, 1) := by decide +kernel
theorem dX8_freeNow_2 : decode cX8_freeNow 2 = .ok (.iconst 0, 1) := by decide +kernel
theorem dX8_freeNow_3 : decode cX8_freeNow 3 = .ok (.istore_n 2, 1) := by decide +kernel
theorem dX8_freeNow_4 : decode cX8_freeNow 4 = .ok (.iload_n 2, 1) := by decide +kernel
theorem dX8_freeNow_5 : decode cX8_freeNow 5 = .ok (.aload_n 0, 1) := by decide +kernel
theorem dX8_freeNow_6 : decode cX8_freeNow 6 = .ok (.getfield 9, 3) := by decide +kernel
theorem dX8_freeNow_9 : decode cX8_freeNow 9 = .ok (.iconst 1, 1) := by decide +kernel
theorem dX8_freeNow_10 : decode cX8_freeNow 10 = .ok (.iaload, 1) := by decide +kernel
theorem dX8_freeNow_11 : decode cX8_freeNow 11 = .ok (.if_icmp .ge 28, 3) := by decide +kernel
theorem dX8_freeNow_14 : decode cX8_freeNow 14 = .ok (.iload_n 1, 1) := by decide +kernel
theorem dX8_freeNow_15 : decode cX8_freeNow 15 = .ok (.aload_n 0, 1) := by decide +kernel
theorem dX8_freeNow_16 : decode cX8_freeNow 16 = .ok (.iload_n 2, 1) := by decide +kernel
theorem dX8_freeNow_17 : decode cX8_freeNow 17 = .ok (.iconst 3, 1) := by decide +kernel
theorem dX8_freeNow_18 : decode cX8_freeNow 18 = .ok (.invokevirtual 186, 3) := by decide +kernel
theorem dX8_freeNow_21 : decode cX8_freeNow 21 = .ok (.ifCond .le 9, 3) := by decide +kernel
theorem dX8_freeNow_24 : decode cX8_freeNow 24 = .ok (.iconst 1, 1) := by decide +kernel
theorem dX8_freeNow_25 : decode cX8_freeNow 25 = .ok (.iload_n 2, 1) := by decide +kernel
theorem dX8_freeNow_26 : decode cX8_freeNow 26 = .ok (.ishl, 1) := by decide +kernel
theorem dX8_freeNow_27 : decode cX8_freeNow 27 = .ok (.goto 4, 3) := by decide +kernel
theorem dX8_freeNow_30 : decode cX8_freeNow 30 = .ok (.iconst 0, 1) := by decide +kernel
theorem dX8_freeNow_31 : decode cX8_freeNow 31 = .ok (.ior, 1) := by decide +kernel
theorem dX8_freeNow_32 : decode cX8_freeNow 32 = .ok (.istore_n 1, 1) := by decide +kernel
theorem dX8_freeNow_33 : decode cX8_freeNow 33 = .ok (.iinc 2 1, 3) := by decide +kernel
theorem dX8_freeNow_36 : decode cX8_freeNow 36 = .ok (.goto (-32), 3) := by decide +kernel
theorem dX8_freeNow_39 : decode cX8_freeNow 39 = .ok (.iload_n 1, 1) := by decide +kernel
theorem dX8_freeNow_40 : decode cX8_freeNow 40 = .ok (.ireturn, 1) := by decide +kernel
theorem dX8_street_0 : decode cX8_street 0 = .ok (.iload_n 1, 1) := by decide +kernel
theorem dX8_street_1 : decode cX8_street 1 = .ok (.invokestatic 177, 3) := by decide +kernel
theorem dX8_street_4 : decode cX8_street 4 = .ok (.ifCond .eq 12, 3) := by decide +kernel
theorem dX8_street_7 : decode cX8_street 7 = .ok (.iload_n 2, 1) := by decide +kernel
theorem dX8_street_8 : decode cX8_street 8 = .ok (.iconst 0, 1) := by decide +kernel
theorem dX8_street_9 : decode cX8_street 9 = .ok (.iconst 1, 1) := by decide +kernel
theorem dX8_street_10 : decode cX8_street 10 = .ok (.invokestatic 82, 3) := by decide +kernel
theorem dX8_street_13 : decode cX8_street 13 = .ok (.ifCond .ne 10, 3) := by decide +kernel
theorem dX8_street_16 : decode cX8_street 16 = .ok (.aload_n 0, 1) := by decide +kernel
theorem dX8_street_17 : decode cX8_street 17 = .ok (.ldc 86, 2) := by decide +kernel
theorem dX8_street_19 : decode cX8_street 19 = .ok (.invokevirtual 87, 3) := by decide +kernel
theorem dX8_street_22 : decode cX8_street 22 = .ok (.ireturn, 1) := by decide +kernel
theorem dX8_street_23 : decode cX8_street 23 = .ok (.iload_n 2, 1) := by decide +kernel
theorem dX8_street_24 : decode cX8_street 24 = .ok (.ifCond .ne 11, 3) := by decide +kernel
theorem dX8_street_27 : decode cX8_street 27 = .ok (.aload_n 0, 1) := by decide +kernel
theorem dX8_street_28 : decode cX8_street 28 = .ok (.iload_n 1, 1) := by decide +kernel
theorem dX8_street_29 : decode cX8_street 29 = .ok (.invokevirtual 212, 3) := by decide +kernel
theorem dX8_street_32 : decode cX8_street 32 = .ok (.goto 13, 3) := by decide +kernel
theorem dX8_street_35 : decode cX8_street 35 = .ok (.aload_n 0, 1) := by decide +kernel
theorem dX8_street_36 : decode cX8_street 36 = .ok (.iload_n 1, 1) := by decide +kernel
theorem dX8_street_37 : decode cX8_street 37 = .ok (.invokevirtual 212, 3) := by decide +kernel
theorem dX8_street_40 : decode cX8_street 40 = .ok (.aload_n 0, 1) := by decide +kernel
theorem dX8_street_41 : decode cX8_street 41 = .ok (.invokevirtual 215, 3) := by decide +kernel
theorem dX8_street_44 : decode cX8_street 44 = .ok (.iand, 1) := by decide +kernel
theorem dX8_street_45 : decode cX8_street 45 = .ok (.ireturn, 1) := by decide +kernel
theorem dX8_doMeet_0 : decode cX8_doMeet 0 = .ok (.aload_n 0, 1) := by decide +kernel
theorem dX8_doMeet_1 : decode cX8_doMeet 1 = .ok (.iload_n 1, 1) := by decide +kernel
theorem dX8_doMeet_2 : decode cX8_doMeet 2 = .ok (.iconst 2, 1) := by decide +kernel
theorem dX8_doMeet_3 : decode cX8_doMeet 3 = .ok (.invokevirtual 186, 3) := by decide +kernel
theorem dX8_doMeet_6 : decode cX8_doMeet 6 = .ok (.istore_n 3, 1) := by decide +kernel
theorem dX8_doMeet_7 : decode cX8_doMeet 7 = .ok (.iload_n 3, 1) := by decide +kernel
theorem dX8_doMeet_8 : decode cX8_doMeet 8 = .ok (.aload_n 0, 1) := by decide +kernel
theorem dX8_doMeet_9 : decode cX8_doMeet 9 = .ok (.iload_n 2, 1) := by decide +kernel
theorem dX8_doMeet_10 : decode cX8_doMeet 10 = .ok (.iconst 2, 1) := by decide +kernel
theorem dX8_doMeet_11 : decode cX8_doMeet 11 = .ok (.invokevirtual 186, 3) := by decide +kernel
theorem dX8_doMeet_14 : decode cX8_doMeet 14 = .ok (.if_icmp .ne 41, 3) := by decide +kernel
theorem dX8_doMeet_17 : decode cX8_doMeet 17 = .ok (.aload_n 0, 1) := by decide +kernel
theorem dX8_doMeet_18 : decode cX8_doMeet 18 = .ok (.iload_n 1, 1) := by decide +kernel
theorem dX8_doMeet_19 : decode cX8_doMeet 19 = .ok (.iconst 4, 1) := by decide +kernel
theorem dX8_doMeet_20 : decode cX8_doMeet 20 = .ok (.invokevirtual 186, 3) := by decide +kernel
theorem dX8_doMeet_23 : decode cX8_doMeet 23 = .ok (.ifCond .ne 32, 3) := by decide +kernel
theorem dX8_doMeet_26 : decode cX8_doMeet 26 = .ok (.aload_n 0, 1) := by decide +kernel
theorem dX8_doMeet_27 : decode cX8_doMeet 27 = .ok (.iload_n 2, 1) := by decide +kernel
theorem dX8_doMeet_28 : decode cX8_doMeet 28 = .ok (.iconst 4, 1) := by decide +kernel
theorem dX8_doMeet_29 : decode cX8_doMeet 29 = .ok (.invokevirtual 186, 3) := by decide +kernel
theorem dX8_doMeet_32 : decode cX8_doMeet 32 = .ok (.ifCond .ne 23, 3) := by decide +kernel
theorem dX8_doMeet_35 : decode cX8_doMeet 35 = .ok (.aload_n 0, 1) := by decide +kernel
theorem dX8_doMeet_36 : decode cX8_doMeet 36 = .ok (.iload_n 3, 1) := by decide +kernel
theorem dX8_doMeet_37 : decode cX8_doMeet 37 = .ok (.aload_n 0, 1) := by decide +kernel
theorem dX8_doMeet_38 : decode cX8_doMeet 38 = .ok (.iload_n 3, 1) := by decide +kernel
theorem dX8_doMeet_39 : decode cX8_doMeet 39 = .ok (.invokevirtual 212, 3) := by decide +kernel
theorem dX8_doMeet_42 : decode cX8_doMeet 42 = .ok (.invokestatic 218, 3) := by decide +kernel
theorem dX8_doMeet_45 : decode cX8_doMeet 45 = .ok (.invokevirtual 221, 3) := by decide +kernel
theorem dX8_doMeet_48 : decode cX8_doMeet 48 = .ok (.ifCond .eq 7, 3) := by decide +kernel
theorem dX8_doMeet_51 : decode cX8_doMeet 51 = .ok (.iconst 1, 1) := by decide +kernel
theorem dX8_doMeet_52 : decode cX8_doMeet 52 = .ok (.goto 4, 3) := by decide +kernel
theorem dX8_doMeet_55 : decode cX8_doMeet 55 = .ok (.iconst 0, 1) := by decide +kernel
theorem dX8_doMeet_56 : decode cX8_doMeet 56 = .ok (.ireturn, 1) := by decide +kernel
theorem dX8_meet_0 : decode cX8_meet 0 = .ok (.aload_n 0, 1) := by decide +kernel
theorem dX8_meet_1 : decode cX8_meet 1 = .ok (.iload_n 1, 1) := by decide +kernel
theorem dX8_meet_2 : decode cX8_meet 2 = .ok (.invokevirtual 193, 3) := by decide +kernel
theorem dX8_meet_5 : decode cX8_meet 5 = .ok (.ifCond .eq 16, 3) := by decide +kernel
theorem dX8_meet_8 : decode cX8_meet 8 = .ok (.aload_n 0, 1) := by decide +kernel
theorem dX8_meet_9 : decode cX8_meet 9 = .ok (.iload_n 2, 1) := by decide +kernel
theorem dX8_meet_10 : decode cX8_meet 10 = .ok (.invokevirtual 193, 3) := by decide +kernel
theorem dX8_meet_13 : decode cX8_meet 13 = .ok (.ifCond .eq 8, 3) := by decide +kernel
theorem dX8_meet_16 : decode cX8_meet 16 = .ok (.iload_n 1, 1) := by decide +kernel
theorem dX8_meet_17 : decode cX8_meet 17 = .ok (.iload_n 2, 1) := by decide +kernel
theorem dX8_meet_18 : decode cX8_meet 18 = .ok (.if_icmp .ne 10, 3) := by decide +kernel
theorem dX8_meet_21 : decode cX8_meet 21 = .ok (.aload_n 0, 1) := by decide +kernel
theorem dX8_meet_22 : decode cX8_meet 22 = .ok (.ldc 86, 2) := by decide +kernel
theorem dX8_meet_24 : decode cX8_meet 24 = .ok (.invokevirtual 87, 3) := by decide +kernel
theorem dX8_meet_27 : decode cX8_meet 27 = .ok (.ireturn, 1) := by decide +kernel
theorem dX8_meet_28 : decode cX8_meet 28 = .ok (.aload_n 0, 1) := by decide +kernel
theorem dX8_meet_29 : decode cX8_meet 29 = .ok (.iload_n 1, 1) := by decide +kernel
theorem dX8_meet_30 : decode cX8_meet 30 = .ok (.iload_n 2, 1) := by decide +kernel
theorem dX8_meet_31 : decode cX8_meet 31 = .ok (.invokevirtual 224, 3) := by decide +kernel
theorem dX8_meet_34 : decode cX8_meet 34 = .ok (.ifCond .eq 7, 3) := by decide +kernel
theorem dX8_meet_37 : decode cX8_meet 37 = .ok (.iconst 1, 1) := by decide +kernel
theorem dX8_meet_38 : decode cX8_meet 38 = .ok (.goto 4, 3) := by decide +kernel
theorem dX8_meet_41 : decode cX8_meet 41 = .ok (.iconst 0, 1) := by decide +kernel
theorem dX8_meet_42 : decode cX8_meet 42 = .ok (.ireturn, 1) := by decide +kernel
theorem dX8_handedTo_0 : decode cX8_handedTo 0 = .ok (.iconst 0, 1) := by decide +kernel
theorem dX8_handedTo_1 : decode cX8_handedTo 1 = .ok (.istore_n 2, 1) := by decide +kernel
theorem dX8_handedTo_2 : decode cX8_handedTo 2 = .ok (.iconst 0, 1) := by decide +kernel
theorem dX8_handedTo_3 : decode cX8_handedTo 3 = .ok (.istore_n 3, 1) := by decide +kernel
theorem dX8_handedTo_4 : decode cX8_handedTo 4 = .ok (.iload_n 3, 1) := by decide +kernel
theorem dX8_handedTo_5 : decode cX8_handedTo 5 = .ok (.aload_n 0, 1) := by decide +kernel
theorem dX8_handedTo_6 : decode cX8_handedTo 6 = .ok (.getfield 9, 3) := by decide +kernel
theorem dX8_handedTo_9 : decode cX8_handedTo 9 = .ok (.iconst 1, 1) := by decide +kernel
theorem dX8_handedTo_10 : decode cX8_handedTo 10 = .ok (.iaload, 1) := by decide +kernel
theorem dX8_handedTo_11 : decode cX8_handedTo 11 = .ok (.if_icmp .ge 39, 3) := by decide +kernel
theorem dX8_handedTo_14 : decode cX8_handedTo 14 = .ok (.iload_n 3, 1) := by decide +kernel
theorem dX8_handedTo_15 : decode cX8_handedTo 15 = .ok (.iload_n 1, 1) := by decide +kernel
theorem dX8_handedTo_16 : decode cX8_handedTo 16 = .ok (.if_icmp .eq 28, 3) := by decide +kernel
theorem dX8_handedTo_19 : decode cX8_handedTo 19 = .ok (.aload_n 0, 1) := by decide +kernel
theorem dX8_handedTo_20 : decode cX8_handedTo 20 = .ok (.iload_n 1, 1) := by decide +kernel
theorem dX8_handedTo_21 : decode cX8_handedTo 21 = .ok (.iload_n 3, 1) := by decide +kernel
theorem dX8_handedTo_22 : decode cX8_handedTo 22 = .ok (.invokevirtual 224, 3) := by decide +kernel
theorem dX8_handedTo_25 : decode cX8_handedTo 25 = .ok (.ifCond .eq 19, 3) := by decide +kernel
theorem dX8_handedTo_28 : decode cX8_handedTo 28 = .ok (.iload_n 2, 1) := by decide +kernel
theorem dX8_handedTo_29 : decode cX8_handedTo 29 = .ok (.aload_n 0, 1) := by decide +kernel
theorem dX8_handedTo_30 : decode cX8_handedTo 30 = .ok (.iload_n 3, 1) := by decide +kernel
theorem dX8_handedTo_31 : decode cX8_handedTo 31 = .ok (.aload_n 0, 1) := by decide +kernel
theorem dX8_handedTo_32 : decode cX8_handedTo 32 = .ok (.getfield 28, 3) := by decide +kernel
theorem dX8_handedTo_35 : decode cX8_handedTo 35 = .ok (.iload_n 3, 1) := by decide +kernel
theorem dX8_handedTo_36 : decode cX8_handedTo 36 = .ok (.iaload, 1) := by decide +kernel
theorem dX8_handedTo_37 : decode cX8_handedTo 37 = .ok (.invokevirtual 199, 3) := by decide +kernel
theorem dX8_handedTo_40 : decode cX8_handedTo 40 = .ok (.invokestatic 75, 3) := by decide +kernel
theorem dX8_handedTo_43 : decode cX8_handedTo 43 = .ok (.istore_n 2, 1) := by decide +kernel
theorem dX8_handedTo_44 : decode cX8_handedTo 44 = .ok (.iinc 3 1, 3) := by decide +kernel
theorem dX8_handedTo_47 : decode cX8_handedTo 47 = .ok (.goto (-43), 3) := by decide +kernel
theorem dX8_handedTo_50 : decode cX8_handedTo 50 = .ok (.iload_n 2, 1) := by decide +kernel
theorem dX8_handedTo_51 : decode cX8_handedTo 51 = .ok (.ireturn, 1) := by decide +kernel
theorem dX8_step_0 : decode cX8_step 0 = .ok (.iconst 0, 1) := by decide +kernel
theorem dX8_step_1 : decode cX8_step 1 = .ok (.istore_n 1, 1) := by decide +kernel
theorem dX8_step_2 : decode cX8_step 2 = .ok (.iload_n 1, 1) := by decide +kernel
theorem dX8_step_3 : decode cX8_step 3 = .ok (.aload_n 0, 1) := by decide +kernel
theorem dX8_step_4 : decode cX8_step 4 = .ok (.getfield 9, 3) := by decide +kernel
theorem dX8_step_7 : decode cX8_step 7 = .ok (.iconst 1, 1) := by decide +kernel
theorem dX8_step_8 : decode cX8_step 8 = .ok (.iaload, 1) := by decide +kernel
theorem dX8_step_9 : decode cX8_step 9 = .ok (.if_icmp .ge 29, 3) := by decide +kernel
theorem dX8_step_12 : decode cX8_step 12 = .ok (.aload_n 0, 1) := by decide +kernel
theorem dX8_step_13 : decode cX8_step 13 = .ok (.getfield 28, 3) := by decide +kernel
theorem dX8_step_16 : decode cX8_step 16 = .ok (.iload_n 1, 1) := by decide +kernel
theorem dX8_step_17 : decode cX8_step 17 = .ok (.aload_n 0, 1) := by decide +kernel
theorem dX8_step_18 : decode cX8_step 18 = .ok (.iload_n 1, 1) := by decide +kernel
theorem dX8_step_19 : decode cX8_step 19 = .ok (.iconst 3, 1) := by decide +kernel
theorem dX8_step_20 : decode cX8_step 20 = .ok (.invokevirtual 186, 3) := by decide +kernel
theorem dX8_step_23 : decode cX8_step 23 = .ok (.aload_n 0, 1) := by decide +kernel
theorem dX8_step_24 : decode cX8_step 24 = .ok (.iload_n 1, 1) := by decide +kernel
theorem dX8_step_25 : decode cX8_step 25 = .ok (.invokevirtual 196, 3) := by decide +kernel
theorem dX8_step_28 : decode cX8_step 28 = .ok (.invokestatic 75, 3) := by decide +kernel
theorem dX8_step_31 : decode cX8_step 31 = .ok (.iastore, 1) := by decide +kernel
theorem dX8_step_32 : decode cX8_step 32 = .ok (.iinc 1 1, 3) := by decide +kernel
theorem dX8_step_35 : decode cX8_step 35 = .ok (.goto (-33), 3) := by decide +kernel
theorem dX8_step_38 : decode cX8_step 38 = .ok (.iconst 0, 1) := by decide +kernel
theorem dX8_step_39 : decode cX8_step 39 = .ok (.istore_n 1, 1) := by decide +kernel
theorem dX8_step_40 : decode cX8_step 40 = .ok (.iload_n 1, 1) := by decide +kernel
theorem dX8_step_41 : decode cX8_step 41 = .ok (.aload_n 0, 1) := by decide +kernel
theorem dX8_step_42 : decode cX8_step 42 = .ok (.getfield 9, 3) := by decide +kernel
theorem dX8_step_45 : decode cX8_step 45 = .ok (.iconst 1, 1) := by decide +kernel
theorem dX8_step_46 : decode cX8_step 46 = .ok (.iaload, 1) := by decide +kernel
theorem dX8_step_47 : decode cX8_step 47 = .ok (.if_icmp .ge 95, 3) := by decide +kernel
theorem dX8_step_50 : decode cX8_step 50 = .ok (.aload_n 0, 1) := by decide +kernel
theorem dX8_step_51 : decode cX8_step 51 = .ok (.getfield 28, 3) := by decide +kernel
theorem dX8_step_54 : decode cX8_step 54 = .ok (.iload_n 1, 1) := by decide +kernel
theorem dX8_step_55 : decode cX8_step 55 = .ok (.iaload, 1) := by decide +kernel
theorem dX8_step_56 : decode cX8_step 56 = .ok (.aload_n 0, 1) := by decide +kernel
theorem dX8_step_57 : decode cX8_step 57 = .ok (.iload_n 1, 1) := by decide +kernel
theorem dX8_step_58 : decode cX8_step 58 = .ok (.invokevirtual 227, 3) := by decide +kernel
theorem dX8_step_61 : decode cX8_step 61 = .ok (.invokestatic 75, 3) := by decide +kernel
theorem dX8_step_64 : decode cX8_step 64 = .ok (.istore_n 2, 1) := by decide +kernel
theorem dX8_step_65 : decode cX8_step 65 = .ok (.iload_n 2, 1) := by decide +kernel
theorem dX8_step_66 : decode cX8_step 66 = .ok (.ifCond .le 23, 3) := by decide +kernel
theorem dX8_step_69 : decode cX8_step 69 = .ok (.aload_n 0, 1) := by decide +kernel
theorem dX8_step_70 : decode cX8_step 70 = .ok (.iload_n 2, 1) := by decide +kernel
theorem dX8_step_71 : decode cX8_step 71 = .ok (.aload_n 0, 1) := by decide +kernel
theorem dX8_step_72 : decode cX8_step 72 = .ok (.iload_n 1, 1) := by decide +kernel
theorem dX8_step_73 : decode cX8_step 73 = .ok (.iconst 1, 1) := by decide +kernel
theorem dX8_step_74 : decode cX8_step 74 = .ok (.invokevirtual 186, 3) := by decide +kernel
theorem dX8_step_77 : decode cX8_step 77 = .ok (.aload_n 0, 1) := by decide +kernel
theorem dX8_step_78 : decode cX8_step 78 = .ok (.iload_n 1, 1) := by decide +kernel
theorem dX8_step_79 : decode cX8_step 79 = .ok (.iconst 2, 1) := by decide +kernel
theorem dX8_step_80 : decode cX8_step 80 = .ok (.invokevirtual 186, 3) := by decide +kernel
theorem dX8_step_83 : decode cX8_step 83 = .ok (.invokevirtual 230, 3) := by decide +kernel
theorem dX8_step_86 : decode cX8_step 86 = .ok (.goto 4, 3) := by decide +kernel
theorem dX8_step_89 : decode cX8_step 89 = .ok (.iconst 0, 1) := by decide +kernel
theorem dX8_step_90 : decode cX8_step 90 = .ok (.istore_n 3, 1) := by decide +kernel
theorem dX8_step_91 : decode cX8_step 91 = .ok (.aload_n 0, 1) := by decide +kernel
theorem dX8_step_92 : decode cX8_step 92 = .ok (.getfield 9, 3) := by decide +kernel
theorem dX8_step_95 : decode cX8_step 95 = .ok (.iload_n 1, 1) := by decide +kernel
theorem dX8_step_96 : decode cX8_step 96 = .ok (.iconst 5, 1) := by decide +kernel
theorem dX8_step_97 : decode cX8_step 97 = .ok (.invokestatic 171, 3) := by decide +kernel
theorem dX8_step_100 : decode cX8_step 100 = .ok (.sipush 9999, 3) := by decide +kernel
theorem dX8_step_103 : decode cX8_step 103 = .ok (.aload_n 0, 1) := by decide +kernel
theorem dX8_step_104 : decode cX8_step 104 = .ok (.iload_n 1, 1) := by decide +kernel
theorem dX8_step_105 : decode cX8_step 105 = .ok (.iconst 5, 1) := by decide +kernel
theorem dX8_step_106 : decode cX8_step 106 = .ok (.invokevirtual 186, 3) := by decide +kernel
theorem dX8_step_109 : decode cX8_step 109 = .ok (.iload_n 3, 1) := by decide +kernel
theorem dX8_step_110 : decode cX8_step 110 = .ok (.iadd, 1) := by decide +kernel
theorem dX8_step_111 : decode cX8_step 111 = .ok (.invokestatic 69, 3) := by decide +kernel
theorem dX8_step_114 : decode cX8_step 114 = .ok (.iastore, 1) := by decide +kernel
theorem dX8_step_115 : decode cX8_step 115 = .ok (.aload_n 0, 1) := by decide +kernel
theorem dX8_step_116 : decode cX8_step 116 = .ok (.getfield 9, 3) := by decide +kernel
theorem dX8_step_119 : decode cX8_step 119 = .ok (.iload_n 1, 1) := by decide +kernel
theorem dX8_step_120 : decode cX8_step 120 = .ok (.iconst 3, 1) := by decide +kernel
theorem dX8_step_121 : decode cX8_step 121 = .ok (.invokestatic 171, 3) := by decide +kernel
theorem dX8_step_124 : decode cX8_step 124 = .ok (.iconst 0, 1) := by decide +kernel
theorem dX8_step_125 : decode cX8_step 125 = .ok (.iload_n 2, 1) := by decide +kernel
theorem dX8_step_126 : decode cX8_step 126 = .ok (.aload_n 0, 1) := by decide +kernel
theorem dX8_step_127 : decode cX8_step 127 = .ok (.iload_n 1, 1) := by decide +kernel
theorem dX8_step_128 : decode cX8_step 128 = .ok (.invokevirtual 202, 3) := by decide +kernel
theorem dX8_step_131 : decode cX8_step 131 = .ok (.isub, 1) := by decide +kernel
theorem dX8_step_132 : decode cX8_step 132 = .ok (.invokestatic 75, 3) := by decide +kernel
theorem dX8_step_135 : decode cX8_step 135 = .ok (.iastore, 1) := by decide +kernel
theorem dX8_step_136 : decode cX8_step 136 = .ok (.iinc 1 1, 3) := by decide +kernel
theorem dX8_step_139 : decode cX8_step 139 = .ok (.goto (-99), 3) := by decide +kernel
theorem dX8_step_142 : decode cX8_step 142 = .ok (.iconst 0, 1) := by decide +kernel
theorem dX8_step_143 : decode cX8_step 143 = .ok (.istore_n 1, 1) := by decide +kernel
theorem dX8_step_144 : decode cX8_step 144 = .ok (.iload_n 1, 1) := by decide +kernel
theorem dX8_step_145 : decode cX8_step 145 = .ok (.aload_n 0, 1) := by decide +kernel
theorem dX8_step_146 : decode cX8_step 146 = .ok (.getfield 9, 3) := by decide +kernel
theorem dX8_step_149 : decode cX8_step 149 = .ok (.iconst 1, 1) := by decide +kernel
theorem dX8_step_150 : decode cX8_step 150 = .ok (.iaload, 1) := by decide +kernel
theorem dX8_step_151 : decode cX8_step 151 = .ok (.if_icmp .ge 57, 3) := by decide +kernel
theorem dX8_step_154 : decode cX8_step 154 = .ok (.aload_n 0, 1) := by decide +kernel
theorem dX8_step_155 : decode cX8_step 155 = .ok (.iload_n 1, 1) := by decide +kernel
theorem dX8_step_156 : decode cX8_step 156 = .ok (.iconst 0, 1) := by decide +kernel
theorem dX8_step_157 : decode cX8_step 157 = .ok (.invokevirtual 186, 3) := by decide +kernel
theorem dX8_step_160 : decode cX8_step 160 = .ok (.iconst 3, 1) := by decide +kernel
theorem dX8_step_161 : decode cX8_step 161 = .ok (.invokestatic 189, 3) := by decide +kernel
theorem dX8_step_164 : decode cX8_step 164 = .ok (.ifCond .eq 38, 3) := by decide +kernel
theorem dX8_step_167 : decode cX8_step 167 = .ok (.aload_n 0, 1) := by decide +kernel
theorem dX8_step_168 : decode cX8_step 168 = .ok (.iload_n 1, 1) := by decide +kernel
theorem dX8_step_169 : decode cX8_step 169 = .ok (.iconst 4, 1) := by decide +kernel
theorem dX8_step_170 : decode cX8_step 170 = .ok (.invokevirtual 186, 3) := by decide +kernel
theorem dX8_step_173 : decode cX8_step 173 = .ok (.ifCond .ne 29, 3) := by decide +kernel
theorem dX8_step_176 : decode cX8_step 176 = .ok (.aload_n 0, 1) := by decide +kernel
theorem dX8_step_177 : decode cX8_step 177 = .ok (.getfield 9, 3) := by decide +kernel
theorem dX8_step_180 : decode cX8_step 180 = .ok (.iload_n 1, 1) := by decide +kernel
theorem dX8_step_181 : decode cX8_step 181 = .ok (.iconst 2, 1) := by decide +kernel
theorem dX8_step_182 : decode cX8_step 182 = .ok (.invokestatic 171, 3) := by decide +kernel
theorem dX8_step_185 : decode cX8_step 185 = .ok (.aload_n 0, 1) := by decide +kernel
theorem dX8_step_186 : decode cX8_step 186 = .ok (.iload_n 1, 1) := by decide +kernel
theorem dX8_step_187 : decode cX8_step 187 = .ok (.iconst 2, 1) := by decide +kernel
theorem dX8_step_188 : decode cX8_step 188 = .ok (.invokevirtual 186, 3) := by decide +kernel
theorem dX8_step_191 : decode cX8_step 191 = .ok (.aload_n 0, 1) := by decide +kernel
theorem dX8_step_192 : decode cX8_step 192 = .ok (.iload_n 1, 1) := by decide +kernel
theorem dX8_step_193 : decode cX8_step 193 = .ok (.iconst 1, 1) := by decide +kernel
theorem dX8_step_194 : decode cX8_step 194 = .ok (.invokevirtual 186, 3) := by decide +kernel
theorem dX8_step_197 : decode cX8_step 197 = .ok (.iadd, 1) := by decide +kernel
theorem dX8_step_198 : decode cX8_step 198 = .ok (.bipush 8, 2) := by decide +kernel
theorem dX8_step_200 : decode cX8_step 200 = .ok (.irem, 1) := by decide +kernel
theorem dX8_step_201 : decode cX8_step 201 = .ok (.iastore, 1) := by decide +kernel
theorem dX8_step_202 : decode cX8_step 202 = .ok (.iinc 1 1, 3) := by decide +kernel
theorem dX8_step_205 : decode cX8_step 205 = .ok (.goto (-61), 3) := by decide +kernel
theorem dX8_step_208 : decode cX8_step 208 = .ok (.aload_n 0, 1) := by decide +kernel
theorem dX8_step_209 : decode cX8_step 209 = .ok (.getfield 9, 3) := by decide +kernel
theorem dX8_step_212 : decode cX8_step 212 = .ok (.iconst 0, 1) := by decide +kernel
theorem dX8_step_213 : decode cX8_step 213 = .ok (.dup2, 1) := by decide +kernel
theorem dX8_step_214 : decode cX8_step 214 = .ok (.iaload, 1) := by decide +kernel
theorem dX8_step_215 : decode cX8_step 215 = .ok (.iconst 1, 1) := by decide +kernel
theorem dX8_step_216 : decode cX8_step 216 = .ok (.iadd, 1) := by decide +kernel
theorem dX8_step_217 : decode cX8_step 217 = .ok (.iastore, 1) := by decide +kernel
theorem dX8_step_218 : decode cX8_step 218 = .ok (.return_, 1) := by decide +kernel
theorem dX8_stepsGo_0 : decode cX8_stepsGo 0 = .ok (.iconst 0, 1) := by decide +kernel
theorem dX8_stepsGo_1 : decode cX8_stepsGo 1 = .ok (.istore_n 2, 1) := by decide +kernel
theorem dX8_stepsGo_2 : decode cX8_stepsGo 2 = .ok (.iload_n 2, 1) := by decide +kernel
theorem dX8_stepsGo_3 : decode cX8_stepsGo 3 = .ok (.iload_n 1, 1) := by decide +kernel
theorem dX8_stepsGo_4 : decode cX8_stepsGo 4 = .ok (.if_icmp .ge 13, 3) := by decide +kernel
theorem dX8_stepsGo_7 : decode cX8_stepsGo 7 = .ok (.aload_n 0, 1) := by decide +kernel
theorem dX8_stepsGo_8 : decode cX8_stepsGo 8 = .ok (.invokevirtual 233, 3) := by decide +kernel
theorem dX8_stepsGo_11 : decode cX8_stepsGo 11 = .ok (.iinc 2 1, 3) := by decide +kernel
theorem dX8_stepsGo_14 : decode cX8_stepsGo 14 = .ok (.goto (-12), 3) := by decide +kernel
theorem dX8_stepsGo_17 : decode cX8_stepsGo 17 = .ok (.return_, 1) := by decide +kernel
theorem dX8_sumOf_0 : decode cX8_sumOf 0 = .ok (.iconst 0, 1) := by decide +kernel
theorem dX8_sumOf_1 : decode cX8_sumOf 1 = .ok (.istore_n 2, 1) := by decide +kernel
theorem dX8_sumOf_2 : decode cX8_sumOf 2 = .ok (.iconst 0, 1) := by decide +kernel
theorem dX8_sumOf_3 : decode cX8_sumOf 3 = .ok (.istore_n 3, 1) := by decide +kernel
theorem dX8_sumOf_4 : decode cX8_sumOf 4 = .ok (.iload_n 3, 1) := by decide +kernel
theorem dX8_sumOf_5 : decode cX8_sumOf 5 = .ok (.aload_n 0, 1) := by decide +kernel
theorem dX8_sumOf_6 : decode cX8_sumOf 6 = .ok (.getfield 9, 3) := by decide +kernel
theorem dX8_sumOf_9 : decode cX8_sumOf 9 = .ok (.iconst 1, 1) := by decide +kernel
theorem dX8_sumOf_10 : decode cX8_sumOf 10 = .ok (.iaload, 1) := by decide +kernel
theorem dX8_sumOf_11 : decode cX8_sumOf 11 = .ok (.if_icmp .ge 18, 3) := by decide +kernel
theorem dX8_sumOf_14 : decode cX8_sumOf 14 = .ok (.iload_n 2, 1) := by decide +kernel
theorem dX8_sumOf_15 : decode cX8_sumOf 15 = .ok (.aload_n 0, 1) := by decide +kernel
theorem dX8_sumOf_16 : decode cX8_sumOf 16 = .ok (.iload_n 3, 1) := by decide +kernel
theorem dX8_sumOf_17 : decode cX8_sumOf 17 = .ok (.iload_n 1, 1) := by decide +kernel
theorem dX8_sumOf_18 : decode cX8_sumOf 18 = .ok (.invokevirtual 186, 3) := by decide +kernel
theorem dX8_sumOf_21 : decode cX8_sumOf 21 = .ok (.iadd, 1) := by decide +kernel
theorem dX8_sumOf_22 : decode cX8_sumOf 22 = .ok (.istore_n 2, 1) := by decide +kernel
theorem dX8_sumOf_23 : decode cX8_sumOf 23 = .ok (.iinc 3 1, 3) := by decide +kernel
theorem dX8_sumOf_26 : decode cX8_sumOf 26 = .ok (.goto (-22), 3) := by decide +kernel
theorem dX8_sumOf_29 : decode cX8_sumOf 29 = .ok (.iload_n 2, 1) := by decide +kernel
theorem dX8_sumOf_30 : decode cX8_sumOf 30 = .ok (.ireturn, 1) := by decide +kernel
theorem dX8_steps_0 : decode cX8_steps 0 = .ok (.iload_n 1, 1) := by decide +kernel
theorem dX8_steps_1 : decode cX8_steps 1 = .ok (.iconst 1, 1) := by decide +kernel
theorem dX8_steps_2 : decode cX8_steps 2 = .ok (.bipush 60, 2) := by decide +kernel
theorem dX8_steps_4 : decode cX8_steps 4 = .ok (.invokestatic 82, 3) := by decide +kernel
theorem dX8_steps_7 : decode cX8_steps 7 = .ok (.ifCond .ne 10, 3) := by decide +kernel
theorem dX8_steps_10 : decode cX8_steps 10 = .ok (.aload_n 0, 1) := by decide +kernel
theorem dX8_steps_11 : decode cX8_steps 11 = .ok (.ldc 86, 2) := by decide +kernel
theorem dX8_steps_13 : decode cX8_steps 13 = .ok (.invokevirtual 87, 3) := by decide +kernel
theorem dX8_steps_16 : decode cX8_steps 16 = .ok (.ireturn, 1) := by decide +kernel
theorem dX8_steps_17 : decode cX8_steps 17 = .ok (.aload_n 0, 1) := by decide +kernel
theorem dX8_steps_18 : decode cX8_steps 18 = .ok (.getfield 9, 3) := by decide +kernel
theorem dX8_steps_21 : decode cX8_steps 21 = .ok (.iconst 0, 1) := by decide +kernel
theorem dX8_steps_22 : decode cX8_steps 22 = .ok (.iaload, 1) := by decide +kernel
theorem dX8_steps_23 : decode cX8_steps 23 = .ok (.iload_n 1, 1) := by decide +kernel
theorem dX8_steps_24 : decode cX8_steps 24 = .ok (.iadd, 1) := by decide +kernel
theorem dX8_steps_25 : decode cX8_steps 25 = .ok (.sipush 9999, 3) := by decide +kernel
theorem dX8_steps_28 : decode cX8_steps 28 = .ok (.if_icmp .le 10, 3) := by decide +kernel
theorem dX8_steps_31 : decode cX8_steps 31 = .ok (.aload_n 0, 1) := by decide +kernel
theorem dX8_steps_32 : decode cX8_steps 32 = .ok (.ldc 236, 2) := by decide +kernel
theorem dX8_steps_34 : decode cX8_steps 34 = .ok (.invokevirtual 87, 3) := by decide +kernel
theorem dX8_steps_37 : decode cX8_steps 37 = .ok (.ireturn, 1) := by decide +kernel
theorem dX8_steps_38 : decode cX8_steps 38 = .ok (.aload_n 0, 1) := by decide +kernel
theorem dX8_steps_39 : decode cX8_steps 39 = .ok (.iload_n 1, 1) := by decide +kernel
theorem dX8_steps_40 : decode cX8_steps 40 = .ok (.invokevirtual 237, 3) := by decide +kernel
theorem dX8_steps_43 : decode cX8_steps 43 = .ok (.aload_n 0, 1) := by decide +kernel
theorem dX8_steps_44 : decode cX8_steps 44 = .ok (.iconst 3, 1) := by decide +kernel
theorem dX8_steps_45 : decode cX8_steps 45 = .ok (.invokevirtual 240, 3) := by decide +kernel
theorem dX8_steps_48 : decode cX8_steps 48 = .ok (.ireturn, 1) := by decide +kernel
theorem dX8_drawn_0 : decode cX8_drawn 0 = .ok (.aload_n 0, 1) := by decide +kernel
theorem dX8_drawn_1 : decode cX8_drawn 1 = .ok (.getfield 9, 3) := by decide +kernel
theorem dX8_drawn_4 : decode cX8_drawn 4 = .ok (.iconst 3, 1) := by decide +kernel
theorem dX8_drawn_5 : decode cX8_drawn 5 = .ok (.aload_n 0, 1) := by decide +kernel
theorem dX8_drawn_6 : decode cX8_drawn 6 = .ok (.getfield 9, 3) := by decide +kernel
theorem dX8_drawn_9 : decode cX8_drawn 9 = .ok (.iconst 3, 1) := by decide +kernel
theorem dX8_drawn_10 : decode cX8_drawn 10 = .ok (.iaload, 1) := by decide +kernel
theorem dX8_drawn_11 : decode cX8_drawn 11 = .ok (.ldc 243, 2) := by decide +kernel
theorem dX8_drawn_13 : decode cX8_drawn 13 = .ok (.imul, 1) := by decide +kernel
theorem dX8_drawn_14 : decode cX8_drawn 14 = .ok (.sipush 12345, 3) := by decide +kernel
theorem dX8_drawn_17 : decode cX8_drawn 17 = .ok (.iadd, 1) := by decide +kernel
theorem dX8_drawn_18 : decode cX8_drawn 18 = .ok (.iastore, 1) := by decide +kernel
theorem dX8_drawn_19 : decode cX8_drawn 19 = .ok (.aload_n 0, 1) := by decide +kernel
theorem dX8_drawn_20 : decode cX8_drawn 20 = .ok (.getfield 9, 3) := by decide +kernel
theorem dX8_drawn_23 : decode cX8_drawn 23 = .ok (.iconst 3, 1) := by decide +kernel
theorem dX8_drawn_24 : decode cX8_drawn 24 = .ok (.iaload, 1) := by decide +kernel
theorem dX8_drawn_25 : decode cX8_drawn 25 = .ok (.bipush 8, 2) := by decide +kernel
theorem dX8_drawn_27 : decode cX8_drawn 27 = .ok (.iushr, 1) := by decide +kernel
theorem dX8_drawn_28 : decode cX8_drawn 28 = .ok (.ireturn, 1) := by decide +kernel
theorem dX8_loose_0 : decode cX8_loose 0 = .ok (.iload_n 1, 1) := by decide +kernel
theorem dX8_loose_1 : decode cX8_loose 1 = .ok (.iconst 1, 1) := by decide +kernel
theorem dX8_loose_2 : decode cX8_loose 2 = .ok (.bipush 40, 2) := by decide +kernel
theorem dX8_loose_4 : decode cX8_loose 4 = .ok (.invokestatic 82, 3) := by decide +kernel
theorem dX8_loose_7 : decode cX8_loose 7 = .ok (.ifCond .ne 10, 3) := by decide +kernel
theorem dX8_loose_10 : decode cX8_loose 10 = .ok (.aload_n 0, 1) := by decide +kernel
theorem dX8_loose_11 : decode cX8_loose 11 = .ok (.ldc 86, 2) := by decide +kernel
theorem dX8_loose_13 : decode cX8_loose 13 = .ok (.invokevirtual 87, 3) := by decide +kernel
theorem dX8_loose_16 : decode cX8_loose 16 = .ok (.ireturn, 1) := by decide +kernel
theorem dX8_loose_17 : decode cX8_loose 17 = .ok (.aload_n 0, 1) := by decide +kernel
theorem dX8_loose_18 : decode cX8_loose 18 = .ok (.getfield 9, 3) := by decide +kernel
theorem dX8_loose_21 : decode cX8_loose 21 = .ok (.iconst 0, 1) := by decide +kernel
theorem dX8_loose_22 : decode cX8_loose 22 = .ok (.iaload, 1) := by decide +kernel
theorem dX8_loose_23 : decode cX8_loose 23 = .ok (.iload_n 1, 1) := by decide +kernel
theorem dX8_loose_24 : decode cX8_loose 24 = .ok (.iadd, 1) := by decide +kernel
theorem dX8_loose_25 : decode cX8_loose 25 = .ok (.sipush 9999, 3) := by decide +kernel
theorem dX8_loose_28 : decode cX8_loose 28 = .ok (.if_icmp .le 10, 3) := by decide +kernel
theorem dX8_loose_31 : decode cX8_loose 31 = .ok (.aload_n 0, 1) := by decide +kernel
theorem dX8_loose_32 : decode cX8_loose 32 = .ok (.ldc 236, 2) := by decide +kernel
theorem dX8_loose_34 : decode cX8_loose 34 = .ok (.invokevirtual 87, 3) := by decide +kernel
theorem dX8_loose_37 : decode cX8_loose 37 = .ok (.ireturn, 1) := by decide +kernel
theorem dX8_loose_38 : decode cX8_loose 38 = .ok (.iconst 0, 1) := by decide +kernel
theorem dX8_loose_39 : decode cX8_loose 39 = .ok (.istore_n 2, 1) := by decide +kernel
theorem dX8_loose_40 : decode cX8_loose 40 = .ok (.iload_n 2, 1) := by decide +kernel
theorem dX8_loose_41 : decode cX8_loose 41 = .ok (.iload_n 1, 1) := by decide +kernel
theorem dX8_loose_42 : decode cX8_loose 42 = .ok (.if_icmp .ge 70, 3) := by decide +kernel
theorem dX8_loose_45 : decode cX8_loose 45 = .ok (.iconst 0, 1) := by decide +kernel
theorem dX8_loose_46 : decode cX8_loose 46 = .ok (.istore_n 3, 1) := by decide +kernel
theorem dX8_loose_47 : decode cX8_loose 47 = .ok (.iload_n 3, 1) := by decide +kernel
theorem dX8_loose_48 : decode cX8_loose 48 = .ok (.aload_n 0, 1) := by decide +kernel
theorem dX8_loose_49 : decode cX8_loose 49 = .ok (.getfield 9, 3) := by decide +kernel
theorem dX8_loose_52 : decode cX8_loose 52 = .ok (.iconst 1, 1) := by decide +kernel
theorem dX8_loose_53 : decode cX8_loose 53 = .ok (.iaload, 1) := by decide +kernel
theorem dX8_loose_54 : decode cX8_loose 54 = .ok (.if_icmp .ge 48, 3) := by decide +kernel
theorem dX8_loose_57 : decode cX8_loose 57 = .ok (.aload_n 0, 1) := by decide +kernel
theorem dX8_loose_58 : decode cX8_loose 58 = .ok (.invokevirtual 244, 3) := by decide +kernel
theorem dX8_loose_61 : decode cX8_loose 61 = .ok (.istore 4, 2) := by decide +kernel
theorem dX8_loose_63 : decode cX8_loose 63 = .ok (.aload_n 0, 1) := by decide +kernel
theorem dX8_loose_64 : decode cX8_loose 64 = .ok (.getfield 9, 3) := by decide +kernel
theorem dX8_loose_67 : decode cX8_loose 67 = .ok (.iload_n 3, 1) := by decide +kernel
theorem dX8_loose_68 : decode cX8_loose 68 = .ok (.iconst 2, 1) := by decide +kernel
theorem dX8_loose_69 : decode cX8_loose 69 = .ok (.invokestatic 171, 3) := by decide +kernel
theorem dX8_loose_72 : decode cX8_loose 72 = .ok (.iload 4, 2) := by decide +kernel
theorem dX8_loose_74 : decode cX8_loose 74 = .ok (.iconst 4, 1) := by decide +kernel
theorem dX8_loose_75 : decode cX8_loose 75 = .ok (.irem, 1) := by decide +kernel
theorem dX8_loose_76 : decode cX8_loose 76 = .ok (.ifCond .ne 13, 3) := by decide +kernel
theorem dX8_loose_79 : decode cX8_loose 79 = .ok (.iload 4, 2) := by decide +kernel
theorem dX8_loose_81 : decode cX8_loose 81 = .ok (.iconst 4, 1) := by decide +kernel
theorem dX8_loose_82 : decode cX8_loose 82 = .ok (.idiv, 1) := by decide +kernel
theorem dX8_loose_83 : decode cX8_loose 83 = .ok (.bipush 8, 2) := by decide +kernel
theorem dX8_loose_85 : decode cX8_loose 85 = .ok (.irem, 1) := by decide +kernel
theorem dX8_loose_86 : decode cX8_loose 86 = .ok (.goto 9, 3) := by decide +kernel
theorem dX8_loose_89 : decode cX8_loose 89 = .ok (.aload_n 0, 1) := by decide +kernel
theorem dX8_loose_90 : decode cX8_loose 90 = .ok (.iload_n 3, 1) := by decide +kernel
theorem dX8_loose_91 : decode cX8_loose 91 = .ok (.iconst 2, 1) := by decide +kernel
theorem dX8_loose_92 : decode cX8_loose 92 = .ok (.invokevirtual 186, 3) := by decide +kernel
theorem dX8_loose_95 : decode cX8_loose 95 = .ok (.iastore, 1) := by decide +kernel
theorem dX8_loose_96 : decode cX8_loose 96 = .ok (.iinc 3 1, 3) := by decide +kernel
theorem dX8_loose_99 : decode cX8_loose 99 = .ok (.goto (-52), 3) := by decide +kernel
theorem dX8_loose_102 : decode cX8_loose 102 = .ok (.aload_n 0, 1) := by decide +kernel
theorem dX8_loose_103 : decode cX8_loose 103 = .ok (.invokevirtual 233, 3) := by decide +kernel
theorem dX8_loose_106 : decode cX8_loose 106 = .ok (.iinc 2 1, 3) := by decide +kernel
theorem dX8_loose_109 : decode cX8_loose 109 = .ok (.goto (-69), 3) := by decide +kernel
theorem dX8_loose_112 : decode cX8_loose 112 = .ok (.aload_n 0, 1) := by decide +kernel
theorem dX8_loose_113 : decode cX8_loose 113 = .ok (.iconst 3, 1) := by decide +kernel
theorem dX8_loose_114 : decode cX8_loose 114 = .ok (.invokevirtual 240, 3) := by decide +kernel
theorem dX8_loose_117 : decode cX8_loose 117 = .ok (.ireturn, 1) := by decide +kernel
theorem dX8_isBehind_0 : decode cX8_isBehind 0 = .ok (.iload_n 0, 1) := by decide +kernel
theorem dX8_isBehind_1 : decode cX8_isBehind 1 = .ok (.iconst 0, 1) := by decide +kernel
theorem dX8_isBehind_2 : decode cX8_isBehind 2 = .ok (.bipush 60, 2) := by decide +kernel
theorem dX8_isBehind_4 : decode cX8_isBehind 4 = .ok (.invokestatic 82, 3) := by decide +kernel
theorem dX8_isBehind_7 : decode cX8_isBehind 7 = .ok (.ireturn, 1) := by decide +kernel
theorem dX8_isSoon_0 : decode cX8_isSoon 0 = .ok (.iload_n 0, 1) := by decide +kernel
theorem dX8_isSoon_1 : decode cX8_isSoon 1 = .ok (.iconst 0, 1) := by decide +kernel
theorem dX8_isSoon_2 : decode cX8_isSoon 2 = .ok (.bipush 20, 2) := by decide +kernel
theorem dX8_isSoon_4 : decode cX8_isSoon 4 = .ok (.invokestatic 82, 3) := by decide +kernel
theorem dX8_isSoon_7 : decode cX8_isSoon 7 = .ok (.ireturn, 1) := by decide +kernel
theorem dX8_then_0 : decode cX8_then 0 = .ok (.iload_n 1, 1) := by decide +kernel
theorem dX8_then_1 : decode cX8_then 1 = .ok (.invokestatic 247, 3) := by decide +kernel
theorem dX8_then_4 : decode cX8_then 4 = .ok (.ifCond .eq 20, 3) := by decide +kernel
theorem dX8_then_7 : decode cX8_then 7 = .ok (.aload_n 0, 1) := by decide +kernel
theorem dX8_then_8 : decode cX8_then 8 = .ok (.iload_n 2, 1) := by decide +kernel
theorem dX8_then_9 : decode cX8_then 9 = .ok (.invokevirtual 193, 3) := by decide +kernel
theorem dX8_then_12 : decode cX8_then 12 = .ok (.ifCond .eq 12, 3) := by decide +kernel
theorem dX8_then_15 : decode cX8_then 15 = .ok (.iload_n 3, 1) := by decide +kernel
theorem dX8_then_16 : decode cX8_then 16 = .ok (.iconst 0, 1) := by decide +kernel
theorem dX8_then_17 : decode cX8_then 17 = .ok (.iconst 2, 1) := by decide +kernel
theorem dX8_then_18 : decode cX8_then 18 = .ok (.invokestatic 82, 3) := by decide +kernel
theorem dX8_then_21 : decode cX8_then 21 = .ok (.ifCond .ne 10, 3) := by decide +kernel
theorem dX8_then_24 : decode cX8_then 24 = .ok (.aload_n 0, 1) := by decide +kernel
theorem dX8_then_25 : decode cX8_then 25 = .ok (.ldc 86, 2) := by decide +kernel
theorem dX8_then_27 : decode cX8_then 27 = .ok (.invokevirtual 87, 3) := by decide +kernel
theorem dX8_then_30 : decode cX8_then 30 = .ok (.ireturn, 1) := by decide +kernel
theorem dX8_then_31 : decode cX8_then 31 = .ok (.aload_n 0, 1) := by decide +kernel
theorem dX8_then_32 : decode cX8_then 32 = .ok (.getfield 9, 3) := by decide +kernel
theorem dX8_then_35 : decode cX8_then 35 = .ok (.aload_n 0, 1) := by decide +kernel
theorem dX8_then_36 : decode cX8_then 36 = .ok (.getfield 16, 3) := by decide +kernel
theorem dX8_then_39 : decode cX8_then 39 = .ok (.invokestatic 78, 3) := by decide +kernel
theorem dX8_then_42 : decode cX8_then 42 = .ok (.aload_n 0, 1) := by decide +kernel
theorem dX8_then_43 : decode cX8_then 43 = .ok (.iload_n 1, 1) := by decide +kernel
theorem dX8_then_44 : decode cX8_then 44 = .ok (.invokevirtual 237, 3) := by decide +kernel
theorem dX8_then_47 : decode cX8_then 47 = .ok (.aload_n 0, 1) := by decide +kernel
theorem dX8_then_48 : decode cX8_then 48 = .ok (.aload_n 0, 1) := by decide +kernel
theorem dX8_then_49 : decode cX8_then 49 = .ok (.iload_n 2, 1) := by decide +kernel
theorem dX8_then_50 : decode cX8_then 50 = .ok (.iload_n 3, 1) := by decide +kernel
theorem dX8_then_51 : decode cX8_then 51 = .ok (.ifCond .ne 7, 3) := by decide +kernel
theorem dX8_then_54 : decode cX8_then 54 = .ok (.iconst 3, 1) := by decide +kernel
theorem dX8_then_55 : decode cX8_then 55 = .ok (.goto 13, 3) := by decide +kernel
theorem dX8_then_58 : decode cX8_then 58 = .ok (.iload_n 3, 1) := by decide +kernel
theorem dX8_then_59 : decode cX8_then 59 = .ok (.iconst 1, 1) := by decide +kernel
theorem dX8_then_60 : decode cX8_then 60 = .ok (.if_icmp .ne 7, 3) := by decide +kernel
theorem dX8_then_63 : decode cX8_then 63 = .ok (.iconst 2, 1) := by decide +kernel
theorem dX8_then_64 : decode cX8_then 64 = .ok (.goto 4, 3) := by decide +kernel
theorem dX8_then_67 : decode cX8_then 67 = .ok (.iconst 5, 1) := by decide +kernel
theorem dX8_then_68 : decode cX8_then 68 = .ok (.invokevirtual 186, 3) := by decide +kernel
theorem dX8_then_71 : decode cX8_then 71 = .ok (.invokevirtual 250, 3) := by decide +kernel
theorem dX8_then_74 : decode cX8_then 74 = .ok (.ireturn, 1) := by decide +kernel
theorem dX8_last_0 : decode cX8_last 0 = .ok (.iload_n 1, 1) := by decide +kernel
theorem dX8_last_1 : decode cX8_last 1 = .ok (.iconst 1, 1) := by decide +kernel
theorem dX8_last_2 : decode cX8_last 2 = .ok (.bipush 60, 2) := by decide +kernel
theorem dX8_last_4 : decode cX8_last 4 = .ok (.invokestatic 82, 3) := by decide +kernel
theorem dX8_last_7 : decode cX8_last 7 = .ok (.ifCond .eq 12, 3) := by decide +kernel
theorem dX8_last_10 : decode cX8_last 10 = .ok (.iload_n 2, 1) := by decide +kernel
theorem dX8_last_11 : decode cX8_last 11 = .ok (.iconst 0, 1) := by decide +kernel
theorem dX8_last_12 : decode cX8_last 12 = .ok (.iconst 1, 1) := by decide +kernel
theorem dX8_last_13 : decode cX8_last 13 = .ok (.invokestatic 82, 3) := by decide +kernel
theorem dX8_last_16 : decode cX8_last 16 = .ok (.ifCond .ne 10, 3) := by decide +kernel
theorem dX8_last_19 : decode cX8_last 19 = .ok (.aload_n 0, 1) := by decide +kernel
theorem dX8_last_20 : decode cX8_last 20 = .ok (.ldc 86, 2) := by decide +kernel
theorem dX8_last_22 : decode cX8_last 22 = .ok (.invokevirtual 87, 3) := by decide +kernel
theorem dX8_last_25 : decode cX8_last 25 = .ok (.ireturn, 1) := by decide +kernel
theorem dX8_last_26 : decode cX8_last 26 = .ok (.aload_n 0, 1) := by decide +kernel
theorem dX8_last_27 : decode cX8_last 27 = .ok (.getfield 9, 3) := by decide +kernel
theorem dX8_last_30 : decode cX8_last 30 = .ok (.iconst 1, 1) := by decide +kernel
theorem dX8_last_31 : decode cX8_last 31 = .ok (.iaload, 1) := by decide +kernel
theorem dX8_last_32 : decode cX8_last 32 = .ok (.ifCond .ne 10, 3) := by decide +kernel
theorem dX8_last_35 : decode cX8_last 35 = .ok (.aload_n 0, 1) := by decide +kernel
theorem dX8_last_36 : decode cX8_last 36 = .ok (.ldc 253, 2) := by decide +kernel
theorem dX8_last_38 : decode cX8_last 38 = .ok (.invokevirtual 87, 3) := by decide +kernel
theorem dX8_last_41 : decode cX8_last 41 = .ok (.ireturn, 1) := by decide +kernel
theorem dX8_last_42 : decode cX8_last 42 = .ok (.aload_n 0, 1) := by decide +kernel
theorem dX8_last_43 : decode cX8_last 43 = .ok (.getfield 9, 3) := by decide +kernel
theorem dX8_last_46 : decode cX8_last 46 = .ok (.aload_n 0, 1) := by decide +kernel
theorem dX8_last_47 : decode cX8_last 47 = .ok (.getfield 16, 3) := by decide +kernel
theorem dX8_last_50 : decode cX8_last 50 = .ok (.invokestatic 78, 3) := by decide +kernel
theorem dX8_last_53 : decode cX8_last 53 = .ok (.iconst 0, 1) := by decide +kernel
theorem dX8_last_54 : decode cX8_last 54 = .ok (.istore_n 3, 1) := by decide +kernel
theorem dX8_last_55 : decode cX8_last 55 = .ok (.iload_n 3, 1) := by decide +kernel
theorem dX8_last_56 : decode cX8_last 56 = .ok (.bipush 8, 2) := by decide +kernel
theorem dX8_last_58 : decode cX8_last 58 = .ok (.if_icmp .ge 16, 3) := by decide +kernel
theorem dX8_last_61 : decode cX8_last 61 = .ok (.aload_n 0, 1) := by decide +kernel
theorem dX8_last_62 : decode cX8_last 62 = .ok (.getfield 50, 3) := by decide +kernel
theorem dX8_last_65 : decode cX8_last 65 = .ok (.iload_n 3, 1) := by decide +kernel
theorem dX8_last_66 : decode cX8_last 66 = .ok (.iconst 0, 1) := by decide +kernel
theorem dX8_last_67 : decode cX8_last 67 = .ok (.iastore, 1) := by decide +kernel
theorem dX8_last_68 : decode cX8_last 68 = .ok (.iinc 3 1, 3) := by decide +kernel
theorem dX8_last_71 : decode cX8_last 71 = .ok (.goto (-16), 3) := by decide +kernel
theorem dX8_last_74 : decode cX8_last 74 = .ok (.iconst 0, 1) := by decide +kernel
theorem dX8_last_75 : decode cX8_last 75 = .ok (.istore_n 3, 1) := by decide +kernel
theorem dX8_last_76 : decode cX8_last 76 = .ok (.iload_n 3, 1) := by decide +kernel
theorem dX8_last_77 : decode cX8_last 77 = .ok (.iload_n 1, 1) := by decide +kernel
theorem dX8_last_78 : decode cX8_last 78 = .ok (.if_icmp .ge 58, 3) := by decide +kernel
theorem dX8_last_81 : decode cX8_last 81 = .ok (.aload_n 0, 1) := by decide +kernel
theorem dX8_last_82 : decode cX8_last 82 = .ok (.invokevirtual 233, 3) := by decide +kernel
theorem dX8_last_85 : decode cX8_last 85 = .ok (.iconst 0, 1) := by decide +kernel
theorem dX8_last_86 : decode cX8_last 86 = .ok (.istore 4, 2) := by decide +kernel
theorem dX8_last_88 : decode cX8_last 88 = .ok (.iload 4, 2) := by decide +kernel
theorem dX8_last_90 : decode cX8_last 90 = .ok (.aload_n 0, 1) := by decide +kernel
theorem dX8_last_91 : decode cX8_last 91 = .ok (.getfield 9, 3) := by decide +kernel
theorem dX8_last_94 : decode cX8_last 94 = .ok (.iconst 1, 1) := by decide +kernel
theorem dX8_last_95 : decode cX8_last 95 = .ok (.iaload, 1) := by decide +kernel
theorem dX8_last_96 : decode cX8_last 96 = .ok (.if_icmp .ge 34, 3) := by decide +kernel
theorem dX8_last_99 : decode cX8_last 99 = .ok (.aload_n 0, 1) := by decide +kernel
theorem dX8_last_100 : decode cX8_last 100 = .ok (.getfield 50, 3) := by decide +kernel
theorem dX8_last_103 : decode cX8_last 103 = .ok (.iload 4, 2) := by decide +kernel
theorem dX8_last_105 : decode cX8_last 105 = .ok (.dup2, 1) := by decide +kernel
theorem dX8_last_106 : decode cX8_last 106 = .ok (.iaload, 1) := by decide +kernel
theorem dX8_last_107 : decode cX8_last 107 = .ok (.aload_n 0, 1) := by decide +kernel
theorem dX8_last_108 : decode cX8_last 108 = .ok (.iload 4, 2) := by decide +kernel
theorem dX8_last_110 : decode cX8_last 110 = .ok (.iconst 3, 1) := by decide +kernel
theorem dX8_last_111 : decode cX8_last 111 = .ok (.invokevirtual 186, 3) := by decide +kernel
theorem dX8_last_114 : decode cX8_last 114 = .ok (.ifCond .le 7, 3) := by decide +kernel
theorem dX8_last_117 : decode cX8_last 117 = .ok (.iconst 1, 1) := by decide +kernel
theorem dX8_last_118 : decode cX8_last 118 = .ok (.goto 4, 3) := by decide +kernel
theorem dX8_last_121 : decode cX8_last 121 = .ok (.iconst 0, 1) := by decide +kernel
theorem dX8_last_122 : decode cX8_last 122 = .ok (.iadd, 1) := by decide +kernel
theorem dX8_last_123 : decode cX8_last 123 = .ok (.iastore, 1) := by decide +kernel
theorem dX8_last_124 : decode cX8_last 124 = .ok (.iinc 4 1, 3) := by decide +kernel
theorem dX8_last_127 : decode cX8_last 127 = .ok (.goto (-39), 3) := by decide +kernel
theorem dX8_last_130 : decode cX8_last 130 = .ok (.iinc 3 1, 3) := by decide +kernel
theorem dX8_last_133 : decode cX8_last 133 = .ok (.goto (-57), 3) := by decide +kernel
theorem dX8_last_136 : decode cX8_last 136 = .ok (.aload_n 0, 1) := by decide +kernel
theorem dX8_last_137 : decode cX8_last 137 = .ok (.getfield 16, 3) := by decide +kernel
theorem dX8_last_140 : decode cX8_last 140 = .ok (.aload_n 0, 1) := by decide +kernel
theorem dX8_last_141 : decode cX8_last 141 = .ok (.getfield 9, 3) := by decide +kernel
theorem dX8_last_144 : decode cX8_last 144 = .ok (.invokestatic 78, 3) := by decide +kernel
theorem dX8_last_147 : decode cX8_last 147 = .ok (.iconst 0, 1) := by decide +kernel
theorem dX8_last_148 : decode cX8_last 148 = .ok (.istore_n 3, 1) := by decide +kernel
theorem dX8_last_149 : decode cX8_last 149 = .ok (.iconst 1, 1) := by decide +kernel
theorem dX8_last_150 : decode cX8_last 150 = .ok (.istore 4, 2) := by decide +kernel
theorem dX8_last_152 : decode cX8_last 152 = .ok (.iload 4, 2) := by decide +kernel
theorem dX8_last_154 : decode cX8_last 154 = .ok (.aload_n 0, 1) := by decide +kernel
theorem dX8_last_155 : decode cX8_last 155 = .ok (.getfield 9, 3) := by decide +kernel
theorem dX8_last_158 : decode cX8_last 158 = .ok (.iconst 1, 1) := by decide +kernel
theorem dX8_last_159 : decode cX8_last 159 = .ok (.iaload, 1) := by decide +kernel
theorem dX8_last_160 : decode cX8_last 160 = .ok (.if_icmp .ge 32, 3) := by decide +kernel
theorem dX8_last_163 : decode cX8_last 163 = .ok (.aload_n 0, 1) := by decide +kernel
theorem dX8_last_164 : decode cX8_last 164 = .ok (.getfield 50, 3) := by decide +kernel
theorem dX8_last_167 : decode cX8_last 167 = .ok (.iload 4, 2) := by decide +kernel
theorem dX8_last_169 : decode cX8_last 169 = .ok (.iaload, 1) := by decide +kernel
theorem dX8_last_170 : decode cX8_last 170 = .ok (.aload_n 0, 1) := by decide +kernel
theorem dX8_last_171 : decode cX8_last 171 = .ok (.getfield 50, 3) := by decide +kernel
theorem dX8_last_174 : decode cX8_last 174 = .ok (.iload_n 3, 1) := by decide +kernel
theorem dX8_last_175 : decode cX8_last 175 = .ok (.iaload, 1) := by decide +kernel
theorem dX8_last_176 : decode cX8_last 176 = .ok (.if_icmp .le 8, 3) := by decide +kernel
theorem dX8_last_179 : decode cX8_last 179 = .ok (.iload 4, 2) := by decide +kernel
theorem dX8_last_181 : decode cX8_last 181 = .ok (.goto 4, 3) := by decide +kernel
theorem dX8_last_184 : decode cX8_last 184 = .ok (.iload_n 3, 1) := by decide +kernel
theorem dX8_last_185 : decode cX8_last 185 = .ok (.istore_n 3, 1) := by decide +kernel
theorem dX8_last_186 : decode cX8_last 186 = .ok (.iinc 4 1, 3) := by decide +kernel
theorem dX8_last_189 : decode cX8_last 189 = .ok (.goto (-37), 3) := by decide +kernel
theorem dX8_last_192 : decode cX8_last 192 = .ok (.iload_n 2, 1) := by decide +kernel
theorem dX8_last_193 : decode cX8_last 193 = .ok (.ifCond .ne 7, 3) := by decide +kernel
theorem dX8_last_196 : decode cX8_last 196 = .ok (.iload_n 3, 1) := by decide +kernel
theorem dX8_last_197 : decode cX8_last 197 = .ok (.goto 9, 3) := by decide +kernel
theorem dX8_last_200 : decode cX8_last 200 = .ok (.aload_n 0, 1) := by decide +kernel
theorem dX8_last_201 : decode cX8_last 201 = .ok (.getfield 50, 3) := by decide +kernel
theorem dX8_last_204 : decode cX8_last 204 = .ok (.iload_n 3, 1) := by decide +kernel
theorem dX8_last_205 : decode cX8_last 205 = .ok (.iaload, 1) := by decide +kernel
theorem dX8_last_206 : decode cX8_last 206 = .ok (.ireturn, 1) := by decide +kernel
theorem dX8_reaches_0 : decode cX8_reaches 0 = .ok (.aload_n 0, 1) := by decide +kernel
theorem dX8_reaches_1 : decode cX8_reaches 1 = .ok (.iload_n 1, 1) := by decide +kernel
theorem dX8_reaches_2 : decode cX8_reaches 2 = .ok (.invokevirtual 193, 3) := by decide +kernel
theorem dX8_reaches_5 : decode cX8_reaches 5 = .ok (.ifCond .ne 10, 3) := by decide +kernel
theorem dX8_reaches_8 : decode cX8_reaches 8 = .ok (.aload_n 0, 1) := by decide +kernel
theorem dX8_reaches_9 : decode cX8_reaches 9 = .ok (.ldc 86, 2) := by decide +kernel
theorem dX8_reaches_11 : decode cX8_reaches 11 = .ok (.invokevirtual 87, 3) := by decide +kernel
theorem dX8_reaches_14 : decode cX8_reaches 14 = .ok (.ireturn, 1) := by decide +kernel
theorem dX8_reaches_15 : decode cX8_reaches 15 = .ok (.aload_n 0, 1) := by decide +kernel
theorem dX8_reaches_16 : decode cX8_reaches 16 = .ok (.getfield 9, 3) := by decide +kernel
theorem dX8_reaches_19 : decode cX8_reaches 19 = .ok (.aload_n 0, 1) := by decide +kernel
theorem dX8_reaches_20 : decode cX8_reaches 20 = .ok (.getfield 16, 3) := by decide +kernel
theorem dX8_reaches_23 : decode cX8_reaches 23 = .ok (.invokestatic 78, 3) := by decide +kernel
theorem dX8_reaches_26 : decode cX8_reaches 26 = .ok (.iconst 0, 1) := by decide +kernel
theorem dX8_reaches_27 : decode cX8_reaches 27 = .ok (.istore_n 2, 1) := by decide +kernel
theorem dX8_reaches_28 : decode cX8_reaches 28 = .ok (.iload_n 2, 1) := by decide +kernel
theorem dX8_reaches_29 : decode cX8_reaches 29 = .ok (.bipush 60, 2) := by decide +kernel
theorem dX8_reaches_31 : decode cX8_reaches 31 = .ok (.if_icmp .ge 22, 3) := by decide +kernel
theorem dX8_reaches_34 : decode cX8_reaches 34 = .ok (.aload_n 0, 1) := by decide +kernel
theorem dX8_reaches_35 : decode cX8_reaches 35 = .ok (.iload_n 1, 1) := by decide +kernel
theorem dX8_reaches_36 : decode cX8_reaches 36 = .ok (.iconst 3, 1) := by decide +kernel
theorem dX8_reaches_37 : decode cX8_reaches 37 = .ok (.invokevirtual 186, 3) := by decide +kernel
theorem dX8_reaches_40 : decode cX8_reaches 40 = .ok (.ifCond .ne 13, 3) := by decide +kernel
theorem dX8_reaches_43 : decode cX8_reaches 43 = .ok (.aload_n 0, 1) := by decide +kernel
theorem dX8_reaches_44 : decode cX8_reaches 44 = .ok (.invokevirtual 233, 3) := by decide +kernel
theorem dX8_reaches_47 : decode cX8_reaches 47 = .ok (.iinc 2 1, 3) := by decide +kernel
theorem dX8_reaches_50 : decode cX8_reaches 50 = .ok (.goto (-22), 3) := by decide +kernel
theorem dX8_reaches_53 : decode cX8_reaches 53 = .ok (.aload_n 0, 1) := by decide +kernel
theorem dX8_reaches_54 : decode cX8_reaches 54 = .ok (.iload_n 1, 1) := by decide +kernel
theorem dX8_reaches_55 : decode cX8_reaches 55 = .ok (.iconst 3, 1) := by decide +kernel
theorem dX8_reaches_56 : decode cX8_reaches 56 = .ok (.invokevirtual 186, 3) := by decide +kernel
theorem dX8_reaches_59 : decode cX8_reaches 59 = .ok (.istore_n 3, 1) := by decide +kernel
theorem dX8_reaches_60 : decode cX8_reaches 60 = .ok (.aload_n 0, 1) := by decide +kernel
theorem dX8_reaches_61 : decode cX8_reaches 61 = .ok (.getfield 16, 3) := by decide +kernel
theorem dX8_reaches_64 : decode cX8_reaches 64 = .ok (.aload_n 0, 1) := by decide +kernel
theorem dX8_reaches_65 : decode cX8_reaches 65 = .ok (.getfield 9, 3) := by decide +kernel
theorem dX8_reaches_68 : decode cX8_reaches 68 = .ok (.invokestatic 78, 3) := by decide +kernel
theorem dX8_reaches_71 : decode cX8_reaches 71 = .ok (.iload_n 3, 1) := by decide +kernel
theorem dX8_reaches_72 : decode cX8_reaches 72 = .ok (.ifCond .ne 12, 3) := by decide +kernel
theorem dX8_reaches_75 : decode cX8_reaches 75 = .ok (.aload_n 0, 1) := by decide +kernel
theorem dX8_reaches_76 : decode cX8_reaches 76 = .ok (.ldc 253, 2) := by decide +kernel
theorem dX8_reaches_78 : decode cX8_reaches 78 = .ok (.invokevirtual 87, 3) := by decide +kernel
theorem dX8_reaches_81 : decode cX8_reaches 81 = .ok (.goto 4, 3) := by decide +kernel
theorem dX8_reaches_84 : decode cX8_reaches 84 = .ok (.iload_n 2, 1) := by decide +kernel
theorem dX8_reaches_85 : decode cX8_reaches 85 = .ok (.ireturn, 1) := by decide +kernel
theorem dX8_staysAway_0 : decode cX8_staysAway 0 = .ok (.aload_n 0, 1) := by decide +kernel
theorem dX8_staysAway_1 : decode cX8_staysAway 1 = .ok (.getfield 9, 3) := by decide +kernel
theorem dX8_staysAway_4 : decode cX8_staysAway 4 = .ok (.aload_n 0, 1) := by decide +kernel
theorem dX8_staysAway_5 : decode cX8_staysAway 5 = .ok (.getfield 16, 3) := by decide +kernel
theorem dX8_staysAway_8 : decode cX8_staysAway 8 = .ok (.invokestatic 78, 3) := by decide +kernel
theorem dX8_staysAway_11 : decode cX8_staysAway 11 = .ok (.iconst 0, 1) := by decide +kernel
theorem dX8_staysAway_12 : decode cX8_staysAway 12 = .ok (.istore 4, 2) := by decide +kernel
theorem dX8_staysAway_14 : decode cX8_staysAway 14 = .ok (.iload 4, 2) := by decide +kernel
theorem dX8_staysAway_16 : decode cX8_staysAway 16 = .ok (.aload_n 0, 1) := by decide +kernel
theorem dX8_staysAway_17 : decode cX8_staysAway 17 = .ok (.getfield 9, 3) := by decide +kernel
theorem dX8_staysAway_20 : decode cX8_staysAway 20 = .ok (.iconst 1, 1) := by decide +kernel
theorem dX8_staysAway_21 : decode cX8_staysAway 21 = .ok (.iaload, 1) := by decide +kernel
theorem dX8_staysAway_22 : decode cX8_staysAway 22 = .ok (.if_icmp .ge 40, 3) := by decide +kernel
theorem dX8_staysAway_25 : decode cX8_staysAway 25 = .ok (.aload_n 0, 1) := by decide +kernel
theorem dX8_staysAway_26 : decode cX8_staysAway 26 = .ok (.getfield 9, 3) := by decide +kernel
theorem dX8_staysAway_29 : decode cX8_staysAway 29 = .ok (.iload 4, 2) := by decide +kernel
theorem dX8_staysAway_31 : decode cX8_staysAway 31 = .ok (.iconst 4, 1) := by decide +kernel
theorem dX8_staysAway_32 : decode cX8_staysAway 32 = .ok (.invokestatic 171, 3) := by decide +kernel
theorem dX8_staysAway_35 : decode cX8_staysAway 35 = .ok (.iload_n 1, 1) := by decide +kernel
theorem dX8_staysAway_36 : decode cX8_staysAway 36 = .ok (.iload 4, 2) := by decide +kernel
theorem dX8_staysAway_38 : decode cX8_staysAway 38 = .ok (.invokestatic 254, 3) := by decide +kernel
theorem dX8_staysAway_41 : decode cX8_staysAway 41 = .ok (.ifCond .eq 7, 3) := by decide +kernel
theorem dX8_staysAway_44 : decode cX8_staysAway 44 = .ok (.iconst 1, 1) := by decide +kernel
theorem dX8_staysAway_45 : decode cX8_staysAway 45 = .ok (.goto 10, 3) := by decide +kernel
theorem dX8_staysAway_48 : decode cX8_staysAway 48 = .ok (.aload_n 0, 1) := by decide +kernel
theorem dX8_staysAway_49 : decode cX8_staysAway 49 = .ok (.iload 4, 2) := by decide +kernel
theorem dX8_staysAway_51 : decode cX8_staysAway 51 = .ok (.iconst 4, 1) := by decide +kernel
theorem dX8_staysAway_52 : decode cX8_staysAway 52 = .ok (.invokevirtual 186, 3) := by decide +kernel
theorem dX8_staysAway_55 : decode cX8_staysAway 55 = .ok (.iastore, 1) := by decide +kernel
theorem dX8_staysAway_56 : decode cX8_staysAway 56 = .ok (.iinc 4 1, 3) := by decide +kernel
theorem dX8_staysAway_59 : decode cX8_staysAway 59 = .ok (.goto (-45), 3) := by decide +kernel
theorem dX8_staysAway_62 : decode cX8_staysAway 62 = .ok (.iconst 1, 1) := by decide +kernel
theorem dX8_staysAway_63 : decode cX8_staysAway 63 = .ok (.istore 4, 2) := by decide +kernel
theorem dX8_staysAway_65 : decode cX8_staysAway 65 = .ok (.iconst 0, 1) := by decide +kernel
theorem dX8_staysAway_66 : decode cX8_staysAway 66 = .ok (.istore 5, 2) := by decide +kernel
theorem dX8_staysAway_68 : decode cX8_staysAway 68 = .ok (.iload 5, 2) := by decide +kernel
theorem dX8_staysAway_70 : decode cX8_staysAway 70 = .ok (.iload_n 3, 1) := by decide +kernel
theorem dX8_staysAway_71 : decode cX8_staysAway 71 = .ok (.if_icmp .ge 38, 3) := by decide +kernel
theorem dX8_staysAway_74 : decode cX8_staysAway 74 = .ok (.iload 4, 2) := by decide +kernel
theorem dX8_staysAway_76 : decode cX8_staysAway 76 = .ok (.ifCond .eq 33, 3) := by decide +kernel
theorem dX8_staysAway_79 : decode cX8_staysAway 79 = .ok (.aload_n 0, 1) := by decide +kernel
theorem dX8_staysAway_80 : decode cX8_staysAway 80 = .ok (.invokevirtual 233, 3) := by decide +kernel
theorem dX8_staysAway_83 : decode cX8_staysAway 83 = .ok (.aload_n 0, 1) := by decide +kernel
theorem dX8_staysAway_84 : decode cX8_staysAway 84 = .ok (.iload_n 2, 1) := by decide +kernel
theorem dX8_staysAway_85 : decode cX8_staysAway 85 = .ok (.invokevirtual 212, 3) := by decide +kernel
theorem dX8_staysAway_88 : decode cX8_staysAway 88 = .ok (.aload_n 0, 1) := by decide +kernel
theorem dX8_staysAway_89 : decode cX8_staysAway 89 = .ok (.invokevirtual 215, 3) := by decide +kernel
theorem dX8_staysAway_92 : decode cX8_staysAway 92 = .ok (.iand, 1) := by decide +kernel
theorem dX8_staysAway_93 : decode cX8_staysAway 93 = .ok (.ifCond .ne 7, 3) := by decide +kernel
theorem dX8_staysAway_96 : decode cX8_staysAway 96 = .ok (.iconst 1, 1) := by decide +kernel
theorem dX8_staysAway_97 : decode cX8_staysAway 97 = .ok (.goto 4, 3) := by decide +kernel
theorem dX8_staysAway_100 : decode cX8_staysAway 100 = .ok (.iconst 0, 1) := by decide +kernel
theorem dX8_staysAway_101 : decode cX8_staysAway 101 = .ok (.istore 4, 2) := by decide +kernel
theorem dX8_staysAway_103 : decode cX8_staysAway 103 = .ok (.iinc 5 1, 3) := by decide +kernel
theorem dX8_staysAway_106 : decode cX8_staysAway 106 = .ok (.goto (-38), 3) := by decide +kernel
theorem dX8_staysAway_109 : decode cX8_staysAway 109 = .ok (.aload_n 0, 1) := by decide +kernel
theorem dX8_staysAway_110 : decode cX8_staysAway 110 = .ok (.getfield 16, 3) := by decide +kernel
theorem dX8_staysAway_113 : decode cX8_staysAway 113 = .ok (.aload_n 0, 1) := by decide +kernel
theorem dX8_staysAway_114 : decode cX8_staysAway 114 = .ok (.getfield 9, 3) := by decide +kernel
theorem dX8_staysAway_117 : decode cX8_staysAway 117 = .ok (.invokestatic 78, 3) := by decide +kernel
theorem dX8_staysAway_120 : decode cX8_staysAway 120 = .ok (.iload 4, 2) := by decide +kernel
theorem dX8_staysAway_122 : decode cX8_staysAway 122 = .ok (.ireturn, 1) := by decide +kernel
theorem dX8_gloves_0 : decode cX8_gloves 0 = .ok (.iload_n 1, 1) := by decide +kernel
theorem dX8_gloves_1 : decode cX8_gloves 1 = .ok (.invokestatic 177, 3) := by decide +kernel
theorem dX8_gloves_4 : decode cX8_gloves 4 = .ok (.ifCond .eq 10, 3) := by decide +kernel
theorem dX8_gloves_7 : decode cX8_gloves 7 = .ok (.iload_n 2, 1) := by decide +kernel
theorem dX8_gloves_8 : decode cX8_gloves 8 = .ok (.invokestatic 257, 3) := by decide +kernel
theorem dX8_gloves_11 : decode cX8_gloves 11 = .ok (.ifCond .ne 10, 3) := by decide +kernel
theorem dX8_gloves_14 : decode cX8_gloves 14 = .ok (.aload_n 0, 1) := by decide +kernel
theorem dX8_gloves_15 : decode cX8_gloves 15 = .ok (.ldc 86, 2) := by decide +kernel
theorem dX8_gloves_17 : decode cX8_gloves 17 = .ok (.invokevirtual 87, 3) := by decide +kernel
theorem dX8_gloves_20 : decode cX8_gloves 20 = .ok (.ireturn, 1) := by decide +kernel
theorem dX8_gloves_21 : decode cX8_gloves 21 = .ok (.iconst (-1), 1) := by decide +kernel
theorem dX8_gloves_22 : decode cX8_gloves 22 = .ok (.istore_n 3, 1) := by decide +kernel
theorem dX8_gloves_23 : decode cX8_gloves 23 = .ok (.iconst 0, 1) := by decide +kernel
theorem dX8_gloves_24 : decode cX8_gloves 24 = .ok (.istore 4, 2) := by decide +kernel
theorem dX8_gloves_26 : decode cX8_gloves 26 = .ok (.iload 4, 2) := by decide +kernel
theorem dX8_gloves_28 : decode cX8_gloves 28 = .ok (.iconst 1, 1) := by decide +kernel
theorem dX8_gloves_29 : decode cX8_gloves 29 = .ok (.aload_n 0, 1) := by decide +kernel
theorem dX8_gloves_30 : decode cX8_gloves 30 = .ok (.getfield 9, 3) := by decide +kernel
theorem dX8_gloves_33 : decode cX8_gloves 33 = .ok (.iconst 1, 1) := by decide +kernel
theorem dX8_gloves_34 : decode cX8_gloves 34 = .ok (.iaload, 1) := by decide +kernel
theorem dX8_gloves_35 : decode cX8_gloves 35 = .ok (.ishl, 1) := by decide +kernel
theorem dX8_gloves_36 : decode cX8_gloves 36 = .ok (.if_icmp .ge 55, 3) := by decide +kernel
theorem dX8_gloves_39 : decode cX8_gloves 39 = .ok (.iload_n 3, 1) := by decide +kernel
theorem dX8_gloves_40 : decode cX8_gloves 40 = .ok (.ifCond .lt 15, 3) := by decide +kernel
theorem dX8_gloves_43 : decode cX8_gloves 43 = .ok (.iload 4, 2) := by decide +kernel
theorem dX8_gloves_45 : decode cX8_gloves 45 = .ok (.invokestatic 218, 3) := by decide +kernel
theorem dX8_gloves_48 : decode cX8_gloves 48 = .ok (.iload_n 3, 1) := by decide +kernel
theorem dX8_gloves_49 : decode cX8_gloves 49 = .ok (.invokestatic 218, 3) := by decide +kernel
theorem dX8_gloves_52 : decode cX8_gloves 52 = .ok (.if_icmp .ge 7, 3) := by decide +kernel
theorem dX8_gloves_55 : decode cX8_gloves 55 = .ok (.iconst 1, 1) := by decide +kernel
theorem dX8_gloves_56 : decode cX8_gloves 56 = .ok (.goto 4, 3) := by decide +kernel
theorem dX8_gloves_59 : decode cX8_gloves 59 = .ok (.iconst 0, 1) := by decide +kernel
theorem dX8_gloves_60 : decode cX8_gloves 60 = .ok (.istore 5, 2) := by decide +kernel
theorem dX8_gloves_62 : decode cX8_gloves 62 = .ok (.iload 5, 2) := by decide +kernel
theorem dX8_gloves_64 : decode cX8_gloves 64 = .ok (.ifCond .eq 19, 3) := by decide +kernel
theorem dX8_gloves_67 : decode cX8_gloves 67 = .ok (.aload_n 0, 1) := by decide +kernel
theorem dX8_gloves_68 : decode cX8_gloves 68 = .ok (.iload 4, 2) := by decide +kernel
theorem dX8_gloves_70 : decode cX8_gloves 70 = .ok (.iload_n 1, 1) := by decide +kernel
theorem dX8_gloves_71 : decode cX8_gloves 71 = .ok (.iload_n 2, 1) := by decide +kernel
theorem dX8_gloves_72 : decode cX8_gloves 72 = .ok (.invokevirtual 260, 3) := by decide +kernel
theorem dX8_gloves_75 : decode cX8_gloves 75 = .ok (.ifCond .eq 8, 3) := by decide +kernel
theorem dX8_gloves_78 : decode cX8_gloves 78 = .ok (.iload 4, 2) := by decide +kernel
theorem dX8_gloves_80 : decode cX8_gloves 80 = .ok (.goto 4, 3) := by decide +kernel
theorem dX8_gloves_83 : decode cX8_gloves 83 = .ok (.iload_n 3, 1) := by decide +kernel
theorem dX8_gloves_84 : decode cX8_gloves 84 = .ok (.istore_n 3, 1) := by decide +kernel
theorem dX8_gloves_85 : decode cX8_gloves 85 = .ok (.iinc 4 1, 3) := by decide +kernel
theorem dX8_gloves_88 : decode cX8_gloves 88 = .ok (.goto (-62), 3) := by decide +kernel
theorem dX8_gloves_91 : decode cX8_gloves 91 = .ok (.iload_n 3, 1) := by decide +kernel
theorem dX8_gloves_92 : decode cX8_gloves 92 = .ok (.ifCond .ge 12, 3) := by decide +kernel
theorem dX8_gloves_95 : decode cX8_gloves 95 = .ok (.aload_n 0, 1) := by decide +kernel
theorem dX8_gloves_96 : decode cX8_gloves 96 = .ok (.ldc 253, 2) := by decide +kernel
theorem dX8_gloves_98 : decode cX8_gloves 98 = .ok (.invokevirtual 87, 3) := by decide +kernel
theorem dX8_gloves_101 : decode cX8_gloves 101 = .ok (.goto 4, 3) := by decide +kernel
theorem dX8_gloves_104 : decode cX8_gloves 104 = .ok (.iload_n 3, 1) := by decide +kernel
theorem dX8_gloves_105 : decode cX8_gloves 105 = .ok (.ireturn, 1) := by decide +kernel
theorem dX8_comesFrom_0 : decode cX8_comesFrom 0 = .ok (.aload_n 0, 1) := by decide +kernel
theorem dX8_comesFrom_1 : decode cX8_comesFrom 1 = .ok (.getfield 9, 3) := by decide +kernel
theorem dX8_comesFrom_4 : decode cX8_comesFrom 4 = .ok (.iconst 1, 1) := by decide +kernel
theorem dX8_comesFrom_5 : decode cX8_comesFrom 5 = .ok (.iaload, 1) := by decide +kernel
theorem dX8_comesFrom_6 : decode cX8_comesFrom 6 = .ok (.istore_n 3, 1) := by decide +kernel
theorem dX8_comesFrom_7 : decode cX8_comesFrom 7 = .ok (.aload_n 0, 1) := by decide +kernel
theorem dX8_comesFrom_8 : decode cX8_comesFrom 8 = .ok (.getfield 9, 3) := by decide +kernel
theorem dX8_comesFrom_11 : decode cX8_comesFrom 11 = .ok (.aload_n 0, 1) := by decide +kernel
theorem dX8_comesFrom_12 : decode cX8_comesFrom 12 = .ok (.getfield 16, 3) := by decide +kernel
theorem dX8_comesFrom_15 : decode cX8_comesFrom 15 = .ok (.invokestatic 78, 3) := by decide +kernel
theorem dX8_comesFrom_18 : decode cX8_comesFrom 18 = .ok (.iconst 0, 1) := by decide +kernel
theorem dX8_comesFrom_19 : decode cX8_comesFrom 19 = .ok (.istore 4, 2) := by decide +kernel
theorem dX8_comesFrom_21 : decode cX8_comesFrom 21 = .ok (.iload 4, 2) := by decide +kernel
theorem dX8_comesFrom_23 : decode cX8_comesFrom 23 = .ok (.iload_n 3, 1) := by decide +kernel
theorem dX8_comesFrom_24 : decode cX8_comesFrom 24 = .ok (.if_icmp .ge 37, 3) := by decide +kernel
theorem dX8_comesFrom_27 : decode cX8_comesFrom 27 = .ok (.aload_n 0, 1) := by decide +kernel
theorem dX8_comesFrom_28 : decode cX8_comesFrom 28 = .ok (.getfield 9, 3) := by decide +kernel
theorem dX8_comesFrom_31 : decode cX8_comesFrom 31 = .ok (.iload 4, 2) := by decide +kernel
theorem dX8_comesFrom_33 : decode cX8_comesFrom 33 = .ok (.iconst 3, 1) := by decide +kernel
theorem dX8_comesFrom_34 : decode cX8_comesFrom 34 = .ok (.invokestatic 171, 3) := by decide +kernel
theorem dX8_comesFrom_37 : decode cX8_comesFrom 37 = .ok (.iload 4, 2) := by decide +kernel
theorem dX8_comesFrom_39 : decode cX8_comesFrom 39 = .ok (.iload_n 2, 1) := by decide +kernel
theorem dX8_comesFrom_40 : decode cX8_comesFrom 40 = .ok (.if_icmp .ne 13, 3) := by decide +kernel
theorem dX8_comesFrom_43 : decode cX8_comesFrom 43 = .ok (.aload_n 0, 1) := by decide +kernel
theorem dX8_comesFrom_44 : decode cX8_comesFrom 44 = .ok (.iload 4, 2) := by decide +kernel
theorem dX8_comesFrom_46 : decode cX8_comesFrom 46 = .ok (.iconst 3, 1) := by decide +kernel
theorem dX8_comesFrom_47 : decode cX8_comesFrom 47 = .ok (.invokevirtual 186, 3) := by decide +kernel
theorem dX8_comesFrom_50 : decode cX8_comesFrom 50 = .ok (.goto 4, 3) := by decide +kernel
theorem dX8_comesFrom_53 : decode cX8_comesFrom 53 = .ok (.iconst 0, 1) := by decide +kernel
theorem dX8_comesFrom_54 : decode cX8_comesFrom 54 = .ok (.iastore, 1) := by decide +kernel
theorem dX8_comesFrom_55 : decode cX8_comesFrom 55 = .ok (.iinc 4 1, 3) := by decide +kernel
theorem dX8_comesFrom_58 : decode cX8_comesFrom 58 = .ok (.goto (-37), 3) := by decide +kernel
theorem dX8_comesFrom_61 : decode cX8_comesFrom 61 = .ok (.aload_n 0, 1) := by decide +kernel
theorem dX8_comesFrom_62 : decode cX8_comesFrom 62 = .ok (.aload_n 0, 1) := by decide +kernel
theorem dX8_comesFrom_63 : decode cX8_comesFrom 63 = .ok (.getfield 62, 3) := by decide +kernel
theorem dX8_comesFrom_66 : decode cX8_comesFrom 66 = .ok (.bipush 40, 2) := by decide +kernel
theorem dX8_comesFrom_68 : decode cX8_comesFrom 68 = .ok (.iload_n 1, 1) := by decide +kernel
theorem dX8_comesFrom_69 : decode cX8_comesFrom 69 = .ok (.imul, 1) := by decide +kernel
theorem dX8_comesFrom_70 : decode cX8_comesFrom 70 = .ok (.iload_n 3, 1) := by decide +kernel
theorem dX8_comesFrom_71 : decode cX8_comesFrom 71 = .ok (.iadd, 1) := by decide +kernel
theorem dX8_comesFrom_72 : decode cX8_comesFrom 72 = .ok (.iaload, 1) := by decide +kernel
theorem dX8_comesFrom_73 : decode cX8_comesFrom 73 = .ok (.invokevirtual 237, 3) := by decide +kernel
theorem dX8_comesFrom_76 : decode cX8_comesFrom 76 = .ok (.iconst 1, 1) := by decide +kernel
theorem dX8_comesFrom_77 : decode cX8_comesFrom 77 = .ok (.istore 4, 2) := by decide +kernel
theorem dX8_comesFrom_79 : decode cX8_comesFrom 79 = .ok (.iconst 0, 1) := by decide +kernel
theorem dX8_comesFrom_80 : decode cX8_comesFrom 80 = .ok (.istore 5, 2) := by decide +kernel
theorem dX8_comesFrom_82 : decode cX8_comesFrom 82 = .ok (.iload 5, 2) := by decide +kernel
theorem dX8_comesFrom_84 : decode cX8_comesFrom 84 = .ok (.iload_n 3, 1) := by decide +kernel
theorem dX8_comesFrom_85 : decode cX8_comesFrom 85 = .ok (.if_icmp .ge 43, 3) := by decide +kernel
theorem dX8_comesFrom_88 : decode cX8_comesFrom 88 = .ok (.iload 4, 2) := by decide +kernel
theorem dX8_comesFrom_90 : decode cX8_comesFrom 90 = .ok (.ifCond .eq 29, 3) := by decide +kernel
theorem dX8_comesFrom_93 : decode cX8_comesFrom 93 = .ok (.aload_n 0, 1) := by decide +kernel
theorem dX8_comesFrom_94 : decode cX8_comesFrom 94 = .ok (.getfield 62, 3) := by decide +kernel
theorem dX8_comesFrom_97 : decode cX8_comesFrom 97 = .ok (.bipush 40, 2) := by decide +kernel
theorem dX8_comesFrom_99 : decode cX8_comesFrom 99 = .ok (.iload_n 1, 1) := by decide +kernel
theorem dX8_comesFrom_100 : decode cX8_comesFrom 100 = .ok (.imul, 1) := by decide +kernel
theorem dX8_comesFrom_101 : decode cX8_comesFrom 101 = .ok (.iload 5, 2) := by decide +kernel
theorem dX8_comesFrom_103 : decode cX8_comesFrom 103 = .ok (.iadd, 1) := by decide +kernel
theorem dX8_comesFrom_104 : decode cX8_comesFrom 104 = .ok (.iaload, 1) := by decide +kernel
theorem dX8_comesFrom_105 : decode cX8_comesFrom 105 = .ok (.aload_n 0, 1) := by decide +kernel
theorem dX8_comesFrom_106 : decode cX8_comesFrom 106 = .ok (.iload 5, 2) := by decide +kernel
theorem dX8_comesFrom_108 : decode cX8_comesFrom 108 = .ok (.iconst 3, 1) := by decide +kernel
theorem dX8_comesFrom_109 : decode cX8_comesFrom 109 = .ok (.invokevirtual 186, 3) := by decide +kernel
theorem dX8_comesFrom_112 : decode cX8_comesFrom 112 = .ok (.if_icmp .ne 7, 3) := by decide +kernel
theorem dX8_comesFrom_115 : decode cX8_comesFrom 115 = .ok (.iconst 1, 1) := by decide +kernel
theorem dX8_comesFrom_116 : decode cX8_comesFrom 116 = .ok (.goto 4, 3) := by decide +kernel
theorem dX8_comesFrom_119 : decode cX8_comesFrom 119 = .ok (.iconst 0, 1) := by decide +kernel
theorem dX8_comesFrom_120 : decode cX8_comesFrom 120 = .ok (.istore 4, 2) := by decide +kernel
theorem dX8_comesFrom_122 : decode cX8_comesFrom 122 = .ok (.iinc 5 1, 3) := by decide +kernel
theorem dX8_comesFrom_125 : decode cX8_comesFrom 125 = .ok (.goto (-43), 3) := by decide +kernel
theorem dX8_comesFrom_128 : decode cX8_comesFrom 128 = .ok (.aload_n 0, 1) := by decide +kernel
theorem dX8_comesFrom_129 : decode cX8_comesFrom 129 = .ok (.getfield 16, 3) := by decide +kernel
theorem dX8_comesFrom_132 : decode cX8_comesFrom 132 = .ok (.aload_n 0, 1) := by decide +kernel
theorem dX8_comesFrom_133 : decode cX8_comesFrom 133 = .ok (.getfield 9, 3) := by decide +kernel
theorem dX8_comesFrom_136 : decode cX8_comesFrom 136 = .ok (.invokestatic 78, 3) := by decide +kernel
theorem dX8_comesFrom_139 : decode cX8_comesFrom 139 = .ok (.iload 4, 2) := by decide +kernel
theorem dX8_comesFrom_141 : decode cX8_comesFrom 141 = .ok (.ireturn, 1) := by decide +kernel
theorem dX8_from_0 : decode cX8_from 0 = .ok (.iload_n 1, 1) := by decide +kernel
theorem dX8_from_1 : decode cX8_from 1 = .ok (.invokestatic 263, 3) := by decide +kernel
theorem dX8_from_4 : decode cX8_from 4 = .ok (.ifCond .eq 12, 3) := by decide +kernel
theorem dX8_from_7 : decode cX8_from 7 = .ok (.iload_n 2, 1) := by decide +kernel
theorem dX8_from_8 : decode cX8_from 8 = .ok (.iconst 0, 1) := by decide +kernel
theorem dX8_from_9 : decode cX8_from 9 = .ok (.iconst 1, 1) := by decide +kernel
theorem dX8_from_10 : decode cX8_from 10 = .ok (.invokestatic 82, 3) := by decide +kernel
theorem dX8_from_13 : decode cX8_from 13 = .ok (.ifCond .ne 10, 3) := by decide +kernel
theorem dX8_from_16 : decode cX8_from 16 = .ok (.aload_n 0, 1) := by decide +kernel
theorem dX8_from_17 : decode cX8_from 17 = .ok (.ldc 86, 2) := by decide +kernel
theorem dX8_from_19 : decode cX8_from 19 = .ok (.invokevirtual 87, 3) := by decide +kernel
theorem dX8_from_22 : decode cX8_from 22 = .ok (.ireturn, 1) := by decide +kernel
theorem dX8_from_23 : decode cX8_from 23 = .ok (.aload_n 0, 1) := by decide +kernel
theorem dX8_from_24 : decode cX8_from 24 = .ok (.getfield 9, 3) := by decide +kernel
theorem dX8_from_27 : decode cX8_from 27 = .ok (.iconst 1, 1) := by decide +kernel
theorem dX8_from_28 : decode cX8_from 28 = .ok (.iaload, 1) := by decide +kernel
theorem dX8_from_29 : decode cX8_from 29 = .ok (.istore_n 3, 1) := by decide +kernel
theorem dX8_from_30 : decode cX8_from 30 = .ok (.aload_n 0, 1) := by decide +kernel
theorem dX8_from_31 : decode cX8_from 31 = .ok (.getfield 56, 3) := by decide +kernel
theorem dX8_from_34 : decode cX8_from 34 = .ok (.iload_n 1, 1) := by decide +kernel
theorem dX8_from_35 : decode cX8_from 35 = .ok (.iaload, 1) := by decide +kernel
theorem dX8_from_36 : decode cX8_from 36 = .ok (.ifCond .eq 32, 3) := by decide +kernel
theorem dX8_from_39 : decode cX8_from 39 = .ok (.aload_n 0, 1) := by decide +kernel
theorem dX8_from_40 : decode cX8_from 40 = .ok (.getfield 59, 3) := by decide +kernel
theorem dX8_from_43 : decode cX8_from 43 = .ok (.iload_n 1, 1) := by decide +kernel
theorem dX8_from_44 : decode cX8_from 44 = .ok (.iaload, 1) := by decide +kernel
theorem dX8_from_45 : decode cX8_from 45 = .ok (.iload_n 3, 1) := by decide +kernel
theorem dX8_from_46 : decode cX8_from 46 = .ok (.iconst 1, 1) := by decide +kernel
theorem dX8_from_47 : decode cX8_from 47 = .ok (.iadd, 1) := by decide +kernel
theorem dX8_from_48 : decode cX8_from 48 = .ok (.if_icmp .ne 20, 3) := by decide +kernel
theorem dX8_from_51 : decode cX8_from 51 = .ok (.aload_n 0, 1) := by decide +kernel
theorem dX8_from_52 : decode cX8_from 52 = .ok (.getfield 62, 3) := by decide +kernel
theorem dX8_from_55 : decode cX8_from 55 = .ok (.bipush 40, 2) := by decide +kernel
theorem dX8_from_57 : decode cX8_from 57 = .ok (.iload_n 1, 1) := by decide +kernel
theorem dX8_from_58 : decode cX8_from 58 = .ok (.imul, 1) := by decide +kernel
theorem dX8_from_59 : decode cX8_from 59 = .ok (.iload_n 3, 1) := by decide +kernel
theorem dX8_from_60 : decode cX8_from 60 = .ok (.iadd, 1) := by decide +kernel
theorem dX8_from_61 : decode cX8_from 61 = .ok (.iaload, 1) := by decide +kernel
theorem dX8_from_62 : decode cX8_from 62 = .ok (.invokestatic 257, 3) := by decide +kernel
theorem dX8_from_65 : decode cX8_from 65 = .ok (.ifCond .ne 10, 3) := by decide +kernel
theorem dX8_from_68 : decode cX8_from 68 = .ok (.aload_n 0, 1) := by decide +kernel
theorem dX8_from_69 : decode cX8_from 69 = .ok (.ldc 253, 2) := by decide +kernel
theorem dX8_from_71 : decode cX8_from 71 = .ok (.invokevirtual 87, 3) := by decide +kernel
theorem dX8_from_74 : decode cX8_from 74 = .ok (.ireturn, 1) := by decide +kernel
theorem dX8_from_75 : decode cX8_from 75 = .ok (.iconst 0, 1) := by decide +kernel
theorem dX8_from_76 : decode cX8_from 76 = .ok (.istore 4, 2) := by decide +kernel
theorem dX8_from_78 : decode cX8_from 78 = .ok (.iconst 0, 1) := by decide +kernel
theorem dX8_from_79 : decode cX8_from 79 = .ok (.istore 5, 2) := by decide +kernel
theorem dX8_from_81 : decode cX8_from 81 = .ok (.iload 5, 2) := by decide +kernel
theorem dX8_from_83 : decode cX8_from 83 = .ok (.iload_n 3, 1) := by decide +kernel
theorem dX8_from_84 : decode cX8_from 84 = .ok (.if_icmp .ge 32, 3) := by decide +kernel
theorem dX8_from_87 : decode cX8_from 87 = .ok (.iload 4, 2) := by decide +kernel
theorem dX8_from_89 : decode cX8_from 89 = .ok (.aload_n 0, 1) := by decide +kernel
theorem dX8_from_90 : decode cX8_from 90 = .ok (.iload_n 1, 1) := by decide +kernel
theorem dX8_from_91 : decode cX8_from 91 = .ok (.iload 5, 2) := by decide +kernel
theorem dX8_from_93 : decode cX8_from 93 = .ok (.invokevirtual 266, 3) := by decide +kernel
theorem dX8_from_96 : decode cX8_from 96 = .ok (.ifCond .eq 10, 3) := by decide +kernel
theorem dX8_from_99 : decode cX8_from 99 = .ok (.iconst 1, 1) := by decide +kernel
theorem dX8_from_100 : decode cX8_from 100 = .ok (.iload 5, 2) := by decide +kernel
theorem dX8_from_102 : decode cX8_from 102 = .ok (.ishl, 1) := by decide +kernel
theorem dX8_from_103 : decode cX8_from 103 = .ok (.goto 4, 3) := by decide +kernel
theorem dX8_from_106 : decode cX8_from 106 = .ok (.iconst 0, 1) := by decide +kernel
theorem dX8_from_107 : decode cX8_from 107 = .ok (.ior, 1) := by decide +kernel
theorem dX8_from_108 : decode cX8_from 108 = .ok (.istore 4, 2) := by decide +kernel
theorem dX8_from_110 : decode cX8_from 110 = .ok (.iinc 5 1, 3) := by decide +kernel
theorem dX8_from_113 : decode cX8_from 113 = .ok (.goto (-32), 3) := by decide +kernel
theorem dX8_from_116 : decode cX8_from 116 = .ok (.iload_n 2, 1) := by decide +kernel
theorem dX8_from_117 : decode cX8_from 117 = .ok (.ifCond .ne 8, 3) := by decide +kernel
theorem dX8_from_120 : decode cX8_from 120 = .ok (.iload 4, 2) := by decide +kernel
theorem dX8_from_122 : decode cX8_from 122 = .ok (.goto 8, 3) := by decide +kernel
theorem dX8_from_125 : decode cX8_from 125 = .ok (.iload 4, 2) := by decide +kernel
theorem dX8_from_127 : decode cX8_from 127 = .ok (.invokestatic 218, 3) := by decide +kernel
theorem dX8_from_130 : decode cX8_from 130 = .ok (.ireturn, 1) := by decide +kernel
theorem dX8_freeBehind_0 : decode cX8_freeBehind 0 = .ok (.aload_n 0, 1) := by decide +kernel
theorem dX8_freeBehind_1 : decode cX8_freeBehind 1 = .ok (.getfield 9, 3) := by decide +kernel
theorem dX8_freeBehind_4 : decode cX8_freeBehind 4 = .ok (.aload_n 0, 1) := by decide +kernel
theorem dX8_freeBehind_5 : decode cX8_freeBehind 5 = .ok (.getfield 16, 3) := by decide +kernel
theorem dX8_freeBehind_8 : decode cX8_freeBehind 8 = .ok (.invokestatic 78, 3) := by decide +kernel
theorem dX8_freeBehind_11 : decode cX8_freeBehind 11 = .ok (.aload_n 0, 1) := by decide +kernel
theorem dX8_freeBehind_12 : decode cX8_freeBehind 12 = .ok (.iload_n 2, 1) := by decide +kernel
theorem dX8_freeBehind_13 : decode cX8_freeBehind 13 = .ok (.invokevirtual 237, 3) := by decide +kernel
theorem dX8_freeBehind_16 : decode cX8_freeBehind 16 = .ok (.aload_n 0, 1) := by decide +kernel
theorem dX8_freeBehind_17 : decode cX8_freeBehind 17 = .ok (.aload_n 0, 1) := by decide +kernel
theorem dX8_freeBehind_18 : decode cX8_freeBehind 18 = .ok (.iload_n 1, 1) := by decide +kernel
theorem dX8_freeBehind_19 : decode cX8_freeBehind 19 = .ok (.iconst 3, 1) := by decide +kernel
theorem dX8_freeBehind_20 : decode cX8_freeBehind 20 = .ok (.invokevirtual 186, 3) := by decide +kernel
theorem dX8_freeBehind_23 : decode cX8_freeBehind 23 = .ok (.invokevirtual 250, 3) := by decide +kernel
theorem dX8_freeBehind_26 : decode cX8_freeBehind 26 = .ok (.ireturn, 1) := by decide +kernel
theorem dX8_stand_0 : decode cX8_stand 0 = .ok (.aload_n 0, 1) := by decide +kernel
theorem dX8_stand_1 : decode cX8_stand 1 = .ok (.iload_n 1, 1) := by decide +kernel
theorem dX8_stand_2 : decode cX8_stand 2 = .ok (.invokevirtual 193, 3) := by decide +kernel
theorem dX8_stand_5 : decode cX8_stand 5 = .ok (.ifCond .eq 19, 3) := by decide +kernel
theorem dX8_stand_8 : decode cX8_stand 8 = .ok (.iload_n 2, 1) := by decide +kernel
theorem dX8_stand_9 : decode cX8_stand 9 = .ok (.invokestatic 257, 3) := by decide +kernel
theorem dX8_stand_12 : decode cX8_stand 12 = .ok (.ifCond .eq 12, 3) := by decide +kernel
theorem dX8_stand_15 : decode cX8_stand 15 = .ok (.iload_n 3, 1) := by decide +kernel
theorem dX8_stand_16 : decode cX8_stand 16 = .ok (.iconst 0, 1) := by decide +kernel
theorem dX8_stand_17 : decode cX8_stand 17 = .ok (.iconst 1, 1) := by decide +kernel
theorem dX8_stand_18 : decode cX8_stand 18 = .ok (.invokestatic 82, 3) := by decide +kernel
theorem dX8_stand_21 : decode cX8_stand 21 = .ok (.ifCond .ne 10, 3) := by decide +kernel
theorem dX8_stand_24 : decode cX8_stand 24 = .ok (.aload_n 0, 1) := by decide +kernel
theorem dX8_stand_25 : decode cX8_stand 25 = .ok (.ldc 86, 2) := by decide +kernel
theorem dX8_stand_27 : decode cX8_stand 27 = .ok (.invokevirtual 87, 3) := by decide +kernel
theorem dX8_stand_30 : decode cX8_stand 30 = .ok (.ireturn, 1) := by decide +kernel
theorem dX8_stand_31 : decode cX8_stand 31 = .ok (.aload_n 0, 1) := by decide +kernel
theorem dX8_stand_32 : decode cX8_stand 32 = .ok (.iload_n 1, 1) := by decide +kernel
theorem dX8_stand_33 : decode cX8_stand 33 = .ok (.iconst 2, 1) := by decide +kernel
theorem dX8_stand_34 : decode cX8_stand 34 = .ok (.invokevirtual 186, 3) := by decide +kernel
theorem dX8_stand_37 : decode cX8_stand 37 = .ok (.istore 4, 2) := by decide +kernel
theorem dX8_stand_39 : decode cX8_stand 39 = .ok (.iconst 0, 1) := by decide +kernel
theorem dX8_stand_40 : decode cX8_stand 40 = .ok (.istore 5, 2) := by decide +kernel
theorem dX8_stand_42 : decode cX8_stand 42 = .ok (.iconst (-1), 1) := by decide +kernel
theorem dX8_stand_43 : decode cX8_stand 43 = .ok (.istore 6, 2) := by decide +kernel
theorem dX8_stand_45 : decode cX8_stand 45 = .ok (.iconst 0, 1) := by decide +kernel
theorem dX8_stand_46 : decode cX8_stand 46 = .ok (.istore 7, 2) := by decide +kernel
theorem dX8_stand_48 : decode cX8_stand 48 = .ok (.iload 7, 2) := by decide +kernel
theorem dX8_stand_50 : decode cX8_stand 50 = .ok (.bipush 8, 2) := by decide +kernel
theorem dX8_stand_52 : decode cX8_stand 52 = .ok (.if_icmp .ge 54, 3) := by decide +kernel
theorem dX8_stand_55 : decode cX8_stand 55 = .ok (.aload_n 0, 1) := by decide +kernel
theorem dX8_stand_56 : decode cX8_stand 56 = .ok (.getfield 9, 3) := by decide +kernel
theorem dX8_stand_59 : decode cX8_stand 59 = .ok (.iload_n 1, 1) := by decide +kernel
theorem dX8_stand_60 : decode cX8_stand 60 = .ok (.iconst 2, 1) := by decide +kernel
theorem dX8_stand_61 : decode cX8_stand 61 = .ok (.invokestatic 171, 3) := by decide +kernel
theorem dX8_stand_64 : decode cX8_stand 64 = .ok (.iload 7, 2) := by decide +kernel
theorem dX8_stand_66 : decode cX8_stand 66 = .ok (.iastore, 1) := by decide +kernel
theorem dX8_stand_67 : decode cX8_stand 67 = .ok (.aload_n 0, 1) := by decide +kernel
theorem dX8_stand_68 : decode cX8_stand 68 = .ok (.iload_n 1, 1) := by decide +kernel
theorem dX8_stand_69 : decode cX8_stand 69 = .ok (.iload_n 2, 1) := by decide +kernel
theorem dX8_stand_70 : decode cX8_stand 70 = .ok (.invokevirtual 269, 3) := by decide +kernel
theorem dX8_stand_73 : decode cX8_stand 73 = .ok (.istore 8, 2) := by decide +kernel
theorem dX8_stand_75 : decode cX8_stand 75 = .ok (.iload 8, 2) := by decide +kernel
theorem dX8_stand_77 : decode cX8_stand 77 = .ok (.iload 6, 2) := by decide +kernel
theorem dX8_stand_79 : decode cX8_stand 79 = .ok (.if_icmp .le 8, 3) := by decide +kernel
theorem dX8_stand_82 : decode cX8_stand 82 = .ok (.iload 7, 2) := by decide +kernel
theorem dX8_stand_84 : decode cX8_stand 84 = .ok (.goto 5, 3) := by decide +kernel
theorem dX8_stand_87 : decode cX8_stand 87 = .ok (.iload 5, 2) := by decide +kernel
theorem dX8_stand_89 : decode cX8_stand 89 = .ok (.istore 5, 2) := by decide +kernel
theorem dX8_stand_91 : decode cX8_stand 91 = .ok (.iload 6, 2) := by decide +kernel
theorem dX8_stand_93 : decode cX8_stand 93 = .ok (.iload 8, 2) := by decide +kernel
theorem dX8_stand_95 : decode cX8_stand 95 = .ok (.invokestatic 75, 3) := by decide +kernel
theorem dX8_stand_98 : decode cX8_stand 98 = .ok (.istore 6, 2) := by decide +kernel
theorem dX8_stand_100 : decode cX8_stand 100 = .ok (.iinc 7 1, 3) := by decide +kernel
theorem dX8_stand_103 : decode cX8_stand 103 = .ok (.goto (-55), 3) := by decide +kernel
theorem dX8_stand_106 : decode cX8_stand 106 = .ok (.aload_n 0, 1) := by decide +kernel
theorem dX8_stand_107 : decode cX8_stand 107 = .ok (.getfield 9, 3) := by decide +kernel
theorem dX8_stand_110 : decode cX8_stand 110 = .ok (.iload_n 1, 1) := by decide +kernel
theorem dX8_stand_111 : decode cX8_stand 111 = .ok (.iconst 2, 1) := by decide +kernel
theorem dX8_stand_112 : decode cX8_stand 112 = .ok (.invokestatic 171, 3) := by decide +kernel
theorem dX8_stand_115 : decode cX8_stand 115 = .ok (.iload 4, 2) := by decide +kernel
theorem dX8_stand_117 : decode cX8_stand 117 = .ok (.iastore, 1) := by decide +kernel
theorem dX8_stand_118 : decode cX8_stand 118 = .ok (.iload_n 3, 1) := by decide +kernel
theorem dX8_stand_119 : decode cX8_stand 119 = .ok (.ifCond .ne 8, 3) := by decide +kernel
theorem dX8_stand_122 : decode cX8_stand 122 = .ok (.iload 5, 2) := by decide +kernel
theorem dX8_stand_124 : decode cX8_stand 124 = .ok (.goto 5, 3) := by decide +kernel
theorem dX8_stand_127 : decode cX8_stand 127 = .ok (.iload 6, 2) := by decide +kernel
theorem dX8_stand_129 : decode cX8_stand 129 = .ok (.ireturn, 1) := by decide +kernel
theorem dX8_crush_0 : decode cX8_crush 0 = .ok (.iload_n 1, 1) := by decide +kernel
theorem dX8_crush_1 : decode cX8_crush 1 = .ok (.invokestatic 247, 3) := by decide +kernel
theorem dX8_crush_4 : decode cX8_crush 4 = .ok (.ifCond .eq 12, 3) := by decide +kernel
theorem dX8_crush_7 : decode cX8_crush 7 = .ok (.iload_n 2, 1) := by decide +kernel
theorem dX8_crush_8 : decode cX8_crush 8 = .ok (.iconst 0, 1) := by decide +kernel
theorem dX8_crush_9 : decode cX8_crush 9 = .ok (.iconst 1, 1) := by decide +kernel
theorem dX8_crush_10 : decode cX8_crush 10 = .ok (.invokestatic 82, 3) := by decide +kernel
theorem dX8_crush_13 : decode cX8_crush 13 = .ok (.ifCond .ne 10, 3) := by decide +kernel
theorem dX8_crush_16 : decode cX8_crush 16 = .ok (.aload_n 0, 1) := by decide +kernel
theorem dX8_crush_17 : decode cX8_crush 17 = .ok (.ldc 86, 2) := by decide +kernel
theorem dX8_crush_19 : decode cX8_crush 19 = .ok (.invokevirtual 87, 3) := by decide +kernel
theorem dX8_crush_22 : decode cX8_crush 22 = .ok (.ireturn, 1) := by decide +kernel
theorem dX8_crush_23 : decode cX8_crush 23 = .ok (.aload_n 0, 1) := by decide +kernel
theorem dX8_crush_24 : decode cX8_crush 24 = .ok (.getfield 9, 3) := by decide +kernel
theorem dX8_crush_27 : decode cX8_crush 27 = .ok (.aload_n 0, 1) := by decide +kernel
theorem dX8_crush_28 : decode cX8_crush 28 = .ok (.getfield 16, 3) := by decide +kernel
theorem dX8_crush_31 : decode cX8_crush 31 = .ok (.invokestatic 78, 3) := by decide +kernel
theorem dX8_crush_34 : decode cX8_crush 34 = .ok (.aload_n 0, 1) := by decide +kernel
theorem dX8_crush_35 : decode cX8_crush 35 = .ok (.iload_n 1, 1) := by decide +kernel
theorem dX8_crush_36 : decode cX8_crush 36 = .ok (.invokevirtual 237, 3) := by decide +kernel
theorem dX8_crush_39 : decode cX8_crush 39 = .ok (.iconst 0, 1) := by decide +kernel
theorem dX8_crush_40 : decode cX8_crush 40 = .ok (.istore_n 3, 1) := by decide +kernel
theorem dX8_crush_41 : decode cX8_crush 41 = .ok (.iconst 1, 1) := by decide +kernel
theorem dX8_crush_42 : decode cX8_crush 42 = .ok (.istore 4, 2) := by decide +kernel
theorem dX8_crush_44 : decode cX8_crush 44 = .ok (.iload 4, 2) := by decide +kernel
theorem dX8_crush_46 : decode cX8_crush 46 = .ok (.bipush 8, 2) := by decide +kernel
theorem dX8_crush_48 : decode cX8_crush 48 = .ok (.if_icmp .ge 36, 3) := by decide +kernel
theorem dX8_crush_51 : decode cX8_crush 51 = .ok (.aload_n 0, 1) := by decide +kernel
theorem dX8_crush_52 : decode cX8_crush 52 = .ok (.iload 4, 2) := by decide +kernel
theorem dX8_crush_54 : decode cX8_crush 54 = .ok (.invokevirtual 212, 3) := by decide +kernel
theorem dX8_crush_57 : decode cX8_crush 57 = .ok (.invokestatic 218, 3) := by decide +kernel
theorem dX8_crush_60 : decode cX8_crush 60 = .ok (.aload_n 0, 1) := by decide +kernel
theorem dX8_crush_61 : decode cX8_crush 61 = .ok (.iload_n 3, 1) := by decide +kernel
theorem dX8_crush_62 : decode cX8_crush 62 = .ok (.invokevirtual 212, 3) := by decide +kernel
theorem dX8_crush_65 : decode cX8_crush 65 = .ok (.invokestatic 218, 3) := by decide +kernel
theorem dX8_crush_68 : decode cX8_crush 68 = .ok (.if_icmp .le 8, 3) := by decide +kernel
theorem dX8_crush_71 : decode cX8_crush 71 = .ok (.iload 4, 2) := by decide +kernel
theorem dX8_crush_73 : decode cX8_crush 73 = .ok (.goto 4, 3) := by decide +kernel
theorem dX8_crush_76 : decode cX8_crush 76 = .ok (.iload_n 3, 1) := by decide +kernel
theorem dX8_crush_77 : decode cX8_crush 77 = .ok (.istore_n 3, 1) := by decide +kernel
theorem dX8_crush_78 : decode cX8_crush 78 = .ok (.iinc 4 1, 3) := by decide +kernel
theorem dX8_crush_81 : decode cX8_crush 81 = .ok (.goto (-37), 3) := by decide +kernel
theorem dX8_crush_84 : decode cX8_crush 84 = .ok (.aload_n 0, 1) := by decide +kernel
theorem dX8_crush_85 : decode cX8_crush 85 = .ok (.iload_n 2, 1) := by decide +kernel
theorem dX8_crush_86 : decode cX8_crush 86 = .ok (.ifCond .ne 7, 3) := by decide +kernel
theorem dX8_crush_89 : decode cX8_crush 89 = .ok (.iload_n 3, 1) := by decide +kernel
theorem dX8_crush_90 : decode cX8_crush 90 = .ok (.goto 11, 3) := by decide +kernel
theorem dX8_crush_93 : decode cX8_crush 93 = .ok (.aload_n 0, 1) := by decide +kernel
theorem dX8_crush_94 : decode cX8_crush 94 = .ok (.iload_n 3, 1) := by decide +kernel
theorem dX8_crush_95 : decode cX8_crush 95 = .ok (.invokevirtual 212, 3) := by decide +kernel
theorem dX8_crush_98 : decode cX8_crush 98 = .ok (.invokestatic 218, 3) := by decide +kernel
theorem dX8_crush_101 : decode cX8_crush 101 = .ok (.invokevirtual 250, 3) := by decide +kernel
theorem dX8_crush_104 : decode cX8_crush 104 = .ok (.ireturn, 1) := by decide +kernel
theorem dX8_dies_0 : decode cX8_dies 0 = .ok (.aload_n 0, 1) := by decide +kernel
theorem dX8_dies_1 : decode cX8_dies 1 = .ok (.getfield 9, 3) := by decide +kernel
theorem dX8_dies_4 : decode cX8_dies 4 = .ok (.aload_n 0, 1) := by decide +kernel
theorem dX8_dies_5 : decode cX8_dies 5 = .ok (.getfield 16, 3) := by decide +kernel
theorem dX8_dies_8 : decode cX8_dies 8 = .ok (.invokestatic 78, 3) := by decide +kernel
theorem dX8_dies_11 : decode cX8_dies 11 = .ok (.iconst 0, 1) := by decide +kernel
theorem dX8_dies_12 : decode cX8_dies 12 = .ok (.istore_n 1, 1) := by decide +kernel
theorem dX8_dies_13 : decode cX8_dies 13 = .ok (.iload_n 1, 1) := by decide +kernel
theorem dX8_dies_14 : decode cX8_dies 14 = .ok (.bipush 60, 2) := by decide +kernel
theorem dX8_dies_16 : decode cX8_dies 16 = .ok (.if_icmp .ge 20, 3) := by decide +kernel
theorem dX8_dies_19 : decode cX8_dies 19 = .ok (.aload_n 0, 1) := by decide +kernel
theorem dX8_dies_20 : decode cX8_dies 20 = .ok (.invokevirtual 215, 3) := by decide +kernel
theorem dX8_dies_23 : decode cX8_dies 23 = .ok (.ifCond .eq 13, 3) := by decide +kernel
theorem dX8_dies_26 : decode cX8_dies 26 = .ok (.aload_n 0, 1) := by decide +kernel
theorem dX8_dies_27 : decode cX8_dies 27 = .ok (.invokevirtual 233, 3) := by decide +kernel
theorem dX8_dies_30 : decode cX8_dies 30 = .ok (.iinc 1 1, 3) := by decide +kernel
theorem dX8_dies_33 : decode cX8_dies 33 = .ok (.goto (-20), 3) := by decide +kernel
theorem dX8_dies_36 : decode cX8_dies 36 = .ok (.aload_n 0, 1) := by decide +kernel
theorem dX8_dies_37 : decode cX8_dies 37 = .ok (.invokevirtual 215, 3) := by decide +kernel
theorem dX8_dies_40 : decode cX8_dies 40 = .ok (.ifCond .ne 7, 3) := by decide +kernel
theorem dX8_dies_43 : decode cX8_dies 43 = .ok (.iconst 1, 1) := by decide +kernel
theorem dX8_dies_44 : decode cX8_dies 44 = .ok (.goto 4, 3) := by decide +kernel
theorem dX8_dies_47 : decode cX8_dies 47 = .ok (.iconst 0, 1) := by decide +kernel
theorem dX8_dies_48 : decode cX8_dies 48 = .ok (.istore_n 2, 1) := by decide +kernel
theorem dX8_dies_49 : decode cX8_dies 49 = .ok (.aload_n 0, 1) := by decide +kernel
theorem dX8_dies_50 : decode cX8_dies 50 = .ok (.getfield 16, 3) := by decide +kernel
theorem dX8_dies_53 : decode cX8_dies 53 = .ok (.aload_n 0, 1) := by decide +kernel
theorem dX8_dies_54 : decode cX8_dies 54 = .ok (.getfield 9, 3) := by decide +kernel
theorem dX8_dies_57 : decode cX8_dies 57 = .ok (.invokestatic 78, 3) := by decide +kernel
theorem dX8_dies_60 : decode cX8_dies 60 = .ok (.iload_n 2, 1) := by decide +kernel
theorem dX8_dies_61 : decode cX8_dies 61 = .ok (.ifCond .eq 7, 3) := by decide +kernel
theorem dX8_dies_64 : decode cX8_dies 64 = .ok (.iload_n 1, 1) := by decide +kernel
theorem dX8_dies_65 : decode cX8_dies 65 = .ok (.goto 9, 3) := by decide +kernel
theorem dX8_dies_68 : decode cX8_dies 68 = .ok (.aload_n 0, 1) := by decide +kernel
theorem dX8_dies_69 : decode cX8_dies 69 = .ok (.ldc 253, 2) := by decide +kernel
theorem dX8_dies_71 : decode cX8_dies 71 = .ok (.invokevirtual 87, 3) := by decide +kernel
theorem dX8_dies_74 : decode cX8_dies 74 = .ok (.ireturn, 1) := by decide +kernel
theorem dX8_touch_0 : decode cX8_touch 0 = .ok (.aload_n 0, 1) := by decide +kernel
theorem dX8_touch_1 : decode cX8_touch 1 = .ok (.iload_n 1, 1) := by decide +kernel
theorem dX8_touch_2 : decode cX8_touch 2 = .ok (.invokevirtual 193, 3) := by decide +kernel
theorem dX8_touch_5 : decode cX8_touch 5 = .ok (.ifCond .eq 19, 3) := by decide +kernel
theorem dX8_touch_8 : decode cX8_touch 8 = .ok (.iload_n 2, 1) := by decide +kernel
theorem dX8_touch_9 : decode cX8_touch 9 = .ok (.invokestatic 257, 3) := by decide +kernel
theorem dX8_touch_12 : decode cX8_touch 12 = .ok (.ifCond .eq 12, 3) := by decide +kernel
theorem dX8_touch_15 : decode cX8_touch 15 = .ok (.iload_n 3, 1) := by decide +kernel
theorem dX8_touch_16 : decode cX8_touch 16 = .ok (.iconst 0, 1) := by decide +kernel
theorem dX8_touch_17 : decode cX8_touch 17 = .ok (.iconst 1, 1) := by decide +kernel
theorem dX8_touch_18 : decode cX8_touch 18 = .ok (.invokestatic 82, 3) := by decide +kernel
theorem dX8_touch_21 : decode cX8_touch 21 = .ok (.ifCond .ne 10, 3) := by decide +kernel
theorem dX8_touch_24 : decode cX8_touch 24 = .ok (.aload_n 0, 1) := by decide +kernel
theorem dX8_touch_25 : decode cX8_touch 25 = .ok (.ldc 86, 2) := by decide +kernel
theorem dX8_touch_27 : decode cX8_touch 27 = .ok (.invokevirtual 87, 3) := by decide +kernel
theorem dX8_touch_30 : decode cX8_touch 30 = .ok (.ireturn, 1) := by decide +kernel
theorem dX8_touch_31 : decode cX8_touch 31 = .ok (.iconst (-1), 1) := by decide +kernel
theorem dX8_touch_32 : decode cX8_touch 32 = .ok (.istore 4, 2) := by decide +kernel
theorem dX8_touch_34 : decode cX8_touch 34 = .ok (.aload_n 0, 1) := by decide +kernel
theorem dX8_touch_35 : decode cX8_touch 35 = .ok (.iload_n 1, 1) := by decide +kernel
theorem dX8_touch_36 : decode cX8_touch 36 = .ok (.iload_n 2, 1) := by decide +kernel
theorem dX8_touch_37 : decode cX8_touch 37 = .ok (.invokevirtual 269, 3) := by decide +kernel
theorem dX8_touch_40 : decode cX8_touch 40 = .ok (.istore 5, 2) := by decide +kernel
theorem dX8_touch_42 : decode cX8_touch 42 = .ok (.iconst 0, 1) := by decide +kernel
theorem dX8_touch_43 : decode cX8_touch 43 = .ok (.istore 6, 2) := by decide +kernel
theorem dX8_touch_45 : decode cX8_touch 45 = .ok (.iload 6, 2) := by decide +kernel
theorem dX8_touch_47 : decode cX8_touch 47 = .ok (.aload_n 0, 1) := by decide +kernel
theorem dX8_touch_48 : decode cX8_touch 48 = .ok (.getfield 9, 3) := by decide +kernel
theorem dX8_touch_51 : decode cX8_touch 51 = .ok (.iconst 1, 1) := by decide +kernel
theorem dX8_touch_52 : decode cX8_touch 52 = .ok (.iaload, 1) := by decide +kernel
theorem dX8_touch_53 : decode cX8_touch 53 = .ok (.if_icmp .ge 81, 3) := by decide +kernel
theorem dX8_touch_56 : decode cX8_touch 56 = .ok (.aload_n 0, 1) := by decide +kernel
theorem dX8_touch_57 : decode cX8_touch 57 = .ok (.iload 6, 2) := by decide +kernel
theorem dX8_touch_59 : decode cX8_touch 59 = .ok (.iconst 2, 1) := by decide +kernel
theorem dX8_touch_60 : decode cX8_touch 60 = .ok (.invokevirtual 186, 3) := by decide +kernel
theorem dX8_touch_63 : decode cX8_touch 63 = .ok (.istore 7, 2) := by decide +kernel
theorem dX8_touch_65 : decode cX8_touch 65 = .ok (.aload_n 0, 1) := by decide +kernel
theorem dX8_touch_66 : decode cX8_touch 66 = .ok (.getfield 9, 3) := by decide +kernel
theorem dX8_touch_69 : decode cX8_touch 69 = .ok (.iload 6, 2) := by decide +kernel
theorem dX8_touch_71 : decode cX8_touch 71 = .ok (.iconst 2, 1) := by decide +kernel
theorem dX8_touch_72 : decode cX8_touch 72 = .ok (.invokestatic 171, 3) := by decide +kernel
theorem dX8_touch_75 : decode cX8_touch 75 = .ok (.aload_n 0, 1) := by decide +kernel
theorem dX8_touch_76 : decode cX8_touch 76 = .ok (.iload_n 1, 1) := by decide +kernel
theorem dX8_touch_77 : decode cX8_touch 77 = .ok (.iconst 2, 1) := by decide +kernel
theorem dX8_touch_78 : decode cX8_touch 78 = .ok (.invokevirtual 186, 3) := by decide +kernel
theorem dX8_touch_81 : decode cX8_touch 81 = .ok (.iastore, 1) := by decide +kernel
theorem dX8_touch_82 : decode cX8_touch 82 = .ok (.aload_n 0, 1) := by decide +kernel
theorem dX8_touch_83 : decode cX8_touch 83 = .ok (.iload_n 1, 1) := by decide +kernel
theorem dX8_touch_84 : decode cX8_touch 84 = .ok (.iload_n 2, 1) := by decide +kernel
theorem dX8_touch_85 : decode cX8_touch 85 = .ok (.invokevirtual 269, 3) := by decide +kernel
theorem dX8_touch_88 : decode cX8_touch 88 = .ok (.istore 8, 2) := by decide +kernel
theorem dX8_touch_90 : decode cX8_touch 90 = .ok (.aload_n 0, 1) := by decide +kernel
theorem dX8_touch_91 : decode cX8_touch 91 = .ok (.getfield 9, 3) := by decide +kernel
theorem dX8_touch_94 : decode cX8_touch 94 = .ok (.iload 6, 2) := by decide +kernel
theorem dX8_touch_96 : decode cX8_touch 96 = .ok (.iconst 2, 1) := by decide +kernel
theorem dX8_touch_97 : decode cX8_touch 97 = .ok (.invokestatic 171, 3) := by decide +kernel
theorem dX8_touch_100 : decode cX8_touch 100 = .ok (.iload 7, 2) := by decide +kernel
theorem dX8_touch_102 : decode cX8_touch 102 = .ok (.iastore, 1) := by decide +kernel
theorem dX8_touch_103 : decode cX8_touch 103 = .ok (.iload 8, 2) := by decide +kernel
theorem dX8_touch_105 : decode cX8_touch 105 = .ok (.iload 5, 2) := by decide +kernel
theorem dX8_touch_107 : decode cX8_touch 107 = .ok (.if_icmp .le 8, 3) := by decide +kernel
theorem dX8_touch_110 : decode cX8_touch 110 = .ok (.iload 6, 2) := by decide +kernel
theorem dX8_touch_112 : decode cX8_touch 112 = .ok (.goto 5, 3) := by decide +kernel
theorem dX8_touch_115 : decode cX8_touch 115 = .ok (.iload 4, 2) := by decide +kernel
theorem dX8_touch_117 : decode cX8_touch 117 = .ok (.istore 4, 2) := by decide +kernel
theorem dX8_touch_119 : decode cX8_touch 119 = .ok (.iload 5, 2) := by decide +kernel
theorem dX8_touch_121 : decode cX8_touch 121 = .ok (.iload 8, 2) := by decide +kernel
theorem dX8_touch_123 : decode cX8_touch 123 = .ok (.invokestatic 75, 3) := by decide +kernel
theorem dX8_touch_126 : decode cX8_touch 126 = .ok (.istore 5, 2) := by decide +kernel
theorem dX8_touch_128 : decode cX8_touch 128 = .ok (.iinc 6 1, 3) := by decide +kernel
theorem dX8_touch_131 : decode cX8_touch 131 = .ok (.goto (-86), 3) := by decide +kernel
theorem dX8_touch_134 : decode cX8_touch 134 = .ok (.iload_n 3, 1) := by decide +kernel
theorem dX8_touch_135 : decode cX8_touch 135 = .ok (.ifCond .ne 8, 3) := by decide +kernel
theorem dX8_touch_138 : decode cX8_touch 138 = .ok (.iload 4, 2) := by decide +kernel
theorem dX8_touch_140 : decode cX8_touch 140 = .ok (.goto 5, 3) := by decide +kernel
theorem dX8_touch_143 : decode cX8_touch 143 = .ok (.iload 5, 2) := by decide +kernel
theorem dX8_touch_145 : decode cX8_touch 145 = .ok (.ireturn, 1) := by decide +kernel
theorem dX8_done__0 : decode cX8_done_ 0 = .ok (.iload_n 1, 1) := by decide +kernel
theorem dX8_done__1 : decode cX8_done_ 1 = .ok (.invokestatic 247, 3) := by decide +kernel
theorem dX8_done__4 : decode cX8_done_ 4 = .ok (.ifCond .ne 10, 3) := by decide +kernel
theorem dX8_done__7 : decode cX8_done_ 7 = .ok (.aload_n 0, 1) := by decide +kernel
theorem dX8_done__8 : decode cX8_done_ 8 = .ok (.ldc 86, 2) := by decide +kernel
theorem dX8_done__10 : decode cX8_done_ 10 = .ok (.invokevirtual 87, 3) := by decide +kernel
theorem dX8_done__13 : decode cX8_done_ 13 = .ok (.ireturn, 1) := by decide +kernel
theorem dX8_done__14 : decode cX8_done_ 14 = .ok (.aload_n 0, 1) := by decide +kernel
theorem dX8_done__15 : decode cX8_done_ 15 = .ok (.iconst 5, 1) := by decide +kernel
theorem dX8_done__16 : decode cX8_done_ 16 = .ok (.invokevirtual 240, 3) := by decide +kernel
theorem dX8_done__19 : decode cX8_done_ 19 = .ok (.istore_n 2, 1) := by decide +kernel
theorem dX8_done__20 : decode cX8_done_ 20 = .ok (.aload_n 0, 1) := by decide +kernel
theorem dX8_done__21 : decode cX8_done_ 21 = .ok (.getfield 9, 3) := by decide +kernel
theorem dX8_done__24 : decode cX8_done_ 24 = .ok (.aload_n 0, 1) := by decide +kernel
theorem dX8_done__25 : decode cX8_done_ 25 = .ok (.getfield 16, 3) := by decide +kernel
theorem dX8_done__28 : decode cX8_done_ 28 = .ok (.invokestatic 78, 3) := by decide +kernel
theorem dX8_done__31 : decode cX8_done_ 31 = .ok (.aload_n 0, 1) := by decide +kernel
theorem dX8_done__32 : decode cX8_done_ 32 = .ok (.iload_n 1, 1) := by decide +kernel
theorem dX8_done__33 : decode cX8_done_ 33 = .ok (.invokevirtual 237, 3) := by decide +kernel
theorem dX8_done__36 : decode cX8_done_ 36 = .ok (.aload_n 0, 1) := by decide +kernel
theorem dX8_done__37 : decode cX8_done_ 37 = .ok (.aload_n 0, 1) := by decide +kernel
theorem dX8_done__38 : decode cX8_done_ 38 = .ok (.iconst 5, 1) := by decide +kernel
theorem dX8_done__39 : decode cX8_done_ 39 = .ok (.invokevirtual 240, 3) := by decide +kernel
theorem dX8_done__42 : decode cX8_done_ 42 = .ok (.iload_n 2, 1) := by decide +kernel
theorem dX8_done__43 : decode cX8_done_ 43 = .ok (.isub, 1) := by decide +kernel
theorem dX8_done__44 : decode cX8_done_ 44 = .ok (.invokevirtual 250, 3) := by decide +kernel
theorem dX8_done__47 : decode cX8_done_ 47 = .ok (.ireturn, 1) := by decide +kernel
theorem dX8_odds_0 : decode cX8_odds 0 = .ok (.aload_n 0, 1) := by decide +kernel
theorem dX8_odds_1 : decode cX8_odds 1 = .ok (.iload_n 1, 1) := by decide +kernel
theorem dX8_odds_2 : decode cX8_odds 2 = .ok (.invokevirtual 193, 3) := by decide +kernel
theorem dX8_odds_5 : decode cX8_odds 5 = .ok (.ifCond .eq 19, 3) := by decide +kernel
theorem dX8_odds_8 : decode cX8_odds 8 = .ok (.iload_n 2, 1) := by decide +kernel
theorem dX8_odds_9 : decode cX8_odds 9 = .ok (.invokestatic 247, 3) := by decide +kernel
theorem dX8_odds_12 : decode cX8_odds 12 = .ok (.ifCond .eq 12, 3) := by decide +kernel
theorem dX8_odds_15 : decode cX8_odds 15 = .ok (.iload_n 3, 1) := by decide +kernel
theorem dX8_odds_16 : decode cX8_odds 16 = .ok (.iconst 0, 1) := by decide +kernel
theorem dX8_odds_17 : decode cX8_odds 17 = .ok (.iconst 1, 1) := by decide +kernel
theorem dX8_odds_18 : decode cX8_odds 18 = .ok (.invokestatic 82, 3) := by decide +kernel
theorem dX8_odds_21 : decode cX8_odds 21 = .ok (.ifCond .ne 10, 3) := by decide +kernel
theorem dX8_odds_24 : decode cX8_odds 24 = .ok (.aload_n 0, 1) := by decide +kernel
theorem dX8_odds_25 : decode cX8_odds 25 = .ok (.ldc 86, 2) := by decide +kernel
theorem dX8_odds_27 : decode cX8_odds 27 = .ok (.invokevirtual 87, 3) := by decide +kernel
theorem dX8_odds_30 : decode cX8_odds 30 = .ok (.ireturn, 1) := by decide +kernel
theorem dX8_odds_31 : decode cX8_odds 31 = .ok (.aload_n 0, 1) := by decide +kernel
theorem dX8_odds_32 : decode cX8_odds 32 = .ok (.getfield 9, 3) := by decide +kernel
theorem dX8_odds_35 : decode cX8_odds 35 = .ok (.iconst 2, 1) := by decide +kernel
theorem dX8_odds_36 : decode cX8_odds 36 = .ok (.iaload, 1) := by decide +kernel
theorem dX8_odds_37 : decode cX8_odds 37 = .ok (.istore 4, 2) := by decide +kernel
theorem dX8_odds_39 : decode cX8_odds 39 = .ok (.iconst 0, 1) := by decide +kernel
theorem dX8_odds_40 : decode cX8_odds 40 = .ok (.istore 5, 2) := by decide +kernel
theorem dX8_odds_42 : decode cX8_odds 42 = .ok (.iconst 1, 1) := by decide +kernel
theorem dX8_odds_43 : decode cX8_odds 43 = .ok (.istore 6, 2) := by decide +kernel
theorem dX8_odds_45 : decode cX8_odds 45 = .ok (.iload 6, 2) := by decide +kernel
theorem dX8_odds_47 : decode cX8_odds 47 = .ok (.bipush 9, 2) := by decide +kernel
theorem dX8_odds_49 : decode cX8_odds 49 = .ok (.if_icmp .gt 36, 3) := by decide +kernel
theorem dX8_odds_52 : decode cX8_odds 52 = .ok (.aload_n 0, 1) := by decide +kernel
theorem dX8_odds_53 : decode cX8_odds 53 = .ok (.getfield 9, 3) := by decide +kernel
theorem dX8_odds_56 : decode cX8_odds 56 = .ok (.iconst 2, 1) := by decide +kernel
theorem dX8_odds_57 : decode cX8_odds 57 = .ok (.iload 6, 2) := by decide +kernel
theorem dX8_odds_59 : decode cX8_odds 59 = .ok (.iastore, 1) := by decide +kernel
theorem dX8_odds_60 : decode cX8_odds 60 = .ok (.iload 5, 2) := by decide +kernel
theorem dX8_odds_62 : decode cX8_odds 62 = .ok (.aload_n 0, 1) := by decide +kernel
theorem dX8_odds_63 : decode cX8_odds 63 = .ok (.iload_n 1, 1) := by decide +kernel
theorem dX8_odds_64 : decode cX8_odds 64 = .ok (.iload_n 2, 1) := by decide +kernel
theorem dX8_odds_65 : decode cX8_odds 65 = .ok (.invokevirtual 269, 3) := by decide +kernel
theorem dX8_odds_68 : decode cX8_odds 68 = .ok (.ifCond .le 7, 3) := by decide +kernel
theorem dX8_odds_71 : decode cX8_odds 71 = .ok (.iconst 1, 1) := by decide +kernel
theorem dX8_odds_72 : decode cX8_odds 72 = .ok (.goto 4, 3) := by decide +kernel
theorem dX8_odds_75 : decode cX8_odds 75 = .ok (.iconst 0, 1) := by decide +kernel
theorem dX8_odds_76 : decode cX8_odds 76 = .ok (.iadd, 1) := by decide +kernel
theorem dX8_odds_77 : decode cX8_odds 77 = .ok (.istore 5, 2) := by decide +kernel
theorem dX8_odds_79 : decode cX8_odds 79 = .ok (.iinc 6 1, 3) := by decide +kernel
theorem dX8_odds_82 : decode cX8_odds 82 = .ok (.goto (-37), 3) := by decide +kernel
theorem dX8_odds_85 : decode cX8_odds 85 = .ok (.aload_n 0, 1) := by decide +kernel
theorem dX8_odds_86 : decode cX8_odds 86 = .ok (.getfield 9, 3) := by decide +kernel
theorem dX8_odds_89 : decode cX8_odds 89 = .ok (.iconst 2, 1) := by decide +kernel
theorem dX8_odds_90 : decode cX8_odds 90 = .ok (.iload 4, 2) := by decide +kernel
theorem dX8_odds_92 : decode cX8_odds 92 = .ok (.iastore, 1) := by decide +kernel
theorem dX8_odds_93 : decode cX8_odds 93 = .ok (.bipush 9, 2) := by decide +kernel
theorem dX8_odds_95 : decode cX8_odds 95 = .ok (.istore 6, 2) := by decide +kernel
theorem dX8_odds_97 : decode cX8_odds 97 = .ok (.iload 5, 2) := by decide +kernel
theorem dX8_odds_99 : decode cX8_odds 99 = .ok (.istore 7, 2) := by decide +kernel
theorem dX8_odds_101 : decode cX8_odds 101 = .ok (.iload 7, 2) := by decide +kernel
theorem dX8_odds_103 : decode cX8_odds 103 = .ok (.ifCond .eq 21, 3) := by decide +kernel
theorem dX8_odds_106 : decode cX8_odds 106 = .ok (.iload 6, 2) := by decide +kernel
theorem dX8_odds_108 : decode cX8_odds 108 = .ok (.iload 7, 2) := by decide +kernel
theorem dX8_odds_110 : decode cX8_odds 110 = .ok (.irem, 1) := by decide +kernel
theorem dX8_odds_111 : decode cX8_odds 111 = .ok (.istore 8, 2) := by decide +kernel
theorem dX8_odds_113 : decode cX8_odds 113 = .ok (.iload 7, 2) := by decide +kernel
theorem dX8_odds_115 : decode cX8_odds 115 = .ok (.istore 6, 2) := by decide +kernel
theorem dX8_odds_117 : decode cX8_odds 117 = .ok (.iload 8, 2) := by decide +kernel
theorem dX8_odds_119 : decode cX8_odds 119 = .ok (.istore 7, 2) := by decide +kernel
theorem dX8_odds_121 : decode cX8_odds 121 = .ok (.goto (-20), 3) := by decide +kernel
theorem dX8_odds_124 : decode cX8_odds 124 = .ok (.iload_n 3, 1) := by decide +kernel
theorem dX8_odds_125 : decode cX8_odds 125 = .ok (.ifCond .ne 8, 3) := by decide +kernel
theorem dX8_odds_128 : decode cX8_odds 128 = .ok (.iload 5, 2) := by decide +kernel
theorem dX8_odds_130 : decode cX8_odds 130 = .ok (.goto 5, 3) := by decide +kernel
theorem dX8_odds_133 : decode cX8_odds 133 = .ok (.bipush 9, 2) := by decide +kernel
theorem dX8_odds_135 : decode cX8_odds 135 = .ok (.iload 6, 2) := by decide +kernel
theorem dX8_odds_137 : decode cX8_odds 137 = .ok (.idiv, 1) := by decide +kernel
theorem dX8_odds_138 : decode cX8_odds 138 = .ok (.ireturn, 1) := by decide +kernel
theorem dX8_seed_0 : decode cX8_seed 0 = .ok (.aload_n 0, 1) := by decide +kernel
theorem dX8_seed_1 : decode cX8_seed 1 = .ok (.iconst 3, 1) := by decide +kernel
theorem dX8_seed_2 : decode cX8_seed 2 = .ok (.iload_n 1, 1) := by decide +kernel
theorem dX8_seed_3 : decode cX8_seed 3 = .ok (.invokevirtual 208, 3) := by decide +kernel
theorem dX8_seed_6 : decode cX8_seed 6 = .ok (.ireturn, 1) := by decide +kernel
theorem dX8_ran_0 : decode cX8_ran 0 = .ok (.aload_n 0, 1) := by decide +kernel
theorem dX8_ran_1 : decode cX8_ran 1 = .ok (.getfield 272, 3) := by decide +kernel
theorem dX8_ran_4 : decode cX8_ran 4 = .ok (.bipush 40, 2) := by decide +kernel
theorem dX8_ran_6 : decode cX8_ran 6 = .ok (.if_icmp .ge 23, 3) := by decide +kernel
theorem dX8_ran_9 : decode cX8_ran 9 = .ok (.aload_n 0, 1) := by decide +kernel
theorem dX8_ran_10 : decode cX8_ran 10 = .ok (.getfield 53, 3) := by decide +kernel
theorem dX8_ran_13 : decode cX8_ran 13 = .ok (.aload_n 0, 1) := by decide +kernel
theorem dX8_ran_14 : decode cX8_ran 14 = .ok (.getfield 272, 3) := by decide +kernel
theorem dX8_ran_17 : decode cX8_ran 17 = .ok (.iload_n 1, 1) := by decide +kernel
theorem dX8_ran_18 : decode cX8_ran 18 = .ok (.iastore, 1) := by decide +kernel
theorem dX8_ran_19 : decode cX8_ran 19 = .ok (.aload_n 0, 1) := by decide +kernel
theorem dX8_ran_20 : decode cX8_ran 20 = .ok (.dup, 1) := by decide +kernel
theorem dX8_ran_21 : decode cX8_ran 21 = .ok (.getfield 272, 3) := by decide +kernel
theorem dX8_ran_24 : decode cX8_ran 24 = .ok (.iconst 1, 1) := by decide +kernel
theorem dX8_ran_25 : decode cX8_ran 25 = .ok (.iadd, 1) := by decide +kernel
theorem dX8_ran_26 : decode cX8_ran 26 = .ok (.putfield 272, 3) := by decide +kernel
theorem dX8_ran_29 : decode cX8_ran 29 = .ok (.return_, 1) := by decide +kernel
theorem dX8_keepsOf_0 : decode cX8_keepsOf 0 = .ok (.aload_n 0, 1) := by decide +kernel
theorem dX8_keepsOf_1 : decode cX8_keepsOf 1 = .ok (.getfield 275, 3) := by decide +kernel
theorem dX8_keepsOf_4 : decode cX8_keepsOf 4 = .ok (.iconst 1, 1) := by decide +kernel
theorem dX8_keepsOf_5 : decode cX8_keepsOf 5 = .ok (.invokestatic 189, 3) := by decide +kernel
theorem dX8_keepsOf_8 : decode cX8_keepsOf 8 = .ok (.istore_n 2, 1) := by decide +kernel
theorem dX8_keepsOf_9 : decode cX8_keepsOf 9 = .ok (.iload_n 2, 1) := by decide +kernel
theorem dX8_keepsOf_10 : decode cX8_keepsOf 10 = .ok (.ifCond .eq 9, 3) := by decide +kernel
theorem dX8_keepsOf_13 : decode cX8_keepsOf 13 = .ok (.aload_n 0, 1) := by decide +kernel
theorem dX8_keepsOf_14 : decode cX8_keepsOf 14 = .ok (.bipush 20, 2) := by decide +kernel
theorem dX8_keepsOf_16 : decode cX8_keepsOf 16 = .ok (.invokevirtual 278, 3) := by decide +kernel
theorem dX8_keepsOf_19 : decode cX8_keepsOf 19 = .ok (.aload_n 0, 1) := by decide +kernel
theorem dX8_keepsOf_20 : decode cX8_keepsOf 20 = .ok (.bipush 10, 2) := by decide +kernel
theorem dX8_keepsOf_22 : decode cX8_keepsOf 22 = .ok (.invokevirtual 278, 3) := by decide +kernel
theorem dX8_keepsOf_25 : decode cX8_keepsOf 25 = .ok (.iload_n 2, 1) := by decide +kernel
theorem dX8_keepsOf_26 : decode cX8_keepsOf 26 = .ok (.ifCond .eq 14, 3) := by decide +kernel
theorem dX8_keepsOf_29 : decode cX8_keepsOf 29 = .ok (.iload_n 1, 1) := by decide +kernel
theorem dX8_keepsOf_30 : decode cX8_keepsOf 30 = .ok (.aload_n 0, 1) := by decide +kernel
theorem dX8_keepsOf_31 : decode cX8_keepsOf 31 = .ok (.getfield 281, 3) := by decide +kernel
theorem dX8_keepsOf_34 : decode cX8_keepsOf 34 = .ok (.iadd, 1) := by decide +kernel
theorem dX8_keepsOf_35 : decode cX8_keepsOf 35 = .ok (.iconst 3, 1) := by decide +kernel
theorem dX8_keepsOf_36 : decode cX8_keepsOf 36 = .ok (.imul, 1) := by decide +kernel
theorem dX8_keepsOf_37 : decode cX8_keepsOf 37 = .ok (.goto 9, 3) := by decide +kernel
theorem dX8_keepsOf_40 : decode cX8_keepsOf 40 = .ok (.iload_n 1, 1) := by decide +kernel
theorem dX8_keepsOf_41 : decode cX8_keepsOf 41 = .ok (.aload_n 0, 1) := by decide +kernel
theorem dX8_keepsOf_42 : decode cX8_keepsOf 42 = .ok (.getfield 281, 3) := by decide +kernel
theorem dX8_keepsOf_45 : decode cX8_keepsOf 45 = .ok (.iadd, 1) := by decide +kernel
theorem dX8_keepsOf_46 : decode cX8_keepsOf 46 = .ok (.ireturn, 1) := by decide +kernel
theorem dX8_handsOf_0 : decode cX8_handsOf 0 = .ok (.iload_n 1, 1) := by decide +kernel
theorem dX8_handsOf_1 : decode cX8_handsOf 1 = .ok (.istore_n 2, 1) := by decide +kernel
theorem dX8_handsOf_2 : decode cX8_handsOf 2 = .ok (.aload_n 0, 1) := by decide +kernel
theorem dX8_handsOf_3 : decode cX8_handsOf 3 = .ok (.getfield 275, 3) := by decide +kernel
theorem dX8_handsOf_6 : decode cX8_handsOf 6 = .ok (.iconst 5, 1) := by decide +kernel
theorem dX8_handsOf_7 : decode cX8_handsOf 7 = .ok (.if_icmp .ne 12, 3) := by decide +kernel
theorem dX8_handsOf_10 : decode cX8_handsOf 10 = .ok (.aload_n 0, 1) := by decide +kernel
theorem dX8_handsOf_11 : decode cX8_handsOf 11 = .ok (.bipush 60, 2) := by decide +kernel
theorem dX8_handsOf_13 : decode cX8_handsOf 13 = .ok (.invokevirtual 278, 3) := by decide +kernel
theorem dX8_handsOf_16 : decode cX8_handsOf 16 = .ok (.iinc 2 1, 3) := by decide +kernel
theorem dX8_handsOf_19 : decode cX8_handsOf 19 = .ok (.aload_n 0, 1) := by decide +kernel
theorem dX8_handsOf_20 : decode cX8_handsOf 20 = .ok (.getfield 275, 3) := by decide +kernel
theorem dX8_handsOf_23 : decode cX8_handsOf 23 = .ok (.iconst 2, 1) := by decide +kernel
theorem dX8_handsOf_24 : decode cX8_handsOf 24 = .ok (.invokestatic 189, 3) := by decide +kernel
theorem dX8_handsOf_27 : decode cX8_handsOf 27 = .ok (.istore_n 3, 1) := by decide +kernel
theorem dX8_handsOf_28 : decode cX8_handsOf 28 = .ok (.iload_n 3, 1) := by decide +kernel
theorem dX8_handsOf_29 : decode cX8_handsOf 29 = .ok (.ifCond .eq 9, 3) := by decide +kernel
theorem dX8_handsOf_32 : decode cX8_handsOf 32 = .ok (.aload_n 0, 1) := by decide +kernel
theorem dX8_handsOf_33 : decode cX8_handsOf 33 = .ok (.bipush 30, 2) := by decide +kernel
theorem dX8_handsOf_35 : decode cX8_handsOf 35 = .ok (.invokevirtual 278, 3) := by decide +kernel
theorem dX8_handsOf_38 : decode cX8_handsOf 38 = .ok (.aload_n 0, 1) := by decide +kernel
theorem dX8_handsOf_39 : decode cX8_handsOf 39 = .ok (.bipush 11, 2) := by decide +kernel
theorem dX8_handsOf_41 : decode cX8_handsOf 41 = .ok (.invokevirtual 278, 3) := by decide +kernel
theorem dX8_handsOf_44 : decode cX8_handsOf 44 = .ok (.aload_n 0, 1) := by decide +kernel
theorem dX8_handsOf_45 : decode cX8_handsOf 45 = .ok (.iload_n 2, 1) := by decide +kernel
theorem dX8_handsOf_46 : decode cX8_handsOf 46 = .ok (.invokevirtual 284, 3) := by decide +kernel
theorem dX8_handsOf_49 : decode cX8_handsOf 49 = .ok (.iconst 2, 1) := by decide +kernel
theorem dX8_handsOf_50 : decode cX8_handsOf 50 = .ok (.imul, 1) := by decide +kernel
theorem dX8_handsOf_51 : decode cX8_handsOf 51 = .ok (.istore 4, 2) := by decide +kernel
theorem dX8_handsOf_53 : decode cX8_handsOf 53 = .ok (.iload_n 3, 1) := by decide +kernel
theorem dX8_handsOf_54 : decode cX8_handsOf 54 = .ok (.ifCond .eq 14, 3) := by decide +kernel
theorem dX8_handsOf_57 : decode cX8_handsOf 57 = .ok (.iload 4, 2) := by decide +kernel
theorem dX8_handsOf_59 : decode cX8_handsOf 59 = .ok (.aload_n 0, 1) := by decide +kernel
theorem dX8_handsOf_60 : decode cX8_handsOf 60 = .ok (.iconst 1, 1) := by decide +kernel
theorem dX8_handsOf_61 : decode cX8_handsOf 61 = .ok (.invokevirtual 287, 3) := by decide +kernel
theorem dX8_handsOf_64 : decode cX8_handsOf 64 = .ok (.isub, 1) := by decide +kernel
theorem dX8_handsOf_65 : decode cX8_handsOf 65 = .ok (.goto 5, 3) := by decide +kernel
theorem dX8_handsOf_68 : decode cX8_handsOf 68 = .ok (.iload 4, 2) := by decide +kernel
theorem dX8_handsOf_70 : decode cX8_handsOf 70 = .ok (.ireturn, 1) := by decide +kernel
theorem dX8_stealsOf_0 : decode cX8_stealsOf 0 = .ok (.aload_n 0, 1) := by decide +kernel
theorem dX8_stealsOf_1 : decode cX8_stealsOf 1 = .ok (.getfield 275, 3) := by decide +kernel
theorem dX8_stealsOf_4 : decode cX8_stealsOf 4 = .ok (.bipush 6, 2) := by decide +kernel
theorem dX8_stealsOf_6 : decode cX8_stealsOf 6 = .ok (.if_icmp .ne 9, 3) := by decide +kernel
theorem dX8_stealsOf_9 : decode cX8_stealsOf 9 = .ok (.aload_n 0, 1) := by decide +kernel
theorem dX8_stealsOf_10 : decode cX8_stealsOf 10 = .ok (.bipush 70, 2) := by decide +kernel
theorem dX8_stealsOf_12 : decode cX8_stealsOf 12 = .ok (.invokevirtual 278, 3) := by decide +kernel
theorem dX8_stealsOf_15 : decode cX8_stealsOf 15 = .ok (.aload_n 0, 1) := by decide +kernel
theorem dX8_stealsOf_16 : decode cX8_stealsOf 16 = .ok (.getfield 275, 3) := by decide +kernel
theorem dX8_stealsOf_19 : decode cX8_stealsOf 19 = .ok (.iconst 3, 1) := by decide +kernel
theorem dX8_stealsOf_20 : decode cX8_stealsOf 20 = .ok (.invokestatic 189, 3) := by decide +kernel
theorem dX8_stealsOf_23 : decode cX8_stealsOf 23 = .ok (.istore_n 2, 1) := by decide +kernel
theorem dX8_stealsOf_24 : decode cX8_stealsOf 24 = .ok (.iload_n 2, 1) := by decide +kernel
theorem dX8_stealsOf_25 : decode cX8_stealsOf 25 = .ok (.ifCond .eq 9, 3) := by decide +kernel
theorem dX8_stealsOf_28 : decode cX8_stealsOf 28 = .ok (.aload_n 0, 1) := by decide +kernel
theorem dX8_stealsOf_29 : decode cX8_stealsOf 29 = .ok (.bipush 40, 2) := by decide +kernel
theorem dX8_stealsOf_31 : decode cX8_stealsOf 31 = .ok (.invokevirtual 278, 3) := by decide +kernel
theorem dX8_stealsOf_34 : decode cX8_stealsOf 34 = .ok (.aload_n 0, 1) := by decide +kernel
theorem dX8_stealsOf_35 : decode cX8_stealsOf 35 = .ok (.bipush 12, 2) := by decide +kernel
theorem dX8_stealsOf_37 : decode cX8_stealsOf 37 = .ok (.invokevirtual 278, 3) := by decide +kernel
theorem dX8_stealsOf_40 : decode cX8_stealsOf 40 = .ok (.iload_n 2, 1) := by decide +kernel
theorem dX8_stealsOf_41 : decode cX8_stealsOf 41 = .ok (.ifCond .eq 13, 3) := by decide +kernel
theorem dX8_stealsOf_44 : decode cX8_stealsOf 44 = .ok (.iload_n 1, 1) := by decide +kernel
theorem dX8_stealsOf_45 : decode cX8_stealsOf 45 = .ok (.aload_n 0, 1) := by decide +kernel
theorem dX8_stealsOf_46 : decode cX8_stealsOf 46 = .ok (.getfield 290, 3) := by decide +kernel
theorem dX8_stealsOf_49 : decode cX8_stealsOf 49 = .ok (.isub, 1) := by decide +kernel
theorem dX8_stealsOf_50 : decode cX8_stealsOf 50 = .ok (.ineg, 1) := by decide +kernel
theorem dX8_stealsOf_51 : decode cX8_stealsOf 51 = .ok (.goto 9, 3) := by decide +kernel
theorem dX8_stealsOf_54 : decode cX8_stealsOf 54 = .ok (.iload_n 1, 1) := by decide +kernel
theorem dX8_stealsOf_55 : decode cX8_stealsOf 55 = .ok (.aload_n 0, 1) := by decide +kernel
theorem dX8_stealsOf_56 : decode cX8_stealsOf 56 = .ok (.getfield 290, 3) := by decide +kernel
theorem dX8_stealsOf_59 : decode cX8_stealsOf 59 = .ok (.isub, 1) := by decide +kernel
theorem dX8_stealsOf_60 : decode cX8_stealsOf 60 = .ok (.istore_n 3, 1) := by decide +kernel
theorem dX8_stealsOf_61 : decode cX8_stealsOf 61 = .ok (.aload_n 0, 1) := by decide +kernel
theorem dX8_stealsOf_62 : decode cX8_stealsOf 62 = .ok (.getfield 275, 3) := by decide +kernel
theorem dX8_stealsOf_65 : decode cX8_stealsOf 65 = .ok (.bipush 6, 2) := by decide +kernel
theorem dX8_stealsOf_67 : decode cX8_stealsOf 67 = .ok (.if_icmp .ne 12, 3) := by decide +kernel
theorem dX8_stealsOf_70 : decode cX8_stealsOf 70 = .ok (.iload_n 3, 1) := by decide +kernel
theorem dX8_stealsOf_71 : decode cX8_stealsOf 71 = .ok (.aload_n 0, 1) := by decide +kernel
theorem dX8_stealsOf_72 : decode cX8_stealsOf 72 = .ok (.getfield 281, 3) := by decide +kernel
theorem dX8_stealsOf_75 : decode cX8_stealsOf 75 = .ok (.ixor, 1) := by decide +kernel
theorem dX8_stealsOf_76 : decode cX8_stealsOf 76 = .ok (.goto 4, 3) := by decide +kernel
theorem dX8_stealsOf_79 : decode cX8_stealsOf 79 = .ok (.iload_n 3, 1) := by decide +kernel
theorem dX8_stealsOf_80 : decode cX8_stealsOf 80 = .ok (.ireturn, 1) := by decide +kernel
theorem dX8_plainTells_0 : decode cX8_plainTells 0 = .ok (.aload_n 0, 1) := by decide +kernel
theorem dX8_plainTells_1 : decode cX8_plainTells 1 = .ok (.bipush 13, 2) := by decide +kernel
theorem dX8_plainTells_3 : decode cX8_plainTells 3 = .ok (.invokevirtual 278, 3) := by decide +kernel
theorem dX8_plainTells_6 : decode cX8_plainTells 6 = .ok (.aload_n 0, 1) := by decide +kernel
theorem dX8_plainTells_7 : decode cX8_plainTells 7 = .ok (.iload_n 1, 1) := by decide +kernel
theorem dX8_plainTells_8 : decode cX8_plainTells 8 = .ok (.invokevirtual 293, 3) := by decide +kernel
theorem dX8_plainTells_11 : decode cX8_plainTells 11 = .ok (.istore_n 2, 1) := by decide +kernel
theorem dX8_plainTells_12 : decode cX8_plainTells 12 = .ok (.iload_n 2, 1) := by decide +kernel
theorem dX8_plainTells_13 : decode cX8_plainTells 13 = .ok (.aload_n 0, 1) := by decide +kernel
theorem dX8_plainTells_14 : decode cX8_plainTells 14 = .ok (.iload_n 1, 1) := by decide +kernel
theorem dX8_plainTells_15 : decode cX8_plainTells 15 = .ok (.invokevirtual 287, 3) := by decide +kernel
theorem dX8_plainTells_18 : decode cX8_plainTells 18 = .ok (.ixor, 1) := by decide +kernel
theorem dX8_plainTells_19 : decode cX8_plainTells 19 = .ok (.ireturn, 1) := by decide +kernel
theorem dX8_tellsOf_0 : decode cX8_tellsOf 0 = .ok (.aload_n 0, 1) := by decide +kernel
theorem dX8_tellsOf_1 : decode cX8_tellsOf 1 = .ok (.getfield 275, 3) := by decide +kernel
theorem dX8_tellsOf_4 : decode cX8_tellsOf 4 = .ok (.bipush 6, 2) := by decide +kernel
