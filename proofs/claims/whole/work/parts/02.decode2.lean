theorem dX7_loss_39 : decode cX7_loss 39 = .ok (.ireturn, 1) := by decide +kernel
theorem dX7_street_0 : decode cX7_street 0 = .ok (.iload_n 1, 1) := by decide +kernel
theorem dX7_street_1 : decode cX7_street 1 = .ok (.invokestatic 71, 3) := by decide +kernel
theorem dX7_street_4 : decode cX7_street 4 = .ok (.ifCond .eq 10, 3) := by decide +kernel
theorem dX7_street_7 : decode cX7_street 7 = .ok (.iload_n 2, 1) := by decide +kernel
theorem dX7_street_8 : decode cX7_street 8 = .ok (.invokestatic 137, 3) := by decide +kernel
theorem dX7_street_11 : decode cX7_street 11 = .ok (.ifCond .ne 9, 3) := by decide +kernel
theorem dX7_street_14 : decode cX7_street 14 = .ok (.aload_n 0, 1) := by decide +kernel
theorem dX7_street_15 : decode cX7_street 15 = .ok (.iconst 1, 1) := by decide +kernel
theorem dX7_street_16 : decode cX7_street 16 = .ok (.invokevirtual 74, 3) := by decide +kernel
theorem dX7_street_19 : decode cX7_street 19 = .ok (.ireturn, 1) := by decide +kernel
theorem dX7_street_20 : decode cX7_street 20 = .ok (.iload_n 2, 1) := by decide +kernel
theorem dX7_street_21 : decode cX7_street 21 = .ok (.ifCond .ne 17, 3) := by decide +kernel
theorem dX7_street_24 : decode cX7_street 24 = .ok (.aload_n 0, 1) := by decide +kernel
theorem dX7_street_25 : decode cX7_street 25 = .ok (.getfield 10, 3) := by decide +kernel
theorem dX7_street_28 : decode cX7_street 28 = .ok (.getfield 78, 3) := by decide +kernel
theorem dX7_street_31 : decode cX7_street 31 = .ok (.iload_n 1, 1) := by decide +kernel
theorem dX7_street_32 : decode cX7_street 32 = .ok (.invokevirtual 140, 3) := by decide +kernel
theorem dX7_street_35 : decode cX7_street 35 = .ok (.goto 14, 3) := by decide +kernel
theorem dX7_street_38 : decode cX7_street 38 = .ok (.aload_n 0, 1) := by decide +kernel
theorem dX7_street_39 : decode cX7_street 39 = .ok (.getfield 10, 3) := by decide +kernel
theorem dX7_street_42 : decode cX7_street 42 = .ok (.getfield 78, 3) := by decide +kernel
theorem dX7_street_45 : decode cX7_street 45 = .ok (.iload_n 1, 1) := by decide +kernel
theorem dX7_street_46 : decode cX7_street 46 = .ok (.invokevirtual 143, 3) := by decide +kernel
theorem dX7_street_49 : decode cX7_street 49 = .ok (.ireturn, 1) := by decide +kernel
theorem dX7_meet_0 : decode cX7_meet 0 = .ok (.aload_n 0, 1) := by decide +kernel
theorem dX7_meet_1 : decode cX7_meet 1 = .ok (.iload_n 1, 1) := by decide +kernel
theorem dX7_meet_2 : decode cX7_meet 2 = .ok (.invokevirtual 88, 3) := by decide +kernel
theorem dX7_meet_5 : decode cX7_meet 5 = .ok (.ifCond .eq 16, 3) := by decide +kernel
theorem dX7_meet_8 : decode cX7_meet 8 = .ok (.aload_n 0, 1) := by decide +kernel
theorem dX7_meet_9 : decode cX7_meet 9 = .ok (.iload_n 2, 1) := by decide +kernel
theorem dX7_meet_10 : decode cX7_meet 10 = .ok (.invokevirtual 88, 3) := by decide +kernel
theorem dX7_meet_13 : decode cX7_meet 13 = .ok (.ifCond .eq 8, 3) := by decide +kernel
theorem dX7_meet_16 : decode cX7_meet 16 = .ok (.iload_n 1, 1) := by decide +kernel
theorem dX7_meet_17 : decode cX7_meet 17 = .ok (.iload_n 2, 1) := by decide +kernel
theorem dX7_meet_18 : decode cX7_meet 18 = .ok (.if_icmp .ne 9, 3) := by decide +kernel
theorem dX7_meet_21 : decode cX7_meet 21 = .ok (.aload_n 0, 1) := by decide +kernel
theorem dX7_meet_22 : decode cX7_meet 22 = .ok (.iconst 1, 1) := by decide +kernel
theorem dX7_meet_23 : decode cX7_meet 23 = .ok (.invokevirtual 74, 3) := by decide +kernel
theorem dX7_meet_26 : decode cX7_meet 26 = .ok (.ireturn, 1) := by decide +kernel
theorem dX7_meet_27 : decode cX7_meet 27 = .ok (.aload_n 0, 1) := by decide +kernel
theorem dX7_meet_28 : decode cX7_meet 28 = .ok (.getfield 10, 3) := by decide +kernel
theorem dX7_meet_31 : decode cX7_meet 31 = .ok (.getfield 78, 3) := by decide +kernel
theorem dX7_meet_34 : decode cX7_meet 34 = .ok (.iload_n 1, 1) := by decide +kernel
theorem dX7_meet_35 : decode cX7_meet 35 = .ok (.iload_n 2, 1) := by decide +kernel
theorem dX7_meet_36 : decode cX7_meet 36 = .ok (.invokevirtual 146, 3) := by decide +kernel
theorem dX7_meet_39 : decode cX7_meet 39 = .ok (.ifCond .eq 32, 3) := by decide +kernel
theorem dX7_meet_42 : decode cX7_meet 42 = .ok (.aload_n 0, 1) := by decide +kernel
theorem dX7_meet_43 : decode cX7_meet 43 = .ok (.getfield 10, 3) := by decide +kernel
theorem dX7_meet_46 : decode cX7_meet 46 = .ok (.getfield 78, 3) := by decide +kernel
theorem dX7_meet_49 : decode cX7_meet 49 = .ok (.aload_n 0, 1) := by decide +kernel
theorem dX7_meet_50 : decode cX7_meet 50 = .ok (.getfield 10, 3) := by decide +kernel
theorem dX7_meet_53 : decode cX7_meet 53 = .ok (.getfield 78, 3) := by decide +kernel
theorem dX7_meet_56 : decode cX7_meet 56 = .ok (.getfield 97, 3) := by decide +kernel
theorem dX7_meet_59 : decode cX7_meet 59 = .ok (.iload_n 1, 1) := by decide +kernel
theorem dX7_meet_60 : decode cX7_meet 60 = .ok (.iaload, 1) := by decide +kernel
theorem dX7_meet_61 : decode cX7_meet 61 = .ok (.invokevirtual 149, 3) := by decide +kernel
theorem dX7_meet_64 : decode cX7_meet 64 = .ok (.ifCond .eq 7, 3) := by decide +kernel
theorem dX7_meet_67 : decode cX7_meet 67 = .ok (.iconst 1, 1) := by decide +kernel
theorem dX7_meet_68 : decode cX7_meet 68 = .ok (.goto 4, 3) := by decide +kernel
theorem dX7_meet_71 : decode cX7_meet 71 = .ok (.iconst 0, 1) := by decide +kernel
theorem dX7_meet_72 : decode cX7_meet 72 = .ok (.ireturn, 1) := by decide +kernel
theorem dX7_feed_0 : decode cX7_feed 0 = .ok (.iload_n 3, 1) := by decide +kernel
theorem dX7_feed_1 : decode cX7_feed 1 = .ok (.iconst 1, 1) := by decide +kernel
theorem dX7_feed_2 : decode cX7_feed 2 = .ok (.bipush 8, 2) := by decide +kernel
theorem dX7_feed_4 : decode cX7_feed 4 = .ok (.invokestatic 126, 3) := by decide +kernel
theorem dX7_feed_7 : decode cX7_feed 7 = .ok (.ifCond .ne 9, 3) := by decide +kernel
theorem dX7_feed_10 : decode cX7_feed 10 = .ok (.aload_n 0, 1) := by decide +kernel
theorem dX7_feed_11 : decode cX7_feed 11 = .ok (.iconst 1, 1) := by decide +kernel
theorem dX7_feed_12 : decode cX7_feed 12 = .ok (.invokevirtual 74, 3) := by decide +kernel
theorem dX7_feed_15 : decode cX7_feed 15 = .ok (.ireturn, 1) := by decide +kernel
theorem dX7_feed_16 : decode cX7_feed 16 = .ok (.aload_n 0, 1) := by decide +kernel
theorem dX7_feed_17 : decode cX7_feed 17 = .ok (.getfield 10, 3) := by decide +kernel
theorem dX7_feed_20 : decode cX7_feed 20 = .ok (.getfield 152, 3) := by decide +kernel
theorem dX7_feed_23 : decode cX7_feed 23 = .ok (.getfield 156, 3) := by decide +kernel
theorem dX7_feed_26 : decode cX7_feed 26 = .ok (.iload_n 3, 1) := by decide +kernel
theorem dX7_feed_27 : decode cX7_feed 27 = .ok (.iadd, 1) := by decide +kernel
theorem dX7_feed_28 : decode cX7_feed 28 = .ok (.bipush 50, 2) := by decide +kernel
theorem dX7_feed_30 : decode cX7_feed 30 = .ok (.if_icmp .le 9, 3) := by decide +kernel
theorem dX7_feed_33 : decode cX7_feed 33 = .ok (.aload_n 0, 1) := by decide +kernel
theorem dX7_feed_34 : decode cX7_feed 34 = .ok (.iconst 4, 1) := by decide +kernel
theorem dX7_feed_35 : decode cX7_feed 35 = .ok (.invokevirtual 74, 3) := by decide +kernel
theorem dX7_feed_38 : decode cX7_feed 38 = .ok (.ireturn, 1) := by decide +kernel
theorem dX7_feed_39 : decode cX7_feed 39 = .ok (.iconst 0, 1) := by decide +kernel
theorem dX7_feed_40 : decode cX7_feed 40 = .ok (.istore 4, 2) := by decide +kernel
theorem dX7_feed_42 : decode cX7_feed 42 = .ok (.iload 4, 2) := by decide +kernel
theorem dX7_feed_44 : decode cX7_feed 44 = .ok (.iload_n 3, 1) := by decide +kernel
theorem dX7_feed_45 : decode cX7_feed 45 = .ok (.if_icmp .ge 31, 3) := by decide +kernel
theorem dX7_feed_48 : decode cX7_feed 48 = .ok (.aload_n 0, 1) := by decide +kernel
theorem dX7_feed_49 : decode cX7_feed 49 = .ok (.getfield 10, 3) := by decide +kernel
theorem dX7_feed_52 : decode cX7_feed 52 = .ok (.getfield 152, 3) := by decide +kernel
theorem dX7_feed_55 : decode cX7_feed 55 = .ok (.lload_n 1, 1) := by decide +kernel
theorem dX7_feed_56 : decode cX7_feed 56 = .ok (.bipush 8, 2) := by decide +kernel
theorem dX7_feed_58 : decode cX7_feed 58 = .ok (.iload 4, 2) := by decide +kernel
theorem dX7_feed_60 : decode cX7_feed 60 = .ok (.imul, 1) := by decide +kernel
theorem dX7_feed_61 : decode cX7_feed 61 = .ok (.lushr, 1) := by decide +kernel
theorem dX7_feed_62 : decode cX7_feed 62 = .ok (.l2i, 1) := by decide +kernel
theorem dX7_feed_63 : decode cX7_feed 63 = .ok (.sipush 255, 3) := by decide +kernel
theorem dX7_feed_66 : decode cX7_feed 66 = .ok (.iand, 1) := by decide +kernel
theorem dX7_feed_67 : decode cX7_feed 67 = .ok (.invokevirtual 159, 3) := by decide +kernel
theorem dX7_feed_70 : decode cX7_feed 70 = .ok (.iinc 4 1, 3) := by decide +kernel
theorem dX7_feed_73 : decode cX7_feed 73 = .ok (.goto (-31), 3) := by decide +kernel
theorem dX7_feed_76 : decode cX7_feed 76 = .ok (.aload_n 0, 1) := by decide +kernel
theorem dX7_feed_77 : decode cX7_feed 77 = .ok (.getfield 10, 3) := by decide +kernel
theorem dX7_feed_80 : decode cX7_feed 80 = .ok (.getfield 152, 3) := by decide +kernel
theorem dX7_feed_83 : decode cX7_feed 83 = .ok (.getfield 156, 3) := by decide +kernel
theorem dX7_feed_86 : decode cX7_feed 86 = .ok (.ireturn, 1) := by decide +kernel
theorem dX7_text_0 : decode cX7_text 0 = .ok (.iload_n 1, 1) := by decide +kernel
theorem dX7_text_1 : decode cX7_text 1 = .ok (.invokestatic 163, 3) := by decide +kernel
theorem dX7_text_4 : decode cX7_text 4 = .ok (.ifCond .ne 9, 3) := by decide +kernel
theorem dX7_text_7 : decode cX7_text 7 = .ok (.aload_n 0, 1) := by decide +kernel
theorem dX7_text_8 : decode cX7_text 8 = .ok (.iconst 1, 1) := by decide +kernel
theorem dX7_text_9 : decode cX7_text 9 = .ok (.invokevirtual 74, 3) := by decide +kernel
theorem dX7_text_12 : decode cX7_text 12 = .ok (.ireturn, 1) := by decide +kernel
theorem dX7_text_13 : decode cX7_text 13 = .ok (.aload_n 0, 1) := by decide +kernel
theorem dX7_text_14 : decode cX7_text 14 = .ok (.getfield 38, 3) := by decide +kernel
theorem dX7_text_17 : decode cX7_text 17 = .ok (.aload_n 0, 1) := by decide +kernel
theorem dX7_text_18 : decode cX7_text 18 = .ok (.getfield 10, 3) := by decide +kernel
theorem dX7_text_21 : decode cX7_text 21 = .ok (.getfield 152, 3) := by decide +kernel
theorem dX7_text_24 : decode cX7_text 24 = .ok (.iload_n 1, 1) := by decide +kernel
theorem dX7_text_25 : decode cX7_text 25 = .ok (.invokevirtual 166, 3) := by decide +kernel
theorem dX7_text_28 : decode cX7_text 28 = .ok (.istore_n 2, 1) := by decide +kernel
theorem dX7_text_29 : decode cX7_text 29 = .ok (.aload_n 0, 1) := by decide +kernel
theorem dX7_text_30 : decode cX7_text 30 = .ok (.getfield 10, 3) := by decide +kernel
theorem dX7_text_33 : decode cX7_text 33 = .ok (.getfield 152, 3) := by decide +kernel
theorem dX7_text_36 : decode cX7_text 36 = .ok (.invokevirtual 170, 3) := by decide +kernel
theorem dX7_text_39 : decode cX7_text 39 = .ok (.iload_n 2, 1) := by decide +kernel
theorem dX7_text_40 : decode cX7_text 40 = .ok (.ifCond .lt 8, 3) := by decide +kernel
theorem dX7_text_43 : decode cX7_text 43 = .ok (.bipush (-10), 2) := by decide +kernel
theorem dX7_text_45 : decode cX7_text 45 = .ok (.iload_n 2, 1) := by decide +kernel
theorem dX7_text_46 : decode cX7_text 46 = .ok (.isub, 1) := by decide +kernel
theorem dX7_text_47 : decode cX7_text 47 = .ok (.ireturn, 1) := by decide +kernel
theorem dX7_text_48 : decode cX7_text 48 = .ok (.aload_n 0, 1) := by decide +kernel
theorem dX7_text_49 : decode cX7_text 49 = .ok (.getfield 10, 3) := by decide +kernel
theorem dX7_text_52 : decode cX7_text 52 = .ok (.iload_n 1, 1) := by decide +kernel
theorem dX7_text_53 : decode cX7_text 53 = .ok (.invokevirtual 173, 3) := by decide +kernel
theorem dX7_text_56 : decode cX7_text 56 = .ok (.aload_n 0, 1) := by decide +kernel
theorem dX7_text_57 : decode cX7_text 57 = .ok (.getfield 38, 3) := by decide +kernel
theorem dX7_text_60 : decode cX7_text 60 = .ok (.getfield 177, 3) := by decide +kernel
theorem dX7_text_63 : decode cX7_text 63 = .ok (.invokevirtual 180, 3) := by decide +kernel
theorem dX7_text_66 : decode cX7_text 66 = .ok (.iconst 1, 1) := by decide +kernel
theorem dX7_text_67 : decode cX7_text 67 = .ok (.ireturn, 1) := by decide +kernel
theorem dX7_law_0 : decode cX7_law 0 = .ok (.iload_n 1, 1) := by decide +kernel
theorem dX7_law_1 : decode cX7_law 1 = .ok (.invokestatic 163, 3) := by decide +kernel
theorem dX7_law_4 : decode cX7_law 4 = .ok (.ifCond .ne 9, 3) := by decide +kernel
theorem dX7_law_7 : decode cX7_law 7 = .ok (.aload_n 0, 1) := by decide +kernel
theorem dX7_law_8 : decode cX7_law 8 = .ok (.iconst 1, 1) := by decide +kernel
theorem dX7_law_9 : decode cX7_law 9 = .ok (.invokevirtual 74, 3) := by decide +kernel
theorem dX7_law_12 : decode cX7_law 12 = .ok (.ireturn, 1) := by decide +kernel
theorem dX7_law_13 : decode cX7_law 13 = .ok (.iload_n 1, 1) := by decide +kernel
theorem dX7_law_14 : decode cX7_law 14 = .ok (.ifCond .ne 20, 3) := by decide +kernel
theorem dX7_law_17 : decode cX7_law 17 = .ok (.aload_n 0, 1) := by decide +kernel
theorem dX7_law_18 : decode cX7_law 18 = .ok (.getfield 10, 3) := by decide +kernel
theorem dX7_law_21 : decode cX7_law 21 = .ok (.getfield 78, 3) := by decide +kernel
theorem dX7_law_24 : decode cX7_law 24 = .ok (.iload_n 2, 1) := by decide +kernel
theorem dX7_law_25 : decode cX7_law 25 = .ok (.iload_n 3, 1) := by decide +kernel
theorem dX7_law_26 : decode cX7_law 26 = .ok (.iload 4, 2) := by decide +kernel
theorem dX7_law_28 : decode cX7_law 28 = .ok (.invokevirtual 186, 3) := by decide +kernel
theorem dX7_law_31 : decode cX7_law 31 = .ok (.goto 17, 3) := by decide +kernel
theorem dX7_law_34 : decode cX7_law 34 = .ok (.aload_n 0, 1) := by decide +kernel
theorem dX7_law_35 : decode cX7_law 35 = .ok (.getfield 10, 3) := by decide +kernel
theorem dX7_law_38 : decode cX7_law 38 = .ok (.getfield 78, 3) := by decide +kernel
theorem dX7_law_41 : decode cX7_law 41 = .ok (.iload_n 2, 1) := by decide +kernel
theorem dX7_law_42 : decode cX7_law 42 = .ok (.iload_n 3, 1) := by decide +kernel
theorem dX7_law_43 : decode cX7_law 43 = .ok (.iload 4, 2) := by decide +kernel
theorem dX7_law_45 : decode cX7_law 45 = .ok (.invokevirtual 190, 3) := by decide +kernel
theorem dX7_law_48 : decode cX7_law 48 = .ok (.ireturn, 1) := by decide +kernel
theorem dX7_steps_0 : decode cX7_steps 0 = .ok (.iload_n 1, 1) := by decide +kernel
theorem dX7_steps_1 : decode cX7_steps 1 = .ok (.iconst 1, 1) := by decide +kernel
theorem dX7_steps_2 : decode cX7_steps 2 = .ok (.bipush 60, 2) := by decide +kernel
theorem dX7_steps_4 : decode cX7_steps 4 = .ok (.invokestatic 126, 3) := by decide +kernel
theorem dX7_steps_7 : decode cX7_steps 7 = .ok (.ifCond .ne 9, 3) := by decide +kernel
theorem dX7_steps_10 : decode cX7_steps 10 = .ok (.aload_n 0, 1) := by decide +kernel
theorem dX7_steps_11 : decode cX7_steps 11 = .ok (.iconst 1, 1) := by decide +kernel
theorem dX7_steps_12 : decode cX7_steps 12 = .ok (.invokevirtual 74, 3) := by decide +kernel
theorem dX7_steps_15 : decode cX7_steps 15 = .ok (.ireturn, 1) := by decide +kernel
theorem dX7_steps_16 : decode cX7_steps 16 = .ok (.aload_n 0, 1) := by decide +kernel
theorem dX7_steps_17 : decode cX7_steps 17 = .ok (.getfield 10, 3) := by decide +kernel
theorem dX7_steps_20 : decode cX7_steps 20 = .ok (.getfield 78, 3) := by decide +kernel
theorem dX7_steps_23 : decode cX7_steps 23 = .ok (.getfield 193, 3) := by decide +kernel
theorem dX7_steps_26 : decode cX7_steps 26 = .ok (.iload_n 1, 1) := by decide +kernel
theorem dX7_steps_27 : decode cX7_steps 27 = .ok (.iadd, 1) := by decide +kernel
theorem dX7_steps_28 : decode cX7_steps 28 = .ok (.sipush 9999, 3) := by decide +kernel
theorem dX7_steps_31 : decode cX7_steps 31 = .ok (.if_icmp .le 9, 3) := by decide +kernel
theorem dX7_steps_34 : decode cX7_steps 34 = .ok (.aload_n 0, 1) := by decide +kernel
theorem dX7_steps_35 : decode cX7_steps 35 = .ok (.iconst 3, 1) := by decide +kernel
theorem dX7_steps_36 : decode cX7_steps 36 = .ok (.invokevirtual 74, 3) := by decide +kernel
theorem dX7_steps_39 : decode cX7_steps 39 = .ok (.ireturn, 1) := by decide +kernel
theorem dX7_steps_40 : decode cX7_steps 40 = .ok (.aload_n 0, 1) := by decide +kernel
theorem dX7_steps_41 : decode cX7_steps 41 = .ok (.getfield 10, 3) := by decide +kernel
theorem dX7_steps_44 : decode cX7_steps 44 = .ok (.getfield 78, 3) := by decide +kernel
theorem dX7_steps_47 : decode cX7_steps 47 = .ok (.iload_n 1, 1) := by decide +kernel
theorem dX7_steps_48 : decode cX7_steps 48 = .ok (.invokevirtual 196, 3) := by decide +kernel
theorem dX7_steps_51 : decode cX7_steps 51 = .ok (.aload_n 0, 1) := by decide +kernel
theorem dX7_steps_52 : decode cX7_steps 52 = .ok (.getfield 10, 3) := by decide +kernel
theorem dX7_steps_55 : decode cX7_steps 55 = .ok (.getfield 78, 3) := by decide +kernel
theorem dX7_steps_58 : decode cX7_steps 58 = .ok (.invokevirtual 199, 3) := by decide +kernel
theorem dX7_steps_61 : decode cX7_steps 61 = .ok (.ireturn, 1) := by decide +kernel
theorem dX7_loose_0 : decode cX7_loose 0 = .ok (.iload_n 1, 1) := by decide +kernel
theorem dX7_loose_1 : decode cX7_loose 1 = .ok (.iconst 1, 1) := by decide +kernel
theorem dX7_loose_2 : decode cX7_loose 2 = .ok (.bipush 40, 2) := by decide +kernel
theorem dX7_loose_4 : decode cX7_loose 4 = .ok (.invokestatic 126, 3) := by decide +kernel
theorem dX7_loose_7 : decode cX7_loose 7 = .ok (.ifCond .ne 9, 3) := by decide +kernel
theorem dX7_loose_10 : decode cX7_loose 10 = .ok (.aload_n 0, 1) := by decide +kernel
theorem dX7_loose_11 : decode cX7_loose 11 = .ok (.iconst 1, 1) := by decide +kernel
theorem dX7_loose_12 : decode cX7_loose 12 = .ok (.invokevirtual 74, 3) := by decide +kernel
theorem dX7_loose_15 : decode cX7_loose 15 = .ok (.ireturn, 1) := by decide +kernel
theorem dX7_loose_16 : decode cX7_loose 16 = .ok (.aload_n 0, 1) := by decide +kernel
theorem dX7_loose_17 : decode cX7_loose 17 = .ok (.getfield 10, 3) := by decide +kernel
theorem dX7_loose_20 : decode cX7_loose 20 = .ok (.getfield 78, 3) := by decide +kernel
theorem dX7_loose_23 : decode cX7_loose 23 = .ok (.getfield 193, 3) := by decide +kernel
theorem dX7_loose_26 : decode cX7_loose 26 = .ok (.iload_n 1, 1) := by decide +kernel
theorem dX7_loose_27 : decode cX7_loose 27 = .ok (.iadd, 1) := by decide +kernel
theorem dX7_loose_28 : decode cX7_loose 28 = .ok (.sipush 9999, 3) := by decide +kernel
theorem dX7_loose_31 : decode cX7_loose 31 = .ok (.if_icmp .le 9, 3) := by decide +kernel
theorem dX7_loose_34 : decode cX7_loose 34 = .ok (.aload_n 0, 1) := by decide +kernel
theorem dX7_loose_35 : decode cX7_loose 35 = .ok (.iconst 3, 1) := by decide +kernel
theorem dX7_loose_36 : decode cX7_loose 36 = .ok (.invokevirtual 74, 3) := by decide +kernel
theorem dX7_loose_39 : decode cX7_loose 39 = .ok (.ireturn, 1) := by decide +kernel
theorem dX7_loose_40 : decode cX7_loose 40 = .ok (.iconst 0, 1) := by decide +kernel
theorem dX7_loose_41 : decode cX7_loose 41 = .ok (.istore_n 2, 1) := by decide +kernel
theorem dX7_loose_42 : decode cX7_loose 42 = .ok (.iload_n 2, 1) := by decide +kernel
theorem dX7_loose_43 : decode cX7_loose 43 = .ok (.iload_n 1, 1) := by decide +kernel
theorem dX7_loose_44 : decode cX7_loose 44 = .ok (.if_icmp .ge 27, 3) := by decide +kernel
theorem dX7_loose_47 : decode cX7_loose 47 = .ok (.aload_n 0, 1) := by decide +kernel
theorem dX7_loose_48 : decode cX7_loose 48 = .ok (.getfield 10, 3) := by decide +kernel
theorem dX7_loose_51 : decode cX7_loose 51 = .ok (.invokevirtual 203, 3) := by decide +kernel
theorem dX7_loose_54 : decode cX7_loose 54 = .ok (.aload_n 0, 1) := by decide +kernel
theorem dX7_loose_55 : decode cX7_loose 55 = .ok (.getfield 10, 3) := by decide +kernel
theorem dX7_loose_58 : decode cX7_loose 58 = .ok (.getfield 78, 3) := by decide +kernel
theorem dX7_loose_61 : decode cX7_loose 61 = .ok (.iconst 1, 1) := by decide +kernel
theorem dX7_loose_62 : decode cX7_loose 62 = .ok (.invokevirtual 196, 3) := by decide +kernel
theorem dX7_loose_65 : decode cX7_loose 65 = .ok (.iinc 2 1, 3) := by decide +kernel
theorem dX7_loose_68 : decode cX7_loose 68 = .ok (.goto (-26), 3) := by decide +kernel
theorem dX7_loose_71 : decode cX7_loose 71 = .ok (.aload_n 0, 1) := by decide +kernel
theorem dX7_loose_72 : decode cX7_loose 72 = .ok (.getfield 10, 3) := by decide +kernel
theorem dX7_loose_75 : decode cX7_loose 75 = .ok (.getfield 78, 3) := by decide +kernel
theorem dX7_loose_78 : decode cX7_loose 78 = .ok (.invokevirtual 199, 3) := by decide +kernel
theorem dX7_loose_81 : decode cX7_loose 81 = .ok (.ireturn, 1) := by decide +kernel
theorem dX7_then_0 : decode cX7_then 0 = .ok (.iload_n 1, 1) := by decide +kernel
theorem dX7_then_1 : decode cX7_then 1 = .ok (.iconst 0, 1) := by decide +kernel
theorem dX7_then_2 : decode cX7_then 2 = .ok (.bipush 60, 2) := by decide +kernel
theorem dX7_then_4 : decode cX7_then 4 = .ok (.invokestatic 126, 3) := by decide +kernel
theorem dX7_then_7 : decode cX7_then 7 = .ok (.ifCond .eq 20, 3) := by decide +kernel
theorem dX7_then_10 : decode cX7_then 10 = .ok (.aload_n 0, 1) := by decide +kernel
theorem dX7_then_11 : decode cX7_then 11 = .ok (.iload_n 2, 1) := by decide +kernel
theorem dX7_then_12 : decode cX7_then 12 = .ok (.invokevirtual 88, 3) := by decide +kernel
theorem dX7_then_15 : decode cX7_then 15 = .ok (.ifCond .eq 12, 3) := by decide +kernel
theorem dX7_then_18 : decode cX7_then 18 = .ok (.iload_n 3, 1) := by decide +kernel
theorem dX7_then_19 : decode cX7_then 19 = .ok (.iconst 0, 1) := by decide +kernel
theorem dX7_then_20 : decode cX7_then 20 = .ok (.iconst 2, 1) := by decide +kernel
theorem dX7_then_21 : decode cX7_then 21 = .ok (.invokestatic 126, 3) := by decide +kernel
theorem dX7_then_24 : decode cX7_then 24 = .ok (.ifCond .ne 9, 3) := by decide +kernel
theorem dX7_then_27 : decode cX7_then 27 = .ok (.aload_n 0, 1) := by decide +kernel
theorem dX7_then_28 : decode cX7_then 28 = .ok (.iconst 1, 1) := by decide +kernel
theorem dX7_then_29 : decode cX7_then 29 = .ok (.invokevirtual 74, 3) := by decide +kernel
theorem dX7_then_32 : decode cX7_then 32 = .ok (.ireturn, 1) := by decide +kernel
theorem dX7_then_33 : decode cX7_then 33 = .ok (.aload_n 0, 1) := by decide +kernel
theorem dX7_then_34 : decode cX7_then 34 = .ok (.invokevirtual 206, 3) := by decide +kernel
theorem dX7_then_37 : decode cX7_then 37 = .ok (.aload_n 0, 1) := by decide +kernel
theorem dX7_then_38 : decode cX7_then 38 = .ok (.getfield 31, 3) := by decide +kernel
theorem dX7_then_41 : decode cX7_then 41 = .ok (.iload_n 1, 1) := by decide +kernel
theorem dX7_then_42 : decode cX7_then 42 = .ok (.invokevirtual 196, 3) := by decide +kernel
theorem dX7_then_45 : decode cX7_then 45 = .ok (.iload_n 3, 1) := by decide +kernel
theorem dX7_then_46 : decode cX7_then 46 = .ok (.lookupswitch 46 #[(0, 26), (1, 36)], 26) := by decide +kernel
theorem dX7_then_72 : decode cX7_then 72 = .ok (.aload_n 0, 1) := by decide +kernel
theorem dX7_then_73 : decode cX7_then 73 = .ok (.getfield 31, 3) := by decide +kernel
theorem dX7_then_76 : decode cX7_then 76 = .ok (.getfield 100, 3) := by decide +kernel
theorem dX7_then_79 : decode cX7_then 79 = .ok (.iload_n 2, 1) := by decide +kernel
theorem dX7_then_80 : decode cX7_then 80 = .ok (.iaload, 1) := by decide +kernel
theorem dX7_then_81 : decode cX7_then 81 = .ok (.ireturn, 1) := by decide +kernel
theorem dX7_then_82 : decode cX7_then 82 = .ok (.aload_n 0, 1) := by decide +kernel
theorem dX7_then_83 : decode cX7_then 83 = .ok (.getfield 31, 3) := by decide +kernel
theorem dX7_then_86 : decode cX7_then 86 = .ok (.getfield 97, 3) := by decide +kernel
theorem dX7_then_89 : decode cX7_then 89 = .ok (.iload_n 2, 1) := by decide +kernel
theorem dX7_then_90 : decode cX7_then 90 = .ok (.iaload, 1) := by decide +kernel
theorem dX7_then_91 : decode cX7_then 91 = .ok (.ireturn, 1) := by decide +kernel
theorem dX7_then_92 : decode cX7_then 92 = .ok (.aload_n 0, 1) := by decide +kernel
theorem dX7_then_93 : decode cX7_then 93 = .ok (.getfield 31, 3) := by decide +kernel
theorem dX7_then_96 : decode cX7_then 96 = .ok (.getfield 106, 3) := by decide +kernel
theorem dX7_then_99 : decode cX7_then 99 = .ok (.iload_n 2, 1) := by decide +kernel
theorem dX7_then_100 : decode cX7_then 100 = .ok (.iaload, 1) := by decide +kernel
theorem dX7_then_101 : decode cX7_then 101 = .ok (.ireturn, 1) := by decide +kernel
theorem dX7_last_0 : decode cX7_last 0 = .ok (.iload_n 1, 1) := by decide +kernel
theorem dX7_last_1 : decode cX7_last 1 = .ok (.iconst 1, 1) := by decide +kernel
theorem dX7_last_2 : decode cX7_last 2 = .ok (.bipush 60, 2) := by decide +kernel
theorem dX7_last_4 : decode cX7_last 4 = .ok (.invokestatic 126, 3) := by decide +kernel
theorem dX7_last_7 : decode cX7_last 7 = .ok (.ifCond .eq 10, 3) := by decide +kernel
theorem dX7_last_10 : decode cX7_last 10 = .ok (.iload_n 2, 1) := by decide +kernel
theorem dX7_last_11 : decode cX7_last 11 = .ok (.invokestatic 137, 3) := by decide +kernel
theorem dX7_last_14 : decode cX7_last 14 = .ok (.ifCond .ne 9, 3) := by decide +kernel
theorem dX7_last_17 : decode cX7_last 17 = .ok (.aload_n 0, 1) := by decide +kernel
theorem dX7_last_18 : decode cX7_last 18 = .ok (.iconst 1, 1) := by decide +kernel
theorem dX7_last_19 : decode cX7_last 19 = .ok (.invokevirtual 74, 3) := by decide +kernel
theorem dX7_last_22 : decode cX7_last 22 = .ok (.ireturn, 1) := by decide +kernel
theorem dX7_last_23 : decode cX7_last 23 = .ok (.aload_n 0, 1) := by decide +kernel
theorem dX7_last_24 : decode cX7_last 24 = .ok (.getfield 10, 3) := by decide +kernel
theorem dX7_last_27 : decode cX7_last 27 = .ok (.getfield 78, 3) := by decide +kernel
theorem dX7_last_30 : decode cX7_last 30 = .ok (.getfield 81, 3) := by decide +kernel
theorem dX7_last_33 : decode cX7_last 33 = .ok (.ifCond .ne 9, 3) := by decide +kernel
theorem dX7_last_36 : decode cX7_last 36 = .ok (.aload_n 0, 1) := by decide +kernel
theorem dX7_last_37 : decode cX7_last 37 = .ok (.iconst 2, 1) := by decide +kernel
theorem dX7_last_38 : decode cX7_last 38 = .ok (.invokevirtual 74, 3) := by decide +kernel
theorem dX7_last_41 : decode cX7_last 41 = .ok (.ireturn, 1) := by decide +kernel
theorem dX7_last_42 : decode cX7_last 42 = .ok (.aload_n 0, 1) := by decide +kernel
theorem dX7_last_43 : decode cX7_last 43 = .ok (.iload_n 1, 1) := by decide +kernel
theorem dX7_last_44 : decode cX7_last 44 = .ok (.invokevirtual 209, 3) := by decide +kernel
theorem dX7_last_47 : decode cX7_last 47 = .ok (.iconst 0, 1) := by decide +kernel
theorem dX7_last_48 : decode cX7_last 48 = .ok (.istore_n 3, 1) := by decide +kernel
theorem dX7_last_49 : decode cX7_last 49 = .ok (.iconst 1, 1) := by decide +kernel
theorem dX7_last_50 : decode cX7_last 50 = .ok (.istore 4, 2) := by decide +kernel
theorem dX7_last_52 : decode cX7_last 52 = .ok (.iload 4, 2) := by decide +kernel
theorem dX7_last_54 : decode cX7_last 54 = .ok (.aload_n 0, 1) := by decide +kernel
theorem dX7_last_55 : decode cX7_last 55 = .ok (.getfield 10, 3) := by decide +kernel
theorem dX7_last_58 : decode cX7_last 58 = .ok (.getfield 78, 3) := by decide +kernel
theorem dX7_last_61 : decode cX7_last 61 = .ok (.getfield 81, 3) := by decide +kernel
theorem dX7_last_64 : decode cX7_last 64 = .ok (.if_icmp .ge 28, 3) := by decide +kernel
theorem dX7_last_67 : decode cX7_last 67 = .ok (.aload_n 0, 1) := by decide +kernel
theorem dX7_last_68 : decode cX7_last 68 = .ok (.getfield 60, 3) := by decide +kernel
theorem dX7_last_71 : decode cX7_last 71 = .ok (.iload 4, 2) := by decide +kernel
theorem dX7_last_73 : decode cX7_last 73 = .ok (.iaload, 1) := by decide +kernel
theorem dX7_last_74 : decode cX7_last 74 = .ok (.aload_n 0, 1) := by decide +kernel
theorem dX7_last_75 : decode cX7_last 75 = .ok (.getfield 60, 3) := by decide +kernel
theorem dX7_last_78 : decode cX7_last 78 = .ok (.iload_n 3, 1) := by decide +kernel
theorem dX7_last_79 : decode cX7_last 79 = .ok (.iaload, 1) := by decide +kernel
theorem dX7_last_80 : decode cX7_last 80 = .ok (.if_icmp .le 6, 3) := by decide +kernel
theorem dX7_last_83 : decode cX7_last 83 = .ok (.iload 4, 2) := by decide +kernel
theorem dX7_last_85 : decode cX7_last 85 = .ok (.istore_n 3, 1) := by decide +kernel
theorem dX7_last_86 : decode cX7_last 86 = .ok (.iinc 4 1, 3) := by decide +kernel
theorem dX7_last_89 : decode cX7_last 89 = .ok (.goto (-37), 3) := by decide +kernel
theorem dX7_last_92 : decode cX7_last 92 = .ok (.iload_n 2, 1) := by decide +kernel
theorem dX7_last_93 : decode cX7_last 93 = .ok (.ifCond .ne 7, 3) := by decide +kernel
theorem dX7_last_96 : decode cX7_last 96 = .ok (.iload_n 3, 1) := by decide +kernel
theorem dX7_last_97 : decode cX7_last 97 = .ok (.goto 9, 3) := by decide +kernel
theorem dX7_last_100 : decode cX7_last 100 = .ok (.aload_n 0, 1) := by decide +kernel
theorem dX7_last_101 : decode cX7_last 101 = .ok (.getfield 60, 3) := by decide +kernel
theorem dX7_last_104 : decode cX7_last 104 = .ok (.iload_n 3, 1) := by decide +kernel
theorem dX7_last_105 : decode cX7_last 105 = .ok (.iaload, 1) := by decide +kernel
theorem dX7_last_106 : decode cX7_last 106 = .ok (.ireturn, 1) := by decide +kernel
theorem dX7_reaches_0 : decode cX7_reaches 0 = .ok (.aload_n 0, 1) := by decide +kernel
theorem dX7_reaches_1 : decode cX7_reaches 1 = .ok (.iload_n 1, 1) := by decide +kernel
theorem dX7_reaches_2 : decode cX7_reaches 2 = .ok (.invokevirtual 88, 3) := by decide +kernel
theorem dX7_reaches_5 : decode cX7_reaches 5 = .ok (.ifCond .ne 9, 3) := by decide +kernel
theorem dX7_reaches_8 : decode cX7_reaches 8 = .ok (.aload_n 0, 1) := by decide +kernel
theorem dX7_reaches_9 : decode cX7_reaches 9 = .ok (.iconst 1, 1) := by decide +kernel
theorem dX7_reaches_10 : decode cX7_reaches 10 = .ok (.invokevirtual 74, 3) := by decide +kernel
theorem dX7_reaches_13 : decode cX7_reaches 13 = .ok (.ireturn, 1) := by decide +kernel
theorem dX7_reaches_14 : decode cX7_reaches 14 = .ok (.aload_n 0, 1) := by decide +kernel
theorem dX7_reaches_15 : decode cX7_reaches 15 = .ok (.invokevirtual 206, 3) := by decide +kernel
theorem dX7_reaches_18 : decode cX7_reaches 18 = .ok (.iconst 0, 1) := by decide +kernel
theorem dX7_reaches_19 : decode cX7_reaches 19 = .ok (.istore_n 2, 1) := by decide +kernel
theorem dX7_reaches_20 : decode cX7_reaches 20 = .ok (.iload_n 2, 1) := by decide +kernel
theorem dX7_reaches_21 : decode cX7_reaches 21 = .ok (.bipush 60, 2) := by decide +kernel
theorem dX7_reaches_23 : decode cX7_reaches 23 = .ok (.if_icmp .gt 31, 3) := by decide +kernel
theorem dX7_reaches_26 : decode cX7_reaches 26 = .ok (.aload_n 0, 1) := by decide +kernel
theorem dX7_reaches_27 : decode cX7_reaches 27 = .ok (.getfield 31, 3) := by decide +kernel
theorem dX7_reaches_30 : decode cX7_reaches 30 = .ok (.getfield 100, 3) := by decide +kernel
theorem dX7_reaches_33 : decode cX7_reaches 33 = .ok (.iload_n 1, 1) := by decide +kernel
theorem dX7_reaches_34 : decode cX7_reaches 34 = .ok (.iaload, 1) := by decide +kernel
theorem dX7_reaches_35 : decode cX7_reaches 35 = .ok (.ifCond .le 5, 3) := by decide +kernel
theorem dX7_reaches_38 : decode cX7_reaches 38 = .ok (.iload_n 2, 1) := by decide +kernel
theorem dX7_reaches_39 : decode cX7_reaches 39 = .ok (.ireturn, 1) := by decide +kernel
theorem dX7_reaches_40 : decode cX7_reaches 40 = .ok (.aload_n 0, 1) := by decide +kernel
theorem dX7_reaches_41 : decode cX7_reaches 41 = .ok (.getfield 31, 3) := by decide +kernel
theorem dX7_reaches_44 : decode cX7_reaches 44 = .ok (.iconst 1, 1) := by decide +kernel
theorem dX7_reaches_45 : decode cX7_reaches 45 = .ok (.invokevirtual 196, 3) := by decide +kernel
theorem dX7_reaches_48 : decode cX7_reaches 48 = .ok (.iinc 2 1, 3) := by decide +kernel
theorem dX7_reaches_51 : decode cX7_reaches 51 = .ok (.goto (-31), 3) := by decide +kernel
theorem dX7_reaches_54 : decode cX7_reaches 54 = .ok (.aload_n 0, 1) := by decide +kernel
theorem dX7_reaches_55 : decode cX7_reaches 55 = .ok (.iconst 2, 1) := by decide +kernel
theorem dX7_reaches_56 : decode cX7_reaches 56 = .ok (.invokevirtual 74, 3) := by decide +kernel
theorem dX7_reaches_59 : decode cX7_reaches 59 = .ok (.ireturn, 1) := by decide +kernel
theorem dX7_gloves_0 : decode cX7_gloves 0 = .ok (.iload_n 1, 1) := by decide +kernel
theorem dX7_gloves_1 : decode cX7_gloves 1 = .ok (.invokestatic 71, 3) := by decide +kernel
theorem dX7_gloves_4 : decode cX7_gloves 4 = .ok (.ifCond .eq 13, 3) := by decide +kernel
theorem dX7_gloves_7 : decode cX7_gloves 7 = .ok (.iload_n 2, 1) := by decide +kernel
theorem dX7_gloves_8 : decode cX7_gloves 8 = .ok (.iconst 0, 1) := by decide +kernel
theorem dX7_gloves_9 : decode cX7_gloves 9 = .ok (.bipush 20, 2) := by decide +kernel
theorem dX7_gloves_11 : decode cX7_gloves 11 = .ok (.invokestatic 126, 3) := by decide +kernel
theorem dX7_gloves_14 : decode cX7_gloves 14 = .ok (.ifCond .ne 9, 3) := by decide +kernel
theorem dX7_gloves_17 : decode cX7_gloves 17 = .ok (.aload_n 0, 1) := by decide +kernel
theorem dX7_gloves_18 : decode cX7_gloves 18 = .ok (.iconst 1, 1) := by decide +kernel
theorem dX7_gloves_19 : decode cX7_gloves 19 = .ok (.invokevirtual 74, 3) := by decide +kernel
theorem dX7_gloves_22 : decode cX7_gloves 22 = .ok (.ireturn, 1) := by decide +kernel
theorem dX7_gloves_23 : decode cX7_gloves 23 = .ok (.aload_n 0, 1) := by decide +kernel
theorem dX7_gloves_24 : decode cX7_gloves 24 = .ok (.getfield 10, 3) := by decide +kernel
theorem dX7_gloves_27 : decode cX7_gloves 27 = .ok (.getfield 78, 3) := by decide +kernel
theorem dX7_gloves_30 : decode cX7_gloves 30 = .ok (.getfield 81, 3) := by decide +kernel
theorem dX7_gloves_33 : decode cX7_gloves 33 = .ok (.istore_n 3, 1) := by decide +kernel
theorem dX7_gloves_34 : decode cX7_gloves 34 = .ok (.iconst 1, 1) := by decide +kernel
theorem dX7_gloves_35 : decode cX7_gloves 35 = .ok (.iload_n 3, 1) := by decide +kernel
theorem dX7_gloves_36 : decode cX7_gloves 36 = .ok (.ishl, 1) := by decide +kernel
theorem dX7_gloves_37 : decode cX7_gloves 37 = .ok (.istore 4, 2) := by decide +kernel
theorem dX7_gloves_39 : decode cX7_gloves 39 = .ok (.iconst 0, 1) := by decide +kernel
theorem dX7_gloves_40 : decode cX7_gloves 40 = .ok (.istore 5, 2) := by decide +kernel
theorem dX7_gloves_42 : decode cX7_gloves 42 = .ok (.iload 5, 2) := by decide +kernel
theorem dX7_gloves_44 : decode cX7_gloves 44 = .ok (.iload_n 3, 1) := by decide +kernel
theorem dX7_gloves_45 : decode cX7_gloves 45 = .ok (.if_icmp .gt 49, 3) := by decide +kernel
theorem dX7_gloves_48 : decode cX7_gloves 48 = .ok (.iconst 0, 1) := by decide +kernel
theorem dX7_gloves_49 : decode cX7_gloves 49 = .ok (.istore 6, 2) := by decide +kernel
theorem dX7_gloves_51 : decode cX7_gloves 51 = .ok (.iload 6, 2) := by decide +kernel
theorem dX7_gloves_53 : decode cX7_gloves 53 = .ok (.iload 4, 2) := by decide +kernel
theorem dX7_gloves_55 : decode cX7_gloves 55 = .ok (.if_icmp .ge 33, 3) := by decide +kernel
theorem dX7_gloves_58 : decode cX7_gloves 58 = .ok (.iload 6, 2) := by decide +kernel
theorem dX7_gloves_60 : decode cX7_gloves 60 = .ok (.invokestatic 212, 3) := by decide +kernel
theorem dX7_gloves_63 : decode cX7_gloves 63 = .ok (.iload 5, 2) := by decide +kernel
theorem dX7_gloves_65 : decode cX7_gloves 65 = .ok (.if_icmp .ne 17, 3) := by decide +kernel
theorem dX7_gloves_68 : decode cX7_gloves 68 = .ok (.aload_n 0, 1) := by decide +kernel
theorem dX7_gloves_69 : decode cX7_gloves 69 = .ok (.iload_n 1, 1) := by decide +kernel
theorem dX7_gloves_70 : decode cX7_gloves 70 = .ok (.iload_n 2, 1) := by decide +kernel
theorem dX7_gloves_71 : decode cX7_gloves 71 = .ok (.iload 6, 2) := by decide +kernel
theorem dX7_gloves_73 : decode cX7_gloves 73 = .ok (.invokevirtual 217, 3) := by decide +kernel
theorem dX7_gloves_76 : decode cX7_gloves 76 = .ok (.ifCond .eq 6, 3) := by decide +kernel
theorem dX7_gloves_79 : decode cX7_gloves 79 = .ok (.iload 6, 2) := by decide +kernel
theorem dX7_gloves_81 : decode cX7_gloves 81 = .ok (.ireturn, 1) := by decide +kernel
theorem dX7_gloves_82 : decode cX7_gloves 82 = .ok (.iinc 6 1, 3) := by decide +kernel
theorem dX7_gloves_85 : decode cX7_gloves 85 = .ok (.goto (-34), 3) := by decide +kernel
theorem dX7_gloves_88 : decode cX7_gloves 88 = .ok (.iinc 5 1, 3) := by decide +kernel
theorem dX7_gloves_91 : decode cX7_gloves 91 = .ok (.goto (-49), 3) := by decide +kernel
theorem dX7_gloves_94 : decode cX7_gloves 94 = .ok (.aload_n 0, 1) := by decide +kernel
theorem dX7_gloves_95 : decode cX7_gloves 95 = .ok (.iconst 2, 1) := by decide +kernel
theorem dX7_gloves_96 : decode cX7_gloves 96 = .ok (.invokevirtual 74, 3) := by decide +kernel
theorem dX7_gloves_99 : decode cX7_gloves 99 = .ok (.ireturn, 1) := by decide +kernel
theorem dX7_from_0 : decode cX7_from 0 = .ok (.aload_n 0, 1) := by decide +kernel
theorem dX7_from_1 : decode cX7_from 1 = .ok (.iload_n 1, 1) := by decide +kernel
theorem dX7_from_2 : decode cX7_from 2 = .ok (.invokevirtual 220, 3) := by decide +kernel
theorem dX7_from_5 : decode cX7_from 5 = .ok (.astore_n 3, 1) := by decide +kernel
theorem dX7_from_6 : decode cX7_from 6 = .ok (.aload_n 3, 1) := by decide +kernel
theorem dX7_from_7 : decode cX7_from 7 = .ok (.ifnull 10, 3) := by decide +kernel
theorem dX7_from_10 : decode cX7_from 10 = .ok (.iload_n 2, 1) := by decide +kernel
theorem dX7_from_11 : decode cX7_from 11 = .ok (.invokestatic 137, 3) := by decide +kernel
theorem dX7_from_14 : decode cX7_from 14 = .ok (.ifCond .ne 9, 3) := by decide +kernel
theorem dX7_from_17 : decode cX7_from 17 = .ok (.aload_n 0, 1) := by decide +kernel
theorem dX7_from_18 : decode cX7_from 18 = .ok (.iconst 1, 1) := by decide +kernel
theorem dX7_from_19 : decode cX7_from 19 = .ok (.invokevirtual 74, 3) := by decide +kernel
theorem dX7_from_22 : decode cX7_from 22 = .ok (.ireturn, 1) := by decide +kernel
theorem dX7_from_23 : decode cX7_from 23 = .ok (.aload_n 0, 1) := by decide +kernel
theorem dX7_from_24 : decode cX7_from 24 = .ok (.getfield 10, 3) := by decide +kernel
theorem dX7_from_27 : decode cX7_from 27 = .ok (.getfield 78, 3) := by decide +kernel
theorem dX7_from_30 : decode cX7_from 30 = .ok (.getfield 81, 3) := by decide +kernel
theorem dX7_from_33 : decode cX7_from 33 = .ok (.istore 4, 2) := by decide +kernel
theorem dX7_from_35 : decode cX7_from 35 = .ok (.aload_n 3, 1) := by decide +kernel
theorem dX7_from_36 : decode cX7_from 36 = .ok (.invokevirtual 224, 3) := by decide +kernel
theorem dX7_from_39 : decode cX7_from 39 = .ok (.ifCond .ne 30, 3) := by decide +kernel
theorem dX7_from_42 : decode cX7_from 42 = .ok (.aload_n 3, 1) := by decide +kernel
theorem dX7_from_43 : decode cX7_from 43 = .ok (.getfield 228, 3) := by decide +kernel
theorem dX7_from_46 : decode cX7_from 46 = .ok (.iload 4, 2) := by decide +kernel
theorem dX7_from_48 : decode cX7_from 48 = .ok (.iconst 1, 1) := by decide +kernel
theorem dX7_from_49 : decode cX7_from 49 = .ok (.iadd, 1) := by decide +kernel
theorem dX7_from_50 : decode cX7_from 50 = .ok (.if_icmp .ne 19, 3) := by decide +kernel
theorem dX7_from_53 : decode cX7_from 53 = .ok (.aload_n 3, 1) := by decide +kernel
theorem dX7_from_54 : decode cX7_from 54 = .ok (.getfield 229, 3) := by decide +kernel
theorem dX7_from_57 : decode cX7_from 57 = .ok (.iload 4, 2) := by decide +kernel
theorem dX7_from_59 : decode cX7_from 59 = .ok (.iaload, 1) := by decide +kernel
theorem dX7_from_60 : decode cX7_from 60 = .ok (.iconst 0, 1) := by decide +kernel
theorem dX7_from_61 : decode cX7_from 61 = .ok (.bipush 20, 2) := by decide +kernel
theorem dX7_from_63 : decode cX7_from 63 = .ok (.invokestatic 126, 3) := by decide +kernel
theorem dX7_from_66 : decode cX7_from 66 = .ok (.ifCond .ne 9, 3) := by decide +kernel
theorem dX7_from_69 : decode cX7_from 69 = .ok (.aload_n 0, 1) := by decide +kernel
theorem dX7_from_70 : decode cX7_from 70 = .ok (.iconst 2, 1) := by decide +kernel
theorem dX7_from_71 : decode cX7_from 71 = .ok (.invokevirtual 74, 3) := by decide +kernel
theorem dX7_from_74 : decode cX7_from 74 = .ok (.ireturn, 1) := by decide +kernel
theorem dX7_from_75 : decode cX7_from 75 = .ok (.iconst 0, 1) := by decide +kernel
theorem dX7_from_76 : decode cX7_from 76 = .ok (.istore 5, 2) := by decide +kernel
theorem dX7_from_78 : decode cX7_from 78 = .ok (.iconst 0, 1) := by decide +kernel
theorem dX7_from_79 : decode cX7_from 79 = .ok (.istore 6, 2) := by decide +kernel
theorem dX7_from_81 : decode cX7_from 81 = .ok (.iload 6, 2) := by decide +kernel
theorem dX7_from_83 : decode cX7_from 83 = .ok (.iload 4, 2) := by decide +kernel
theorem dX7_from_85 : decode cX7_from 85 = .ok (.if_icmp .ge 35, 3) := by decide +kernel
theorem dX7_from_88 : decode cX7_from 88 = .ok (.aload_n 0, 1) := by decide +kernel
theorem dX7_from_89 : decode cX7_from 89 = .ok (.iload 6, 2) := by decide +kernel
theorem dX7_from_91 : decode cX7_from 91 = .ok (.aload_n 3, 1) := by decide +kernel
theorem dX7_from_92 : decode cX7_from 92 = .ok (.aload_n 3, 1) := by decide +kernel
theorem dX7_from_93 : decode cX7_from 93 = .ok (.getfield 229, 3) := by decide +kernel
theorem dX7_from_96 : decode cX7_from 96 = .ok (.iload 4, 2) := by decide +kernel
theorem dX7_from_98 : decode cX7_from 98 = .ok (.iaload, 1) := by decide +kernel
theorem dX7_from_99 : decode cX7_from 99 = .ok (.invokevirtual 232, 3) := by decide +kernel
theorem dX7_from_102 : decode cX7_from 102 = .ok (.ifCond .eq 12, 3) := by decide +kernel
theorem dX7_from_105 : decode cX7_from 105 = .ok (.iload 5, 2) := by decide +kernel
theorem dX7_from_107 : decode cX7_from 107 = .ok (.iconst 1, 1) := by decide +kernel
theorem dX7_from_108 : decode cX7_from 108 = .ok (.iload 6, 2) := by decide +kernel
theorem dX7_from_110 : decode cX7_from 110 = .ok (.ishl, 1) := by decide +kernel
theorem dX7_from_111 : decode cX7_from 111 = .ok (.ior, 1) := by decide +kernel
theorem dX7_from_112 : decode cX7_from 112 = .ok (.istore 5, 2) := by decide +kernel
theorem dX7_from_114 : decode cX7_from 114 = .ok (.iinc 6 1, 3) := by decide +kernel
theorem dX7_from_117 : decode cX7_from 117 = .ok (.goto (-36), 3) := by decide +kernel
theorem dX7_from_120 : decode cX7_from 120 = .ok (.iload_n 2, 1) := by decide +kernel
theorem dX7_from_121 : decode cX7_from 121 = .ok (.ifCond .ne 8, 3) := by decide +kernel
theorem dX7_from_124 : decode cX7_from 124 = .ok (.iload 5, 2) := by decide +kernel
theorem dX7_from_126 : decode cX7_from 126 = .ok (.goto 8, 3) := by decide +kernel
theorem dX7_from_129 : decode cX7_from 129 = .ok (.iload 5, 2) := by decide +kernel
theorem dX7_from_131 : decode cX7_from 131 = .ok (.invokestatic 212, 3) := by decide +kernel
theorem dX7_from_134 : decode cX7_from 134 = .ok (.ireturn, 1) := by decide +kernel
theorem dX7_stand_0 : decode cX7_stand 0 = .ok (.aload_n 0, 1) := by decide +kernel
theorem dX7_stand_1 : decode cX7_stand 1 = .ok (.iload_n 1, 1) := by decide +kernel
theorem dX7_stand_2 : decode cX7_stand 2 = .ok (.invokevirtual 88, 3) := by decide +kernel
theorem dX7_stand_5 : decode cX7_stand 5 = .ok (.ifCond .eq 20, 3) := by decide +kernel
theorem dX7_stand_8 : decode cX7_stand 8 = .ok (.iload_n 2, 1) := by decide +kernel
theorem dX7_stand_9 : decode cX7_stand 9 = .ok (.iconst 0, 1) := by decide +kernel
theorem dX7_stand_10 : decode cX7_stand 10 = .ok (.bipush 20, 2) := by decide +kernel
theorem dX7_stand_12 : decode cX7_stand 12 = .ok (.invokestatic 126, 3) := by decide +kernel
theorem dX7_stand_15 : decode cX7_stand 15 = .ok (.ifCond .eq 10, 3) := by decide +kernel
theorem dX7_stand_18 : decode cX7_stand 18 = .ok (.iload_n 3, 1) := by decide +kernel
theorem dX7_stand_19 : decode cX7_stand 19 = .ok (.invokestatic 137, 3) := by decide +kernel
theorem dX7_stand_22 : decode cX7_stand 22 = .ok (.ifCond .ne 9, 3) := by decide +kernel
theorem dX7_stand_25 : decode cX7_stand 25 = .ok (.aload_n 0, 1) := by decide +kernel
theorem dX7_stand_26 : decode cX7_stand 26 = .ok (.iconst 1, 1) := by decide +kernel
theorem dX7_stand_27 : decode cX7_stand 27 = .ok (.invokevirtual 74, 3) := by decide +kernel
theorem dX7_stand_30 : decode cX7_stand 30 = .ok (.ireturn, 1) := by decide +kernel
theorem dX7_stand_31 : decode cX7_stand 31 = .ok (.iconst 0, 1) := by decide +kernel
theorem dX7_stand_32 : decode cX7_stand 32 = .ok (.istore 4, 2) := by decide +kernel
theorem dX7_stand_34 : decode cX7_stand 34 = .ok (.iconst (-1), 1) := by decide +kernel
theorem dX7_stand_35 : decode cX7_stand 35 = .ok (.istore 5, 2) := by decide +kernel
theorem dX7_stand_37 : decode cX7_stand 37 = .ok (.iconst 0, 1) := by decide +kernel
theorem dX7_stand_38 : decode cX7_stand 38 = .ok (.istore 6, 2) := by decide +kernel
theorem dX7_stand_40 : decode cX7_stand 40 = .ok (.iload 6, 2) := by decide +kernel
theorem dX7_stand_42 : decode cX7_stand 42 = .ok (.bipush 8, 2) := by decide +kernel
theorem dX7_stand_44 : decode cX7_stand 44 = .ok (.if_icmp .ge 35, 3) := by decide +kernel
theorem dX7_stand_47 : decode cX7_stand 47 = .ok (.aload_n 0, 1) := by decide +kernel
theorem dX7_stand_48 : decode cX7_stand 48 = .ok (.iload_n 1, 1) := by decide +kernel
theorem dX7_stand_49 : decode cX7_stand 49 = .ok (.iload_n 2, 1) := by decide +kernel
theorem dX7_stand_50 : decode cX7_stand 50 = .ok (.iload_n 1, 1) := by decide +kernel
theorem dX7_stand_51 : decode cX7_stand 51 = .ok (.iload 6, 2) := by decide +kernel
theorem dX7_stand_53 : decode cX7_stand 53 = .ok (.invokevirtual 236, 3) := by decide +kernel
theorem dX7_stand_56 : decode cX7_stand 56 = .ok (.istore 7, 2) := by decide +kernel
theorem dX7_stand_58 : decode cX7_stand 58 = .ok (.iload 7, 2) := by decide +kernel
theorem dX7_stand_60 : decode cX7_stand 60 = .ok (.iload 5, 2) := by decide +kernel
theorem dX7_stand_62 : decode cX7_stand 62 = .ok (.if_icmp .le 11, 3) := by decide +kernel
theorem dX7_stand_65 : decode cX7_stand 65 = .ok (.iload 6, 2) := by decide +kernel
theorem dX7_stand_67 : decode cX7_stand 67 = .ok (.istore 4, 2) := by decide +kernel
theorem dX7_stand_69 : decode cX7_stand 69 = .ok (.iload 7, 2) := by decide +kernel
theorem dX7_stand_71 : decode cX7_stand 71 = .ok (.istore 5, 2) := by decide +kernel
theorem dX7_stand_73 : decode cX7_stand 73 = .ok (.iinc 6 1, 3) := by decide +kernel
theorem dX7_stand_76 : decode cX7_stand 76 = .ok (.goto (-36), 3) := by decide +kernel
theorem dX7_stand_79 : decode cX7_stand 79 = .ok (.iload_n 3, 1) := by decide +kernel
theorem dX7_stand_80 : decode cX7_stand 80 = .ok (.ifCond .ne 8, 3) := by decide +kernel
theorem dX7_stand_83 : decode cX7_stand 83 = .ok (.iload 4, 2) := by decide +kernel
theorem dX7_stand_85 : decode cX7_stand 85 = .ok (.goto 5, 3) := by decide +kernel
theorem dX7_stand_88 : decode cX7_stand 88 = .ok (.iload 5, 2) := by decide +kernel
theorem dX7_stand_90 : decode cX7_stand 90 = .ok (.ireturn, 1) := by decide +kernel
theorem dX7_crush_0 : decode cX7_crush 0 = .ok (.iload_n 1, 1) := by decide +kernel
theorem dX7_crush_1 : decode cX7_crush 1 = .ok (.iconst 0, 1) := by decide +kernel
theorem dX7_crush_2 : decode cX7_crush 2 = .ok (.bipush 60, 2) := by decide +kernel
theorem dX7_crush_4 : decode cX7_crush 4 = .ok (.invokestatic 126, 3) := by decide +kernel
theorem dX7_crush_7 : decode cX7_crush 7 = .ok (.ifCond .eq 10, 3) := by decide +kernel
theorem dX7_crush_10 : decode cX7_crush 10 = .ok (.iload_n 2, 1) := by decide +kernel
theorem dX7_crush_11 : decode cX7_crush 11 = .ok (.invokestatic 137, 3) := by decide +kernel
theorem dX7_crush_14 : decode cX7_crush 14 = .ok (.ifCond .ne 9, 3) := by decide +kernel
theorem dX7_crush_17 : decode cX7_crush 17 = .ok (.aload_n 0, 1) := by decide +kernel
theorem dX7_crush_18 : decode cX7_crush 18 = .ok (.iconst 1, 1) := by decide +kernel
theorem dX7_crush_19 : decode cX7_crush 19 = .ok (.invokevirtual 74, 3) := by decide +kernel
theorem dX7_crush_22 : decode cX7_crush 22 = .ok (.ireturn, 1) := by decide +kernel
theorem dX7_crush_23 : decode cX7_crush 23 = .ok (.aload_n 0, 1) := by decide +kernel
theorem dX7_crush_24 : decode cX7_crush 24 = .ok (.invokevirtual 206, 3) := by decide +kernel
theorem dX7_crush_27 : decode cX7_crush 27 = .ok (.aload_n 0, 1) := by decide +kernel
theorem dX7_crush_28 : decode cX7_crush 28 = .ok (.getfield 31, 3) := by decide +kernel
theorem dX7_crush_31 : decode cX7_crush 31 = .ok (.iload_n 1, 1) := by decide +kernel
theorem dX7_crush_32 : decode cX7_crush 32 = .ok (.invokevirtual 196, 3) := by decide +kernel
theorem dX7_crush_35 : decode cX7_crush 35 = .ok (.iconst 0, 1) := by decide +kernel
theorem dX7_crush_36 : decode cX7_crush 36 = .ok (.istore_n 3, 1) := by decide +kernel
theorem dX7_crush_37 : decode cX7_crush 37 = .ok (.iconst 1, 1) := by decide +kernel
theorem dX7_crush_38 : decode cX7_crush 38 = .ok (.istore 4, 2) := by decide +kernel
theorem dX7_crush_40 : decode cX7_crush 40 = .ok (.iload 4, 2) := by decide +kernel
theorem dX7_crush_42 : decode cX7_crush 42 = .ok (.bipush 8, 2) := by decide +kernel
theorem dX7_crush_44 : decode cX7_crush 44 = .ok (.if_icmp .ge 32, 3) := by decide +kernel
theorem dX7_crush_47 : decode cX7_crush 47 = .ok (.aload_n 0, 1) := by decide +kernel
theorem dX7_crush_48 : decode cX7_crush 48 = .ok (.getfield 31, 3) := by decide +kernel
theorem dX7_crush_51 : decode cX7_crush 51 = .ok (.iload 4, 2) := by decide +kernel
theorem dX7_crush_53 : decode cX7_crush 53 = .ok (.invokevirtual 240, 3) := by decide +kernel
theorem dX7_crush_56 : decode cX7_crush 56 = .ok (.aload_n 0, 1) := by decide +kernel
theorem dX7_crush_57 : decode cX7_crush 57 = .ok (.getfield 31, 3) := by decide +kernel
theorem dX7_crush_60 : decode cX7_crush 60 = .ok (.iload_n 3, 1) := by decide +kernel
theorem dX7_crush_61 : decode cX7_crush 61 = .ok (.invokevirtual 240, 3) := by decide +kernel
theorem dX7_crush_64 : decode cX7_crush 64 = .ok (.if_icmp .le 6, 3) := by decide +kernel
theorem dX7_crush_67 : decode cX7_crush 67 = .ok (.iload 4, 2) := by decide +kernel
theorem dX7_crush_69 : decode cX7_crush 69 = .ok (.istore_n 3, 1) := by decide +kernel
theorem dX7_crush_70 : decode cX7_crush 70 = .ok (.iinc 4 1, 3) := by decide +kernel
theorem dX7_crush_73 : decode cX7_crush 73 = .ok (.goto (-33), 3) := by decide +kernel
theorem dX7_crush_76 : decode cX7_crush 76 = .ok (.iload_n 2, 1) := by decide +kernel
theorem dX7_crush_77 : decode cX7_crush 77 = .ok (.ifCond .ne 7, 3) := by decide +kernel
theorem dX7_crush_80 : decode cX7_crush 80 = .ok (.iload_n 3, 1) := by decide +kernel
theorem dX7_crush_81 : decode cX7_crush 81 = .ok (.goto 11, 3) := by decide +kernel
theorem dX7_crush_84 : decode cX7_crush 84 = .ok (.aload_n 0, 1) := by decide +kernel
theorem dX7_crush_85 : decode cX7_crush 85 = .ok (.getfield 31, 3) := by decide +kernel
theorem dX7_crush_88 : decode cX7_crush 88 = .ok (.iload_n 3, 1) := by decide +kernel
theorem dX7_crush_89 : decode cX7_crush 89 = .ok (.invokevirtual 240, 3) := by decide +kernel
theorem dX7_crush_92 : decode cX7_crush 92 = .ok (.ireturn, 1) := by decide +kernel
theorem dX7_dies_0 : decode cX7_dies 0 = .ok (.aload_n 0, 1) := by decide +kernel
theorem dX7_dies_1 : decode cX7_dies 1 = .ok (.invokevirtual 206, 3) := by decide +kernel
theorem dX7_dies_4 : decode cX7_dies 4 = .ok (.iconst 0, 1) := by decide +kernel
theorem dX7_dies_5 : decode cX7_dies 5 = .ok (.istore_n 1, 1) := by decide +kernel
theorem dX7_dies_6 : decode cX7_dies 6 = .ok (.iload_n 1, 1) := by decide +kernel
theorem dX7_dies_7 : decode cX7_dies 7 = .ok (.bipush 60, 2) := by decide +kernel
theorem dX7_dies_9 : decode cX7_dies 9 = .ok (.if_icmp .gt 29, 3) := by decide +kernel
theorem dX7_dies_12 : decode cX7_dies 12 = .ok (.aload_n 0, 1) := by decide +kernel
theorem dX7_dies_13 : decode cX7_dies 13 = .ok (.getfield 31, 3) := by decide +kernel
theorem dX7_dies_16 : decode cX7_dies 16 = .ok (.invokevirtual 243, 3) := by decide +kernel
theorem dX7_dies_19 : decode cX7_dies 19 = .ok (.ifCond .ne 5, 3) := by decide +kernel
theorem dX7_dies_22 : decode cX7_dies 22 = .ok (.iload_n 1, 1) := by decide +kernel
theorem dX7_dies_23 : decode cX7_dies 23 = .ok (.ireturn, 1) := by decide +kernel
theorem dX7_dies_24 : decode cX7_dies 24 = .ok (.aload_n 0, 1) := by decide +kernel
theorem dX7_dies_25 : decode cX7_dies 25 = .ok (.getfield 31, 3) := by decide +kernel
theorem dX7_dies_28 : decode cX7_dies 28 = .ok (.iconst 1, 1) := by decide +kernel
theorem dX7_dies_29 : decode cX7_dies 29 = .ok (.invokevirtual 196, 3) := by decide +kernel
theorem dX7_dies_32 : decode cX7_dies 32 = .ok (.iinc 1 1, 3) := by decide +kernel
theorem dX7_dies_35 : decode cX7_dies 35 = .ok (.goto (-29), 3) := by decide +kernel
theorem dX7_dies_38 : decode cX7_dies 38 = .ok (.aload_n 0, 1) := by decide +kernel
theorem dX7_dies_39 : decode cX7_dies 39 = .ok (.iconst 2, 1) := by decide +kernel
theorem dX7_dies_40 : decode cX7_dies 40 = .ok (.invokevirtual 74, 3) := by decide +kernel
theorem dX7_dies_43 : decode cX7_dies 43 = .ok (.ireturn, 1) := by decide +kernel
theorem dX7_touch_0 : decode cX7_touch 0 = .ok (.aload_n 0, 1) := by decide +kernel
theorem dX7_touch_1 : decode cX7_touch 1 = .ok (.iload_n 1, 1) := by decide +kernel
theorem dX7_touch_2 : decode cX7_touch 2 = .ok (.invokevirtual 88, 3) := by decide +kernel
theorem dX7_touch_5 : decode cX7_touch 5 = .ok (.ifCond .eq 20, 3) := by decide +kernel
theorem dX7_touch_8 : decode cX7_touch 8 = .ok (.iload_n 2, 1) := by decide +kernel
theorem dX7_touch_9 : decode cX7_touch 9 = .ok (.iconst 0, 1) := by decide +kernel
theorem dX7_touch_10 : decode cX7_touch 10 = .ok (.bipush 20, 2) := by decide +kernel
theorem dX7_touch_12 : decode cX7_touch 12 = .ok (.invokestatic 126, 3) := by decide +kernel
theorem dX7_touch_15 : decode cX7_touch 15 = .ok (.ifCond .eq 10, 3) := by decide +kernel
theorem dX7_touch_18 : decode cX7_touch 18 = .ok (.iload_n 3, 1) := by decide +kernel
theorem dX7_touch_19 : decode cX7_touch 19 = .ok (.invokestatic 137, 3) := by decide +kernel
theorem dX7_touch_22 : decode cX7_touch 22 = .ok (.ifCond .ne 9, 3) := by decide +kernel
theorem dX7_touch_25 : decode cX7_touch 25 = .ok (.aload_n 0, 1) := by decide +kernel
theorem dX7_touch_26 : decode cX7_touch 26 = .ok (.iconst 1, 1) := by decide +kernel
theorem dX7_touch_27 : decode cX7_touch 27 = .ok (.invokevirtual 74, 3) := by decide +kernel
theorem dX7_touch_30 : decode cX7_touch 30 = .ok (.ireturn, 1) := by decide +kernel
theorem dX7_touch_31 : decode cX7_touch 31 = .ok (.aload_n 0, 1) := by decide +kernel
theorem dX7_touch_32 : decode cX7_touch 32 = .ok (.getfield 10, 3) := by decide +kernel
theorem dX7_touch_35 : decode cX7_touch 35 = .ok (.getfield 78, 3) := by decide +kernel
theorem dX7_touch_38 : decode cX7_touch 38 = .ok (.getfield 97, 3) := by decide +kernel
theorem dX7_touch_41 : decode cX7_touch 41 = .ok (.iload_n 1, 1) := by decide +kernel
theorem dX7_touch_42 : decode cX7_touch 42 = .ok (.iaload, 1) := by decide +kernel
theorem dX7_touch_43 : decode cX7_touch 43 = .ok (.istore 4, 2) := by decide +kernel
theorem dX7_touch_45 : decode cX7_touch 45 = .ok (.iconst (-1), 1) := by decide +kernel
theorem dX7_touch_46 : decode cX7_touch 46 = .ok (.istore 5, 2) := by decide +kernel
theorem dX7_touch_48 : decode cX7_touch 48 = .ok (.aload_n 0, 1) := by decide +kernel
theorem dX7_touch_49 : decode cX7_touch 49 = .ok (.iload_n 1, 1) := by decide +kernel
theorem dX7_touch_50 : decode cX7_touch 50 = .ok (.iload_n 2, 1) := by decide +kernel
theorem dX7_touch_51 : decode cX7_touch 51 = .ok (.iload_n 1, 1) := by decide +kernel
theorem dX7_touch_52 : decode cX7_touch 52 = .ok (.iload 4, 2) := by decide +kernel
theorem dX7_touch_54 : decode cX7_touch 54 = .ok (.invokevirtual 236, 3) := by decide +kernel
theorem dX7_touch_57 : decode cX7_touch 57 = .ok (.istore 6, 2) := by decide +kernel
theorem dX7_touch_59 : decode cX7_touch 59 = .ok (.iconst 0, 1) := by decide +kernel
theorem dX7_touch_60 : decode cX7_touch 60 = .ok (.istore 7, 2) := by decide +kernel
theorem dX7_touch_62 : decode cX7_touch 62 = .ok (.iload 7, 2) := by decide +kernel
theorem dX7_touch_64 : decode cX7_touch 64 = .ok (.aload_n 0, 1) := by decide +kernel
theorem dX7_touch_65 : decode cX7_touch 65 = .ok (.getfield 10, 3) := by decide +kernel
theorem dX7_touch_68 : decode cX7_touch 68 = .ok (.getfield 78, 3) := by decide +kernel
theorem dX7_touch_71 : decode cX7_touch 71 = .ok (.getfield 81, 3) := by decide +kernel
theorem dX7_touch_74 : decode cX7_touch 74 = .ok (.if_icmp .ge 36, 3) := by decide +kernel
theorem dX7_touch_77 : decode cX7_touch 77 = .ok (.aload_n 0, 1) := by decide +kernel
theorem dX7_touch_78 : decode cX7_touch 78 = .ok (.iload_n 1, 1) := by decide +kernel
theorem dX7_touch_79 : decode cX7_touch 79 = .ok (.iload_n 2, 1) := by decide +kernel
theorem dX7_touch_80 : decode cX7_touch 80 = .ok (.iload 7, 2) := by decide +kernel
theorem dX7_touch_82 : decode cX7_touch 82 = .ok (.iload 4, 2) := by decide +kernel
theorem dX7_touch_84 : decode cX7_touch 84 = .ok (.invokevirtual 236, 3) := by decide +kernel
theorem dX7_touch_87 : decode cX7_touch 87 = .ok (.istore 8, 2) := by decide +kernel
theorem dX7_touch_89 : decode cX7_touch 89 = .ok (.iload 8, 2) := by decide +kernel
theorem dX7_touch_91 : decode cX7_touch 91 = .ok (.iload 6, 2) := by decide +kernel
theorem dX7_touch_93 : decode cX7_touch 93 = .ok (.if_icmp .le 11, 3) := by decide +kernel
theorem dX7_touch_96 : decode cX7_touch 96 = .ok (.iload 7, 2) := by decide +kernel
theorem dX7_touch_98 : decode cX7_touch 98 = .ok (.istore 5, 2) := by decide +kernel
theorem dX7_touch_100 : decode cX7_touch 100 = .ok (.iload 8, 2) := by decide +kernel
theorem dX7_touch_102 : decode cX7_touch 102 = .ok (.istore 6, 2) := by decide +kernel
theorem dX7_touch_104 : decode cX7_touch 104 = .ok (.iinc 7 1, 3) := by decide +kernel
theorem dX7_touch_107 : decode cX7_touch 107 = .ok (.goto (-45), 3) := by decide +kernel
theorem dX7_touch_110 : decode cX7_touch 110 = .ok (.iload_n 3, 1) := by decide +kernel
theorem dX7_touch_111 : decode cX7_touch 111 = .ok (.ifCond .ne 8, 3) := by decide +kernel
theorem dX7_touch_114 : decode cX7_touch 114 = .ok (.iload 5, 2) := by decide +kernel
theorem dX7_touch_116 : decode cX7_touch 116 = .ok (.goto 5, 3) := by decide +kernel
theorem dX7_touch_119 : decode cX7_touch 119 = .ok (.iload 6, 2) := by decide +kernel
theorem dX7_touch_121 : decode cX7_touch 121 = .ok (.ireturn, 1) := by decide +kernel
theorem dX7_done_0 : decode cX7_done 0 = .ok (.iload_n 1, 1) := by decide +kernel
theorem dX7_done_1 : decode cX7_done 1 = .ok (.iconst 0, 1) := by decide +kernel
theorem dX7_done_2 : decode cX7_done 2 = .ok (.bipush 60, 2) := by decide +kernel
theorem dX7_done_4 : decode cX7_done 4 = .ok (.invokestatic 126, 3) := by decide +kernel
theorem dX7_done_7 : decode cX7_done 7 = .ok (.ifCond .ne 9, 3) := by decide +kernel
theorem dX7_done_10 : decode cX7_done 10 = .ok (.aload_n 0, 1) := by decide +kernel
theorem dX7_done_11 : decode cX7_done 11 = .ok (.iconst 1, 1) := by decide +kernel
theorem dX7_done_12 : decode cX7_done 12 = .ok (.invokevirtual 74, 3) := by decide +kernel
theorem dX7_done_15 : decode cX7_done 15 = .ok (.ireturn, 1) := by decide +kernel
theorem dX7_done_16 : decode cX7_done 16 = .ok (.aload_n 0, 1) := by decide +kernel
theorem dX7_done_17 : decode cX7_done 17 = .ok (.invokevirtual 206, 3) := by decide +kernel
theorem dX7_done_20 : decode cX7_done 20 = .ok (.aload_n 0, 1) := by decide +kernel
theorem dX7_done_21 : decode cX7_done 21 = .ok (.getfield 31, 3) := by decide +kernel
theorem dX7_done_24 : decode cX7_done 24 = .ok (.iload_n 1, 1) := by decide +kernel
theorem dX7_done_25 : decode cX7_done 25 = .ok (.invokevirtual 196, 3) := by decide +kernel
theorem dX7_done_28 : decode cX7_done 28 = .ok (.aload_n 0, 1) := by decide +kernel
theorem dX7_done_29 : decode cX7_done 29 = .ok (.getfield 31, 3) := by decide +kernel
theorem dX7_done_32 : decode cX7_done 32 = .ok (.invokevirtual 246, 3) := by decide +kernel
theorem dX7_done_35 : decode cX7_done 35 = .ok (.aload_n 0, 1) := by decide +kernel
theorem dX7_done_36 : decode cX7_done 36 = .ok (.getfield 10, 3) := by decide +kernel
theorem dX7_done_39 : decode cX7_done 39 = .ok (.getfield 78, 3) := by decide +kernel
theorem dX7_done_42 : decode cX7_done 42 = .ok (.invokevirtual 246, 3) := by decide +kernel
theorem dX7_done_45 : decode cX7_done 45 = .ok (.isub, 1) := by decide +kernel
theorem dX7_done_46 : decode cX7_done 46 = .ok (.ireturn, 1) := by decide +kernel
theorem dX7_odds_0 : decode cX7_odds 0 = .ok (.aload_n 0, 1) := by decide +kernel
theorem dX7_odds_1 : decode cX7_odds 1 = .ok (.iload_n 1, 1) := by decide +kernel
theorem dX7_odds_2 : decode cX7_odds 2 = .ok (.invokevirtual 88, 3) := by decide +kernel
theorem dX7_odds_5 : decode cX7_odds 5 = .ok (.ifCond .eq 20, 3) := by decide +kernel
theorem dX7_odds_8 : decode cX7_odds 8 = .ok (.iload_n 2, 1) := by decide +kernel
theorem dX7_odds_9 : decode cX7_odds 9 = .ok (.iconst 0, 1) := by decide +kernel
theorem dX7_odds_10 : decode cX7_odds 10 = .ok (.bipush 60, 2) := by decide +kernel
theorem dX7_odds_12 : decode cX7_odds 12 = .ok (.invokestatic 126, 3) := by decide +kernel
theorem dX7_odds_15 : decode cX7_odds 15 = .ok (.ifCond .eq 10, 3) := by decide +kernel
theorem dX7_odds_18 : decode cX7_odds 18 = .ok (.iload_n 3, 1) := by decide +kernel
theorem dX7_odds_19 : decode cX7_odds 19 = .ok (.invokestatic 137, 3) := by decide +kernel
theorem dX7_odds_22 : decode cX7_odds 22 = .ok (.ifCond .ne 9, 3) := by decide +kernel
theorem dX7_odds_25 : decode cX7_odds 25 = .ok (.aload_n 0, 1) := by decide +kernel
theorem dX7_odds_26 : decode cX7_odds 26 = .ok (.iconst 1, 1) := by decide +kernel
theorem dX7_odds_27 : decode cX7_odds 27 = .ok (.invokevirtual 74, 3) := by decide +kernel
theorem dX7_odds_30 : decode cX7_odds 30 = .ok (.ireturn, 1) := by decide +kernel
theorem dX7_odds_31 : decode cX7_odds 31 = .ok (.iconst 0, 1) := by decide +kernel
theorem dX7_odds_32 : decode cX7_odds 32 = .ok (.istore 4, 2) := by decide +kernel
theorem dX7_odds_34 : decode cX7_odds 34 = .ok (.iconst 1, 1) := by decide +kernel
theorem dX7_odds_35 : decode cX7_odds 35 = .ok (.istore 5, 2) := by decide +kernel
theorem dX7_odds_37 : decode cX7_odds 37 = .ok (.iload 5, 2) := by decide +kernel
theorem dX7_odds_39 : decode cX7_odds 39 = .ok (.bipush 9, 2) := by decide +kernel
theorem dX7_odds_41 : decode cX7_odds 41 = .ok (.if_icmp .gt 45, 3) := by decide +kernel
theorem dX7_odds_44 : decode cX7_odds 44 = .ok (.aload_n 0, 1) := by decide +kernel
theorem dX7_odds_45 : decode cX7_odds 45 = .ok (.invokevirtual 206, 3) := by decide +kernel
theorem dX7_odds_48 : decode cX7_odds 48 = .ok (.aload_n 0, 1) := by decide +kernel
theorem dX7_odds_49 : decode cX7_odds 49 = .ok (.getfield 31, 3) := by decide +kernel
theorem dX7_odds_52 : decode cX7_odds 52 = .ok (.iload 5, 2) := by decide +kernel
theorem dX7_odds_54 : decode cX7_odds 54 = .ok (.putfield 134, 3) := by decide +kernel
theorem dX7_odds_57 : decode cX7_odds 57 = .ok (.aload_n 0, 1) := by decide +kernel
theorem dX7_odds_58 : decode cX7_odds 58 = .ok (.getfield 31, 3) := by decide +kernel
theorem dX7_odds_61 : decode cX7_odds 61 = .ok (.iload_n 2, 1) := by decide +kernel
theorem dX7_odds_62 : decode cX7_odds 62 = .ok (.invokevirtual 196, 3) := by decide +kernel
theorem dX7_odds_65 : decode cX7_odds 65 = .ok (.aload_n 0, 1) := by decide +kernel
theorem dX7_odds_66 : decode cX7_odds 66 = .ok (.getfield 31, 3) := by decide +kernel
theorem dX7_odds_69 : decode cX7_odds 69 = .ok (.getfield 100, 3) := by decide +kernel
theorem dX7_odds_72 : decode cX7_odds 72 = .ok (.iload_n 1, 1) := by decide +kernel
theorem dX7_odds_73 : decode cX7_odds 73 = .ok (.iaload, 1) := by decide +kernel
theorem dX7_odds_74 : decode cX7_odds 74 = .ok (.ifCond .le 6, 3) := by decide +kernel
theorem dX7_odds_77 : decode cX7_odds 77 = .ok (.iinc 4 1, 3) := by decide +kernel
theorem dX7_odds_80 : decode cX7_odds 80 = .ok (.iinc 5 1, 3) := by decide +kernel
theorem dX7_odds_83 : decode cX7_odds 83 = .ok (.goto (-46), 3) := by decide +kernel
theorem dX7_odds_86 : decode cX7_odds 86 = .ok (.iload 4, 2) := by decide +kernel
theorem dX7_odds_88 : decode cX7_odds 88 = .ok (.bipush 9, 2) := by decide +kernel
theorem dX7_odds_90 : decode cX7_odds 90 = .ok (.invokestatic 249, 3) := by decide +kernel
theorem dX7_odds_93 : decode cX7_odds 93 = .ok (.istore 5, 2) := by decide +kernel
theorem dX7_odds_95 : decode cX7_odds 95 = .ok (.iload_n 3, 1) := by decide +kernel
theorem dX7_odds_96 : decode cX7_odds 96 = .ok (.ifCond .ne 8, 3) := by decide +kernel
theorem dX7_odds_99 : decode cX7_odds 99 = .ok (.iload 4, 2) := by decide +kernel
theorem dX7_odds_101 : decode cX7_odds 101 = .ok (.goto 5, 3) := by decide +kernel
theorem dX7_odds_104 : decode cX7_odds 104 = .ok (.bipush 9, 2) := by decide +kernel
theorem dX7_odds_106 : decode cX7_odds 106 = .ok (.iload 5, 2) := by decide +kernel
theorem dX7_odds_108 : decode cX7_odds 108 = .ok (.idiv, 1) := by decide +kernel
theorem dX7_odds_109 : decode cX7_odds 109 = .ok (.ireturn, 1) := by decide +kernel
theorem dX7_seed_0 : decode cX7_seed 0 = .ok (.aload_n 0, 1) := by decide +kernel
theorem dX7_seed_1 : decode cX7_seed 1 = .ok (.getfield 10, 3) := by decide +kernel
theorem dX7_seed_4 : decode cX7_seed 4 = .ok (.getfield 252, 3) := by decide +kernel
theorem dX7_seed_7 : decode cX7_seed 7 = .ok (.istore_n 2, 1) := by decide +kernel
theorem dX7_seed_8 : decode cX7_seed 8 = .ok (.aload_n 0, 1) := by decide +kernel
theorem dX7_seed_9 : decode cX7_seed 9 = .ok (.getfield 10, 3) := by decide +kernel
theorem dX7_seed_12 : decode cX7_seed 12 = .ok (.iload_n 1, 1) := by decide +kernel
theorem dX7_seed_13 : decode cX7_seed 13 = .ok (.putfield 252, 3) := by decide +kernel
theorem dX7_seed_16 : decode cX7_seed 16 = .ok (.iload_n 2, 1) := by decide +kernel
theorem dX7_seed_17 : decode cX7_seed 17 = .ok (.ireturn, 1) := by decide +kernel
theorem dX7_voice_0 : decode cX7_voice 0 = .ok (.aload_n 0, 1) := by decide +kernel
theorem dX7_voice_1 : decode cX7_voice 1 = .ok (.iload_n 1, 1) := by decide +kernel
theorem dX7_voice_2 : decode cX7_voice 2 = .ok (.invokevirtual 88, 3) := by decide +kernel
theorem dX7_voice_5 : decode cX7_voice 5 = .ok (.ifCond .eq 12, 3) := by decide +kernel
theorem dX7_voice_8 : decode cX7_voice 8 = .ok (.iload_n 2, 1) := by decide +kernel
theorem dX7_voice_9 : decode cX7_voice 9 = .ok (.iconst 0, 1) := by decide +kernel
theorem dX7_voice_10 : decode cX7_voice 10 = .ok (.iconst 3, 1) := by decide +kernel
theorem dX7_voice_11 : decode cX7_voice 11 = .ok (.invokestatic 126, 3) := by decide +kernel
theorem dX7_voice_14 : decode cX7_voice 14 = .ok (.ifCond .ne 9, 3) := by decide +kernel
theorem dX7_voice_17 : decode cX7_voice 17 = .ok (.aload_n 0, 1) := by decide +kernel
theorem dX7_voice_18 : decode cX7_voice 18 = .ok (.iconst 1, 1) := by decide +kernel
theorem dX7_voice_19 : decode cX7_voice 19 = .ok (.invokevirtual 74, 3) := by decide +kernel
theorem dX7_voice_22 : decode cX7_voice 22 = .ok (.ireturn, 1) := by decide +kernel
theorem dX7_voice_23 : decode cX7_voice 23 = .ok (.aload_n 0, 1) := by decide +kernel
theorem dX7_voice_24 : decode cX7_voice 24 = .ok (.getfield 45, 3) := by decide +kernel
theorem dX7_voice_27 : decode cX7_voice 27 = .ok (.aload_n 0, 1) := by decide +kernel
theorem dX7_voice_28 : decode cX7_voice 28 = .ok (.getfield 10, 3) := by decide +kernel
theorem dX7_voice_31 : decode cX7_voice 31 = .ok (.getfield 78, 3) := by decide +kernel
theorem dX7_voice_34 : decode cX7_voice 34 = .ok (.getfield 91, 3) := by decide +kernel
theorem dX7_voice_37 : decode cX7_voice 37 = .ok (.iload_n 1, 1) := by decide +kernel
theorem dX7_voice_38 : decode cX7_voice 38 = .ok (.iaload, 1) := by decide +kernel
theorem dX7_voice_39 : decode cX7_voice 39 = .ok (.iload_n 1, 1) := by decide +kernel
theorem dX7_voice_40 : decode cX7_voice 40 = .ok (.aload_n 0, 1) := by decide +kernel
theorem dX7_voice_41 : decode cX7_voice 41 = .ok (.getfield 10, 3) := by decide +kernel
theorem dX7_voice_44 : decode cX7_voice 44 = .ok (.getfield 78, 3) := by decide +kernel
theorem dX7_voice_47 : decode cX7_voice 47 = .ok (.getfield 94, 3) := by decide +kernel
theorem dX7_voice_50 : decode cX7_voice 50 = .ok (.iload_n 1, 1) := by decide +kernel
theorem dX7_voice_51 : decode cX7_voice 51 = .ok (.iaload, 1) := by decide +kernel
theorem dX7_voice_52 : decode cX7_voice 52 = .ok (.iload_n 2, 1) := by decide +kernel
theorem dX7_voice_53 : decode cX7_voice 53 = .ok (.iload_n 3, 1) := by decide +kernel
theorem dX7_voice_54 : decode cX7_voice 54 = .ok (.invokevirtual 255, 3) := by decide +kernel
theorem dX7_voice_57 : decode cX7_voice 57 = .ok (.ireturn, 1) := by decide +kernel
theorem dX7_trace_0 : decode cX7_trace 0 = .ok (.iload_n 1, 1) := by decide +kernel
theorem dX7_trace_1 : decode cX7_trace 1 = .ok (.iconst 0, 1) := by decide +kernel
theorem dX7_trace_2 : decode cX7_trace 2 = .ok (.aload_n 0, 1) := by decide +kernel
theorem dX7_trace_3 : decode cX7_trace 3 = .ok (.getfield 45, 3) := by decide +kernel
theorem dX7_trace_6 : decode cX7_trace 6 = .ok (.getfield 259, 3) := by decide +kernel
theorem dX7_trace_9 : decode cX7_trace 9 = .ok (.getfield 156, 3) := by decide +kernel
theorem dX7_trace_12 : decode cX7_trace 12 = .ok (.iconst 1, 1) := by decide +kernel
theorem dX7_trace_13 : decode cX7_trace 13 = .ok (.isub, 1) := by decide +kernel
theorem dX7_trace_14 : decode cX7_trace 14 = .ok (.invokestatic 126, 3) := by decide +kernel
theorem dX7_trace_17 : decode cX7_trace 17 = .ok (.ifCond .ne 9, 3) := by decide +kernel
theorem dX7_trace_20 : decode cX7_trace 20 = .ok (.aload_n 0, 1) := by decide +kernel
theorem dX7_trace_21 : decode cX7_trace 21 = .ok (.iconst 2, 1) := by decide +kernel
theorem dX7_trace_22 : decode cX7_trace 22 = .ok (.invokevirtual 74, 3) := by decide +kernel
theorem dX7_trace_25 : decode cX7_trace 25 = .ok (.ireturn, 1) := by decide +kernel
theorem dX7_trace_26 : decode cX7_trace 26 = .ok (.aload_n 0, 1) := by decide +kernel
theorem dX7_trace_27 : decode cX7_trace 27 = .ok (.getfield 45, 3) := by decide +kernel
theorem dX7_trace_30 : decode cX7_trace 30 = .ok (.getfield 259, 3) := by decide +kernel
theorem dX7_trace_33 : decode cX7_trace 33 = .ok (.getfield 262, 3) := by decide +kernel
theorem dX7_trace_36 : decode cX7_trace 36 = .ok (.iload_n 1, 1) := by decide +kernel
theorem dX7_trace_37 : decode cX7_trace 37 = .ok (.iaload, 1) := by decide +kernel
theorem dX7_trace_38 : decode cX7_trace 38 = .ok (.ireturn, 1) := by decide +kernel
theorem dX7_sheet_0 : decode cX7_sheet 0 = .ok (.aload_n 0, 1) := by decide +kernel
theorem dX7_sheet_1 : decode cX7_sheet 1 = .ok (.iload_n 1, 1) := by decide +kernel
theorem dX7_sheet_2 : decode cX7_sheet 2 = .ok (.invokevirtual 220, 3) := by decide +kernel
theorem dX7_sheet_5 : decode cX7_sheet 5 = .ok (.astore 4, 2) := by decide +kernel
theorem dX7_sheet_7 : decode cX7_sheet 7 = .ok (.aload 4, 2) := by decide +kernel
theorem dX7_sheet_9 : decode cX7_sheet 9 = .ok (.ifnull 25, 3) := by decide +kernel
theorem dX7_sheet_12 : decode cX7_sheet 12 = .ok (.iload_n 2, 1) := by decide +kernel
theorem dX7_sheet_13 : decode cX7_sheet 13 = .ok (.ifCond .eq 27, 3) := by decide +kernel
theorem dX7_sheet_16 : decode cX7_sheet 16 = .ok (.iload_n 2, 1) := by decide +kernel
theorem dX7_sheet_17 : decode cX7_sheet 17 = .ok (.bipush 8, 2) := by decide +kernel
theorem dX7_sheet_19 : decode cX7_sheet 19 = .ok (.if_icmp .eq 21, 3) := by decide +kernel
theorem dX7_sheet_22 : decode cX7_sheet 22 = .ok (.iload_n 2, 1) := by decide +kernel
theorem dX7_sheet_23 : decode cX7_sheet 23 = .ok (.bipush 16, 2) := by decide +kernel
theorem dX7_sheet_25 : decode cX7_sheet 25 = .ok (.if_icmp .eq 15, 3) := by decide +kernel
theorem dX7_sheet_28 : decode cX7_sheet 28 = .ok (.iload_n 2, 1) := by decide +kernel
theorem dX7_sheet_29 : decode cX7_sheet 29 = .ok (.bipush 32, 2) := by decide +kernel
theorem dX7_sheet_31 : decode cX7_sheet 31 = .ok (.if_icmp .eq 9, 3) := by decide +kernel
theorem dX7_sheet_34 : decode cX7_sheet 34 = .ok (.aload_n 0, 1) := by decide +kernel
theorem dX7_sheet_35 : decode cX7_sheet 35 = .ok (.iconst 1, 1) := by decide +kernel
theorem dX7_sheet_36 : decode cX7_sheet 36 = .ok (.invokevirtual 74, 3) := by decide +kernel
theorem dX7_sheet_39 : decode cX7_sheet 39 = .ok (.ireturn, 1) := by decide +kernel
theorem dX7_sheet_40 : decode cX7_sheet 40 = .ok (.iload_n 2, 1) := by decide +kernel
theorem dX7_sheet_41 : decode cX7_sheet 41 = .ok (.ifCond .eq 13, 3) := by decide +kernel
theorem dX7_sheet_44 : decode cX7_sheet 44 = .ok (.iload_n 3, 1) := by decide +kernel
theorem dX7_sheet_45 : decode cX7_sheet 45 = .ok (.ifCond .ge 9, 3) := by decide +kernel
theorem dX7_sheet_48 : decode cX7_sheet 48 = .ok (.aload_n 0, 1) := by decide +kernel
theorem dX7_sheet_49 : decode cX7_sheet 49 = .ok (.iconst 3, 1) := by decide +kernel
theorem dX7_sheet_50 : decode cX7_sheet 50 = .ok (.invokevirtual 74, 3) := by decide +kernel
theorem dX7_sheet_53 : decode cX7_sheet 53 = .ok (.ireturn, 1) := by decide +kernel
theorem dX7_sheet_54 : decode cX7_sheet 54 = .ok (.iload_n 2, 1) := by decide +kernel
theorem dX7_sheet_55 : decode cX7_sheet 55 = .ok (.ifCond .eq 15, 3) := by decide +kernel
theorem dX7_sheet_58 : decode cX7_sheet 58 = .ok (.iload_n 3, 1) := by decide +kernel
theorem dX7_sheet_59 : decode cX7_sheet 59 = .ok (.bipush 40, 2) := by decide +kernel
theorem dX7_sheet_61 : decode cX7_sheet 61 = .ok (.if_icmp .le 9, 3) := by decide +kernel
theorem dX7_sheet_64 : decode cX7_sheet 64 = .ok (.aload_n 0, 1) := by decide +kernel
theorem dX7_sheet_65 : decode cX7_sheet 65 = .ok (.iconst 1, 1) := by decide +kernel
theorem dX7_sheet_66 : decode cX7_sheet 66 = .ok (.invokevirtual 74, 3) := by decide +kernel
theorem dX7_sheet_69 : decode cX7_sheet 69 = .ok (.ireturn, 1) := by decide +kernel
theorem dX7_sheet_70 : decode cX7_sheet 70 = .ok (.aload 4, 2) := by decide +kernel
theorem dX7_sheet_72 : decode cX7_sheet 72 = .ok (.iload_n 2, 1) := by decide +kernel
theorem dX7_sheet_73 : decode cX7_sheet 73 = .ok (.iload_n 2, 1) := by decide +kernel
theorem dX7_sheet_74 : decode cX7_sheet 74 = .ok (.ifCond .ne 7, 3) := by decide +kernel
theorem dX7_sheet_77 : decode cX7_sheet 77 = .ok (.iconst 0, 1) := by decide +kernel
theorem dX7_sheet_78 : decode cX7_sheet 78 = .ok (.goto 4, 3) := by decide +kernel
theorem dX7_sheet_81 : decode cX7_sheet 81 = .ok (.iload_n 3, 1) := by decide +kernel
theorem dX7_sheet_82 : decode cX7_sheet 82 = .ok (.invokevirtual 265, 3) := by decide +kernel
theorem dX7_sheet_85 : decode cX7_sheet 85 = .ok (.iconst 1, 1) := by decide +kernel
theorem dX7_sheet_86 : decode cX7_sheet 86 = .ok (.ireturn, 1) := by decide +kernel
theorem dX7_put_0 : decode cX7_put 0 = .ok (.aload_n 0, 1) := by decide +kernel
theorem dX7_put_1 : decode cX7_put 1 = .ok (.iload_n 1, 1) := by decide +kernel
theorem dX7_put_2 : decode cX7_put 2 = .ok (.invokevirtual 220, 3) := by decide +kernel
theorem dX7_put_5 : decode cX7_put 5 = .ok (.astore 4, 2) := by decide +kernel
theorem dX7_put_7 : decode cX7_put 7 = .ok (.aload 4, 2) := by decide +kernel
theorem dX7_put_9 : decode cX7_put 9 = .ok (.ifnonnull 9, 3) := by decide +kernel
theorem dX7_put_12 : decode cX7_put 12 = .ok (.aload_n 0, 1) := by decide +kernel
theorem dX7_put_13 : decode cX7_put 13 = .ok (.iconst 1, 1) := by decide +kernel
theorem dX7_put_14 : decode cX7_put 14 = .ok (.invokevirtual 74, 3) := by decide +kernel
theorem dX7_put_17 : decode cX7_put 17 = .ok (.ireturn, 1) := by decide +kernel
theorem dX7_put_18 : decode cX7_put 18 = .ok (.aload 4, 2) := by decide +kernel
theorem dX7_put_20 : decode cX7_put 20 = .ok (.invokevirtual 224, 3) := by decide +kernel
theorem dX7_put_23 : decode cX7_put 23 = .ok (.ifCond .eq 9, 3) := by decide +kernel
theorem dX7_put_26 : decode cX7_put 26 = .ok (.aload_n 0, 1) := by decide +kernel
theorem dX7_put_27 : decode cX7_put 27 = .ok (.iconst 2, 1) := by decide +kernel
theorem dX7_put_28 : decode cX7_put 28 = .ok (.invokevirtual 74, 3) := by decide +kernel
theorem dX7_put_31 : decode cX7_put 31 = .ok (.ireturn, 1) := by decide +kernel
theorem dX7_put_32 : decode cX7_put 32 = .ok (.iload_n 2, 1) := by decide +kernel
theorem dX7_put_33 : decode cX7_put 33 = .ok (.iconst 0, 1) := by decide +kernel
theorem dX7_put_34 : decode cX7_put 34 = .ok (.aload 4, 2) := by decide +kernel
theorem dX7_put_36 : decode cX7_put 36 = .ok (.getfield 228, 3) := by decide +kernel
theorem dX7_put_39 : decode cX7_put 39 = .ok (.iconst 1, 1) := by decide +kernel
theorem dX7_put_40 : decode cX7_put 40 = .ok (.isub, 1) := by decide +kernel
theorem dX7_put_41 : decode cX7_put 41 = .ok (.invokestatic 126, 3) := by decide +kernel
theorem dX7_put_44 : decode cX7_put 44 = .ok (.ifCond .ne 9, 3) := by decide +kernel
theorem dX7_put_47 : decode cX7_put 47 = .ok (.aload_n 0, 1) := by decide +kernel
theorem dX7_put_48 : decode cX7_put 48 = .ok (.iconst 1, 1) := by decide +kernel
theorem dX7_put_49 : decode cX7_put 49 = .ok (.invokevirtual 74, 3) := by decide +kernel
theorem dX7_put_52 : decode cX7_put 52 = .ok (.ireturn, 1) := by decide +kernel
theorem dX7_put_53 : decode cX7_put 53 = .ok (.aload 4, 2) := by decide +kernel
theorem dX7_put_55 : decode cX7_put 55 = .ok (.getfield 229, 3) := by decide +kernel
theorem dX7_put_58 : decode cX7_put 58 = .ok (.iload_n 2, 1) := by decide +kernel
theorem dX7_put_59 : decode cX7_put 59 = .ok (.aload 4, 2) := by decide +kernel
theorem dX7_put_61 : decode cX7_put 61 = .ok (.iload_n 3, 1) := by decide +kernel
theorem dX7_put_62 : decode cX7_put 62 = .ok (.invokevirtual 268, 3) := by decide +kernel
theorem dX7_put_65 : decode cX7_put 65 = .ok (.iastore, 1) := by decide +kernel
theorem dX7_put_66 : decode cX7_put 66 = .ok (.iconst 1, 1) := by decide +kernel
theorem dX7_put_67 : decode cX7_put 67 = .ok (.ireturn, 1) := by decide +kernel
theorem dX7_move_0 : decode cX7_move 0 = .ok (.aload_n 0, 1) := by decide +kernel
theorem dX7_move_1 : decode cX7_move 1 = .ok (.iload_n 1, 1) := by decide +kernel
theorem dX7_move_2 : decode cX7_move 2 = .ok (.invokevirtual 220, 3) := by decide +kernel
theorem dX7_move_5 : decode cX7_move 5 = .ok (.astore 6, 2) := by decide +kernel
theorem dX7_move_7 : decode cX7_move 7 = .ok (.aload_n 0, 1) := by decide +kernel
theorem dX7_move_8 : decode cX7_move 8 = .ok (.iload_n 3, 1) := by decide +kernel
theorem dX7_move_9 : decode cX7_move 9 = .ok (.invokevirtual 220, 3) := by decide +kernel
theorem dX7_move_12 : decode cX7_move 12 = .ok (.astore 7, 2) := by decide +kernel
theorem dX7_move_14 : decode cX7_move 14 = .ok (.aload 6, 2) := by decide +kernel
theorem dX7_move_16 : decode cX7_move 16 = .ok (.ifnull 8, 3) := by decide +kernel
theorem dX7_move_19 : decode cX7_move 19 = .ok (.aload 7, 2) := by decide +kernel
theorem dX7_move_21 : decode cX7_move 21 = .ok (.ifnonnull 9, 3) := by decide +kernel
theorem dX7_move_24 : decode cX7_move 24 = .ok (.aload_n 0, 1) := by decide +kernel
theorem dX7_move_25 : decode cX7_move 25 = .ok (.iconst 1, 1) := by decide +kernel
theorem dX7_move_26 : decode cX7_move 26 = .ok (.invokevirtual 74, 3) := by decide +kernel
theorem dX7_move_29 : decode cX7_move 29 = .ok (.ireturn, 1) := by decide +kernel
theorem dX7_move_30 : decode cX7_move 30 = .ok (.aload 6, 2) := by decide +kernel
theorem dX7_move_32 : decode cX7_move 32 = .ok (.invokevirtual 224, 3) := by decide +kernel
theorem dX7_move_35 : decode cX7_move 35 = .ok (.ifCond .ne 11, 3) := by decide +kernel
theorem dX7_move_38 : decode cX7_move 38 = .ok (.aload 7, 2) := by decide +kernel
theorem dX7_move_40 : decode cX7_move 40 = .ok (.invokevirtual 224, 3) := by decide +kernel
theorem dX7_move_43 : decode cX7_move 43 = .ok (.ifCond .eq 9, 3) := by decide +kernel
theorem dX7_move_46 : decode cX7_move 46 = .ok (.aload_n 0, 1) := by decide +kernel
theorem dX7_move_47 : decode cX7_move 47 = .ok (.iconst 2, 1) := by decide +kernel
theorem dX7_move_48 : decode cX7_move 48 = .ok (.invokevirtual 74, 3) := by decide +kernel
theorem dX7_move_51 : decode cX7_move 51 = .ok (.ireturn, 1) := by decide +kernel
theorem dX7_move_52 : decode cX7_move 52 = .ok (.aload 6, 2) := by decide +kernel
theorem dX7_move_54 : decode cX7_move 54 = .ok (.getfield 271, 3) := by decide +kernel
theorem dX7_move_57 : decode cX7_move 57 = .ok (.aload 7, 2) := by decide +kernel
theorem dX7_move_59 : decode cX7_move 59 = .ok (.getfield 271, 3) := by decide +kernel
theorem dX7_move_62 : decode cX7_move 62 = .ok (.if_icmp .eq 9, 3) := by decide +kernel
theorem dX7_move_65 : decode cX7_move 65 = .ok (.aload_n 0, 1) := by decide +kernel
theorem dX7_move_66 : decode cX7_move 66 = .ok (.iconst 5, 1) := by decide +kernel
theorem dX7_move_67 : decode cX7_move 67 = .ok (.invokevirtual 74, 3) := by decide +kernel
theorem dX7_move_70 : decode cX7_move 70 = .ok (.ireturn, 1) := by decide +kernel
theorem dX7_move_71 : decode cX7_move 71 = .ok (.aload 6, 2) := by decide +kernel
theorem dX7_move_73 : decode cX7_move 73 = .ok (.iload_n 2, 1) := by decide +kernel
theorem dX7_move_74 : decode cX7_move 74 = .ok (.iload 5, 2) := by decide +kernel
theorem dX7_move_76 : decode cX7_move 76 = .ok (.invokevirtual 274, 3) := by decide +kernel
theorem dX7_move_79 : decode cX7_move 79 = .ok (.ifCond .eq 15, 3) := by decide +kernel
theorem dX7_move_82 : decode cX7_move 82 = .ok (.aload 7, 2) := by decide +kernel
theorem dX7_move_84 : decode cX7_move 84 = .ok (.iload 4, 2) := by decide +kernel
theorem dX7_move_86 : decode cX7_move 86 = .ok (.iload 5, 2) := by decide +kernel
theorem dX7_move_88 : decode cX7_move 88 = .ok (.invokevirtual 274, 3) := by decide +kernel
theorem dX7_move_91 : decode cX7_move 91 = .ok (.ifCond .ne 9, 3) := by decide +kernel
theorem dX7_move_94 : decode cX7_move 94 = .ok (.aload_n 0, 1) := by decide +kernel
theorem dX7_move_95 : decode cX7_move 95 = .ok (.iconst 1, 1) := by decide +kernel
theorem dX7_move_96 : decode cX7_move 96 = .ok (.invokevirtual 74, 3) := by decide +kernel
theorem dX7_move_99 : decode cX7_move 99 = .ok (.ireturn, 1) := by decide +kernel
theorem dX7_move_100 : decode cX7_move 100 = .ok (.aload 6, 2) := by decide +kernel
theorem dX7_move_102 : decode cX7_move 102 = .ok (.getfield 229, 3) := by decide +kernel
theorem dX7_move_105 : decode cX7_move 105 = .ok (.iload_n 2, 1) := by decide +kernel
theorem dX7_move_106 : decode cX7_move 106 = .ok (.aload 7, 2) := by decide +kernel
theorem dX7_move_108 : decode cX7_move 108 = .ok (.getfield 229, 3) := by decide +kernel
theorem dX7_move_111 : decode cX7_move 111 = .ok (.iload 4, 2) := by decide +kernel
theorem dX7_move_113 : decode cX7_move 113 = .ok (.iload 5, 2) := by decide +kernel
theorem dX7_move_115 : decode cX7_move 115 = .ok (.invokestatic 277, 3) := by decide +kernel
theorem dX7_move_118 : decode cX7_move 118 = .ok (.iload 5, 2) := by decide +kernel
theorem dX7_move_120 : decode cX7_move 120 = .ok (.ireturn, 1) := by decide +kernel
theorem dX7_frees_0 : decode cX7_frees 0 = .ok (.aload_n 0, 1) := by decide +kernel
theorem dX7_frees_1 : decode cX7_frees 1 = .ok (.iload_n 1, 1) := by decide +kernel
theorem dX7_frees_2 : decode cX7_frees 2 = .ok (.invokevirtual 220, 3) := by decide +kernel
theorem dX7_frees_5 : decode cX7_frees 5 = .ok (.astore_n 2, 1) := by decide +kernel
theorem dX7_frees_6 : decode cX7_frees 6 = .ok (.aload_n 2, 1) := by decide +kernel
theorem dX7_frees_7 : decode cX7_frees 7 = .ok (.ifnonnull 9, 3) := by decide +kernel
theorem dX7_frees_10 : decode cX7_frees 10 = .ok (.aload_n 0, 1) := by decide +kernel
theorem dX7_frees_11 : decode cX7_frees 11 = .ok (.iconst 1, 1) := by decide +kernel
theorem dX7_frees_12 : decode cX7_frees 12 = .ok (.invokevirtual 74, 3) := by decide +kernel
theorem dX7_frees_15 : decode cX7_frees 15 = .ok (.ireturn, 1) := by decide +kernel
theorem dX7_frees_16 : decode cX7_frees 16 = .ok (.aload_n 2, 1) := by decide +kernel
theorem dX7_frees_17 : decode cX7_frees 17 = .ok (.invokevirtual 224, 3) := by decide +kernel
theorem dX7_frees_20 : decode cX7_frees 20 = .ok (.ifCond .eq 9, 3) := by decide +kernel
theorem dX7_frees_23 : decode cX7_frees 23 = .ok (.aload_n 0, 1) := by decide +kernel
theorem dX7_frees_24 : decode cX7_frees 24 = .ok (.iconst 2, 1) := by decide +kernel
theorem dX7_frees_25 : decode cX7_frees 25 = .ok (.invokevirtual 74, 3) := by decide +kernel
theorem dX7_frees_28 : decode cX7_frees 28 = .ok (.ireturn, 1) := by decide +kernel
theorem dX7_frees_29 : decode cX7_frees 29 = .ok (.aload_n 2, 1) := by decide +kernel
theorem dX7_frees_30 : decode cX7_frees 30 = .ok (.getfield 228, 3) := by decide +kernel
theorem dX7_frees_33 : decode cX7_frees 33 = .ok (.aload_n 0, 1) := by decide +kernel
theorem dX7_frees_34 : decode cX7_frees 34 = .ok (.getfield 10, 3) := by decide +kernel
theorem dX7_frees_37 : decode cX7_frees 37 = .ok (.getfield 78, 3) := by decide +kernel
theorem dX7_frees_40 : decode cX7_frees 40 = .ok (.getfield 81, 3) := by decide +kernel
theorem dX7_frees_43 : decode cX7_frees 43 = .ok (.invokestatic 283, 3) := by decide +kernel
theorem dX7_frees_46 : decode cX7_frees 46 = .ok (.istore_n 3, 1) := by decide +kernel
theorem dX7_frees_47 : decode cX7_frees 47 = .ok (.iconst 0, 1) := by decide +kernel
theorem dX7_frees_48 : decode cX7_frees 48 = .ok (.istore 4, 2) := by decide +kernel
theorem dX7_frees_50 : decode cX7_frees 50 = .ok (.iload 4, 2) := by decide +kernel
theorem dX7_frees_52 : decode cX7_frees 52 = .ok (.iload_n 3, 1) := by decide +kernel
theorem dX7_frees_53 : decode cX7_frees 53 = .ok (.if_icmp .ge 48, 3) := by decide +kernel
theorem dX7_frees_56 : decode cX7_frees 56 = .ok (.aload_n 2, 1) := by decide +kernel
theorem dX7_frees_57 : decode cX7_frees 57 = .ok (.getfield 229, 3) := by decide +kernel
theorem dX7_frees_60 : decode cX7_frees 60 = .ok (.iload 4, 2) := by decide +kernel
theorem dX7_frees_62 : decode cX7_frees 62 = .ok (.iaload, 1) := by decide +kernel
theorem dX7_frees_63 : decode cX7_frees 63 = .ok (.iconst 0, 1) := by decide +kernel
theorem dX7_frees_64 : decode cX7_frees 64 = .ok (.bipush 99, 2) := by decide +kernel
theorem dX7_frees_66 : decode cX7_frees 66 = .ok (.invokestatic 126, 3) := by decide +kernel
theorem dX7_frees_69 : decode cX7_frees 69 = .ok (.ifCond .ne 6, 3) := by decide +kernel
theorem dX7_frees_72 : decode cX7_frees 72 = .ok (.iload 4, 2) := by decide +kernel
theorem dX7_frees_74 : decode cX7_frees 74 = .ok (.ireturn, 1) := by decide +kernel
theorem dX7_frees_75 : decode cX7_frees 75 = .ok (.aload_n 0, 1) := by decide +kernel
theorem dX7_frees_76 : decode cX7_frees 76 = .ok (.getfield 10, 3) := by decide +kernel
theorem dX7_frees_79 : decode cX7_frees 79 = .ok (.getfield 78, 3) := by decide +kernel
theorem dX7_frees_82 : decode cX7_frees 82 = .ok (.getfield 100, 3) := by decide +kernel
theorem dX7_frees_85 : decode cX7_frees 85 = .ok (.iload 4, 2) := by decide +kernel
theorem dX7_frees_87 : decode cX7_frees 87 = .ok (.aload_n 2, 1) := by decide +kernel
theorem dX7_frees_88 : decode cX7_frees 88 = .ok (.getfield 229, 3) := by decide +kernel
theorem dX7_frees_91 : decode cX7_frees 91 = .ok (.iload 4, 2) := by decide +kernel
theorem dX7_frees_93 : decode cX7_frees 93 = .ok (.iaload, 1) := by decide +kernel
theorem dX7_frees_94 : decode cX7_frees 94 = .ok (.iastore, 1) := by decide +kernel
theorem dX7_frees_95 : decode cX7_frees 95 = .ok (.iinc 4 1, 3) := by decide +kernel
theorem dX7_frees_98 : decode cX7_frees 98 = .ok (.goto (-48), 3) := by decide +kernel
theorem dX7_frees_101 : decode cX7_frees 101 = .ok (.iload_n 3, 1) := by decide +kernel
theorem dX7_frees_102 : decode cX7_frees 102 = .ok (.ireturn, 1) := by decide +kernel
theorem dX7_judge_0 : decode cX7_judge 0 = .ok (.aload_n 0, 1) := by decide +kernel
theorem dX7_judge_1 : decode cX7_judge 1 = .ok (.iload_n 1, 1) := by decide +kernel
theorem dX7_judge_2 : decode cX7_judge 2 = .ok (.invokevirtual 220, 3) := by decide +kernel
theorem dX7_judge_5 : decode cX7_judge 5 = .ok (.astore_n 2, 1) := by decide +kernel
theorem dX7_judge_6 : decode cX7_judge 6 = .ok (.aload_n 2, 1) := by decide +kernel
theorem dX7_judge_7 : decode cX7_judge 7 = .ok (.ifnonnull 9, 3) := by decide +kernel
theorem dX7_judge_10 : decode cX7_judge 10 = .ok (.aload_n 0, 1) := by decide +kernel
theorem dX7_judge_11 : decode cX7_judge 11 = .ok (.iconst 1, 1) := by decide +kernel
theorem dX7_judge_12 : decode cX7_judge 12 = .ok (.invokevirtual 74, 3) := by decide +kernel
theorem dX7_judge_15 : decode cX7_judge 15 = .ok (.ireturn, 1) := by decide +kernel
theorem dX7_judge_16 : decode cX7_judge 16 = .ok (.aload_n 2, 1) := by decide +kernel
theorem dX7_judge_17 : decode cX7_judge 17 = .ok (.invokevirtual 224, 3) := by decide +kernel
theorem dX7_judge_20 : decode cX7_judge 20 = .ok (.ifCond .eq 9, 3) := by decide +kernel
theorem dX7_judge_23 : decode cX7_judge 23 = .ok (.aload_n 0, 1) := by decide +kernel
theorem dX7_judge_24 : decode cX7_judge 24 = .ok (.iconst 2, 1) := by decide +kernel
theorem dX7_judge_25 : decode cX7_judge 25 = .ok (.invokevirtual 74, 3) := by decide +kernel
theorem dX7_judge_28 : decode cX7_judge 28 = .ok (.ireturn, 1) := by decide +kernel
theorem dX7_judge_29 : decode cX7_judge 29 = .ok (.aload_n 2, 1) := by decide +kernel
theorem dX7_judge_30 : decode cX7_judge 30 = .ok (.getfield 228, 3) := by decide +kernel
theorem dX7_judge_33 : decode cX7_judge 33 = .ok (.aload_n 0, 1) := by decide +kernel
theorem dX7_judge_34 : decode cX7_judge 34 = .ok (.getfield 10, 3) := by decide +kernel
theorem dX7_judge_37 : decode cX7_judge 37 = .ok (.getfield 78, 3) := by decide +kernel
theorem dX7_judge_40 : decode cX7_judge 40 = .ok (.getfield 81, 3) := by decide +kernel
theorem dX7_judge_43 : decode cX7_judge 43 = .ok (.invokestatic 283, 3) := by decide +kernel
theorem dX7_judge_46 : decode cX7_judge 46 = .ok (.istore_n 3, 1) := by decide +kernel
theorem dX7_judge_47 : decode cX7_judge 47 = .ok (.iconst 0, 1) := by decide +kernel
theorem dX7_judge_48 : decode cX7_judge 48 = .ok (.istore 4, 2) := by decide +kernel
theorem dX7_judge_50 : decode cX7_judge 50 = .ok (.iload 4, 2) := by decide +kernel
theorem dX7_judge_52 : decode cX7_judge 52 = .ok (.iload_n 3, 1) := by decide +kernel
theorem dX7_judge_53 : decode cX7_judge 53 = .ok (.if_icmp .ge 35, 3) := by decide +kernel
theorem dX7_judge_56 : decode cX7_judge 56 = .ok (.aload_n 2, 1) := by decide +kernel
theorem dX7_judge_57 : decode cX7_judge 57 = .ok (.getfield 229, 3) := by decide +kernel
theorem dX7_judge_60 : decode cX7_judge 60 = .ok (.iload 4, 2) := by decide +kernel
theorem dX7_judge_62 : decode cX7_judge 62 = .ok (.iaload, 1) := by decide +kernel
theorem dX7_judge_63 : decode cX7_judge 63 = .ok (.aload_n 0, 1) := by decide +kernel
theorem dX7_judge_64 : decode cX7_judge 64 = .ok (.getfield 10, 3) := by decide +kernel
theorem dX7_judge_67 : decode cX7_judge 67 = .ok (.getfield 78, 3) := by decide +kernel
theorem dX7_judge_70 : decode cX7_judge 70 = .ok (.getfield 97, 3) := by decide +kernel
theorem dX7_judge_73 : decode cX7_judge 73 = .ok (.iload 4, 2) := by decide +kernel
theorem dX7_judge_75 : decode cX7_judge 75 = .ok (.iaload, 1) := by decide +kernel
theorem dX7_judge_76 : decode cX7_judge 76 = .ok (.if_icmp .eq 6, 3) := by decide +kernel
theorem dX7_judge_79 : decode cX7_judge 79 = .ok (.iload 4, 2) := by decide +kernel
theorem dX7_judge_81 : decode cX7_judge 81 = .ok (.ireturn, 1) := by decide +kernel
theorem dX7_judge_82 : decode cX7_judge 82 = .ok (.iinc 4 1, 3) := by decide +kernel
theorem dX7_judge_85 : decode cX7_judge 85 = .ok (.goto (-35), 3) := by decide +kernel
theorem dX7_judge_88 : decode cX7_judge 88 = .ok (.aload_n 2, 1) := by decide +kernel
theorem dX7_judge_89 : decode cX7_judge 89 = .ok (.getfield 228, 3) := by decide +kernel
theorem dX7_judge_92 : decode cX7_judge 92 = .ok (.aload_n 0, 1) := by decide +kernel
theorem dX7_judge_93 : decode cX7_judge 93 = .ok (.getfield 10, 3) := by decide +kernel
theorem dX7_judge_96 : decode cX7_judge 96 = .ok (.getfield 78, 3) := by decide +kernel
theorem dX7_judge_99 : decode cX7_judge 99 = .ok (.getfield 81, 3) := by decide +kernel
theorem dX7_judge_102 : decode cX7_judge 102 = .ok (.if_icmp .ne 7, 3) := by decide +kernel
theorem dX7_judge_105 : decode cX7_judge 105 = .ok (.iconst (-1), 1) := by decide +kernel
theorem dX7_judge_106 : decode cX7_judge 106 = .ok (.goto 4, 3) := by decide +kernel
theorem dX7_judge_109 : decode cX7_judge 109 = .ok (.iload_n 3, 1) := by decide +kernel
theorem dX7_judge_110 : decode cX7_judge 110 = .ok (.ireturn, 1) := by decide +kernel
theorem dX7_image_0 : decode cX7_image 0 = .ok (.aload_n 0, 1) := by decide +kernel
theorem dX7_image_1 : decode cX7_image 1 = .ok (.getfield 16, 3) := by decide +kernel
theorem dX7_image_4 : decode cX7_image 4 = .ok (.aload_n 0, 1) := by decide +kernel
theorem dX7_image_5 : decode cX7_image 5 = .ok (.getfield 10, 3) := by decide +kernel
theorem dX7_image_8 : decode cX7_image 8 = .ok (.invokevirtual 288, 3) := by decide +kernel
theorem dX7_image_11 : decode cX7_image 11 = .ok (.aload_n 0, 1) := by decide +kernel
theorem dX7_image_12 : decode cX7_image 12 = .ok (.dup, 1) := by decide +kernel
theorem dX7_image_13 : decode cX7_image 13 = .ok (.getfield 63, 3) := by decide +kernel
theorem dX7_image_16 : decode cX7_image 16 = .ok (.iconst 1, 1) := by decide +kernel
theorem dX7_image_17 : decode cX7_image 17 = .ok (.iadd, 1) := by decide +kernel
theorem dX7_image_18 : decode cX7_image 18 = .ok (.putfield 63, 3) := by decide +kernel
theorem dX7_image_21 : decode cX7_image 21 = .ok (.aload_n 0, 1) := by decide +kernel
theorem dX7_image_22 : decode cX7_image 22 = .ok (.getfield 63, 3) := by decide +kernel
theorem dX7_image_25 : decode cX7_image 25 = .ok (.ireturn, 1) := by decide +kernel
theorem dX7_restore_0 : decode cX7_restore 0 = .ok (.aload_n 0, 1) := by decide +kernel
theorem dX7_restore_1 : decode cX7_restore 1 = .ok (.getfield 63, 3) := by decide +kernel
theorem dX7_restore_4 : decode cX7_restore 4 = .ok (.ifCond .ne 9, 3) := by decide +kernel
theorem dX7_restore_7 : decode cX7_restore 7 = .ok (.aload_n 0, 1) := by decide +kernel
theorem dX7_restore_8 : decode cX7_restore 8 = .ok (.iconst 2, 1) := by decide +kernel
theorem dX7_restore_9 : decode cX7_restore 9 = .ok (.invokevirtual 74, 3) := by decide +kernel
theorem dX7_restore_12 : decode cX7_restore 12 = .ok (.ireturn, 1) := by decide +kernel
theorem dX7_restore_13 : decode cX7_restore 13 = .ok (.aload_n 0, 1) := by decide +kernel
theorem dX7_restore_14 : decode cX7_restore 14 = .ok (.getfield 10, 3) := by decide +kernel
theorem dX7_restore_17 : decode cX7_restore 17 = .ok (.aload_n 0, 1) := by decide +kernel
theorem dX7_restore_18 : decode cX7_restore 18 = .ok (.getfield 16, 3) := by decide +kernel
theorem dX7_restore_21 : decode cX7_restore 21 = .ok (.invokevirtual 288, 3) := by decide +kernel
theorem dX7_restore_24 : decode cX7_restore 24 = .ok (.aload_n 0, 1) := by decide +kernel
theorem dX7_restore_25 : decode cX7_restore 25 = .ok (.getfield 10, 3) := by decide +kernel
theorem dX7_restore_28 : decode cX7_restore 28 = .ok (.getfield 78, 3) := by decide +kernel
theorem dX7_restore_31 : decode cX7_restore 31 = .ok (.getfield 193, 3) := by decide +kernel
theorem dX7_restore_34 : decode cX7_restore 34 = .ok (.ireturn, 1) := by decide +kernel
theorem dX7_tell_0 : decode cX7_tell 0 = .ok (.aload_n 0, 1) := by decide +kernel
theorem dX7_tell_1 : decode cX7_tell 1 = .ok (.getfield 10, 3) := by decide +kernel
theorem dX7_tell_4 : decode cX7_tell 4 = .ok (.getfield 291, 3) := by decide +kernel
theorem dX7_tell_7 : decode cX7_tell 7 = .ok (.getfield 156, 3) := by decide +kernel
theorem dX7_tell_10 : decode cX7_tell 10 = .ok (.bipush 20, 2) := by decide +kernel
theorem dX7_tell_12 : decode cX7_tell 12 = .ok (.if_icmp .lt 9, 3) := by decide +kernel
theorem dX7_tell_15 : decode cX7_tell 15 = .ok (.aload_n 0, 1) := by decide +kernel
theorem dX7_tell_16 : decode cX7_tell 16 = .ok (.iconst 4, 1) := by decide +kernel
theorem dX7_tell_17 : decode cX7_tell 17 = .ok (.invokevirtual 74, 3) := by decide +kernel
theorem dX7_tell_20 : decode cX7_tell 20 = .ok (.ireturn, 1) := by decide +kernel
theorem dX7_tell_21 : decode cX7_tell 21 = .ok (.aload_n 0, 1) := by decide +kernel
theorem dX7_tell_22 : decode cX7_tell 22 = .ok (.getfield 10, 3) := by decide +kernel
theorem dX7_tell_25 : decode cX7_tell 25 = .ok (.getfield 291, 3) := by decide +kernel
theorem dX7_tell_28 : decode cX7_tell 28 = .ok (.iload_n 1, 1) := by decide +kernel
theorem dX7_tell_29 : decode cX7_tell 29 = .ok (.invokevirtual 159, 3) := by decide +kernel
theorem dX7_tell_32 : decode cX7_tell 32 = .ok (.aload_n 0, 1) := by decide +kernel
theorem dX7_tell_33 : decode cX7_tell 33 = .ok (.getfield 10, 3) := by decide +kernel
theorem dX7_tell_36 : decode cX7_tell 36 = .ok (.getfield 291, 3) := by decide +kernel
theorem dX7_tell_39 : decode cX7_tell 39 = .ok (.getfield 156, 3) := by decide +kernel
theorem dX7_tell_42 : decode cX7_tell 42 = .ok (.ireturn, 1) := by decide +kernel
theorem dX7_check_0 : decode cX7_check 0 = .ok (.aload_n 0, 1) := by decide +kernel
theorem dX7_check_1 : decode cX7_check 1 = .ok (.invokevirtual 294, 3) := by decide +kernel
theorem dX7_check_4 : decode cX7_check 4 = .ok (.istore_n 1, 1) := by decide +kernel
theorem dX7_check_5 : decode cX7_check 5 = .ok (.aload_n 0, 1) := by decide +kernel
theorem dX7_check_6 : decode cX7_check 6 = .ok (.getfield 10, 3) := by decide +kernel
theorem dX7_check_9 : decode cX7_check 9 = .ok (.getfield 291, 3) := by decide +kernel
theorem dX7_check_12 : decode cX7_check 12 = .ok (.invokevirtual 170, 3) := by decide +kernel
theorem dX7_check_15 : decode cX7_check 15 = .ok (.iload_n 1, 1) := by decide +kernel
theorem dX7_check_16 : decode cX7_check 16 = .ok (.ifCond .ge 7, 3) := by decide +kernel
theorem dX7_check_19 : decode cX7_check 19 = .ok (.iconst 0, 1) := by decide +kernel
theorem dX7_check_20 : decode cX7_check 20 = .ok (.goto 6, 3) := by decide +kernel
theorem dX7_check_23 : decode cX7_check 23 = .ok (.iconst 1, 1) := by decide +kernel
theorem dX7_check_24 : decode cX7_check 24 = .ok (.iload_n 1, 1) := by decide +kernel
theorem dX7_check_25 : decode cX7_check 25 = .ok (.iadd, 1) := by decide +kernel
theorem dX7_check_26 : decode cX7_check 26 = .ok (.ireturn, 1) := by decide +kernel
theorem dX7_count_0 : decode cX7_count 0 = .ok (.iload_n 1, 1) := by decide +kernel
theorem dX7_count_1 : decode cX7_count 1 = .ok (.tableswitch 177 0 10 #[59, 70, 81, 92, 103, 114, 125, 136, 147, 158, 169], 59) := by decide +kernel
theorem dX7_count_60 : decode cX7_count 60 = .ok (.aload_n 0, 1) := by decide +kernel
theorem dX7_count_61 : decode cX7_count 61 = .ok (.getfield 10, 3) := by decide +kernel
theorem dX7_count_64 : decode cX7_count 64 = .ok (.getfield 78, 3) := by decide +kernel
theorem dX7_count_67 : decode cX7_count 67 = .ok (.getfield 81, 3) := by decide +kernel
theorem dX7_count_70 : decode cX7_count 70 = .ok (.ireturn, 1) := by decide +kernel
theorem dX7_count_71 : decode cX7_count 71 = .ok (.aload_n 0, 1) := by decide +kernel
theorem dX7_count_72 : decode cX7_count 72 = .ok (.getfield 10, 3) := by decide +kernel
theorem dX7_count_75 : decode cX7_count 75 = .ok (.getfield 78, 3) := by decide +kernel
theorem dX7_count_78 : decode cX7_count 78 = .ok (.getfield 193, 3) := by decide +kernel
theorem dX7_count_81 : decode cX7_count 81 = .ok (.ireturn, 1) := by decide +kernel
theorem dX7_count_82 : decode cX7_count 82 = .ok (.aload_n 0, 1) := by decide +kernel
theorem dX7_count_83 : decode cX7_count 83 = .ok (.getfield 10, 3) := by decide +kernel
theorem dX7_count_86 : decode cX7_count 86 = .ok (.getfield 78, 3) := by decide +kernel
theorem dX7_count_89 : decode cX7_count 89 = .ok (.getfield 134, 3) := by decide +kernel
theorem dX7_count_92 : decode cX7_count 92 = .ok (.ireturn, 1) := by decide +kernel
theorem dX7_count_93 : decode cX7_count 93 = .ok (.aload_n 0, 1) := by decide +kernel
theorem dX7_count_94 : decode cX7_count 94 = .ok (.getfield 10, 3) := by decide +kernel
theorem dX7_count_97 : decode cX7_count 97 = .ok (.getfield 78, 3) := by decide +kernel
theorem dX7_count_100 : decode cX7_count 100 = .ok (.invokevirtual 199, 3) := by decide +kernel
theorem dX7_count_103 : decode cX7_count 103 = .ok (.ireturn, 1) := by decide +kernel
theorem dX7_count_104 : decode cX7_count 104 = .ok (.aload_n 0, 1) := by decide +kernel
theorem dX7_count_105 : decode cX7_count 105 = .ok (.getfield 10, 3) := by decide +kernel
theorem dX7_count_108 : decode cX7_count 108 = .ok (.getfield 78, 3) := by decide +kernel
theorem dX7_count_111 : decode cX7_count 111 = .ok (.invokevirtual 243, 3) := by decide +kernel
theorem dX7_count_114 : decode cX7_count 114 = .ok (.ireturn, 1) := by decide +kernel
theorem dX7_count_115 : decode cX7_count 115 = .ok (.aload_n 0, 1) := by decide +kernel
theorem dX7_count_116 : decode cX7_count 116 = .ok (.getfield 10, 3) := by decide +kernel
theorem dX7_count_119 : decode cX7_count 119 = .ok (.getfield 78, 3) := by decide +kernel
theorem dX7_count_122 : decode cX7_count 122 = .ok (.invokevirtual 246, 3) := by decide +kernel
theorem dX7_count_125 : decode cX7_count 125 = .ok (.ireturn, 1) := by decide +kernel
theorem dX7_count_126 : decode cX7_count 126 = .ok (.aload_n 0, 1) := by decide +kernel
theorem dX7_count_127 : decode cX7_count 127 = .ok (.getfield 10, 3) := by decide +kernel
theorem dX7_count_130 : decode cX7_count 130 = .ok (.getfield 78, 3) := by decide +kernel
theorem dX7_count_133 : decode cX7_count 133 = .ok (.invokevirtual 297, 3) := by decide +kernel
theorem dX7_count_136 : decode cX7_count 136 = .ok (.ireturn, 1) := by decide +kernel
theorem dX7_count_137 : decode cX7_count 137 = .ok (.aload_n 0, 1) := by decide +kernel
theorem dX7_count_138 : decode cX7_count 138 = .ok (.getfield 10, 3) := by decide +kernel
theorem dX7_count_141 : decode cX7_count 141 = .ok (.getfield 152, 3) := by decide +kernel
theorem dX7_count_144 : decode cX7_count 144 = .ok (.getfield 156, 3) := by decide +kernel
theorem dX7_count_147 : decode cX7_count 147 = .ok (.ireturn, 1) := by decide +kernel
theorem dX7_count_148 : decode cX7_count 148 = .ok (.aload_n 0, 1) := by decide +kernel
theorem dX7_count_149 : decode cX7_count 149 = .ok (.getfield 10, 3) := by decide +kernel
theorem dX7_count_152 : decode cX7_count 152 = .ok (.getfield 291, 3) := by decide +kernel
theorem dX7_count_155 : decode cX7_count 155 = .ok (.getfield 156, 3) := by decide +kernel
theorem dX7_count_158 : decode cX7_count 158 = .ok (.ireturn, 1) := by decide +kernel
theorem dX7_count_159 : decode cX7_count 159 = .ok (.aload_n 0, 1) := by decide +kernel
theorem dX7_count_160 : decode cX7_count 160 = .ok (.getfield 45, 3) := by decide +kernel
theorem dX7_count_163 : decode cX7_count 163 = .ok (.getfield 259, 3) := by decide +kernel
theorem dX7_count_166 : decode cX7_count 166 = .ok (.getfield 156, 3) := by decide +kernel
theorem dX7_count_169 : decode cX7_count 169 = .ok (.ireturn, 1) := by decide +kernel
theorem dX7_count_170 : decode cX7_count 170 = .ok (.aload_n 0, 1) := by decide +kernel
theorem dX7_count_171 : decode cX7_count 171 = .ok (.getfield 10, 3) := by decide +kernel
theorem dX7_count_174 : decode cX7_count 174 = .ok (.getfield 252, 3) := by decide +kernel
theorem dX7_count_177 : decode cX7_count 177 = .ok (.ireturn, 1) := by decide +kernel
theorem dX7_count_178 : decode cX7_count 178 = .ok (.aload_n 0, 1) := by decide +kernel
theorem dX7_count_179 : decode cX7_count 179 = .ok (.iconst 1, 1) := by decide +kernel
theorem dX7_count_180 : decode cX7_count 180 = .ok (.invokevirtual 74, 3) := by decide +kernel
theorem dX7_count_183 : decode cX7_count 183 = .ok (.ireturn, 1) := by decide +kernel
theorem dX7_told_0 : decode cX7_told 0 = .ok (.iload_n 1, 1) := by decide +kernel
theorem dX7_told_1 : decode cX7_told 1 = .ok (.iconst 1, 1) := by decide +kernel
theorem dX7_told_2 : decode cX7_told 2 = .ok (.iconst 5, 1) := by decide +kernel
theorem dX7_told_3 : decode cX7_told 3 = .ok (.invokestatic 126, 3) := by decide +kernel
theorem dX7_told_6 : decode cX7_told 6 = .ok (.ifCond .ne 9, 3) := by decide +kernel
theorem dX7_told_9 : decode cX7_told 9 = .ok (.aload_n 0, 1) := by decide +kernel
theorem dX7_told_10 : decode cX7_told 10 = .ok (.iconst 1, 1) := by decide +kernel
theorem dX7_told_11 : decode cX7_told 11 = .ok (.invokevirtual 74, 3) := by decide +kernel
theorem dX7_told_14 : decode cX7_told 14 = .ok (.ireturn, 1) := by decide +kernel
theorem dX7_told_15 : decode cX7_told 15 = .ok (.aload_n 0, 1) := by decide +kernel
theorem dX7_told_16 : decode cX7_told 16 = .ok (.getfield 56, 3) := by decide +kernel
theorem dX7_told_19 : decode cX7_told 19 = .ok (.iload_n 1, 1) := by decide +kernel
theorem dX7_told_20 : decode cX7_told 20 = .ok (.iaload, 1) := by decide +kernel
theorem dX7_told_21 : decode cX7_told 21 = .ok (.ireturn, 1) := by decide +kernel
theorem dX7_refuse_0 : decode cX7_refuse 0 = .ok (.iload_n 1, 1) := by decide +kernel
theorem dX7_refuse_1 : decode cX7_refuse 1 = .ok (.iconst 1, 1) := by decide +kernel
theorem dX7_refuse_2 : decode cX7_refuse 2 = .ok (.iconst 5, 1) := by decide +kernel
theorem dX7_refuse_3 : decode cX7_refuse 3 = .ok (.invokestatic 126, 3) := by decide +kernel
theorem dX7_refuse_6 : decode cX7_refuse 6 = .ok (.ifCond .eq 13, 3) := by decide +kernel
theorem dX7_refuse_9 : decode cX7_refuse 9 = .ok (.aload_n 0, 1) := by decide +kernel
theorem dX7_refuse_10 : decode cX7_refuse 10 = .ok (.getfield 56, 3) := by decide +kernel
theorem dX7_refuse_13 : decode cX7_refuse 13 = .ok (.iload_n 1, 1) := by decide +kernel
theorem dX7_refuse_14 : decode cX7_refuse 14 = .ok (.dup2, 1) := by decide +kernel
theorem dX7_refuse_15 : decode cX7_refuse 15 = .ok (.iaload, 1) := by decide +kernel
theorem dX7_refuse_16 : decode cX7_refuse 16 = .ok (.iconst 1, 1) := by decide +kernel
theorem dX7_refuse_17 : decode cX7_refuse 17 = .ok (.iadd, 1) := by decide +kernel
theorem dX7_refuse_18 : decode cX7_refuse 18 = .ok (.iastore, 1) := by decide +kernel
theorem dX7_refuse_19 : decode cX7_refuse 19 = .ok (.ldc_w 300, 3) := by decide +kernel
theorem dX7_refuse_22 : decode cX7_refuse 22 = .ok (.iload_n 1, 1) := by decide +kernel
theorem dX7_refuse_23 : decode cX7_refuse 23 = .ok (.isub, 1) := by decide +kernel
theorem dX7_refuse_24 : decode cX7_refuse 24 = .ok (.ireturn, 1) := by decide +kernel
theorem dX7_replace_0 : decode cX7_replace 0 = .ok (.iload_n 3, 1) := by decide +kernel
theorem dX7_replace_1 : decode cX7_replace 1 = .ok (.iconst 0, 1) := by decide +kernel
theorem dX7_replace_2 : decode cX7_replace 2 = .ok (.iload 4, 2) := by decide +kernel
theorem dX7_replace_4 : decode cX7_replace 4 = .ok (.invokestatic 126, 3) := by decide +kernel
theorem dX7_replace_7 : decode cX7_replace 7 = .ok (.ifCond .eq 15, 3) := by decide +kernel
theorem dX7_replace_10 : decode cX7_replace 10 = .ok (.iload_n 2, 1) := by decide +kernel
theorem dX7_replace_11 : decode cX7_replace 11 = .ok (.iconst 0, 1) := by decide +kernel
theorem dX7_replace_12 : decode cX7_replace 12 = .ok (.aload_n 1, 1) := by decide +kernel
theorem dX7_replace_13 : decode cX7_replace 13 = .ok (.arraylength, 1) := by decide +kernel
theorem dX7_replace_14 : decode cX7_replace 14 = .ok (.iconst 1, 1) := by decide +kernel
theorem dX7_replace_15 : decode cX7_replace 15 = .ok (.isub, 1) := by decide +kernel
theorem dX7_replace_16 : decode cX7_replace 16 = .ok (.invokestatic 126, 3) := by decide +kernel
theorem dX7_replace_19 : decode cX7_replace 19 = .ok (.ifCond .ne 9, 3) := by decide +kernel
theorem dX7_replace_22 : decode cX7_replace 22 = .ok (.aload_n 0, 1) := by decide +kernel
theorem dX7_replace_23 : decode cX7_replace 23 = .ok (.iconst 1, 1) := by decide +kernel
theorem dX7_replace_24 : decode cX7_replace 24 = .ok (.invokevirtual 74, 3) := by decide +kernel
theorem dX7_replace_27 : decode cX7_replace 27 = .ok (.ireturn, 1) := by decide +kernel
theorem dX7_replace_28 : decode cX7_replace 28 = .ok (.aload_n 1, 1) := by decide +kernel
theorem dX7_replace_29 : decode cX7_replace 29 = .ok (.iload_n 2, 1) := by decide +kernel
theorem dX7_replace_30 : decode cX7_replace 30 = .ok (.iaload, 1) := by decide +kernel
theorem dX7_replace_31 : decode cX7_replace 31 = .ok (.istore 5, 2) := by decide +kernel
theorem dX7_replace_33 : decode cX7_replace 33 = .ok (.aload_n 1, 1) := by decide +kernel
theorem dX7_replace_34 : decode cX7_replace 34 = .ok (.iload_n 2, 1) := by decide +kernel
theorem dX7_replace_35 : decode cX7_replace 35 = .ok (.iload_n 3, 1) := by decide +kernel
theorem dX7_replace_36 : decode cX7_replace 36 = .ok (.iastore, 1) := by decide +kernel
theorem dX7_replace_37 : decode cX7_replace 37 = .ok (.iload 5, 2) := by decide +kernel
theorem dX7_replace_39 : decode cX7_replace 39 = .ok (.ireturn, 1) := by decide +kernel
theorem dX7_isSoul_0 : decode cX7_isSoul 0 = .ok (.iload_n 1, 1) := by decide +kernel
theorem dX7_isSoul_1 : decode cX7_isSoul 1 = .ok (.iconst 0, 1) := by decide +kernel
theorem dX7_isSoul_2 : decode cX7_isSoul 2 = .ok (.aload_n 0, 1) := by decide +kernel
theorem dX7_isSoul_3 : decode cX7_isSoul 3 = .ok (.getfield 10, 3) := by decide +kernel
theorem dX7_isSoul_6 : decode cX7_isSoul 6 = .ok (.getfield 78, 3) := by decide +kernel
theorem dX7_isSoul_9 : decode cX7_isSoul 9 = .ok (.getfield 81, 3) := by decide +kernel
theorem dX7_isSoul_12 : decode cX7_isSoul 12 = .ok (.iconst 1, 1) := by decide +kernel
theorem dX7_isSoul_13 : decode cX7_isSoul 13 = .ok (.isub, 1) := by decide +kernel
theorem dX7_isSoul_14 : decode cX7_isSoul 14 = .ok (.invokestatic 126, 3) := by decide +kernel
theorem dX7_isSoul_17 : decode cX7_isSoul 17 = .ok (.ireturn, 1) := by decide +kernel
theorem dX7_rowOf_0 : decode cX7_rowOf 0 = .ok (.iload_n 1, 1) := by decide +kernel
theorem dX7_rowOf_1 : decode cX7_rowOf 1 = .ok (.iconst 0, 1) := by decide +kernel
theorem dX7_rowOf_2 : decode cX7_rowOf 2 = .ok (.iconst 3, 1) := by decide +kernel
theorem dX7_rowOf_3 : decode cX7_rowOf 3 = .ok (.invokestatic 126, 3) := by decide +kernel
theorem dX7_rowOf_6 : decode cX7_rowOf 6 = .ok (.ifCond .eq 12, 3) := by decide +kernel
theorem dX7_rowOf_9 : decode cX7_rowOf 9 = .ok (.aload_n 0, 1) := by decide +kernel
theorem dX7_rowOf_10 : decode cX7_rowOf 10 = .ok (.getfield 51, 3) := by decide +kernel
theorem dX7_rowOf_13 : decode cX7_rowOf 13 = .ok (.iload_n 1, 1) := by decide +kernel
theorem dX7_rowOf_14 : decode cX7_rowOf 14 = .ok (.aaload, 1) := by decide +kernel
theorem dX7_rowOf_15 : decode cX7_rowOf 15 = .ok (.goto 4, 3) := by decide +kernel
theorem dX7_rowOf_18 : decode cX7_rowOf 18 = .ok (.aconst_null, 1) := by decide +kernel
theorem dX7_rowOf_19 : decode cX7_rowOf 19 = .ok (.areturn, 1) := by decide +kernel
theorem dX7_think_0 : decode cX7_think 0 = .ok (.aload_n 0, 1) := by decide +kernel
theorem dX7_think_1 : decode cX7_think 1 = .ok (.getfield 31, 3) := by decide +kernel
theorem dX7_think_4 : decode cX7_think 4 = .ok (.aload_n 0, 1) := by decide +kernel
theorem dX7_think_5 : decode cX7_think 5 = .ok (.getfield 10, 3) := by decide +kernel
theorem dX7_think_8 : decode cX7_think 8 = .ok (.getfield 78, 3) := by decide +kernel
theorem dX7_think_11 : decode cX7_think 11 = .ok (.invokevirtual 301, 3) := by decide +kernel
theorem dX7_think_14 : decode cX7_think 14 = .ok (.return_, 1) := by decide +kernel
theorem dX7_countTimesFree_0 : decode cX7_countTimesFree 0 = .ok (.aload_n 0, 1) := by decide +kernel
theorem dX7_countTimesFree_1 : decode cX7_countTimesFree 1 = .ok (.invokevirtual 206, 3) := by decide +kernel
theorem dX7_countTimesFree_4 : decode cX7_countTimesFree 4 = .ok (.iconst 0, 1) := by decide +kernel
theorem dX7_countTimesFree_5 : decode cX7_countTimesFree 5 = .ok (.istore_n 2, 1) := by decide +kernel
theorem dX7_countTimesFree_6 : decode cX7_countTimesFree 6 = .ok (.iload_n 2, 1) := by decide +kernel
theorem dX7_countTimesFree_7 : decode cX7_countTimesFree 7 = .ok (.aload_n 0, 1) := by decide +kernel
theorem dX7_countTimesFree_8 : decode cX7_countTimesFree 8 = .ok (.getfield 31, 3) := by decide +kernel
theorem dX7_countTimesFree_11 : decode cX7_countTimesFree 11 = .ok (.getfield 81, 3) := by decide +kernel
theorem dX7_countTimesFree_14 : decode cX7_countTimesFree 14 = .ok (.if_icmp .ge 16, 3) := by decide +kernel
theorem dX7_countTimesFree_17 : decode cX7_countTimesFree 17 = .ok (.aload_n 0, 1) := by decide +kernel
theorem dX7_countTimesFree_18 : decode cX7_countTimesFree 18 = .ok (.getfield 60, 3) := by decide +kernel
theorem dX7_countTimesFree_21 : decode cX7_countTimesFree 21 = .ok (.iload_n 2, 1) := by decide +kernel
theorem dX7_countTimesFree_22 : decode cX7_countTimesFree 22 = .ok (.iconst 0, 1) := by decide +kernel
theorem dX7_countTimesFree_23 : decode cX7_countTimesFree 23 = .ok (.iastore, 1) := by decide +kernel
theorem dX7_countTimesFree_24 : decode cX7_countTimesFree 24 = .ok (.iinc 2 1, 3) := by decide +kernel
theorem dX7_countTimesFree_27 : decode cX7_countTimesFree 27 = .ok (.goto (-21), 3) := by decide +kernel
theorem dX7_countTimesFree_30 : decode cX7_countTimesFree 30 = .ok (.iconst 0, 1) := by decide +kernel
theorem dX7_countTimesFree_31 : decode cX7_countTimesFree 31 = .ok (.istore_n 2, 1) := by decide +kernel
theorem dX7_countTimesFree_32 : decode cX7_countTimesFree 32 = .ok (.iload_n 2, 1) := by decide +kernel
theorem dX7_countTimesFree_33 : decode cX7_countTimesFree 33 = .ok (.iload_n 1, 1) := by decide +kernel
theorem dX7_countTimesFree_34 : decode cX7_countTimesFree 34 = .ok (.if_icmp .ge 62, 3) := by decide +kernel
theorem dX7_countTimesFree_37 : decode cX7_countTimesFree 37 = .ok (.aload_n 0, 1) := by decide +kernel
theorem dX7_countTimesFree_38 : decode cX7_countTimesFree 38 = .ok (.getfield 31, 3) := by decide +kernel
theorem dX7_countTimesFree_41 : decode cX7_countTimesFree 41 = .ok (.iconst 1, 1) := by decide +kernel
theorem dX7_countTimesFree_42 : decode cX7_countTimesFree 42 = .ok (.invokevirtual 196, 3) := by decide +kernel
theorem dX7_countTimesFree_45 : decode cX7_countTimesFree 45 = .ok (.iconst 0, 1) := by decide +kernel
theorem dX7_countTimesFree_46 : decode cX7_countTimesFree 46 = .ok (.istore_n 3, 1) := by decide +kernel
theorem dX7_countTimesFree_47 : decode cX7_countTimesFree 47 = .ok (.iload_n 3, 1) := by decide +kernel
theorem dX7_countTimesFree_48 : decode cX7_countTimesFree 48 = .ok (.aload_n 0, 1) := by decide +kernel
theorem dX7_countTimesFree_49 : decode cX7_countTimesFree 49 = .ok (.getfield 31, 3) := by decide +kernel
theorem dX7_countTimesFree_52 : decode cX7_countTimesFree 52 = .ok (.getfield 81, 3) := by decide +kernel
theorem dX7_countTimesFree_55 : decode cX7_countTimesFree 55 = .ok (.if_icmp .ge 35, 3) := by decide +kernel
theorem dX7_countTimesFree_58 : decode cX7_countTimesFree 58 = .ok (.aload_n 0, 1) := by decide +kernel
theorem dX7_countTimesFree_59 : decode cX7_countTimesFree 59 = .ok (.getfield 60, 3) := by decide +kernel
theorem dX7_countTimesFree_62 : decode cX7_countTimesFree 62 = .ok (.iload_n 3, 1) := by decide +kernel
theorem dX7_countTimesFree_63 : decode cX7_countTimesFree 63 = .ok (.dup2, 1) := by decide +kernel
theorem dX7_countTimesFree_64 : decode cX7_countTimesFree 64 = .ok (.iaload, 1) := by decide +kernel
theorem dX7_countTimesFree_65 : decode cX7_countTimesFree 65 = .ok (.aload_n 0, 1) := by decide +kernel
theorem dX7_countTimesFree_66 : decode cX7_countTimesFree 66 = .ok (.getfield 31, 3) := by decide +kernel
theorem dX7_countTimesFree_69 : decode cX7_countTimesFree 69 = .ok (.getfield 100, 3) := by decide +kernel
theorem dX7_countTimesFree_72 : decode cX7_countTimesFree 72 = .ok (.iload_n 3, 1) := by decide +kernel
theorem dX7_countTimesFree_73 : decode cX7_countTimesFree 73 = .ok (.iaload, 1) := by decide +kernel
theorem dX7_countTimesFree_74 : decode cX7_countTimesFree 74 = .ok (.ifCond .le 7, 3) := by decide +kernel
theorem dX7_countTimesFree_77 : decode cX7_countTimesFree 77 = .ok (.iconst 1, 1) := by decide +kernel
theorem dX7_countTimesFree_78 : decode cX7_countTimesFree 78 = .ok (.goto 4, 3) := by decide +kernel
theorem dX7_countTimesFree_81 : decode cX7_countTimesFree 81 = .ok (.iconst 0, 1) := by decide +kernel
theorem dX7_countTimesFree_82 : decode cX7_countTimesFree 82 = .ok (.iadd, 1) := by decide +kernel
theorem dX7_countTimesFree_83 : decode cX7_countTimesFree 83 = .ok (.iastore, 1) := by decide +kernel
theorem dX7_countTimesFree_84 : decode cX7_countTimesFree 84 = .ok (.iinc 3 1, 3) := by decide +kernel
theorem dX7_countTimesFree_87 : decode cX7_countTimesFree 87 = .ok (.goto (-40), 3) := by decide +kernel
theorem dX7_countTimesFree_90 : decode cX7_countTimesFree 90 = .ok (.iinc 2 1, 3) := by decide +kernel
theorem dX7_countTimesFree_93 : decode cX7_countTimesFree 93 = .ok (.goto (-61), 3) := by decide +kernel
theorem dX7_countTimesFree_96 : decode cX7_countTimesFree 96 = .ok (.return_, 1) := by decide +kernel
theorem dX7_staysAway_0 : decode cX7_staysAway 0 = .ok (.aload_n 0, 1) := by decide +kernel
theorem dX7_staysAway_1 : decode cX7_staysAway 1 = .ok (.invokevirtual 206, 3) := by decide +kernel
theorem dX7_staysAway_4 : decode cX7_staysAway 4 = .ok (.aload_n 0, 1) := by decide +kernel
theorem dX7_staysAway_5 : decode cX7_staysAway 5 = .ok (.getfield 31, 3) := by decide +kernel
theorem dX7_staysAway_8 : decode cX7_staysAway 8 = .ok (.iload_n 3, 1) := by decide +kernel
theorem dX7_staysAway_9 : decode cX7_staysAway 9 = .ok (.invokevirtual 304, 3) := by decide +kernel
theorem dX7_staysAway_12 : decode cX7_staysAway 12 = .ok (.iconst 0, 1) := by decide +kernel
theorem dX7_staysAway_13 : decode cX7_staysAway 13 = .ok (.istore 4, 2) := by decide +kernel
theorem dX7_staysAway_15 : decode cX7_staysAway 15 = .ok (.iload 4, 2) := by decide +kernel
theorem dX7_staysAway_17 : decode cX7_staysAway 17 = .ok (.iload_n 2, 1) := by decide +kernel
theorem dX7_staysAway_18 : decode cX7_staysAway 18 = .ok (.if_icmp .ge 30, 3) := by decide +kernel
theorem dX7_staysAway_21 : decode cX7_staysAway 21 = .ok (.aload_n 0, 1) := by decide +kernel
theorem dX7_staysAway_22 : decode cX7_staysAway 22 = .ok (.getfield 31, 3) := by decide +kernel
theorem dX7_staysAway_25 : decode cX7_staysAway 25 = .ok (.iconst 1, 1) := by decide +kernel
theorem dX7_staysAway_26 : decode cX7_staysAway 26 = .ok (.invokevirtual 196, 3) := by decide +kernel
theorem dX7_staysAway_29 : decode cX7_staysAway 29 = .ok (.aload_n 0, 1) := by decide +kernel
theorem dX7_staysAway_30 : decode cX7_staysAway 30 = .ok (.getfield 31, 3) := by decide +kernel
theorem dX7_staysAway_33 : decode cX7_staysAway 33 = .ok (.iload_n 1, 1) := by decide +kernel
theorem dX7_staysAway_34 : decode cX7_staysAway 34 = .ok (.invokevirtual 143, 3) := by decide +kernel
theorem dX7_staysAway_37 : decode cX7_staysAway 37 = .ok (.ifCond .eq 5, 3) := by decide +kernel
theorem dX7_staysAway_40 : decode cX7_staysAway 40 = .ok (.iconst 0, 1) := by decide +kernel
theorem dX7_staysAway_41 : decode cX7_staysAway 41 = .ok (.ireturn, 1) := by decide +kernel
theorem dX7_staysAway_42 : decode cX7_staysAway 42 = .ok (.iinc 4 1, 3) := by decide +kernel
theorem dX7_staysAway_45 : decode cX7_staysAway 45 = .ok (.goto (-30), 3) := by decide +kernel
theorem dX7_staysAway_48 : decode cX7_staysAway 48 = .ok (.iconst 1, 1) := by decide +kernel
theorem dX7_staysAway_49 : decode cX7_staysAway 49 = .ok (.ireturn, 1) := by decide +kernel
theorem dX7_canHaveComeBy_0 : decode cX7_canHaveComeBy 0 = .ok (.aload_n 0, 1) := by decide +kernel
theorem dX7_canHaveComeBy_1 : decode cX7_canHaveComeBy 1 = .ok (.invokevirtual 206, 3) := by decide +kernel
theorem dX7_canHaveComeBy_4 : decode cX7_canHaveComeBy 4 = .ok (.aload_n 0, 1) := by decide +kernel
theorem dX7_canHaveComeBy_5 : decode cX7_canHaveComeBy 5 = .ok (.getfield 31, 3) := by decide +kernel
theorem dX7_canHaveComeBy_8 : decode cX7_canHaveComeBy 8 = .ok (.iload_n 1, 1) := by decide +kernel
theorem dX7_canHaveComeBy_9 : decode cX7_canHaveComeBy 9 = .ok (.invokevirtual 307, 3) := by decide +kernel
theorem dX7_canHaveComeBy_12 : decode cX7_canHaveComeBy 12 = .ok (.aload_n 0, 1) := by decide +kernel
theorem dX7_canHaveComeBy_13 : decode cX7_canHaveComeBy 13 = .ok (.getfield 31, 3) := by decide +kernel
theorem dX7_canHaveComeBy_16 : decode cX7_canHaveComeBy 16 = .ok (.iload_n 3, 1) := by decide +kernel
theorem dX7_canHaveComeBy_17 : decode cX7_canHaveComeBy 17 = .ok (.invokevirtual 196, 3) := by decide +kernel
theorem dX7_canHaveComeBy_20 : decode cX7_canHaveComeBy 20 = .ok (.iconst 0, 1) := by decide +kernel
theorem dX7_canHaveComeBy_21 : decode cX7_canHaveComeBy 21 = .ok (.istore 4, 2) := by decide +kernel
theorem dX7_canHaveComeBy_23 : decode cX7_canHaveComeBy 23 = .ok (.iload 4, 2) := by decide +kernel
theorem dX7_canHaveComeBy_25 : decode cX7_canHaveComeBy 25 = .ok (.aload_n 0, 1) := by decide +kernel
theorem dX7_canHaveComeBy_26 : decode cX7_canHaveComeBy 26 = .ok (.getfield 31, 3) := by decide +kernel
theorem dX7_canHaveComeBy_29 : decode cX7_canHaveComeBy 29 = .ok (.getfield 81, 3) := by decide +kernel
theorem dX7_canHaveComeBy_32 : decode cX7_canHaveComeBy 32 = .ok (.if_icmp .ge 31, 3) := by decide +kernel
theorem dX7_canHaveComeBy_35 : decode cX7_canHaveComeBy 35 = .ok (.aload_n 0, 1) := by decide +kernel
theorem dX7_canHaveComeBy_36 : decode cX7_canHaveComeBy 36 = .ok (.getfield 31, 3) := by decide +kernel
theorem dX7_canHaveComeBy_39 : decode cX7_canHaveComeBy 39 = .ok (.getfield 100, 3) := by decide +kernel
theorem dX7_canHaveComeBy_42 : decode cX7_canHaveComeBy 42 = .ok (.iload 4, 2) := by decide +kernel
theorem dX7_canHaveComeBy_44 : decode cX7_canHaveComeBy 44 = .ok (.iaload, 1) := by decide +kernel
theorem dX7_canHaveComeBy_45 : decode cX7_canHaveComeBy 45 = .ok (.aload_n 2, 1) := by decide +kernel
theorem dX7_canHaveComeBy_46 : decode cX7_canHaveComeBy 46 = .ok (.getfield 229, 3) := by decide +kernel
theorem dX7_canHaveComeBy_49 : decode cX7_canHaveComeBy 49 = .ok (.iload 4, 2) := by decide +kernel
theorem dX7_canHaveComeBy_51 : decode cX7_canHaveComeBy 51 = .ok (.iaload, 1) := by decide +kernel
theorem dX7_canHaveComeBy_52 : decode cX7_canHaveComeBy 52 = .ok (.if_icmp .eq 5, 3) := by decide +kernel
theorem dX7_canHaveComeBy_55 : decode cX7_canHaveComeBy 55 = .ok (.iconst 0, 1) := by decide +kernel
theorem dX7_canHaveComeBy_56 : decode cX7_canHaveComeBy 56 = .ok (.ireturn, 1) := by decide +kernel
theorem dX7_canHaveComeBy_57 : decode cX7_canHaveComeBy 57 = .ok (.iinc 4 1, 3) := by decide +kernel
theorem dX7_canHaveComeBy_60 : decode cX7_canHaveComeBy 60 = .ok (.goto (-37), 3) := by decide +kernel
theorem dX7_canHaveComeBy_63 : decode cX7_canHaveComeBy 63 = .ok (.iconst 1, 1) := by decide +kernel
theorem dX7_canHaveComeBy_64 : decode cX7_canHaveComeBy 64 = .ok (.ireturn, 1) := by decide +kernel
theorem dX7_hoursWith_0 : decode cX7_hoursWith 0 = .ok (.aload_n 0, 1) := by decide +kernel
theorem dX7_hoursWith_1 : decode cX7_hoursWith 1 = .ok (.invokevirtual 206, 3) := by decide +kernel
theorem dX7_hoursWith_4 : decode cX7_hoursWith 4 = .ok (.aload_n 0, 1) := by decide +kernel
theorem dX7_hoursWith_5 : decode cX7_hoursWith 5 = .ok (.getfield 31, 3) := by decide +kernel
theorem dX7_hoursWith_8 : decode cX7_hoursWith 8 = .ok (.getfield 97, 3) := by decide +kernel
theorem dX7_hoursWith_11 : decode cX7_hoursWith 11 = .ok (.iload_n 3, 1) := by decide +kernel
theorem dX7_hoursWith_12 : decode cX7_hoursWith 12 = .ok (.iload 4, 2) := by decide +kernel
theorem dX7_hoursWith_14 : decode cX7_hoursWith 14 = .ok (.iastore, 1) := by decide +kernel
theorem dX7_hoursWith_15 : decode cX7_hoursWith 15 = .ok (.aload_n 0, 1) := by decide +kernel
theorem dX7_hoursWith_16 : decode cX7_hoursWith 16 = .ok (.getfield 31, 3) := by decide +kernel
theorem dX7_hoursWith_19 : decode cX7_hoursWith 19 = .ok (.iload_n 2, 1) := by decide +kernel
theorem dX7_hoursWith_20 : decode cX7_hoursWith 20 = .ok (.invokevirtual 196, 3) := by decide +kernel
theorem dX7_hoursWith_23 : decode cX7_hoursWith 23 = .ok (.aload_n 0, 1) := by decide +kernel
theorem dX7_hoursWith_24 : decode cX7_hoursWith 24 = .ok (.getfield 31, 3) := by decide +kernel
theorem dX7_hoursWith_27 : decode cX7_hoursWith 27 = .ok (.getfield 100, 3) := by decide +kernel
theorem dX7_hoursWith_30 : decode cX7_hoursWith 30 = .ok (.iload_n 1, 1) := by decide +kernel
theorem dX7_hoursWith_31 : decode cX7_hoursWith 31 = .ok (.iaload, 1) := by decide +kernel
theorem dX7_hoursWith_32 : decode cX7_hoursWith 32 = .ok (.ireturn, 1) := by decide +kernel
theorem dX7_firstWrongOfWaiting_0 : decode cX7_firstWrongOfWaiting 0 = .ok (.aload_n 0, 1) := by decide +kernel
theorem dX7_firstWrongOfWaiting_1 : decode cX7_firstWrongOfWaiting 1 = .ok (.invokevirtual 206, 3) := by decide +kernel
theorem dX7_firstWrongOfWaiting_4 : decode cX7_firstWrongOfWaiting 4 = .ok (.iconst 0, 1) := by decide +kernel
theorem dX7_firstWrongOfWaiting_5 : decode cX7_firstWrongOfWaiting 5 = .ok (.istore_n 1, 1) := by decide +kernel
theorem dX7_firstWrongOfWaiting_6 : decode cX7_firstWrongOfWaiting 6 = .ok (.iload_n 1, 1) := by decide +kernel
theorem dX7_firstWrongOfWaiting_7 : decode cX7_firstWrongOfWaiting 7 = .ok (.aload_n 0, 1) := by decide +kernel
theorem dX7_firstWrongOfWaiting_8 : decode cX7_firstWrongOfWaiting 8 = .ok (.getfield 10, 3) := by decide +kernel
theorem dX7_firstWrongOfWaiting_11 : decode cX7_firstWrongOfWaiting 11 = .ok (.getfield 291, 3) := by decide +kernel
theorem dX7_firstWrongOfWaiting_14 : decode cX7_firstWrongOfWaiting 14 = .ok (.getfield 156, 3) := by decide +kernel
theorem dX7_firstWrongOfWaiting_17 : decode cX7_firstWrongOfWaiting 17 = .ok (.if_icmp .ge 41, 3) := by decide +kernel
theorem dX7_firstWrongOfWaiting_20 : decode cX7_firstWrongOfWaiting 20 = .ok (.aload_n 0, 1) := by decide +kernel
theorem dX7_firstWrongOfWaiting_21 : decode cX7_firstWrongOfWaiting 21 = .ok (.getfield 31, 3) := by decide +kernel
theorem dX7_firstWrongOfWaiting_24 : decode cX7_firstWrongOfWaiting 24 = .ok (.iconst 1, 1) := by decide +kernel
theorem dX7_firstWrongOfWaiting_25 : decode cX7_firstWrongOfWaiting 25 = .ok (.invokevirtual 196, 3) := by decide +kernel
theorem dX7_firstWrongOfWaiting_28 : decode cX7_firstWrongOfWaiting 28 = .ok (.aload_n 0, 1) := by decide +kernel
theorem dX7_firstWrongOfWaiting_29 : decode cX7_firstWrongOfWaiting 29 = .ok (.getfield 31, 3) := by decide +kernel
theorem dX7_firstWrongOfWaiting_32 : decode cX7_firstWrongOfWaiting 32 = .ok (.invokevirtual 199, 3) := by decide +kernel
theorem dX7_firstWrongOfWaiting_35 : decode cX7_firstWrongOfWaiting 35 = .ok (.aload_n 0, 1) := by decide +kernel
theorem dX7_firstWrongOfWaiting_36 : decode cX7_firstWrongOfWaiting 36 = .ok (.getfield 10, 3) := by decide +kernel
theorem dX7_firstWrongOfWaiting_39 : decode cX7_firstWrongOfWaiting 39 = .ok (.getfield 291, 3) := by decide +kernel
theorem dX7_firstWrongOfWaiting_42 : decode cX7_firstWrongOfWaiting 42 = .ok (.getfield 262, 3) := by decide +kernel
theorem dX7_firstWrongOfWaiting_45 : decode cX7_firstWrongOfWaiting 45 = .ok (.iload_n 1, 1) := by decide +kernel
theorem dX7_firstWrongOfWaiting_46 : decode cX7_firstWrongOfWaiting 46 = .ok (.iaload, 1) := by decide +kernel
theorem dX7_firstWrongOfWaiting_47 : decode cX7_firstWrongOfWaiting 47 = .ok (.if_icmp .eq 5, 3) := by decide +kernel
theorem dX7_firstWrongOfWaiting_50 : decode cX7_firstWrongOfWaiting 50 = .ok (.iload_n 1, 1) := by decide +kernel
theorem dX7_firstWrongOfWaiting_51 : decode cX7_firstWrongOfWaiting 51 = .ok (.ireturn, 1) := by decide +kernel
theorem dX7_firstWrongOfWaiting_52 : decode cX7_firstWrongOfWaiting 52 = .ok (.iinc 1 1, 3) := by decide +kernel
theorem dX7_firstWrongOfWaiting_55 : decode cX7_firstWrongOfWaiting 55 = .ok (.goto (-49), 3) := by decide +kernel
theorem dX7_firstWrongOfWaiting_58 : decode cX7_firstWrongOfWaiting 58 = .ok (.iconst (-1), 1) := by decide +kernel
theorem dX7_firstWrongOfWaiting_59 : decode cX7_firstWrongOfWaiting 59 = .ok (.ireturn, 1) := by decide +kernel
theorem dX7_within_0 : decode cX7_within 0 = .ok (.iload_n 0, 1) := by decide +kernel
theorem dX7_within_1 : decode cX7_within 1 = .ok (.iload_n 1, 1) := by decide +kernel
theorem dX7_within_2 : decode cX7_within 2 = .ok (.if_icmp .lt 12, 3) := by decide +kernel
theorem dX7_within_5 : decode cX7_within 5 = .ok (.iload_n 0, 1) := by decide +kernel
theorem dX7_within_6 : decode cX7_within 6 = .ok (.iload_n 2, 1) := by decide +kernel
theorem dX7_within_7 : decode cX7_within 7 = .ok (.if_icmp .gt 7, 3) := by decide +kernel
theorem dX7_within_10 : decode cX7_within 10 = .ok (.iconst 1, 1) := by decide +kernel
theorem dX7_within_11 : decode cX7_within 11 = .ok (.goto 4, 3) := by decide +kernel
theorem dX7_within_14 : decode cX7_within 14 = .ok (.iconst 0, 1) := by decide +kernel
theorem dX7_within_15 : decode cX7_within 15 = .ok (.ireturn, 1) := by decide +kernel
theorem dX7_held_0 : decode cX7_held 0 = .ok (.iload_n 1, 1) := by decide +kernel
theorem dX7_held_1 : decode cX7_held 1 = .ok (.iload_n 2, 1) := by decide +kernel
theorem dX7_held_2 : decode cX7_held 2 = .ok (.iload_n 0, 1) := by decide +kernel
theorem dX7_held_3 : decode cX7_held 3 = .ok (.invokestatic 283, 3) := by decide +kernel
theorem dX7_held_6 : decode cX7_held 6 = .ok (.invokestatic 310, 3) := by decide +kernel
theorem dX7_held_9 : decode cX7_held 9 = .ok (.ireturn, 1) := by decide +kernel
theorem dX7_isStreet_0 : decode cX7_isStreet 0 = .ok (.iload_n 0, 1) := by decide +kernel
theorem dX7_isStreet_1 : decode cX7_isStreet 1 = .ok (.iconst 0, 1) := by decide +kernel
theorem dX7_isStreet_2 : decode cX7_isStreet 2 = .ok (.bipush 7, 2) := by decide +kernel
theorem dX7_isStreet_4 : decode cX7_isStreet 4 = .ok (.invokestatic 126, 3) := by decide +kernel
theorem dX7_isStreet_7 : decode cX7_isStreet 7 = .ok (.ireturn, 1) := by decide +kernel
theorem dX7_isKindAndNumber_0 : decode cX7_isKindAndNumber 0 = .ok (.iload_n 0, 1) := by decide +kernel
theorem dX7_isKindAndNumber_1 : decode cX7_isKindAndNumber 1 = .ok (.iconst 0, 1) := by decide +kernel
theorem dX7_isKindAndNumber_2 : decode cX7_isKindAndNumber 2 = .ok (.bipush 69, 2) := by decide +kernel
theorem dX7_isKindAndNumber_4 : decode cX7_isKindAndNumber 4 = .ok (.invokestatic 126, 3) := by decide +kernel
theorem dX7_isKindAndNumber_7 : decode cX7_isKindAndNumber 7 = .ok (.ireturn, 1) := by decide +kernel
theorem dX7_isUse_0 : decode cX7_isUse 0 = .ok (.iload_n 0, 1) := by decide +kernel
theorem dX7_isUse_1 : decode cX7_isUse 1 = .ok (.iconst 0, 1) := by decide +kernel
theorem dX7_isUse_2 : decode cX7_isUse 2 = .ok (.iconst 1, 1) := by decide +kernel
theorem dX7_isUse_3 : decode cX7_isUse 3 = .ok (.invokestatic 126, 3) := by decide +kernel
theorem dX7_isUse_6 : decode cX7_isUse 6 = .ok (.ireturn, 1) := by decide +kernel
theorem dX7_isEither_0 : decode cX7_isEither 0 = .ok (.iload_n 0, 1) := by decide +kernel
theorem dX7_isEither_1 : decode cX7_isEither 1 = .ok (.ifCond .eq 8, 3) := by decide +kernel
theorem dX7_isEither_4 : decode cX7_isEither 4 = .ok (.iload_n 0, 1) := by decide +kernel
theorem dX7_isEither_5 : decode cX7_isEither 5 = .ok (.iconst 1, 1) := by decide +kernel
theorem dX7_isEither_6 : decode cX7_isEither 6 = .ok (.if_icmp .ne 7, 3) := by decide +kernel
theorem dX7_isEither_9 : decode cX7_isEither 9 = .ok (.iconst 1, 1) := by decide +kernel
theorem dX7_isEither_10 : decode cX7_isEither 10 = .ok (.goto 4, 3) := by decide +kernel
theorem dX7_isEither_13 : decode cX7_isEither 13 = .ok (.iconst 0, 1) := by decide +kernel
theorem dX7_isEither_14 : decode cX7_isEither 14 = .ok (.ireturn, 1) := by decide +kernel
theorem dX7_isUnder_0 : decode cX7_isUnder 0 = .ok (.iload_n 0, 1) := by decide +kernel
theorem dX7_isUnder_1 : decode cX7_isUnder 1 = .ok (.istore_n 2, 1) := by decide +kernel
theorem dX7_isUnder_2 : decode cX7_isUnder 2 = .ok (.iconst 0, 1) := by decide +kernel
theorem dX7_isUnder_3 : decode cX7_isUnder 3 = .ok (.istore_n 3, 1) := by decide +kernel
theorem dX7_isUnder_4 : decode cX7_isUnder 4 = .ok (.iload_n 3, 1) := by decide +kernel
theorem dX7_isUnder_5 : decode cX7_isUnder 5 = .ok (.iconst 3, 1) := by decide +kernel
theorem dX7_isUnder_6 : decode cX7_isUnder 6 = .ok (.if_icmp .ge 32, 3) := by decide +kernel
theorem dX7_isUnder_9 : decode cX7_isUnder 9 = .ok (.iload_n 2, 1) := by decide +kernel
theorem dX7_isUnder_10 : decode cX7_isUnder 10 = .ok (.iconst 0, 1) := by decide +kernel
theorem dX7_isUnder_11 : decode cX7_isUnder 11 = .ok (.bipush 6, 2) := by decide +kernel
theorem dX7_isUnder_13 : decode cX7_isUnder 13 = .ok (.invokestatic 126, 3) := by decide +kernel
theorem dX7_isUnder_16 : decode cX7_isUnder 16 = .ok (.ifCond .eq 22, 3) := by decide +kernel
theorem dX7_isUnder_19 : decode cX7_isUnder 19 = .ok (.iload_n 2, 1) := by decide +kernel
theorem dX7_isUnder_20 : decode cX7_isUnder 20 = .ok (.iload_n 1, 1) := by decide +kernel
theorem dX7_isUnder_21 : decode cX7_isUnder 21 = .ok (.if_icmp .ne 5, 3) := by decide +kernel
theorem dX7_isUnder_24 : decode cX7_isUnder 24 = .ok (.iconst 1, 1) := by decide +kernel
theorem dX7_isUnder_25 : decode cX7_isUnder 25 = .ok (.ireturn, 1) := by decide +kernel
theorem dX7_isUnder_26 : decode cX7_isUnder 26 = .ok (.getstatic 313, 3) := by decide +kernel
theorem dX7_isUnder_29 : decode cX7_isUnder 29 = .ok (.iload_n 2, 1) := by decide +kernel
theorem dX7_isUnder_30 : decode cX7_isUnder 30 = .ok (.iaload, 1) := by decide +kernel
theorem dX7_isUnder_31 : decode cX7_isUnder 31 = .ok (.istore_n 2, 1) := by decide +kernel
theorem dX7_isUnder_32 : decode cX7_isUnder 32 = .ok (.iinc 3 1, 3) := by decide +kernel
theorem dX7_isUnder_35 : decode cX7_isUnder 35 = .ok (.goto (-31), 3) := by decide +kernel
theorem dX7_isUnder_38 : decode cX7_isUnder 38 = .ok (.iconst 0, 1) := by decide +kernel
theorem dX7_isUnder_39 : decode cX7_isUnder 39 = .ok (.ireturn, 1) := by decide +kernel
theorem dX7_commonDivisor_0 : decode cX7_commonDivisor 0 = .ok (.iload_n 1, 1) := by decide +kernel
theorem dX7_commonDivisor_1 : decode cX7_commonDivisor 1 = .ok (.istore_n 2, 1) := by decide +kernel
theorem dX7_commonDivisor_2 : decode cX7_commonDivisor 2 = .ok (.iload_n 0, 1) := by decide +kernel
theorem dX7_commonDivisor_3 : decode cX7_commonDivisor 3 = .ok (.istore_n 3, 1) := by decide +kernel
theorem dX7_commonDivisor_4 : decode cX7_commonDivisor 4 = .ok (.iconst 0, 1) := by decide +kernel
theorem dX7_commonDivisor_5 : decode cX7_commonDivisor 5 = .ok (.istore 4, 2) := by decide +kernel
theorem dX7_commonDivisor_7 : decode cX7_commonDivisor 7 = .ok (.iload 4, 2) := by decide +kernel
theorem dX7_commonDivisor_9 : decode cX7_commonDivisor 9 = .ok (.bipush 60, 2) := by decide +kernel
theorem dX7_commonDivisor_11 : decode cX7_commonDivisor 11 = .ok (.if_icmp .ge 23, 3) := by decide +kernel
theorem dX7_commonDivisor_14 : decode cX7_commonDivisor 14 = .ok (.iload_n 3, 1) := by decide +kernel
theorem dX7_commonDivisor_15 : decode cX7_commonDivisor 15 = .ok (.ifCond .le 19, 3) := by decide +kernel
theorem dX7_commonDivisor_18 : decode cX7_commonDivisor 18 = .ok (.iload_n 2, 1) := by decide +kernel
theorem dX7_commonDivisor_19 : decode cX7_commonDivisor 19 = .ok (.iload_n 3, 1) := by decide +kernel
theorem dX7_commonDivisor_20 : decode cX7_commonDivisor 20 = .ok (.irem, 1) := by decide +kernel
theorem dX7_commonDivisor_21 : decode cX7_commonDivisor 21 = .ok (.istore 5, 2) := by decide +kernel
theorem dX7_commonDivisor_23 : decode cX7_commonDivisor 23 = .ok (.iload_n 3, 1) := by decide +kernel
theorem dX7_commonDivisor_24 : decode cX7_commonDivisor 24 = .ok (.istore_n 2, 1) := by decide +kernel
theorem dX7_commonDivisor_25 : decode cX7_commonDivisor 25 = .ok (.iload 5, 2) := by decide +kernel
theorem dX7_commonDivisor_27 : decode cX7_commonDivisor 27 = .ok (.istore_n 3, 1) := by decide +kernel
theorem dX7_commonDivisor_28 : decode cX7_commonDivisor 28 = .ok (.iinc 4 1, 3) := by decide +kernel
theorem dX7_commonDivisor_31 : decode cX7_commonDivisor 31 = .ok (.goto (-24), 3) := by decide +kernel
theorem dX7_commonDivisor_34 : decode cX7_commonDivisor 34 = .ok (.iconst 1, 1) := by decide +kernel
theorem dX7_commonDivisor_35 : decode cX7_commonDivisor 35 = .ok (.iload_n 2, 1) := by decide +kernel
theorem dX7_commonDivisor_36 : decode cX7_commonDivisor 36 = .ok (.invokestatic 310, 3) := by decide +kernel
theorem dX7_commonDivisor_39 : decode cX7_commonDivisor 39 = .ok (.ireturn, 1) := by decide +kernel
theorem dX8_init_0 : decode cX8_init 0 = .ok (.aload_n 0, 1) := by decide +kernel
theorem dX8_init_1 : decode cX8_init 1 = .ok (.invokespecial 3, 3) := by decide +kernel
theorem dX8_init_4 : decode cX8_init 4 = .ok (.aload_n 0, 1) := by decide +kernel
theorem dX8_init_5 : decode cX8_init 5 = .ok (.sipush 228, 3) := by decide +kernel
theorem dX8_init_8 : decode cX8_init 8 = .ok (.newarray .int, 2) := by decide +kernel
theorem dX8_init_10 : decode cX8_init 10 = .ok (.putfield 9, 3) := by decide +kernel
theorem dX8_init_13 : decode cX8_init 13 = .ok (.aload_n 0, 1) := by decide +kernel
theorem dX8_init_14 : decode cX8_init 14 = .ok (.sipush 228, 3) := by decide +kernel
theorem dX8_init_17 : decode cX8_init 17 = .ok (.newarray .int, 2) := by decide +kernel
theorem dX8_init_19 : decode cX8_init 19 = .ok (.putfield 13, 3) := by decide +kernel
theorem dX8_init_22 : decode cX8_init 22 = .ok (.aload_n 0, 1) := by decide +kernel
theorem dX8_init_23 : decode cX8_init 23 = .ok (.sipush 228, 3) := by decide +kernel
theorem dX8_init_26 : decode cX8_init 26 = .ok (.newarray .int, 2) := by decide +kernel
theorem dX8_init_28 : decode cX8_init 28 = .ok (.putfield 16, 3) := by decide +kernel
theorem dX8_init_31 : decode cX8_init 31 = .ok (.aload_n 0, 1) := by decide +kernel
theorem dX8_init_32 : decode cX8_init 32 = .ok (.bipush 6, 2) := by decide +kernel
theorem dX8_init_34 : decode cX8_init 34 = .ok (.newarray .int, 2) := by decide +kernel
theorem dX8_init_36 : decode cX8_init 36 = .ok (.putfield 19, 3) := by decide +kernel
theorem dX8_init_39 : decode cX8_init 39 = .ok (.aload_n 0, 1) := by decide +kernel
theorem dX8_init_40 : decode cX8_init 40 = .ok (.sipush 1728, 3) := by decide +kernel
theorem dX8_init_43 : decode cX8_init 43 = .ok (.newarray .int, 2) := by decide +kernel
theorem dX8_init_45 : decode cX8_init 45 = .ok (.putfield 22, 3) := by decide +kernel
theorem dX8_init_48 : decode cX8_init 48 = .ok (.aload_n 0, 1) := by decide +kernel
theorem dX8_init_49 : decode cX8_init 49 = .ok (.sipush 8000, 3) := by decide +kernel
theorem dX8_init_52 : decode cX8_init 52 = .ok (.newarray .int, 2) := by decide +kernel
theorem dX8_init_54 : decode cX8_init 54 = .ok (.putfield 25, 3) := by decide +kernel
theorem dX8_init_57 : decode cX8_init 57 = .ok (.aload_n 0, 1) := by decide +kernel
theorem dX8_init_58 : decode cX8_init 58 = .ok (.bipush 8, 2) := by decide +kernel
theorem dX8_init_60 : decode cX8_init 60 = .ok (.newarray .int, 2) := by decide +kernel
theorem dX8_init_62 : decode cX8_init 62 = .ok (.putfield 28, 3) := by decide +kernel
theorem dX8_init_65 : decode cX8_init 65 = .ok (.aload_n 0, 1) := by decide +kernel
theorem dX8_init_66 : decode cX8_init 66 = .ok (.iconst 2, 1) := by decide +kernel
theorem dX8_init_67 : decode cX8_init 67 = .ok (.anewarray 31, 3) := by decide +kernel
theorem dX8_init_70 : decode cX8_init 70 = .ok (.dup, 1) := by decide +kernel
theorem dX8_init_71 : decode cX8_init 71 = .ok (.iconst 0, 1) := by decide +kernel
theorem dX8_init_72 : decode cX8_init 72 = .ok (.ldc 33, 2) := by decide +kernel
theorem dX8_init_74 : decode cX8_init 74 = .ok (.aastore, 1) := by decide +kernel
theorem dX8_init_75 : decode cX8_init 75 = .ok (.dup, 1) := by decide +kernel
theorem dX8_init_76 : decode cX8_init 76 = .ok (.iconst 1, 1) := by decide +kernel
theorem dX8_init_77 : decode cX8_init 77 = .ok (.ldc 35, 2) := by decide +kernel
theorem dX8_init_79 : decode cX8_init 79 = .ok (.aastore, 1) := by decide +kernel
theorem dX8_init_80 : decode cX8_init 80 = .ok (.putfield 37, 3) := by decide +kernel
theorem dX8_init_83 : decode cX8_init 83 = .ok (.aload_n 0, 1) := by decide +kernel
theorem dX8_init_84 : decode cX8_init 84 = .ok (.bipush 60, 2) := by decide +kernel
theorem dX8_init_86 : decode cX8_init 86 = .ok (.newarray .int, 2) := by decide +kernel
theorem dX8_init_88 : decode cX8_init 88 = .ok (.putfield 41, 3) := by decide +kernel
theorem dX8_init_91 : decode cX8_init 91 = .ok (.aload_n 0, 1) := by decide +kernel
theorem dX8_init_92 : decode cX8_init 92 = .ok (.iconst 4, 1) := by decide +kernel
theorem dX8_init_93 : decode cX8_init 93 = .ok (.newarray .int, 2) := by decide +kernel
theorem dX8_init_95 : decode cX8_init 95 = .ok (.putfield 44, 3) := by decide +kernel
theorem dX8_init_98 : decode cX8_init 98 = .ok (.aload_n 0, 1) := by decide +kernel
theorem dX8_init_99 : decode cX8_init 99 = .ok (.bipush 60, 2) := by decide +kernel
theorem dX8_init_101 : decode cX8_init 101 = .ok (.newarray .int, 2) := by decide +kernel
theorem dX8_init_103 : decode cX8_init 103 = .ok (.putfield 47, 3) := by decide +kernel
theorem dX8_init_106 : decode cX8_init 106 = .ok (.aload_n 0, 1) := by decide +kernel
theorem dX8_init_107 : decode cX8_init 107 = .ok (.bipush 8, 2) := by decide +kernel
theorem dX8_init_109 : decode cX8_init 109 = .ok (.newarray .int, 2) := by decide +kernel
theorem dX8_init_111 : decode cX8_init 111 = .ok (.putfield 50, 3) := by decide +kernel
theorem dX8_init_114 : decode cX8_init 114 = .ok (.aload_n 0, 1) := by decide +kernel
theorem dX8_init_115 : decode cX8_init 115 = .ok (.bipush 40, 2) := by decide +kernel
theorem dX8_init_117 : decode cX8_init 117 = .ok (.newarray .int, 2) := by decide +kernel
theorem dX8_init_119 : decode cX8_init 119 = .ok (.putfield 53, 3) := by decide +kernel
theorem dX8_init_122 : decode cX8_init 122 = .ok (.aload_n 0, 1) := by decide +kernel
theorem dX8_init_123 : decode cX8_init 123 = .ok (.iconst 4, 1) := by decide +kernel
theorem dX8_init_124 : decode cX8_init 124 = .ok (.newarray .int, 2) := by decide +kernel
theorem dX8_init_126 : decode cX8_init 126 = .ok (.putfield 56, 3) := by decide +kernel
theorem dX8_init_129 : decode cX8_init 129 = .ok (.aload_n 0, 1) := by decide +kernel
theorem dX8_init_130 : decode cX8_init 130 = .ok (.iconst 4, 1) := by decide +kernel
theorem dX8_init_131 : decode cX8_init 131 = .ok (.newarray .int, 2) := by decide +kernel
theorem dX8_init_133 : decode cX8_init 133 = .ok (.putfield 59, 3) := by decide +kernel
theorem dX8_init_136 : decode cX8_init 136 = .ok (.aload_n 0, 1) := by decide +kernel
theorem dX8_init_137 : decode cX8_init 137 = .ok (.sipush 160, 3) := by decide +kernel
theorem dX8_init_140 : decode cX8_init 140 = .ok (.newarray .int, 2) := by decide +kernel
theorem dX8_init_142 : decode cX8_init 142 = .ok (.putfield 62, 3) := by decide +kernel
theorem dX8_init_145 : decode cX8_init 145 = .ok (.aload_n 0, 1) := by decide +kernel
theorem dX8_init_146 : decode cX8_init 146 = .ok (.bipush 40, 2) := by decide +kernel
theorem dX8_init_148 : decode cX8_init 148 = .ok (.newarray .int, 2) := by decide +kernel
theorem dX8_init_150 : decode cX8_init 150 = .ok (.putfield 65, 3) := by decide +kernel
theorem dX8_init_153 : decode cX8_init 153 = .ok (.aload_n 0, 1) := by decide +kernel
theorem dX8_init_154 : decode cX8_init 154 = .ok (.getfield 9, 3) := by decide +kernel
theorem dX8_init_157 : decode cX8_init 157 = .ok (.iconst 3, 1) := by decide +kernel
theorem dX8_init_158 : decode cX8_init 158 = .ok (.iconst 1, 1) := by decide +kernel
theorem dX8_init_159 : decode cX8_init 159 = .ok (.iastore, 1) := by decide +kernel
theorem dX8_init_160 : decode cX8_init 160 = .ok (.aload_n 0, 1) := by decide +kernel
theorem dX8_init_161 : decode cX8_init 161 = .ok (.getfield 9, 3) := by decide +kernel
theorem dX8_init_164 : decode cX8_init 164 = .ok (.iconst 2, 1) := by decide +kernel
theorem dX8_init_165 : decode cX8_init 165 = .ok (.iconst 1, 1) := by decide +kernel
theorem dX8_init_166 : decode cX8_init 166 = .ok (.iastore, 1) := by decide +kernel
theorem dX8_init_167 : decode cX8_init 167 = .ok (.return_, 1) := by decide +kernel
theorem dX8_finding_0 : decode cX8_finding 0 = .ok (.aload_n 0, 1) := by decide +kernel
theorem dX8_finding_1 : decode cX8_finding 1 = .ok (.getfield 19, 3) := by decide +kernel
theorem dX8_finding_4 : decode cX8_finding 4 = .ok (.ldc 68, 2) := by decide +kernel
theorem dX8_finding_6 : decode cX8_finding 6 = .ok (.iload_n 1, 1) := by decide +kernel
theorem dX8_finding_7 : decode cX8_finding 7 = .ok (.isub, 1) := by decide +kernel
theorem dX8_finding_8 : decode cX8_finding 8 = .ok (.dup2, 1) := by decide +kernel
theorem dX8_finding_9 : decode cX8_finding 9 = .ok (.iaload, 1) := by decide +kernel
theorem dX8_finding_10 : decode cX8_finding 10 = .ok (.iconst 1, 1) := by decide +kernel
theorem dX8_finding_11 : decode cX8_finding 11 = .ok (.iadd, 1) := by decide +kernel
theorem dX8_finding_12 : decode cX8_finding 12 = .ok (.iastore, 1) := by decide +kernel
theorem dX8_finding_13 : decode cX8_finding 13 = .ok (.iload_n 1, 1) := by decide +kernel
theorem dX8_finding_14 : decode cX8_finding 14 = .ok (.ireturn, 1) := by decide +kernel
theorem dX8_within_0 : decode cX8_within 0 = .ok (.iload_n 0, 1) := by decide +kernel
theorem dX8_within_1 : decode cX8_within 1 = .ok (.iload_n 1, 1) := by decide +kernel
theorem dX8_within_2 : decode cX8_within 2 = .ok (.if_icmp .lt 12, 3) := by decide +kernel
theorem dX8_within_5 : decode cX8_within 5 = .ok (.iload_n 0, 1) := by decide +kernel
theorem dX8_within_6 : decode cX8_within 6 = .ok (.iload_n 2, 1) := by decide +kernel
theorem dX8_within_7 : decode cX8_within 7 = .ok (.if_icmp .gt 7, 3) := by decide +kernel
theorem dX8_within_10 : decode cX8_within 10 = .ok (.iconst 1, 1) := by decide +kernel
theorem dX8_within_11 : decode cX8_within 11 = .ok (.goto 4, 3) := by decide +kernel
theorem dX8_within_14 : decode cX8_within 14 = .ok (.iconst 0, 1) := by decide +kernel
theorem dX8_within_15 : decode cX8_within 15 = .ok (.ireturn, 1) := by decide +kernel
theorem dX8_held_0 : decode cX8_held 0 = .ok (.iload_n 1, 1) := by decide +kernel
theorem dX8_held_1 : decode cX8_held 1 = .ok (.iload_n 2, 1) := by decide +kernel
theorem dX8_held_2 : decode cX8_held 2 = .ok (.iload_n 0, 1) := by decide +kernel
theorem dX8_held_3 : decode cX8_held 3 = .ok (.invokestatic 69, 3) := by decide +kernel
theorem dX8_held_6 : decode cX8_held 6 = .ok (.invokestatic 75, 3) := by decide +kernel
theorem dX8_held_9 : decode cX8_held 9 = .ok (.ireturn, 1) := by decide +kernel
theorem dX8_copy_0 : decode cX8_copy 0 = .ok (.iconst 0, 1) := by decide +kernel
theorem dX8_copy_1 : decode cX8_copy 1 = .ok (.istore_n 2, 1) := by decide +kernel
theorem dX8_copy_2 : decode cX8_copy 2 = .ok (.iload_n 2, 1) := by decide +kernel
theorem dX8_copy_3 : decode cX8_copy 3 = .ok (.sipush 228, 3) := by decide +kernel
theorem dX8_copy_6 : decode cX8_copy 6 = .ok (.if_icmp .ge 15, 3) := by decide +kernel
theorem dX8_copy_9 : decode cX8_copy 9 = .ok (.aload_n 1, 1) := by decide +kernel
theorem dX8_copy_10 : decode cX8_copy 10 = .ok (.iload_n 2, 1) := by decide +kernel
theorem dX8_copy_11 : decode cX8_copy 11 = .ok (.aload_n 0, 1) := by decide +kernel
theorem dX8_copy_12 : decode cX8_copy 12 = .ok (.iload_n 2, 1) := by decide +kernel
theorem dX8_copy_13 : decode cX8_copy 13 = .ok (.iaload, 1) := by decide +kernel
theorem dX8_copy_14 : decode cX8_copy 14 = .ok (.iastore, 1) := by decide +kernel
theorem dX8_copy_15 : decode cX8_copy 15 = .ok (.iinc 2 1, 3) := by decide +kernel
theorem dX8_copy_18 : decode cX8_copy 18 = .ok (.goto (-16), 3) := by decide +kernel
theorem dX8_copy_21 : decode cX8_copy 21 = .ok (.return_, 1) := by decide +kernel
theorem dX8_turn_0 : decode cX8_turn 0 = .ok (.aload_n 0, 1) := by decide +kernel
theorem dX8_turn_1 : decode cX8_turn 1 = .ok (.getfield 9, 3) := by decide +kernel
theorem dX8_turn_4 : decode cX8_turn 4 = .ok (.iload_n 1, 1) := by decide +kernel
theorem dX8_turn_5 : decode cX8_turn 5 = .ok (.iaload, 1) := by decide +kernel
theorem dX8_turn_6 : decode cX8_turn 6 = .ok (.istore_n 3, 1) := by decide +kernel
theorem dX8_turn_7 : decode cX8_turn 7 = .ok (.aload_n 0, 1) := by decide +kernel
theorem dX8_turn_8 : decode cX8_turn 8 = .ok (.getfield 9, 3) := by decide +kernel
theorem dX8_turn_11 : decode cX8_turn 11 = .ok (.iload_n 1, 1) := by decide +kernel
theorem dX8_turn_12 : decode cX8_turn 12 = .ok (.iload_n 2, 1) := by decide +kernel
theorem dX8_turn_13 : decode cX8_turn 13 = .ok (.iastore, 1) := by decide +kernel
theorem dX8_turn_14 : decode cX8_turn 14 = .ok (.iload_n 3, 1) := by decide +kernel
theorem dX8_turn_15 : decode cX8_turn 15 = .ok (.ireturn, 1) := by decide +kernel
theorem dX8_putBack_0 : decode cX8_putBack 0 = .ok (.aload_n 0, 1) := by decide +kernel
theorem dX8_putBack_1 : decode cX8_putBack 1 = .ok (.getfield 16, 3) := by decide +kernel
theorem dX8_putBack_4 : decode cX8_putBack 4 = .ok (.aload_n 0, 1) := by decide +kernel
theorem dX8_putBack_5 : decode cX8_putBack 5 = .ok (.getfield 9, 3) := by decide +kernel
theorem dX8_putBack_8 : decode cX8_putBack 8 = .ok (.invokestatic 78, 3) := by decide +kernel
theorem dX8_putBack_11 : decode cX8_putBack 11 = .ok (.iload_n 1, 1) := by decide +kernel
theorem dX8_putBack_12 : decode cX8_putBack 12 = .ok (.ireturn, 1) := by decide +kernel
theorem dX8_feed_0 : decode cX8_feed 0 = .ok (.iload_n 3, 1) := by decide +kernel
theorem dX8_feed_1 : decode cX8_feed 1 = .ok (.iconst 1, 1) := by decide +kernel
theorem dX8_feed_2 : decode cX8_feed 2 = .ok (.bipush 8, 2) := by decide +kernel
theorem dX8_feed_4 : decode cX8_feed 4 = .ok (.invokestatic 82, 3) := by decide +kernel
theorem dX8_feed_7 : decode cX8_feed 7 = .ok (.ifCond .ne 10, 3) := by decide +kernel
theorem dX8_feed_10 : decode cX8_feed 10 = .ok (.aload_n 0, 1) := by decide +kernel
theorem dX8_feed_11 : decode cX8_feed 11 = .ok (.ldc 86, 2) := by decide +kernel
theorem dX8_feed_13 : decode cX8_feed 13 = .ok (.invokevirtual 87, 3) := by decide +kernel
theorem dX8_feed_16 : decode cX8_feed 16 = .ok (.ireturn, 1) := by decide +kernel
theorem dX8_feed_17 : decode cX8_feed 17 = .ok (.aload_n 0, 1) := by decide +kernel
theorem dX8_feed_18 : decode cX8_feed 18 = .ok (.getfield 9, 3) := by decide +kernel
theorem dX8_feed_21 : decode cX8_feed 21 = .ok (.iconst 4, 1) := by decide +kernel
theorem dX8_feed_22 : decode cX8_feed 22 = .ok (.iaload, 1) := by decide +kernel
theorem dX8_feed_23 : decode cX8_feed 23 = .ok (.iload_n 3, 1) := by decide +kernel
theorem dX8_feed_24 : decode cX8_feed 24 = .ok (.iadd, 1) := by decide +kernel
theorem dX8_feed_25 : decode cX8_feed 25 = .ok (.bipush 50, 2) := by decide +kernel
theorem dX8_feed_27 : decode cX8_feed 27 = .ok (.if_icmp .le 10, 3) := by decide +kernel
theorem dX8_feed_30 : decode cX8_feed 30 = .ok (.aload_n 0, 1) := by decide +kernel
theorem dX8_feed_31 : decode cX8_feed 31 = .ok (.ldc 91, 2) := by decide +kernel
theorem dX8_feed_33 : decode cX8_feed 33 = .ok (.invokevirtual 87, 3) := by decide +kernel
theorem dX8_feed_36 : decode cX8_feed 36 = .ok (.ireturn, 1) := by decide +kernel
theorem dX8_feed_37 : decode cX8_feed 37 = .ok (.iconst 0, 1) := by decide +kernel
theorem dX8_feed_38 : decode cX8_feed 38 = .ok (.istore 4, 2) := by decide +kernel
theorem dX8_feed_40 : decode cX8_feed 40 = .ok (.iload 4, 2) := by decide +kernel
theorem dX8_feed_42 : decode cX8_feed 42 = .ok (.iload_n 3, 1) := by decide +kernel
theorem dX8_feed_43 : decode cX8_feed 43 = .ok (.if_icmp .ge 45, 3) := by decide +kernel
theorem dX8_feed_46 : decode cX8_feed 46 = .ok (.aload_n 0, 1) := by decide +kernel
theorem dX8_feed_47 : decode cX8_feed 47 = .ok (.getfield 9, 3) := by decide +kernel
theorem dX8_feed_50 : decode cX8_feed 50 = .ok (.bipush 54, 2) := by decide +kernel
theorem dX8_feed_52 : decode cX8_feed 52 = .ok (.aload_n 0, 1) := by decide +kernel
theorem dX8_feed_53 : decode cX8_feed 53 = .ok (.getfield 9, 3) := by decide +kernel
theorem dX8_feed_56 : decode cX8_feed 56 = .ok (.iconst 4, 1) := by decide +kernel
theorem dX8_feed_57 : decode cX8_feed 57 = .ok (.iaload, 1) := by decide +kernel
theorem dX8_feed_58 : decode cX8_feed 58 = .ok (.iadd, 1) := by decide +kernel
theorem dX8_feed_59 : decode cX8_feed 59 = .ok (.lload_n 1, 1) := by decide +kernel
theorem dX8_feed_60 : decode cX8_feed 60 = .ok (.bipush 8, 2) := by decide +kernel
theorem dX8_feed_62 : decode cX8_feed 62 = .ok (.iload 4, 2) := by decide +kernel
theorem dX8_feed_64 : decode cX8_feed 64 = .ok (.imul, 1) := by decide +kernel
theorem dX8_feed_65 : decode cX8_feed 65 = .ok (.lshr, 1) := by decide +kernel
theorem dX8_feed_66 : decode cX8_feed 66 = .ok (.ldc2_w 92, 3) := by decide +kernel
theorem dX8_feed_69 : decode cX8_feed 69 = .ok (.land, 1) := by decide +kernel
theorem dX8_feed_70 : decode cX8_feed 70 = .ok (.l2i, 1) := by decide +kernel
theorem dX8_feed_71 : decode cX8_feed 71 = .ok (.iastore, 1) := by decide +kernel
theorem dX8_feed_72 : decode cX8_feed 72 = .ok (.aload_n 0, 1) := by decide +kernel
theorem dX8_feed_73 : decode cX8_feed 73 = .ok (.getfield 9, 3) := by decide +kernel
theorem dX8_feed_76 : decode cX8_feed 76 = .ok (.iconst 4, 1) := by decide +kernel
theorem dX8_feed_77 : decode cX8_feed 77 = .ok (.dup2, 1) := by decide +kernel
theorem dX8_feed_78 : decode cX8_feed 78 = .ok (.iaload, 1) := by decide +kernel
theorem dX8_feed_79 : decode cX8_feed 79 = .ok (.iconst 1, 1) := by decide +kernel
theorem dX8_feed_80 : decode cX8_feed 80 = .ok (.iadd, 1) := by decide +kernel
theorem dX8_feed_81 : decode cX8_feed 81 = .ok (.iastore, 1) := by decide +kernel
theorem dX8_feed_82 : decode cX8_feed 82 = .ok (.iinc 4 1, 3) := by decide +kernel
theorem dX8_feed_85 : decode cX8_feed 85 = .ok (.goto (-45), 3) := by decide +kernel
theorem dX8_feed_88 : decode cX8_feed 88 = .ok (.aload_n 0, 1) := by decide +kernel
theorem dX8_feed_89 : decode cX8_feed 89 = .ok (.getfield 9, 3) := by decide +kernel
theorem dX8_feed_92 : decode cX8_feed 92 = .ok (.iconst 4, 1) := by decide +kernel
theorem dX8_feed_93 : decode cX8_feed 93 = .ok (.iaload, 1) := by decide +kernel
theorem dX8_feed_94 : decode cX8_feed 94 = .ok (.ireturn, 1) := by decide +kernel
theorem dX8_here_0 : decode cX8_here 0 = .ok (.aload_n 0, 1) := by decide +kernel
theorem dX8_here_1 : decode cX8_here 1 = .ok (.getfield 94, 3) := by decide +kernel
theorem dX8_here_4 : decode cX8_here 4 = .ok (.ifCond .ne 31, 3) := by decide +kernel
theorem dX8_here_7 : decode cX8_here 7 = .ok (.aload_n 0, 1) := by decide +kernel
theorem dX8_here_8 : decode cX8_here 8 = .ok (.getfield 98, 3) := by decide +kernel
theorem dX8_here_11 : decode cX8_here 11 = .ok (.aload_n 0, 1) := by decide +kernel
theorem dX8_here_12 : decode cX8_here 12 = .ok (.getfield 9, 3) := by decide +kernel
theorem dX8_here_15 : decode cX8_here 15 = .ok (.iconst 4, 1) := by decide +kernel
theorem dX8_here_16 : decode cX8_here 16 = .ok (.iaload, 1) := by decide +kernel
theorem dX8_here_17 : decode cX8_here 17 = .ok (.if_icmp .ge 18, 3) := by decide +kernel
theorem dX8_here_20 : decode cX8_here 20 = .ok (.aload_n 0, 1) := by decide +kernel
theorem dX8_here_21 : decode cX8_here 21 = .ok (.getfield 9, 3) := by decide +kernel
theorem dX8_here_24 : decode cX8_here 24 = .ok (.bipush 54, 2) := by decide +kernel
theorem dX8_here_26 : decode cX8_here 26 = .ok (.aload_n 0, 1) := by decide +kernel
theorem dX8_here_27 : decode cX8_here 27 = .ok (.getfield 98, 3) := by decide +kernel
theorem dX8_here_30 : decode cX8_here 30 = .ok (.iadd, 1) := by decide +kernel
theorem dX8_here_31 : decode cX8_here 31 = .ok (.iaload, 1) := by decide +kernel
theorem dX8_here_32 : decode cX8_here 32 = .ok (.goto 4, 3) := by decide +kernel
theorem dX8_here_35 : decode cX8_here 35 = .ok (.iconst (-1), 1) := by decide +kernel
theorem dX8_here_36 : decode cX8_here 36 = .ok (.ireturn, 1) := by decide +kernel
theorem dX8_takes_0 : decode cX8_takes 0 = .ok (.aload_n 0, 1) := by decide +kernel
theorem dX8_takes_1 : decode cX8_takes 1 = .ok (.invokevirtual 102, 3) := by decide +kernel
theorem dX8_takes_4 : decode cX8_takes 4 = .ok (.iload_n 1, 1) := by decide +kernel
theorem dX8_takes_5 : decode cX8_takes 5 = .ok (.if_icmp .ne 7, 3) := by decide +kernel
theorem dX8_takes_8 : decode cX8_takes 8 = .ok (.iconst 1, 1) := by decide +kernel
theorem dX8_takes_9 : decode cX8_takes 9 = .ok (.goto 4, 3) := by decide +kernel
theorem dX8_takes_12 : decode cX8_takes 12 = .ok (.iconst 0, 1) := by decide +kernel
theorem dX8_takes_13 : decode cX8_takes 13 = .ok (.istore_n 2, 1) := by decide +kernel
theorem dX8_takes_14 : decode cX8_takes 14 = .ok (.aload_n 0, 1) := by decide +kernel
theorem dX8_takes_15 : decode cX8_takes 15 = .ok (.dup, 1) := by decide +kernel
theorem dX8_takes_16 : decode cX8_takes 16 = .ok (.getfield 98, 3) := by decide +kernel
theorem dX8_takes_19 : decode cX8_takes 19 = .ok (.iload_n 2, 1) := by decide +kernel
theorem dX8_takes_20 : decode cX8_takes 20 = .ok (.ifCond .eq 7, 3) := by decide +kernel
theorem dX8_takes_23 : decode cX8_takes 23 = .ok (.iconst 1, 1) := by decide +kernel
theorem dX8_takes_24 : decode cX8_takes 24 = .ok (.goto 4, 3) := by decide +kernel
theorem dX8_takes_27 : decode cX8_takes 27 = .ok (.iconst 0, 1) := by decide +kernel
theorem dX8_takes_28 : decode cX8_takes 28 = .ok (.iadd, 1) := by decide +kernel
theorem dX8_takes_29 : decode cX8_takes 29 = .ok (.putfield 98, 3) := by decide +kernel
theorem dX8_takes_32 : decode cX8_takes 32 = .ok (.iload_n 2, 1) := by decide +kernel
theorem dX8_takes_33 : decode cX8_takes 33 = .ok (.ireturn, 1) := by decide +kernel
theorem dX8_codes_0 : decode cX8_codes 0 = .ok (.aload_n 0, 1) := by decide +kernel
theorem dX8_codes_1 : decode cX8_codes 1 = .ok (.getfield 94, 3) := by decide +kernel
theorem dX8_codes_4 : decode cX8_codes 4 = .ok (.ifCond .ne 23, 3) := by decide +kernel
theorem dX8_codes_7 : decode cX8_codes 7 = .ok (.aload_n 0, 1) := by decide +kernel
theorem dX8_codes_8 : decode cX8_codes 8 = .ok (.getfield 41, 3) := by decide +kernel
theorem dX8_codes_11 : decode cX8_codes 11 = .ok (.aload_n 0, 1) := by decide +kernel
theorem dX8_codes_12 : decode cX8_codes 12 = .ok (.getfield 106, 3) := by decide +kernel
theorem dX8_codes_15 : decode cX8_codes 15 = .ok (.iload_n 1, 1) := by decide +kernel
theorem dX8_codes_16 : decode cX8_codes 16 = .ok (.iastore, 1) := by decide +kernel
theorem dX8_codes_17 : decode cX8_codes 17 = .ok (.aload_n 0, 1) := by decide +kernel
theorem dX8_codes_18 : decode cX8_codes 18 = .ok (.dup, 1) := by decide +kernel
theorem dX8_codes_19 : decode cX8_codes 19 = .ok (.getfield 106, 3) := by decide +kernel
theorem dX8_codes_22 : decode cX8_codes 22 = .ok (.iconst 1, 1) := by decide +kernel
theorem dX8_codes_23 : decode cX8_codes 23 = .ok (.iadd, 1) := by decide +kernel
theorem dX8_codes_24 : decode cX8_codes 24 = .ok (.putfield 106, 3) := by decide +kernel
theorem dX8_codes_27 : decode cX8_codes 27 = .ok (.return_, 1) := by decide +kernel
theorem dX8_either_0 : decode cX8_either 0 = .ok (.aload_n 0, 1) := by decide +kernel
theorem dX8_either_1 : decode cX8_either 1 = .ok (.invokevirtual 109, 3) := by decide +kernel
theorem dX8_either_4 : decode cX8_either 4 = .ok (.aload_n 0, 1) := by decide +kernel
theorem dX8_either_5 : decode cX8_either 5 = .ok (.bipush 124, 2) := by decide +kernel
theorem dX8_either_7 : decode cX8_either 7 = .ok (.invokevirtual 112, 3) := by decide +kernel
theorem dX8_either_10 : decode cX8_either 10 = .ok (.ifCond .eq 17, 3) := by decide +kernel
theorem dX8_either_13 : decode cX8_either 13 = .ok (.aload_n 0, 1) := by decide +kernel
theorem dX8_either_14 : decode cX8_either 14 = .ok (.invokevirtual 109, 3) := by decide +kernel
theorem dX8_either_17 : decode cX8_either 17 = .ok (.aload_n 0, 1) := by decide +kernel
theorem dX8_either_18 : decode cX8_either 18 = .ok (.sipush 20000, 3) := by decide +kernel
theorem dX8_either_21 : decode cX8_either 21 = .ok (.invokevirtual 116, 3) := by decide +kernel
theorem dX8_either_24 : decode cX8_either 24 = .ok (.goto (-20), 3) := by decide +kernel
theorem dX8_either_27 : decode cX8_either 27 = .ok (.return_, 1) := by decide +kernel
theorem dX8_both_0 : decode cX8_both 0 = .ok (.aload_n 0, 1) := by decide +kernel
theorem dX8_both_1 : decode cX8_both 1 = .ok (.invokevirtual 120, 3) := by decide +kernel
theorem dX8_both_4 : decode cX8_both 4 = .ok (.aload_n 0, 1) := by decide +kernel
theorem dX8_both_5 : decode cX8_both 5 = .ok (.bipush 38, 2) := by decide +kernel
theorem dX8_both_7 : decode cX8_both 7 = .ok (.invokevirtual 112, 3) := by decide +kernel
theorem dX8_both_10 : decode cX8_both 10 = .ok (.ifCond .eq 17, 3) := by decide +kernel
theorem dX8_both_13 : decode cX8_both 13 = .ok (.aload_n 0, 1) := by decide +kernel
theorem dX8_both_14 : decode cX8_both 14 = .ok (.invokevirtual 120, 3) := by decide +kernel
theorem dX8_both_17 : decode cX8_both 17 = .ok (.aload_n 0, 1) := by decide +kernel
theorem dX8_both_18 : decode cX8_both 18 = .ok (.sipush 20001, 3) := by decide +kernel
theorem dX8_both_21 : decode cX8_both 21 = .ok (.invokevirtual 116, 3) := by decide +kernel
theorem dX8_both_24 : decode cX8_both 24 = .ok (.goto (-20), 3) := by decide +kernel
theorem dX8_both_27 : decode cX8_both 27 = .ok (.return_, 1) := by decide +kernel
theorem dX8_compared_0 : decode cX8_compared 0 = .ok (.aload_n 0, 1) := by decide +kernel
theorem dX8_compared_1 : decode cX8_compared 1 = .ok (.invokevirtual 123, 3) := by decide +kernel
theorem dX8_compared_4 : decode cX8_compared 4 = .ok (.aload_n 0, 1) := by decide +kernel
theorem dX8_compared_5 : decode cX8_compared 5 = .ok (.bipush 60, 2) := by decide +kernel
theorem dX8_compared_7 : decode cX8_compared 7 = .ok (.invokevirtual 112, 3) := by decide +kernel
theorem dX8_compared_10 : decode cX8_compared 10 = .ok (.ifCond .eq 9, 3) := by decide +kernel
theorem dX8_compared_13 : decode cX8_compared 13 = .ok (.sipush 20002, 3) := by decide +kernel
theorem dX8_compared_16 : decode cX8_compared 16 = .ok (.goto 34, 3) := by decide +kernel
theorem dX8_compared_19 : decode cX8_compared 19 = .ok (.aload_n 0, 1) := by decide +kernel
theorem dX8_compared_20 : decode cX8_compared 20 = .ok (.bipush 61, 2) := by decide +kernel
theorem dX8_compared_22 : decode cX8_compared 22 = .ok (.invokevirtual 112, 3) := by decide +kernel
theorem dX8_compared_25 : decode cX8_compared 25 = .ok (.ifCond .eq 9, 3) := by decide +kernel
theorem dX8_compared_28 : decode cX8_compared 28 = .ok (.sipush 20003, 3) := by decide +kernel
theorem dX8_compared_31 : decode cX8_compared 31 = .ok (.goto 19, 3) := by decide +kernel
theorem dX8_compared_34 : decode cX8_compared 34 = .ok (.aload_n 0, 1) := by decide +kernel
theorem dX8_compared_35 : decode cX8_compared 35 = .ok (.bipush 62, 2) := by decide +kernel
theorem dX8_compared_37 : decode cX8_compared 37 = .ok (.invokevirtual 112, 3) := by decide +kernel
theorem dX8_compared_40 : decode cX8_compared 40 = .ok (.ifCond .eq 9, 3) := by decide +kernel
theorem dX8_compared_43 : decode cX8_compared 43 = .ok (.sipush 20004, 3) := by decide +kernel
theorem dX8_compared_46 : decode cX8_compared 46 = .ok (.goto 4, 3) := by decide +kernel
theorem dX8_compared_49 : decode cX8_compared 49 = .ok (.iconst 0, 1) := by decide +kernel
theorem dX8_compared_50 : decode cX8_compared 50 = .ok (.istore_n 1, 1) := by decide +kernel
theorem dX8_compared_51 : decode cX8_compared 51 = .ok (.iload_n 1, 1) := by decide +kernel
theorem dX8_compared_52 : decode cX8_compared 52 = .ok (.ifCond .le 12, 3) := by decide +kernel
theorem dX8_compared_55 : decode cX8_compared 55 = .ok (.aload_n 0, 1) := by decide +kernel
theorem dX8_compared_56 : decode cX8_compared 56 = .ok (.invokevirtual 123, 3) := by decide +kernel
theorem dX8_compared_59 : decode cX8_compared 59 = .ok (.aload_n 0, 1) := by decide +kernel
theorem dX8_compared_60 : decode cX8_compared 60 = .ok (.iload_n 1, 1) := by decide +kernel
theorem dX8_compared_61 : decode cX8_compared 61 = .ok (.invokevirtual 116, 3) := by decide +kernel
theorem dX8_compared_64 : decode cX8_compared 64 = .ok (.return_, 1) := by decide +kernel
theorem dX8_sum_0 : decode cX8_sum 0 = .ok (.aload_n 0, 1) := by decide +kernel
theorem dX8_sum_1 : decode cX8_sum 1 = .ok (.invokevirtual 126, 3) := by decide +kernel
theorem dX8_sum_4 : decode cX8_sum 4 = .ok (.aload_n 0, 1) := by decide +kernel
theorem dX8_sum_5 : decode cX8_sum 5 = .ok (.bipush 43, 2) := by decide +kernel
theorem dX8_sum_7 : decode cX8_sum 7 = .ok (.invokevirtual 112, 3) := by decide +kernel
theorem dX8_sum_10 : decode cX8_sum 10 = .ok (.ifCond .eq 9, 3) := by decide +kernel
theorem dX8_sum_13 : decode cX8_sum 13 = .ok (.sipush 20005, 3) := by decide +kernel
theorem dX8_sum_16 : decode cX8_sum 16 = .ok (.goto 19, 3) := by decide +kernel
theorem dX8_sum_19 : decode cX8_sum 19 = .ok (.aload_n 0, 1) := by decide +kernel
theorem dX8_sum_20 : decode cX8_sum 20 = .ok (.bipush 45, 2) := by decide +kernel
theorem dX8_sum_22 : decode cX8_sum 22 = .ok (.invokevirtual 112, 3) := by decide +kernel
theorem dX8_sum_25 : decode cX8_sum 25 = .ok (.ifCond .eq 9, 3) := by decide +kernel
theorem dX8_sum_28 : decode cX8_sum 28 = .ok (.sipush 20006, 3) := by decide +kernel
theorem dX8_sum_31 : decode cX8_sum 31 = .ok (.goto 4, 3) := by decide +kernel
theorem dX8_sum_34 : decode cX8_sum 34 = .ok (.iconst 0, 1) := by decide +kernel
theorem dX8_sum_35 : decode cX8_sum 35 = .ok (.istore_n 1, 1) := by decide +kernel
theorem dX8_sum_36 : decode cX8_sum 36 = .ok (.iload_n 1, 1) := by decide +kernel
theorem dX8_sum_37 : decode cX8_sum 37 = .ok (.ifCond .le 47, 3) := by decide +kernel
theorem dX8_sum_40 : decode cX8_sum 40 = .ok (.aload_n 0, 1) := by decide +kernel
theorem dX8_sum_41 : decode cX8_sum 41 = .ok (.invokevirtual 126, 3) := by decide +kernel
theorem dX8_sum_44 : decode cX8_sum 44 = .ok (.aload_n 0, 1) := by decide +kernel
theorem dX8_sum_45 : decode cX8_sum 45 = .ok (.iload_n 1, 1) := by decide +kernel
theorem dX8_sum_46 : decode cX8_sum 46 = .ok (.invokevirtual 116, 3) := by decide +kernel
theorem dX8_sum_49 : decode cX8_sum 49 = .ok (.aload_n 0, 1) := by decide +kernel
theorem dX8_sum_50 : decode cX8_sum 50 = .ok (.bipush 43, 2) := by decide +kernel
theorem dX8_sum_52 : decode cX8_sum 52 = .ok (.invokevirtual 112, 3) := by decide +kernel
theorem dX8_sum_55 : decode cX8_sum 55 = .ok (.ifCond .eq 9, 3) := by decide +kernel
theorem dX8_sum_58 : decode cX8_sum 58 = .ok (.sipush 20005, 3) := by decide +kernel
theorem dX8_sum_61 : decode cX8_sum 61 = .ok (.goto 19, 3) := by decide +kernel
theorem dX8_sum_64 : decode cX8_sum 64 = .ok (.aload_n 0, 1) := by decide +kernel
theorem dX8_sum_65 : decode cX8_sum 65 = .ok (.bipush 45, 2) := by decide +kernel
theorem dX8_sum_67 : decode cX8_sum 67 = .ok (.invokevirtual 112, 3) := by decide +kernel
theorem dX8_sum_70 : decode cX8_sum 70 = .ok (.ifCond .eq 9, 3) := by decide +kernel
theorem dX8_sum_73 : decode cX8_sum 73 = .ok (.sipush 20006, 3) := by decide +kernel
theorem dX8_sum_76 : decode cX8_sum 76 = .ok (.goto 4, 3) := by decide +kernel
theorem dX8_sum_79 : decode cX8_sum 79 = .ok (.iconst 0, 1) := by decide +kernel
theorem dX8_sum_80 : decode cX8_sum 80 = .ok (.istore_n 1, 1) := by decide +kernel
theorem dX8_sum_81 : decode cX8_sum 81 = .ok (.goto (-45), 3) := by decide +kernel
theorem dX8_sum_84 : decode cX8_sum 84 = .ok (.return_, 1) := by decide +kernel
theorem dX8_product_0 : decode cX8_product 0 = .ok (.aload_n 0, 1) := by decide +kernel
theorem dX8_product_1 : decode cX8_product 1 = .ok (.invokevirtual 129, 3) := by decide +kernel
theorem dX8_product_4 : decode cX8_product 4 = .ok (.aload_n 0, 1) := by decide +kernel
theorem dX8_product_5 : decode cX8_product 5 = .ok (.bipush 42, 2) := by decide +kernel
theorem dX8_product_7 : decode cX8_product 7 = .ok (.invokevirtual 112, 3) := by decide +kernel
theorem dX8_product_10 : decode cX8_product 10 = .ok (.ifCond .eq 9, 3) := by decide +kernel
theorem dX8_product_13 : decode cX8_product 13 = .ok (.sipush 20007, 3) := by decide +kernel
theorem dX8_product_16 : decode cX8_product 16 = .ok (.goto 34, 3) := by decide +kernel
theorem dX8_product_19 : decode cX8_product 19 = .ok (.aload_n 0, 1) := by decide +kernel
theorem dX8_product_20 : decode cX8_product 20 = .ok (.bipush 47, 2) := by decide +kernel
theorem dX8_product_22 : decode cX8_product 22 = .ok (.invokevirtual 112, 3) := by decide +kernel
theorem dX8_product_25 : decode cX8_product 25 = .ok (.ifCond .eq 9, 3) := by decide +kernel
theorem dX8_product_28 : decode cX8_product 28 = .ok (.sipush 20008, 3) := by decide +kernel
theorem dX8_product_31 : decode cX8_product 31 = .ok (.goto 19, 3) := by decide +kernel
theorem dX8_product_34 : decode cX8_product 34 = .ok (.aload_n 0, 1) := by decide +kernel
theorem dX8_product_35 : decode cX8_product 35 = .ok (.bipush 37, 2) := by decide +kernel
theorem dX8_product_37 : decode cX8_product 37 = .ok (.invokevirtual 112, 3) := by decide +kernel
theorem dX8_product_40 : decode cX8_product 40 = .ok (.ifCond .eq 9, 3) := by decide +kernel
theorem dX8_product_43 : decode cX8_product 43 = .ok (.sipush 20009, 3) := by decide +kernel
theorem dX8_product_46 : decode cX8_product 46 = .ok (.goto 4, 3) := by decide +kernel
theorem dX8_product_49 : decode cX8_product 49 = .ok (.iconst 0, 1) := by decide +kernel
theorem dX8_product_50 : decode cX8_product 50 = .ok (.istore_n 1, 1) := by decide +kernel
theorem dX8_product_51 : decode cX8_product 51 = .ok (.iload_n 1, 1) := by decide +kernel
theorem dX8_product_52 : decode cX8_product 52 = .ok (.ifCond .le 62, 3) := by decide +kernel
theorem dX8_product_55 : decode cX8_product 55 = .ok (.aload_n 0, 1) := by decide +kernel
theorem dX8_product_56 : decode cX8_product 56 = .ok (.invokevirtual 129, 3) := by decide +kernel
theorem dX8_product_59 : decode cX8_product 59 = .ok (.aload_n 0, 1) := by decide +kernel
theorem dX8_product_60 : decode cX8_product 60 = .ok (.iload_n 1, 1) := by decide +kernel
theorem dX8_product_61 : decode cX8_product 61 = .ok (.invokevirtual 116, 3) := by decide +kernel
theorem dX8_product_64 : decode cX8_product 64 = .ok (.aload_n 0, 1) := by decide +kernel
theorem dX8_product_65 : decode cX8_product 65 = .ok (.bipush 42, 2) := by decide +kernel
theorem dX8_product_67 : decode cX8_product 67 = .ok (.invokevirtual 112, 3) := by decide +kernel
theorem dX8_product_70 : decode cX8_product 70 = .ok (.ifCond .eq 9, 3) := by decide +kernel
theorem dX8_product_73 : decode cX8_product 73 = .ok (.sipush 20007, 3) := by decide +kernel
theorem dX8_product_76 : decode cX8_product 76 = .ok (.goto 34, 3) := by decide +kernel
theorem dX8_product_79 : decode cX8_product 79 = .ok (.aload_n 0, 1) := by decide +kernel
theorem dX8_product_80 : decode cX8_product 80 = .ok (.bipush 47, 2) := by decide +kernel
theorem dX8_product_82 : decode cX8_product 82 = .ok (.invokevirtual 112, 3) := by decide +kernel
theorem dX8_product_85 : decode cX8_product 85 = .ok (.ifCond .eq 9, 3) := by decide +kernel
theorem dX8_product_88 : decode cX8_product 88 = .ok (.sipush 20008, 3) := by decide +kernel
theorem dX8_product_91 : decode cX8_product 91 = .ok (.goto 19, 3) := by decide +kernel
theorem dX8_product_94 : decode cX8_product 94 = .ok (.aload_n 0, 1) := by decide +kernel
theorem dX8_product_95 : decode cX8_product 95 = .ok (.bipush 37, 2) := by decide +kernel
theorem dX8_product_97 : decode cX8_product 97 = .ok (.invokevirtual 112, 3) := by decide +kernel
theorem dX8_product_100 : decode cX8_product 100 = .ok (.ifCond .eq 9, 3) := by decide +kernel
theorem dX8_product_103 : decode cX8_product 103 = .ok (.sipush 20009, 3) := by decide +kernel
theorem dX8_product_106 : decode cX8_product 106 = .ok (.goto 4, 3) := by decide +kernel
theorem dX8_product_109 : decode cX8_product 109 = .ok (.iconst 0, 1) := by decide +kernel
theorem dX8_product_110 : decode cX8_product 110 = .ok (.istore_n 1, 1) := by decide +kernel
theorem dX8_product_111 : decode cX8_product 111 = .ok (.goto (-60), 3) := by decide +kernel
theorem dX8_product_114 : decode cX8_product 114 = .ok (.return_, 1) := by decide +kernel
theorem dX8_nameOf_0 : decode cX8_nameOf 0 = .ok (.iconst (-1), 1) := by decide +kernel
theorem dX8_nameOf_1 : decode cX8_nameOf 1 = .ok (.istore_n 2, 1) := by decide +kernel
theorem dX8_nameOf_2 : decode cX8_nameOf 2 = .ok (.iconst 0, 1) := by decide +kernel
theorem dX8_nameOf_3 : decode cX8_nameOf 3 = .ok (.istore_n 3, 1) := by decide +kernel
theorem dX8_nameOf_4 : decode cX8_nameOf 4 = .ok (.iload_n 3, 1) := by decide +kernel
theorem dX8_nameOf_5 : decode cX8_nameOf 5 = .ok (.aload_n 0, 1) := by decide +kernel
theorem dX8_nameOf_6 : decode cX8_nameOf 6 = .ok (.getfield 37, 3) := by decide +kernel
theorem dX8_nameOf_9 : decode cX8_nameOf 9 = .ok (.aload_n 0, 1) := by decide +kernel
theorem dX8_nameOf_10 : decode cX8_nameOf 10 = .ok (.getfield 132, 3) := by decide +kernel
theorem dX8_nameOf_13 : decode cX8_nameOf 13 = .ok (.aaload, 1) := by decide +kernel
theorem dX8_nameOf_14 : decode cX8_nameOf 14 = .ok (.invokevirtual 135, 3) := by decide +kernel
theorem dX8_nameOf_17 : decode cX8_nameOf 17 = .ok (.if_icmp .ge 32, 3) := by decide +kernel
theorem dX8_nameOf_20 : decode cX8_nameOf 20 = .ok (.aload_n 0, 1) := by decide +kernel
theorem dX8_nameOf_21 : decode cX8_nameOf 21 = .ok (.getfield 37, 3) := by decide +kernel
theorem dX8_nameOf_24 : decode cX8_nameOf 24 = .ok (.aload_n 0, 1) := by decide +kernel
theorem dX8_nameOf_25 : decode cX8_nameOf 25 = .ok (.getfield 132, 3) := by decide +kernel
theorem dX8_nameOf_28 : decode cX8_nameOf 28 = .ok (.aaload, 1) := by decide +kernel
theorem dX8_nameOf_29 : decode cX8_nameOf 29 = .ok (.iload_n 3, 1) := by decide +kernel
theorem dX8_nameOf_30 : decode cX8_nameOf 30 = .ok (.invokevirtual 138, 3) := by decide +kernel
theorem dX8_nameOf_33 : decode cX8_nameOf 33 = .ok (.iload_n 1, 1) := by decide +kernel
theorem dX8_nameOf_34 : decode cX8_nameOf 34 = .ok (.if_icmp .ne 7, 3) := by decide +kernel
theorem dX8_nameOf_37 : decode cX8_nameOf 37 = .ok (.iload_n 3, 1) := by decide +kernel
theorem dX8_nameOf_38 : decode cX8_nameOf 38 = .ok (.goto 4, 3) := by decide +kernel
theorem dX8_nameOf_41 : decode cX8_nameOf 41 = .ok (.iload_n 2, 1) := by decide +kernel
theorem dX8_nameOf_42 : decode cX8_nameOf 42 = .ok (.istore_n 2, 1) := by decide +kernel
theorem dX8_nameOf_43 : decode cX8_nameOf 43 = .ok (.iinc 3 1, 3) := by decide +kernel
theorem dX8_nameOf_46 : decode cX8_nameOf 46 = .ok (.goto (-42), 3) := by decide +kernel
theorem dX8_nameOf_49 : decode cX8_nameOf 49 = .ok (.iload_n 2, 1) := by decide +kernel
theorem dX8_nameOf_50 : decode cX8_nameOf 50 = .ok (.ireturn, 1) := by decide +kernel
theorem dX8_one_0 : decode cX8_one 0 = .ok (.aload_n 0, 1) := by decide +kernel
theorem dX8_one_1 : decode cX8_one 1 = .ok (.invokevirtual 102, 3) := by decide +kernel
theorem dX8_one_4 : decode cX8_one 4 = .ok (.istore_n 1, 1) := by decide +kernel
theorem dX8_one_5 : decode cX8_one 5 = .ok (.iload_n 1, 1) := by decide +kernel
theorem dX8_one_6 : decode cX8_one 6 = .ok (.bipush 33, 2) := by decide +kernel
theorem dX8_one_8 : decode cX8_one 8 = .ok (.if_icmp .eq 9, 3) := by decide +kernel
theorem dX8_one_11 : decode cX8_one 11 = .ok (.iload_n 1, 1) := by decide +kernel
theorem dX8_one_12 : decode cX8_one 12 = .ok (.bipush 40, 2) := by decide +kernel
theorem dX8_one_14 : decode cX8_one 14 = .ok (.if_icmp .ne 102, 3) := by decide +kernel
theorem dX8_one_17 : decode cX8_one 17 = .ok (.aload_n 0, 1) := by decide +kernel
theorem dX8_one_18 : decode cX8_one 18 = .ok (.aload_n 0, 1) := by decide +kernel
theorem dX8_one_19 : decode cX8_one 19 = .ok (.getfield 142, 3) := by decide +kernel
theorem dX8_one_22 : decode cX8_one 22 = .ok (.iconst 5, 1) := by decide +kernel
theorem dX8_one_23 : decode cX8_one 23 = .ok (.if_icmp .ne 7, 3) := by decide +kernel
theorem dX8_one_26 : decode cX8_one 26 = .ok (.iconst 1, 1) := by decide +kernel
theorem dX8_one_27 : decode cX8_one 27 = .ok (.goto 4, 3) := by decide +kernel
theorem dX8_one_30 : decode cX8_one 30 = .ok (.iconst 0, 1) := by decide +kernel
theorem dX8_one_31 : decode cX8_one 31 = .ok (.putfield 94, 3) := by decide +kernel
theorem dX8_one_34 : decode cX8_one 34 = .ok (.aload_n 0, 1) := by decide +kernel
theorem dX8_one_35 : decode cX8_one 35 = .ok (.getfield 94, 3) := by decide +kernel
theorem dX8_one_38 : decode cX8_one 38 = .ok (.ifCond .ne 209, 3) := by decide +kernel
theorem dX8_one_41 : decode cX8_one 41 = .ok (.aload_n 0, 1) := by decide +kernel
theorem dX8_one_42 : decode cX8_one 42 = .ok (.dup, 1) := by decide +kernel
theorem dX8_one_43 : decode cX8_one 43 = .ok (.getfield 142, 3) := by decide +kernel
theorem dX8_one_46 : decode cX8_one 46 = .ok (.iconst 1, 1) := by decide +kernel
theorem dX8_one_47 : decode cX8_one 47 = .ok (.iadd, 1) := by decide +kernel
theorem dX8_one_48 : decode cX8_one 48 = .ok (.putfield 142, 3) := by decide +kernel
theorem dX8_one_51 : decode cX8_one 51 = .ok (.aload_n 0, 1) := by decide +kernel
theorem dX8_one_52 : decode cX8_one 52 = .ok (.dup, 1) := by decide +kernel
theorem dX8_one_53 : decode cX8_one 53 = .ok (.getfield 98, 3) := by decide +kernel
theorem dX8_one_56 : decode cX8_one 56 = .ok (.iconst 1, 1) := by decide +kernel
theorem dX8_one_57 : decode cX8_one 57 = .ok (.iadd, 1) := by decide +kernel
theorem dX8_one_58 : decode cX8_one 58 = .ok (.putfield 98, 3) := by decide +kernel
theorem dX8_one_61 : decode cX8_one 61 = .ok (.iload_n 1, 1) := by decide +kernel
theorem dX8_one_62 : decode cX8_one 62 = .ok (.bipush 33, 2) := by decide +kernel
theorem dX8_one_64 : decode cX8_one 64 = .ok (.if_icmp .ne 17, 3) := by decide +kernel
theorem dX8_one_67 : decode cX8_one 67 = .ok (.aload_n 0, 1) := by decide +kernel
theorem dX8_one_68 : decode cX8_one 68 = .ok (.invokevirtual 129, 3) := by decide +kernel
theorem dX8_one_71 : decode cX8_one 71 = .ok (.aload_n 0, 1) := by decide +kernel
theorem dX8_one_72 : decode cX8_one 72 = .ok (.sipush 20010, 3) := by decide +kernel
theorem dX8_one_75 : decode cX8_one 75 = .ok (.invokevirtual 116, 3) := by decide +kernel
theorem dX8_one_78 : decode cX8_one 78 = .ok (.goto 25, 3) := by decide +kernel
theorem dX8_one_81 : decode cX8_one 81 = .ok (.aload_n 0, 1) := by decide +kernel
theorem dX8_one_82 : decode cX8_one 82 = .ok (.invokevirtual 145, 3) := by decide +kernel
theorem dX8_one_85 : decode cX8_one 85 = .ok (.aload_n 0, 1) := by decide +kernel
theorem dX8_one_86 : decode cX8_one 86 = .ok (.aload_n 0, 1) := by decide +kernel
theorem dX8_one_87 : decode cX8_one 87 = .ok (.bipush 41, 2) := by decide +kernel
theorem dX8_one_89 : decode cX8_one 89 = .ok (.invokevirtual 112, 3) := by decide +kernel
theorem dX8_one_92 : decode cX8_one 92 = .ok (.ifCond .ne 7, 3) := by decide +kernel
theorem dX8_one_95 : decode cX8_one 95 = .ok (.iconst 1, 1) := by decide +kernel
theorem dX8_one_96 : decode cX8_one 96 = .ok (.goto 4, 3) := by decide +kernel
theorem dX8_one_99 : decode cX8_one 99 = .ok (.iconst 0, 1) := by decide +kernel
theorem dX8_one_100 : decode cX8_one 100 = .ok (.putfield 94, 3) := by decide +kernel
theorem dX8_one_103 : decode cX8_one 103 = .ok (.aload_n 0, 1) := by decide +kernel
theorem dX8_one_104 : decode cX8_one 104 = .ok (.dup, 1) := by decide +kernel
theorem dX8_one_105 : decode cX8_one 105 = .ok (.getfield 142, 3) := by decide +kernel
theorem dX8_one_108 : decode cX8_one 108 = .ok (.iconst 1, 1) := by decide +kernel
theorem dX8_one_109 : decode cX8_one 109 = .ok (.isub, 1) := by decide +kernel
theorem dX8_one_110 : decode cX8_one 110 = .ok (.putfield 142, 3) := by decide +kernel
theorem dX8_one_113 : decode cX8_one 113 = .ok (.goto 134, 3) := by decide +kernel
theorem dX8_one_116 : decode cX8_one 116 = .ok (.iload_n 1, 1) := by decide +kernel
theorem dX8_one_117 : decode cX8_one 117 = .ok (.bipush 48, 2) := by decide +kernel
theorem dX8_one_119 : decode cX8_one 119 = .ok (.bipush 57, 2) := by decide +kernel
theorem dX8_one_121 : decode cX8_one 121 = .ok (.invokestatic 82, 3) := by decide +kernel
theorem dX8_one_124 : decode cX8_one 124 = .ok (.ifCond .eq 63, 3) := by decide +kernel
theorem dX8_one_127 : decode cX8_one 127 = .ok (.iconst 0, 1) := by decide +kernel
theorem dX8_one_128 : decode cX8_one 128 = .ok (.istore_n 2, 1) := by decide +kernel
theorem dX8_one_129 : decode cX8_one 129 = .ok (.iconst 0, 1) := by decide +kernel
theorem dX8_one_130 : decode cX8_one 130 = .ok (.istore_n 3, 1) := by decide +kernel
theorem dX8_one_131 : decode cX8_one 131 = .ok (.iload_n 3, 1) := by decide +kernel
theorem dX8_one_132 : decode cX8_one 132 = .ok (.iconst 4, 1) := by decide +kernel
theorem dX8_one_133 : decode cX8_one 133 = .ok (.if_icmp .ge 46, 3) := by decide +kernel
theorem dX8_one_136 : decode cX8_one 136 = .ok (.aload_n 0, 1) := by decide +kernel
theorem dX8_one_137 : decode cX8_one 137 = .ok (.invokevirtual 102, 3) := by decide +kernel
theorem dX8_one_140 : decode cX8_one 140 = .ok (.bipush 48, 2) := by decide +kernel
theorem dX8_one_142 : decode cX8_one 142 = .ok (.bipush 57, 2) := by decide +kernel
theorem dX8_one_144 : decode cX8_one 144 = .ok (.invokestatic 82, 3) := by decide +kernel
theorem dX8_one_147 : decode cX8_one 147 = .ok (.ifCond .eq 32, 3) := by decide +kernel
theorem dX8_one_150 : decode cX8_one 150 = .ok (.bipush 10, 2) := by decide +kernel
theorem dX8_one_152 : decode cX8_one 152 = .ok (.iload_n 2, 1) := by decide +kernel
theorem dX8_one_153 : decode cX8_one 153 = .ok (.imul, 1) := by decide +kernel
theorem dX8_one_154 : decode cX8_one 154 = .ok (.aload_n 0, 1) := by decide +kernel
theorem dX8_one_155 : decode cX8_one 155 = .ok (.invokevirtual 102, 3) := by decide +kernel
theorem dX8_one_158 : decode cX8_one 158 = .ok (.iadd, 1) := by decide +kernel
theorem dX8_one_159 : decode cX8_one 159 = .ok (.bipush 48, 2) := by decide +kernel
theorem dX8_one_161 : decode cX8_one 161 = .ok (.isub, 1) := by decide +kernel
theorem dX8_one_162 : decode cX8_one 162 = .ok (.istore_n 2, 1) := by decide +kernel
theorem dX8_one_163 : decode cX8_one 163 = .ok (.aload_n 0, 1) := by decide +kernel
theorem dX8_one_164 : decode cX8_one 164 = .ok (.dup, 1) := by decide +kernel
theorem dX8_one_165 : decode cX8_one 165 = .ok (.getfield 98, 3) := by decide +kernel
theorem dX8_one_168 : decode cX8_one 168 = .ok (.iconst 1, 1) := by decide +kernel
theorem dX8_one_169 : decode cX8_one 169 = .ok (.iadd, 1) := by decide +kernel
theorem dX8_one_170 : decode cX8_one 170 = .ok (.putfield 98, 3) := by decide +kernel
theorem dX8_one_173 : decode cX8_one 173 = .ok (.iinc 3 1, 3) := by decide +kernel
theorem dX8_one_176 : decode cX8_one 176 = .ok (.goto (-45), 3) := by decide +kernel
theorem dX8_one_179 : decode cX8_one 179 = .ok (.aload_n 0, 1) := by decide +kernel
theorem dX8_one_180 : decode cX8_one 180 = .ok (.iload_n 2, 1) := by decide +kernel
theorem dX8_one_181 : decode cX8_one 181 = .ok (.invokevirtual 116, 3) := by decide +kernel
theorem dX8_one_184 : decode cX8_one 184 = .ok (.goto 63, 3) := by decide +kernel
theorem dX8_one_187 : decode cX8_one 187 = .ok (.iload_n 1, 1) := by decide +kernel
theorem dX8_one_188 : decode cX8_one 188 = .ok (.ifCond .ge 7, 3) := by decide +kernel
theorem dX8_one_191 : decode cX8_one 191 = .ok (.iconst (-1), 1) := by decide +kernel
theorem dX8_one_192 : decode cX8_one 192 = .ok (.goto 8, 3) := by decide +kernel
theorem dX8_one_195 : decode cX8_one 195 = .ok (.aload_n 0, 1) := by decide +kernel
theorem dX8_one_196 : decode cX8_one 196 = .ok (.iload_n 1, 1) := by decide +kernel
theorem dX8_one_197 : decode cX8_one 197 = .ok (.invokevirtual 148, 3) := by decide +kernel
theorem dX8_one_200 : decode cX8_one 200 = .ok (.istore_n 2, 1) := by decide +kernel
theorem dX8_one_201 : decode cX8_one 201 = .ok (.aload_n 0, 1) := by decide +kernel
theorem dX8_one_202 : decode cX8_one 202 = .ok (.aload_n 0, 1) := by decide +kernel
theorem dX8_one_203 : decode cX8_one 203 = .ok (.getfield 94, 3) := by decide +kernel
theorem dX8_one_206 : decode cX8_one 206 = .ok (.ifCond .ne 7, 3) := by decide +kernel
theorem dX8_one_209 : decode cX8_one 209 = .ok (.iload_n 2, 1) := by decide +kernel
theorem dX8_one_210 : decode cX8_one 210 = .ok (.ifCond .ge 7, 3) := by decide +kernel
theorem dX8_one_213 : decode cX8_one 213 = .ok (.iconst 1, 1) := by decide +kernel
theorem dX8_one_214 : decode cX8_one 214 = .ok (.goto 4, 3) := by decide +kernel
theorem dX8_one_217 : decode cX8_one 217 = .ok (.iconst 0, 1) := by decide +kernel
theorem dX8_one_218 : decode cX8_one 218 = .ok (.putfield 94, 3) := by decide +kernel
theorem dX8_one_221 : decode cX8_one 221 = .ok (.aload_n 0, 1) := by decide +kernel
theorem dX8_one_222 : decode cX8_one 222 = .ok (.getfield 94, 3) := by decide +kernel
theorem dX8_one_225 : decode cX8_one 225 = .ok (.ifCond .ne 22, 3) := by decide +kernel
theorem dX8_one_228 : decode cX8_one 228 = .ok (.aload_n 0, 1) := by decide +kernel
theorem dX8_one_229 : decode cX8_one 229 = .ok (.sipush 10000, 3) := by decide +kernel
theorem dX8_one_232 : decode cX8_one 232 = .ok (.iload_n 2, 1) := by decide +kernel
theorem dX8_one_233 : decode cX8_one 233 = .ok (.iadd, 1) := by decide +kernel
theorem dX8_one_234 : decode cX8_one 234 = .ok (.invokevirtual 116, 3) := by decide +kernel
theorem dX8_one_237 : decode cX8_one 237 = .ok (.aload_n 0, 1) := by decide +kernel
theorem dX8_one_238 : decode cX8_one 238 = .ok (.dup, 1) := by decide +kernel
theorem dX8_one_239 : decode cX8_one 239 = .ok (.getfield 98, 3) := by decide +kernel
theorem dX8_one_242 : decode cX8_one 242 = .ok (.iconst 1, 1) := by decide +kernel
theorem dX8_one_243 : decode cX8_one 243 = .ok (.iadd, 1) := by decide +kernel
theorem dX8_one_244 : decode cX8_one 244 = .ok (.putfield 98, 3) := by decide +kernel
theorem dX8_one_247 : decode cX8_one 247 = .ok (.return_, 1) := by decide +kernel
theorem dX8_text_0 : decode cX8_text 0 = .ok (.iload_n 1, 1) := by decide +kernel
theorem dX8_text_1 : decode cX8_text 1 = .ok (.iconst 0, 1) := by decide +kernel
theorem dX8_text_2 : decode cX8_text 2 = .ok (.iconst 1, 1) := by decide +kernel
theorem dX8_text_3 : decode cX8_text 3 = .ok (.invokestatic 82, 3) := by decide +kernel
theorem dX8_text_6 : decode cX8_text 6 = .ok (.ifCond .ne 10, 3) := by decide +kernel
theorem dX8_text_9 : decode cX8_text 9 = .ok (.aload_n 0, 1) := by decide +kernel
theorem dX8_text_10 : decode cX8_text 10 = .ok (.ldc 86, 2) := by decide +kernel
theorem dX8_text_12 : decode cX8_text 12 = .ok (.invokevirtual 87, 3) := by decide +kernel
theorem dX8_text_15 : decode cX8_text 15 = .ok (.ireturn, 1) := by decide +kernel
theorem dX8_text_16 : decode cX8_text 16 = .ok (.aload_n 0, 1) := by decide +kernel
theorem dX8_text_17 : decode cX8_text 17 = .ok (.iload_n 1, 1) := by decide +kernel
theorem dX8_text_18 : decode cX8_text 18 = .ok (.putfield 132, 3) := by decide +kernel
theorem dX8_text_21 : decode cX8_text 21 = .ok (.aload_n 0, 1) := by decide +kernel
theorem dX8_text_22 : decode cX8_text 22 = .ok (.iconst 0, 1) := by decide +kernel
theorem dX8_text_23 : decode cX8_text 23 = .ok (.putfield 98, 3) := by decide +kernel
theorem dX8_text_26 : decode cX8_text 26 = .ok (.aload_n 0, 1) := by decide +kernel
theorem dX8_text_27 : decode cX8_text 27 = .ok (.iconst 0, 1) := by decide +kernel
theorem dX8_text_28 : decode cX8_text 28 = .ok (.putfield 142, 3) := by decide +kernel
theorem dX8_text_31 : decode cX8_text 31 = .ok (.aload_n 0, 1) := by decide +kernel
theorem dX8_text_32 : decode cX8_text 32 = .ok (.iconst 0, 1) := by decide +kernel
theorem dX8_text_33 : decode cX8_text 33 = .ok (.putfield 94, 3) := by decide +kernel
theorem dX8_text_36 : decode cX8_text 36 = .ok (.aload_n 0, 1) := by decide +kernel
theorem dX8_text_37 : decode cX8_text 37 = .ok (.iconst 0, 1) := by decide +kernel
theorem dX8_text_38 : decode cX8_text 38 = .ok (.putfield 106, 3) := by decide +kernel
theorem dX8_text_41 : decode cX8_text 41 = .ok (.aload_n 0, 1) := by decide +kernel
theorem dX8_text_42 : decode cX8_text 42 = .ok (.invokevirtual 145, 3) := by decide +kernel
theorem dX8_text_45 : decode cX8_text 45 = .ok (.aload_n 0, 1) := by decide +kernel
theorem dX8_text_46 : decode cX8_text 46 = .ok (.aload_n 0, 1) := by decide +kernel
theorem dX8_text_47 : decode cX8_text 47 = .ok (.getfield 94, 3) := by decide +kernel
theorem dX8_text_50 : decode cX8_text 50 = .ok (.ifCond .ne 16, 3) := by decide +kernel
theorem dX8_text_53 : decode cX8_text 53 = .ok (.aload_n 0, 1) := by decide +kernel
theorem dX8_text_54 : decode cX8_text 54 = .ok (.getfield 98, 3) := by decide +kernel
theorem dX8_text_57 : decode cX8_text 57 = .ok (.aload_n 0, 1) := by decide +kernel
theorem dX8_text_58 : decode cX8_text 58 = .ok (.getfield 9, 3) := by decide +kernel
theorem dX8_text_61 : decode cX8_text 61 = .ok (.iconst 4, 1) := by decide +kernel
theorem dX8_text_62 : decode cX8_text 62 = .ok (.iaload, 1) := by decide +kernel
theorem dX8_text_63 : decode cX8_text 63 = .ok (.if_icmp .ge 7, 3) := by decide +kernel
theorem dX8_text_66 : decode cX8_text 66 = .ok (.iconst 1, 1) := by decide +kernel
theorem dX8_text_67 : decode cX8_text 67 = .ok (.goto 4, 3) := by decide +kernel
theorem dX8_text_70 : decode cX8_text 70 = .ok (.iconst 0, 1) := by decide +kernel
theorem dX8_text_71 : decode cX8_text 71 = .ok (.putfield 94, 3) := by decide +kernel
theorem dX8_text_74 : decode cX8_text 74 = .ok (.aload_n 0, 1) := by decide +kernel
theorem dX8_text_75 : decode cX8_text 75 = .ok (.getfield 9, 3) := by decide +kernel
theorem dX8_text_78 : decode cX8_text 78 = .ok (.iconst 4, 1) := by decide +kernel
theorem dX8_text_79 : decode cX8_text 79 = .ok (.iconst 0, 1) := by decide +kernel
theorem dX8_text_80 : decode cX8_text 80 = .ok (.iastore, 1) := by decide +kernel
theorem dX8_text_81 : decode cX8_text 81 = .ok (.aload_n 0, 1) := by decide +kernel
theorem dX8_text_82 : decode cX8_text 82 = .ok (.getfield 94, 3) := by decide +kernel
theorem dX8_text_85 : decode cX8_text 85 = .ok (.ifCond .eq 11, 3) := by decide +kernel
theorem dX8_text_88 : decode cX8_text 88 = .ok (.bipush (-10), 2) := by decide +kernel
theorem dX8_text_90 : decode cX8_text 90 = .ok (.aload_n 0, 1) := by decide +kernel
theorem dX8_text_91 : decode cX8_text 91 = .ok (.getfield 98, 3) := by decide +kernel
theorem dX8_text_94 : decode cX8_text 94 = .ok (.isub, 1) := by decide +kernel
theorem dX8_text_95 : decode cX8_text 95 = .ok (.ireturn, 1) := by decide +kernel
theorem dX8_text_96 : decode cX8_text 96 = .ok (.aload_n 0, 1) := by decide +kernel
theorem dX8_text_97 : decode cX8_text 97 = .ok (.getfield 9, 3) := by decide +kernel
theorem dX8_text_100 : decode cX8_text 100 = .ok (.bipush 124, 2) := by decide +kernel
theorem dX8_text_102 : decode cX8_text 102 = .ok (.bipush 52, 2) := by decide +kernel
theorem dX8_text_104 : decode cX8_text 104 = .ok (.aload_n 0, 1) := by decide +kernel
theorem dX8_text_105 : decode cX8_text 105 = .ok (.getfield 132, 3) := by decide +kernel
theorem dX8_text_108 : decode cX8_text 108 = .ok (.imul, 1) := by decide +kernel
theorem dX8_text_109 : decode cX8_text 109 = .ok (.iadd, 1) := by decide +kernel
theorem dX8_text_110 : decode cX8_text 110 = .ok (.aload_n 0, 1) := by decide +kernel
theorem dX8_text_111 : decode cX8_text 111 = .ok (.getfield 106, 3) := by decide +kernel
theorem dX8_text_114 : decode cX8_text 114 = .ok (.iastore, 1) := by decide +kernel
theorem dX8_text_115 : decode cX8_text 115 = .ok (.iconst 0, 1) := by decide +kernel
theorem dX8_text_116 : decode cX8_text 116 = .ok (.istore_n 2, 1) := by decide +kernel
theorem dX8_text_117 : decode cX8_text 117 = .ok (.iload_n 2, 1) := by decide +kernel
theorem dX8_text_118 : decode cX8_text 118 = .ok (.aload_n 0, 1) := by decide +kernel
theorem dX8_text_119 : decode cX8_text 119 = .ok (.getfield 106, 3) := by decide +kernel
theorem dX8_text_122 : decode cX8_text 122 = .ok (.if_icmp .ge 34, 3) := by decide +kernel
theorem dX8_text_125 : decode cX8_text 125 = .ok (.aload_n 0, 1) := by decide +kernel
theorem dX8_text_126 : decode cX8_text 126 = .ok (.getfield 9, 3) := by decide +kernel
theorem dX8_text_129 : decode cX8_text 129 = .ok (.bipush 124, 2) := by decide +kernel
theorem dX8_text_131 : decode cX8_text 131 = .ok (.bipush 52, 2) := by decide +kernel
theorem dX8_text_133 : decode cX8_text 133 = .ok (.aload_n 0, 1) := by decide +kernel
theorem dX8_text_134 : decode cX8_text 134 = .ok (.getfield 132, 3) := by decide +kernel
theorem dX8_text_137 : decode cX8_text 137 = .ok (.imul, 1) := by decide +kernel
theorem dX8_text_138 : decode cX8_text 138 = .ok (.iadd, 1) := by decide +kernel
theorem dX8_text_139 : decode cX8_text 139 = .ok (.iconst 1, 1) := by decide +kernel
theorem dX8_text_140 : decode cX8_text 140 = .ok (.iadd, 1) := by decide +kernel
theorem dX8_text_141 : decode cX8_text 141 = .ok (.iload_n 2, 1) := by decide +kernel
theorem dX8_text_142 : decode cX8_text 142 = .ok (.iadd, 1) := by decide +kernel
theorem dX8_text_143 : decode cX8_text 143 = .ok (.aload_n 0, 1) := by decide +kernel
theorem dX8_text_144 : decode cX8_text 144 = .ok (.getfield 41, 3) := by decide +kernel
theorem dX8_text_147 : decode cX8_text 147 = .ok (.iload_n 2, 1) := by decide +kernel
theorem dX8_text_148 : decode cX8_text 148 = .ok (.iaload, 1) := by decide +kernel
theorem dX8_text_149 : decode cX8_text 149 = .ok (.iastore, 1) := by decide +kernel
theorem dX8_text_150 : decode cX8_text 150 = .ok (.iinc 2 1, 3) := by decide +kernel
theorem dX8_text_153 : decode cX8_text 153 = .ok (.goto (-36), 3) := by decide +kernel
theorem dX8_text_156 : decode cX8_text 156 = .ok (.aload_n 0, 1) := by decide +kernel
theorem dX8_text_157 : decode cX8_text 157 = .ok (.invokevirtual 151, 3) := by decide +kernel
theorem dX8_text_160 : decode cX8_text 160 = .ok (.iconst 1, 1) := by decide +kernel
theorem dX8_text_161 : decode cX8_text 161 = .ok (.ireturn, 1) := by decide +kernel
theorem dX8_done_0 : decode cX8_done 0 = .ok (.iload_n 0, 1) := by decide +kernel
theorem dX8_done_1 : decode cX8_done 1 = .ok (.tableswitch 136 20000 20008 #[51, 65, 79, 90, 101, 112, 116, 120, 124], 51) := by decide +kernel
theorem dX8_done_52 : decode cX8_done 52 = .ok (.iload_n 1, 1) := by decide +kernel
theorem dX8_done_53 : decode cX8_done 53 = .ok (.ifCond .ne 7, 3) := by decide +kernel
