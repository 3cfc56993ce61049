theorem dX7_its_1 : decode cX7_its 1 = .ok (.getfield 7, 3) := by decide +kernel
theorem dX7_its_4 : decode cX7_its 4 = .ok (.bipush 8, 2) := by decide +kernel
theorem dX7_its_6 : decode cX7_its 6 = .ok (.bipush 7, 2) := by decide +kernel
theorem dX7_its_8 : decode cX7_its 8 = .ok (.iload_n 1, 1) := by decide +kernel
theorem dX7_its_9 : decode cX7_its 9 = .ok (.imul, 1) := by decide +kernel
theorem dX7_its_10 : decode cX7_its 10 = .ok (.iadd, 1) := by decide +kernel
theorem dX7_its_11 : decode cX7_its 11 = .ok (.iload_n 2, 1) := by decide +kernel
theorem dX7_its_12 : decode cX7_its 12 = .ok (.iadd, 1) := by decide +kernel
theorem dX7_its_13 : decode cX7_its 13 = .ok (.iaload, 1) := by decide +kernel
theorem dX7_its_14 : decode cX7_its 14 = .ok (.ireturn, 1) := by decide +kernel
theorem dX7_lays1_0 : decode cX7_lays1 0 = .ok (.aload_n 0, 1) := by decide +kernel
theorem dX7_lays1_1 : decode cX7_lays1 1 = .ok (.getfield 7, 3) := by decide +kernel
theorem dX7_lays1_4 : decode cX7_lays1 4 = .ok (.bipush 8, 2) := by decide +kernel
theorem dX7_lays1_6 : decode cX7_lays1 6 = .ok (.bipush 7, 2) := by decide +kernel
theorem dX7_lays1_8 : decode cX7_lays1 8 = .ok (.iload_n 1, 1) := by decide +kernel
theorem dX7_lays1_9 : decode cX7_lays1 9 = .ok (.imul, 1) := by decide +kernel
theorem dX7_lays1_10 : decode cX7_lays1 10 = .ok (.iadd, 1) := by decide +kernel
theorem dX7_lays1_11 : decode cX7_lays1 11 = .ok (.iload_n 2, 1) := by decide +kernel
theorem dX7_lays1_12 : decode cX7_lays1 12 = .ok (.iadd, 1) := by decide +kernel
theorem dX7_lays1_13 : decode cX7_lays1 13 = .ok (.iload_n 3, 1) := by decide +kernel
theorem dX7_lays1_14 : decode cX7_lays1 14 = .ok (.iastore, 1) := by decide +kernel
theorem dX7_lays1_15 : decode cX7_lays1 15 = .ok (.return_, 1) := by decide +kernel
theorem dX7_change1_0 : decode cX7_change1 0 = .ok (.aload_n 0, 1) := by decide +kernel
theorem dX7_change1_1 : decode cX7_change1 1 = .ok (.getfield 7, 3) := by decide +kernel
theorem dX7_change1_4 : decode cX7_change1 4 = .ok (.iload_n 1, 1) := by decide +kernel
theorem dX7_change1_5 : decode cX7_change1 5 = .ok (.iaload, 1) := by decide +kernel
theorem dX7_change1_6 : decode cX7_change1 6 = .ok (.istore_n 3, 1) := by decide +kernel
theorem dX7_change1_7 : decode cX7_change1 7 = .ok (.aload_n 0, 1) := by decide +kernel
theorem dX7_change1_8 : decode cX7_change1 8 = .ok (.getfield 7, 3) := by decide +kernel
theorem dX7_change1_11 : decode cX7_change1 11 = .ok (.iload_n 1, 1) := by decide +kernel
theorem dX7_change1_12 : decode cX7_change1 12 = .ok (.iload_n 2, 1) := by decide +kernel
theorem dX7_change1_13 : decode cX7_change1 13 = .ok (.iastore, 1) := by decide +kernel
theorem dX7_change1_14 : decode cX7_change1 14 = .ok (.iload_n 3, 1) := by decide +kernel
theorem dX7_change1_15 : decode cX7_change1 15 = .ok (.ireturn, 1) := by decide +kernel
theorem dX7_feed_0 : decode cX7_feed 0 = .ok (.iload_n 3, 1) := by decide +kernel
theorem dX7_feed_1 : decode cX7_feed 1 = .ok (.iconst 1, 1) := by decide +kernel
theorem dX7_feed_2 : decode cX7_feed 2 = .ok (.bipush 8, 2) := by decide +kernel
theorem dX7_feed_4 : decode cX7_feed 4 = .ok (.invokestatic 47, 3) := by decide +kernel
theorem dX7_feed_7 : decode cX7_feed 7 = .ok (.ifCond .ne 9, 3) := by decide +kernel
theorem dX7_feed_10 : decode cX7_feed 10 = .ok (.aload_n 0, 1) := by decide +kernel
theorem dX7_feed_11 : decode cX7_feed 11 = .ok (.iconst 1, 1) := by decide +kernel
theorem dX7_feed_12 : decode cX7_feed 12 = .ok (.invokevirtual 51, 3) := by decide +kernel
theorem dX7_feed_15 : decode cX7_feed 15 = .ok (.ireturn, 1) := by decide +kernel
theorem dX7_feed_16 : decode cX7_feed 16 = .ok (.aload_n 0, 1) := by decide +kernel
theorem dX7_feed_17 : decode cX7_feed 17 = .ok (.getfield 7, 3) := by decide +kernel
theorem dX7_feed_20 : decode cX7_feed 20 = .ok (.iconst 4, 1) := by decide +kernel
theorem dX7_feed_21 : decode cX7_feed 21 = .ok (.iaload, 1) := by decide +kernel
theorem dX7_feed_22 : decode cX7_feed 22 = .ok (.iload_n 3, 1) := by decide +kernel
theorem dX7_feed_23 : decode cX7_feed 23 = .ok (.iadd, 1) := by decide +kernel
theorem dX7_feed_24 : decode cX7_feed 24 = .ok (.bipush 60, 2) := by decide +kernel
theorem dX7_feed_26 : decode cX7_feed 26 = .ok (.if_icmp .le 9, 3) := by decide +kernel
theorem dX7_feed_29 : decode cX7_feed 29 = .ok (.aload_n 0, 1) := by decide +kernel
theorem dX7_feed_30 : decode cX7_feed 30 = .ok (.iconst 4, 1) := by decide +kernel
theorem dX7_feed_31 : decode cX7_feed 31 = .ok (.invokevirtual 51, 3) := by decide +kernel
theorem dX7_feed_34 : decode cX7_feed 34 = .ok (.ireturn, 1) := by decide +kernel
theorem dX7_feed_35 : decode cX7_feed 35 = .ok (.iconst 0, 1) := by decide +kernel
theorem dX7_feed_36 : decode cX7_feed 36 = .ok (.istore 4, 2) := by decide +kernel
theorem dX7_feed_38 : decode cX7_feed 38 = .ok (.iload 4, 2) := by decide +kernel
theorem dX7_feed_40 : decode cX7_feed 40 = .ok (.iload_n 3, 1) := by decide +kernel
theorem dX7_feed_41 : decode cX7_feed 41 = .ok (.if_icmp .ge 46, 3) := by decide +kernel
theorem dX7_feed_44 : decode cX7_feed 44 = .ok (.aload_n 0, 1) := by decide +kernel
theorem dX7_feed_45 : decode cX7_feed 45 = .ok (.getfield 7, 3) := by decide +kernel
theorem dX7_feed_48 : decode cX7_feed 48 = .ok (.sipush 328, 3) := by decide +kernel
theorem dX7_feed_51 : decode cX7_feed 51 = .ok (.aload_n 0, 1) := by decide +kernel
theorem dX7_feed_52 : decode cX7_feed 52 = .ok (.getfield 7, 3) := by decide +kernel
theorem dX7_feed_55 : decode cX7_feed 55 = .ok (.iconst 4, 1) := by decide +kernel
theorem dX7_feed_56 : decode cX7_feed 56 = .ok (.iaload, 1) := by decide +kernel
theorem dX7_feed_57 : decode cX7_feed 57 = .ok (.iadd, 1) := by decide +kernel
theorem dX7_feed_58 : decode cX7_feed 58 = .ok (.lload_n 1, 1) := by decide +kernel
theorem dX7_feed_59 : decode cX7_feed 59 = .ok (.bipush 8, 2) := by decide +kernel
theorem dX7_feed_61 : decode cX7_feed 61 = .ok (.iload 4, 2) := by decide +kernel
theorem dX7_feed_63 : decode cX7_feed 63 = .ok (.imul, 1) := by decide +kernel
theorem dX7_feed_64 : decode cX7_feed 64 = .ok (.lshr, 1) := by decide +kernel
theorem dX7_feed_65 : decode cX7_feed 65 = .ok (.ldc2_w 55, 3) := by decide +kernel
theorem dX7_feed_68 : decode cX7_feed 68 = .ok (.land, 1) := by decide +kernel
theorem dX7_feed_69 : decode cX7_feed 69 = .ok (.l2i, 1) := by decide +kernel
theorem dX7_feed_70 : decode cX7_feed 70 = .ok (.iastore, 1) := by decide +kernel
theorem dX7_feed_71 : decode cX7_feed 71 = .ok (.aload_n 0, 1) := by decide +kernel
theorem dX7_feed_72 : decode cX7_feed 72 = .ok (.getfield 7, 3) := by decide +kernel
theorem dX7_feed_75 : decode cX7_feed 75 = .ok (.iconst 4, 1) := by decide +kernel
theorem dX7_feed_76 : decode cX7_feed 76 = .ok (.dup2, 1) := by decide +kernel
theorem dX7_feed_77 : decode cX7_feed 77 = .ok (.iaload, 1) := by decide +kernel
theorem dX7_feed_78 : decode cX7_feed 78 = .ok (.iconst 1, 1) := by decide +kernel
theorem dX7_feed_79 : decode cX7_feed 79 = .ok (.iadd, 1) := by decide +kernel
theorem dX7_feed_80 : decode cX7_feed 80 = .ok (.iastore, 1) := by decide +kernel
theorem dX7_feed_81 : decode cX7_feed 81 = .ok (.iinc 4 1, 3) := by decide +kernel
theorem dX7_feed_84 : decode cX7_feed 84 = .ok (.goto (-46), 3) := by decide +kernel
theorem dX7_feed_87 : decode cX7_feed 87 = .ok (.aload_n 0, 1) := by decide +kernel
theorem dX7_feed_88 : decode cX7_feed 88 = .ok (.getfield 7, 3) := by decide +kernel
theorem dX7_feed_91 : decode cX7_feed 91 = .ok (.iconst 4, 1) := by decide +kernel
theorem dX7_feed_92 : decode cX7_feed 92 = .ok (.iaload, 1) := by decide +kernel
theorem dX7_feed_93 : decode cX7_feed 93 = .ok (.ireturn, 1) := by decide +kernel
theorem dX7_look_0 : decode cX7_look 0 = .ok (.aload_n 0, 1) := by decide +kernel
theorem dX7_look_1 : decode cX7_look 1 = .ok (.getfield 57, 3) := by decide +kernel
theorem dX7_look_4 : decode cX7_look 4 = .ok (.aload_n 0, 1) := by decide +kernel
theorem dX7_look_5 : decode cX7_look 5 = .ok (.getfield 7, 3) := by decide +kernel
theorem dX7_look_8 : decode cX7_look 8 = .ok (.iconst 4, 1) := by decide +kernel
theorem dX7_look_9 : decode cX7_look 9 = .ok (.iaload, 1) := by decide +kernel
theorem dX7_look_10 : decode cX7_look 10 = .ok (.if_icmp .ge 19, 3) := by decide +kernel
theorem dX7_look_13 : decode cX7_look 13 = .ok (.aload_n 0, 1) := by decide +kernel
theorem dX7_look_14 : decode cX7_look 14 = .ok (.getfield 7, 3) := by decide +kernel
theorem dX7_look_17 : decode cX7_look 17 = .ok (.sipush 328, 3) := by decide +kernel
theorem dX7_look_20 : decode cX7_look 20 = .ok (.aload_n 0, 1) := by decide +kernel
theorem dX7_look_21 : decode cX7_look 21 = .ok (.getfield 57, 3) := by decide +kernel
theorem dX7_look_24 : decode cX7_look 24 = .ok (.iadd, 1) := by decide +kernel
theorem dX7_look_25 : decode cX7_look 25 = .ok (.iaload, 1) := by decide +kernel
theorem dX7_look_26 : decode cX7_look 26 = .ok (.goto 4, 3) := by decide +kernel
theorem dX7_look_29 : decode cX7_look 29 = .ok (.iconst (-1), 1) := by decide +kernel
theorem dX7_look_30 : decode cX7_look 30 = .ok (.ireturn, 1) := by decide +kernel
theorem dX7_isName_0 : decode cX7_isName 0 = .ok (.iload_n 1, 1) := by decide +kernel
theorem dX7_isName_1 : decode cX7_isName 1 = .ok (.aload_n 0, 1) := by decide +kernel
theorem dX7_isName_2 : decode cX7_isName 2 = .ok (.getfield 61, 3) := by decide +kernel
theorem dX7_isName_5 : decode cX7_isName 5 = .ok (.ifCond .ne 8, 3) := by decide +kernel
theorem dX7_isName_8 : decode cX7_isName 8 = .ok (.bipush 104, 2) := by decide +kernel
theorem dX7_isName_10 : decode cX7_isName 10 = .ok (.goto 5, 3) := by decide +kernel
theorem dX7_isName_13 : decode cX7_isName 13 = .ok (.bipush 114, 2) := by decide +kernel
theorem dX7_isName_15 : decode cX7_isName 15 = .ok (.if_icmp .ne 5, 3) := by decide +kernel
theorem dX7_isName_18 : decode cX7_isName 18 = .ok (.iconst 1, 1) := by decide +kernel
theorem dX7_isName_19 : decode cX7_isName 19 = .ok (.ireturn, 1) := by decide +kernel
theorem dX7_isName_20 : decode cX7_isName 20 = .ok (.aload_n 0, 1) := by decide +kernel
theorem dX7_isName_21 : decode cX7_isName 21 = .ok (.getfield 61, 3) := by decide +kernel
theorem dX7_isName_24 : decode cX7_isName 24 = .ok (.ifCond .ne 23, 3) := by decide +kernel
theorem dX7_isName_27 : decode cX7_isName 27 = .ok (.iload_n 1, 1) := by decide +kernel
theorem dX7_isName_28 : decode cX7_isName 28 = .ok (.bipush 110, 2) := by decide +kernel
theorem dX7_isName_30 : decode cX7_isName 30 = .ok (.if_icmp .eq 9, 3) := by decide +kernel
theorem dX7_isName_33 : decode cX7_isName 33 = .ok (.iload_n 1, 1) := by decide +kernel
theorem dX7_isName_34 : decode cX7_isName 34 = .ok (.bipush 103, 2) := by decide +kernel
theorem dX7_isName_36 : decode cX7_isName 36 = .ok (.if_icmp .ne 7, 3) := by decide +kernel
theorem dX7_isName_39 : decode cX7_isName 39 = .ok (.iconst 1, 1) := by decide +kernel
theorem dX7_isName_40 : decode cX7_isName 40 = .ok (.goto 24, 3) := by decide +kernel
theorem dX7_isName_43 : decode cX7_isName 43 = .ok (.iconst 0, 1) := by decide +kernel
theorem dX7_isName_44 : decode cX7_isName 44 = .ok (.goto 20, 3) := by decide +kernel
theorem dX7_isName_47 : decode cX7_isName 47 = .ok (.iload_n 1, 1) := by decide +kernel
theorem dX7_isName_48 : decode cX7_isName 48 = .ok (.bipush 99, 2) := by decide +kernel
theorem dX7_isName_50 : decode cX7_isName 50 = .ok (.if_icmp .eq 9, 3) := by decide +kernel
theorem dX7_isName_53 : decode cX7_isName 53 = .ok (.iload_n 1, 1) := by decide +kernel
theorem dX7_isName_54 : decode cX7_isName 54 = .ok (.bipush 121, 2) := by decide +kernel
theorem dX7_isName_56 : decode cX7_isName 56 = .ok (.if_icmp .ne 7, 3) := by decide +kernel
theorem dX7_isName_59 : decode cX7_isName 59 = .ok (.iconst 1, 1) := by decide +kernel
theorem dX7_isName_60 : decode cX7_isName 60 = .ok (.goto 4, 3) := by decide +kernel
theorem dX7_isName_63 : decode cX7_isName 63 = .ok (.iconst 0, 1) := by decide +kernel
theorem dX7_isName_64 : decode cX7_isName 64 = .ok (.ireturn, 1) := by decide +kernel
theorem dX7_step1_0 : decode cX7_step1 0 = .ok (.aload_n 0, 1) := by decide +kernel
theorem dX7_step1_1 : decode cX7_step1 1 = .ok (.getfield 19, 3) := by decide +kernel
theorem dX7_step1_4 : decode cX7_step1 4 = .ok (.iconst 2, 1) := by decide +kernel
theorem dX7_step1_5 : decode cX7_step1 5 = .ok (.aload_n 0, 1) := by decide +kernel
theorem dX7_step1_6 : decode cX7_step1 6 = .ok (.getfield 64, 3) := by decide +kernel
theorem dX7_step1_9 : decode cX7_step1 9 = .ok (.imul, 1) := by decide +kernel
theorem dX7_step1_10 : decode cX7_step1 10 = .ok (.iload_n 1, 1) := by decide +kernel
theorem dX7_step1_11 : decode cX7_step1 11 = .ok (.iastore, 1) := by decide +kernel
theorem dX7_step1_12 : decode cX7_step1 12 = .ok (.aload_n 0, 1) := by decide +kernel
theorem dX7_step1_13 : decode cX7_step1 13 = .ok (.getfield 19, 3) := by decide +kernel
theorem dX7_step1_16 : decode cX7_step1 16 = .ok (.iconst 2, 1) := by decide +kernel
theorem dX7_step1_17 : decode cX7_step1 17 = .ok (.aload_n 0, 1) := by decide +kernel
theorem dX7_step1_18 : decode cX7_step1 18 = .ok (.getfield 64, 3) := by decide +kernel
theorem dX7_step1_21 : decode cX7_step1 21 = .ok (.imul, 1) := by decide +kernel
theorem dX7_step1_22 : decode cX7_step1 22 = .ok (.iconst 1, 1) := by decide +kernel
theorem dX7_step1_23 : decode cX7_step1 23 = .ok (.iadd, 1) := by decide +kernel
theorem dX7_step1_24 : decode cX7_step1 24 = .ok (.iload_n 2, 1) := by decide +kernel
theorem dX7_step1_25 : decode cX7_step1 25 = .ok (.iastore, 1) := by decide +kernel
theorem dX7_step1_26 : decode cX7_step1 26 = .ok (.aload_n 0, 1) := by decide +kernel
theorem dX7_step1_27 : decode cX7_step1 27 = .ok (.dup, 1) := by decide +kernel
theorem dX7_step1_28 : decode cX7_step1 28 = .ok (.getfield 64, 3) := by decide +kernel
theorem dX7_step1_31 : decode cX7_step1 31 = .ok (.iconst 1, 1) := by decide +kernel
theorem dX7_step1_32 : decode cX7_step1 32 = .ok (.iadd, 1) := by decide +kernel
theorem dX7_step1_33 : decode cX7_step1 33 = .ok (.putfield 64, 3) := by decide +kernel
theorem dX7_step1_36 : decode cX7_step1 36 = .ok (.return_, 1) := by decide +kernel
theorem dX7_whole_0 : decode cX7_whole 0 = .ok (.aload_n 0, 1) := by decide +kernel
theorem dX7_whole_1 : decode cX7_whole 1 = .ok (.invokevirtual 67, 3) := by decide +kernel
theorem dX7_whole_4 : decode cX7_whole 4 = .ok (.ifCond .ne 5, 3) := by decide +kernel
theorem dX7_whole_7 : decode cX7_whole 7 = .ok (.iconst 0, 1) := by decide +kernel
theorem dX7_whole_8 : decode cX7_whole 8 = .ok (.ireturn, 1) := by decide +kernel
theorem dX7_whole_9 : decode cX7_whole 9 = .ok (.aload_n 0, 1) := by decide +kernel
theorem dX7_whole_10 : decode cX7_whole 10 = .ok (.invokevirtual 71, 3) := by decide +kernel
theorem dX7_whole_13 : decode cX7_whole 13 = .ok (.bipush 124, 2) := by decide +kernel
theorem dX7_whole_15 : decode cX7_whole 15 = .ok (.if_icmp .ne 32, 3) := by decide +kernel
theorem dX7_whole_18 : decode cX7_whole 18 = .ok (.aload_n 0, 1) := by decide +kernel
theorem dX7_whole_19 : decode cX7_whole 19 = .ok (.dup, 1) := by decide +kernel
theorem dX7_whole_20 : decode cX7_whole 20 = .ok (.getfield 57, 3) := by decide +kernel
theorem dX7_whole_23 : decode cX7_whole 23 = .ok (.iconst 1, 1) := by decide +kernel
theorem dX7_whole_24 : decode cX7_whole 24 = .ok (.iadd, 1) := by decide +kernel
theorem dX7_whole_25 : decode cX7_whole 25 = .ok (.putfield 57, 3) := by decide +kernel
theorem dX7_whole_28 : decode cX7_whole 28 = .ok (.aload_n 0, 1) := by decide +kernel
theorem dX7_whole_29 : decode cX7_whole 29 = .ok (.invokevirtual 67, 3) := by decide +kernel
theorem dX7_whole_32 : decode cX7_whole 32 = .ok (.ifCond .ne 5, 3) := by decide +kernel
theorem dX7_whole_35 : decode cX7_whole 35 = .ok (.iconst 0, 1) := by decide +kernel
theorem dX7_whole_36 : decode cX7_whole 36 = .ok (.ireturn, 1) := by decide +kernel
theorem dX7_whole_37 : decode cX7_whole 37 = .ok (.aload_n 0, 1) := by decide +kernel
theorem dX7_whole_38 : decode cX7_whole 38 = .ok (.iconst 3, 1) := by decide +kernel
theorem dX7_whole_39 : decode cX7_whole 39 = .ok (.bipush 124, 2) := by decide +kernel
theorem dX7_whole_41 : decode cX7_whole 41 = .ok (.invokevirtual 75, 3) := by decide +kernel
theorem dX7_whole_44 : decode cX7_whole 44 = .ok (.goto (-35), 3) := by decide +kernel
theorem dX7_whole_47 : decode cX7_whole 47 = .ok (.iconst 1, 1) := by decide +kernel
theorem dX7_whole_48 : decode cX7_whole 48 = .ok (.ireturn, 1) := by decide +kernel
theorem dX7_both_0 : decode cX7_both 0 = .ok (.aload_n 0, 1) := by decide +kernel
theorem dX7_both_1 : decode cX7_both 1 = .ok (.invokevirtual 79, 3) := by decide +kernel
theorem dX7_both_4 : decode cX7_both 4 = .ok (.ifCond .ne 5, 3) := by decide +kernel
theorem dX7_both_7 : decode cX7_both 7 = .ok (.iconst 0, 1) := by decide +kernel
theorem dX7_both_8 : decode cX7_both 8 = .ok (.ireturn, 1) := by decide +kernel
theorem dX7_both_9 : decode cX7_both 9 = .ok (.aload_n 0, 1) := by decide +kernel
theorem dX7_both_10 : decode cX7_both 10 = .ok (.invokevirtual 71, 3) := by decide +kernel
theorem dX7_both_13 : decode cX7_both 13 = .ok (.bipush 38, 2) := by decide +kernel
theorem dX7_both_15 : decode cX7_both 15 = .ok (.if_icmp .ne 32, 3) := by decide +kernel
theorem dX7_both_18 : decode cX7_both 18 = .ok (.aload_n 0, 1) := by decide +kernel
theorem dX7_both_19 : decode cX7_both 19 = .ok (.dup, 1) := by decide +kernel
theorem dX7_both_20 : decode cX7_both 20 = .ok (.getfield 57, 3) := by decide +kernel
theorem dX7_both_23 : decode cX7_both 23 = .ok (.iconst 1, 1) := by decide +kernel
theorem dX7_both_24 : decode cX7_both 24 = .ok (.iadd, 1) := by decide +kernel
theorem dX7_both_25 : decode cX7_both 25 = .ok (.putfield 57, 3) := by decide +kernel
theorem dX7_both_28 : decode cX7_both 28 = .ok (.aload_n 0, 1) := by decide +kernel
theorem dX7_both_29 : decode cX7_both 29 = .ok (.invokevirtual 79, 3) := by decide +kernel
theorem dX7_both_32 : decode cX7_both 32 = .ok (.ifCond .ne 5, 3) := by decide +kernel
theorem dX7_both_35 : decode cX7_both 35 = .ok (.iconst 0, 1) := by decide +kernel
theorem dX7_both_36 : decode cX7_both 36 = .ok (.ireturn, 1) := by decide +kernel
theorem dX7_both_37 : decode cX7_both 37 = .ok (.aload_n 0, 1) := by decide +kernel
theorem dX7_both_38 : decode cX7_both 38 = .ok (.iconst 3, 1) := by decide +kernel
theorem dX7_both_39 : decode cX7_both 39 = .ok (.bipush 38, 2) := by decide +kernel
theorem dX7_both_41 : decode cX7_both 41 = .ok (.invokevirtual 75, 3) := by decide +kernel
theorem dX7_both_44 : decode cX7_both 44 = .ok (.goto (-35), 3) := by decide +kernel
theorem dX7_both_47 : decode cX7_both 47 = .ok (.iconst 1, 1) := by decide +kernel
theorem dX7_both_48 : decode cX7_both 48 = .ok (.ireturn, 1) := by decide +kernel
theorem dX7_compared_0 : decode cX7_compared 0 = .ok (.aload_n 0, 1) := by decide +kernel
theorem dX7_compared_1 : decode cX7_compared 1 = .ok (.invokevirtual 82, 3) := by decide +kernel
theorem dX7_compared_4 : decode cX7_compared 4 = .ok (.ifCond .ne 5, 3) := by decide +kernel
theorem dX7_compared_7 : decode cX7_compared 7 = .ok (.iconst 0, 1) := by decide +kernel
theorem dX7_compared_8 : decode cX7_compared 8 = .ok (.ireturn, 1) := by decide +kernel
theorem dX7_compared_9 : decode cX7_compared 9 = .ok (.aload_n 0, 1) := by decide +kernel
theorem dX7_compared_10 : decode cX7_compared 10 = .ok (.invokevirtual 71, 3) := by decide +kernel
theorem dX7_compared_13 : decode cX7_compared 13 = .ok (.istore_n 1, 1) := by decide +kernel
theorem dX7_compared_14 : decode cX7_compared 14 = .ok (.iload_n 1, 1) := by decide +kernel
theorem dX7_compared_15 : decode cX7_compared 15 = .ok (.bipush 60, 2) := by decide +kernel
theorem dX7_compared_17 : decode cX7_compared 17 = .ok (.if_icmp .eq 17, 3) := by decide +kernel
theorem dX7_compared_20 : decode cX7_compared 20 = .ok (.iload_n 1, 1) := by decide +kernel
theorem dX7_compared_21 : decode cX7_compared 21 = .ok (.bipush 61, 2) := by decide +kernel
theorem dX7_compared_23 : decode cX7_compared 23 = .ok (.if_icmp .eq 11, 3) := by decide +kernel
theorem dX7_compared_26 : decode cX7_compared 26 = .ok (.iload_n 1, 1) := by decide +kernel
theorem dX7_compared_27 : decode cX7_compared 27 = .ok (.bipush 62, 2) := by decide +kernel
theorem dX7_compared_29 : decode cX7_compared 29 = .ok (.if_icmp .eq 5, 3) := by decide +kernel
theorem dX7_compared_32 : decode cX7_compared 32 = .ok (.iconst 1, 1) := by decide +kernel
theorem dX7_compared_33 : decode cX7_compared 33 = .ok (.ireturn, 1) := by decide +kernel
theorem dX7_compared_34 : decode cX7_compared 34 = .ok (.aload_n 0, 1) := by decide +kernel
theorem dX7_compared_35 : decode cX7_compared 35 = .ok (.dup, 1) := by decide +kernel
theorem dX7_compared_36 : decode cX7_compared 36 = .ok (.getfield 57, 3) := by decide +kernel
theorem dX7_compared_39 : decode cX7_compared 39 = .ok (.iconst 1, 1) := by decide +kernel
theorem dX7_compared_40 : decode cX7_compared 40 = .ok (.iadd, 1) := by decide +kernel
theorem dX7_compared_41 : decode cX7_compared 41 = .ok (.putfield 57, 3) := by decide +kernel
theorem dX7_compared_44 : decode cX7_compared 44 = .ok (.aload_n 0, 1) := by decide +kernel
theorem dX7_compared_45 : decode cX7_compared 45 = .ok (.invokevirtual 82, 3) := by decide +kernel
theorem dX7_compared_48 : decode cX7_compared 48 = .ok (.ifCond .ne 5, 3) := by decide +kernel
theorem dX7_compared_51 : decode cX7_compared 51 = .ok (.iconst 0, 1) := by decide +kernel
theorem dX7_compared_52 : decode cX7_compared 52 = .ok (.ireturn, 1) := by decide +kernel
theorem dX7_compared_53 : decode cX7_compared 53 = .ok (.aload_n 0, 1) := by decide +kernel
theorem dX7_compared_54 : decode cX7_compared 54 = .ok (.iconst 3, 1) := by decide +kernel
theorem dX7_compared_55 : decode cX7_compared 55 = .ok (.iload_n 1, 1) := by decide +kernel
theorem dX7_compared_56 : decode cX7_compared 56 = .ok (.invokevirtual 75, 3) := by decide +kernel
theorem dX7_compared_59 : decode cX7_compared 59 = .ok (.iconst 1, 1) := by decide +kernel
theorem dX7_compared_60 : decode cX7_compared 60 = .ok (.ireturn, 1) := by decide +kernel
theorem dX7_sum_0 : decode cX7_sum 0 = .ok (.aload_n 0, 1) := by decide +kernel
theorem dX7_sum_1 : decode cX7_sum 1 = .ok (.invokevirtual 85, 3) := by decide +kernel
theorem dX7_sum_4 : decode cX7_sum 4 = .ok (.ifCond .ne 5, 3) := by decide +kernel
theorem dX7_sum_7 : decode cX7_sum 7 = .ok (.iconst 0, 1) := by decide +kernel
theorem dX7_sum_8 : decode cX7_sum 8 = .ok (.ireturn, 1) := by decide +kernel
theorem dX7_sum_9 : decode cX7_sum 9 = .ok (.aload_n 0, 1) := by decide +kernel
theorem dX7_sum_10 : decode cX7_sum 10 = .ok (.invokevirtual 71, 3) := by decide +kernel
theorem dX7_sum_13 : decode cX7_sum 13 = .ok (.bipush 43, 2) := by decide +kernel
theorem dX7_sum_15 : decode cX7_sum 15 = .ok (.if_icmp .eq 12, 3) := by decide +kernel
theorem dX7_sum_18 : decode cX7_sum 18 = .ok (.aload_n 0, 1) := by decide +kernel
theorem dX7_sum_19 : decode cX7_sum 19 = .ok (.invokevirtual 71, 3) := by decide +kernel
theorem dX7_sum_22 : decode cX7_sum 22 = .ok (.bipush 45, 2) := by decide +kernel
theorem dX7_sum_24 : decode cX7_sum 24 = .ok (.if_icmp .ne 36, 3) := by decide +kernel
theorem dX7_sum_27 : decode cX7_sum 27 = .ok (.aload_n 0, 1) := by decide +kernel
theorem dX7_sum_28 : decode cX7_sum 28 = .ok (.invokevirtual 71, 3) := by decide +kernel
theorem dX7_sum_31 : decode cX7_sum 31 = .ok (.istore_n 1, 1) := by decide +kernel
theorem dX7_sum_32 : decode cX7_sum 32 = .ok (.aload_n 0, 1) := by decide +kernel
theorem dX7_sum_33 : decode cX7_sum 33 = .ok (.dup, 1) := by decide +kernel
theorem dX7_sum_34 : decode cX7_sum 34 = .ok (.getfield 57, 3) := by decide +kernel
theorem dX7_sum_37 : decode cX7_sum 37 = .ok (.iconst 1, 1) := by decide +kernel
theorem dX7_sum_38 : decode cX7_sum 38 = .ok (.iadd, 1) := by decide +kernel
theorem dX7_sum_39 : decode cX7_sum 39 = .ok (.putfield 57, 3) := by decide +kernel
theorem dX7_sum_42 : decode cX7_sum 42 = .ok (.aload_n 0, 1) := by decide +kernel
theorem dX7_sum_43 : decode cX7_sum 43 = .ok (.invokevirtual 85, 3) := by decide +kernel
theorem dX7_sum_46 : decode cX7_sum 46 = .ok (.ifCond .ne 5, 3) := by decide +kernel
theorem dX7_sum_49 : decode cX7_sum 49 = .ok (.iconst 0, 1) := by decide +kernel
theorem dX7_sum_50 : decode cX7_sum 50 = .ok (.ireturn, 1) := by decide +kernel
theorem dX7_sum_51 : decode cX7_sum 51 = .ok (.aload_n 0, 1) := by decide +kernel
theorem dX7_sum_52 : decode cX7_sum 52 = .ok (.iconst 3, 1) := by decide +kernel
theorem dX7_sum_53 : decode cX7_sum 53 = .ok (.iload_n 1, 1) := by decide +kernel
theorem dX7_sum_54 : decode cX7_sum 54 = .ok (.invokevirtual 75, 3) := by decide +kernel
theorem dX7_sum_57 : decode cX7_sum 57 = .ok (.goto (-48), 3) := by decide +kernel
theorem dX7_sum_60 : decode cX7_sum 60 = .ok (.iconst 1, 1) := by decide +kernel
theorem dX7_sum_61 : decode cX7_sum 61 = .ok (.ireturn, 1) := by decide +kernel
theorem dX7_product_0 : decode cX7_product 0 = .ok (.aload_n 0, 1) := by decide +kernel
theorem dX7_product_1 : decode cX7_product 1 = .ok (.invokevirtual 88, 3) := by decide +kernel
theorem dX7_product_4 : decode cX7_product 4 = .ok (.ifCond .ne 5, 3) := by decide +kernel
theorem dX7_product_7 : decode cX7_product 7 = .ok (.iconst 0, 1) := by decide +kernel
theorem dX7_product_8 : decode cX7_product 8 = .ok (.ireturn, 1) := by decide +kernel
theorem dX7_product_9 : decode cX7_product 9 = .ok (.aload_n 0, 1) := by decide +kernel
theorem dX7_product_10 : decode cX7_product 10 = .ok (.invokevirtual 71, 3) := by decide +kernel
theorem dX7_product_13 : decode cX7_product 13 = .ok (.bipush 42, 2) := by decide +kernel
theorem dX7_product_15 : decode cX7_product 15 = .ok (.if_icmp .eq 21, 3) := by decide +kernel
theorem dX7_product_18 : decode cX7_product 18 = .ok (.aload_n 0, 1) := by decide +kernel
theorem dX7_product_19 : decode cX7_product 19 = .ok (.invokevirtual 71, 3) := by decide +kernel
theorem dX7_product_22 : decode cX7_product 22 = .ok (.bipush 47, 2) := by decide +kernel
theorem dX7_product_24 : decode cX7_product 24 = .ok (.if_icmp .eq 12, 3) := by decide +kernel
theorem dX7_product_27 : decode cX7_product 27 = .ok (.aload_n 0, 1) := by decide +kernel
theorem dX7_product_28 : decode cX7_product 28 = .ok (.invokevirtual 71, 3) := by decide +kernel
theorem dX7_product_31 : decode cX7_product 31 = .ok (.bipush 37, 2) := by decide +kernel
theorem dX7_product_33 : decode cX7_product 33 = .ok (.if_icmp .ne 36, 3) := by decide +kernel
theorem dX7_product_36 : decode cX7_product 36 = .ok (.aload_n 0, 1) := by decide +kernel
theorem dX7_product_37 : decode cX7_product 37 = .ok (.invokevirtual 71, 3) := by decide +kernel
theorem dX7_product_40 : decode cX7_product 40 = .ok (.istore_n 1, 1) := by decide +kernel
theorem dX7_product_41 : decode cX7_product 41 = .ok (.aload_n 0, 1) := by decide +kernel
theorem dX7_product_42 : decode cX7_product 42 = .ok (.dup, 1) := by decide +kernel
theorem dX7_product_43 : decode cX7_product 43 = .ok (.getfield 57, 3) := by decide +kernel
theorem dX7_product_46 : decode cX7_product 46 = .ok (.iconst 1, 1) := by decide +kernel
theorem dX7_product_47 : decode cX7_product 47 = .ok (.iadd, 1) := by decide +kernel
theorem dX7_product_48 : decode cX7_product 48 = .ok (.putfield 57, 3) := by decide +kernel
theorem dX7_product_51 : decode cX7_product 51 = .ok (.aload_n 0, 1) := by decide +kernel
theorem dX7_product_52 : decode cX7_product 52 = .ok (.invokevirtual 88, 3) := by decide +kernel
theorem dX7_product_55 : decode cX7_product 55 = .ok (.ifCond .ne 5, 3) := by decide +kernel
theorem dX7_product_58 : decode cX7_product 58 = .ok (.iconst 0, 1) := by decide +kernel
theorem dX7_product_59 : decode cX7_product 59 = .ok (.ireturn, 1) := by decide +kernel
theorem dX7_product_60 : decode cX7_product 60 = .ok (.aload_n 0, 1) := by decide +kernel
theorem dX7_product_61 : decode cX7_product 61 = .ok (.iconst 3, 1) := by decide +kernel
theorem dX7_product_62 : decode cX7_product 62 = .ok (.iload_n 1, 1) := by decide +kernel
theorem dX7_product_63 : decode cX7_product 63 = .ok (.invokevirtual 75, 3) := by decide +kernel
theorem dX7_product_66 : decode cX7_product 66 = .ok (.goto (-57), 3) := by decide +kernel
theorem dX7_product_69 : decode cX7_product 69 = .ok (.iconst 1, 1) := by decide +kernel
theorem dX7_product_70 : decode cX7_product 70 = .ok (.ireturn, 1) := by decide +kernel
theorem dX7_opens_0 : decode cX7_opens 0 = .ok (.aload_n 0, 1) := by decide +kernel
theorem dX7_opens_1 : decode cX7_opens 1 = .ok (.getfield 91, 3) := by decide +kernel
theorem dX7_opens_4 : decode cX7_opens 4 = .ok (.iconst 5, 1) := by decide +kernel
theorem dX7_opens_5 : decode cX7_opens 5 = .ok (.if_icmp .ne 5, 3) := by decide +kernel
theorem dX7_opens_8 : decode cX7_opens 8 = .ok (.iconst 0, 1) := by decide +kernel
theorem dX7_opens_9 : decode cX7_opens 9 = .ok (.ireturn, 1) := by decide +kernel
theorem dX7_opens_10 : decode cX7_opens 10 = .ok (.aload_n 0, 1) := by decide +kernel
theorem dX7_opens_11 : decode cX7_opens 11 = .ok (.dup, 1) := by decide +kernel
theorem dX7_opens_12 : decode cX7_opens 12 = .ok (.getfield 91, 3) := by decide +kernel
theorem dX7_opens_15 : decode cX7_opens 15 = .ok (.iconst 1, 1) := by decide +kernel
theorem dX7_opens_16 : decode cX7_opens 16 = .ok (.iadd, 1) := by decide +kernel
theorem dX7_opens_17 : decode cX7_opens 17 = .ok (.putfield 91, 3) := by decide +kernel
theorem dX7_opens_20 : decode cX7_opens 20 = .ok (.aload_n 0, 1) := by decide +kernel
theorem dX7_opens_21 : decode cX7_opens 21 = .ok (.dup, 1) := by decide +kernel
theorem dX7_opens_22 : decode cX7_opens 22 = .ok (.getfield 57, 3) := by decide +kernel
theorem dX7_opens_25 : decode cX7_opens 25 = .ok (.iconst 1, 1) := by decide +kernel
theorem dX7_opens_26 : decode cX7_opens 26 = .ok (.iadd, 1) := by decide +kernel
theorem dX7_opens_27 : decode cX7_opens 27 = .ok (.putfield 57, 3) := by decide +kernel
theorem dX7_opens_30 : decode cX7_opens 30 = .ok (.iconst 1, 1) := by decide +kernel
theorem dX7_opens_31 : decode cX7_opens 31 = .ok (.ireturn, 1) := by decide +kernel
theorem dX7_one_0 : decode cX7_one 0 = .ok (.aload_n 0, 1) := by decide +kernel
theorem dX7_one_1 : decode cX7_one 1 = .ok (.invokevirtual 71, 3) := by decide +kernel
theorem dX7_one_4 : decode cX7_one 4 = .ok (.istore_n 1, 1) := by decide +kernel
theorem dX7_one_5 : decode cX7_one 5 = .ok (.aload_n 0, 1) := by decide +kernel
theorem dX7_one_6 : decode cX7_one 6 = .ok (.iload_n 1, 1) := by decide +kernel
theorem dX7_one_7 : decode cX7_one 7 = .ok (.invokevirtual 94, 3) := by decide +kernel
theorem dX7_one_10 : decode cX7_one 10 = .ok (.ifCond .eq 21, 3) := by decide +kernel
theorem dX7_one_13 : decode cX7_one 13 = .ok (.aload_n 0, 1) := by decide +kernel
theorem dX7_one_14 : decode cX7_one 14 = .ok (.dup, 1) := by decide +kernel
theorem dX7_one_15 : decode cX7_one 15 = .ok (.getfield 57, 3) := by decide +kernel
theorem dX7_one_18 : decode cX7_one 18 = .ok (.iconst 1, 1) := by decide +kernel
theorem dX7_one_19 : decode cX7_one 19 = .ok (.iadd, 1) := by decide +kernel
theorem dX7_one_20 : decode cX7_one 20 = .ok (.putfield 57, 3) := by decide +kernel
theorem dX7_one_23 : decode cX7_one 23 = .ok (.aload_n 0, 1) := by decide +kernel
theorem dX7_one_24 : decode cX7_one 24 = .ok (.iconst 1, 1) := by decide +kernel
theorem dX7_one_25 : decode cX7_one 25 = .ok (.iload_n 1, 1) := by decide +kernel
theorem dX7_one_26 : decode cX7_one 26 = .ok (.invokevirtual 75, 3) := by decide +kernel
theorem dX7_one_29 : decode cX7_one 29 = .ok (.iconst 1, 1) := by decide +kernel
theorem dX7_one_30 : decode cX7_one 30 = .ok (.ireturn, 1) := by decide +kernel
theorem dX7_one_31 : decode cX7_one 31 = .ok (.iload_n 1, 1) := by decide +kernel
theorem dX7_one_32 : decode cX7_one 32 = .ok (.bipush 48, 2) := by decide +kernel
theorem dX7_one_34 : decode cX7_one 34 = .ok (.bipush 57, 2) := by decide +kernel
theorem dX7_one_36 : decode cX7_one 36 = .ok (.invokestatic 47, 3) := by decide +kernel
theorem dX7_one_39 : decode cX7_one 39 = .ok (.ifCond .eq 63, 3) := by decide +kernel
theorem dX7_one_42 : decode cX7_one 42 = .ok (.iconst 0, 1) := by decide +kernel
theorem dX7_one_43 : decode cX7_one 43 = .ok (.istore_n 2, 1) := by decide +kernel
theorem dX7_one_44 : decode cX7_one 44 = .ok (.iconst 0, 1) := by decide +kernel
theorem dX7_one_45 : decode cX7_one 45 = .ok (.istore_n 3, 1) := by decide +kernel
theorem dX7_one_46 : decode cX7_one 46 = .ok (.iload_n 3, 1) := by decide +kernel
theorem dX7_one_47 : decode cX7_one 47 = .ok (.iconst 4, 1) := by decide +kernel
theorem dX7_one_48 : decode cX7_one 48 = .ok (.if_icmp .ge 46, 3) := by decide +kernel
theorem dX7_one_51 : decode cX7_one 51 = .ok (.aload_n 0, 1) := by decide +kernel
theorem dX7_one_52 : decode cX7_one 52 = .ok (.invokevirtual 71, 3) := by decide +kernel
theorem dX7_one_55 : decode cX7_one 55 = .ok (.bipush 48, 2) := by decide +kernel
theorem dX7_one_57 : decode cX7_one 57 = .ok (.bipush 57, 2) := by decide +kernel
theorem dX7_one_59 : decode cX7_one 59 = .ok (.invokestatic 47, 3) := by decide +kernel
theorem dX7_one_62 : decode cX7_one 62 = .ok (.ifCond .eq 32, 3) := by decide +kernel
theorem dX7_one_65 : decode cX7_one 65 = .ok (.bipush 10, 2) := by decide +kernel
theorem dX7_one_67 : decode cX7_one 67 = .ok (.iload_n 2, 1) := by decide +kernel
theorem dX7_one_68 : decode cX7_one 68 = .ok (.imul, 1) := by decide +kernel
theorem dX7_one_69 : decode cX7_one 69 = .ok (.aload_n 0, 1) := by decide +kernel
theorem dX7_one_70 : decode cX7_one 70 = .ok (.invokevirtual 71, 3) := by decide +kernel
theorem dX7_one_73 : decode cX7_one 73 = .ok (.iadd, 1) := by decide +kernel
theorem dX7_one_74 : decode cX7_one 74 = .ok (.bipush 48, 2) := by decide +kernel
theorem dX7_one_76 : decode cX7_one 76 = .ok (.isub, 1) := by decide +kernel
theorem dX7_one_77 : decode cX7_one 77 = .ok (.istore_n 2, 1) := by decide +kernel
theorem dX7_one_78 : decode cX7_one 78 = .ok (.aload_n 0, 1) := by decide +kernel
theorem dX7_one_79 : decode cX7_one 79 = .ok (.dup, 1) := by decide +kernel
theorem dX7_one_80 : decode cX7_one 80 = .ok (.getfield 57, 3) := by decide +kernel
theorem dX7_one_83 : decode cX7_one 83 = .ok (.iconst 1, 1) := by decide +kernel
theorem dX7_one_84 : decode cX7_one 84 = .ok (.iadd, 1) := by decide +kernel
theorem dX7_one_85 : decode cX7_one 85 = .ok (.putfield 57, 3) := by decide +kernel
theorem dX7_one_88 : decode cX7_one 88 = .ok (.iinc 3 1, 3) := by decide +kernel
theorem dX7_one_91 : decode cX7_one 91 = .ok (.goto (-45), 3) := by decide +kernel
theorem dX7_one_94 : decode cX7_one 94 = .ok (.aload_n 0, 1) := by decide +kernel
theorem dX7_one_95 : decode cX7_one 95 = .ok (.iconst 0, 1) := by decide +kernel
theorem dX7_one_96 : decode cX7_one 96 = .ok (.iload_n 2, 1) := by decide +kernel
theorem dX7_one_97 : decode cX7_one 97 = .ok (.invokevirtual 75, 3) := by decide +kernel
theorem dX7_one_100 : decode cX7_one 100 = .ok (.iconst 1, 1) := by decide +kernel
theorem dX7_one_101 : decode cX7_one 101 = .ok (.ireturn, 1) := by decide +kernel
theorem dX7_one_102 : decode cX7_one 102 = .ok (.iload_n 1, 1) := by decide +kernel
theorem dX7_one_103 : decode cX7_one 103 = .ok (.bipush 33, 2) := by decide +kernel
theorem dX7_one_105 : decode cX7_one 105 = .ok (.if_icmp .ne 37, 3) := by decide +kernel
theorem dX7_one_108 : decode cX7_one 108 = .ok (.aload_n 0, 1) := by decide +kernel
theorem dX7_one_109 : decode cX7_one 109 = .ok (.invokevirtual 98, 3) := by decide +kernel
theorem dX7_one_112 : decode cX7_one 112 = .ok (.ifCond .eq 10, 3) := by decide +kernel
theorem dX7_one_115 : decode cX7_one 115 = .ok (.aload_n 0, 1) := by decide +kernel
theorem dX7_one_116 : decode cX7_one 116 = .ok (.invokevirtual 88, 3) := by decide +kernel
theorem dX7_one_119 : decode cX7_one 119 = .ok (.ifCond .ne 5, 3) := by decide +kernel
theorem dX7_one_122 : decode cX7_one 122 = .ok (.iconst 0, 1) := by decide +kernel
theorem dX7_one_123 : decode cX7_one 123 = .ok (.ireturn, 1) := by decide +kernel
theorem dX7_one_124 : decode cX7_one 124 = .ok (.aload_n 0, 1) := by decide +kernel
theorem dX7_one_125 : decode cX7_one 125 = .ok (.dup, 1) := by decide +kernel
theorem dX7_one_126 : decode cX7_one 126 = .ok (.getfield 91, 3) := by decide +kernel
theorem dX7_one_129 : decode cX7_one 129 = .ok (.iconst 1, 1) := by decide +kernel
theorem dX7_one_130 : decode cX7_one 130 = .ok (.isub, 1) := by decide +kernel
theorem dX7_one_131 : decode cX7_one 131 = .ok (.putfield 91, 3) := by decide +kernel
theorem dX7_one_134 : decode cX7_one 134 = .ok (.aload_n 0, 1) := by decide +kernel
theorem dX7_one_135 : decode cX7_one 135 = .ok (.iconst 2, 1) := by decide +kernel
theorem dX7_one_136 : decode cX7_one 136 = .ok (.iconst 0, 1) := by decide +kernel
theorem dX7_one_137 : decode cX7_one 137 = .ok (.invokevirtual 75, 3) := by decide +kernel
theorem dX7_one_140 : decode cX7_one 140 = .ok (.iconst 1, 1) := by decide +kernel
theorem dX7_one_141 : decode cX7_one 141 = .ok (.ireturn, 1) := by decide +kernel
theorem dX7_one_142 : decode cX7_one 142 = .ok (.iload_n 1, 1) := by decide +kernel
theorem dX7_one_143 : decode cX7_one 143 = .ok (.bipush 40, 2) := by decide +kernel
theorem dX7_one_145 : decode cX7_one 145 = .ok (.if_icmp .ne 26, 3) := by decide +kernel
theorem dX7_one_148 : decode cX7_one 148 = .ok (.aload_n 0, 1) := by decide +kernel
theorem dX7_one_149 : decode cX7_one 149 = .ok (.invokevirtual 98, 3) := by decide +kernel
theorem dX7_one_152 : decode cX7_one 152 = .ok (.ifCond .eq 19, 3) := by decide +kernel
theorem dX7_one_155 : decode cX7_one 155 = .ok (.aload_n 0, 1) := by decide +kernel
theorem dX7_one_156 : decode cX7_one 156 = .ok (.invokevirtual 101, 3) := by decide +kernel
theorem dX7_one_159 : decode cX7_one 159 = .ok (.ifCond .eq 12, 3) := by decide +kernel
theorem dX7_one_162 : decode cX7_one 162 = .ok (.aload_n 0, 1) := by decide +kernel
theorem dX7_one_163 : decode cX7_one 163 = .ok (.invokevirtual 71, 3) := by decide +kernel
theorem dX7_one_166 : decode cX7_one 166 = .ok (.bipush 41, 2) := by decide +kernel
theorem dX7_one_168 : decode cX7_one 168 = .ok (.if_icmp .eq 5, 3) := by decide +kernel
theorem dX7_one_171 : decode cX7_one 171 = .ok (.iconst 0, 1) := by decide +kernel
theorem dX7_one_172 : decode cX7_one 172 = .ok (.ireturn, 1) := by decide +kernel
theorem dX7_one_173 : decode cX7_one 173 = .ok (.aload_n 0, 1) := by decide +kernel
theorem dX7_one_174 : decode cX7_one 174 = .ok (.dup, 1) := by decide +kernel
theorem dX7_one_175 : decode cX7_one 175 = .ok (.getfield 57, 3) := by decide +kernel
theorem dX7_one_178 : decode cX7_one 178 = .ok (.iconst 1, 1) := by decide +kernel
theorem dX7_one_179 : decode cX7_one 179 = .ok (.iadd, 1) := by decide +kernel
theorem dX7_one_180 : decode cX7_one 180 = .ok (.putfield 57, 3) := by decide +kernel
theorem dX7_one_183 : decode cX7_one 183 = .ok (.aload_n 0, 1) := by decide +kernel
theorem dX7_one_184 : decode cX7_one 184 = .ok (.dup, 1) := by decide +kernel
theorem dX7_one_185 : decode cX7_one 185 = .ok (.getfield 91, 3) := by decide +kernel
theorem dX7_one_188 : decode cX7_one 188 = .ok (.iconst 1, 1) := by decide +kernel
theorem dX7_one_189 : decode cX7_one 189 = .ok (.isub, 1) := by decide +kernel
theorem dX7_one_190 : decode cX7_one 190 = .ok (.putfield 91, 3) := by decide +kernel
theorem dX7_one_193 : decode cX7_one 193 = .ok (.iconst 1, 1) := by decide +kernel
theorem dX7_one_194 : decode cX7_one 194 = .ok (.ireturn, 1) := by decide +kernel
theorem dX7_hasText_0 : decode cX7_hasText 0 = .ok (.aload_n 0, 1) := by decide +kernel
theorem dX7_hasText_1 : decode cX7_hasText 1 = .ok (.getfield 7, 3) := by decide +kernel
theorem dX7_hasText_4 : decode cX7_hasText 4 = .ok (.bipush 78, 2) := by decide +kernel
theorem dX7_hasText_6 : decode cX7_hasText 6 = .ok (.bipush 125, 2) := by decide +kernel
theorem dX7_hasText_8 : decode cX7_hasText 8 = .ok (.iload_n 1, 1) := by decide +kernel
theorem dX7_hasText_9 : decode cX7_hasText 9 = .ok (.imul, 1) := by decide +kernel
theorem dX7_hasText_10 : decode cX7_hasText 10 = .ok (.iadd, 1) := by decide +kernel
theorem dX7_hasText_11 : decode cX7_hasText 11 = .ok (.iaload, 1) := by decide +kernel
theorem dX7_hasText_12 : decode cX7_hasText 12 = .ok (.ifCond .le 7, 3) := by decide +kernel
theorem dX7_hasText_15 : decode cX7_hasText 15 = .ok (.iconst 1, 1) := by decide +kernel
theorem dX7_hasText_16 : decode cX7_hasText 16 = .ok (.goto 4, 3) := by decide +kernel
theorem dX7_hasText_19 : decode cX7_hasText 19 = .ok (.iconst 0, 1) := by decide +kernel
theorem dX7_hasText_20 : decode cX7_hasText 20 = .ok (.ireturn, 1) := by decide +kernel
theorem dX7_text_0 : decode cX7_text 0 = .ok (.iload_n 1, 1) := by decide +kernel
theorem dX7_text_1 : decode cX7_text 1 = .ok (.iconst 0, 1) := by decide +kernel
theorem dX7_text_2 : decode cX7_text 2 = .ok (.iconst 1, 1) := by decide +kernel
theorem dX7_text_3 : decode cX7_text 3 = .ok (.invokestatic 47, 3) := by decide +kernel
theorem dX7_text_6 : decode cX7_text 6 = .ok (.ifCond .ne 9, 3) := by decide +kernel
theorem dX7_text_9 : decode cX7_text 9 = .ok (.aload_n 0, 1) := by decide +kernel
theorem dX7_text_10 : decode cX7_text 10 = .ok (.iconst 1, 1) := by decide +kernel
theorem dX7_text_11 : decode cX7_text 11 = .ok (.invokevirtual 51, 3) := by decide +kernel
theorem dX7_text_14 : decode cX7_text 14 = .ok (.ireturn, 1) := by decide +kernel
theorem dX7_text_15 : decode cX7_text 15 = .ok (.aload_n 0, 1) := by decide +kernel
theorem dX7_text_16 : decode cX7_text 16 = .ok (.iload_n 1, 1) := by decide +kernel
theorem dX7_text_17 : decode cX7_text 17 = .ok (.putfield 61, 3) := by decide +kernel
theorem dX7_text_20 : decode cX7_text 20 = .ok (.aload_n 0, 1) := by decide +kernel
theorem dX7_text_21 : decode cX7_text 21 = .ok (.iconst 0, 1) := by decide +kernel
theorem dX7_text_22 : decode cX7_text 22 = .ok (.putfield 57, 3) := by decide +kernel
theorem dX7_text_25 : decode cX7_text 25 = .ok (.aload_n 0, 1) := by decide +kernel
theorem dX7_text_26 : decode cX7_text 26 = .ok (.iconst 0, 1) := by decide +kernel
theorem dX7_text_27 : decode cX7_text 27 = .ok (.putfield 91, 3) := by decide +kernel
theorem dX7_text_30 : decode cX7_text 30 = .ok (.aload_n 0, 1) := by decide +kernel
theorem dX7_text_31 : decode cX7_text 31 = .ok (.iconst 0, 1) := by decide +kernel
theorem dX7_text_32 : decode cX7_text 32 = .ok (.putfield 64, 3) := by decide +kernel
theorem dX7_text_35 : decode cX7_text 35 = .ok (.aload_n 0, 1) := by decide +kernel
theorem dX7_text_36 : decode cX7_text 36 = .ok (.invokevirtual 101, 3) := by decide +kernel
theorem dX7_text_39 : decode cX7_text 39 = .ok (.ifCond .eq 20, 3) := by decide +kernel
theorem dX7_text_42 : decode cX7_text 42 = .ok (.aload_n 0, 1) := by decide +kernel
theorem dX7_text_43 : decode cX7_text 43 = .ok (.getfield 57, 3) := by decide +kernel
theorem dX7_text_46 : decode cX7_text 46 = .ok (.aload_n 0, 1) := by decide +kernel
theorem dX7_text_47 : decode cX7_text 47 = .ok (.getfield 7, 3) := by decide +kernel
theorem dX7_text_50 : decode cX7_text 50 = .ok (.iconst 4, 1) := by decide +kernel
theorem dX7_text_51 : decode cX7_text 51 = .ok (.iaload, 1) := by decide +kernel
theorem dX7_text_52 : decode cX7_text 52 = .ok (.if_icmp .ne 7, 3) := by decide +kernel
theorem dX7_text_55 : decode cX7_text 55 = .ok (.iconst 1, 1) := by decide +kernel
theorem dX7_text_56 : decode cX7_text 56 = .ok (.goto 4, 3) := by decide +kernel
theorem dX7_text_59 : decode cX7_text 59 = .ok (.iconst 0, 1) := by decide +kernel
theorem dX7_text_60 : decode cX7_text 60 = .ok (.istore_n 2, 1) := by decide +kernel
theorem dX7_text_61 : decode cX7_text 61 = .ok (.aload_n 0, 1) := by decide +kernel
theorem dX7_text_62 : decode cX7_text 62 = .ok (.getfield 7, 3) := by decide +kernel
theorem dX7_text_65 : decode cX7_text 65 = .ok (.iconst 4, 1) := by decide +kernel
theorem dX7_text_66 : decode cX7_text 66 = .ok (.iconst 0, 1) := by decide +kernel
theorem dX7_text_67 : decode cX7_text 67 = .ok (.iastore, 1) := by decide +kernel
theorem dX7_text_68 : decode cX7_text 68 = .ok (.iload_n 2, 1) := by decide +kernel
theorem dX7_text_69 : decode cX7_text 69 = .ok (.ifCond .ne 11, 3) := by decide +kernel
theorem dX7_text_72 : decode cX7_text 72 = .ok (.bipush (-10), 2) := by decide +kernel
theorem dX7_text_74 : decode cX7_text 74 = .ok (.aload_n 0, 1) := by decide +kernel
theorem dX7_text_75 : decode cX7_text 75 = .ok (.getfield 57, 3) := by decide +kernel
theorem dX7_text_78 : decode cX7_text 78 = .ok (.isub, 1) := by decide +kernel
theorem dX7_text_79 : decode cX7_text 79 = .ok (.ireturn, 1) := by decide +kernel
theorem dX7_text_80 : decode cX7_text 80 = .ok (.bipush 78, 2) := by decide +kernel
theorem dX7_text_82 : decode cX7_text 82 = .ok (.bipush 125, 2) := by decide +kernel
theorem dX7_text_84 : decode cX7_text 84 = .ok (.iload_n 1, 1) := by decide +kernel
theorem dX7_text_85 : decode cX7_text 85 = .ok (.imul, 1) := by decide +kernel
theorem dX7_text_86 : decode cX7_text 86 = .ok (.iadd, 1) := by decide +kernel
theorem dX7_text_87 : decode cX7_text 87 = .ok (.istore_n 3, 1) := by decide +kernel
theorem dX7_text_88 : decode cX7_text 88 = .ok (.aload_n 0, 1) := by decide +kernel
theorem dX7_text_89 : decode cX7_text 89 = .ok (.getfield 7, 3) := by decide +kernel
theorem dX7_text_92 : decode cX7_text 92 = .ok (.iload_n 3, 1) := by decide +kernel
theorem dX7_text_93 : decode cX7_text 93 = .ok (.aload_n 0, 1) := by decide +kernel
theorem dX7_text_94 : decode cX7_text 94 = .ok (.getfield 64, 3) := by decide +kernel
theorem dX7_text_97 : decode cX7_text 97 = .ok (.iastore, 1) := by decide +kernel
theorem dX7_text_98 : decode cX7_text 98 = .ok (.iconst 0, 1) := by decide +kernel
theorem dX7_text_99 : decode cX7_text 99 = .ok (.istore 4, 2) := by decide +kernel
theorem dX7_text_101 : decode cX7_text 101 = .ok (.iload 4, 2) := by decide +kernel
theorem dX7_text_103 : decode cX7_text 103 = .ok (.iconst 2, 1) := by decide +kernel
theorem dX7_text_104 : decode cX7_text 104 = .ok (.aload_n 0, 1) := by decide +kernel
theorem dX7_text_105 : decode cX7_text 105 = .ok (.getfield 64, 3) := by decide +kernel
theorem dX7_text_108 : decode cX7_text 108 = .ok (.imul, 1) := by decide +kernel
theorem dX7_text_109 : decode cX7_text 109 = .ok (.if_icmp .ge 27, 3) := by decide +kernel
theorem dX7_text_112 : decode cX7_text 112 = .ok (.aload_n 0, 1) := by decide +kernel
theorem dX7_text_113 : decode cX7_text 113 = .ok (.getfield 7, 3) := by decide +kernel
theorem dX7_text_116 : decode cX7_text 116 = .ok (.iload_n 3, 1) := by decide +kernel
theorem dX7_text_117 : decode cX7_text 117 = .ok (.iconst 1, 1) := by decide +kernel
theorem dX7_text_118 : decode cX7_text 118 = .ok (.iadd, 1) := by decide +kernel
theorem dX7_text_119 : decode cX7_text 119 = .ok (.iload 4, 2) := by decide +kernel
theorem dX7_text_121 : decode cX7_text 121 = .ok (.iadd, 1) := by decide +kernel
theorem dX7_text_122 : decode cX7_text 122 = .ok (.aload_n 0, 1) := by decide +kernel
theorem dX7_text_123 : decode cX7_text 123 = .ok (.getfield 19, 3) := by decide +kernel
theorem dX7_text_126 : decode cX7_text 126 = .ok (.iload 4, 2) := by decide +kernel
theorem dX7_text_128 : decode cX7_text 128 = .ok (.iaload, 1) := by decide +kernel
theorem dX7_text_129 : decode cX7_text 129 = .ok (.iastore, 1) := by decide +kernel
theorem dX7_text_130 : decode cX7_text 130 = .ok (.iinc 4 1, 3) := by decide +kernel
theorem dX7_text_133 : decode cX7_text 133 = .ok (.goto (-32), 3) := by decide +kernel
theorem dX7_text_136 : decode cX7_text 136 = .ok (.iconst 1, 1) := by decide +kernel
theorem dX7_text_137 : decode cX7_text 137 = .ok (.ireturn, 1) := by decide +kernel
theorem dX7_untell_0 : decode cX7_untell 0 = .ok (.iload_n 1, 1) := by decide +kernel
theorem dX7_untell_1 : decode cX7_untell 1 = .ok (.iconst 0, 1) := by decide +kernel
theorem dX7_untell_2 : decode cX7_untell 2 = .ok (.iconst 1, 1) := by decide +kernel
theorem dX7_untell_3 : decode cX7_untell 3 = .ok (.invokestatic 47, 3) := by decide +kernel
theorem dX7_untell_6 : decode cX7_untell 6 = .ok (.ifCond .ne 9, 3) := by decide +kernel
theorem dX7_untell_9 : decode cX7_untell 9 = .ok (.aload_n 0, 1) := by decide +kernel
theorem dX7_untell_10 : decode cX7_untell 10 = .ok (.iconst 1, 1) := by decide +kernel
theorem dX7_untell_11 : decode cX7_untell 11 = .ok (.invokevirtual 51, 3) := by decide +kernel
theorem dX7_untell_14 : decode cX7_untell 14 = .ok (.ireturn, 1) := by decide +kernel
theorem dX7_untell_15 : decode cX7_untell 15 = .ok (.aload_n 0, 1) := by decide +kernel
theorem dX7_untell_16 : decode cX7_untell 16 = .ok (.iload_n 1, 1) := by decide +kernel
theorem dX7_untell_17 : decode cX7_untell 17 = .ok (.invokevirtual 104, 3) := by decide +kernel
theorem dX7_untell_20 : decode cX7_untell 20 = .ok (.ifCond .eq 7, 3) := by decide +kernel
theorem dX7_untell_23 : decode cX7_untell 23 = .ok (.iconst 1, 1) := by decide +kernel
theorem dX7_untell_24 : decode cX7_untell 24 = .ok (.goto 4, 3) := by decide +kernel
theorem dX7_untell_27 : decode cX7_untell 27 = .ok (.iconst 0, 1) := by decide +kernel
theorem dX7_untell_28 : decode cX7_untell 28 = .ok (.istore_n 2, 1) := by decide +kernel
theorem dX7_untell_29 : decode cX7_untell 29 = .ok (.aload_n 0, 1) := by decide +kernel
theorem dX7_untell_30 : decode cX7_untell 30 = .ok (.getfield 7, 3) := by decide +kernel
theorem dX7_untell_33 : decode cX7_untell 33 = .ok (.bipush 78, 2) := by decide +kernel
theorem dX7_untell_35 : decode cX7_untell 35 = .ok (.bipush 125, 2) := by decide +kernel
theorem dX7_untell_37 : decode cX7_untell 37 = .ok (.iload_n 1, 1) := by decide +kernel
theorem dX7_untell_38 : decode cX7_untell 38 = .ok (.imul, 1) := by decide +kernel
theorem dX7_untell_39 : decode cX7_untell 39 = .ok (.iadd, 1) := by decide +kernel
theorem dX7_untell_40 : decode cX7_untell 40 = .ok (.iconst 0, 1) := by decide +kernel
theorem dX7_untell_41 : decode cX7_untell 41 = .ok (.iastore, 1) := by decide +kernel
theorem dX7_untell_42 : decode cX7_untell 42 = .ok (.iload_n 2, 1) := by decide +kernel
theorem dX7_untell_43 : decode cX7_untell 43 = .ok (.ireturn, 1) := by decide +kernel
theorem dX7_joined_0 : decode cX7_joined 0 = .ok (.iload_n 0, 1) := by decide +kernel
theorem dX7_joined_1 : decode cX7_joined 1 = .ok (.tableswitch 217 37 62 #[153, 203, 217, 217, 217, 127, 119, 217, 123, 217, 131, 217, 217, 217, 217, 217, 217, 217, 217, 217, 217, 217, 217, 170, 192, 181], 119) := by decide +kernel
theorem dX7_joined_120 : decode cX7_joined 120 = .ok (.iload_n 1, 1) := by decide +kernel
theorem dX7_joined_121 : decode cX7_joined 121 = .ok (.iload_n 2, 1) := by decide +kernel
theorem dX7_joined_122 : decode cX7_joined 122 = .ok (.iadd, 1) := by decide +kernel
theorem dX7_joined_123 : decode cX7_joined 123 = .ok (.ireturn, 1) := by decide +kernel
theorem dX7_joined_124 : decode cX7_joined 124 = .ok (.iload_n 1, 1) := by decide +kernel
theorem dX7_joined_125 : decode cX7_joined 125 = .ok (.iload_n 2, 1) := by decide +kernel
theorem dX7_joined_126 : decode cX7_joined 126 = .ok (.isub, 1) := by decide +kernel
theorem dX7_joined_127 : decode cX7_joined 127 = .ok (.ireturn, 1) := by decide +kernel
theorem dX7_joined_128 : decode cX7_joined 128 = .ok (.iload_n 1, 1) := by decide +kernel
theorem dX7_joined_129 : decode cX7_joined 129 = .ok (.iload_n 2, 1) := by decide +kernel
theorem dX7_joined_130 : decode cX7_joined 130 = .ok (.imul, 1) := by decide +kernel
theorem dX7_joined_131 : decode cX7_joined 131 = .ok (.ireturn, 1) := by decide +kernel
theorem dX7_joined_132 : decode cX7_joined 132 = .ok (.iload_n 2, 1) := by decide +kernel
theorem dX7_joined_133 : decode cX7_joined 133 = .ok (.ifCond .ne 7, 3) := by decide +kernel
theorem dX7_joined_136 : decode cX7_joined 136 = .ok (.iconst 0, 1) := by decide +kernel
theorem dX7_joined_137 : decode cX7_joined 137 = .ok (.goto 16, 3) := by decide +kernel
theorem dX7_joined_140 : decode cX7_joined 140 = .ok (.iload_n 2, 1) := by decide +kernel
theorem dX7_joined_141 : decode cX7_joined 141 = .ok (.iconst (-1), 1) := by decide +kernel
theorem dX7_joined_142 : decode cX7_joined 142 = .ok (.if_icmp .ne 8, 3) := by decide +kernel
theorem dX7_joined_145 : decode cX7_joined 145 = .ok (.iload_n 1, 1) := by decide +kernel
theorem dX7_joined_146 : decode cX7_joined 146 = .ok (.ineg, 1) := by decide +kernel
theorem dX7_joined_147 : decode cX7_joined 147 = .ok (.goto 6, 3) := by decide +kernel
theorem dX7_joined_150 : decode cX7_joined 150 = .ok (.iload_n 1, 1) := by decide +kernel
theorem dX7_joined_151 : decode cX7_joined 151 = .ok (.iload_n 2, 1) := by decide +kernel
theorem dX7_joined_152 : decode cX7_joined 152 = .ok (.idiv, 1) := by decide +kernel
theorem dX7_joined_153 : decode cX7_joined 153 = .ok (.ireturn, 1) := by decide +kernel
theorem dX7_joined_154 : decode cX7_joined 154 = .ok (.iload_n 2, 1) := by decide +kernel
theorem dX7_joined_155 : decode cX7_joined 155 = .ok (.ifCond .eq 8, 3) := by decide +kernel
theorem dX7_joined_158 : decode cX7_joined 158 = .ok (.iload_n 2, 1) := by decide +kernel
theorem dX7_joined_159 : decode cX7_joined 159 = .ok (.iconst (-1), 1) := by decide +kernel
theorem dX7_joined_160 : decode cX7_joined 160 = .ok (.if_icmp .ne 7, 3) := by decide +kernel
theorem dX7_joined_163 : decode cX7_joined 163 = .ok (.iconst 0, 1) := by decide +kernel
theorem dX7_joined_164 : decode cX7_joined 164 = .ok (.goto 6, 3) := by decide +kernel
theorem dX7_joined_167 : decode cX7_joined 167 = .ok (.iload_n 1, 1) := by decide +kernel
theorem dX7_joined_168 : decode cX7_joined 168 = .ok (.iload_n 2, 1) := by decide +kernel
theorem dX7_joined_169 : decode cX7_joined 169 = .ok (.irem, 1) := by decide +kernel
theorem dX7_joined_170 : decode cX7_joined 170 = .ok (.ireturn, 1) := by decide +kernel
theorem dX7_joined_171 : decode cX7_joined 171 = .ok (.iload_n 1, 1) := by decide +kernel
theorem dX7_joined_172 : decode cX7_joined 172 = .ok (.iload_n 2, 1) := by decide +kernel
theorem dX7_joined_173 : decode cX7_joined 173 = .ok (.if_icmp .ge 7, 3) := by decide +kernel
theorem dX7_joined_176 : decode cX7_joined 176 = .ok (.iconst 1, 1) := by decide +kernel
theorem dX7_joined_177 : decode cX7_joined 177 = .ok (.goto 4, 3) := by decide +kernel
theorem dX7_joined_180 : decode cX7_joined 180 = .ok (.iconst 0, 1) := by decide +kernel
theorem dX7_joined_181 : decode cX7_joined 181 = .ok (.ireturn, 1) := by decide +kernel
theorem dX7_joined_182 : decode cX7_joined 182 = .ok (.iload_n 1, 1) := by decide +kernel
theorem dX7_joined_183 : decode cX7_joined 183 = .ok (.iload_n 2, 1) := by decide +kernel
theorem dX7_joined_184 : decode cX7_joined 184 = .ok (.if_icmp .le 7, 3) := by decide +kernel
theorem dX7_joined_187 : decode cX7_joined 187 = .ok (.iconst 1, 1) := by decide +kernel
theorem dX7_joined_188 : decode cX7_joined 188 = .ok (.goto 4, 3) := by decide +kernel
theorem dX7_joined_191 : decode cX7_joined 191 = .ok (.iconst 0, 1) := by decide +kernel
theorem dX7_joined_192 : decode cX7_joined 192 = .ok (.ireturn, 1) := by decide +kernel
theorem dX7_joined_193 : decode cX7_joined 193 = .ok (.iload_n 1, 1) := by decide +kernel
theorem dX7_joined_194 : decode cX7_joined 194 = .ok (.iload_n 2, 1) := by decide +kernel
theorem dX7_joined_195 : decode cX7_joined 195 = .ok (.if_icmp .ne 7, 3) := by decide +kernel
theorem dX7_joined_198 : decode cX7_joined 198 = .ok (.iconst 1, 1) := by decide +kernel
theorem dX7_joined_199 : decode cX7_joined 199 = .ok (.goto 4, 3) := by decide +kernel
theorem dX7_joined_202 : decode cX7_joined 202 = .ok (.iconst 0, 1) := by decide +kernel
theorem dX7_joined_203 : decode cX7_joined 203 = .ok (.ireturn, 1) := by decide +kernel
theorem dX7_joined_204 : decode cX7_joined 204 = .ok (.iload_n 1, 1) := by decide +kernel
theorem dX7_joined_205 : decode cX7_joined 205 = .ok (.ifCond .eq 11, 3) := by decide +kernel
theorem dX7_joined_208 : decode cX7_joined 208 = .ok (.iload_n 2, 1) := by decide +kernel
theorem dX7_joined_209 : decode cX7_joined 209 = .ok (.ifCond .eq 7, 3) := by decide +kernel
theorem dX7_joined_212 : decode cX7_joined 212 = .ok (.iconst 1, 1) := by decide +kernel
theorem dX7_joined_213 : decode cX7_joined 213 = .ok (.goto 4, 3) := by decide +kernel
theorem dX7_joined_216 : decode cX7_joined 216 = .ok (.iconst 0, 1) := by decide +kernel
theorem dX7_joined_217 : decode cX7_joined 217 = .ok (.ireturn, 1) := by decide +kernel
theorem dX7_joined_218 : decode cX7_joined 218 = .ok (.iload_n 1, 1) := by decide +kernel
theorem dX7_joined_219 : decode cX7_joined 219 = .ok (.ifCond .ne 7, 3) := by decide +kernel
theorem dX7_joined_222 : decode cX7_joined 222 = .ok (.iload_n 2, 1) := by decide +kernel
theorem dX7_joined_223 : decode cX7_joined 223 = .ok (.ifCond .eq 7, 3) := by decide +kernel
theorem dX7_joined_226 : decode cX7_joined 226 = .ok (.iconst 1, 1) := by decide +kernel
theorem dX7_joined_227 : decode cX7_joined 227 = .ok (.goto 4, 3) := by decide +kernel
theorem dX7_joined_230 : decode cX7_joined 230 = .ok (.iconst 0, 1) := by decide +kernel
theorem dX7_joined_231 : decode cX7_joined 231 = .ok (.ireturn, 1) := by decide +kernel
theorem dX7_worked_0 : decode cX7_worked 0 = .ok (.bipush 78, 2) := by decide +kernel
theorem dX7_worked_2 : decode cX7_worked 2 = .ok (.bipush 125, 2) := by decide +kernel
theorem dX7_worked_4 : decode cX7_worked 4 = .ok (.iload_n 1, 1) := by decide +kernel
theorem dX7_worked_5 : decode cX7_worked 5 = .ok (.imul, 1) := by decide +kernel
theorem dX7_worked_6 : decode cX7_worked 6 = .ok (.iadd, 1) := by decide +kernel
theorem dX7_worked_7 : decode cX7_worked 7 = .ok (.istore_n 2, 1) := by decide +kernel
theorem dX7_worked_8 : decode cX7_worked 8 = .ok (.iconst 0, 1) := by decide +kernel
theorem dX7_worked_9 : decode cX7_worked 9 = .ok (.istore_n 3, 1) := by decide +kernel
theorem dX7_worked_10 : decode cX7_worked 10 = .ok (.iconst 0, 1) := by decide +kernel
theorem dX7_worked_11 : decode cX7_worked 11 = .ok (.istore 4, 2) := by decide +kernel
theorem dX7_worked_13 : decode cX7_worked 13 = .ok (.iload 4, 2) := by decide +kernel
theorem dX7_worked_15 : decode cX7_worked 15 = .ok (.aload_n 0, 1) := by decide +kernel
theorem dX7_worked_16 : decode cX7_worked 16 = .ok (.getfield 7, 3) := by decide +kernel
theorem dX7_worked_19 : decode cX7_worked 19 = .ok (.iload_n 2, 1) := by decide +kernel
theorem dX7_worked_20 : decode cX7_worked 20 = .ok (.iaload, 1) := by decide +kernel
theorem dX7_worked_21 : decode cX7_worked 21 = .ok (.if_icmp .ge 142, 3) := by decide +kernel
theorem dX7_worked_24 : decode cX7_worked 24 = .ok (.aload_n 0, 1) := by decide +kernel
theorem dX7_worked_25 : decode cX7_worked 25 = .ok (.getfield 7, 3) := by decide +kernel
theorem dX7_worked_28 : decode cX7_worked 28 = .ok (.iload_n 2, 1) := by decide +kernel
theorem dX7_worked_29 : decode cX7_worked 29 = .ok (.iconst 1, 1) := by decide +kernel
theorem dX7_worked_30 : decode cX7_worked 30 = .ok (.iadd, 1) := by decide +kernel
theorem dX7_worked_31 : decode cX7_worked 31 = .ok (.iconst 2, 1) := by decide +kernel
theorem dX7_worked_32 : decode cX7_worked 32 = .ok (.iload 4, 2) := by decide +kernel
theorem dX7_worked_34 : decode cX7_worked 34 = .ok (.imul, 1) := by decide +kernel
theorem dX7_worked_35 : decode cX7_worked 35 = .ok (.iadd, 1) := by decide +kernel
theorem dX7_worked_36 : decode cX7_worked 36 = .ok (.iaload, 1) := by decide +kernel
theorem dX7_worked_37 : decode cX7_worked 37 = .ok (.istore 5, 2) := by decide +kernel
theorem dX7_worked_39 : decode cX7_worked 39 = .ok (.aload_n 0, 1) := by decide +kernel
theorem dX7_worked_40 : decode cX7_worked 40 = .ok (.getfield 7, 3) := by decide +kernel
theorem dX7_worked_43 : decode cX7_worked 43 = .ok (.iload_n 2, 1) := by decide +kernel
theorem dX7_worked_44 : decode cX7_worked 44 = .ok (.iconst 2, 1) := by decide +kernel
theorem dX7_worked_45 : decode cX7_worked 45 = .ok (.iadd, 1) := by decide +kernel
theorem dX7_worked_46 : decode cX7_worked 46 = .ok (.iconst 2, 1) := by decide +kernel
theorem dX7_worked_47 : decode cX7_worked 47 = .ok (.iload 4, 2) := by decide +kernel
theorem dX7_worked_49 : decode cX7_worked 49 = .ok (.imul, 1) := by decide +kernel
theorem dX7_worked_50 : decode cX7_worked 50 = .ok (.iadd, 1) := by decide +kernel
theorem dX7_worked_51 : decode cX7_worked 51 = .ok (.iaload, 1) := by decide +kernel
theorem dX7_worked_52 : decode cX7_worked 52 = .ok (.istore 6, 2) := by decide +kernel
theorem dX7_worked_54 : decode cX7_worked 54 = .ok (.iload 5, 2) := by decide +kernel
theorem dX7_worked_56 : decode cX7_worked 56 = .ok (.ifCond .eq 9, 3) := by decide +kernel
theorem dX7_worked_59 : decode cX7_worked 59 = .ok (.iload 5, 2) := by decide +kernel
theorem dX7_worked_61 : decode cX7_worked 61 = .ok (.iconst 1, 1) := by decide +kernel
theorem dX7_worked_62 : decode cX7_worked 62 = .ok (.if_icmp .ne 32, 3) := by decide +kernel
theorem dX7_worked_65 : decode cX7_worked 65 = .ok (.aload_n 0, 1) := by decide +kernel
theorem dX7_worked_66 : decode cX7_worked 66 = .ok (.getfield 25, 3) := by decide +kernel
theorem dX7_worked_69 : decode cX7_worked 69 = .ok (.iload_n 3, 1) := by decide +kernel
theorem dX7_worked_70 : decode cX7_worked 70 = .ok (.iload 5, 2) := by decide +kernel
theorem dX7_worked_72 : decode cX7_worked 72 = .ok (.ifCond .ne 8, 3) := by decide +kernel
theorem dX7_worked_75 : decode cX7_worked 75 = .ok (.iload 6, 2) := by decide +kernel
theorem dX7_worked_77 : decode cX7_worked 77 = .ok (.goto 10, 3) := by decide +kernel
theorem dX7_worked_80 : decode cX7_worked 80 = .ok (.aload_n 0, 1) := by decide +kernel
theorem dX7_worked_81 : decode cX7_worked 81 = .ok (.getfield 22, 3) := by decide +kernel
theorem dX7_worked_84 : decode cX7_worked 84 = .ok (.iload 6, 2) := by decide +kernel
theorem dX7_worked_86 : decode cX7_worked 86 = .ok (.iaload, 1) := by decide +kernel
theorem dX7_worked_87 : decode cX7_worked 87 = .ok (.iastore, 1) := by decide +kernel
theorem dX7_worked_88 : decode cX7_worked 88 = .ok (.iinc 3 1, 3) := by decide +kernel
theorem dX7_worked_91 : decode cX7_worked 91 = .ok (.goto 66, 3) := by decide +kernel
theorem dX7_worked_94 : decode cX7_worked 94 = .ok (.iload 5, 2) := by decide +kernel
theorem dX7_worked_96 : decode cX7_worked 96 = .ok (.iconst 2, 1) := by decide +kernel
theorem dX7_worked_97 : decode cX7_worked 97 = .ok (.if_icmp .ne 30, 3) := by decide +kernel
theorem dX7_worked_100 : decode cX7_worked 100 = .ok (.aload_n 0, 1) := by decide +kernel
theorem dX7_worked_101 : decode cX7_worked 101 = .ok (.getfield 25, 3) := by decide +kernel
theorem dX7_worked_104 : decode cX7_worked 104 = .ok (.iload_n 3, 1) := by decide +kernel
theorem dX7_worked_105 : decode cX7_worked 105 = .ok (.iconst 1, 1) := by decide +kernel
theorem dX7_worked_106 : decode cX7_worked 106 = .ok (.isub, 1) := by decide +kernel
theorem dX7_worked_107 : decode cX7_worked 107 = .ok (.aload_n 0, 1) := by decide +kernel
theorem dX7_worked_108 : decode cX7_worked 108 = .ok (.getfield 25, 3) := by decide +kernel
theorem dX7_worked_111 : decode cX7_worked 111 = .ok (.iload_n 3, 1) := by decide +kernel
theorem dX7_worked_112 : decode cX7_worked 112 = .ok (.iconst 1, 1) := by decide +kernel
theorem dX7_worked_113 : decode cX7_worked 113 = .ok (.isub, 1) := by decide +kernel
theorem dX7_worked_114 : decode cX7_worked 114 = .ok (.iaload, 1) := by decide +kernel
theorem dX7_worked_115 : decode cX7_worked 115 = .ok (.ifCond .ne 7, 3) := by decide +kernel
theorem dX7_worked_118 : decode cX7_worked 118 = .ok (.iconst 1, 1) := by decide +kernel
theorem dX7_worked_119 : decode cX7_worked 119 = .ok (.goto 4, 3) := by decide +kernel
theorem dX7_worked_122 : decode cX7_worked 122 = .ok (.iconst 0, 1) := by decide +kernel
theorem dX7_worked_123 : decode cX7_worked 123 = .ok (.iastore, 1) := by decide +kernel
theorem dX7_worked_124 : decode cX7_worked 124 = .ok (.goto 33, 3) := by decide +kernel
theorem dX7_worked_127 : decode cX7_worked 127 = .ok (.iinc 3 (-1), 3) := by decide +kernel
theorem dX7_worked_130 : decode cX7_worked 130 = .ok (.aload_n 0, 1) := by decide +kernel
theorem dX7_worked_131 : decode cX7_worked 131 = .ok (.getfield 25, 3) := by decide +kernel
theorem dX7_worked_134 : decode cX7_worked 134 = .ok (.iload_n 3, 1) := by decide +kernel
theorem dX7_worked_135 : decode cX7_worked 135 = .ok (.iconst 1, 1) := by decide +kernel
theorem dX7_worked_136 : decode cX7_worked 136 = .ok (.isub, 1) := by decide +kernel
theorem dX7_worked_137 : decode cX7_worked 137 = .ok (.iload 6, 2) := by decide +kernel
theorem dX7_worked_139 : decode cX7_worked 139 = .ok (.aload_n 0, 1) := by decide +kernel
theorem dX7_worked_140 : decode cX7_worked 140 = .ok (.getfield 25, 3) := by decide +kernel
theorem dX7_worked_143 : decode cX7_worked 143 = .ok (.iload_n 3, 1) := by decide +kernel
theorem dX7_worked_144 : decode cX7_worked 144 = .ok (.iconst 1, 1) := by decide +kernel
theorem dX7_worked_145 : decode cX7_worked 145 = .ok (.isub, 1) := by decide +kernel
theorem dX7_worked_146 : decode cX7_worked 146 = .ok (.iaload, 1) := by decide +kernel
theorem dX7_worked_147 : decode cX7_worked 147 = .ok (.aload_n 0, 1) := by decide +kernel
theorem dX7_worked_148 : decode cX7_worked 148 = .ok (.getfield 25, 3) := by decide +kernel
theorem dX7_worked_151 : decode cX7_worked 151 = .ok (.iload_n 3, 1) := by decide +kernel
theorem dX7_worked_152 : decode cX7_worked 152 = .ok (.iaload, 1) := by decide +kernel
theorem dX7_worked_153 : decode cX7_worked 153 = .ok (.invokestatic 107, 3) := by decide +kernel
theorem dX7_worked_156 : decode cX7_worked 156 = .ok (.iastore, 1) := by decide +kernel
theorem dX7_worked_157 : decode cX7_worked 157 = .ok (.iinc 4 1, 3) := by decide +kernel
theorem dX7_worked_160 : decode cX7_worked 160 = .ok (.goto (-147), 3) := by decide +kernel
theorem dX7_worked_163 : decode cX7_worked 163 = .ok (.aload_n 0, 1) := by decide +kernel
theorem dX7_worked_164 : decode cX7_worked 164 = .ok (.getfield 25, 3) := by decide +kernel
theorem dX7_worked_167 : decode cX7_worked 167 = .ok (.iconst 0, 1) := by decide +kernel
theorem dX7_worked_168 : decode cX7_worked 168 = .ok (.iaload, 1) := by decide +kernel
theorem dX7_worked_169 : decode cX7_worked 169 = .ok (.ireturn, 1) := by decide +kernel
theorem dX7_broad_0 : decode cX7_broad 0 = .ok (.aload_n 0, 1) := by decide +kernel
theorem dX7_broad_1 : decode cX7_broad 1 = .ok (.iload_n 1, 1) := by decide +kernel
theorem dX7_broad_2 : decode cX7_broad 2 = .ok (.iconst 2, 1) := by decide +kernel
theorem dX7_broad_3 : decode cX7_broad 3 = .ok (.invokevirtual 111, 3) := by decide +kernel
theorem dX7_broad_6 : decode cX7_broad 6 = .ok (.istore_n 2, 1) := by decide +kernel
theorem dX7_broad_7 : decode cX7_broad 7 = .ok (.aload_n 0, 1) := by decide +kernel
theorem dX7_broad_8 : decode cX7_broad 8 = .ok (.iload_n 1, 1) := by decide +kernel
theorem dX7_broad_9 : decode cX7_broad 9 = .ok (.iconst 0, 1) := by decide +kernel
theorem dX7_broad_10 : decode cX7_broad 10 = .ok (.invokevirtual 111, 3) := by decide +kernel
theorem dX7_broad_13 : decode cX7_broad 13 = .ok (.tableswitch 52 1 5 #[35, 52, 52, 35, 39], 35) := by decide +kernel
theorem dX7_broad_48 : decode cX7_broad 48 = .ok (.iload_n 2, 1) := by decide +kernel
theorem dX7_broad_49 : decode cX7_broad 49 = .ok (.iconst 1, 1) := by decide +kernel
theorem dX7_broad_50 : decode cX7_broad 50 = .ok (.iadd, 1) := by decide +kernel
theorem dX7_broad_51 : decode cX7_broad 51 = .ok (.ireturn, 1) := by decide +kernel
theorem dX7_broad_52 : decode cX7_broad 52 = .ok (.iload_n 2, 1) := by decide +kernel
theorem dX7_broad_53 : decode cX7_broad 53 = .ok (.iconst 1, 1) := by decide +kernel
theorem dX7_broad_54 : decode cX7_broad 54 = .ok (.if_icmp .le 9, 3) := by decide +kernel
theorem dX7_broad_57 : decode cX7_broad 57 = .ok (.iload_n 2, 1) := by decide +kernel
theorem dX7_broad_58 : decode cX7_broad 58 = .ok (.iconst 1, 1) := by decide +kernel
theorem dX7_broad_59 : decode cX7_broad 59 = .ok (.isub, 1) := by decide +kernel
theorem dX7_broad_60 : decode cX7_broad 60 = .ok (.goto 4, 3) := by decide +kernel
theorem dX7_broad_63 : decode cX7_broad 63 = .ok (.iconst 1, 1) := by decide +kernel
theorem dX7_broad_64 : decode cX7_broad 64 = .ok (.ireturn, 1) := by decide +kernel
theorem dX7_broad_65 : decode cX7_broad 65 = .ok (.iload_n 2, 1) := by decide +kernel
theorem dX7_broad_66 : decode cX7_broad 66 = .ok (.ireturn, 1) := by decide +kernel
theorem dX7_holdsOf_0 : decode cX7_holdsOf 0 = .ok (.aload_n 0, 1) := by decide +kernel
theorem dX7_holdsOf_1 : decode cX7_holdsOf 1 = .ok (.iload_n 1, 1) := by decide +kernel
theorem dX7_holdsOf_2 : decode cX7_holdsOf 2 = .ok (.iconst 3, 1) := by decide +kernel
theorem dX7_holdsOf_3 : decode cX7_holdsOf 3 = .ok (.invokevirtual 111, 3) := by decide +kernel
theorem dX7_holdsOf_6 : decode cX7_holdsOf 6 = .ok (.istore_n 2, 1) := by decide +kernel
theorem dX7_holdsOf_7 : decode cX7_holdsOf 7 = .ok (.aload_n 0, 1) := by decide +kernel
theorem dX7_holdsOf_8 : decode cX7_holdsOf 8 = .ok (.iload_n 1, 1) := by decide +kernel
theorem dX7_holdsOf_9 : decode cX7_holdsOf 9 = .ok (.iconst 1, 1) := by decide +kernel
theorem dX7_holdsOf_10 : decode cX7_holdsOf 10 = .ok (.invokevirtual 111, 3) := by decide +kernel
theorem dX7_holdsOf_13 : decode cX7_holdsOf 13 = .ok (.istore_n 3, 1) := by decide +kernel
theorem dX7_holdsOf_14 : decode cX7_holdsOf 14 = .ok (.iconst 3, 1) := by decide +kernel
theorem dX7_holdsOf_15 : decode cX7_holdsOf 15 = .ok (.iload_n 2, 1) := by decide +kernel
theorem dX7_holdsOf_16 : decode cX7_holdsOf 16 = .ok (.imul, 1) := by decide +kernel
theorem dX7_holdsOf_17 : decode cX7_holdsOf 17 = .ok (.iload_n 3, 1) := by decide +kernel
theorem dX7_holdsOf_18 : decode cX7_holdsOf 18 = .ok (.iadd, 1) := by decide +kernel
theorem dX7_holdsOf_19 : decode cX7_holdsOf 19 = .ok (.istore 4, 2) := by decide +kernel
theorem dX7_holdsOf_21 : decode cX7_holdsOf 21 = .ok (.aload_n 0, 1) := by decide +kernel
theorem dX7_holdsOf_22 : decode cX7_holdsOf 22 = .ok (.iload_n 1, 1) := by decide +kernel
theorem dX7_holdsOf_23 : decode cX7_holdsOf 23 = .ok (.iconst 0, 1) := by decide +kernel
theorem dX7_holdsOf_24 : decode cX7_holdsOf 24 = .ok (.invokevirtual 111, 3) := by decide +kernel
theorem dX7_holdsOf_27 : decode cX7_holdsOf 27 = .ok (.tableswitch 106 1 6 #[37, 42, 54, 66, 73, 89], 37) := by decide +kernel
theorem dX7_holdsOf_64 : decode cX7_holdsOf 64 = .ok (.iload 4, 2) := by decide +kernel
theorem dX7_holdsOf_66 : decode cX7_holdsOf 66 = .ok (.iconst 2, 1) := by decide +kernel
theorem dX7_holdsOf_67 : decode cX7_holdsOf 67 = .ok (.isub, 1) := by decide +kernel
theorem dX7_holdsOf_68 : decode cX7_holdsOf 68 = .ok (.ireturn, 1) := by decide +kernel
theorem dX7_holdsOf_69 : decode cX7_holdsOf 69 = .ok (.iload 4, 2) := by decide +kernel
theorem dX7_holdsOf_71 : decode cX7_holdsOf 71 = .ok (.aload_n 0, 1) := by decide +kernel
theorem dX7_holdsOf_72 : decode cX7_holdsOf 72 = .ok (.iload_n 1, 1) := by decide +kernel
theorem dX7_holdsOf_73 : decode cX7_holdsOf 73 = .ok (.iconst 5, 1) := by decide +kernel
theorem dX7_holdsOf_74 : decode cX7_holdsOf 74 = .ok (.invokevirtual 111, 3) := by decide +kernel
theorem dX7_holdsOf_77 : decode cX7_holdsOf 77 = .ok (.iconst 5, 1) := by decide +kernel
theorem dX7_holdsOf_78 : decode cX7_holdsOf 78 = .ok (.idiv, 1) := by decide +kernel
theorem dX7_holdsOf_79 : decode cX7_holdsOf 79 = .ok (.iadd, 1) := by decide +kernel
theorem dX7_holdsOf_80 : decode cX7_holdsOf 80 = .ok (.ireturn, 1) := by decide +kernel
theorem dX7_holdsOf_81 : decode cX7_holdsOf 81 = .ok (.iload 4, 2) := by decide +kernel
theorem dX7_holdsOf_83 : decode cX7_holdsOf 83 = .ok (.aload_n 0, 1) := by decide +kernel
theorem dX7_holdsOf_84 : decode cX7_holdsOf 84 = .ok (.getfield 7, 3) := by decide +kernel
theorem dX7_holdsOf_87 : decode cX7_holdsOf 87 = .ok (.iconst 0, 1) := by decide +kernel
theorem dX7_holdsOf_88 : decode cX7_holdsOf 88 = .ok (.iaload, 1) := by decide +kernel
theorem dX7_holdsOf_89 : decode cX7_holdsOf 89 = .ok (.iconst 3, 1) := by decide +kernel
theorem dX7_holdsOf_90 : decode cX7_holdsOf 90 = .ok (.irem, 1) := by decide +kernel
theorem dX7_holdsOf_91 : decode cX7_holdsOf 91 = .ok (.iadd, 1) := by decide +kernel
theorem dX7_holdsOf_92 : decode cX7_holdsOf 92 = .ok (.ireturn, 1) := by decide +kernel
theorem dX7_holdsOf_93 : decode cX7_holdsOf 93 = .ok (.iload 4, 2) := by decide +kernel
theorem dX7_holdsOf_95 : decode cX7_holdsOf 95 = .ok (.iconst 2, 1) := by decide +kernel
theorem dX7_holdsOf_96 : decode cX7_holdsOf 96 = .ok (.isub, 1) := by decide +kernel
theorem dX7_holdsOf_97 : decode cX7_holdsOf 97 = .ok (.iload_n 2, 1) := by decide +kernel
theorem dX7_holdsOf_98 : decode cX7_holdsOf 98 = .ok (.iadd, 1) := by decide +kernel
theorem dX7_holdsOf_99 : decode cX7_holdsOf 99 = .ok (.ireturn, 1) := by decide +kernel
theorem dX7_holdsOf_100 : decode cX7_holdsOf 100 = .ok (.iconst 2, 1) := by decide +kernel
theorem dX7_holdsOf_101 : decode cX7_holdsOf 101 = .ok (.iload 4, 2) := by decide +kernel
theorem dX7_holdsOf_103 : decode cX7_holdsOf 103 = .ok (.aload_n 0, 1) := by decide +kernel
theorem dX7_holdsOf_104 : decode cX7_holdsOf 104 = .ok (.iload_n 1, 1) := by decide +kernel
theorem dX7_holdsOf_105 : decode cX7_holdsOf 105 = .ok (.iconst 5, 1) := by decide +kernel
theorem dX7_holdsOf_106 : decode cX7_holdsOf 106 = .ok (.invokevirtual 111, 3) := by decide +kernel
theorem dX7_holdsOf_109 : decode cX7_holdsOf 109 = .ok (.iconst 5, 1) := by decide +kernel
theorem dX7_holdsOf_110 : decode cX7_holdsOf 110 = .ok (.idiv, 1) := by decide +kernel
theorem dX7_holdsOf_111 : decode cX7_holdsOf 111 = .ok (.iadd, 1) := by decide +kernel
theorem dX7_holdsOf_112 : decode cX7_holdsOf 112 = .ok (.imul, 1) := by decide +kernel
theorem dX7_holdsOf_113 : decode cX7_holdsOf 113 = .ok (.iload_n 3, 1) := by decide +kernel
theorem dX7_holdsOf_114 : decode cX7_holdsOf 114 = .ok (.isub, 1) := by decide +kernel
theorem dX7_holdsOf_115 : decode cX7_holdsOf 115 = .ok (.ireturn, 1) := by decide +kernel
theorem dX7_holdsOf_116 : decode cX7_holdsOf 116 = .ok (.aload_n 0, 1) := by decide +kernel
theorem dX7_holdsOf_117 : decode cX7_holdsOf 117 = .ok (.getfield 7, 3) := by decide +kernel
theorem dX7_holdsOf_120 : decode cX7_holdsOf 120 = .ok (.iconst 1, 1) := by decide +kernel
theorem dX7_holdsOf_121 : decode cX7_holdsOf 121 = .ok (.iaload, 1) := by decide +kernel
theorem dX7_holdsOf_122 : decode cX7_holdsOf 122 = .ok (.iconst 1, 1) := by decide +kernel
theorem dX7_holdsOf_123 : decode cX7_holdsOf 123 = .ok (.if_icmp .ne 7, 3) := by decide +kernel
theorem dX7_holdsOf_126 : decode cX7_holdsOf 126 = .ok (.iconst 0, 1) := by decide +kernel
theorem dX7_holdsOf_127 : decode cX7_holdsOf 127 = .ok (.goto 5, 3) := by decide +kernel
theorem dX7_holdsOf_130 : decode cX7_holdsOf 130 = .ok (.iload 4, 2) := by decide +kernel
theorem dX7_holdsOf_132 : decode cX7_holdsOf 132 = .ok (.ireturn, 1) := by decide +kernel
theorem dX7_holdsOf_133 : decode cX7_holdsOf 133 = .ok (.iload 4, 2) := by decide +kernel
theorem dX7_holdsOf_135 : decode cX7_holdsOf 135 = .ok (.ireturn, 1) := by decide +kernel
theorem dX7_holdTold_0 : decode cX7_holdTold 0 = .ok (.aload_n 0, 1) := by decide +kernel
theorem dX7_holdTold_1 : decode cX7_holdTold 1 = .ok (.getfield 22, 3) := by decide +kernel
theorem dX7_holdTold_4 : decode cX7_holdTold 4 = .ok (.bipush 104, 2) := by decide +kernel
theorem dX7_holdTold_6 : decode cX7_holdTold 6 = .ok (.iload_n 1, 1) := by decide +kernel
theorem dX7_holdTold_7 : decode cX7_holdTold 7 = .ok (.iastore, 1) := by decide +kernel
theorem dX7_holdTold_8 : decode cX7_holdTold 8 = .ok (.aload_n 0, 1) := by decide +kernel
theorem dX7_holdTold_9 : decode cX7_holdTold 9 = .ok (.getfield 22, 3) := by decide +kernel
theorem dX7_holdTold_12 : decode cX7_holdTold 12 = .ok (.bipush 110, 2) := by decide +kernel
theorem dX7_holdTold_14 : decode cX7_holdTold 14 = .ok (.iload_n 2, 1) := by decide +kernel
theorem dX7_holdTold_15 : decode cX7_holdTold 15 = .ok (.iastore, 1) := by decide +kernel
theorem dX7_holdTold_16 : decode cX7_holdTold 16 = .ok (.aload_n 0, 1) := by decide +kernel
theorem dX7_holdTold_17 : decode cX7_holdTold 17 = .ok (.getfield 22, 3) := by decide +kernel
theorem dX7_holdTold_20 : decode cX7_holdTold 20 = .ok (.bipush 103, 2) := by decide +kernel
theorem dX7_holdTold_22 : decode cX7_holdTold 22 = .ok (.iload_n 3, 1) := by decide +kernel
theorem dX7_holdTold_23 : decode cX7_holdTold 23 = .ok (.iastore, 1) := by decide +kernel
theorem dX7_holdTold_24 : decode cX7_holdTold 24 = .ok (.aload_n 0, 1) := by decide +kernel
theorem dX7_holdTold_25 : decode cX7_holdTold 25 = .ok (.iconst 0, 1) := by decide +kernel
theorem dX7_holdTold_26 : decode cX7_holdTold 26 = .ok (.invokevirtual 104, 3) := by decide +kernel
theorem dX7_holdTold_29 : decode cX7_holdTold 29 = .ok (.ifCond .eq 11, 3) := by decide +kernel
theorem dX7_holdTold_32 : decode cX7_holdTold 32 = .ok (.aload_n 0, 1) := by decide +kernel
theorem dX7_holdTold_33 : decode cX7_holdTold 33 = .ok (.iconst 0, 1) := by decide +kernel
theorem dX7_holdTold_34 : decode cX7_holdTold 34 = .ok (.invokevirtual 115, 3) := by decide +kernel
theorem dX7_holdTold_37 : decode cX7_holdTold 37 = .ok (.goto 4, 3) := by decide +kernel
theorem dX7_holdTold_40 : decode cX7_holdTold 40 = .ok (.iload_n 1, 1) := by decide +kernel
theorem dX7_holdTold_41 : decode cX7_holdTold 41 = .ok (.iconst 0, 1) := by decide +kernel
theorem dX7_holdTold_42 : decode cX7_holdTold 42 = .ok (.bipush 99, 2) := by decide +kernel
theorem dX7_holdTold_44 : decode cX7_holdTold 44 = .ok (.invokestatic 118, 3) := by decide +kernel
theorem dX7_holdTold_47 : decode cX7_holdTold 47 = .ok (.ireturn, 1) := by decide +kernel
theorem dX7_dropTold_0 : decode cX7_dropTold 0 = .ok (.aload_n 0, 1) := by decide +kernel
theorem dX7_dropTold_1 : decode cX7_dropTold 1 = .ok (.getfield 22, 3) := by decide +kernel
theorem dX7_dropTold_4 : decode cX7_dropTold 4 = .ok (.bipush 114, 2) := by decide +kernel
theorem dX7_dropTold_6 : decode cX7_dropTold 6 = .ok (.iload_n 1, 1) := by decide +kernel
theorem dX7_dropTold_7 : decode cX7_dropTold 7 = .ok (.iastore, 1) := by decide +kernel
theorem dX7_dropTold_8 : decode cX7_dropTold 8 = .ok (.aload_n 0, 1) := by decide +kernel
theorem dX7_dropTold_9 : decode cX7_dropTold 9 = .ok (.getfield 22, 3) := by decide +kernel
theorem dX7_dropTold_12 : decode cX7_dropTold 12 = .ok (.bipush 99, 2) := by decide +kernel
theorem dX7_dropTold_14 : decode cX7_dropTold 14 = .ok (.iload_n 2, 1) := by decide +kernel
theorem dX7_dropTold_15 : decode cX7_dropTold 15 = .ok (.iastore, 1) := by decide +kernel
theorem dX7_dropTold_16 : decode cX7_dropTold 16 = .ok (.aload_n 0, 1) := by decide +kernel
theorem dX7_dropTold_17 : decode cX7_dropTold 17 = .ok (.getfield 22, 3) := by decide +kernel
theorem dX7_dropTold_20 : decode cX7_dropTold 20 = .ok (.bipush 121, 2) := by decide +kernel
theorem dX7_dropTold_22 : decode cX7_dropTold 22 = .ok (.iload_n 3, 1) := by decide +kernel
theorem dX7_dropTold_23 : decode cX7_dropTold 23 = .ok (.iastore, 1) := by decide +kernel
theorem dX7_dropTold_24 : decode cX7_dropTold 24 = .ok (.aload_n 0, 1) := by decide +kernel
theorem dX7_dropTold_25 : decode cX7_dropTold 25 = .ok (.iconst 1, 1) := by decide +kernel
theorem dX7_dropTold_26 : decode cX7_dropTold 26 = .ok (.invokevirtual 104, 3) := by decide +kernel
theorem dX7_dropTold_29 : decode cX7_dropTold 29 = .ok (.ifCond .eq 11, 3) := by decide +kernel
theorem dX7_dropTold_32 : decode cX7_dropTold 32 = .ok (.aload_n 0, 1) := by decide +kernel
theorem dX7_dropTold_33 : decode cX7_dropTold 33 = .ok (.iconst 1, 1) := by decide +kernel
theorem dX7_dropTold_34 : decode cX7_dropTold 34 = .ok (.invokevirtual 115, 3) := by decide +kernel
theorem dX7_dropTold_37 : decode cX7_dropTold 37 = .ok (.goto 4, 3) := by decide +kernel
theorem dX7_dropTold_40 : decode cX7_dropTold 40 = .ok (.iconst 1, 1) := by decide +kernel
theorem dX7_dropTold_41 : decode cX7_dropTold 41 = .ok (.iconst 0, 1) := by decide +kernel
theorem dX7_dropTold_42 : decode cX7_dropTold 42 = .ok (.bipush 99, 2) := by decide +kernel
theorem dX7_dropTold_44 : decode cX7_dropTold 44 = .ok (.invokestatic 118, 3) := by decide +kernel
theorem dX7_dropTold_47 : decode cX7_dropTold 47 = .ok (.ireturn, 1) := by decide +kernel
theorem dX7_holdOf_0 : decode cX7_holdOf 0 = .ok (.aload_n 0, 1) := by decide +kernel
theorem dX7_holdOf_1 : decode cX7_holdOf 1 = .ok (.aload_n 0, 1) := by decide +kernel
theorem dX7_holdOf_2 : decode cX7_holdOf 2 = .ok (.iload_n 1, 1) := by decide +kernel
theorem dX7_holdOf_3 : decode cX7_holdOf 3 = .ok (.invokevirtual 121, 3) := by decide +kernel
theorem dX7_holdOf_6 : decode cX7_holdOf 6 = .ok (.aload_n 0, 1) := by decide +kernel
theorem dX7_holdOf_7 : decode cX7_holdOf 7 = .ok (.iload_n 1, 1) := by decide +kernel
theorem dX7_holdOf_8 : decode cX7_holdOf 8 = .ok (.iconst 3, 1) := by decide +kernel
theorem dX7_holdOf_9 : decode cX7_holdOf 9 = .ok (.invokevirtual 111, 3) := by decide +kernel
theorem dX7_holdOf_12 : decode cX7_holdOf 12 = .ok (.iload_n 2, 1) := by decide +kernel
theorem dX7_holdOf_13 : decode cX7_holdOf 13 = .ok (.invokevirtual 124, 3) := by decide +kernel
theorem dX7_holdOf_16 : decode cX7_holdOf 16 = .ok (.ireturn, 1) := by decide +kernel
theorem dX7_ownAt_0 : decode cX7_ownAt 0 = .ok (.lconst 0, 1) := by decide +kernel
theorem dX7_ownAt_1 : decode cX7_ownAt 1 = .ok (.lstore_n 3, 1) := by decide +kernel
theorem dX7_ownAt_2 : decode cX7_ownAt 2 = .ok (.iload_n 2, 1) := by decide +kernel
theorem dX7_ownAt_3 : decode cX7_ownAt 3 = .ok (.bipush 8, 2) := by decide +kernel
theorem dX7_ownAt_5 : decode cX7_ownAt 5 = .ok (.irem, 1) := by decide +kernel
theorem dX7_ownAt_6 : decode cX7_ownAt 6 = .ok (.istore 5, 2) := by decide +kernel
theorem dX7_ownAt_8 : decode cX7_ownAt 8 = .ok (.iconst 0, 1) := by decide +kernel
theorem dX7_ownAt_9 : decode cX7_ownAt 9 = .ok (.istore 6, 2) := by decide +kernel
theorem dX7_ownAt_11 : decode cX7_ownAt 11 = .ok (.iload 6, 2) := by decide +kernel
theorem dX7_ownAt_13 : decode cX7_ownAt 13 = .ok (.aload_n 0, 1) := by decide +kernel
theorem dX7_ownAt_14 : decode cX7_ownAt 14 = .ok (.iload_n 1, 1) := by decide +kernel
theorem dX7_ownAt_15 : decode cX7_ownAt 15 = .ok (.invokevirtual 127, 3) := by decide +kernel
theorem dX7_ownAt_18 : decode cX7_ownAt 18 = .ok (.if_icmp .ge 28, 3) := by decide +kernel
theorem dX7_ownAt_21 : decode cX7_ownAt 21 = .ok (.iload 5, 2) := by decide +kernel
theorem dX7_ownAt_23 : decode cX7_ownAt 23 = .ok (.iload 6, 2) := by decide +kernel
theorem dX7_ownAt_25 : decode cX7_ownAt 25 = .ok (.iadd, 1) := by decide +kernel
theorem dX7_ownAt_26 : decode cX7_ownAt 26 = .ok (.bipush 8, 2) := by decide +kernel
theorem dX7_ownAt_28 : decode cX7_ownAt 28 = .ok (.if_icmp .ge 18, 3) := by decide +kernel
theorem dX7_ownAt_31 : decode cX7_ownAt 31 = .ok (.lload_n 3, 1) := by decide +kernel
theorem dX7_ownAt_32 : decode cX7_ownAt 32 = .ok (.lconst 1, 1) := by decide +kernel
theorem dX7_ownAt_33 : decode cX7_ownAt 33 = .ok (.iload_n 2, 1) := by decide +kernel
theorem dX7_ownAt_34 : decode cX7_ownAt 34 = .ok (.iload 6, 2) := by decide +kernel
theorem dX7_ownAt_36 : decode cX7_ownAt 36 = .ok (.iadd, 1) := by decide +kernel
theorem dX7_ownAt_37 : decode cX7_ownAt 37 = .ok (.lshl, 1) := by decide +kernel
theorem dX7_ownAt_38 : decode cX7_ownAt 38 = .ok (.lor, 1) := by decide +kernel
theorem dX7_ownAt_39 : decode cX7_ownAt 39 = .ok (.lstore_n 3, 1) := by decide +kernel
theorem dX7_ownAt_40 : decode cX7_ownAt 40 = .ok (.iinc 6 1, 3) := by decide +kernel
theorem dX7_ownAt_43 : decode cX7_ownAt 43 = .ok (.goto (-32), 3) := by decide +kernel
theorem dX7_ownAt_46 : decode cX7_ownAt 46 = .ok (.lload_n 3, 1) := by decide +kernel
theorem dX7_ownAt_47 : decode cX7_ownAt 47 = .ok (.lreturn, 1) := by decide +kernel
theorem dX7_own_0 : decode cX7_own 0 = .ok (.aload_n 0, 1) := by decide +kernel
theorem dX7_own_1 : decode cX7_own 1 = .ok (.iload_n 1, 1) := by decide +kernel
theorem dX7_own_2 : decode cX7_own 2 = .ok (.bipush 6, 2) := by decide +kernel
theorem dX7_own_4 : decode cX7_own 4 = .ok (.invokevirtual 111, 3) := by decide +kernel
theorem dX7_own_7 : decode cX7_own 7 = .ok (.iconst (-1), 1) := by decide +kernel
theorem dX7_own_8 : decode cX7_own 8 = .ok (.if_icmp .ne 7, 3) := by decide +kernel
theorem dX7_own_11 : decode cX7_own 11 = .ok (.lconst 0, 1) := by decide +kernel
theorem dX7_own_12 : decode cX7_own 12 = .ok (.goto 15, 3) := by decide +kernel
theorem dX7_own_15 : decode cX7_own 15 = .ok (.aload_n 0, 1) := by decide +kernel
theorem dX7_own_16 : decode cX7_own 16 = .ok (.iload_n 1, 1) := by decide +kernel
theorem dX7_own_17 : decode cX7_own 17 = .ok (.aload_n 0, 1) := by decide +kernel
theorem dX7_own_18 : decode cX7_own 18 = .ok (.iload_n 1, 1) := by decide +kernel
theorem dX7_own_19 : decode cX7_own 19 = .ok (.bipush 6, 2) := by decide +kernel
theorem dX7_own_21 : decode cX7_own 21 = .ok (.invokevirtual 111, 3) := by decide +kernel
theorem dX7_own_24 : decode cX7_own 24 = .ok (.invokevirtual 130, 3) := by decide +kernel
theorem dX7_own_27 : decode cX7_own 27 = .ok (.lreturn, 1) := by decide +kernel
theorem dX7_covers_0 : decode cX7_covers 0 = .ok (.aload_n 0, 1) := by decide +kernel
theorem dX7_covers_1 : decode cX7_covers 1 = .ok (.iload_n 1, 1) := by decide +kernel
theorem dX7_covers_2 : decode cX7_covers 2 = .ok (.invokevirtual 134, 3) := by decide +kernel
theorem dX7_covers_5 : decode cX7_covers 5 = .ok (.lstore_n 2, 1) := by decide +kernel
theorem dX7_covers_6 : decode cX7_covers 6 = .ok (.lload_n 2, 1) := by decide +kernel
theorem dX7_covers_7 : decode cX7_covers 7 = .ok (.lload_n 2, 1) := by decide +kernel
theorem dX7_covers_8 : decode cX7_covers 8 = .ok (.bipush 8, 2) := by decide +kernel
theorem dX7_covers_10 : decode cX7_covers 10 = .ok (.lshl, 1) := by decide +kernel
theorem dX7_covers_11 : decode cX7_covers 11 = .ok (.lor, 1) := by decide +kernel
theorem dX7_covers_12 : decode cX7_covers 12 = .ok (.ldc2_w 138, 3) := by decide +kernel
theorem dX7_covers_15 : decode cX7_covers 15 = .ok (.land, 1) := by decide +kernel
theorem dX7_covers_16 : decode cX7_covers 16 = .ok (.lreturn, 1) := by decide +kernel
theorem dX7_drySet_0 : decode cX7_drySet 0 = .ok (.lconst 0, 1) := by decide +kernel
theorem dX7_drySet_1 : decode cX7_drySet 1 = .ok (.lstore_n 1, 1) := by decide +kernel
theorem dX7_drySet_2 : decode cX7_drySet 2 = .ok (.iconst 0, 1) := by decide +kernel
theorem dX7_drySet_3 : decode cX7_drySet 3 = .ok (.istore_n 3, 1) := by decide +kernel
theorem dX7_drySet_4 : decode cX7_drySet 4 = .ok (.iload_n 3, 1) := by decide +kernel
theorem dX7_drySet_5 : decode cX7_drySet 5 = .ok (.aload_n 0, 1) := by decide +kernel
theorem dX7_drySet_6 : decode cX7_drySet 6 = .ok (.getfield 7, 3) := by decide +kernel
theorem dX7_drySet_9 : decode cX7_drySet 9 = .ok (.bipush 6, 2) := by decide +kernel
theorem dX7_drySet_11 : decode cX7_drySet 11 = .ok (.iaload, 1) := by decide +kernel
theorem dX7_drySet_12 : decode cX7_drySet 12 = .ok (.if_icmp .ge 17, 3) := by decide +kernel
theorem dX7_drySet_15 : decode cX7_drySet 15 = .ok (.lload_n 1, 1) := by decide +kernel
theorem dX7_drySet_16 : decode cX7_drySet 16 = .ok (.aload_n 0, 1) := by decide +kernel
theorem dX7_drySet_17 : decode cX7_drySet 17 = .ok (.iload_n 3, 1) := by decide +kernel
theorem dX7_drySet_18 : decode cX7_drySet 18 = .ok (.invokevirtual 140, 3) := by decide +kernel
theorem dX7_drySet_21 : decode cX7_drySet 21 = .ok (.lor, 1) := by decide +kernel
theorem dX7_drySet_22 : decode cX7_drySet 22 = .ok (.lstore_n 1, 1) := by decide +kernel
theorem dX7_drySet_23 : decode cX7_drySet 23 = .ok (.iinc 3 1, 3) := by decide +kernel
theorem dX7_drySet_26 : decode cX7_drySet 26 = .ok (.goto (-22), 3) := by decide +kernel
theorem dX7_drySet_29 : decode cX7_drySet 29 = .ok (.lload_n 1, 1) := by decide +kernel
theorem dX7_drySet_30 : decode cX7_drySet 30 = .ok (.lreturn, 1) := by decide +kernel
theorem dX7_bitsOf_0 : decode cX7_bitsOf 0 = .ok (.iconst 0, 1) := by decide +kernel
theorem dX7_bitsOf_1 : decode cX7_bitsOf 1 = .ok (.istore_n 2, 1) := by decide +kernel
theorem dX7_bitsOf_2 : decode cX7_bitsOf 2 = .ok (.lload_n 0, 1) := by decide +kernel
theorem dX7_bitsOf_3 : decode cX7_bitsOf 3 = .ok (.lstore_n 3, 1) := by decide +kernel
theorem dX7_bitsOf_4 : decode cX7_bitsOf 4 = .ok (.lload_n 3, 1) := by decide +kernel
theorem dX7_bitsOf_5 : decode cX7_bitsOf 5 = .ok (.lconst 0, 1) := by decide +kernel
theorem dX7_bitsOf_6 : decode cX7_bitsOf 6 = .ok (.lcmp, 1) := by decide +kernel
theorem dX7_bitsOf_7 : decode cX7_bitsOf 7 = .ok (.ifCond .eq 15, 3) := by decide +kernel
theorem dX7_bitsOf_10 : decode cX7_bitsOf 10 = .ok (.iinc 2 1, 3) := by decide +kernel
theorem dX7_bitsOf_13 : decode cX7_bitsOf 13 = .ok (.lload_n 3, 1) := by decide +kernel
theorem dX7_bitsOf_14 : decode cX7_bitsOf 14 = .ok (.lload_n 3, 1) := by decide +kernel
theorem dX7_bitsOf_15 : decode cX7_bitsOf 15 = .ok (.lconst 1, 1) := by decide +kernel
theorem dX7_bitsOf_16 : decode cX7_bitsOf 16 = .ok (.lsub, 1) := by decide +kernel
theorem dX7_bitsOf_17 : decode cX7_bitsOf 17 = .ok (.land, 1) := by decide +kernel
theorem dX7_bitsOf_18 : decode cX7_bitsOf 18 = .ok (.lstore_n 3, 1) := by decide +kernel
theorem dX7_bitsOf_19 : decode cX7_bitsOf 19 = .ok (.goto (-15), 3) := by decide +kernel
theorem dX7_bitsOf_22 : decode cX7_bitsOf 22 = .ok (.iload_n 2, 1) := by decide +kernel
theorem dX7_bitsOf_23 : decode cX7_bitsOf 23 = .ok (.ireturn, 1) := by decide +kernel
theorem dX7_mayLie_0 : decode cX7_mayLie 0 = .ok (.aload_n 0, 1) := by decide +kernel
theorem dX7_mayLie_1 : decode cX7_mayLie 1 = .ok (.iload_n 1, 1) := by decide +kernel
theorem dX7_mayLie_2 : decode cX7_mayLie 2 = .ok (.iload_n 2, 1) := by decide +kernel
theorem dX7_mayLie_3 : decode cX7_mayLie 3 = .ok (.invokevirtual 130, 3) := by decide +kernel
theorem dX7_mayLie_6 : decode cX7_mayLie 6 = .ok (.lstore_n 3, 1) := by decide +kernel
theorem dX7_mayLie_7 : decode cX7_mayLie 7 = .ok (.iconst 1, 1) := by decide +kernel
theorem dX7_mayLie_8 : decode cX7_mayLie 8 = .ok (.istore 5, 2) := by decide +kernel
theorem dX7_mayLie_10 : decode cX7_mayLie 10 = .ok (.iconst 0, 1) := by decide +kernel
theorem dX7_mayLie_11 : decode cX7_mayLie 11 = .ok (.istore 6, 2) := by decide +kernel
theorem dX7_mayLie_13 : decode cX7_mayLie 13 = .ok (.iload 6, 2) := by decide +kernel
theorem dX7_mayLie_15 : decode cX7_mayLie 15 = .ok (.aload_n 0, 1) := by decide +kernel
theorem dX7_mayLie_16 : decode cX7_mayLie 16 = .ok (.getfield 7, 3) := by decide +kernel
theorem dX7_mayLie_19 : decode cX7_mayLie 19 = .ok (.bipush 6, 2) := by decide +kernel
theorem dX7_mayLie_21 : decode cX7_mayLie 21 = .ok (.iaload, 1) := by decide +kernel
theorem dX7_mayLie_22 : decode cX7_mayLie 22 = .ok (.if_icmp .ge 40, 3) := by decide +kernel
theorem dX7_mayLie_25 : decode cX7_mayLie 25 = .ok (.iload 5, 2) := by decide +kernel
theorem dX7_mayLie_27 : decode cX7_mayLie 27 = .ok (.ifCond .eq 26, 3) := by decide +kernel
theorem dX7_mayLie_30 : decode cX7_mayLie 30 = .ok (.iload 6, 2) := by decide +kernel
theorem dX7_mayLie_32 : decode cX7_mayLie 32 = .ok (.iload_n 1, 1) := by decide +kernel
theorem dX7_mayLie_33 : decode cX7_mayLie 33 = .ok (.if_icmp .eq 16, 3) := by decide +kernel
theorem dX7_mayLie_36 : decode cX7_mayLie 36 = .ok (.aload_n 0, 1) := by decide +kernel
theorem dX7_mayLie_37 : decode cX7_mayLie 37 = .ok (.iload 6, 2) := by decide +kernel
theorem dX7_mayLie_39 : decode cX7_mayLie 39 = .ok (.invokevirtual 134, 3) := by decide +kernel
theorem dX7_mayLie_42 : decode cX7_mayLie 42 = .ok (.lload_n 3, 1) := by decide +kernel
theorem dX7_mayLie_43 : decode cX7_mayLie 43 = .ok (.land, 1) := by decide +kernel
theorem dX7_mayLie_44 : decode cX7_mayLie 44 = .ok (.lconst 0, 1) := by decide +kernel
theorem dX7_mayLie_45 : decode cX7_mayLie 45 = .ok (.lcmp, 1) := by decide +kernel
theorem dX7_mayLie_46 : decode cX7_mayLie 46 = .ok (.ifCond .ne 7, 3) := by decide +kernel
theorem dX7_mayLie_49 : decode cX7_mayLie 49 = .ok (.iconst 1, 1) := by decide +kernel
theorem dX7_mayLie_50 : decode cX7_mayLie 50 = .ok (.goto 4, 3) := by decide +kernel
theorem dX7_mayLie_53 : decode cX7_mayLie 53 = .ok (.iconst 0, 1) := by decide +kernel
theorem dX7_mayLie_54 : decode cX7_mayLie 54 = .ok (.istore 5, 2) := by decide +kernel
theorem dX7_mayLie_56 : decode cX7_mayLie 56 = .ok (.iinc 6 1, 3) := by decide +kernel
theorem dX7_mayLie_59 : decode cX7_mayLie 59 = .ok (.goto (-46), 3) := by decide +kernel
theorem dX7_mayLie_62 : decode cX7_mayLie 62 = .ok (.aload_n 0, 1) := by decide +kernel
theorem dX7_mayLie_63 : decode cX7_mayLie 63 = .ok (.iload_n 1, 1) := by decide +kernel
theorem dX7_mayLie_64 : decode cX7_mayLie 64 = .ok (.iconst 4, 1) := by decide +kernel
theorem dX7_mayLie_65 : decode cX7_mayLie 65 = .ok (.invokevirtual 111, 3) := by decide +kernel
theorem dX7_mayLie_68 : decode cX7_mayLie 68 = .ok (.istore 6, 2) := by decide +kernel
theorem dX7_mayLie_70 : decode cX7_mayLie 70 = .ok (.iload 6, 2) := by decide +kernel
theorem dX7_mayLie_72 : decode cX7_mayLie 72 = .ok (.iconst (-1), 1) := by decide +kernel
theorem dX7_mayLie_73 : decode cX7_mayLie 73 = .ok (.if_icmp .ne 7, 3) := by decide +kernel
theorem dX7_mayLie_76 : decode cX7_mayLie 76 = .ok (.lconst 0, 1) := by decide +kernel
theorem dX7_mayLie_77 : decode cX7_mayLie 77 = .ok (.goto 9, 3) := by decide +kernel
theorem dX7_mayLie_80 : decode cX7_mayLie 80 = .ok (.aload_n 0, 1) := by decide +kernel
theorem dX7_mayLie_81 : decode cX7_mayLie 81 = .ok (.iload 6, 2) := by decide +kernel
theorem dX7_mayLie_83 : decode cX7_mayLie 83 = .ok (.invokevirtual 134, 3) := by decide +kernel
theorem dX7_mayLie_86 : decode cX7_mayLie 86 = .ok (.lstore 7, 2) := by decide +kernel
theorem dX7_mayLie_88 : decode cX7_mayLie 88 = .ok (.iload 5, 2) := by decide +kernel
theorem dX7_mayLie_90 : decode cX7_mayLie 90 = .ok (.ifCond .eq 31, 3) := by decide +kernel
theorem dX7_mayLie_93 : decode cX7_mayLie 93 = .ok (.lload 7, 2) := by decide +kernel
theorem dX7_mayLie_95 : decode cX7_mayLie 95 = .ok (.lconst 0, 1) := by decide +kernel
theorem dX7_mayLie_96 : decode cX7_mayLie 96 = .ok (.lcmp, 1) := by decide +kernel
theorem dX7_mayLie_97 : decode cX7_mayLie 97 = .ok (.ifCond .eq 20, 3) := by decide +kernel
theorem dX7_mayLie_100 : decode cX7_mayLie 100 = .ok (.lload_n 3, 1) := by decide +kernel
theorem dX7_mayLie_101 : decode cX7_mayLie 101 = .ok (.bipush 8, 2) := by decide +kernel
theorem dX7_mayLie_103 : decode cX7_mayLie 103 = .ok (.lshl, 1) := by decide +kernel
theorem dX7_mayLie_104 : decode cX7_mayLie 104 = .ok (.lload_n 3, 1) := by decide +kernel
theorem dX7_mayLie_105 : decode cX7_mayLie 105 = .ok (.bipush 8, 2) := by decide +kernel
theorem dX7_mayLie_107 : decode cX7_mayLie 107 = .ok (.lushr, 1) := by decide +kernel
theorem dX7_mayLie_108 : decode cX7_mayLie 108 = .ok (.lor, 1) := by decide +kernel
theorem dX7_mayLie_109 : decode cX7_mayLie 109 = .ok (.lload 7, 2) := by decide +kernel
theorem dX7_mayLie_111 : decode cX7_mayLie 111 = .ok (.land, 1) := by decide +kernel
theorem dX7_mayLie_112 : decode cX7_mayLie 112 = .ok (.lconst 0, 1) := by decide +kernel
theorem dX7_mayLie_113 : decode cX7_mayLie 113 = .ok (.lcmp, 1) := by decide +kernel
theorem dX7_mayLie_114 : decode cX7_mayLie 114 = .ok (.ifCond .eq 7, 3) := by decide +kernel
theorem dX7_mayLie_117 : decode cX7_mayLie 117 = .ok (.iconst 1, 1) := by decide +kernel
theorem dX7_mayLie_118 : decode cX7_mayLie 118 = .ok (.goto 4, 3) := by decide +kernel
theorem dX7_mayLie_121 : decode cX7_mayLie 121 = .ok (.iconst 0, 1) := by decide +kernel
theorem dX7_mayLie_122 : decode cX7_mayLie 122 = .ok (.ireturn, 1) := by decide +kernel
theorem dX7_findHolds_0 : decode cX7_findHolds 0 = .ok (.iconst 0, 1) := by decide +kernel
theorem dX7_findHolds_1 : decode cX7_findHolds 1 = .ok (.istore_n 2, 1) := by decide +kernel
theorem dX7_findHolds_2 : decode cX7_findHolds 2 = .ok (.iload_n 2, 1) := by decide +kernel
theorem dX7_findHolds_3 : decode cX7_findHolds 3 = .ok (.aload_n 0, 1) := by decide +kernel
theorem dX7_findHolds_4 : decode cX7_findHolds 4 = .ok (.getfield 7, 3) := by decide +kernel
theorem dX7_findHolds_7 : decode cX7_findHolds 7 = .ok (.bipush 6, 2) := by decide +kernel
theorem dX7_findHolds_9 : decode cX7_findHolds 9 = .ok (.iaload, 1) := by decide +kernel
theorem dX7_findHolds_10 : decode cX7_findHolds 10 = .ok (.if_icmp .ge 21, 3) := by decide +kernel
theorem dX7_findHolds_13 : decode cX7_findHolds 13 = .ok (.aload_n 0, 1) := by decide +kernel
theorem dX7_findHolds_14 : decode cX7_findHolds 14 = .ok (.getfield 28, 3) := by decide +kernel
theorem dX7_findHolds_17 : decode cX7_findHolds 17 = .ok (.iload_n 2, 1) := by decide +kernel
theorem dX7_findHolds_18 : decode cX7_findHolds 18 = .ok (.aload_n 0, 1) := by decide +kernel
theorem dX7_findHolds_19 : decode cX7_findHolds 19 = .ok (.iload_n 2, 1) := by decide +kernel
theorem dX7_findHolds_20 : decode cX7_findHolds 20 = .ok (.iload_n 1, 1) := by decide +kernel
theorem dX7_findHolds_21 : decode cX7_findHolds 21 = .ok (.invokevirtual 143, 3) := by decide +kernel
theorem dX7_findHolds_24 : decode cX7_findHolds 24 = .ok (.iastore, 1) := by decide +kernel
theorem dX7_findHolds_25 : decode cX7_findHolds 25 = .ok (.iinc 2 1, 3) := by decide +kernel
theorem dX7_findHolds_28 : decode cX7_findHolds 28 = .ok (.goto (-26), 3) := by decide +kernel
theorem dX7_findHolds_31 : decode cX7_findHolds 31 = .ok (.return_, 1) := by decide +kernel
theorem dX7_liftedBy_0 : decode cX7_liftedBy 0 = .ok (.iconst 0, 1) := by decide +kernel
theorem dX7_liftedBy_1 : decode cX7_liftedBy 1 = .ok (.istore_n 3, 1) := by decide +kernel
theorem dX7_liftedBy_2 : decode cX7_liftedBy 2 = .ok (.iconst 0, 1) := by decide +kernel
theorem dX7_liftedBy_3 : decode cX7_liftedBy 3 = .ok (.istore 4, 2) := by decide +kernel
theorem dX7_liftedBy_5 : decode cX7_liftedBy 5 = .ok (.iload 4, 2) := by decide +kernel
theorem dX7_liftedBy_7 : decode cX7_liftedBy 7 = .ok (.bipush 6, 2) := by decide +kernel
theorem dX7_liftedBy_9 : decode cX7_liftedBy 9 = .ok (.if_icmp .ge 220, 3) := by decide +kernel
theorem dX7_liftedBy_12 : decode cX7_liftedBy 12 = .ok (.iconst 0, 1) := by decide +kernel
theorem dX7_liftedBy_13 : decode cX7_liftedBy 13 = .ok (.istore 5, 2) := by decide +kernel
theorem dX7_liftedBy_15 : decode cX7_liftedBy 15 = .ok (.iconst 0, 1) := by decide +kernel
theorem dX7_liftedBy_16 : decode cX7_liftedBy 16 = .ok (.istore 6, 2) := by decide +kernel
theorem dX7_liftedBy_18 : decode cX7_liftedBy 18 = .ok (.iload 6, 2) := by decide +kernel
theorem dX7_liftedBy_20 : decode cX7_liftedBy 20 = .ok (.aload_n 0, 1) := by decide +kernel
theorem dX7_liftedBy_21 : decode cX7_liftedBy 21 = .ok (.getfield 7, 3) := by decide +kernel
theorem dX7_liftedBy_24 : decode cX7_liftedBy 24 = .ok (.bipush 6, 2) := by decide +kernel
theorem dX7_liftedBy_26 : decode cX7_liftedBy 26 = .ok (.iaload, 1) := by decide +kernel
theorem dX7_liftedBy_27 : decode cX7_liftedBy 27 = .ok (.if_icmp .ge 191, 3) := by decide +kernel
theorem dX7_liftedBy_30 : decode cX7_liftedBy 30 = .ok (.aload_n 0, 1) := by decide +kernel
theorem dX7_liftedBy_31 : decode cX7_liftedBy 31 = .ok (.iload 6, 2) := by decide +kernel
theorem dX7_liftedBy_33 : decode cX7_liftedBy 33 = .ok (.bipush 6, 2) := by decide +kernel
theorem dX7_liftedBy_35 : decode cX7_liftedBy 35 = .ok (.invokevirtual 111, 3) := by decide +kernel
theorem dX7_liftedBy_38 : decode cX7_liftedBy 38 = .ok (.iconst (-1), 1) := by decide +kernel
theorem dX7_liftedBy_39 : decode cX7_liftedBy 39 = .ok (.if_icmp .eq 43, 3) := by decide +kernel
theorem dX7_liftedBy_42 : decode cX7_liftedBy 42 = .ok (.aload_n 0, 1) := by decide +kernel
theorem dX7_liftedBy_43 : decode cX7_liftedBy 43 = .ok (.iload 6, 2) := by decide +kernel
theorem dX7_liftedBy_45 : decode cX7_liftedBy 45 = .ok (.bipush 6, 2) := by decide +kernel
theorem dX7_liftedBy_47 : decode cX7_liftedBy 47 = .ok (.invokevirtual 111, 3) := by decide +kernel
theorem dX7_liftedBy_50 : decode cX7_liftedBy 50 = .ok (.bipush 8, 2) := by decide +kernel
theorem dX7_liftedBy_52 : decode cX7_liftedBy 52 = .ok (.idiv, 1) := by decide +kernel
theorem dX7_liftedBy_53 : decode cX7_liftedBy 53 = .ok (.iload 4, 2) := by decide +kernel
theorem dX7_liftedBy_55 : decode cX7_liftedBy 55 = .ok (.if_icmp .ne 27, 3) := by decide +kernel
theorem dX7_liftedBy_58 : decode cX7_liftedBy 58 = .ok (.iload_n 2, 1) := by decide +kernel
theorem dX7_liftedBy_59 : decode cX7_liftedBy 59 = .ok (.iload 6, 2) := by decide +kernel
theorem dX7_liftedBy_61 : decode cX7_liftedBy 61 = .ok (.ishr, 1) := by decide +kernel
theorem dX7_liftedBy_62 : decode cX7_liftedBy 62 = .ok (.iconst 1, 1) := by decide +kernel
theorem dX7_liftedBy_63 : decode cX7_liftedBy 63 = .ok (.iand, 1) := by decide +kernel
theorem dX7_liftedBy_64 : decode cX7_liftedBy 64 = .ok (.ifCond .ne 18, 3) := by decide +kernel
theorem dX7_liftedBy_67 : decode cX7_liftedBy 67 = .ok (.aload_n 0, 1) := by decide +kernel
theorem dX7_liftedBy_68 : decode cX7_liftedBy 68 = .ok (.getfield 28, 3) := by decide +kernel
theorem dX7_liftedBy_71 : decode cX7_liftedBy 71 = .ok (.iload 6, 2) := by decide +kernel
theorem dX7_liftedBy_73 : decode cX7_liftedBy 73 = .ok (.iaload, 1) := by decide +kernel
theorem dX7_liftedBy_74 : decode cX7_liftedBy 74 = .ok (.iload_n 1, 1) := by decide +kernel
theorem dX7_liftedBy_75 : decode cX7_liftedBy 75 = .ok (.if_icmp .ge 7, 3) := by decide +kernel
theorem dX7_liftedBy_78 : decode cX7_liftedBy 78 = .ok (.iconst 1, 1) := by decide +kernel
theorem dX7_liftedBy_79 : decode cX7_liftedBy 79 = .ok (.goto 4, 3) := by decide +kernel
theorem dX7_liftedBy_82 : decode cX7_liftedBy 82 = .ok (.iconst 0, 1) := by decide +kernel
theorem dX7_liftedBy_83 : decode cX7_liftedBy 83 = .ok (.istore 7, 2) := by decide +kernel
theorem dX7_liftedBy_85 : decode cX7_liftedBy 85 = .ok (.iconst 0, 1) := by decide +kernel
theorem dX7_liftedBy_86 : decode cX7_liftedBy 86 = .ok (.istore 8, 2) := by decide +kernel
theorem dX7_liftedBy_88 : decode cX7_liftedBy 88 = .ok (.iload 8, 2) := by decide +kernel
theorem dX7_liftedBy_90 : decode cX7_liftedBy 90 = .ok (.aload_n 0, 1) := by decide +kernel
theorem dX7_liftedBy_91 : decode cX7_liftedBy 91 = .ok (.getfield 7, 3) := by decide +kernel
theorem dX7_liftedBy_94 : decode cX7_liftedBy 94 = .ok (.bipush 6, 2) := by decide +kernel
theorem dX7_liftedBy_96 : decode cX7_liftedBy 96 = .ok (.iaload, 1) := by decide +kernel
theorem dX7_liftedBy_97 : decode cX7_liftedBy 97 = .ok (.if_icmp .ge 97, 3) := by decide +kernel
theorem dX7_liftedBy_100 : decode cX7_liftedBy 100 = .ok (.iload 7, 2) := by decide +kernel
theorem dX7_liftedBy_102 : decode cX7_liftedBy 102 = .ok (.ifCond .eq 92, 3) := by decide +kernel
theorem dX7_liftedBy_105 : decode cX7_liftedBy 105 = .ok (.iload 8, 2) := by decide +kernel
theorem dX7_liftedBy_107 : decode cX7_liftedBy 107 = .ok (.iload 6, 2) := by decide +kernel
theorem dX7_liftedBy_109 : decode cX7_liftedBy 109 = .ok (.if_icmp .eq 46, 3) := by decide +kernel
theorem dX7_liftedBy_112 : decode cX7_liftedBy 112 = .ok (.aload_n 0, 1) := by decide +kernel
theorem dX7_liftedBy_113 : decode cX7_liftedBy 113 = .ok (.iload 8, 2) := by decide +kernel
theorem dX7_liftedBy_115 : decode cX7_liftedBy 115 = .ok (.bipush 6, 2) := by decide +kernel
theorem dX7_liftedBy_117 : decode cX7_liftedBy 117 = .ok (.invokevirtual 111, 3) := by decide +kernel
theorem dX7_liftedBy_120 : decode cX7_liftedBy 120 = .ok (.iconst (-1), 1) := by decide +kernel
theorem dX7_liftedBy_121 : decode cX7_liftedBy 121 = .ok (.if_icmp .eq 34, 3) := by decide +kernel
theorem dX7_liftedBy_124 : decode cX7_liftedBy 124 = .ok (.aload_n 0, 1) := by decide +kernel
theorem dX7_liftedBy_125 : decode cX7_liftedBy 125 = .ok (.iload 8, 2) := by decide +kernel
theorem dX7_liftedBy_127 : decode cX7_liftedBy 127 = .ok (.bipush 6, 2) := by decide +kernel
theorem dX7_liftedBy_129 : decode cX7_liftedBy 129 = .ok (.invokevirtual 111, 3) := by decide +kernel
theorem dX7_liftedBy_132 : decode cX7_liftedBy 132 = .ok (.bipush 8, 2) := by decide +kernel
theorem dX7_liftedBy_134 : decode cX7_liftedBy 134 = .ok (.idiv, 1) := by decide +kernel
theorem dX7_liftedBy_135 : decode cX7_liftedBy 135 = .ok (.iload 4, 2) := by decide +kernel
theorem dX7_liftedBy_137 : decode cX7_liftedBy 137 = .ok (.iconst 1, 1) := by decide +kernel
theorem dX7_liftedBy_138 : decode cX7_liftedBy 138 = .ok (.isub, 1) := by decide +kernel
theorem dX7_liftedBy_139 : decode cX7_liftedBy 139 = .ok (.if_icmp .ne 16, 3) := by decide +kernel
theorem dX7_liftedBy_142 : decode cX7_liftedBy 142 = .ok (.iload_n 3, 1) := by decide +kernel
theorem dX7_liftedBy_143 : decode cX7_liftedBy 143 = .ok (.iload 8, 2) := by decide +kernel
theorem dX7_liftedBy_145 : decode cX7_liftedBy 145 = .ok (.ishr, 1) := by decide +kernel
theorem dX7_liftedBy_146 : decode cX7_liftedBy 146 = .ok (.iconst 1, 1) := by decide +kernel
theorem dX7_liftedBy_147 : decode cX7_liftedBy 147 = .ok (.iand, 1) := by decide +kernel
theorem dX7_liftedBy_148 : decode cX7_liftedBy 148 = .ok (.ifCond .ne 7, 3) := by decide +kernel
theorem dX7_liftedBy_151 : decode cX7_liftedBy 151 = .ok (.iconst 1, 1) := by decide +kernel
theorem dX7_liftedBy_152 : decode cX7_liftedBy 152 = .ok (.goto 4, 3) := by decide +kernel
theorem dX7_liftedBy_155 : decode cX7_liftedBy 155 = .ok (.iconst 0, 1) := by decide +kernel
