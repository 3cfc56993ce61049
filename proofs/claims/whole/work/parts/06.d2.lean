theorem dX6_nail_30 : decode cX6_nail 30 = .ok (.getfield 84, 3) := by decide +kernel
theorem dX6_nail_33 : decode cX6_nail 33 = .ok (.istore_n 3, 1) := by decide +kernel
theorem dX6_nail_34 : decode cX6_nail 34 = .ok (.aload_n 0, 1) := by decide +kernel
theorem dX6_nail_35 : decode cX6_nail 35 = .ok (.getfield 12, 3) := by decide +kernel
theorem dX6_nail_38 : decode cX6_nail 38 = .ok (.getfield 62, 3) := by decide +kernel
theorem dX6_nail_41 : decode cX6_nail 41 = .ok (.iload_n 1, 1) := by decide +kernel
theorem dX6_nail_42 : decode cX6_nail 42 = .ok (.aaload, 1) := by decide +kernel
theorem dX6_nail_43 : decode cX6_nail 43 = .ok (.iload_n 2, 1) := by decide +kernel
theorem dX6_nail_44 : decode cX6_nail 44 = .ok (.putfield 84, 3) := by decide +kernel
theorem dX6_nail_47 : decode cX6_nail 47 = .ok (.iload_n 3, 1) := by decide +kernel
theorem dX6_nail_48 : decode cX6_nail 48 = .ok (.ireturn, 1) := by decide +kernel
theorem dX6_sells_0 : decode cX6_sells 0 = .ok (.iload_n 1, 1) := by decide +kernel
theorem dX6_sells_1 : decode cX6_sells 1 = .ok (.invokestatic 135, 3) := by decide +kernel
theorem dX6_sells_4 : decode cX6_sells 4 = .ok (.ifCond .ne 9, 3) := by decide +kernel
theorem dX6_sells_7 : decode cX6_sells 7 = .ok (.aload_n 0, 1) := by decide +kernel
theorem dX6_sells_8 : decode cX6_sells 8 = .ok (.iconst 1, 1) := by decide +kernel
theorem dX6_sells_9 : decode cX6_sells 9 = .ok (.invokevirtual 58, 3) := by decide +kernel
theorem dX6_sells_12 : decode cX6_sells 12 = .ok (.ireturn, 1) := by decide +kernel
theorem dX6_sells_13 : decode cX6_sells 13 = .ok (.aload_n 0, 1) := by decide +kernel
theorem dX6_sells_14 : decode cX6_sells 14 = .ok (.getfield 12, 3) := by decide +kernel
theorem dX6_sells_17 : decode cX6_sells 17 = .ok (.getfield 138, 3) := by decide +kernel
theorem dX6_sells_20 : decode cX6_sells 20 = .ok (.istore_n 2, 1) := by decide +kernel
theorem dX6_sells_21 : decode cX6_sells 21 = .ok (.aload_n 0, 1) := by decide +kernel
theorem dX6_sells_22 : decode cX6_sells 22 = .ok (.getfield 12, 3) := by decide +kernel
theorem dX6_sells_25 : decode cX6_sells 25 = .ok (.iload_n 1, 1) := by decide +kernel
theorem dX6_sells_26 : decode cX6_sells 26 = .ok (.putfield 138, 3) := by decide +kernel
theorem dX6_sells_29 : decode cX6_sells 29 = .ok (.iload_n 2, 1) := by decide +kernel
theorem dX6_sells_30 : decode cX6_sells 30 = .ok (.ireturn, 1) := by decide +kernel
theorem dX6_feed_0 : decode cX6_feed 0 = .ok (.iload_n 3, 1) := by decide +kernel
theorem dX6_feed_1 : decode cX6_feed 1 = .ok (.iconst 1, 1) := by decide +kernel
theorem dX6_feed_2 : decode cX6_feed 2 = .ok (.if_icmp .lt 9, 3) := by decide +kernel
theorem dX6_feed_5 : decode cX6_feed 5 = .ok (.iload_n 3, 1) := by decide +kernel
theorem dX6_feed_6 : decode cX6_feed 6 = .ok (.bipush 8, 2) := by decide +kernel
theorem dX6_feed_8 : decode cX6_feed 8 = .ok (.if_icmp .le 9, 3) := by decide +kernel
theorem dX6_feed_11 : decode cX6_feed 11 = .ok (.aload_n 0, 1) := by decide +kernel
theorem dX6_feed_12 : decode cX6_feed 12 = .ok (.iconst 1, 1) := by decide +kernel
theorem dX6_feed_13 : decode cX6_feed 13 = .ok (.invokevirtual 58, 3) := by decide +kernel
theorem dX6_feed_16 : decode cX6_feed 16 = .ok (.ireturn, 1) := by decide +kernel
theorem dX6_feed_17 : decode cX6_feed 17 = .ok (.iload_n 3, 1) := by decide +kernel
theorem dX6_feed_18 : decode cX6_feed 18 = .ok (.bipush 60, 2) := by decide +kernel
theorem dX6_feed_20 : decode cX6_feed 20 = .ok (.aload_n 0, 1) := by decide +kernel
theorem dX6_feed_21 : decode cX6_feed 21 = .ok (.getfield 12, 3) := by decide +kernel
theorem dX6_feed_24 : decode cX6_feed 24 = .ok (.getfield 141, 3) := by decide +kernel
theorem dX6_feed_27 : decode cX6_feed 27 = .ok (.isub, 1) := by decide +kernel
theorem dX6_feed_28 : decode cX6_feed 28 = .ok (.if_icmp .le 9, 3) := by decide +kernel
theorem dX6_feed_31 : decode cX6_feed 31 = .ok (.aload_n 0, 1) := by decide +kernel
theorem dX6_feed_32 : decode cX6_feed 32 = .ok (.iconst 4, 1) := by decide +kernel
theorem dX6_feed_33 : decode cX6_feed 33 = .ok (.invokevirtual 58, 3) := by decide +kernel
theorem dX6_feed_36 : decode cX6_feed 36 = .ok (.ireturn, 1) := by decide +kernel
theorem dX6_feed_37 : decode cX6_feed 37 = .ok (.iconst 0, 1) := by decide +kernel
theorem dX6_feed_38 : decode cX6_feed 38 = .ok (.istore 4, 2) := by decide +kernel
theorem dX6_feed_40 : decode cX6_feed 40 = .ok (.iload 4, 2) := by decide +kernel
theorem dX6_feed_42 : decode cX6_feed 42 = .ok (.iload_n 3, 1) := by decide +kernel
theorem dX6_feed_43 : decode cX6_feed 43 = .ok (.if_icmp .ge 46, 3) := by decide +kernel
theorem dX6_feed_46 : decode cX6_feed 46 = .ok (.aload_n 0, 1) := by decide +kernel
theorem dX6_feed_47 : decode cX6_feed 47 = .ok (.getfield 12, 3) := by decide +kernel
theorem dX6_feed_50 : decode cX6_feed 50 = .ok (.getfield 144, 3) := by decide +kernel
theorem dX6_feed_53 : decode cX6_feed 53 = .ok (.aload_n 0, 1) := by decide +kernel
theorem dX6_feed_54 : decode cX6_feed 54 = .ok (.getfield 12, 3) := by decide +kernel
theorem dX6_feed_57 : decode cX6_feed 57 = .ok (.getfield 141, 3) := by decide +kernel
theorem dX6_feed_60 : decode cX6_feed 60 = .ok (.lload_n 1, 1) := by decide +kernel
theorem dX6_feed_61 : decode cX6_feed 61 = .ok (.bipush 8, 2) := by decide +kernel
theorem dX6_feed_63 : decode cX6_feed 63 = .ok (.iload 4, 2) := by decide +kernel
theorem dX6_feed_65 : decode cX6_feed 65 = .ok (.imul, 1) := by decide +kernel
theorem dX6_feed_66 : decode cX6_feed 66 = .ok (.lushr, 1) := by decide +kernel
theorem dX6_feed_67 : decode cX6_feed 67 = .ok (.l2i, 1) := by decide +kernel
theorem dX6_feed_68 : decode cX6_feed 68 = .ok (.i2b, 1) := by decide +kernel
theorem dX6_feed_69 : decode cX6_feed 69 = .ok (.bastore, 1) := by decide +kernel
theorem dX6_feed_70 : decode cX6_feed 70 = .ok (.aload_n 0, 1) := by decide +kernel
theorem dX6_feed_71 : decode cX6_feed 71 = .ok (.getfield 12, 3) := by decide +kernel
theorem dX6_feed_74 : decode cX6_feed 74 = .ok (.dup, 1) := by decide +kernel
theorem dX6_feed_75 : decode cX6_feed 75 = .ok (.getfield 141, 3) := by decide +kernel
theorem dX6_feed_78 : decode cX6_feed 78 = .ok (.iconst 1, 1) := by decide +kernel
theorem dX6_feed_79 : decode cX6_feed 79 = .ok (.iadd, 1) := by decide +kernel
theorem dX6_feed_80 : decode cX6_feed 80 = .ok (.putfield 141, 3) := by decide +kernel
theorem dX6_feed_83 : decode cX6_feed 83 = .ok (.iinc 4 1, 3) := by decide +kernel
theorem dX6_feed_86 : decode cX6_feed 86 = .ok (.goto (-46), 3) := by decide +kernel
theorem dX6_feed_89 : decode cX6_feed 89 = .ok (.aload_n 0, 1) := by decide +kernel
theorem dX6_feed_90 : decode cX6_feed 90 = .ok (.getfield 12, 3) := by decide +kernel
theorem dX6_feed_93 : decode cX6_feed 93 = .ok (.getfield 141, 3) := by decide +kernel
theorem dX6_feed_96 : decode cX6_feed 96 = .ok (.ireturn, 1) := by decide +kernel
theorem dX6_text_0 : decode cX6_text 0 = .ok (.iload_n 1, 1) := by decide +kernel
theorem dX6_text_1 : decode cX6_text 1 = .ok (.invokestatic 148, 3) := by decide +kernel
theorem dX6_text_4 : decode cX6_text 4 = .ok (.ifCond .ne 9, 3) := by decide +kernel
theorem dX6_text_7 : decode cX6_text 7 = .ok (.aload_n 0, 1) := by decide +kernel
theorem dX6_text_8 : decode cX6_text 8 = .ok (.iconst 1, 1) := by decide +kernel
theorem dX6_text_9 : decode cX6_text 9 = .ok (.invokevirtual 58, 3) := by decide +kernel
theorem dX6_text_12 : decode cX6_text 12 = .ok (.ireturn, 1) := by decide +kernel
theorem dX6_text_13 : decode cX6_text 13 = .ok (.aload_n 0, 1) := by decide +kernel
theorem dX6_text_14 : decode cX6_text 14 = .ok (.getfield 26, 3) := by decide +kernel
theorem dX6_text_17 : decode cX6_text 17 = .ok (.aload_n 0, 1) := by decide +kernel
theorem dX6_text_18 : decode cX6_text 18 = .ok (.getfield 12, 3) := by decide +kernel
theorem dX6_text_21 : decode cX6_text 21 = .ok (.getfield 144, 3) := by decide +kernel
theorem dX6_text_24 : decode cX6_text 24 = .ok (.aload_n 0, 1) := by decide +kernel
theorem dX6_text_25 : decode cX6_text 25 = .ok (.getfield 12, 3) := by decide +kernel
theorem dX6_text_28 : decode cX6_text 28 = .ok (.getfield 141, 3) := by decide +kernel
theorem dX6_text_31 : decode cX6_text 31 = .ok (.iload_n 1, 1) := by decide +kernel
theorem dX6_text_32 : decode cX6_text 32 = .ok (.invokevirtual 151, 3) := by decide +kernel
theorem dX6_text_35 : decode cX6_text 35 = .ok (.istore_n 2, 1) := by decide +kernel
theorem dX6_text_36 : decode cX6_text 36 = .ok (.aload_n 0, 1) := by decide +kernel
theorem dX6_text_37 : decode cX6_text 37 = .ok (.getfield 12, 3) := by decide +kernel
theorem dX6_text_40 : decode cX6_text 40 = .ok (.iconst 0, 1) := by decide +kernel
theorem dX6_text_41 : decode cX6_text 41 = .ok (.putfield 141, 3) := by decide +kernel
theorem dX6_text_44 : decode cX6_text 44 = .ok (.iload_n 2, 1) := by decide +kernel
theorem dX6_text_45 : decode cX6_text 45 = .ok (.ifCond .lt 8, 3) := by decide +kernel
theorem dX6_text_48 : decode cX6_text 48 = .ok (.bipush (-10), 2) := by decide +kernel
theorem dX6_text_50 : decode cX6_text 50 = .ok (.iload_n 2, 1) := by decide +kernel
theorem dX6_text_51 : decode cX6_text 51 = .ok (.isub, 1) := by decide +kernel
theorem dX6_text_52 : decode cX6_text 52 = .ok (.ireturn, 1) := by decide +kernel
theorem dX6_text_53 : decode cX6_text 53 = .ok (.aload_n 0, 1) := by decide +kernel
theorem dX6_text_54 : decode cX6_text 54 = .ok (.getfield 12, 3) := by decide +kernel
theorem dX6_text_57 : decode cX6_text 57 = .ok (.getfield 155, 3) := by decide +kernel
theorem dX6_text_60 : decode cX6_text 60 = .ok (.iload_n 1, 1) := by decide +kernel
theorem dX6_text_61 : decode cX6_text 61 = .ok (.aaload, 1) := by decide +kernel
theorem dX6_text_62 : decode cX6_text 62 = .ok (.aload_n 0, 1) := by decide +kernel
theorem dX6_text_63 : decode cX6_text 63 = .ok (.getfield 26, 3) := by decide +kernel
theorem dX6_text_66 : decode cX6_text 66 = .ok (.getfield 159, 3) := by decide +kernel
theorem dX6_text_69 : decode cX6_text 69 = .ok (.aload_n 0, 1) := by decide +kernel
theorem dX6_text_70 : decode cX6_text 70 = .ok (.getfield 26, 3) := by decide +kernel
theorem dX6_text_73 : decode cX6_text 73 = .ok (.getfield 162, 3) := by decide +kernel
theorem dX6_text_76 : decode cX6_text 76 = .ok (.invokevirtual 163, 3) := by decide +kernel
theorem dX6_text_79 : decode cX6_text 79 = .ok (.iconst 1, 1) := by decide +kernel
theorem dX6_text_80 : decode cX6_text 80 = .ok (.ireturn, 1) := by decide +kernel
theorem dX6_untell_0 : decode cX6_untell 0 = .ok (.iload_n 1, 1) := by decide +kernel
theorem dX6_untell_1 : decode cX6_untell 1 = .ok (.invokestatic 148, 3) := by decide +kernel
theorem dX6_untell_4 : decode cX6_untell 4 = .ok (.ifCond .ne 9, 3) := by decide +kernel
theorem dX6_untell_7 : decode cX6_untell 7 = .ok (.aload_n 0, 1) := by decide +kernel
theorem dX6_untell_8 : decode cX6_untell 8 = .ok (.iconst 1, 1) := by decide +kernel
theorem dX6_untell_9 : decode cX6_untell 9 = .ok (.invokevirtual 58, 3) := by decide +kernel
theorem dX6_untell_12 : decode cX6_untell 12 = .ok (.ireturn, 1) := by decide +kernel
theorem dX6_untell_13 : decode cX6_untell 13 = .ok (.aload_n 0, 1) := by decide +kernel
theorem dX6_untell_14 : decode cX6_untell 14 = .ok (.getfield 12, 3) := by decide +kernel
theorem dX6_untell_17 : decode cX6_untell 17 = .ok (.getfield 155, 3) := by decide +kernel
theorem dX6_untell_20 : decode cX6_untell 20 = .ok (.iload_n 1, 1) := by decide +kernel
theorem dX6_untell_21 : decode cX6_untell 21 = .ok (.aaload, 1) := by decide +kernel
theorem dX6_untell_22 : decode cX6_untell 22 = .ok (.getfield 169, 3) := by decide +kernel
theorem dX6_untell_25 : decode cX6_untell 25 = .ok (.ifCond .eq 7, 3) := by decide +kernel
theorem dX6_untell_28 : decode cX6_untell 28 = .ok (.iconst 1, 1) := by decide +kernel
theorem dX6_untell_29 : decode cX6_untell 29 = .ok (.goto 4, 3) := by decide +kernel
theorem dX6_untell_32 : decode cX6_untell 32 = .ok (.iconst 0, 1) := by decide +kernel
theorem dX6_untell_33 : decode cX6_untell 33 = .ok (.istore_n 2, 1) := by decide +kernel
theorem dX6_untell_34 : decode cX6_untell 34 = .ok (.aload_n 0, 1) := by decide +kernel
theorem dX6_untell_35 : decode cX6_untell 35 = .ok (.getfield 12, 3) := by decide +kernel
theorem dX6_untell_38 : decode cX6_untell 38 = .ok (.getfield 155, 3) := by decide +kernel
theorem dX6_untell_41 : decode cX6_untell 41 = .ok (.iload_n 1, 1) := by decide +kernel
theorem dX6_untell_42 : decode cX6_untell 42 = .ok (.aaload, 1) := by decide +kernel
theorem dX6_untell_43 : decode cX6_untell 43 = .ok (.iconst 0, 1) := by decide +kernel
theorem dX6_untell_44 : decode cX6_untell 44 = .ok (.putfield 169, 3) := by decide +kernel
theorem dX6_untell_47 : decode cX6_untell 47 = .ok (.iload_n 2, 1) := by decide +kernel
theorem dX6_untell_48 : decode cX6_untell 48 = .ok (.ireturn, 1) := by decide +kernel
theorem dX6_law_0 : decode cX6_law 0 = .ok (.iload_n 1, 1) := by decide +kernel
theorem dX6_law_1 : decode cX6_law 1 = .ok (.invokestatic 148, 3) := by decide +kernel
theorem dX6_law_4 : decode cX6_law 4 = .ok (.ifCond .eq 22, 3) := by decide +kernel
theorem dX6_law_7 : decode cX6_law 7 = .ok (.aload_n 0, 1) := by decide +kernel
theorem dX6_law_8 : decode cX6_law 8 = .ok (.getfield 12, 3) := by decide +kernel
theorem dX6_law_11 : decode cX6_law 11 = .ok (.getfield 155, 3) := by decide +kernel
theorem dX6_law_14 : decode cX6_law 14 = .ok (.iload_n 1, 1) := by decide +kernel
theorem dX6_law_15 : decode cX6_law 15 = .ok (.aaload, 1) := by decide +kernel
theorem dX6_law_16 : decode cX6_law 16 = .ok (.iload_n 2, 1) := by decide +kernel
theorem dX6_law_17 : decode cX6_law 17 = .ok (.iload_n 3, 1) := by decide +kernel
theorem dX6_law_18 : decode cX6_law 18 = .ok (.iload 4, 2) := by decide +kernel
theorem dX6_law_20 : decode cX6_law 20 = .ok (.invokevirtual 173, 3) := by decide +kernel
theorem dX6_law_23 : decode cX6_law 23 = .ok (.goto 8, 3) := by decide +kernel
theorem dX6_law_26 : decode cX6_law 26 = .ok (.aload_n 0, 1) := by decide +kernel
theorem dX6_law_27 : decode cX6_law 27 = .ok (.iconst 1, 1) := by decide +kernel
theorem dX6_law_28 : decode cX6_law 28 = .ok (.invokevirtual 58, 3) := by decide +kernel
theorem dX6_law_31 : decode cX6_law 31 = .ok (.ireturn, 1) := by decide +kernel
theorem dX6_gale_0 : decode cX6_gale 0 = .ok (.iload_n 1, 1) := by decide +kernel
theorem dX6_gale_1 : decode cX6_gale 1 = .ok (.invokestatic 177, 3) := by decide +kernel
theorem dX6_gale_4 : decode cX6_gale 4 = .ok (.ifCond .ne 9, 3) := by decide +kernel
theorem dX6_gale_7 : decode cX6_gale 7 = .ok (.aload_n 0, 1) := by decide +kernel
theorem dX6_gale_8 : decode cX6_gale 8 = .ok (.iconst 1, 1) := by decide +kernel
theorem dX6_gale_9 : decode cX6_gale 9 = .ok (.invokevirtual 58, 3) := by decide +kernel
theorem dX6_gale_12 : decode cX6_gale 12 = .ok (.ireturn, 1) := by decide +kernel
theorem dX6_gale_13 : decode cX6_gale 13 = .ok (.aload_n 0, 1) := by decide +kernel
theorem dX6_gale_14 : decode cX6_gale 14 = .ok (.getfield 12, 3) := by decide +kernel
theorem dX6_gale_17 : decode cX6_gale 17 = .ok (.iload_n 1, 1) := by decide +kernel
theorem dX6_gale_18 : decode cX6_gale 18 = .ok (.invokevirtual 180, 3) := by decide +kernel
theorem dX6_gale_21 : decode cX6_gale 21 = .ok (.istore_n 2, 1) := by decide +kernel
theorem dX6_gale_22 : decode cX6_gale 22 = .ok (.aload_n 0, 1) := by decide +kernel
theorem dX6_gale_23 : decode cX6_gale 23 = .ok (.getfield 12, 3) := by decide +kernel
theorem dX6_gale_26 : decode cX6_gale 26 = .ok (.iload_n 2, 1) := by decide +kernel
theorem dX6_gale_27 : decode cX6_gale 27 = .ok (.invokevirtual 183, 3) := by decide +kernel
theorem dX6_gale_30 : decode cX6_gale 30 = .ok (.iload_n 2, 1) := by decide +kernel
theorem dX6_gale_31 : decode cX6_gale 31 = .ok (.ireturn, 1) := by decide +kernel
theorem dX6_years_0 : decode cX6_years 0 = .ok (.iload_n 1, 1) := by decide +kernel
theorem dX6_years_1 : decode cX6_years 1 = .ok (.iconst 1, 1) := by decide +kernel
theorem dX6_years_2 : decode cX6_years 2 = .ok (.if_icmp .lt 9, 3) := by decide +kernel
theorem dX6_years_5 : decode cX6_years 5 = .ok (.iload_n 1, 1) := by decide +kernel
theorem dX6_years_6 : decode cX6_years 6 = .ok (.bipush 60, 2) := by decide +kernel
theorem dX6_years_8 : decode cX6_years 8 = .ok (.if_icmp .le 9, 3) := by decide +kernel
theorem dX6_years_11 : decode cX6_years 11 = .ok (.aload_n 0, 1) := by decide +kernel
theorem dX6_years_12 : decode cX6_years 12 = .ok (.iconst 1, 1) := by decide +kernel
theorem dX6_years_13 : decode cX6_years 13 = .ok (.invokevirtual 58, 3) := by decide +kernel
theorem dX6_years_16 : decode cX6_years 16 = .ok (.ireturn, 1) := by decide +kernel
theorem dX6_years_17 : decode cX6_years 17 = .ok (.aload_n 0, 1) := by decide +kernel
theorem dX6_years_18 : decode cX6_years 18 = .ok (.getfield 12, 3) := by decide +kernel
theorem dX6_years_21 : decode cX6_years 21 = .ok (.getfield 186, 3) := by decide +kernel
theorem dX6_years_24 : decode cX6_years 24 = .ok (.iload_n 1, 1) := by decide +kernel
theorem dX6_years_25 : decode cX6_years 25 = .ok (.iadd, 1) := by decide +kernel
theorem dX6_years_26 : decode cX6_years 26 = .ok (.sipush 9999, 3) := by decide +kernel
theorem dX6_years_29 : decode cX6_years 29 = .ok (.if_icmp .le 9, 3) := by decide +kernel
theorem dX6_years_32 : decode cX6_years 32 = .ok (.aload_n 0, 1) := by decide +kernel
theorem dX6_years_33 : decode cX6_years 33 = .ok (.iconst 3, 1) := by decide +kernel
theorem dX6_years_34 : decode cX6_years 34 = .ok (.invokevirtual 58, 3) := by decide +kernel
theorem dX6_years_37 : decode cX6_years 37 = .ok (.ireturn, 1) := by decide +kernel
theorem dX6_years_38 : decode cX6_years 38 = .ok (.iconst 0, 1) := by decide +kernel
theorem dX6_years_39 : decode cX6_years 39 = .ok (.istore_n 2, 1) := by decide +kernel
theorem dX6_years_40 : decode cX6_years 40 = .ok (.iload_n 2, 1) := by decide +kernel
theorem dX6_years_41 : decode cX6_years 41 = .ok (.iload_n 1, 1) := by decide +kernel
theorem dX6_years_42 : decode cX6_years 42 = .ok (.if_icmp .ge 16, 3) := by decide +kernel
theorem dX6_years_45 : decode cX6_years 45 = .ok (.aload_n 0, 1) := by decide +kernel
theorem dX6_years_46 : decode cX6_years 46 = .ok (.getfield 12, 3) := by decide +kernel
theorem dX6_years_49 : decode cX6_years 49 = .ok (.invokevirtual 189, 3) := by decide +kernel
theorem dX6_years_52 : decode cX6_years 52 = .ok (.iinc 2 1, 3) := by decide +kernel
theorem dX6_years_55 : decode cX6_years 55 = .ok (.goto (-15), 3) := by decide +kernel
theorem dX6_years_58 : decode cX6_years 58 = .ok (.aload_n 0, 1) := by decide +kernel
theorem dX6_years_59 : decode cX6_years 59 = .ok (.getfield 12, 3) := by decide +kernel
theorem dX6_years_62 : decode cX6_years 62 = .ok (.getfield 192, 3) := by decide +kernel
theorem dX6_years_65 : decode cX6_years 65 = .ok (.ireturn, 1) := by decide +kernel
theorem dX6_loose_0 : decode cX6_loose 0 = .ok (.iload_n 1, 1) := by decide +kernel
theorem dX6_loose_1 : decode cX6_loose 1 = .ok (.iconst 1, 1) := by decide +kernel
theorem dX6_loose_2 : decode cX6_loose 2 = .ok (.if_icmp .lt 9, 3) := by decide +kernel
theorem dX6_loose_5 : decode cX6_loose 5 = .ok (.iload_n 1, 1) := by decide +kernel
theorem dX6_loose_6 : decode cX6_loose 6 = .ok (.bipush 20, 2) := by decide +kernel
theorem dX6_loose_8 : decode cX6_loose 8 = .ok (.if_icmp .le 9, 3) := by decide +kernel
theorem dX6_loose_11 : decode cX6_loose 11 = .ok (.aload_n 0, 1) := by decide +kernel
theorem dX6_loose_12 : decode cX6_loose 12 = .ok (.iconst 1, 1) := by decide +kernel
theorem dX6_loose_13 : decode cX6_loose 13 = .ok (.invokevirtual 58, 3) := by decide +kernel
theorem dX6_loose_16 : decode cX6_loose 16 = .ok (.ireturn, 1) := by decide +kernel
theorem dX6_loose_17 : decode cX6_loose 17 = .ok (.aload_n 0, 1) := by decide +kernel
theorem dX6_loose_18 : decode cX6_loose 18 = .ok (.getfield 12, 3) := by decide +kernel
theorem dX6_loose_21 : decode cX6_loose 21 = .ok (.getfield 186, 3) := by decide +kernel
theorem dX6_loose_24 : decode cX6_loose 24 = .ok (.iload_n 1, 1) := by decide +kernel
theorem dX6_loose_25 : decode cX6_loose 25 = .ok (.iadd, 1) := by decide +kernel
theorem dX6_loose_26 : decode cX6_loose 26 = .ok (.sipush 9999, 3) := by decide +kernel
theorem dX6_loose_29 : decode cX6_loose 29 = .ok (.if_icmp .le 9, 3) := by decide +kernel
theorem dX6_loose_32 : decode cX6_loose 32 = .ok (.aload_n 0, 1) := by decide +kernel
theorem dX6_loose_33 : decode cX6_loose 33 = .ok (.iconst 3, 1) := by decide +kernel
theorem dX6_loose_34 : decode cX6_loose 34 = .ok (.invokevirtual 58, 3) := by decide +kernel
theorem dX6_loose_37 : decode cX6_loose 37 = .ok (.ireturn, 1) := by decide +kernel
theorem dX6_loose_38 : decode cX6_loose 38 = .ok (.iconst 0, 1) := by decide +kernel
theorem dX6_loose_39 : decode cX6_loose 39 = .ok (.istore_n 2, 1) := by decide +kernel
theorem dX6_loose_40 : decode cX6_loose 40 = .ok (.iconst 0, 1) := by decide +kernel
theorem dX6_loose_41 : decode cX6_loose 41 = .ok (.istore_n 3, 1) := by decide +kernel
theorem dX6_loose_42 : decode cX6_loose 42 = .ok (.iload_n 3, 1) := by decide +kernel
theorem dX6_loose_43 : decode cX6_loose 43 = .ok (.iload_n 1, 1) := by decide +kernel
theorem dX6_loose_44 : decode cX6_loose 44 = .ok (.if_icmp .ge 19, 3) := by decide +kernel
theorem dX6_loose_47 : decode cX6_loose 47 = .ok (.iload_n 2, 1) := by decide +kernel
theorem dX6_loose_48 : decode cX6_loose 48 = .ok (.aload_n 0, 1) := by decide +kernel
theorem dX6_loose_49 : decode cX6_loose 49 = .ok (.getfield 12, 3) := by decide +kernel
theorem dX6_loose_52 : decode cX6_loose 52 = .ok (.invokevirtual 195, 3) := by decide +kernel
theorem dX6_loose_55 : decode cX6_loose 55 = .ok (.ior, 1) := by decide +kernel
theorem dX6_loose_56 : decode cX6_loose 56 = .ok (.istore_n 2, 1) := by decide +kernel
theorem dX6_loose_57 : decode cX6_loose 57 = .ok (.iinc 3 1, 3) := by decide +kernel
theorem dX6_loose_60 : decode cX6_loose 60 = .ok (.goto (-18), 3) := by decide +kernel
theorem dX6_loose_63 : decode cX6_loose 63 = .ok (.iload_n 2, 1) := by decide +kernel
theorem dX6_loose_64 : decode cX6_loose 64 = .ok (.ireturn, 1) := by decide +kernel
theorem dX6_seed_0 : decode cX6_seed 0 = .ok (.aload_n 0, 1) := by decide +kernel
theorem dX6_seed_1 : decode cX6_seed 1 = .ok (.getfield 12, 3) := by decide +kernel
theorem dX6_seed_4 : decode cX6_seed 4 = .ok (.getfield 198, 3) := by decide +kernel
theorem dX6_seed_7 : decode cX6_seed 7 = .ok (.istore_n 2, 1) := by decide +kernel
theorem dX6_seed_8 : decode cX6_seed 8 = .ok (.aload_n 0, 1) := by decide +kernel
theorem dX6_seed_9 : decode cX6_seed 9 = .ok (.getfield 12, 3) := by decide +kernel
theorem dX6_seed_12 : decode cX6_seed 12 = .ok (.iload_n 1, 1) := by decide +kernel
theorem dX6_seed_13 : decode cX6_seed 13 = .ok (.putfield 198, 3) := by decide +kernel
theorem dX6_seed_16 : decode cX6_seed 16 = .ok (.iload_n 2, 1) := by decide +kernel
theorem dX6_seed_17 : decode cX6_seed 17 = .ok (.ireturn, 1) := by decide +kernel
theorem dX6_dry_0 : decode cX6_dry 0 = .ok (.iload_n 1, 1) := by decide +kernel
theorem dX6_dry_1 : decode cX6_dry 1 = .ok (.ifCond .lt 8, 3) := by decide +kernel
theorem dX6_dry_4 : decode cX6_dry 4 = .ok (.iload_n 1, 1) := by decide +kernel
theorem dX6_dry_5 : decode cX6_dry 5 = .ok (.iconst 2, 1) := by decide +kernel
theorem dX6_dry_6 : decode cX6_dry 6 = .ok (.if_icmp .le 10, 3) := by decide +kernel
theorem dX6_dry_9 : decode cX6_dry 9 = .ok (.aload_n 0, 1) := by decide +kernel
theorem dX6_dry_10 : decode cX6_dry 10 = .ok (.iconst 1, 1) := by decide +kernel
theorem dX6_dry_11 : decode cX6_dry 11 = .ok (.invokevirtual 58, 3) := by decide +kernel
theorem dX6_dry_14 : decode cX6_dry 14 = .ok (.i2l, 1) := by decide +kernel
theorem dX6_dry_15 : decode cX6_dry 15 = .ok (.lreturn, 1) := by decide +kernel
theorem dX6_dry_16 : decode cX6_dry 16 = .ok (.aload_n 0, 1) := by decide +kernel
theorem dX6_dry_17 : decode cX6_dry 17 = .ok (.getfield 12, 3) := by decide +kernel
theorem dX6_dry_20 : decode cX6_dry 20 = .ok (.iconst 0, 1) := by decide +kernel
theorem dX6_dry_21 : decode cX6_dry 21 = .ok (.invokevirtual 121, 3) := by decide +kernel
theorem dX6_dry_24 : decode cX6_dry 24 = .ok (.lstore_n 2, 1) := by decide +kernel
theorem dX6_dry_25 : decode cX6_dry 25 = .ok (.iload_n 1, 1) := by decide +kernel
theorem dX6_dry_26 : decode cX6_dry 26 = .ok (.ifCond .ne 5, 3) := by decide +kernel
theorem dX6_dry_29 : decode cX6_dry 29 = .ok (.lload_n 2, 1) := by decide +kernel
theorem dX6_dry_30 : decode cX6_dry 30 = .ok (.lreturn, 1) := by decide +kernel
theorem dX6_dry_31 : decode cX6_dry 31 = .ok (.iload_n 1, 1) := by decide +kernel
theorem dX6_dry_32 : decode cX6_dry 32 = .ok (.iconst 1, 1) := by decide +kernel
theorem dX6_dry_33 : decode cX6_dry 33 = .ok (.if_icmp .ne 9, 3) := by decide +kernel
theorem dX6_dry_36 : decode cX6_dry 36 = .ok (.lload_n 2, 1) := by decide +kernel
theorem dX6_dry_37 : decode cX6_dry 37 = .ok (.invokestatic 125, 3) := by decide +kernel
theorem dX6_dry_40 : decode cX6_dry 40 = .ok (.i2l, 1) := by decide +kernel
theorem dX6_dry_41 : decode cX6_dry 41 = .ok (.lreturn, 1) := by decide +kernel
theorem dX6_dry_42 : decode cX6_dry 42 = .ok (.lload_n 2, 1) := by decide +kernel
theorem dX6_dry_43 : decode cX6_dry 43 = .ok (.ldc2_w 201, 3) := by decide +kernel
theorem dX6_dry_46 : decode cX6_dry 46 = .ok (.lcmp, 1) := by decide +kernel
theorem dX6_dry_47 : decode cX6_dry 47 = .ok (.ifCond .ne 12, 3) := by decide +kernel
theorem dX6_dry_50 : decode cX6_dry 50 = .ok (.aload_n 0, 1) := by decide +kernel
theorem dX6_dry_51 : decode cX6_dry 51 = .ok (.iconst 2, 1) := by decide +kernel
theorem dX6_dry_52 : decode cX6_dry 52 = .ok (.invokevirtual 58, 3) := by decide +kernel
theorem dX6_dry_55 : decode cX6_dry 55 = .ok (.i2l, 1) := by decide +kernel
theorem dX6_dry_56 : decode cX6_dry 56 = .ok (.goto 12, 3) := by decide +kernel
theorem dX6_dry_59 : decode cX6_dry 59 = .ok (.lload_n 2, 1) := by decide +kernel
theorem dX6_dry_60 : decode cX6_dry 60 = .ok (.ldc2_w 203, 3) := by decide +kernel
theorem dX6_dry_63 : decode cX6_dry 63 = .ok (.lxor, 1) := by decide +kernel
theorem dX6_dry_64 : decode cX6_dry 64 = .ok (.invokestatic 205, 3) := by decide +kernel
theorem dX6_dry_67 : decode cX6_dry 67 = .ok (.i2l, 1) := by decide +kernel
theorem dX6_dry_68 : decode cX6_dry 68 = .ok (.lreturn, 1) := by decide +kernel
theorem dX6_over_0 : decode cX6_over 0 = .ok (.iload_n 1, 1) := by decide +kernel
theorem dX6_over_1 : decode cX6_over 1 = .ok (.invokestatic 208, 3) := by decide +kernel
theorem dX6_over_4 : decode cX6_over 4 = .ok (.ifCond .eq 10, 3) := by decide +kernel
theorem dX6_over_7 : decode cX6_over 7 = .ok (.iload_n 2, 1) := by decide +kernel
theorem dX6_over_8 : decode cX6_over 8 = .ok (.invokestatic 135, 3) := by decide +kernel
theorem dX6_over_11 : decode cX6_over 11 = .ok (.ifCond .ne 9, 3) := by decide +kernel
theorem dX6_over_14 : decode cX6_over 14 = .ok (.aload_n 0, 1) := by decide +kernel
theorem dX6_over_15 : decode cX6_over 15 = .ok (.iconst 1, 1) := by decide +kernel
theorem dX6_over_16 : decode cX6_over 16 = .ok (.invokevirtual 58, 3) := by decide +kernel
theorem dX6_over_19 : decode cX6_over 19 = .ok (.ireturn, 1) := by decide +kernel
theorem dX6_over_20 : decode cX6_over 20 = .ok (.aload_n 0, 1) := by decide +kernel
theorem dX6_over_21 : decode cX6_over 21 = .ok (.getfield 12, 3) := by decide +kernel
theorem dX6_over_24 : decode cX6_over 24 = .ok (.iload_n 1, 1) := by decide +kernel
theorem dX6_over_25 : decode cX6_over 25 = .ok (.invokevirtual 211, 3) := by decide +kernel
theorem dX6_over_28 : decode cX6_over 28 = .ok (.istore_n 3, 1) := by decide +kernel
theorem dX6_over_29 : decode cX6_over 29 = .ok (.iload_n 2, 1) := by decide +kernel
theorem dX6_over_30 : decode cX6_over 30 = .ok (.ifCond .ne 7, 3) := by decide +kernel
theorem dX6_over_33 : decode cX6_over 33 = .ok (.iload_n 3, 1) := by decide +kernel
theorem dX6_over_34 : decode cX6_over 34 = .ok (.goto 11, 3) := by decide +kernel
theorem dX6_over_37 : decode cX6_over 37 = .ok (.aload_n 0, 1) := by decide +kernel
theorem dX6_over_38 : decode cX6_over 38 = .ok (.getfield 12, 3) := by decide +kernel
theorem dX6_over_41 : decode cX6_over 41 = .ok (.iload_n 3, 1) := by decide +kernel
theorem dX6_over_42 : decode cX6_over 42 = .ok (.invokevirtual 214, 3) := by decide +kernel
theorem dX6_over_45 : decode cX6_over 45 = .ok (.ireturn, 1) := by decide +kernel
theorem dX6_lifts_0 : decode cX6_lifts 0 = .ok (.iload_n 1, 1) := by decide +kernel
theorem dX6_lifts_1 : decode cX6_lifts 1 = .ok (.invokestatic 177, 3) := by decide +kernel
theorem dX6_lifts_4 : decode cX6_lifts 4 = .ok (.ifCond .eq 10, 3) := by decide +kernel
theorem dX6_lifts_7 : decode cX6_lifts 7 = .ok (.iload_n 2, 1) := by decide +kernel
theorem dX6_lifts_8 : decode cX6_lifts 8 = .ok (.invokestatic 135, 3) := by decide +kernel
theorem dX6_lifts_11 : decode cX6_lifts 11 = .ok (.ifCond .ne 9, 3) := by decide +kernel
theorem dX6_lifts_14 : decode cX6_lifts 14 = .ok (.aload_n 0, 1) := by decide +kernel
theorem dX6_lifts_15 : decode cX6_lifts 15 = .ok (.iconst 1, 1) := by decide +kernel
theorem dX6_lifts_16 : decode cX6_lifts 16 = .ok (.invokevirtual 58, 3) := by decide +kernel
theorem dX6_lifts_19 : decode cX6_lifts 19 = .ok (.ireturn, 1) := by decide +kernel
theorem dX6_lifts_20 : decode cX6_lifts 20 = .ok (.aload_n 0, 1) := by decide +kernel
theorem dX6_lifts_21 : decode cX6_lifts 21 = .ok (.getfield 12, 3) := by decide +kernel
theorem dX6_lifts_24 : decode cX6_lifts 24 = .ok (.iload_n 1, 1) := by decide +kernel
theorem dX6_lifts_25 : decode cX6_lifts 25 = .ok (.invokevirtual 180, 3) := by decide +kernel
theorem dX6_lifts_28 : decode cX6_lifts 28 = .ok (.istore_n 3, 1) := by decide +kernel
theorem dX6_lifts_29 : decode cX6_lifts 29 = .ok (.iload_n 2, 1) := by decide +kernel
theorem dX6_lifts_30 : decode cX6_lifts 30 = .ok (.ifCond .ne 7, 3) := by decide +kernel
theorem dX6_lifts_33 : decode cX6_lifts 33 = .ok (.iload_n 3, 1) := by decide +kernel
theorem dX6_lifts_34 : decode cX6_lifts 34 = .ok (.goto 14, 3) := by decide +kernel
theorem dX6_lifts_37 : decode cX6_lifts 37 = .ok (.aload_n 0, 1) := by decide +kernel
theorem dX6_lifts_38 : decode cX6_lifts 38 = .ok (.getfield 12, 3) := by decide +kernel
theorem dX6_lifts_41 : decode cX6_lifts 41 = .ok (.iload_n 3, 1) := by decide +kernel
theorem dX6_lifts_42 : decode cX6_lifts 42 = .ok (.invokevirtual 121, 3) := by decide +kernel
theorem dX6_lifts_45 : decode cX6_lifts 45 = .ok (.invokestatic 125, 3) := by decide +kernel
theorem dX6_lifts_48 : decode cX6_lifts 48 = .ok (.ireturn, 1) := by decide +kernel
theorem dX6_fast_0 : decode cX6_fast 0 = .ok (.iload_n 1, 1) := by decide +kernel
theorem dX6_fast_1 : decode cX6_fast 1 = .ok (.invokestatic 177, 3) := by decide +kernel
theorem dX6_fast_4 : decode cX6_fast 4 = .ok (.ifCond .eq 10, 3) := by decide +kernel
theorem dX6_fast_7 : decode cX6_fast 7 = .ok (.iload_n 2, 1) := by decide +kernel
theorem dX6_fast_8 : decode cX6_fast 8 = .ok (.invokestatic 135, 3) := by decide +kernel
theorem dX6_fast_11 : decode cX6_fast 11 = .ok (.ifCond .ne 9, 3) := by decide +kernel
theorem dX6_fast_14 : decode cX6_fast 14 = .ok (.aload_n 0, 1) := by decide +kernel
theorem dX6_fast_15 : decode cX6_fast 15 = .ok (.iconst 1, 1) := by decide +kernel
theorem dX6_fast_16 : decode cX6_fast 16 = .ok (.invokevirtual 58, 3) := by decide +kernel
theorem dX6_fast_19 : decode cX6_fast 19 = .ok (.ireturn, 1) := by decide +kernel
theorem dX6_fast_20 : decode cX6_fast 20 = .ok (.aload_n 0, 1) := by decide +kernel
theorem dX6_fast_21 : decode cX6_fast 21 = .ok (.getfield 12, 3) := by decide +kernel
theorem dX6_fast_24 : decode cX6_fast 24 = .ok (.iload_n 1, 1) := by decide +kernel
theorem dX6_fast_25 : decode cX6_fast 25 = .ok (.invokevirtual 217, 3) := by decide +kernel
theorem dX6_fast_28 : decode cX6_fast 28 = .ok (.istore_n 3, 1) := by decide +kernel
theorem dX6_fast_29 : decode cX6_fast 29 = .ok (.iload_n 2, 1) := by decide +kernel
theorem dX6_fast_30 : decode cX6_fast 30 = .ok (.ifCond .ne 10, 3) := by decide +kernel
theorem dX6_fast_33 : decode cX6_fast 33 = .ok (.iload_n 3, 1) := by decide +kernel
theorem dX6_fast_34 : decode cX6_fast 34 = .ok (.invokestatic 220, 3) := by decide +kernel
theorem dX6_fast_37 : decode cX6_fast 37 = .ok (.goto 4, 3) := by decide +kernel
theorem dX6_fast_40 : decode cX6_fast 40 = .ok (.iload_n 3, 1) := by decide +kernel
theorem dX6_fast_41 : decode cX6_fast 41 = .ok (.ireturn, 1) := by decide +kernel
theorem dX6_best_0 : decode cX6_best 0 = .ok (.aload_n 0, 1) := by decide +kernel
theorem dX6_best_1 : decode cX6_best 1 = .ok (.iload_n 1, 1) := by decide +kernel
theorem dX6_best_2 : decode cX6_best 2 = .ok (.invokevirtual 72, 3) := by decide +kernel
theorem dX6_best_5 : decode cX6_best 5 = .ok (.ifCond .eq 10, 3) := by decide +kernel
theorem dX6_best_8 : decode cX6_best 8 = .ok (.iload_n 2, 1) := by decide +kernel
theorem dX6_best_9 : decode cX6_best 9 = .ok (.invokestatic 135, 3) := by decide +kernel
theorem dX6_best_12 : decode cX6_best 12 = .ok (.ifCond .ne 9, 3) := by decide +kernel
theorem dX6_best_15 : decode cX6_best 15 = .ok (.aload_n 0, 1) := by decide +kernel
theorem dX6_best_16 : decode cX6_best 16 = .ok (.iconst 1, 1) := by decide +kernel
theorem dX6_best_17 : decode cX6_best 17 = .ok (.invokevirtual 58, 3) := by decide +kernel
theorem dX6_best_20 : decode cX6_best 20 = .ok (.ireturn, 1) := by decide +kernel
theorem dX6_best_21 : decode cX6_best 21 = .ok (.aload_n 0, 1) := by decide +kernel
theorem dX6_best_22 : decode cX6_best 22 = .ok (.getfield 12, 3) := by decide +kernel
theorem dX6_best_25 : decode cX6_best 25 = .ok (.iload_n 1, 1) := by decide +kernel
theorem dX6_best_26 : decode cX6_best 26 = .ok (.invokevirtual 224, 3) := by decide +kernel
theorem dX6_best_29 : decode cX6_best 29 = .ok (.istore_n 3, 1) := by decide +kernel
theorem dX6_best_30 : decode cX6_best 30 = .ok (.iload_n 3, 1) := by decide +kernel
theorem dX6_best_31 : decode cX6_best 31 = .ok (.ifCond .ge 9, 3) := by decide +kernel
theorem dX6_best_34 : decode cX6_best 34 = .ok (.aload_n 0, 1) := by decide +kernel
theorem dX6_best_35 : decode cX6_best 35 = .ok (.iconst 2, 1) := by decide +kernel
theorem dX6_best_36 : decode cX6_best 36 = .ok (.invokevirtual 58, 3) := by decide +kernel
theorem dX6_best_39 : decode cX6_best 39 = .ok (.ireturn, 1) := by decide +kernel
theorem dX6_best_40 : decode cX6_best 40 = .ok (.iload_n 2, 1) := by decide +kernel
theorem dX6_best_41 : decode cX6_best 41 = .ok (.ifCond .ne 7, 3) := by decide +kernel
theorem dX6_best_44 : decode cX6_best 44 = .ok (.iload_n 3, 1) := by decide +kernel
theorem dX6_best_45 : decode cX6_best 45 = .ok (.goto 12, 3) := by decide +kernel
theorem dX6_best_48 : decode cX6_best 48 = .ok (.aload_n 0, 1) := by decide +kernel
theorem dX6_best_49 : decode cX6_best 49 = .ok (.getfield 12, 3) := by decide +kernel
theorem dX6_best_52 : decode cX6_best 52 = .ok (.iload_n 1, 1) := by decide +kernel
theorem dX6_best_53 : decode cX6_best 53 = .ok (.iload_n 3, 1) := by decide +kernel
theorem dX6_best_54 : decode cX6_best 54 = .ok (.invokevirtual 227, 3) := by decide +kernel
theorem dX6_best_57 : decode cX6_best 57 = .ok (.ireturn, 1) := by decide +kernel
theorem dX6_rings_0 : decode cX6_rings 0 = .ok (.aload_n 0, 1) := by decide +kernel
theorem dX6_rings_1 : decode cX6_rings 1 = .ok (.getfield 12, 3) := by decide +kernel
theorem dX6_rings_4 : decode cX6_rings 4 = .ok (.invokevirtual 230, 3) := by decide +kernel
theorem dX6_rings_7 : decode cX6_rings 7 = .ok (.ireturn, 1) := by decide +kernel
theorem dX6_odds_0 : decode cX6_odds 0 = .ok (.iload_n 1, 1) := by decide +kernel
theorem dX6_odds_1 : decode cX6_odds 1 = .ok (.invokestatic 208, 3) := by decide +kernel
theorem dX6_odds_4 : decode cX6_odds 4 = .ok (.ifCond .eq 10, 3) := by decide +kernel
theorem dX6_odds_7 : decode cX6_odds 7 = .ok (.iload_n 2, 1) := by decide +kernel
theorem dX6_odds_8 : decode cX6_odds 8 = .ok (.invokestatic 135, 3) := by decide +kernel
theorem dX6_odds_11 : decode cX6_odds 11 = .ok (.ifCond .ne 9, 3) := by decide +kernel
theorem dX6_odds_14 : decode cX6_odds 14 = .ok (.aload_n 0, 1) := by decide +kernel
theorem dX6_odds_15 : decode cX6_odds 15 = .ok (.iconst 1, 1) := by decide +kernel
theorem dX6_odds_16 : decode cX6_odds 16 = .ok (.invokevirtual 58, 3) := by decide +kernel
theorem dX6_odds_19 : decode cX6_odds 19 = .ok (.ireturn, 1) := by decide +kernel
theorem dX6_odds_20 : decode cX6_odds 20 = .ok (.iconst 0, 1) := by decide +kernel
theorem dX6_odds_21 : decode cX6_odds 21 = .ok (.istore_n 3, 1) := by decide +kernel
theorem dX6_odds_22 : decode cX6_odds 22 = .ok (.iconst 0, 1) := by decide +kernel
theorem dX6_odds_23 : decode cX6_odds 23 = .ok (.istore 4, 2) := by decide +kernel
theorem dX6_odds_25 : decode cX6_odds 25 = .ok (.iload 4, 2) := by decide +kernel
theorem dX6_odds_27 : decode cX6_odds 27 = .ok (.bipush 40, 2) := by decide +kernel
theorem dX6_odds_29 : decode cX6_odds 29 = .ok (.if_icmp .ge 33, 3) := by decide +kernel
theorem dX6_odds_32 : decode cX6_odds 32 = .ok (.iload_n 3, 1) := by decide +kernel
theorem dX6_odds_33 : decode cX6_odds 33 = .ok (.aload_n 0, 1) := by decide +kernel
theorem dX6_odds_34 : decode cX6_odds 34 = .ok (.getfield 12, 3) := by decide +kernel
theorem dX6_odds_37 : decode cX6_odds 37 = .ok (.aload_n 0, 1) := by decide +kernel
theorem dX6_odds_38 : decode cX6_odds 38 = .ok (.getfield 12, 3) := by decide +kernel
theorem dX6_odds_41 : decode cX6_odds 41 = .ok (.iload 4, 2) := by decide +kernel
theorem dX6_odds_43 : decode cX6_odds 43 = .ok (.invokevirtual 180, 3) := by decide +kernel
theorem dX6_odds_46 : decode cX6_odds 46 = .ok (.invokevirtual 121, 3) := by decide +kernel
theorem dX6_odds_49 : decode cX6_odds 49 = .ok (.iload_n 1, 1) := by decide +kernel
theorem dX6_odds_50 : decode cX6_odds 50 = .ok (.lushr, 1) := by decide +kernel
theorem dX6_odds_51 : decode cX6_odds 51 = .ok (.lconst 1, 1) := by decide +kernel
theorem dX6_odds_52 : decode cX6_odds 52 = .ok (.land, 1) := by decide +kernel
theorem dX6_odds_53 : decode cX6_odds 53 = .ok (.l2i, 1) := by decide +kernel
theorem dX6_odds_54 : decode cX6_odds 54 = .ok (.iadd, 1) := by decide +kernel
theorem dX6_odds_55 : decode cX6_odds 55 = .ok (.istore_n 3, 1) := by decide +kernel
theorem dX6_odds_56 : decode cX6_odds 56 = .ok (.iinc 4 1, 3) := by decide +kernel
theorem dX6_odds_59 : decode cX6_odds 59 = .ok (.goto (-34), 3) := by decide +kernel
theorem dX6_odds_62 : decode cX6_odds 62 = .ok (.bipush 40, 2) := by decide +kernel
theorem dX6_odds_64 : decode cX6_odds 64 = .ok (.iload_n 3, 1) := by decide +kernel
theorem dX6_odds_65 : decode cX6_odds 65 = .ok (.invokestatic 233, 3) := by decide +kernel
theorem dX6_odds_68 : decode cX6_odds 68 = .ok (.istore 4, 2) := by decide +kernel
theorem dX6_odds_70 : decode cX6_odds 70 = .ok (.iload 4, 2) := by decide +kernel
theorem dX6_odds_72 : decode cX6_odds 72 = .ok (.ifCond .gt 5, 3) := by decide +kernel
theorem dX6_odds_75 : decode cX6_odds 75 = .ok (.iconst 0, 1) := by decide +kernel
theorem dX6_odds_76 : decode cX6_odds 76 = .ok (.ireturn, 1) := by decide +kernel
theorem dX6_odds_77 : decode cX6_odds 77 = .ok (.iload_n 2, 1) := by decide +kernel
theorem dX6_odds_78 : decode cX6_odds 78 = .ok (.ifCond .ne 7, 3) := by decide +kernel
theorem dX6_odds_81 : decode cX6_odds 81 = .ok (.iload_n 3, 1) := by decide +kernel
theorem dX6_odds_82 : decode cX6_odds 82 = .ok (.goto 5, 3) := by decide +kernel
theorem dX6_odds_85 : decode cX6_odds 85 = .ok (.bipush 40, 2) := by decide +kernel
theorem dX6_odds_87 : decode cX6_odds 87 = .ok (.iload 4, 2) := by decide +kernel
theorem dX6_odds_89 : decode cX6_odds 89 = .ok (.idiv, 1) := by decide +kernel
theorem dX6_odds_90 : decode cX6_odds 90 = .ok (.ireturn, 1) := by decide +kernel
theorem dX6_fits_0 : decode cX6_fits 0 = .ok (.iload_n 1, 1) := by decide +kernel
theorem dX6_fits_1 : decode cX6_fits 1 = .ok (.invokestatic 236, 3) := by decide +kernel
theorem dX6_fits_4 : decode cX6_fits 4 = .ok (.ifCond .eq 10, 3) := by decide +kernel
theorem dX6_fits_7 : decode cX6_fits 7 = .ok (.iload_n 2, 1) := by decide +kernel
theorem dX6_fits_8 : decode cX6_fits 8 = .ok (.invokestatic 135, 3) := by decide +kernel
theorem dX6_fits_11 : decode cX6_fits 11 = .ok (.ifCond .ne 9, 3) := by decide +kernel
theorem dX6_fits_14 : decode cX6_fits 14 = .ok (.aload_n 0, 1) := by decide +kernel
theorem dX6_fits_15 : decode cX6_fits 15 = .ok (.iconst 1, 1) := by decide +kernel
theorem dX6_fits_16 : decode cX6_fits 16 = .ok (.invokevirtual 58, 3) := by decide +kernel
theorem dX6_fits_19 : decode cX6_fits 19 = .ok (.ireturn, 1) := by decide +kernel
theorem dX6_fits_20 : decode cX6_fits 20 = .ok (.aload_n 0, 1) := by decide +kernel
theorem dX6_fits_21 : decode cX6_fits 21 = .ok (.getfield 39, 3) := by decide +kernel
theorem dX6_fits_24 : decode cX6_fits 24 = .ok (.iload_n 1, 1) := by decide +kernel
theorem dX6_fits_25 : decode cX6_fits 25 = .ok (.aaload, 1) := by decide +kernel
theorem dX6_fits_26 : decode cX6_fits 26 = .ok (.invokevirtual 239, 3) := by decide +kernel
theorem dX6_fits_29 : decode cX6_fits 29 = .ok (.ifCond .eq 9, 3) := by decide +kernel
theorem dX6_fits_32 : decode cX6_fits 32 = .ok (.aload_n 0, 1) := by decide +kernel
theorem dX6_fits_33 : decode cX6_fits 33 = .ok (.iconst 2, 1) := by decide +kernel
theorem dX6_fits_34 : decode cX6_fits 34 = .ok (.invokevirtual 58, 3) := by decide +kernel
theorem dX6_fits_37 : decode cX6_fits 37 = .ok (.ireturn, 1) := by decide +kernel
theorem dX6_fits_38 : decode cX6_fits 38 = .ok (.iconst 0, 1) := by decide +kernel
theorem dX6_fits_39 : decode cX6_fits 39 = .ok (.istore_n 3, 1) := by decide +kernel
theorem dX6_fits_40 : decode cX6_fits 40 = .ok (.iconst (-1), 1) := by decide +kernel
theorem dX6_fits_41 : decode cX6_fits 41 = .ok (.istore 4, 2) := by decide +kernel
theorem dX6_fits_43 : decode cX6_fits 43 = .ok (.bipush 40, 2) := by decide +kernel
theorem dX6_fits_45 : decode cX6_fits 45 = .ok (.istore 5, 2) := by decide +kernel
theorem dX6_fits_47 : decode cX6_fits 47 = .ok (.iload 5, 2) := by decide +kernel
theorem dX6_fits_49 : decode cX6_fits 49 = .ok (.ifCond .lt 44, 3) := by decide +kernel
theorem dX6_fits_52 : decode cX6_fits 52 = .ok (.aload_n 0, 1) := by decide +kernel
theorem dX6_fits_53 : decode cX6_fits 53 = .ok (.getfield 39, 3) := by decide +kernel
theorem dX6_fits_56 : decode cX6_fits 56 = .ok (.iload_n 1, 1) := by decide +kernel
theorem dX6_fits_57 : decode cX6_fits 57 = .ok (.aaload, 1) := by decide +kernel
theorem dX6_fits_58 : decode cX6_fits 58 = .ok (.aload_n 0, 1) := by decide +kernel
theorem dX6_fits_59 : decode cX6_fits 59 = .ok (.getfield 12, 3) := by decide +kernel
theorem dX6_fits_62 : decode cX6_fits 62 = .ok (.aload_n 0, 1) := by decide +kernel
theorem dX6_fits_63 : decode cX6_fits 63 = .ok (.getfield 12, 3) := by decide +kernel
theorem dX6_fits_66 : decode cX6_fits 66 = .ok (.iload 5, 2) := by decide +kernel
theorem dX6_fits_68 : decode cX6_fits 68 = .ok (.invokevirtual 180, 3) := by decide +kernel
theorem dX6_fits_71 : decode cX6_fits 71 = .ok (.invokevirtual 121, 3) := by decide +kernel
theorem dX6_fits_74 : decode cX6_fits 74 = .ok (.invokevirtual 242, 3) := by decide +kernel
theorem dX6_fits_77 : decode cX6_fits 77 = .ok (.ifCond .eq 10, 3) := by decide +kernel
theorem dX6_fits_80 : decode cX6_fits 80 = .ok (.iinc 3 1, 3) := by decide +kernel
theorem dX6_fits_83 : decode cX6_fits 83 = .ok (.iload 5, 2) := by decide +kernel
theorem dX6_fits_85 : decode cX6_fits 85 = .ok (.istore 4, 2) := by decide +kernel
theorem dX6_fits_87 : decode cX6_fits 87 = .ok (.iinc 5 (-1), 3) := by decide +kernel
theorem dX6_fits_90 : decode cX6_fits 90 = .ok (.goto (-43), 3) := by decide +kernel
theorem dX6_fits_93 : decode cX6_fits 93 = .ok (.iload_n 2, 1) := by decide +kernel
theorem dX6_fits_94 : decode cX6_fits 94 = .ok (.ifCond .ne 5, 3) := by decide +kernel
theorem dX6_fits_97 : decode cX6_fits 97 = .ok (.iload_n 3, 1) := by decide +kernel
theorem dX6_fits_98 : decode cX6_fits 98 = .ok (.ireturn, 1) := by decide +kernel
theorem dX6_fits_99 : decode cX6_fits 99 = .ok (.iload 4, 2) := by decide +kernel
theorem dX6_fits_101 : decode cX6_fits 101 = .ok (.ifCond .ge 11, 3) := by decide +kernel
theorem dX6_fits_104 : decode cX6_fits 104 = .ok (.aload_n 0, 1) := by decide +kernel
theorem dX6_fits_105 : decode cX6_fits 105 = .ok (.iconst 2, 1) := by decide +kernel
theorem dX6_fits_106 : decode cX6_fits 106 = .ok (.invokevirtual 58, 3) := by decide +kernel
theorem dX6_fits_109 : decode cX6_fits 109 = .ok (.goto 5, 3) := by decide +kernel
theorem dX6_fits_112 : decode cX6_fits 112 = .ok (.iload 4, 2) := by decide +kernel
theorem dX6_fits_114 : decode cX6_fits 114 = .ok (.ireturn, 1) := by decide +kernel
theorem dX6_voice_0 : decode cX6_voice 0 = .ok (.aload_n 0, 1) := by decide +kernel
theorem dX6_voice_1 : decode cX6_voice 1 = .ok (.iload_n 1, 1) := by decide +kernel
theorem dX6_voice_2 : decode cX6_voice 2 = .ok (.invokevirtual 72, 3) := by decide +kernel
theorem dX6_voice_5 : decode cX6_voice 5 = .ok (.ifCond .eq 12, 3) := by decide +kernel
theorem dX6_voice_8 : decode cX6_voice 8 = .ok (.iload_n 2, 1) := by decide +kernel
theorem dX6_voice_9 : decode cX6_voice 9 = .ok (.ifCond .lt 8, 3) := by decide +kernel
theorem dX6_voice_12 : decode cX6_voice 12 = .ok (.iload_n 2, 1) := by decide +kernel
theorem dX6_voice_13 : decode cX6_voice 13 = .ok (.iconst 3, 1) := by decide +kernel
theorem dX6_voice_14 : decode cX6_voice 14 = .ok (.if_icmp .le 9, 3) := by decide +kernel
theorem dX6_voice_17 : decode cX6_voice 17 = .ok (.aload_n 0, 1) := by decide +kernel
theorem dX6_voice_18 : decode cX6_voice 18 = .ok (.iconst 1, 1) := by decide +kernel
theorem dX6_voice_19 : decode cX6_voice 19 = .ok (.invokevirtual 58, 3) := by decide +kernel
theorem dX6_voice_22 : decode cX6_voice 22 = .ok (.ireturn, 1) := by decide +kernel
theorem dX6_voice_23 : decode cX6_voice 23 = .ok (.aload_n 0, 1) := by decide +kernel
theorem dX6_voice_24 : decode cX6_voice 24 = .ok (.getfield 33, 3) := by decide +kernel
theorem dX6_voice_27 : decode cX6_voice 27 = .ok (.aload_n 0, 1) := by decide +kernel
theorem dX6_voice_28 : decode cX6_voice 28 = .ok (.getfield 12, 3) := by decide +kernel
theorem dX6_voice_31 : decode cX6_voice 31 = .ok (.getfield 62, 3) := by decide +kernel
theorem dX6_voice_34 : decode cX6_voice 34 = .ok (.iload_n 1, 1) := by decide +kernel
theorem dX6_voice_35 : decode cX6_voice 35 = .ok (.aaload, 1) := by decide +kernel
theorem dX6_voice_36 : decode cX6_voice 36 = .ok (.iload_n 1, 1) := by decide +kernel
theorem dX6_voice_37 : decode cX6_voice 37 = .ok (.iload_n 2, 1) := by decide +kernel
theorem dX6_voice_38 : decode cX6_voice 38 = .ok (.iload_n 3, 1) := by decide +kernel
theorem dX6_voice_39 : decode cX6_voice 39 = .ok (.invokevirtual 246, 3) := by decide +kernel
theorem dX6_voice_42 : decode cX6_voice 42 = .ok (.istore 4, 2) := by decide +kernel
theorem dX6_voice_44 : decode cX6_voice 44 = .ok (.aload_n 0, 1) := by decide +kernel
theorem dX6_voice_45 : decode cX6_voice 45 = .ok (.getfield 33, 3) := by decide +kernel
theorem dX6_voice_48 : decode cX6_voice 48 = .ok (.getfield 250, 3) := by decide +kernel
theorem dX6_voice_51 : decode cX6_voice 51 = .ok (.ifCond .eq 12, 3) := by decide +kernel
theorem dX6_voice_54 : decode cX6_voice 54 = .ok (.aload_n 0, 1) := by decide +kernel
theorem dX6_voice_55 : decode cX6_voice 55 = .ok (.bipush 6, 2) := by decide +kernel
theorem dX6_voice_57 : decode cX6_voice 57 = .ok (.invokevirtual 58, 3) := by decide +kernel
theorem dX6_voice_60 : decode cX6_voice 60 = .ok (.goto 5, 3) := by decide +kernel
theorem dX6_voice_63 : decode cX6_voice 63 = .ok (.iload 4, 2) := by decide +kernel
theorem dX6_voice_65 : decode cX6_voice 65 = .ok (.ireturn, 1) := by decide +kernel
theorem dX6_body_0 : decode cX6_body 0 = .ok (.iload_n 1, 1) := by decide +kernel
theorem dX6_body_1 : decode cX6_body 1 = .ok (.ifCond .lt 14, 3) := by decide +kernel
theorem dX6_body_4 : decode cX6_body 4 = .ok (.iload_n 1, 1) := by decide +kernel
theorem dX6_body_5 : decode cX6_body 5 = .ok (.aload_n 0, 1) := by decide +kernel
theorem dX6_body_6 : decode cX6_body 6 = .ok (.getfield 33, 3) := by decide +kernel
theorem dX6_body_9 : decode cX6_body 9 = .ok (.getfield 253, 3) := by decide +kernel
theorem dX6_body_12 : decode cX6_body 12 = .ok (.if_icmp .lt 11, 3) := by decide +kernel
theorem dX6_body_15 : decode cX6_body 15 = .ok (.aload_n 0, 1) := by decide +kernel
theorem dX6_body_16 : decode cX6_body 16 = .ok (.iconst 2, 1) := by decide +kernel
theorem dX6_body_17 : decode cX6_body 17 = .ok (.invokevirtual 58, 3) := by decide +kernel
theorem dX6_body_20 : decode cX6_body 20 = .ok (.goto 12, 3) := by decide +kernel
theorem dX6_body_23 : decode cX6_body 23 = .ok (.aload_n 0, 1) := by decide +kernel
theorem dX6_body_24 : decode cX6_body 24 = .ok (.getfield 33, 3) := by decide +kernel
theorem dX6_body_27 : decode cX6_body 27 = .ok (.getfield 254, 3) := by decide +kernel
theorem dX6_body_30 : decode cX6_body 30 = .ok (.iload_n 1, 1) := by decide +kernel
theorem dX6_body_31 : decode cX6_body 31 = .ok (.iaload, 1) := by decide +kernel
theorem dX6_body_32 : decode cX6_body 32 = .ok (.ireturn, 1) := by decide +kernel
theorem dX6_sheet_0 : decode cX6_sheet 0 = .ok (.iload_n 1, 1) := by decide +kernel
theorem dX6_sheet_1 : decode cX6_sheet 1 = .ok (.invokestatic 236, 3) := by decide +kernel
theorem dX6_sheet_4 : decode cX6_sheet 4 = .ok (.ifCond .eq 25, 3) := by decide +kernel
theorem dX6_sheet_7 : decode cX6_sheet 7 = .ok (.iload_n 2, 1) := by decide +kernel
theorem dX6_sheet_8 : decode cX6_sheet 8 = .ok (.ifCond .eq 27, 3) := by decide +kernel
theorem dX6_sheet_11 : decode cX6_sheet 11 = .ok (.iload_n 2, 1) := by decide +kernel
theorem dX6_sheet_12 : decode cX6_sheet 12 = .ok (.bipush 8, 2) := by decide +kernel
theorem dX6_sheet_14 : decode cX6_sheet 14 = .ok (.if_icmp .eq 21, 3) := by decide +kernel
theorem dX6_sheet_17 : decode cX6_sheet 17 = .ok (.iload_n 2, 1) := by decide +kernel
theorem dX6_sheet_18 : decode cX6_sheet 18 = .ok (.bipush 16, 2) := by decide +kernel
theorem dX6_sheet_20 : decode cX6_sheet 20 = .ok (.if_icmp .eq 15, 3) := by decide +kernel
theorem dX6_sheet_23 : decode cX6_sheet 23 = .ok (.iload_n 2, 1) := by decide +kernel
theorem dX6_sheet_24 : decode cX6_sheet 24 = .ok (.bipush 32, 2) := by decide +kernel
theorem dX6_sheet_26 : decode cX6_sheet 26 = .ok (.if_icmp .eq 9, 3) := by decide +kernel
theorem dX6_sheet_29 : decode cX6_sheet 29 = .ok (.aload_n 0, 1) := by decide +kernel
theorem dX6_sheet_30 : decode cX6_sheet 30 = .ok (.iconst 1, 1) := by decide +kernel
theorem dX6_sheet_31 : decode cX6_sheet 31 = .ok (.invokevirtual 58, 3) := by decide +kernel
theorem dX6_sheet_34 : decode cX6_sheet 34 = .ok (.ireturn, 1) := by decide +kernel
theorem dX6_sheet_35 : decode cX6_sheet 35 = .ok (.iload_n 2, 1) := by decide +kernel
theorem dX6_sheet_36 : decode cX6_sheet 36 = .ok (.ifCond .eq 13, 3) := by decide +kernel
theorem dX6_sheet_39 : decode cX6_sheet 39 = .ok (.iload_n 3, 1) := by decide +kernel
theorem dX6_sheet_40 : decode cX6_sheet 40 = .ok (.ifCond .ge 9, 3) := by decide +kernel
theorem dX6_sheet_43 : decode cX6_sheet 43 = .ok (.aload_n 0, 1) := by decide +kernel
theorem dX6_sheet_44 : decode cX6_sheet 44 = .ok (.iconst 3, 1) := by decide +kernel
theorem dX6_sheet_45 : decode cX6_sheet 45 = .ok (.invokevirtual 58, 3) := by decide +kernel
theorem dX6_sheet_48 : decode cX6_sheet 48 = .ok (.ireturn, 1) := by decide +kernel
theorem dX6_sheet_49 : decode cX6_sheet 49 = .ok (.iload_n 2, 1) := by decide +kernel
theorem dX6_sheet_50 : decode cX6_sheet 50 = .ok (.ifCond .eq 15, 3) := by decide +kernel
theorem dX6_sheet_53 : decode cX6_sheet 53 = .ok (.iload_n 3, 1) := by decide +kernel
theorem dX6_sheet_54 : decode cX6_sheet 54 = .ok (.bipush 24, 2) := by decide +kernel
theorem dX6_sheet_56 : decode cX6_sheet 56 = .ok (.if_icmp .le 9, 3) := by decide +kernel
theorem dX6_sheet_59 : decode cX6_sheet 59 = .ok (.aload_n 0, 1) := by decide +kernel
theorem dX6_sheet_60 : decode cX6_sheet 60 = .ok (.iconst 1, 1) := by decide +kernel
theorem dX6_sheet_61 : decode cX6_sheet 61 = .ok (.invokevirtual 58, 3) := by decide +kernel
theorem dX6_sheet_64 : decode cX6_sheet 64 = .ok (.ireturn, 1) := by decide +kernel
theorem dX6_sheet_65 : decode cX6_sheet 65 = .ok (.aload_n 0, 1) := by decide +kernel
theorem dX6_sheet_66 : decode cX6_sheet 66 = .ok (.getfield 39, 3) := by decide +kernel
theorem dX6_sheet_69 : decode cX6_sheet 69 = .ok (.iload_n 1, 1) := by decide +kernel
theorem dX6_sheet_70 : decode cX6_sheet 70 = .ok (.aaload, 1) := by decide +kernel
theorem dX6_sheet_71 : decode cX6_sheet 71 = .ok (.iload_n 2, 1) := by decide +kernel
theorem dX6_sheet_72 : decode cX6_sheet 72 = .ok (.iload_n 2, 1) := by decide +kernel
theorem dX6_sheet_73 : decode cX6_sheet 73 = .ok (.ifCond .ne 7, 3) := by decide +kernel
theorem dX6_sheet_76 : decode cX6_sheet 76 = .ok (.iconst 0, 1) := by decide +kernel
theorem dX6_sheet_77 : decode cX6_sheet 77 = .ok (.goto 4, 3) := by decide +kernel
theorem dX6_sheet_80 : decode cX6_sheet 80 = .ok (.iload_n 3, 1) := by decide +kernel
theorem dX6_sheet_81 : decode cX6_sheet 81 = .ok (.invokevirtual 257, 3) := by decide +kernel
theorem dX6_sheet_84 : decode cX6_sheet 84 = .ok (.iconst 1, 1) := by decide +kernel
theorem dX6_sheet_85 : decode cX6_sheet 85 = .ok (.ireturn, 1) := by decide +kernel
theorem dX6_put_0 : decode cX6_put 0 = .ok (.iload_n 1, 1) := by decide +kernel
theorem dX6_put_1 : decode cX6_put 1 = .ok (.invokestatic 236, 3) := by decide +kernel
theorem dX6_put_4 : decode cX6_put 4 = .ok (.ifCond .ne 9, 3) := by decide +kernel
theorem dX6_put_7 : decode cX6_put 7 = .ok (.aload_n 0, 1) := by decide +kernel
theorem dX6_put_8 : decode cX6_put 8 = .ok (.iconst 1, 1) := by decide +kernel
theorem dX6_put_9 : decode cX6_put 9 = .ok (.invokevirtual 58, 3) := by decide +kernel
theorem dX6_put_12 : decode cX6_put 12 = .ok (.ireturn, 1) := by decide +kernel
theorem dX6_put_13 : decode cX6_put 13 = .ok (.aload_n 0, 1) := by decide +kernel
theorem dX6_put_14 : decode cX6_put 14 = .ok (.getfield 39, 3) := by decide +kernel
theorem dX6_put_17 : decode cX6_put 17 = .ok (.iload_n 1, 1) := by decide +kernel
theorem dX6_put_18 : decode cX6_put 18 = .ok (.aaload, 1) := by decide +kernel
theorem dX6_put_19 : decode cX6_put 19 = .ok (.invokevirtual 239, 3) := by decide +kernel
theorem dX6_put_22 : decode cX6_put 22 = .ok (.ifCond .eq 9, 3) := by decide +kernel
theorem dX6_put_25 : decode cX6_put 25 = .ok (.aload_n 0, 1) := by decide +kernel
theorem dX6_put_26 : decode cX6_put 26 = .ok (.iconst 2, 1) := by decide +kernel
theorem dX6_put_27 : decode cX6_put 27 = .ok (.invokevirtual 58, 3) := by decide +kernel
theorem dX6_put_30 : decode cX6_put 30 = .ok (.ireturn, 1) := by decide +kernel
theorem dX6_put_31 : decode cX6_put 31 = .ok (.iload_n 2, 1) := by decide +kernel
theorem dX6_put_32 : decode cX6_put 32 = .ok (.ifCond .lt 16, 3) := by decide +kernel
theorem dX6_put_35 : decode cX6_put 35 = .ok (.iload_n 2, 1) := by decide +kernel
theorem dX6_put_36 : decode cX6_put 36 = .ok (.aload_n 0, 1) := by decide +kernel
theorem dX6_put_37 : decode cX6_put 37 = .ok (.getfield 39, 3) := by decide +kernel
theorem dX6_put_40 : decode cX6_put 40 = .ok (.iload_n 1, 1) := by decide +kernel
theorem dX6_put_41 : decode cX6_put 41 = .ok (.aaload, 1) := by decide +kernel
theorem dX6_put_42 : decode cX6_put 42 = .ok (.getfield 260, 3) := by decide +kernel
theorem dX6_put_45 : decode cX6_put 45 = .ok (.if_icmp .lt 9, 3) := by decide +kernel
theorem dX6_put_48 : decode cX6_put 48 = .ok (.aload_n 0, 1) := by decide +kernel
theorem dX6_put_49 : decode cX6_put 49 = .ok (.iconst 1, 1) := by decide +kernel
theorem dX6_put_50 : decode cX6_put 50 = .ok (.invokevirtual 58, 3) := by decide +kernel
theorem dX6_put_53 : decode cX6_put 53 = .ok (.ireturn, 1) := by decide +kernel
theorem dX6_put_54 : decode cX6_put 54 = .ok (.aload_n 0, 1) := by decide +kernel
theorem dX6_put_55 : decode cX6_put 55 = .ok (.getfield 39, 3) := by decide +kernel
theorem dX6_put_58 : decode cX6_put 58 = .ok (.iload_n 1, 1) := by decide +kernel
theorem dX6_put_59 : decode cX6_put 59 = .ok (.aaload, 1) := by decide +kernel
theorem dX6_put_60 : decode cX6_put 60 = .ok (.iload_n 2, 1) := by decide +kernel
theorem dX6_put_61 : decode cX6_put 61 = .ok (.iload_n 3, 1) := by decide +kernel
theorem dX6_put_62 : decode cX6_put 62 = .ok (.invokevirtual 261, 3) := by decide +kernel
theorem dX6_put_65 : decode cX6_put 65 = .ok (.iconst 1, 1) := by decide +kernel
theorem dX6_put_66 : decode cX6_put 66 = .ok (.ireturn, 1) := by decide +kernel
theorem dX6_move_0 : decode cX6_move 0 = .ok (.iload_n 1, 1) := by decide +kernel
theorem dX6_move_1 : decode cX6_move 1 = .ok (.invokestatic 236, 3) := by decide +kernel
theorem dX6_move_4 : decode cX6_move 4 = .ok (.ifCond .eq 10, 3) := by decide +kernel
theorem dX6_move_7 : decode cX6_move 7 = .ok (.iload_n 3, 1) := by decide +kernel
theorem dX6_move_8 : decode cX6_move 8 = .ok (.invokestatic 236, 3) := by decide +kernel
theorem dX6_move_11 : decode cX6_move 11 = .ok (.ifCond .ne 9, 3) := by decide +kernel
theorem dX6_move_14 : decode cX6_move 14 = .ok (.aload_n 0, 1) := by decide +kernel
theorem dX6_move_15 : decode cX6_move 15 = .ok (.iconst 1, 1) := by decide +kernel
theorem dX6_move_16 : decode cX6_move 16 = .ok (.invokevirtual 58, 3) := by decide +kernel
theorem dX6_move_19 : decode cX6_move 19 = .ok (.ireturn, 1) := by decide +kernel
theorem dX6_move_20 : decode cX6_move 20 = .ok (.aload_n 0, 1) := by decide +kernel
theorem dX6_move_21 : decode cX6_move 21 = .ok (.getfield 39, 3) := by decide +kernel
theorem dX6_move_24 : decode cX6_move 24 = .ok (.iload_n 1, 1) := by decide +kernel
theorem dX6_move_25 : decode cX6_move 25 = .ok (.aaload, 1) := by decide +kernel
theorem dX6_move_26 : decode cX6_move 26 = .ok (.astore 6, 2) := by decide +kernel
theorem dX6_move_28 : decode cX6_move 28 = .ok (.aload_n 0, 1) := by decide +kernel
theorem dX6_move_29 : decode cX6_move 29 = .ok (.getfield 39, 3) := by decide +kernel
theorem dX6_move_32 : decode cX6_move 32 = .ok (.iload_n 3, 1) := by decide +kernel
theorem dX6_move_33 : decode cX6_move 33 = .ok (.aaload, 1) := by decide +kernel
theorem dX6_move_34 : decode cX6_move 34 = .ok (.astore 7, 2) := by decide +kernel
theorem dX6_move_36 : decode cX6_move 36 = .ok (.aload 6, 2) := by decide +kernel
theorem dX6_move_38 : decode cX6_move 38 = .ok (.invokevirtual 239, 3) := by decide +kernel
theorem dX6_move_41 : decode cX6_move 41 = .ok (.ifCond .ne 11, 3) := by decide +kernel
theorem dX6_move_44 : decode cX6_move 44 = .ok (.aload 7, 2) := by decide +kernel
theorem dX6_move_46 : decode cX6_move 46 = .ok (.invokevirtual 239, 3) := by decide +kernel
theorem dX6_move_49 : decode cX6_move 49 = .ok (.ifCond .eq 9, 3) := by decide +kernel
theorem dX6_move_52 : decode cX6_move 52 = .ok (.aload_n 0, 1) := by decide +kernel
theorem dX6_move_53 : decode cX6_move 53 = .ok (.iconst 2, 1) := by decide +kernel
theorem dX6_move_54 : decode cX6_move 54 = .ok (.invokevirtual 58, 3) := by decide +kernel
theorem dX6_move_57 : decode cX6_move 57 = .ok (.ireturn, 1) := by decide +kernel
theorem dX6_move_58 : decode cX6_move 58 = .ok (.aload 6, 2) := by decide +kernel
theorem dX6_move_60 : decode cX6_move 60 = .ok (.getfield 264, 3) := by decide +kernel
theorem dX6_move_63 : decode cX6_move 63 = .ok (.aload 7, 2) := by decide +kernel
theorem dX6_move_65 : decode cX6_move 65 = .ok (.getfield 264, 3) := by decide +kernel
theorem dX6_move_68 : decode cX6_move 68 = .ok (.if_icmp .eq 9, 3) := by decide +kernel
theorem dX6_move_71 : decode cX6_move 71 = .ok (.aload_n 0, 1) := by decide +kernel
theorem dX6_move_72 : decode cX6_move 72 = .ok (.iconst 5, 1) := by decide +kernel
theorem dX6_move_73 : decode cX6_move 73 = .ok (.invokevirtual 58, 3) := by decide +kernel
theorem dX6_move_76 : decode cX6_move 76 = .ok (.ireturn, 1) := by decide +kernel
theorem dX6_move_77 : decode cX6_move 77 = .ok (.aload 6, 2) := by decide +kernel
theorem dX6_move_79 : decode cX6_move 79 = .ok (.iload_n 2, 1) := by decide +kernel
theorem dX6_move_80 : decode cX6_move 80 = .ok (.iload 5, 2) := by decide +kernel
theorem dX6_move_82 : decode cX6_move 82 = .ok (.invokevirtual 267, 3) := by decide +kernel
theorem dX6_move_85 : decode cX6_move 85 = .ok (.ifCond .eq 15, 3) := by decide +kernel
theorem dX6_move_88 : decode cX6_move 88 = .ok (.aload 7, 2) := by decide +kernel
theorem dX6_move_90 : decode cX6_move 90 = .ok (.iload 4, 2) := by decide +kernel
theorem dX6_move_92 : decode cX6_move 92 = .ok (.iload 5, 2) := by decide +kernel
theorem dX6_move_94 : decode cX6_move 94 = .ok (.invokevirtual 267, 3) := by decide +kernel
theorem dX6_move_97 : decode cX6_move 97 = .ok (.ifCond .ne 9, 3) := by decide +kernel
theorem dX6_move_100 : decode cX6_move 100 = .ok (.aload_n 0, 1) := by decide +kernel
theorem dX6_move_101 : decode cX6_move 101 = .ok (.iconst 1, 1) := by decide +kernel
theorem dX6_move_102 : decode cX6_move 102 = .ok (.invokevirtual 58, 3) := by decide +kernel
theorem dX6_move_105 : decode cX6_move 105 = .ok (.ireturn, 1) := by decide +kernel
theorem dX6_move_106 : decode cX6_move 106 = .ok (.aload 6, 2) := by decide +kernel
theorem dX6_move_108 : decode cX6_move 108 = .ok (.getfield 270, 3) := by decide +kernel
theorem dX6_move_111 : decode cX6_move 111 = .ok (.iload_n 2, 1) := by decide +kernel
theorem dX6_move_112 : decode cX6_move 112 = .ok (.aload 7, 2) := by decide +kernel
theorem dX6_move_114 : decode cX6_move 114 = .ok (.getfield 270, 3) := by decide +kernel
theorem dX6_move_117 : decode cX6_move 117 = .ok (.iload 4, 2) := by decide +kernel
theorem dX6_move_119 : decode cX6_move 119 = .ok (.iload 5, 2) := by decide +kernel
theorem dX6_move_121 : decode cX6_move 121 = .ok (.invokestatic 273, 3) := by decide +kernel
theorem dX6_move_124 : decode cX6_move 124 = .ok (.iload 5, 2) := by decide +kernel
theorem dX6_move_126 : decode cX6_move 126 = .ok (.ireturn, 1) := by decide +kernel
theorem dX6_nailed_0 : decode cX6_nailed 0 = .ok (.iload_n 1, 1) := by decide +kernel
theorem dX6_nailed_1 : decode cX6_nailed 1 = .ok (.invokestatic 236, 3) := by decide +kernel
theorem dX6_nailed_4 : decode cX6_nailed 4 = .ok (.ifCond .ne 9, 3) := by decide +kernel
theorem dX6_nailed_7 : decode cX6_nailed 7 = .ok (.aload_n 0, 1) := by decide +kernel
theorem dX6_nailed_8 : decode cX6_nailed 8 = .ok (.iconst 1, 1) := by decide +kernel
theorem dX6_nailed_9 : decode cX6_nailed 9 = .ok (.invokevirtual 58, 3) := by decide +kernel
theorem dX6_nailed_12 : decode cX6_nailed 12 = .ok (.ireturn, 1) := by decide +kernel
theorem dX6_nailed_13 : decode cX6_nailed 13 = .ok (.aload_n 0, 1) := by decide +kernel
theorem dX6_nailed_14 : decode cX6_nailed 14 = .ok (.getfield 39, 3) := by decide +kernel
theorem dX6_nailed_17 : decode cX6_nailed 17 = .ok (.iload_n 1, 1) := by decide +kernel
theorem dX6_nailed_18 : decode cX6_nailed 18 = .ok (.aaload, 1) := by decide +kernel
theorem dX6_nailed_19 : decode cX6_nailed 19 = .ok (.astore_n 2, 1) := by decide +kernel
theorem dX6_nailed_20 : decode cX6_nailed 20 = .ok (.aload_n 2, 1) := by decide +kernel
theorem dX6_nailed_21 : decode cX6_nailed 21 = .ok (.invokevirtual 239, 3) := by decide +kernel
theorem dX6_nailed_24 : decode cX6_nailed 24 = .ok (.ifCond .eq 9, 3) := by decide +kernel
theorem dX6_nailed_27 : decode cX6_nailed 27 = .ok (.aload_n 0, 1) := by decide +kernel
theorem dX6_nailed_28 : decode cX6_nailed 28 = .ok (.iconst 2, 1) := by decide +kernel
theorem dX6_nailed_29 : decode cX6_nailed 29 = .ok (.invokevirtual 58, 3) := by decide +kernel
theorem dX6_nailed_32 : decode cX6_nailed 32 = .ok (.ireturn, 1) := by decide +kernel
theorem dX6_nailed_33 : decode cX6_nailed 33 = .ok (.iconst 0, 1) := by decide +kernel
theorem dX6_nailed_34 : decode cX6_nailed 34 = .ok (.istore_n 3, 1) := by decide +kernel
theorem dX6_nailed_35 : decode cX6_nailed 35 = .ok (.iconst 0, 1) := by decide +kernel
theorem dX6_nailed_36 : decode cX6_nailed 36 = .ok (.istore 4, 2) := by decide +kernel
theorem dX6_nailed_38 : decode cX6_nailed 38 = .ok (.iload 4, 2) := by decide +kernel
theorem dX6_nailed_40 : decode cX6_nailed 40 = .ok (.aload_n 2, 1) := by decide +kernel
theorem dX6_nailed_41 : decode cX6_nailed 41 = .ok (.getfield 260, 3) := by decide +kernel
theorem dX6_nailed_44 : decode cX6_nailed 44 = .ok (.if_icmp .ge 57, 3) := by decide +kernel
theorem dX6_nailed_47 : decode cX6_nailed 47 = .ok (.iload 4, 2) := by decide +kernel
theorem dX6_nailed_49 : decode cX6_nailed 49 = .ok (.aload_n 0, 1) := by decide +kernel
theorem dX6_nailed_50 : decode cX6_nailed 50 = .ok (.getfield 12, 3) := by decide +kernel
theorem dX6_nailed_53 : decode cX6_nailed 53 = .ok (.getfield 55, 3) := by decide +kernel
theorem dX6_nailed_56 : decode cX6_nailed 56 = .ok (.if_icmp .ge 45, 3) := by decide +kernel
theorem dX6_nailed_59 : decode cX6_nailed 59 = .ok (.aload_n 2, 1) := by decide +kernel
theorem dX6_nailed_60 : decode cX6_nailed 60 = .ok (.getfield 270, 3) := by decide +kernel
theorem dX6_nailed_63 : decode cX6_nailed 63 = .ok (.iload 4, 2) := by decide +kernel
theorem dX6_nailed_65 : decode cX6_nailed 65 = .ok (.iaload, 1) := by decide +kernel
theorem dX6_nailed_66 : decode cX6_nailed 66 = .ok (.invokestatic 52, 3) := by decide +kernel
theorem dX6_nailed_69 : decode cX6_nailed 69 = .ok (.ifCond .eq 32, 3) := by decide +kernel
theorem dX6_nailed_72 : decode cX6_nailed 72 = .ok (.aload_n 0, 1) := by decide +kernel
theorem dX6_nailed_73 : decode cX6_nailed 73 = .ok (.getfield 12, 3) := by decide +kernel
theorem dX6_nailed_76 : decode cX6_nailed 76 = .ok (.getfield 62, 3) := by decide +kernel
theorem dX6_nailed_79 : decode cX6_nailed 79 = .ok (.iload 4, 2) := by decide +kernel
theorem dX6_nailed_81 : decode cX6_nailed 81 = .ok (.aaload, 1) := by decide +kernel
theorem dX6_nailed_82 : decode cX6_nailed 82 = .ok (.aload_n 2, 1) := by decide +kernel
theorem dX6_nailed_83 : decode cX6_nailed 83 = .ok (.getfield 270, 3) := by decide +kernel
theorem dX6_nailed_86 : decode cX6_nailed 86 = .ok (.iload 4, 2) := by decide +kernel
theorem dX6_nailed_88 : decode cX6_nailed 88 = .ok (.iaload, 1) := by decide +kernel
theorem dX6_nailed_89 : decode cX6_nailed 89 = .ok (.putfield 84, 3) := by decide +kernel
theorem dX6_nailed_92 : decode cX6_nailed 92 = .ok (.iinc 3 1, 3) := by decide +kernel
theorem dX6_nailed_95 : decode cX6_nailed 95 = .ok (.iinc 4 1, 3) := by decide +kernel
theorem dX6_nailed_98 : decode cX6_nailed 98 = .ok (.goto (-60), 3) := by decide +kernel
theorem dX6_nailed_101 : decode cX6_nailed 101 = .ok (.iload_n 3, 1) := by decide +kernel
theorem dX6_nailed_102 : decode cX6_nailed 102 = .ok (.ireturn, 1) := by decide +kernel
theorem dX6_judge_0 : decode cX6_judge 0 = .ok (.iload_n 1, 1) := by decide +kernel
theorem dX6_judge_1 : decode cX6_judge 1 = .ok (.invokestatic 236, 3) := by decide +kernel
theorem dX6_judge_4 : decode cX6_judge 4 = .ok (.ifCond .ne 9, 3) := by decide +kernel
theorem dX6_judge_7 : decode cX6_judge 7 = .ok (.aload_n 0, 1) := by decide +kernel
theorem dX6_judge_8 : decode cX6_judge 8 = .ok (.iconst 1, 1) := by decide +kernel
theorem dX6_judge_9 : decode cX6_judge 9 = .ok (.invokevirtual 58, 3) := by decide +kernel
theorem dX6_judge_12 : decode cX6_judge 12 = .ok (.ireturn, 1) := by decide +kernel
theorem dX6_judge_13 : decode cX6_judge 13 = .ok (.aload_n 0, 1) := by decide +kernel
theorem dX6_judge_14 : decode cX6_judge 14 = .ok (.getfield 39, 3) := by decide +kernel
theorem dX6_judge_17 : decode cX6_judge 17 = .ok (.iload_n 1, 1) := by decide +kernel
theorem dX6_judge_18 : decode cX6_judge 18 = .ok (.aaload, 1) := by decide +kernel
theorem dX6_judge_19 : decode cX6_judge 19 = .ok (.astore_n 2, 1) := by decide +kernel
theorem dX6_judge_20 : decode cX6_judge 20 = .ok (.aload_n 2, 1) := by decide +kernel
theorem dX6_judge_21 : decode cX6_judge 21 = .ok (.invokevirtual 239, 3) := by decide +kernel
theorem dX6_judge_24 : decode cX6_judge 24 = .ok (.ifCond .eq 9, 3) := by decide +kernel
theorem dX6_judge_27 : decode cX6_judge 27 = .ok (.aload_n 0, 1) := by decide +kernel
theorem dX6_judge_28 : decode cX6_judge 28 = .ok (.iconst 2, 1) := by decide +kernel
theorem dX6_judge_29 : decode cX6_judge 29 = .ok (.invokevirtual 58, 3) := by decide +kernel
theorem dX6_judge_32 : decode cX6_judge 32 = .ok (.ireturn, 1) := by decide +kernel
theorem dX6_judge_33 : decode cX6_judge 33 = .ok (.iconst 0, 1) := by decide +kernel
theorem dX6_judge_34 : decode cX6_judge 34 = .ok (.istore_n 3, 1) := by decide +kernel
theorem dX6_judge_35 : decode cX6_judge 35 = .ok (.iconst 0, 1) := by decide +kernel
theorem dX6_judge_36 : decode cX6_judge 36 = .ok (.istore 4, 2) := by decide +kernel
theorem dX6_judge_38 : decode cX6_judge 38 = .ok (.iload 4, 2) := by decide +kernel
theorem dX6_judge_40 : decode cX6_judge 40 = .ok (.aload_n 2, 1) := by decide +kernel
theorem dX6_judge_41 : decode cX6_judge 41 = .ok (.getfield 260, 3) := by decide +kernel
theorem dX6_judge_44 : decode cX6_judge 44 = .ok (.if_icmp .ge 47, 3) := by decide +kernel
theorem dX6_judge_47 : decode cX6_judge 47 = .ok (.iload 4, 2) := by decide +kernel
theorem dX6_judge_49 : decode cX6_judge 49 = .ok (.aload_n 0, 1) := by decide +kernel
theorem dX6_judge_50 : decode cX6_judge 50 = .ok (.getfield 12, 3) := by decide +kernel
theorem dX6_judge_53 : decode cX6_judge 53 = .ok (.getfield 55, 3) := by decide +kernel
theorem dX6_judge_56 : decode cX6_judge 56 = .ok (.if_icmp .ge 35, 3) := by decide +kernel
theorem dX6_judge_59 : decode cX6_judge 59 = .ok (.aload_n 2, 1) := by decide +kernel
theorem dX6_judge_60 : decode cX6_judge 60 = .ok (.getfield 270, 3) := by decide +kernel
theorem dX6_judge_63 : decode cX6_judge 63 = .ok (.iload 4, 2) := by decide +kernel
theorem dX6_judge_65 : decode cX6_judge 65 = .ok (.iaload, 1) := by decide +kernel
theorem dX6_judge_66 : decode cX6_judge 66 = .ok (.aload_n 0, 1) := by decide +kernel
theorem dX6_judge_67 : decode cX6_judge 67 = .ok (.getfield 12, 3) := by decide +kernel
theorem dX6_judge_70 : decode cX6_judge 70 = .ok (.getfield 62, 3) := by decide +kernel
theorem dX6_judge_73 : decode cX6_judge 73 = .ok (.iload 4, 2) := by decide +kernel
theorem dX6_judge_75 : decode cX6_judge 75 = .ok (.aaload, 1) := by decide +kernel
theorem dX6_judge_76 : decode cX6_judge 76 = .ok (.getfield 118, 3) := by decide +kernel
theorem dX6_judge_79 : decode cX6_judge 79 = .ok (.if_icmp .ne 12, 3) := by decide +kernel
theorem dX6_judge_82 : decode cX6_judge 82 = .ok (.iinc 3 1, 3) := by decide +kernel
theorem dX6_judge_85 : decode cX6_judge 85 = .ok (.iinc 4 1, 3) := by decide +kernel
theorem dX6_judge_88 : decode cX6_judge 88 = .ok (.goto (-50), 3) := by decide +kernel
theorem dX6_judge_91 : decode cX6_judge 91 = .ok (.iload_n 3, 1) := by decide +kernel
theorem dX6_judge_92 : decode cX6_judge 92 = .ok (.ireturn, 1) := by decide +kernel
theorem dX6_image_0 : decode cX6_image 0 = .ok (.aload_n 0, 1) := by decide +kernel
theorem dX6_image_1 : decode cX6_image 1 = .ok (.getfield 16, 3) := by decide +kernel
theorem dX6_image_4 : decode cX6_image 4 = .ok (.aload_n 0, 1) := by decide +kernel
theorem dX6_image_5 : decode cX6_image 5 = .ok (.getfield 12, 3) := by decide +kernel
theorem dX6_image_8 : decode cX6_image 8 = .ok (.invokevirtual 279, 3) := by decide +kernel
theorem dX6_image_11 : decode cX6_image 11 = .ok (.aload_n 0, 1) := by decide +kernel
theorem dX6_image_12 : decode cX6_image 12 = .ok (.dup, 1) := by decide +kernel
theorem dX6_image_13 : decode cX6_image 13 = .ok (.getfield 19, 3) := by decide +kernel
theorem dX6_image_16 : decode cX6_image 16 = .ok (.iconst 1, 1) := by decide +kernel
theorem dX6_image_17 : decode cX6_image 17 = .ok (.iadd, 1) := by decide +kernel
theorem dX6_image_18 : decode cX6_image 18 = .ok (.putfield 19, 3) := by decide +kernel
theorem dX6_image_21 : decode cX6_image 21 = .ok (.aload_n 0, 1) := by decide +kernel
theorem dX6_image_22 : decode cX6_image 22 = .ok (.getfield 19, 3) := by decide +kernel
theorem dX6_image_25 : decode cX6_image 25 = .ok (.ireturn, 1) := by decide +kernel
theorem dX6_restore_0 : decode cX6_restore 0 = .ok (.aload_n 0, 1) := by decide +kernel
theorem dX6_restore_1 : decode cX6_restore 1 = .ok (.getfield 19, 3) := by decide +kernel
theorem dX6_restore_4 : decode cX6_restore 4 = .ok (.ifCond .ne 9, 3) := by decide +kernel
theorem dX6_restore_7 : decode cX6_restore 7 = .ok (.aload_n 0, 1) := by decide +kernel
theorem dX6_restore_8 : decode cX6_restore 8 = .ok (.iconst 2, 1) := by decide +kernel
theorem dX6_restore_9 : decode cX6_restore 9 = .ok (.invokevirtual 58, 3) := by decide +kernel
theorem dX6_restore_12 : decode cX6_restore 12 = .ok (.ireturn, 1) := by decide +kernel
theorem dX6_restore_13 : decode cX6_restore 13 = .ok (.aload_n 0, 1) := by decide +kernel
theorem dX6_restore_14 : decode cX6_restore 14 = .ok (.getfield 12, 3) := by decide +kernel
theorem dX6_restore_17 : decode cX6_restore 17 = .ok (.aload_n 0, 1) := by decide +kernel
theorem dX6_restore_18 : decode cX6_restore 18 = .ok (.getfield 16, 3) := by decide +kernel
theorem dX6_restore_21 : decode cX6_restore 21 = .ok (.invokevirtual 279, 3) := by decide +kernel
theorem dX6_restore_24 : decode cX6_restore 24 = .ok (.aload_n 0, 1) := by decide +kernel
theorem dX6_restore_25 : decode cX6_restore 25 = .ok (.getfield 12, 3) := by decide +kernel
theorem dX6_restore_28 : decode cX6_restore 28 = .ok (.getfield 186, 3) := by decide +kernel
theorem dX6_restore_31 : decode cX6_restore 31 = .ok (.ireturn, 1) := by decide +kernel
theorem dX6_tell_0 : decode cX6_tell 0 = .ok (.aload_n 0, 1) := by decide +kernel
theorem dX6_tell_1 : decode cX6_tell 1 = .ok (.getfield 12, 3) := by decide +kernel
theorem dX6_tell_4 : decode cX6_tell 4 = .ok (.getfield 283, 3) := by decide +kernel
theorem dX6_tell_7 : decode cX6_tell 7 = .ok (.bipush 24, 2) := by decide +kernel
theorem dX6_tell_9 : decode cX6_tell 9 = .ok (.if_icmp .lt 9, 3) := by decide +kernel
theorem dX6_tell_12 : decode cX6_tell 12 = .ok (.aload_n 0, 1) := by decide +kernel
theorem dX6_tell_13 : decode cX6_tell 13 = .ok (.iconst 4, 1) := by decide +kernel
theorem dX6_tell_14 : decode cX6_tell 14 = .ok (.invokevirtual 58, 3) := by decide +kernel
theorem dX6_tell_17 : decode cX6_tell 17 = .ok (.ireturn, 1) := by decide +kernel
theorem dX6_tell_18 : decode cX6_tell 18 = .ok (.aload_n 0, 1) := by decide +kernel
theorem dX6_tell_19 : decode cX6_tell 19 = .ok (.getfield 12, 3) := by decide +kernel
theorem dX6_tell_22 : decode cX6_tell 22 = .ok (.getfield 286, 3) := by decide +kernel
theorem dX6_tell_25 : decode cX6_tell 25 = .ok (.aload_n 0, 1) := by decide +kernel
theorem dX6_tell_26 : decode cX6_tell 26 = .ok (.getfield 12, 3) := by decide +kernel
theorem dX6_tell_29 : decode cX6_tell 29 = .ok (.getfield 283, 3) := by decide +kernel
theorem dX6_tell_32 : decode cX6_tell 32 = .ok (.iload_n 1, 1) := by decide +kernel
theorem dX6_tell_33 : decode cX6_tell 33 = .ok (.iastore, 1) := by decide +kernel
theorem dX6_tell_34 : decode cX6_tell 34 = .ok (.aload_n 0, 1) := by decide +kernel
theorem dX6_tell_35 : decode cX6_tell 35 = .ok (.getfield 12, 3) := by decide +kernel
theorem dX6_tell_38 : decode cX6_tell 38 = .ok (.dup, 1) := by decide +kernel
theorem dX6_tell_39 : decode cX6_tell 39 = .ok (.getfield 283, 3) := by decide +kernel
theorem dX6_tell_42 : decode cX6_tell 42 = .ok (.iconst 1, 1) := by decide +kernel
theorem dX6_tell_43 : decode cX6_tell 43 = .ok (.iadd, 1) := by decide +kernel
theorem dX6_tell_44 : decode cX6_tell 44 = .ok (.putfield 283, 3) := by decide +kernel
theorem dX6_tell_47 : decode cX6_tell 47 = .ok (.aload_n 0, 1) := by decide +kernel
theorem dX6_tell_48 : decode cX6_tell 48 = .ok (.getfield 12, 3) := by decide +kernel
theorem dX6_tell_51 : decode cX6_tell 51 = .ok (.getfield 283, 3) := by decide +kernel
theorem dX6_tell_54 : decode cX6_tell 54 = .ok (.ireturn, 1) := by decide +kernel
theorem dX6_check_0 : decode cX6_check 0 = .ok (.aload_n 0, 1) := by decide +kernel
theorem dX6_check_1 : decode cX6_check 1 = .ok (.getfield 12, 3) := by decide +kernel
theorem dX6_check_4 : decode cX6_check 4 = .ok (.getfield 283, 3) := by decide +kernel
theorem dX6_check_7 : decode cX6_check 7 = .ok (.istore_n 1, 1) := by decide +kernel
theorem dX6_check_8 : decode cX6_check 8 = .ok (.aload_n 0, 1) := by decide +kernel
theorem dX6_check_9 : decode cX6_check 9 = .ok (.getfield 12, 3) := by decide +kernel
theorem dX6_check_12 : decode cX6_check 12 = .ok (.iconst 0, 1) := by decide +kernel
theorem dX6_check_13 : decode cX6_check 13 = .ok (.putfield 283, 3) := by decide +kernel
theorem dX6_check_16 : decode cX6_check 16 = .ok (.iconst 0, 1) := by decide +kernel
theorem dX6_check_17 : decode cX6_check 17 = .ok (.istore_n 2, 1) := by decide +kernel
theorem dX6_check_18 : decode cX6_check 18 = .ok (.iload_n 2, 1) := by decide +kernel
theorem dX6_check_19 : decode cX6_check 19 = .ok (.iload_n 1, 1) := by decide +kernel
theorem dX6_check_20 : decode cX6_check 20 = .ok (.if_icmp .ge 48, 3) := by decide +kernel
theorem dX6_check_23 : decode cX6_check 23 = .ok (.iload_n 2, 1) := by decide +kernel
theorem dX6_check_24 : decode cX6_check 24 = .ok (.aload_n 0, 1) := by decide +kernel
theorem dX6_check_25 : decode cX6_check 25 = .ok (.getfield 12, 3) := by decide +kernel
theorem dX6_check_28 : decode cX6_check 28 = .ok (.getfield 55, 3) := by decide +kernel
theorem dX6_check_31 : decode cX6_check 31 = .ok (.if_icmp .ge 27, 3) := by decide +kernel
theorem dX6_check_34 : decode cX6_check 34 = .ok (.aload_n 0, 1) := by decide +kernel
theorem dX6_check_35 : decode cX6_check 35 = .ok (.getfield 12, 3) := by decide +kernel
theorem dX6_check_38 : decode cX6_check 38 = .ok (.getfield 286, 3) := by decide +kernel
theorem dX6_check_41 : decode cX6_check 41 = .ok (.iload_n 2, 1) := by decide +kernel
theorem dX6_check_42 : decode cX6_check 42 = .ok (.iaload, 1) := by decide +kernel
theorem dX6_check_43 : decode cX6_check 43 = .ok (.aload_n 0, 1) := by decide +kernel
theorem dX6_check_44 : decode cX6_check 44 = .ok (.getfield 12, 3) := by decide +kernel
theorem dX6_check_47 : decode cX6_check 47 = .ok (.getfield 62, 3) := by decide +kernel
theorem dX6_check_50 : decode cX6_check 50 = .ok (.iload_n 2, 1) := by decide +kernel
theorem dX6_check_51 : decode cX6_check 51 = .ok (.aaload, 1) := by decide +kernel
theorem dX6_check_52 : decode cX6_check 52 = .ok (.getfield 97, 3) := by decide +kernel
theorem dX6_check_55 : decode cX6_check 55 = .ok (.if_icmp .eq 7, 3) := by decide +kernel
theorem dX6_check_58 : decode cX6_check 58 = .ok (.iconst 1, 1) := by decide +kernel
theorem dX6_check_59 : decode cX6_check 59 = .ok (.iload_n 2, 1) := by decide +kernel
theorem dX6_check_60 : decode cX6_check 60 = .ok (.iadd, 1) := by decide +kernel
theorem dX6_check_61 : decode cX6_check 61 = .ok (.ireturn, 1) := by decide +kernel
theorem dX6_check_62 : decode cX6_check 62 = .ok (.iinc 2 1, 3) := by decide +kernel
theorem dX6_check_65 : decode cX6_check 65 = .ok (.goto (-47), 3) := by decide +kernel
theorem dX6_check_68 : decode cX6_check 68 = .ok (.iconst 0, 1) := by decide +kernel
theorem dX6_check_69 : decode cX6_check 69 = .ok (.ireturn, 1) := by decide +kernel
theorem dX6_count_0 : decode cX6_count 0 = .ok (.iload_n 1, 1) := by decide +kernel
theorem dX6_count_1 : decode cX6_count 1 = .ok (.tableswitch 111 0 7 #[47, 55, 63, 71, 79, 87, 95, 103], 47) := by decide +kernel
theorem dX6_count_48 : decode cX6_count 48 = .ok (.aload_n 0, 1) := by decide +kernel
theorem dX6_count_49 : decode cX6_count 49 = .ok (.getfield 12, 3) := by decide +kernel
theorem dX6_count_52 : decode cX6_count 52 = .ok (.getfield 55, 3) := by decide +kernel
theorem dX6_count_55 : decode cX6_count 55 = .ok (.ireturn, 1) := by decide +kernel
theorem dX6_count_56 : decode cX6_count 56 = .ok (.aload_n 0, 1) := by decide +kernel
theorem dX6_count_57 : decode cX6_count 57 = .ok (.getfield 12, 3) := by decide +kernel
theorem dX6_count_60 : decode cX6_count 60 = .ok (.getfield 186, 3) := by decide +kernel
theorem dX6_count_63 : decode cX6_count 63 = .ok (.ireturn, 1) := by decide +kernel
theorem dX6_count_64 : decode cX6_count 64 = .ok (.aload_n 0, 1) := by decide +kernel
theorem dX6_count_65 : decode cX6_count 65 = .ok (.getfield 12, 3) := by decide +kernel
theorem dX6_count_68 : decode cX6_count 68 = .ok (.getfield 138, 3) := by decide +kernel
theorem dX6_count_71 : decode cX6_count 71 = .ok (.ireturn, 1) := by decide +kernel
theorem dX6_count_72 : decode cX6_count 72 = .ok (.aload_n 0, 1) := by decide +kernel
theorem dX6_count_73 : decode cX6_count 73 = .ok (.getfield 12, 3) := by decide +kernel
theorem dX6_count_76 : decode cX6_count 76 = .ok (.getfield 192, 3) := by decide +kernel
theorem dX6_count_79 : decode cX6_count 79 = .ok (.ireturn, 1) := by decide +kernel
theorem dX6_count_80 : decode cX6_count 80 = .ok (.aload_n 0, 1) := by decide +kernel
theorem dX6_count_81 : decode cX6_count 81 = .ok (.getfield 12, 3) := by decide +kernel
theorem dX6_count_84 : decode cX6_count 84 = .ok (.getfield 141, 3) := by decide +kernel
theorem dX6_count_87 : decode cX6_count 87 = .ok (.ireturn, 1) := by decide +kernel
theorem dX6_count_88 : decode cX6_count 88 = .ok (.aload_n 0, 1) := by decide +kernel
theorem dX6_count_89 : decode cX6_count 89 = .ok (.getfield 12, 3) := by decide +kernel
theorem dX6_count_92 : decode cX6_count 92 = .ok (.getfield 283, 3) := by decide +kernel
theorem dX6_count_95 : decode cX6_count 95 = .ok (.ireturn, 1) := by decide +kernel
theorem dX6_count_96 : decode cX6_count 96 = .ok (.aload_n 0, 1) := by decide +kernel
theorem dX6_count_97 : decode cX6_count 97 = .ok (.getfield 33, 3) := by decide +kernel
theorem dX6_count_100 : decode cX6_count 100 = .ok (.getfield 253, 3) := by decide +kernel
theorem dX6_count_103 : decode cX6_count 103 = .ok (.ireturn, 1) := by decide +kernel
theorem dX6_count_104 : decode cX6_count 104 = .ok (.aload_n 0, 1) := by decide +kernel
theorem dX6_count_105 : decode cX6_count 105 = .ok (.getfield 12, 3) := by decide +kernel
theorem dX6_count_108 : decode cX6_count 108 = .ok (.getfield 198, 3) := by decide +kernel
theorem dX6_count_111 : decode cX6_count 111 = .ok (.ireturn, 1) := by decide +kernel
theorem dX6_count_112 : decode cX6_count 112 = .ok (.aload_n 0, 1) := by decide +kernel
theorem dX6_count_113 : decode cX6_count 113 = .ok (.iconst 1, 1) := by decide +kernel
theorem dX6_count_114 : decode cX6_count 114 = .ok (.invokevirtual 58, 3) := by decide +kernel
theorem dX6_count_117 : decode cX6_count 117 = .ok (.ireturn, 1) := by decide +kernel
theorem dX6_told_0 : decode cX6_told 0 = .ok (.iload_n 1, 1) := by decide +kernel
theorem dX6_told_1 : decode cX6_told 1 = .ok (.iconst 1, 1) := by decide +kernel
theorem dX6_told_2 : decode cX6_told 2 = .ok (.if_icmp .lt 9, 3) := by decide +kernel
theorem dX6_told_5 : decode cX6_told 5 = .ok (.iload_n 1, 1) := by decide +kernel
theorem dX6_told_6 : decode cX6_told 6 = .ok (.bipush 6, 2) := by decide +kernel
theorem dX6_told_8 : decode cX6_told 8 = .ok (.if_icmp .le 11, 3) := by decide +kernel
theorem dX6_told_11 : decode cX6_told 11 = .ok (.aload_n 0, 1) := by decide +kernel
theorem dX6_told_12 : decode cX6_told 12 = .ok (.iconst 1, 1) := by decide +kernel
theorem dX6_told_13 : decode cX6_told 13 = .ok (.invokevirtual 58, 3) := by decide +kernel
theorem dX6_told_16 : decode cX6_told 16 = .ok (.goto 9, 3) := by decide +kernel
theorem dX6_told_19 : decode cX6_told 19 = .ok (.aload_n 0, 1) := by decide +kernel
theorem dX6_told_20 : decode cX6_told 20 = .ok (.getfield 43, 3) := by decide +kernel
theorem dX6_told_23 : decode cX6_told 23 = .ok (.iload_n 1, 1) := by decide +kernel
theorem dX6_told_24 : decode cX6_told 24 = .ok (.iaload, 1) := by decide +kernel
theorem dX6_told_25 : decode cX6_told 25 = .ok (.ireturn, 1) := by decide +kernel
theorem dX6_error_0 : decode cX6_error 0 = .ok (.aload_n 0, 1) := by decide +kernel
theorem dX6_error_1 : decode cX6_error 1 = .ok (.getfield 43, 3) := by decide +kernel
theorem dX6_error_4 : decode cX6_error 4 = .ok (.iload_n 1, 1) := by decide +kernel
theorem dX6_error_5 : decode cX6_error 5 = .ok (.dup2, 1) := by decide +kernel
theorem dX6_error_6 : decode cX6_error 6 = .ok (.iaload, 1) := by decide +kernel
theorem dX6_error_7 : decode cX6_error 7 = .ok (.iconst 1, 1) := by decide +kernel
theorem dX6_error_8 : decode cX6_error 8 = .ok (.iadd, 1) := by decide +kernel
theorem dX6_error_9 : decode cX6_error 9 = .ok (.iastore, 1) := by decide +kernel
theorem dX6_error_10 : decode cX6_error 10 = .ok (.ldc_w 289, 3) := by decide +kernel
theorem dX6_error_13 : decode cX6_error 13 = .ok (.iload_n 1, 1) := by decide +kernel
theorem dX6_error_14 : decode cX6_error 14 = .ok (.isub, 1) := by decide +kernel
theorem dX6_error_15 : decode cX6_error 15 = .ok (.ireturn, 1) := by decide +kernel
theorem dX6_isSlate_0 : decode cX6_isSlate 0 = .ok (.iload_n 1, 1) := by decide +kernel
theorem dX6_isSlate_1 : decode cX6_isSlate 1 = .ok (.ifCond .lt 18, 3) := by decide +kernel
theorem dX6_isSlate_4 : decode cX6_isSlate 4 = .ok (.iload_n 1, 1) := by decide +kernel
theorem dX6_isSlate_5 : decode cX6_isSlate 5 = .ok (.aload_n 0, 1) := by decide +kernel
theorem dX6_isSlate_6 : decode cX6_isSlate 6 = .ok (.getfield 12, 3) := by decide +kernel
theorem dX6_isSlate_9 : decode cX6_isSlate 9 = .ok (.getfield 55, 3) := by decide +kernel
theorem dX6_isSlate_12 : decode cX6_isSlate 12 = .ok (.if_icmp .ge 7, 3) := by decide +kernel
theorem dX6_isSlate_15 : decode cX6_isSlate 15 = .ok (.iconst 1, 1) := by decide +kernel
theorem dX6_isSlate_16 : decode cX6_isSlate 16 = .ok (.goto 4, 3) := by decide +kernel
theorem dX6_isSlate_19 : decode cX6_isSlate 19 = .ok (.iconst 0, 1) := by decide +kernel
theorem dX6_isSlate_20 : decode cX6_isSlate 20 = .ok (.ireturn, 1) := by decide +kernel
theorem dX6_isKindAndM_0 : decode cX6_isKindAndM 0 = .ok (.iload_n 0, 1) := by decide +kernel
theorem dX6_isKindAndM_1 : decode cX6_isKindAndM 1 = .ok (.ifCond .lt 13, 3) := by decide +kernel
theorem dX6_isKindAndM_4 : decode cX6_isKindAndM 4 = .ok (.iload_n 0, 1) := by decide +kernel
theorem dX6_isKindAndM_5 : decode cX6_isKindAndM 5 = .ok (.bipush 70, 2) := by decide +kernel
theorem dX6_isKindAndM_7 : decode cX6_isKindAndM 7 = .ok (.if_icmp .ge 7, 3) := by decide +kernel
theorem dX6_isKindAndM_10 : decode cX6_isKindAndM 10 = .ok (.iconst 1, 1) := by decide +kernel
theorem dX6_isKindAndM_11 : decode cX6_isKindAndM 11 = .ok (.goto 4, 3) := by decide +kernel
theorem dX6_isKindAndM_14 : decode cX6_isKindAndM 14 = .ok (.iconst 0, 1) := by decide +kernel
theorem dX6_isKindAndM_15 : decode cX6_isKindAndM 15 = .ok (.ireturn, 1) := by decide +kernel
theorem dX6_isDigit_0 : decode cX6_isDigit 0 = .ok (.iload_n 0, 1) := by decide +kernel
theorem dX6_isDigit_1 : decode cX6_isDigit 1 = .ok (.ifCond .lt 13, 3) := by decide +kernel
theorem dX6_isDigit_4 : decode cX6_isDigit 4 = .ok (.iload_n 0, 1) := by decide +kernel
theorem dX6_isDigit_5 : decode cX6_isDigit 5 = .ok (.bipush 9, 2) := by decide +kernel
theorem dX6_isDigit_7 : decode cX6_isDigit 7 = .ok (.if_icmp .gt 7, 3) := by decide +kernel
theorem dX6_isDigit_10 : decode cX6_isDigit 10 = .ok (.iconst 1, 1) := by decide +kernel
theorem dX6_isDigit_11 : decode cX6_isDigit 11 = .ok (.goto 4, 3) := by decide +kernel
theorem dX6_isDigit_14 : decode cX6_isDigit 14 = .ok (.iconst 0, 1) := by decide +kernel
theorem dX6_isDigit_15 : decode cX6_isDigit 15 = .ok (.ireturn, 1) := by decide +kernel
theorem dX6_isBit_0 : decode cX6_isBit 0 = .ok (.iload_n 0, 1) := by decide +kernel
theorem dX6_isBit_1 : decode cX6_isBit 1 = .ok (.ifCond .eq 8, 3) := by decide +kernel
theorem dX6_isBit_4 : decode cX6_isBit 4 = .ok (.iload_n 0, 1) := by decide +kernel
theorem dX6_isBit_5 : decode cX6_isBit 5 = .ok (.iconst 1, 1) := by decide +kernel
theorem dX6_isBit_6 : decode cX6_isBit 6 = .ok (.if_icmp .ne 7, 3) := by decide +kernel
theorem dX6_isBit_9 : decode cX6_isBit 9 = .ok (.iconst 1, 1) := by decide +kernel
theorem dX6_isBit_10 : decode cX6_isBit 10 = .ok (.goto 4, 3) := by decide +kernel
theorem dX6_isBit_13 : decode cX6_isBit 13 = .ok (.iconst 0, 1) := by decide +kernel
theorem dX6_isBit_14 : decode cX6_isBit 14 = .ok (.ireturn, 1) := by decide +kernel
theorem dX6_isUse_0 : decode cX6_isUse 0 = .ok (.iload_n 0, 1) := by decide +kernel
theorem dX6_isUse_1 : decode cX6_isUse 1 = .ok (.ifCond .lt 12, 3) := by decide +kernel
theorem dX6_isUse_4 : decode cX6_isUse 4 = .ok (.iload_n 0, 1) := by decide +kernel
theorem dX6_isUse_5 : decode cX6_isUse 5 = .ok (.iconst 2, 1) := by decide +kernel
theorem dX6_isUse_6 : decode cX6_isUse 6 = .ok (.if_icmp .ge 7, 3) := by decide +kernel
theorem dX6_isUse_9 : decode cX6_isUse 9 = .ok (.iconst 1, 1) := by decide +kernel
theorem dX6_isUse_10 : decode cX6_isUse 10 = .ok (.goto 4, 3) := by decide +kernel
theorem dX6_isUse_13 : decode cX6_isUse 13 = .ok (.iconst 0, 1) := by decide +kernel
theorem dX6_isUse_14 : decode cX6_isUse 14 = .ok (.ireturn, 1) := by decide +kernel
theorem dX6_isGale_0 : decode cX6_isGale 0 = .ok (.iload_n 0, 1) := by decide +kernel
theorem dX6_isGale_1 : decode cX6_isGale 1 = .ok (.ifCond .lt 13, 3) := by decide +kernel
theorem dX6_isGale_4 : decode cX6_isGale 4 = .ok (.iload_n 0, 1) := by decide +kernel
theorem dX6_isGale_5 : decode cX6_isGale 5 = .ok (.bipush 40, 2) := by decide +kernel
theorem dX6_isGale_7 : decode cX6_isGale 7 = .ok (.if_icmp .gt 7, 3) := by decide +kernel
theorem dX6_isGale_10 : decode cX6_isGale 10 = .ok (.iconst 1, 1) := by decide +kernel
theorem dX6_isGale_11 : decode cX6_isGale 11 = .ok (.goto 4, 3) := by decide +kernel
theorem dX6_isGale_14 : decode cX6_isGale 14 = .ok (.iconst 0, 1) := by decide +kernel
theorem dX6_isGale_15 : decode cX6_isGale 15 = .ok (.ireturn, 1) := by decide +kernel
theorem dX6_isCell_0 : decode cX6_isCell 0 = .ok (.iload_n 0, 1) := by decide +kernel
theorem dX6_isCell_1 : decode cX6_isCell 1 = .ok (.ifCond .lt 13, 3) := by decide +kernel
theorem dX6_isCell_4 : decode cX6_isCell 4 = .ok (.iload_n 0, 1) := by decide +kernel
theorem dX6_isCell_5 : decode cX6_isCell 5 = .ok (.bipush 48, 2) := by decide +kernel
theorem dX6_isCell_7 : decode cX6_isCell 7 = .ok (.if_icmp .ge 7, 3) := by decide +kernel
theorem dX6_isCell_10 : decode cX6_isCell 10 = .ok (.iconst 1, 1) := by decide +kernel
theorem dX6_isCell_11 : decode cX6_isCell 11 = .ok (.goto 4, 3) := by decide +kernel
theorem dX6_isCell_14 : decode cX6_isCell 14 = .ok (.iconst 0, 1) := by decide +kernel
theorem dX6_isCell_15 : decode cX6_isCell 15 = .ok (.ireturn, 1) := by decide +kernel
theorem dX6_isSheet_0 : decode cX6_isSheet 0 = .ok (.iload_n 0, 1) := by decide +kernel
theorem dX6_isSheet_1 : decode cX6_isSheet 1 = .ok (.ifCond .lt 12, 3) := by decide +kernel
theorem dX6_isSheet_4 : decode cX6_isSheet 4 = .ok (.iload_n 0, 1) := by decide +kernel
theorem dX6_isSheet_5 : decode cX6_isSheet 5 = .ok (.iconst 4, 1) := by decide +kernel
theorem dX6_isSheet_6 : decode cX6_isSheet 6 = .ok (.if_icmp .ge 7, 3) := by decide +kernel
theorem dX6_isSheet_9 : decode cX6_isSheet 9 = .ok (.iconst 1, 1) := by decide +kernel
theorem dX6_isSheet_10 : decode cX6_isSheet 10 = .ok (.goto 4, 3) := by decide +kernel
theorem dX6_isSheet_13 : decode cX6_isSheet 13 = .ok (.iconst 0, 1) := by decide +kernel
theorem dX6_isSheet_14 : decode cX6_isSheet 14 = .ok (.ireturn, 1) := by decide +kernel
theorem dX6_commonDivisor_0 : decode cX6_commonDivisor 0 = .ok (.iload_n 0, 1) := by decide +kernel
theorem dX6_commonDivisor_1 : decode cX6_commonDivisor 1 = .ok (.istore_n 2, 1) := by decide +kernel
theorem dX6_commonDivisor_2 : decode cX6_commonDivisor 2 = .ok (.iload_n 1, 1) := by decide +kernel
theorem dX6_commonDivisor_3 : decode cX6_commonDivisor 3 = .ok (.istore_n 3, 1) := by decide +kernel
theorem dX6_commonDivisor_4 : decode cX6_commonDivisor 4 = .ok (.iconst 0, 1) := by decide +kernel
theorem dX6_commonDivisor_5 : decode cX6_commonDivisor 5 = .ok (.istore 4, 2) := by decide +kernel
theorem dX6_commonDivisor_7 : decode cX6_commonDivisor 7 = .ok (.iload 4, 2) := by decide +kernel
theorem dX6_commonDivisor_9 : decode cX6_commonDivisor 9 = .ok (.bipush 40, 2) := by decide +kernel
theorem dX6_commonDivisor_11 : decode cX6_commonDivisor 11 = .ok (.if_icmp .ge 23, 3) := by decide +kernel
theorem dX6_commonDivisor_14 : decode cX6_commonDivisor 14 = .ok (.iload_n 3, 1) := by decide +kernel
theorem dX6_commonDivisor_15 : decode cX6_commonDivisor 15 = .ok (.ifCond .eq 19, 3) := by decide +kernel
theorem dX6_commonDivisor_18 : decode cX6_commonDivisor 18 = .ok (.iload_n 2, 1) := by decide +kernel
theorem dX6_commonDivisor_19 : decode cX6_commonDivisor 19 = .ok (.iload_n 3, 1) := by decide +kernel
theorem dX6_commonDivisor_20 : decode cX6_commonDivisor 20 = .ok (.irem, 1) := by decide +kernel
theorem dX6_commonDivisor_21 : decode cX6_commonDivisor 21 = .ok (.istore 5, 2) := by decide +kernel
theorem dX6_commonDivisor_23 : decode cX6_commonDivisor 23 = .ok (.iload_n 3, 1) := by decide +kernel
theorem dX6_commonDivisor_24 : decode cX6_commonDivisor 24 = .ok (.istore_n 2, 1) := by decide +kernel
theorem dX6_commonDivisor_25 : decode cX6_commonDivisor 25 = .ok (.iload 5, 2) := by decide +kernel
theorem dX6_commonDivisor_27 : decode cX6_commonDivisor 27 = .ok (.istore_n 3, 1) := by decide +kernel
theorem dX6_commonDivisor_28 : decode cX6_commonDivisor 28 = .ok (.iinc 4 1, 3) := by decide +kernel
theorem dX6_commonDivisor_31 : decode cX6_commonDivisor 31 = .ok (.goto (-24), 3) := by decide +kernel
theorem dX6_commonDivisor_34 : decode cX6_commonDivisor 34 = .ok (.iload_n 2, 1) := by decide +kernel
theorem dX6_commonDivisor_35 : decode cX6_commonDivisor 35 = .ok (.ireturn, 1) := by decide +kernel
theorem dX7_init_0 : decode cX7_init 0 = .ok (.aload_n 0, 1) := by decide +kernel
theorem dX7_init_1 : decode cX7_init 1 = .ok (.invokespecial 1, 3) := by decide +kernel
theorem dX7_init_4 : decode cX7_init 4 = .ok (.aload_n 0, 1) := by decide +kernel
theorem dX7_init_5 : decode cX7_init 5 = .ok (.sipush 412, 3) := by decide +kernel
theorem dX7_init_8 : decode cX7_init 8 = .ok (.newarray .int, 2) := by decide +kernel
theorem dX7_init_10 : decode cX7_init 10 = .ok (.putfield 7, 3) := by decide +kernel
theorem dX7_init_13 : decode cX7_init 13 = .ok (.aload_n 0, 1) := by decide +kernel
theorem dX7_init_14 : decode cX7_init 14 = .ok (.sipush 412, 3) := by decide +kernel
theorem dX7_init_17 : decode cX7_init 17 = .ok (.newarray .int, 2) := by decide +kernel
theorem dX7_init_19 : decode cX7_init 19 = .ok (.putfield 13, 3) := by decide +kernel
theorem dX7_init_22 : decode cX7_init 22 = .ok (.aload_n 0, 1) := by decide +kernel
theorem dX7_init_23 : decode cX7_init 23 = .ok (.bipush 7, 2) := by decide +kernel
theorem dX7_init_25 : decode cX7_init 25 = .ok (.newarray .int, 2) := by decide +kernel
theorem dX7_init_27 : decode cX7_init 27 = .ok (.putfield 16, 3) := by decide +kernel
theorem dX7_init_30 : decode cX7_init 30 = .ok (.aload_n 0, 1) := by decide +kernel
theorem dX7_init_31 : decode cX7_init 31 = .ok (.bipush 124, 2) := by decide +kernel
theorem dX7_init_33 : decode cX7_init 33 = .ok (.newarray .int, 2) := by decide +kernel
theorem dX7_init_35 : decode cX7_init 35 = .ok (.putfield 19, 3) := by decide +kernel
theorem dX7_init_38 : decode cX7_init 38 = .ok (.aload_n 0, 1) := by decide +kernel
theorem dX7_init_39 : decode cX7_init 39 = .ok (.sipush 128, 3) := by decide +kernel
theorem dX7_init_42 : decode cX7_init 42 = .ok (.newarray .int, 2) := by decide +kernel
theorem dX7_init_44 : decode cX7_init 44 = .ok (.putfield 22, 3) := by decide +kernel
theorem dX7_init_47 : decode cX7_init 47 = .ok (.aload_n 0, 1) := by decide +kernel
theorem dX7_init_48 : decode cX7_init 48 = .ok (.bipush 64, 2) := by decide +kernel
theorem dX7_init_50 : decode cX7_init 50 = .ok (.newarray .int, 2) := by decide +kernel
theorem dX7_init_52 : decode cX7_init 52 = .ok (.putfield 25, 3) := by decide +kernel
theorem dX7_init_55 : decode cX7_init 55 = .ok (.aload_n 0, 1) := by decide +kernel
theorem dX7_init_56 : decode cX7_init 56 = .ok (.bipush 10, 2) := by decide +kernel
theorem dX7_init_58 : decode cX7_init 58 = .ok (.newarray .int, 2) := by decide +kernel
theorem dX7_init_60 : decode cX7_init 60 = .ok (.putfield 28, 3) := by decide +kernel
theorem dX7_init_63 : decode cX7_init 63 = .ok (.aload_n 0, 1) := by decide +kernel
theorem dX7_init_64 : decode cX7_init 64 = .ok (.bipush 30, 2) := by decide +kernel
theorem dX7_init_66 : decode cX7_init 66 = .ok (.newarray .int, 2) := by decide +kernel
theorem dX7_init_68 : decode cX7_init 68 = .ok (.putfield 31, 3) := by decide +kernel
theorem dX7_init_71 : decode cX7_init 71 = .ok (.aload_n 0, 1) := by decide +kernel
theorem dX7_init_72 : decode cX7_init 72 = .ok (.iconst 4, 1) := by decide +kernel
theorem dX7_init_73 : decode cX7_init 73 = .ok (.newarray .int, 2) := by decide +kernel
theorem dX7_init_75 : decode cX7_init 75 = .ok (.putfield 34, 3) := by decide +kernel
theorem dX7_init_78 : decode cX7_init 78 = .ok (.aload_n 0, 1) := by decide +kernel
theorem dX7_init_79 : decode cX7_init 79 = .ok (.iconst 4, 1) := by decide +kernel
theorem dX7_init_80 : decode cX7_init 80 = .ok (.newarray .int, 2) := by decide +kernel
theorem dX7_init_82 : decode cX7_init 82 = .ok (.putfield 37, 3) := by decide +kernel
theorem dX7_init_85 : decode cX7_init 85 = .ok (.aload_n 0, 1) := by decide +kernel
theorem dX7_init_86 : decode cX7_init 86 = .ok (.bipush 96, 2) := by decide +kernel
theorem dX7_init_88 : decode cX7_init 88 = .ok (.newarray .int, 2) := by decide +kernel
theorem dX7_init_90 : decode cX7_init 90 = .ok (.putfield 40, 3) := by decide +kernel
theorem dX7_init_93 : decode cX7_init 93 = .ok (.aload_n 0, 1) := by decide +kernel
theorem dX7_init_94 : decode cX7_init 94 = .ok (.bipush 24, 2) := by decide +kernel
theorem dX7_init_96 : decode cX7_init 96 = .ok (.newarray .int, 2) := by decide +kernel
theorem dX7_init_98 : decode cX7_init 98 = .ok (.putfield 43, 3) := by decide +kernel
theorem dX7_init_101 : decode cX7_init 101 = .ok (.aload_n 0, 1) := by decide +kernel
theorem dX7_init_102 : decode cX7_init 102 = .ok (.getfield 7, 3) := by decide +kernel
theorem dX7_init_105 : decode cX7_init 105 = .ok (.iconst 3, 1) := by decide +kernel
theorem dX7_init_106 : decode cX7_init 106 = .ok (.iconst 1, 1) := by decide +kernel
theorem dX7_init_107 : decode cX7_init 107 = .ok (.iastore, 1) := by decide +kernel
theorem dX7_init_108 : decode cX7_init 108 = .ok (.return_, 1) := by decide +kernel
theorem dX7_error_0 : decode cX7_error 0 = .ok (.aload_n 0, 1) := by decide +kernel
theorem dX7_error_1 : decode cX7_error 1 = .ok (.getfield 16, 3) := by decide +kernel
theorem dX7_error_4 : decode cX7_error 4 = .ok (.iload_n 1, 1) := by decide +kernel
theorem dX7_error_5 : decode cX7_error 5 = .ok (.dup2, 1) := by decide +kernel
theorem dX7_error_6 : decode cX7_error 6 = .ok (.iaload, 1) := by decide +kernel
theorem dX7_error_7 : decode cX7_error 7 = .ok (.iconst 1, 1) := by decide +kernel
theorem dX7_error_8 : decode cX7_error 8 = .ok (.iadd, 1) := by decide +kernel
theorem dX7_error_9 : decode cX7_error 9 = .ok (.iastore, 1) := by decide +kernel
theorem dX7_error_10 : decode cX7_error 10 = .ok (.ldc 46, 2) := by decide +kernel
theorem dX7_error_12 : decode cX7_error 12 = .ok (.iload_n 1, 1) := by decide +kernel
theorem dX7_error_13 : decode cX7_error 13 = .ok (.isub, 1) := by decide +kernel
theorem dX7_error_14 : decode cX7_error 14 = .ok (.ireturn, 1) := by decide +kernel
theorem dX7_in_0 : decode cX7_in 0 = .ok (.iload_n 0, 1) := by decide +kernel
theorem dX7_in_1 : decode cX7_in 1 = .ok (.iload_n 1, 1) := by decide +kernel
theorem dX7_in_2 : decode cX7_in 2 = .ok (.if_icmp .lt 12, 3) := by decide +kernel
theorem dX7_in_5 : decode cX7_in 5 = .ok (.iload_n 0, 1) := by decide +kernel
theorem dX7_in_6 : decode cX7_in 6 = .ok (.iload_n 2, 1) := by decide +kernel
theorem dX7_in_7 : decode cX7_in 7 = .ok (.if_icmp .gt 7, 3) := by decide +kernel
theorem dX7_in_10 : decode cX7_in 10 = .ok (.iconst 1, 1) := by decide +kernel
theorem dX7_in_11 : decode cX7_in 11 = .ok (.goto 4, 3) := by decide +kernel
theorem dX7_in_14 : decode cX7_in 14 = .ok (.iconst 0, 1) := by decide +kernel
theorem dX7_in_15 : decode cX7_in 15 = .ok (.ireturn, 1) := by decide +kernel
theorem dX7_held_0 : decode cX7_held 0 = .ok (.iload_n 0, 1) := by decide +kernel
theorem dX7_held_1 : decode cX7_held 1 = .ok (.iload_n 1, 1) := by decide +kernel
theorem dX7_held_2 : decode cX7_held 2 = .ok (.if_icmp .ge 7, 3) := by decide +kernel
theorem dX7_held_5 : decode cX7_held 5 = .ok (.iload_n 1, 1) := by decide +kernel
theorem dX7_held_6 : decode cX7_held 6 = .ok (.goto 13, 3) := by decide +kernel
theorem dX7_held_9 : decode cX7_held 9 = .ok (.iload_n 0, 1) := by decide +kernel
theorem dX7_held_10 : decode cX7_held 10 = .ok (.iload_n 2, 1) := by decide +kernel
theorem dX7_held_11 : decode cX7_held 11 = .ok (.if_icmp .le 7, 3) := by decide +kernel
theorem dX7_held_14 : decode cX7_held 14 = .ok (.iload_n 2, 1) := by decide +kernel
theorem dX7_held_15 : decode cX7_held 15 = .ok (.goto 4, 3) := by decide +kernel
theorem dX7_held_18 : decode cX7_held 18 = .ok (.iload_n 0, 1) := by decide +kernel
theorem dX7_held_19 : decode cX7_held 19 = .ok (.ireturn, 1) := by decide +kernel
theorem dX7_copyAll_0 : decode cX7_copyAll 0 = .ok (.iconst 0, 1) := by decide +kernel
theorem dX7_copyAll_1 : decode cX7_copyAll 1 = .ok (.istore_n 2, 1) := by decide +kernel
theorem dX7_copyAll_2 : decode cX7_copyAll 2 = .ok (.iload_n 2, 1) := by decide +kernel
theorem dX7_copyAll_3 : decode cX7_copyAll 3 = .ok (.sipush 412, 3) := by decide +kernel
theorem dX7_copyAll_6 : decode cX7_copyAll 6 = .ok (.if_icmp .ge 15, 3) := by decide +kernel
theorem dX7_copyAll_9 : decode cX7_copyAll 9 = .ok (.aload_n 1, 1) := by decide +kernel
theorem dX7_copyAll_10 : decode cX7_copyAll 10 = .ok (.iload_n 2, 1) := by decide +kernel
theorem dX7_copyAll_11 : decode cX7_copyAll 11 = .ok (.aload_n 0, 1) := by decide +kernel
theorem dX7_copyAll_12 : decode cX7_copyAll 12 = .ok (.iload_n 2, 1) := by decide +kernel
theorem dX7_copyAll_13 : decode cX7_copyAll 13 = .ok (.iaload, 1) := by decide +kernel
theorem dX7_copyAll_14 : decode cX7_copyAll 14 = .ok (.iastore, 1) := by decide +kernel
theorem dX7_copyAll_15 : decode cX7_copyAll 15 = .ok (.iinc 2 1, 3) := by decide +kernel
theorem dX7_copyAll_18 : decode cX7_copyAll 18 = .ok (.goto (-16), 3) := by decide +kernel
theorem dX7_copyAll_21 : decode cX7_copyAll 21 = .ok (.return_, 1) := by decide +kernel
theorem dX7_isSlate_0 : decode cX7_isSlate 0 = .ok (.iload_n 1, 1) := by decide +kernel
theorem dX7_isSlate_1 : decode cX7_isSlate 1 = .ok (.iconst 0, 1) := by decide +kernel
theorem dX7_isSlate_2 : decode cX7_isSlate 2 = .ok (.aload_n 0, 1) := by decide +kernel
theorem dX7_isSlate_3 : decode cX7_isSlate 3 = .ok (.getfield 7, 3) := by decide +kernel
theorem dX7_isSlate_6 : decode cX7_isSlate 6 = .ok (.bipush 6, 2) := by decide +kernel
theorem dX7_isSlate_8 : decode cX7_isSlate 8 = .ok (.iaload, 1) := by decide +kernel
theorem dX7_isSlate_9 : decode cX7_isSlate 9 = .ok (.iconst 1, 1) := by decide +kernel
theorem dX7_isSlate_10 : decode cX7_isSlate 10 = .ok (.isub, 1) := by decide +kernel
theorem dX7_isSlate_11 : decode cX7_isSlate 11 = .ok (.invokestatic 47, 3) := by decide +kernel
theorem dX7_isSlate_14 : decode cX7_isSlate 14 = .ok (.ireturn, 1) := by decide +kernel
theorem dX7_its_0 : decode cX7_its 0 = .ok (.aload_n 0, 1) := by decide +kernel
