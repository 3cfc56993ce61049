theorem dX3_dryBut_42 : decode cX3_dryBut 42 = .ok (.goto (-37), 3) := by decide +kernel
theorem dX3_dryBut_45 : decode cX3_dryBut 45 = .ok (.lload_n 2, 1) := by decide +kernel
theorem dX3_dryBut_46 : decode cX3_dryBut 46 = .ok (.lreturn, 1) := by decide +kernel
theorem dX3_dryWith_0 : decode cX3_dryWith 0 = .ok (.aload_n 0, 1) := by decide +kernel
theorem dX3_dryWith_1 : decode cX3_dryWith 1 = .ok (.iconst 1, 1) := by decide +kernel
theorem dX3_dryWith_2 : decode cX3_dryWith 2 = .ok (.iload_n 1, 1) := by decide +kernel
theorem dX3_dryWith_3 : decode cX3_dryWith 3 = .ok (.ishl, 1) := by decide +kernel
theorem dX3_dryWith_4 : decode cX3_dryWith 4 = .ok (.invokevirtual 108, 3) := by decide +kernel
theorem dX3_dryWith_7 : decode cX3_dryWith 7 = .ok (.aload_n 0, 1) := by decide +kernel
theorem dX3_dryWith_8 : decode cX3_dryWith 8 = .ok (.getfield 11, 3) := by decide +kernel
theorem dX3_dryWith_11 : decode cX3_dryWith 11 = .ok (.iload_n 1, 1) := by decide +kernel
theorem dX3_dryWith_12 : decode cX3_dryWith 12 = .ok (.aaload, 1) := by decide +kernel
theorem dX3_dryWith_13 : decode cX3_dryWith 13 = .ok (.iload_n 2, 1) := by decide +kernel
theorem dX3_dryWith_14 : decode cX3_dryWith 14 = .ok (.invokevirtual 87, 3) := by decide +kernel
theorem dX3_dryWith_17 : decode cX3_dryWith 17 = .ok (.invokestatic 105, 3) := by decide +kernel
theorem dX3_dryWith_20 : decode cX3_dryWith 20 = .ok (.lor, 1) := by decide +kernel
theorem dX3_dryWith_21 : decode cX3_dryWith 21 = .ok (.invokestatic 111, 3) := by decide +kernel
theorem dX3_dryWith_24 : decode cX3_dryWith 24 = .ok (.ireturn, 1) := by decide +kernel
theorem dX3_bestCell_0 : decode cX3_bestCell 0 = .ok (.iconst (-1), 1) := by decide +kernel
theorem dX3_bestCell_1 : decode cX3_bestCell 1 = .ok (.istore_n 2, 1) := by decide +kernel
theorem dX3_bestCell_2 : decode cX3_bestCell 2 = .ok (.iconst (-1), 1) := by decide +kernel
theorem dX3_bestCell_3 : decode cX3_bestCell 3 = .ok (.istore_n 3, 1) := by decide +kernel
theorem dX3_bestCell_4 : decode cX3_bestCell 4 = .ok (.iconst 0, 1) := by decide +kernel
theorem dX3_bestCell_5 : decode cX3_bestCell 5 = .ok (.istore 4, 2) := by decide +kernel
theorem dX3_bestCell_7 : decode cX3_bestCell 7 = .ok (.iload 4, 2) := by decide +kernel
theorem dX3_bestCell_9 : decode cX3_bestCell 9 = .ok (.bipush 48, 2) := by decide +kernel
theorem dX3_bestCell_11 : decode cX3_bestCell 11 = .ok (.if_icmp .ge 41, 3) := by decide +kernel
theorem dX3_bestCell_14 : decode cX3_bestCell 14 = .ok (.aload_n 0, 1) := by decide +kernel
theorem dX3_bestCell_15 : decode cX3_bestCell 15 = .ok (.iload_n 1, 1) := by decide +kernel
theorem dX3_bestCell_16 : decode cX3_bestCell 16 = .ok (.iload 4, 2) := by decide +kernel
theorem dX3_bestCell_18 : decode cX3_bestCell 18 = .ok (.invokevirtual 117, 3) := by decide +kernel
theorem dX3_bestCell_21 : decode cX3_bestCell 21 = .ok (.ifCond .eq 25, 3) := by decide +kernel
theorem dX3_bestCell_24 : decode cX3_bestCell 24 = .ok (.aload_n 0, 1) := by decide +kernel
theorem dX3_bestCell_25 : decode cX3_bestCell 25 = .ok (.iload_n 1, 1) := by decide +kernel
theorem dX3_bestCell_26 : decode cX3_bestCell 26 = .ok (.iload 4, 2) := by decide +kernel
theorem dX3_bestCell_28 : decode cX3_bestCell 28 = .ok (.invokevirtual 121, 3) := by decide +kernel
theorem dX3_bestCell_31 : decode cX3_bestCell 31 = .ok (.iload_n 3, 1) := by decide +kernel
theorem dX3_bestCell_32 : decode cX3_bestCell 32 = .ok (.if_icmp .le 14, 3) := by decide +kernel
theorem dX3_bestCell_35 : decode cX3_bestCell 35 = .ok (.iload 4, 2) := by decide +kernel
theorem dX3_bestCell_37 : decode cX3_bestCell 37 = .ok (.istore_n 2, 1) := by decide +kernel
theorem dX3_bestCell_38 : decode cX3_bestCell 38 = .ok (.aload_n 0, 1) := by decide +kernel
theorem dX3_bestCell_39 : decode cX3_bestCell 39 = .ok (.iload_n 1, 1) := by decide +kernel
theorem dX3_bestCell_40 : decode cX3_bestCell 40 = .ok (.iload 4, 2) := by decide +kernel
theorem dX3_bestCell_42 : decode cX3_bestCell 42 = .ok (.invokevirtual 121, 3) := by decide +kernel
theorem dX3_bestCell_45 : decode cX3_bestCell 45 = .ok (.istore_n 3, 1) := by decide +kernel
theorem dX3_bestCell_46 : decode cX3_bestCell 46 = .ok (.iinc 4 1, 3) := by decide +kernel
theorem dX3_bestCell_49 : decode cX3_bestCell 49 = .ok (.goto (-42), 3) := by decide +kernel
theorem dX3_bestCell_52 : decode cX3_bestCell 52 = .ok (.iload_n 2, 1) := by decide +kernel
theorem dX3_bestCell_53 : decode cX3_bestCell 53 = .ok (.ireturn, 1) := by decide +kernel
theorem dX3_lyingOver_0 : decode cX3_lyingOver 0 = .ok (.iconst 0, 1) := by decide +kernel
theorem dX3_lyingOver_1 : decode cX3_lyingOver 1 = .ok (.istore_n 2, 1) := by decide +kernel
theorem dX3_lyingOver_2 : decode cX3_lyingOver 2 = .ok (.iconst 0, 1) := by decide +kernel
theorem dX3_lyingOver_3 : decode cX3_lyingOver 3 = .ok (.istore_n 3, 1) := by decide +kernel
theorem dX3_lyingOver_4 : decode cX3_lyingOver 4 = .ok (.iload_n 3, 1) := by decide +kernel
theorem dX3_lyingOver_5 : decode cX3_lyingOver 5 = .ok (.aload_n 0, 1) := by decide +kernel
theorem dX3_lyingOver_6 : decode cX3_lyingOver 6 = .ok (.getfield 17, 3) := by decide +kernel
theorem dX3_lyingOver_9 : decode cX3_lyingOver 9 = .ok (.if_icmp .ge 31, 3) := by decide +kernel
theorem dX3_lyingOver_12 : decode cX3_lyingOver 12 = .ok (.iload_n 2, 1) := by decide +kernel
theorem dX3_lyingOver_13 : decode cX3_lyingOver 13 = .ok (.aload_n 0, 1) := by decide +kernel
theorem dX3_lyingOver_14 : decode cX3_lyingOver 14 = .ok (.getfield 11, 3) := by decide +kernel
theorem dX3_lyingOver_17 : decode cX3_lyingOver 17 = .ok (.iload_n 3, 1) := by decide +kernel
theorem dX3_lyingOver_18 : decode cX3_lyingOver 18 = .ok (.aaload, 1) := by decide +kernel
theorem dX3_lyingOver_19 : decode cX3_lyingOver 19 = .ok (.invokevirtual 91, 3) := by decide +kernel
theorem dX3_lyingOver_22 : decode cX3_lyingOver 22 = .ok (.invokestatic 105, 3) := by decide +kernel
theorem dX3_lyingOver_25 : decode cX3_lyingOver 25 = .ok (.iload_n 1, 1) := by decide +kernel
theorem dX3_lyingOver_26 : decode cX3_lyingOver 26 = .ok (.lushr, 1) := by decide +kernel
theorem dX3_lyingOver_27 : decode cX3_lyingOver 27 = .ok (.lconst 1, 1) := by decide +kernel
theorem dX3_lyingOver_28 : decode cX3_lyingOver 28 = .ok (.land, 1) := by decide +kernel
theorem dX3_lyingOver_29 : decode cX3_lyingOver 29 = .ok (.l2i, 1) := by decide +kernel
theorem dX3_lyingOver_30 : decode cX3_lyingOver 30 = .ok (.iload_n 3, 1) := by decide +kernel
theorem dX3_lyingOver_31 : decode cX3_lyingOver 31 = .ok (.ishl, 1) := by decide +kernel
theorem dX3_lyingOver_32 : decode cX3_lyingOver 32 = .ok (.ior, 1) := by decide +kernel
theorem dX3_lyingOver_33 : decode cX3_lyingOver 33 = .ok (.istore_n 2, 1) := by decide +kernel
theorem dX3_lyingOver_34 : decode cX3_lyingOver 34 = .ok (.iinc 3 1, 3) := by decide +kernel
theorem dX3_lyingOver_37 : decode cX3_lyingOver 37 = .ok (.goto (-33), 3) := by decide +kernel
theorem dX3_lyingOver_40 : decode cX3_lyingOver 40 = .ok (.iload_n 2, 1) := by decide +kernel
theorem dX3_lyingOver_41 : decode cX3_lyingOver 41 = .ok (.ireturn, 1) := by decide +kernel
theorem dX3_toComeTo_0 : decode cX3_toComeTo 0 = .ok (.iload_n 1, 1) := by decide +kernel
theorem dX3_toComeTo_1 : decode cX3_toComeTo 1 = .ok (.istore_n 2, 1) := by decide +kernel
theorem dX3_toComeTo_2 : decode cX3_toComeTo 2 = .ok (.iconst 5, 1) := by decide +kernel
theorem dX3_toComeTo_3 : decode cX3_toComeTo 3 = .ok (.istore_n 3, 1) := by decide +kernel
theorem dX3_toComeTo_4 : decode cX3_toComeTo 4 = .ok (.iload_n 3, 1) := by decide +kernel
theorem dX3_toComeTo_5 : decode cX3_toComeTo 5 = .ok (.ifCond .le 79, 3) := by decide +kernel
theorem dX3_toComeTo_8 : decode cX3_toComeTo 8 = .ok (.aload_n 0, 1) := by decide +kernel
theorem dX3_toComeTo_9 : decode cX3_toComeTo 9 = .ok (.iload_n 2, 1) := by decide +kernel
theorem dX3_toComeTo_10 : decode cX3_toComeTo 10 = .ok (.iload_n 3, 1) := by decide +kernel
theorem dX3_toComeTo_11 : decode cX3_toComeTo 11 = .ok (.invokevirtual 124, 3) := by decide +kernel
theorem dX3_toComeTo_14 : decode cX3_toComeTo 14 = .ok (.lstore 4, 2) := by decide +kernel
theorem dX3_toComeTo_16 : decode cX3_toComeTo 16 = .ok (.iconst 0, 1) := by decide +kernel
theorem dX3_toComeTo_17 : decode cX3_toComeTo 17 = .ok (.istore 6, 2) := by decide +kernel
theorem dX3_toComeTo_19 : decode cX3_toComeTo 19 = .ok (.iload 6, 2) := by decide +kernel
theorem dX3_toComeTo_21 : decode cX3_toComeTo 21 = .ok (.aload_n 0, 1) := by decide +kernel
theorem dX3_toComeTo_22 : decode cX3_toComeTo 22 = .ok (.getfield 17, 3) := by decide +kernel
theorem dX3_toComeTo_25 : decode cX3_toComeTo 25 = .ok (.if_icmp .ge 53, 3) := by decide +kernel
theorem dX3_toComeTo_28 : decode cX3_toComeTo 28 = .ok (.aload_n 0, 1) := by decide +kernel
theorem dX3_toComeTo_29 : decode cX3_toComeTo 29 = .ok (.getfield 11, 3) := by decide +kernel
theorem dX3_toComeTo_32 : decode cX3_toComeTo 32 = .ok (.iload 6, 2) := by decide +kernel
theorem dX3_toComeTo_34 : decode cX3_toComeTo 34 = .ok (.aaload, 1) := by decide +kernel
theorem dX3_toComeTo_35 : decode cX3_toComeTo 35 = .ok (.invokevirtual 128, 3) := by decide +kernel
theorem dX3_toComeTo_38 : decode cX3_toComeTo 38 = .ok (.iload_n 3, 1) := by decide +kernel
theorem dX3_toComeTo_39 : decode cX3_toComeTo 39 = .ok (.iconst 1, 1) := by decide +kernel
theorem dX3_toComeTo_40 : decode cX3_toComeTo 40 = .ok (.isub, 1) := by decide +kernel
theorem dX3_toComeTo_41 : decode cX3_toComeTo 41 = .ok (.if_icmp .ne 31, 3) := by decide +kernel
theorem dX3_toComeTo_44 : decode cX3_toComeTo 44 = .ok (.aload_n 0, 1) := by decide +kernel
theorem dX3_toComeTo_45 : decode cX3_toComeTo 45 = .ok (.getfield 11, 3) := by decide +kernel
theorem dX3_toComeTo_48 : decode cX3_toComeTo 48 = .ok (.iload 6, 2) := by decide +kernel
theorem dX3_toComeTo_50 : decode cX3_toComeTo 50 = .ok (.aaload, 1) := by decide +kernel
theorem dX3_toComeTo_51 : decode cX3_toComeTo 51 = .ok (.invokevirtual 91, 3) := by decide +kernel
theorem dX3_toComeTo_54 : decode cX3_toComeTo 54 = .ok (.invokestatic 83, 3) := by decide +kernel
theorem dX3_toComeTo_57 : decode cX3_toComeTo 57 = .ok (.lload 4, 2) := by decide +kernel
theorem dX3_toComeTo_59 : decode cX3_toComeTo 59 = .ok (.land, 1) := by decide +kernel
theorem dX3_toComeTo_60 : decode cX3_toComeTo 60 = .ok (.lconst 0, 1) := by decide +kernel
theorem dX3_toComeTo_61 : decode cX3_toComeTo 61 = .ok (.lcmp, 1) := by decide +kernel
theorem dX3_toComeTo_62 : decode cX3_toComeTo 62 = .ok (.ifCond .eq 10, 3) := by decide +kernel
theorem dX3_toComeTo_65 : decode cX3_toComeTo 65 = .ok (.iload_n 2, 1) := by decide +kernel
theorem dX3_toComeTo_66 : decode cX3_toComeTo 66 = .ok (.iconst 1, 1) := by decide +kernel
theorem dX3_toComeTo_67 : decode cX3_toComeTo 67 = .ok (.iload 6, 2) := by decide +kernel
theorem dX3_toComeTo_69 : decode cX3_toComeTo 69 = .ok (.ishl, 1) := by decide +kernel
theorem dX3_toComeTo_70 : decode cX3_toComeTo 70 = .ok (.ior, 1) := by decide +kernel
theorem dX3_toComeTo_71 : decode cX3_toComeTo 71 = .ok (.istore_n 2, 1) := by decide +kernel
theorem dX3_toComeTo_72 : decode cX3_toComeTo 72 = .ok (.iinc 6 1, 3) := by decide +kernel
theorem dX3_toComeTo_75 : decode cX3_toComeTo 75 = .ok (.goto (-56), 3) := by decide +kernel
theorem dX3_toComeTo_78 : decode cX3_toComeTo 78 = .ok (.iinc 3 (-1), 3) := by decide +kernel
theorem dX3_toComeTo_81 : decode cX3_toComeTo 81 = .ok (.goto (-77), 3) := by decide +kernel
theorem dX3_toComeTo_84 : decode cX3_toComeTo 84 = .ok (.iload_n 2, 1) := by decide +kernel
theorem dX3_toComeTo_85 : decode cX3_toComeTo 85 = .ok (.ireturn, 1) := by decide +kernel
theorem dX3_ownOf_0 : decode cX3_ownOf 0 = .ok (.lconst 0, 1) := by decide +kernel
theorem dX3_ownOf_1 : decode cX3_ownOf 1 = .ok (.lstore_n 3, 1) := by decide +kernel
theorem dX3_ownOf_2 : decode cX3_ownOf 2 = .ok (.iconst 0, 1) := by decide +kernel
theorem dX3_ownOf_3 : decode cX3_ownOf 3 = .ok (.istore 5, 2) := by decide +kernel
theorem dX3_ownOf_5 : decode cX3_ownOf 5 = .ok (.iload 5, 2) := by decide +kernel
theorem dX3_ownOf_7 : decode cX3_ownOf 7 = .ok (.aload_n 0, 1) := by decide +kernel
theorem dX3_ownOf_8 : decode cX3_ownOf 8 = .ok (.getfield 17, 3) := by decide +kernel
theorem dX3_ownOf_11 : decode cX3_ownOf 11 = .ok (.if_icmp .ge 46, 3) := by decide +kernel
theorem dX3_ownOf_14 : decode cX3_ownOf 14 = .ok (.iload_n 1, 1) := by decide +kernel
theorem dX3_ownOf_15 : decode cX3_ownOf 15 = .ok (.iload 5, 2) := by decide +kernel
theorem dX3_ownOf_17 : decode cX3_ownOf 17 = .ok (.ishr, 1) := by decide +kernel
theorem dX3_ownOf_18 : decode cX3_ownOf 18 = .ok (.iconst 1, 1) := by decide +kernel
theorem dX3_ownOf_19 : decode cX3_ownOf 19 = .ok (.iand, 1) := by decide +kernel
theorem dX3_ownOf_20 : decode cX3_ownOf 20 = .ok (.iconst 1, 1) := by decide +kernel
theorem dX3_ownOf_21 : decode cX3_ownOf 21 = .ok (.if_icmp .ne 30, 3) := by decide +kernel
theorem dX3_ownOf_24 : decode cX3_ownOf 24 = .ok (.aload_n 0, 1) := by decide +kernel
theorem dX3_ownOf_25 : decode cX3_ownOf 25 = .ok (.getfield 11, 3) := by decide +kernel
theorem dX3_ownOf_28 : decode cX3_ownOf 28 = .ok (.iload 5, 2) := by decide +kernel
theorem dX3_ownOf_30 : decode cX3_ownOf 30 = .ok (.aaload, 1) := by decide +kernel
theorem dX3_ownOf_31 : decode cX3_ownOf 31 = .ok (.invokevirtual 128, 3) := by decide +kernel
theorem dX3_ownOf_34 : decode cX3_ownOf 34 = .ok (.iload_n 2, 1) := by decide +kernel
theorem dX3_ownOf_35 : decode cX3_ownOf 35 = .ok (.if_icmp .ne 16, 3) := by decide +kernel
theorem dX3_ownOf_38 : decode cX3_ownOf 38 = .ok (.lload_n 3, 1) := by decide +kernel
theorem dX3_ownOf_39 : decode cX3_ownOf 39 = .ok (.aload_n 0, 1) := by decide +kernel
theorem dX3_ownOf_40 : decode cX3_ownOf 40 = .ok (.getfield 11, 3) := by decide +kernel
theorem dX3_ownOf_43 : decode cX3_ownOf 43 = .ok (.iload 5, 2) := by decide +kernel
theorem dX3_ownOf_45 : decode cX3_ownOf 45 = .ok (.aaload, 1) := by decide +kernel
theorem dX3_ownOf_46 : decode cX3_ownOf 46 = .ok (.invokevirtual 91, 3) := by decide +kernel
theorem dX3_ownOf_49 : decode cX3_ownOf 49 = .ok (.lor, 1) := by decide +kernel
theorem dX3_ownOf_50 : decode cX3_ownOf 50 = .ok (.lstore_n 3, 1) := by decide +kernel
theorem dX3_ownOf_51 : decode cX3_ownOf 51 = .ok (.iinc 5 1, 3) := by decide +kernel
theorem dX3_ownOf_54 : decode cX3_ownOf 54 = .ok (.goto (-49), 3) := by decide +kernel
theorem dX3_ownOf_57 : decode cX3_ownOf 57 = .ok (.lload_n 3, 1) := by decide +kernel
theorem dX3_ownOf_58 : decode cX3_ownOf 58 = .ok (.lreturn, 1) := by decide +kernel
theorem dX3_blown_0 : decode cX3_blown 0 = .ok (.iconst 0, 1) := by decide +kernel
theorem dX3_blown_1 : decode cX3_blown 1 = .ok (.istore_n 2, 1) := by decide +kernel
theorem dX3_blown_2 : decode cX3_blown 2 = .ok (.lconst 0, 1) := by decide +kernel
theorem dX3_blown_3 : decode cX3_blown 3 = .ok (.lstore_n 3, 1) := by decide +kernel
theorem dX3_blown_4 : decode cX3_blown 4 = .ok (.iconst 0, 1) := by decide +kernel
theorem dX3_blown_5 : decode cX3_blown 5 = .ok (.istore 5, 2) := by decide +kernel
theorem dX3_blown_7 : decode cX3_blown 7 = .ok (.iload 5, 2) := by decide +kernel
theorem dX3_blown_9 : decode cX3_blown 9 = .ok (.bipush 6, 2) := by decide +kernel
theorem dX3_blown_11 : decode cX3_blown 11 = .ok (.if_icmp .ge 90, 3) := by decide +kernel
theorem dX3_blown_14 : decode cX3_blown 14 = .ok (.iconst 0, 1) := by decide +kernel
theorem dX3_blown_15 : decode cX3_blown 15 = .ok (.istore 6, 2) := by decide +kernel
theorem dX3_blown_17 : decode cX3_blown 17 = .ok (.iload 6, 2) := by decide +kernel
theorem dX3_blown_19 : decode cX3_blown 19 = .ok (.aload_n 0, 1) := by decide +kernel
theorem dX3_blown_20 : decode cX3_blown 20 = .ok (.getfield 17, 3) := by decide +kernel
theorem dX3_blown_23 : decode cX3_blown 23 = .ok (.if_icmp .ge 59, 3) := by decide +kernel
theorem dX3_blown_26 : decode cX3_blown 26 = .ok (.aload_n 0, 1) := by decide +kernel
theorem dX3_blown_27 : decode cX3_blown 27 = .ok (.getfield 11, 3) := by decide +kernel
theorem dX3_blown_30 : decode cX3_blown 30 = .ok (.iload 6, 2) := by decide +kernel
theorem dX3_blown_32 : decode cX3_blown 32 = .ok (.aaload, 1) := by decide +kernel
theorem dX3_blown_33 : decode cX3_blown 33 = .ok (.invokevirtual 128, 3) := by decide +kernel
theorem dX3_blown_36 : decode cX3_blown 36 = .ok (.iload 5, 2) := by decide +kernel
theorem dX3_blown_38 : decode cX3_blown 38 = .ok (.if_icmp .ne 38, 3) := by decide +kernel
theorem dX3_blown_41 : decode cX3_blown 41 = .ok (.aload_n 0, 1) := by decide +kernel
theorem dX3_blown_42 : decode cX3_blown 42 = .ok (.getfield 11, 3) := by decide +kernel
theorem dX3_blown_45 : decode cX3_blown 45 = .ok (.iload 6, 2) := by decide +kernel
theorem dX3_blown_47 : decode cX3_blown 47 = .ok (.aaload, 1) := by decide +kernel
theorem dX3_blown_48 : decode cX3_blown 48 = .ok (.invokevirtual 91, 3) := by decide +kernel
theorem dX3_blown_51 : decode cX3_blown 51 = .ok (.lload_n 3, 1) := by decide +kernel
theorem dX3_blown_52 : decode cX3_blown 52 = .ok (.land, 1) := by decide +kernel
theorem dX3_blown_53 : decode cX3_blown 53 = .ok (.lconst 0, 1) := by decide +kernel
theorem dX3_blown_54 : decode cX3_blown 54 = .ok (.lcmp, 1) := by decide +kernel
theorem dX3_blown_55 : decode cX3_blown 55 = .ok (.ifCond .ne 21, 3) := by decide +kernel
theorem dX3_blown_58 : decode cX3_blown 58 = .ok (.aload_n 0, 1) := by decide +kernel
theorem dX3_blown_59 : decode cX3_blown 59 = .ok (.iload 6, 2) := by decide +kernel
theorem dX3_blown_61 : decode cX3_blown 61 = .ok (.iload_n 1, 1) := by decide +kernel
theorem dX3_blown_62 : decode cX3_blown 62 = .ok (.invokevirtual 132, 3) := by decide +kernel
theorem dX3_blown_65 : decode cX3_blown 65 = .ok (.iload_n 1, 1) := by decide +kernel
theorem dX3_blown_66 : decode cX3_blown 66 = .ok (.if_icmp .ge 10, 3) := by decide +kernel
theorem dX3_blown_69 : decode cX3_blown 69 = .ok (.iload_n 2, 1) := by decide +kernel
theorem dX3_blown_70 : decode cX3_blown 70 = .ok (.iconst 1, 1) := by decide +kernel
theorem dX3_blown_71 : decode cX3_blown 71 = .ok (.iload 6, 2) := by decide +kernel
theorem dX3_blown_73 : decode cX3_blown 73 = .ok (.ishl, 1) := by decide +kernel
theorem dX3_blown_74 : decode cX3_blown 74 = .ok (.ior, 1) := by decide +kernel
theorem dX3_blown_75 : decode cX3_blown 75 = .ok (.istore_n 2, 1) := by decide +kernel
theorem dX3_blown_76 : decode cX3_blown 76 = .ok (.iinc 6 1, 3) := by decide +kernel
theorem dX3_blown_79 : decode cX3_blown 79 = .ok (.goto (-62), 3) := by decide +kernel
theorem dX3_blown_82 : decode cX3_blown 82 = .ok (.aload_n 0, 1) := by decide +kernel
theorem dX3_blown_83 : decode cX3_blown 83 = .ok (.iload_n 2, 1) := by decide +kernel
theorem dX3_blown_84 : decode cX3_blown 84 = .ok (.iconst (-1), 1) := by decide +kernel
theorem dX3_blown_85 : decode cX3_blown 85 = .ok (.ixor, 1) := by decide +kernel
theorem dX3_blown_86 : decode cX3_blown 86 = .ok (.iload 5, 2) := by decide +kernel
theorem dX3_blown_88 : decode cX3_blown 88 = .ok (.invokevirtual 124, 3) := by decide +kernel
theorem dX3_blown_91 : decode cX3_blown 91 = .ok (.invokestatic 83, 3) := by decide +kernel
theorem dX3_blown_94 : decode cX3_blown 94 = .ok (.lstore_n 3, 1) := by decide +kernel
theorem dX3_blown_95 : decode cX3_blown 95 = .ok (.iinc 5 1, 3) := by decide +kernel
theorem dX3_blown_98 : decode cX3_blown 98 = .ok (.goto (-91), 3) := by decide +kernel
theorem dX3_blown_101 : decode cX3_blown 101 = .ok (.iload_n 2, 1) := by decide +kernel
theorem dX3_blown_102 : decode cX3_blown 102 = .ok (.ireturn, 1) := by decide +kernel
theorem dX3_takeOff_0 : decode cX3_takeOff 0 = .ok (.iconst 0, 1) := by decide +kernel
theorem dX3_takeOff_1 : decode cX3_takeOff 1 = .ok (.istore_n 2, 1) := by decide +kernel
theorem dX3_takeOff_2 : decode cX3_takeOff 2 = .ok (.iload_n 2, 1) := by decide +kernel
theorem dX3_takeOff_3 : decode cX3_takeOff 3 = .ok (.aload_n 0, 1) := by decide +kernel
theorem dX3_takeOff_4 : decode cX3_takeOff 4 = .ok (.getfield 17, 3) := by decide +kernel
theorem dX3_takeOff_7 : decode cX3_takeOff 7 = .ok (.if_icmp .ge 28, 3) := by decide +kernel
theorem dX3_takeOff_10 : decode cX3_takeOff 10 = .ok (.iload_n 1, 1) := by decide +kernel
theorem dX3_takeOff_11 : decode cX3_takeOff 11 = .ok (.iload_n 2, 1) := by decide +kernel
theorem dX3_takeOff_12 : decode cX3_takeOff 12 = .ok (.ishr, 1) := by decide +kernel
theorem dX3_takeOff_13 : decode cX3_takeOff 13 = .ok (.iconst 1, 1) := by decide +kernel
theorem dX3_takeOff_14 : decode cX3_takeOff 14 = .ok (.iand, 1) := by decide +kernel
theorem dX3_takeOff_15 : decode cX3_takeOff 15 = .ok (.iconst 1, 1) := by decide +kernel
theorem dX3_takeOff_16 : decode cX3_takeOff 16 = .ok (.if_icmp .ne 13, 3) := by decide +kernel
theorem dX3_takeOff_19 : decode cX3_takeOff 19 = .ok (.aload_n 0, 1) := by decide +kernel
theorem dX3_takeOff_20 : decode cX3_takeOff 20 = .ok (.getfield 11, 3) := by decide +kernel
theorem dX3_takeOff_23 : decode cX3_takeOff 23 = .ok (.iload_n 2, 1) := by decide +kernel
theorem dX3_takeOff_24 : decode cX3_takeOff 24 = .ok (.aaload, 1) := by decide +kernel
theorem dX3_takeOff_25 : decode cX3_takeOff 25 = .ok (.iconst (-1), 1) := by decide +kernel
theorem dX3_takeOff_26 : decode cX3_takeOff 26 = .ok (.putfield 135, 3) := by decide +kernel
theorem dX3_takeOff_29 : decode cX3_takeOff 29 = .ok (.iinc 2 1, 3) := by decide +kernel
theorem dX3_takeOff_32 : decode cX3_takeOff 32 = .ok (.goto (-30), 3) := by decide +kernel
theorem dX3_takeOff_35 : decode cX3_takeOff 35 = .ok (.return_, 1) := by decide +kernel
theorem dX3_mustBeFast_0 : decode cX3_mustBeFast 0 = .ok (.lconst 0, 1) := by decide +kernel
theorem dX3_mustBeFast_1 : decode cX3_mustBeFast 1 = .ok (.lstore_n 2, 1) := by decide +kernel
theorem dX3_mustBeFast_2 : decode cX3_mustBeFast 2 = .ok (.iconst 0, 1) := by decide +kernel
theorem dX3_mustBeFast_3 : decode cX3_mustBeFast 3 = .ok (.istore 4, 2) := by decide +kernel
theorem dX3_mustBeFast_5 : decode cX3_mustBeFast 5 = .ok (.iload 4, 2) := by decide +kernel
theorem dX3_mustBeFast_7 : decode cX3_mustBeFast 7 = .ok (.aload_n 0, 1) := by decide +kernel
theorem dX3_mustBeFast_8 : decode cX3_mustBeFast 8 = .ok (.getfield 17, 3) := by decide +kernel
theorem dX3_mustBeFast_11 : decode cX3_mustBeFast 11 = .ok (.if_icmp .ge 25, 3) := by decide +kernel
theorem dX3_mustBeFast_14 : decode cX3_mustBeFast 14 = .ok (.lload_n 2, 1) := by decide +kernel
theorem dX3_mustBeFast_15 : decode cX3_mustBeFast 15 = .ok (.aload_n 0, 1) := by decide +kernel
theorem dX3_mustBeFast_16 : decode cX3_mustBeFast 16 = .ok (.getfield 11, 3) := by decide +kernel
theorem dX3_mustBeFast_19 : decode cX3_mustBeFast 19 = .ok (.iload 4, 2) := by decide +kernel
theorem dX3_mustBeFast_21 : decode cX3_mustBeFast 21 = .ok (.aaload, 1) := by decide +kernel
theorem dX3_mustBeFast_22 : decode cX3_mustBeFast 22 = .ok (.invokevirtual 91, 3) := by decide +kernel
theorem dX3_mustBeFast_25 : decode cX3_mustBeFast 25 = .ok (.invokestatic 83, 3) := by decide +kernel
theorem dX3_mustBeFast_28 : decode cX3_mustBeFast 28 = .ok (.lor, 1) := by decide +kernel
theorem dX3_mustBeFast_29 : decode cX3_mustBeFast 29 = .ok (.lstore_n 2, 1) := by decide +kernel
theorem dX3_mustBeFast_30 : decode cX3_mustBeFast 30 = .ok (.iinc 4 1, 3) := by decide +kernel
theorem dX3_mustBeFast_33 : decode cX3_mustBeFast 33 = .ok (.goto (-28), 3) := by decide +kernel
theorem dX3_mustBeFast_36 : decode cX3_mustBeFast 36 = .ok (.iconst 0, 1) := by decide +kernel
theorem dX3_mustBeFast_37 : decode cX3_mustBeFast 37 = .ok (.istore 4, 2) := by decide +kernel
theorem dX3_mustBeFast_39 : decode cX3_mustBeFast 39 = .ok (.iconst 0, 1) := by decide +kernel
theorem dX3_mustBeFast_40 : decode cX3_mustBeFast 40 = .ok (.istore 5, 2) := by decide +kernel
theorem dX3_mustBeFast_42 : decode cX3_mustBeFast 42 = .ok (.iload 5, 2) := by decide +kernel
theorem dX3_mustBeFast_44 : decode cX3_mustBeFast 44 = .ok (.aload_n 0, 1) := by decide +kernel
theorem dX3_mustBeFast_45 : decode cX3_mustBeFast 45 = .ok (.getfield 17, 3) := by decide +kernel
theorem dX3_mustBeFast_48 : decode cX3_mustBeFast 48 = .ok (.if_icmp .ge 59, 3) := by decide +kernel
theorem dX3_mustBeFast_51 : decode cX3_mustBeFast 51 = .ok (.aload_n 0, 1) := by decide +kernel
theorem dX3_mustBeFast_52 : decode cX3_mustBeFast 52 = .ok (.getfield 11, 3) := by decide +kernel
theorem dX3_mustBeFast_55 : decode cX3_mustBeFast 55 = .ok (.iload 5, 2) := by decide +kernel
theorem dX3_mustBeFast_57 : decode cX3_mustBeFast 57 = .ok (.aaload, 1) := by decide +kernel
theorem dX3_mustBeFast_58 : decode cX3_mustBeFast 58 = .ok (.invokevirtual 98, 3) := by decide +kernel
theorem dX3_mustBeFast_61 : decode cX3_mustBeFast 61 = .ok (.ifCond .eq 40, 3) := by decide +kernel
theorem dX3_mustBeFast_64 : decode cX3_mustBeFast 64 = .ok (.aload_n 0, 1) := by decide +kernel
theorem dX3_mustBeFast_65 : decode cX3_mustBeFast 65 = .ok (.getfield 11, 3) := by decide +kernel
theorem dX3_mustBeFast_68 : decode cX3_mustBeFast 68 = .ok (.iload 5, 2) := by decide +kernel
theorem dX3_mustBeFast_70 : decode cX3_mustBeFast 70 = .ok (.aaload, 1) := by decide +kernel
theorem dX3_mustBeFast_71 : decode cX3_mustBeFast 71 = .ok (.invokevirtual 91, 3) := by decide +kernel
theorem dX3_mustBeFast_74 : decode cX3_mustBeFast 74 = .ok (.lload_n 2, 1) := by decide +kernel
theorem dX3_mustBeFast_75 : decode cX3_mustBeFast 75 = .ok (.land, 1) := by decide +kernel
theorem dX3_mustBeFast_76 : decode cX3_mustBeFast 76 = .ok (.lconst 0, 1) := by decide +kernel
theorem dX3_mustBeFast_77 : decode cX3_mustBeFast 77 = .ok (.lcmp, 1) := by decide +kernel
theorem dX3_mustBeFast_78 : decode cX3_mustBeFast 78 = .ok (.ifCond .ne 23, 3) := by decide +kernel
theorem dX3_mustBeFast_81 : decode cX3_mustBeFast 81 = .ok (.aload_n 0, 1) := by decide +kernel
theorem dX3_mustBeFast_82 : decode cX3_mustBeFast 82 = .ok (.iload 5, 2) := by decide +kernel
theorem dX3_mustBeFast_84 : decode cX3_mustBeFast 84 = .ok (.iload_n 1, 1) := by decide +kernel
theorem dX3_mustBeFast_85 : decode cX3_mustBeFast 85 = .ok (.invokevirtual 132, 3) := by decide +kernel
theorem dX3_mustBeFast_88 : decode cX3_mustBeFast 88 = .ok (.iload_n 1, 1) := by decide +kernel
theorem dX3_mustBeFast_89 : decode cX3_mustBeFast 89 = .ok (.if_icmp .ge 12, 3) := by decide +kernel
theorem dX3_mustBeFast_92 : decode cX3_mustBeFast 92 = .ok (.iload 4, 2) := by decide +kernel
theorem dX3_mustBeFast_94 : decode cX3_mustBeFast 94 = .ok (.iconst 1, 1) := by decide +kernel
theorem dX3_mustBeFast_95 : decode cX3_mustBeFast 95 = .ok (.iload 5, 2) := by decide +kernel
theorem dX3_mustBeFast_97 : decode cX3_mustBeFast 97 = .ok (.ishl, 1) := by decide +kernel
theorem dX3_mustBeFast_98 : decode cX3_mustBeFast 98 = .ok (.ior, 1) := by decide +kernel
theorem dX3_mustBeFast_99 : decode cX3_mustBeFast 99 = .ok (.istore 4, 2) := by decide +kernel
theorem dX3_mustBeFast_101 : decode cX3_mustBeFast 101 = .ok (.iinc 5 1, 3) := by decide +kernel
theorem dX3_mustBeFast_104 : decode cX3_mustBeFast 104 = .ok (.goto (-62), 3) := by decide +kernel
theorem dX3_mustBeFast_107 : decode cX3_mustBeFast 107 = .ok (.iload 4, 2) := by decide +kernel
theorem dX3_mustBeFast_109 : decode cX3_mustBeFast 109 = .ok (.ireturn, 1) := by decide +kernel
theorem dX3_ringing_0 : decode cX3_ringing 0 = .ok (.iconst 0, 1) := by decide +kernel
theorem dX3_ringing_1 : decode cX3_ringing 1 = .ok (.istore_n 1, 1) := by decide +kernel
theorem dX3_ringing_2 : decode cX3_ringing 2 = .ok (.iconst 0, 1) := by decide +kernel
theorem dX3_ringing_3 : decode cX3_ringing 3 = .ok (.istore_n 2, 1) := by decide +kernel
theorem dX3_ringing_4 : decode cX3_ringing 4 = .ok (.iload_n 2, 1) := by decide +kernel
theorem dX3_ringing_5 : decode cX3_ringing 5 = .ok (.aload_n 0, 1) := by decide +kernel
theorem dX3_ringing_6 : decode cX3_ringing 6 = .ok (.getfield 17, 3) := by decide +kernel
theorem dX3_ringing_9 : decode cX3_ringing 9 = .ok (.if_icmp .ge 69, 3) := by decide +kernel
theorem dX3_ringing_12 : decode cX3_ringing 12 = .ok (.iconst 0, 1) := by decide +kernel
theorem dX3_ringing_13 : decode cX3_ringing 13 = .ok (.istore_n 3, 1) := by decide +kernel
theorem dX3_ringing_14 : decode cX3_ringing 14 = .ok (.iload_n 3, 1) := by decide +kernel
theorem dX3_ringing_15 : decode cX3_ringing 15 = .ok (.iload_n 2, 1) := by decide +kernel
theorem dX3_ringing_16 : decode cX3_ringing 16 = .ok (.if_icmp .ge 56, 3) := by decide +kernel
theorem dX3_ringing_19 : decode cX3_ringing 19 = .ok (.aload_n 0, 1) := by decide +kernel
theorem dX3_ringing_20 : decode cX3_ringing 20 = .ok (.iload_n 2, 1) := by decide +kernel
theorem dX3_ringing_21 : decode cX3_ringing 21 = .ok (.iload_n 3, 1) := by decide +kernel
theorem dX3_ringing_22 : decode cX3_ringing 22 = .ok (.invokevirtual 138, 3) := by decide +kernel
theorem dX3_ringing_25 : decode cX3_ringing 25 = .ok (.ifCond .ne 12, 3) := by decide +kernel
theorem dX3_ringing_28 : decode cX3_ringing 28 = .ok (.aload_n 0, 1) := by decide +kernel
theorem dX3_ringing_29 : decode cX3_ringing 29 = .ok (.iload_n 3, 1) := by decide +kernel
theorem dX3_ringing_30 : decode cX3_ringing 30 = .ok (.iload_n 2, 1) := by decide +kernel
theorem dX3_ringing_31 : decode cX3_ringing 31 = .ok (.invokevirtual 138, 3) := by decide +kernel
theorem dX3_ringing_34 : decode cX3_ringing 34 = .ok (.ifCond .eq 32, 3) := by decide +kernel
theorem dX3_ringing_37 : decode cX3_ringing 37 = .ok (.aload_n 0, 1) := by decide +kernel
theorem dX3_ringing_38 : decode cX3_ringing 38 = .ok (.getfield 11, 3) := by decide +kernel
theorem dX3_ringing_41 : decode cX3_ringing 41 = .ok (.iload_n 2, 1) := by decide +kernel
theorem dX3_ringing_42 : decode cX3_ringing 42 = .ok (.aaload, 1) := by decide +kernel
theorem dX3_ringing_43 : decode cX3_ringing 43 = .ok (.getfield 95, 3) := by decide +kernel
theorem dX3_ringing_46 : decode cX3_ringing 46 = .ok (.iload_n 3, 1) := by decide +kernel
theorem dX3_ringing_47 : decode cX3_ringing 47 = .ok (.if_icmp .eq 19, 3) := by decide +kernel
theorem dX3_ringing_50 : decode cX3_ringing 50 = .ok (.aload_n 0, 1) := by decide +kernel
theorem dX3_ringing_51 : decode cX3_ringing 51 = .ok (.getfield 11, 3) := by decide +kernel
theorem dX3_ringing_54 : decode cX3_ringing 54 = .ok (.iload_n 3, 1) := by decide +kernel
theorem dX3_ringing_55 : decode cX3_ringing 55 = .ok (.aaload, 1) := by decide +kernel
theorem dX3_ringing_56 : decode cX3_ringing 56 = .ok (.getfield 95, 3) := by decide +kernel
theorem dX3_ringing_59 : decode cX3_ringing 59 = .ok (.iload_n 2, 1) := by decide +kernel
theorem dX3_ringing_60 : decode cX3_ringing 60 = .ok (.if_icmp .eq 6, 3) := by decide +kernel
theorem dX3_ringing_63 : decode cX3_ringing 63 = .ok (.iinc 1 1, 3) := by decide +kernel
theorem dX3_ringing_66 : decode cX3_ringing 66 = .ok (.iinc 3 1, 3) := by decide +kernel
theorem dX3_ringing_69 : decode cX3_ringing 69 = .ok (.goto (-55), 3) := by decide +kernel
theorem dX3_ringing_72 : decode cX3_ringing 72 = .ok (.iinc 2 1, 3) := by decide +kernel
theorem dX3_ringing_75 : decode cX3_ringing 75 = .ok (.goto (-71), 3) := by decide +kernel
theorem dX3_ringing_78 : decode cX3_ringing 78 = .ok (.iload_n 1, 1) := by decide +kernel
theorem dX3_ringing_79 : decode cX3_ringing 79 = .ok (.ireturn, 1) := by decide +kernel
theorem dX3_follows_0 : decode cX3_follows 0 = .ok (.aload_n 0, 1) := by decide +kernel
theorem dX3_follows_1 : decode cX3_follows 1 = .ok (.getfield 11, 3) := by decide +kernel
theorem dX3_follows_4 : decode cX3_follows 4 = .ok (.iload_n 1, 1) := by decide +kernel
theorem dX3_follows_5 : decode cX3_follows 5 = .ok (.aaload, 1) := by decide +kernel
theorem dX3_follows_6 : decode cX3_follows 6 = .ok (.invokevirtual 98, 3) := by decide +kernel
theorem dX3_follows_9 : decode cX3_follows 9 = .ok (.ifCond .eq 59, 3) := by decide +kernel
theorem dX3_follows_12 : decode cX3_follows 12 = .ok (.aload_n 0, 1) := by decide +kernel
theorem dX3_follows_13 : decode cX3_follows 13 = .ok (.getfield 11, 3) := by decide +kernel
theorem dX3_follows_16 : decode cX3_follows 16 = .ok (.iload_n 1, 1) := by decide +kernel
theorem dX3_follows_17 : decode cX3_follows 17 = .ok (.aaload, 1) := by decide +kernel
theorem dX3_follows_18 : decode cX3_follows 18 = .ok (.invokevirtual 128, 3) := by decide +kernel
theorem dX3_follows_21 : decode cX3_follows 21 = .ok (.aload_n 0, 1) := by decide +kernel
theorem dX3_follows_22 : decode cX3_follows 22 = .ok (.getfield 11, 3) := by decide +kernel
theorem dX3_follows_25 : decode cX3_follows 25 = .ok (.iload_n 2, 1) := by decide +kernel
theorem dX3_follows_26 : decode cX3_follows 26 = .ok (.aaload, 1) := by decide +kernel
theorem dX3_follows_27 : decode cX3_follows 27 = .ok (.invokevirtual 128, 3) := by decide +kernel
theorem dX3_follows_30 : decode cX3_follows 30 = .ok (.if_icmp .ne 38, 3) := by decide +kernel
theorem dX3_follows_33 : decode cX3_follows 33 = .ok (.aload_n 0, 1) := by decide +kernel
theorem dX3_follows_34 : decode cX3_follows 34 = .ok (.getfield 11, 3) := by decide +kernel
theorem dX3_follows_37 : decode cX3_follows 37 = .ok (.iload_n 1, 1) := by decide +kernel
theorem dX3_follows_38 : decode cX3_follows 38 = .ok (.aaload, 1) := by decide +kernel
theorem dX3_follows_39 : decode cX3_follows 39 = .ok (.invokevirtual 141, 3) := by decide +kernel
theorem dX3_follows_42 : decode cX3_follows 42 = .ok (.aload_n 0, 1) := by decide +kernel
theorem dX3_follows_43 : decode cX3_follows 43 = .ok (.getfield 11, 3) := by decide +kernel
theorem dX3_follows_46 : decode cX3_follows 46 = .ok (.iload_n 2, 1) := by decide +kernel
theorem dX3_follows_47 : decode cX3_follows 47 = .ok (.aaload, 1) := by decide +kernel
theorem dX3_follows_48 : decode cX3_follows 48 = .ok (.invokevirtual 141, 3) := by decide +kernel
theorem dX3_follows_51 : decode cX3_follows 51 = .ok (.aload_n 0, 1) := by decide +kernel
theorem dX3_follows_52 : decode cX3_follows 52 = .ok (.getfield 11, 3) := by decide +kernel
theorem dX3_follows_55 : decode cX3_follows 55 = .ok (.iload_n 2, 1) := by decide +kernel
theorem dX3_follows_56 : decode cX3_follows 56 = .ok (.aaload, 1) := by decide +kernel
theorem dX3_follows_57 : decode cX3_follows 57 = .ok (.invokevirtual 144, 3) := by decide +kernel
theorem dX3_follows_60 : decode cX3_follows 60 = .ok (.iadd, 1) := by decide +kernel
theorem dX3_follows_61 : decode cX3_follows 61 = .ok (.if_icmp .ne 7, 3) := by decide +kernel
theorem dX3_follows_64 : decode cX3_follows 64 = .ok (.iconst 1, 1) := by decide +kernel
theorem dX3_follows_65 : decode cX3_follows 65 = .ok (.goto 4, 3) := by decide +kernel
theorem dX3_follows_68 : decode cX3_follows 68 = .ok (.iconst 0, 1) := by decide +kernel
theorem dX3_follows_69 : decode cX3_follows 69 = .ok (.ireturn, 1) := by decide +kernel
theorem dX3_passYear_0 : decode cX3_passYear 0 = .ok (.aload_n 0, 1) := by decide +kernel
theorem dX3_passYear_1 : decode cX3_passYear 1 = .ok (.iconst 0, 1) := by decide +kernel
theorem dX3_passYear_2 : decode cX3_passYear 2 = .ok (.invokevirtual 108, 3) := by decide +kernel
theorem dX3_passYear_5 : decode cX3_passYear 5 = .ok (.lstore_n 1, 1) := by decide +kernel
theorem dX3_passYear_6 : decode cX3_passYear 6 = .ok (.iconst 0, 1) := by decide +kernel
theorem dX3_passYear_7 : decode cX3_passYear 7 = .ok (.istore_n 3, 1) := by decide +kernel
theorem dX3_passYear_8 : decode cX3_passYear 8 = .ok (.iconst 0, 1) := by decide +kernel
theorem dX3_passYear_9 : decode cX3_passYear 9 = .ok (.istore 4, 2) := by decide +kernel
theorem dX3_passYear_11 : decode cX3_passYear 11 = .ok (.iload 4, 2) := by decide +kernel
theorem dX3_passYear_13 : decode cX3_passYear 13 = .ok (.bipush 48, 2) := by decide +kernel
theorem dX3_passYear_15 : decode cX3_passYear 15 = .ok (.if_icmp .ge 46, 3) := by decide +kernel
theorem dX3_passYear_18 : decode cX3_passYear 18 = .ok (.lload_n 1, 1) := by decide +kernel
theorem dX3_passYear_19 : decode cX3_passYear 19 = .ok (.iload 4, 2) := by decide +kernel
theorem dX3_passYear_21 : decode cX3_passYear 21 = .ok (.lushr, 1) := by decide +kernel
theorem dX3_passYear_22 : decode cX3_passYear 22 = .ok (.lconst 1, 1) := by decide +kernel
theorem dX3_passYear_23 : decode cX3_passYear 23 = .ok (.land, 1) := by decide +kernel
theorem dX3_passYear_24 : decode cX3_passYear 24 = .ok (.lconst 0, 1) := by decide +kernel
theorem dX3_passYear_25 : decode cX3_passYear 25 = .ok (.lcmp, 1) := by decide +kernel
theorem dX3_passYear_26 : decode cX3_passYear 26 = .ok (.ifCond .ne 29, 3) := by decide +kernel
theorem dX3_passYear_29 : decode cX3_passYear 29 = .ok (.iload_n 3, 1) := by decide +kernel
theorem dX3_passYear_30 : decode cX3_passYear 30 = .ok (.aload_n 0, 1) := by decide +kernel
theorem dX3_passYear_31 : decode cX3_passYear 31 = .ok (.getfield 42, 3) := by decide +kernel
theorem dX3_passYear_34 : decode cX3_passYear 34 = .ok (.iconst 1, 1) := by decide +kernel
theorem dX3_passYear_35 : decode cX3_passYear 35 = .ok (.aaload, 1) := by decide +kernel
theorem dX3_passYear_36 : decode cX3_passYear 36 = .ok (.iload 4, 2) := by decide +kernel
theorem dX3_passYear_38 : decode cX3_passYear 38 = .ok (.bipush 8, 2) := by decide +kernel
theorem dX3_passYear_40 : decode cX3_passYear 40 = .ok (.idiv, 1) := by decide +kernel
theorem dX3_passYear_41 : decode cX3_passYear 41 = .ok (.iload 4, 2) := by decide +kernel
theorem dX3_passYear_43 : decode cX3_passYear 43 = .ok (.bipush 8, 2) := by decide +kernel
theorem dX3_passYear_45 : decode cX3_passYear 45 = .ok (.irem, 1) := by decide +kernel
theorem dX3_passYear_46 : decode cX3_passYear 46 = .ok (.aload_n 0, 1) := by decide +kernel
theorem dX3_passYear_47 : decode cX3_passYear 47 = .ok (.getfield 21, 3) := by decide +kernel
theorem dX3_passYear_50 : decode cX3_passYear 50 = .ok (.invokevirtual 77, 3) := by decide +kernel
theorem dX3_passYear_53 : decode cX3_passYear 53 = .ok (.iadd, 1) := by decide +kernel
theorem dX3_passYear_54 : decode cX3_passYear 54 = .ok (.istore_n 3, 1) := by decide +kernel
theorem dX3_passYear_55 : decode cX3_passYear 55 = .ok (.iinc 4 1, 3) := by decide +kernel
theorem dX3_passYear_58 : decode cX3_passYear 58 = .ok (.goto (-47), 3) := by decide +kernel
theorem dX3_passYear_61 : decode cX3_passYear 61 = .ok (.aload_n 0, 1) := by decide +kernel
theorem dX3_passYear_62 : decode cX3_passYear 62 = .ok (.ldc 147, 2) := by decide +kernel
theorem dX3_passYear_64 : decode cX3_passYear 64 = .ok (.aload_n 0, 1) := by decide +kernel
theorem dX3_passYear_65 : decode cX3_passYear 65 = .ok (.getfield 27, 3) := by decide +kernel
theorem dX3_passYear_68 : decode cX3_passYear 68 = .ok (.iload_n 3, 1) := by decide +kernel
theorem dX3_passYear_69 : decode cX3_passYear 69 = .ok (.iadd, 1) := by decide +kernel
theorem dX3_passYear_70 : decode cX3_passYear 70 = .ok (.invokestatic 148, 3) := by decide +kernel
theorem dX3_passYear_73 : decode cX3_passYear 73 = .ok (.putfield 27, 3) := by decide +kernel
theorem dX3_passYear_76 : decode cX3_passYear 76 = .ok (.iconst 0, 1) := by decide +kernel
theorem dX3_passYear_77 : decode cX3_passYear 77 = .ok (.istore 4, 2) := by decide +kernel
theorem dX3_passYear_79 : decode cX3_passYear 79 = .ok (.iload 4, 2) := by decide +kernel
theorem dX3_passYear_81 : decode cX3_passYear 81 = .ok (.aload_n 0, 1) := by decide +kernel
theorem dX3_passYear_82 : decode cX3_passYear 82 = .ok (.getfield 17, 3) := by decide +kernel
theorem dX3_passYear_85 : decode cX3_passYear 85 = .ok (.if_icmp .ge 73, 3) := by decide +kernel
theorem dX3_passYear_88 : decode cX3_passYear 88 = .ok (.aload_n 0, 1) := by decide +kernel
theorem dX3_passYear_89 : decode cX3_passYear 89 = .ok (.getfield 11, 3) := by decide +kernel
theorem dX3_passYear_92 : decode cX3_passYear 92 = .ok (.iload 4, 2) := by decide +kernel
theorem dX3_passYear_94 : decode cX3_passYear 94 = .ok (.aaload, 1) := by decide +kernel
theorem dX3_passYear_95 : decode cX3_passYear 95 = .ok (.sipush 999, 3) := by decide +kernel
theorem dX3_passYear_98 : decode cX3_passYear 98 = .ok (.aload_n 0, 1) := by decide +kernel
theorem dX3_passYear_99 : decode cX3_passYear 99 = .ok (.getfield 11, 3) := by decide +kernel
theorem dX3_passYear_102 : decode cX3_passYear 102 = .ok (.iload 4, 2) := by decide +kernel
theorem dX3_passYear_104 : decode cX3_passYear 104 = .ok (.aaload, 1) := by decide +kernel
theorem dX3_passYear_105 : decode cX3_passYear 105 = .ok (.getfield 153, 3) := by decide +kernel
theorem dX3_passYear_108 : decode cX3_passYear 108 = .ok (.iconst 1, 1) := by decide +kernel
theorem dX3_passYear_109 : decode cX3_passYear 109 = .ok (.iadd, 1) := by decide +kernel
theorem dX3_passYear_110 : decode cX3_passYear 110 = .ok (.invokestatic 148, 3) := by decide +kernel
theorem dX3_passYear_113 : decode cX3_passYear 113 = .ok (.putfield 153, 3) := by decide +kernel
theorem dX3_passYear_116 : decode cX3_passYear 116 = .ok (.aload_n 0, 1) := by decide +kernel
theorem dX3_passYear_117 : decode cX3_passYear 117 = .ok (.getfield 21, 3) := by decide +kernel
theorem dX3_passYear_120 : decode cX3_passYear 120 = .ok (.iconst 4, 1) := by decide +kernel
theorem dX3_passYear_121 : decode cX3_passYear 121 = .ok (.irem, 1) := by decide +kernel
theorem dX3_passYear_122 : decode cX3_passYear 122 = .ok (.iconst 3, 1) := by decide +kernel
theorem dX3_passYear_123 : decode cX3_passYear 123 = .ok (.if_icmp .ne 29, 3) := by decide +kernel
theorem dX3_passYear_126 : decode cX3_passYear 126 = .ok (.aload_n 0, 1) := by decide +kernel
theorem dX3_passYear_127 : decode cX3_passYear 127 = .ok (.getfield 11, 3) := by decide +kernel
theorem dX3_passYear_130 : decode cX3_passYear 130 = .ok (.iload 4, 2) := by decide +kernel
theorem dX3_passYear_132 : decode cX3_passYear 132 = .ok (.aaload, 1) := by decide +kernel
theorem dX3_passYear_133 : decode cX3_passYear 133 = .ok (.iconst 0, 1) := by decide +kernel
theorem dX3_passYear_134 : decode cX3_passYear 134 = .ok (.aload_n 0, 1) := by decide +kernel
theorem dX3_passYear_135 : decode cX3_passYear 135 = .ok (.getfield 11, 3) := by decide +kernel
theorem dX3_passYear_138 : decode cX3_passYear 138 = .ok (.iload 4, 2) := by decide +kernel
theorem dX3_passYear_140 : decode cX3_passYear 140 = .ok (.aaload, 1) := by decide +kernel
theorem dX3_passYear_141 : decode cX3_passYear 141 = .ok (.getfield 74, 3) := by decide +kernel
theorem dX3_passYear_144 : decode cX3_passYear 144 = .ok (.iconst 1, 1) := by decide +kernel
theorem dX3_passYear_145 : decode cX3_passYear 145 = .ok (.isub, 1) := by decide +kernel
theorem dX3_passYear_146 : decode cX3_passYear 146 = .ok (.invokestatic 156, 3) := by decide +kernel
theorem dX3_passYear_149 : decode cX3_passYear 149 = .ok (.putfield 74, 3) := by decide +kernel
theorem dX3_passYear_152 : decode cX3_passYear 152 = .ok (.iinc 4 1, 3) := by decide +kernel
theorem dX3_passYear_155 : decode cX3_passYear 155 = .ok (.goto (-76), 3) := by decide +kernel
theorem dX3_passYear_158 : decode cX3_passYear 158 = .ok (.aload_n 0, 1) := by decide +kernel
theorem dX3_passYear_159 : decode cX3_passYear 159 = .ok (.dup, 1) := by decide +kernel
theorem dX3_passYear_160 : decode cX3_passYear 160 = .ok (.getfield 21, 3) := by decide +kernel
theorem dX3_passYear_163 : decode cX3_passYear 163 = .ok (.iconst 1, 1) := by decide +kernel
theorem dX3_passYear_164 : decode cX3_passYear 164 = .ok (.iadd, 1) := by decide +kernel
theorem dX3_passYear_165 : decode cX3_passYear 165 = .ok (.putfield 21, 3) := by decide +kernel
theorem dX3_passYear_168 : decode cX3_passYear 168 = .ok (.return_, 1) := by decide +kernel
theorem dX3_draw_0 : decode cX3_draw 0 = .ok (.aload_n 0, 1) := by decide +kernel
theorem dX3_draw_1 : decode cX3_draw 1 = .ok (.aload_n 0, 1) := by decide +kernel
theorem dX3_draw_2 : decode cX3_draw 2 = .ok (.getfield 30, 3) := by decide +kernel
theorem dX3_draw_5 : decode cX3_draw 5 = .ok (.ldc 159, 2) := by decide +kernel
theorem dX3_draw_7 : decode cX3_draw 7 = .ok (.imul, 1) := by decide +kernel
theorem dX3_draw_8 : decode cX3_draw 8 = .ok (.sipush 12345, 3) := by decide +kernel
theorem dX3_draw_11 : decode cX3_draw 11 = .ok (.iadd, 1) := by decide +kernel
theorem dX3_draw_12 : decode cX3_draw 12 = .ok (.putfield 30, 3) := by decide +kernel
theorem dX3_draw_15 : decode cX3_draw 15 = .ok (.aload_n 0, 1) := by decide +kernel
theorem dX3_draw_16 : decode cX3_draw 16 = .ok (.getfield 30, 3) := by decide +kernel
theorem dX3_draw_19 : decode cX3_draw 19 = .ok (.bipush 8, 2) := by decide +kernel
theorem dX3_draw_21 : decode cX3_draw 21 = .ok (.iushr, 1) := by decide +kernel
theorem dX3_draw_22 : decode cX3_draw 22 = .ok (.ireturn, 1) := by decide +kernel
theorem dX3_yearByDraws_0 : decode cX3_yearByDraws 0 = .ok (.aload_n 0, 1) := by decide +kernel
theorem dX3_yearByDraws_1 : decode cX3_yearByDraws 1 = .ok (.aload_n 0, 1) := by decide +kernel
theorem dX3_yearByDraws_2 : decode cX3_yearByDraws 2 = .ok (.invokevirtual 160, 3) := by decide +kernel
theorem dX3_yearByDraws_5 : decode cX3_yearByDraws 5 = .ok (.bipush 40, 2) := by decide +kernel
theorem dX3_yearByDraws_7 : decode cX3_yearByDraws 7 = .ok (.irem, 1) := by decide +kernel
theorem dX3_yearByDraws_8 : decode cX3_yearByDraws 8 = .ok (.invokevirtual 163, 3) := by decide +kernel
theorem dX3_yearByDraws_11 : decode cX3_yearByDraws 11 = .ok (.istore_n 1, 1) := by decide +kernel
theorem dX3_yearByDraws_12 : decode cX3_yearByDraws 12 = .ok (.aload_n 0, 1) := by decide +kernel
theorem dX3_yearByDraws_13 : decode cX3_yearByDraws 13 = .ok (.iload_n 1, 1) := by decide +kernel
theorem dX3_yearByDraws_14 : decode cX3_yearByDraws 14 = .ok (.invokevirtual 167, 3) := by decide +kernel
theorem dX3_yearByDraws_17 : decode cX3_yearByDraws 17 = .ok (.aload_n 0, 1) := by decide +kernel
theorem dX3_yearByDraws_18 : decode cX3_yearByDraws 18 = .ok (.getfield 17, 3) := by decide +kernel
theorem dX3_yearByDraws_21 : decode cX3_yearByDraws 21 = .ok (.ifCond .le 52, 3) := by decide +kernel
theorem dX3_yearByDraws_24 : decode cX3_yearByDraws 24 = .ok (.aload_n 0, 1) := by decide +kernel
theorem dX3_yearByDraws_25 : decode cX3_yearByDraws 25 = .ok (.invokevirtual 160, 3) := by decide +kernel
theorem dX3_yearByDraws_28 : decode cX3_yearByDraws 28 = .ok (.aload_n 0, 1) := by decide +kernel
theorem dX3_yearByDraws_29 : decode cX3_yearByDraws 29 = .ok (.getfield 17, 3) := by decide +kernel
theorem dX3_yearByDraws_32 : decode cX3_yearByDraws 32 = .ok (.irem, 1) := by decide +kernel
theorem dX3_yearByDraws_33 : decode cX3_yearByDraws 33 = .ok (.istore_n 2, 1) := by decide +kernel
theorem dX3_yearByDraws_34 : decode cX3_yearByDraws 34 = .ok (.aload_n 0, 1) := by decide +kernel
theorem dX3_yearByDraws_35 : decode cX3_yearByDraws 35 = .ok (.invokevirtual 160, 3) := by decide +kernel
theorem dX3_yearByDraws_38 : decode cX3_yearByDraws 38 = .ok (.bipush 48, 2) := by decide +kernel
theorem dX3_yearByDraws_40 : decode cX3_yearByDraws 40 = .ok (.irem, 1) := by decide +kernel
theorem dX3_yearByDraws_41 : decode cX3_yearByDraws 41 = .ok (.istore_n 3, 1) := by decide +kernel
theorem dX3_yearByDraws_42 : decode cX3_yearByDraws 42 = .ok (.aload_n 0, 1) := by decide +kernel
theorem dX3_yearByDraws_43 : decode cX3_yearByDraws 43 = .ok (.getfield 11, 3) := by decide +kernel
theorem dX3_yearByDraws_46 : decode cX3_yearByDraws 46 = .ok (.iload_n 2, 1) := by decide +kernel
theorem dX3_yearByDraws_47 : decode cX3_yearByDraws 47 = .ok (.aaload, 1) := by decide +kernel
theorem dX3_yearByDraws_48 : decode cX3_yearByDraws 48 = .ok (.invokevirtual 98, 3) := by decide +kernel
theorem dX3_yearByDraws_51 : decode cX3_yearByDraws 51 = .ok (.ifCond .ne 22, 3) := by decide +kernel
theorem dX3_yearByDraws_54 : decode cX3_yearByDraws 54 = .ok (.aload_n 0, 1) := by decide +kernel
theorem dX3_yearByDraws_55 : decode cX3_yearByDraws 55 = .ok (.iload_n 2, 1) := by decide +kernel
theorem dX3_yearByDraws_56 : decode cX3_yearByDraws 56 = .ok (.iload_n 3, 1) := by decide +kernel
theorem dX3_yearByDraws_57 : decode cX3_yearByDraws 57 = .ok (.invokevirtual 117, 3) := by decide +kernel
theorem dX3_yearByDraws_60 : decode cX3_yearByDraws 60 = .ok (.ifCond .eq 13, 3) := by decide +kernel
theorem dX3_yearByDraws_63 : decode cX3_yearByDraws 63 = .ok (.aload_n 0, 1) := by decide +kernel
theorem dX3_yearByDraws_64 : decode cX3_yearByDraws 64 = .ok (.getfield 11, 3) := by decide +kernel
theorem dX3_yearByDraws_67 : decode cX3_yearByDraws 67 = .ok (.iload_n 2, 1) := by decide +kernel
theorem dX3_yearByDraws_68 : decode cX3_yearByDraws 68 = .ok (.aaload, 1) := by decide +kernel
theorem dX3_yearByDraws_69 : decode cX3_yearByDraws 69 = .ok (.iload_n 3, 1) := by decide +kernel
theorem dX3_yearByDraws_70 : decode cX3_yearByDraws 70 = .ok (.putfield 135, 3) := by decide +kernel
theorem dX3_yearByDraws_73 : decode cX3_yearByDraws 73 = .ok (.aload_n 0, 1) := by decide +kernel
theorem dX3_yearByDraws_74 : decode cX3_yearByDraws 74 = .ok (.invokevirtual 170, 3) := by decide +kernel
theorem dX3_yearByDraws_77 : decode cX3_yearByDraws 77 = .ok (.iload_n 1, 1) := by decide +kernel
theorem dX3_yearByDraws_78 : decode cX3_yearByDraws 78 = .ok (.ireturn, 1) := by decide +kernel
theorem dX4_init_0 : decode cX4_init 0 = .ok (.aload_n 0, 1) := by decide +kernel
theorem dX4_init_1 : decode cX4_init 1 = .ok (.invokespecial 3, 3) := by decide +kernel
theorem dX4_init_4 : decode cX4_init 4 = .ok (.aload_n 0, 1) := by decide +kernel
theorem dX4_init_5 : decode cX4_init 5 = .ok (.iconst 0, 1) := by decide +kernel
theorem dX4_init_6 : decode cX4_init 6 = .ok (.putfield 9, 3) := by decide +kernel
theorem dX4_init_9 : decode cX4_init 9 = .ok (.aload_n 0, 1) := by decide +kernel
theorem dX4_init_10 : decode cX4_init 10 = .ok (.iconst 0, 1) := by decide +kernel
theorem dX4_init_11 : decode cX4_init 11 = .ok (.putfield 15, 3) := by decide +kernel
theorem dX4_init_14 : decode cX4_init 14 = .ok (.aload_n 0, 1) := by decide +kernel
theorem dX4_init_15 : decode cX4_init 15 = .ok (.bipush 24, 2) := by decide +kernel
theorem dX4_init_17 : decode cX4_init 17 = .ok (.newarray .int, 2) := by decide +kernel
theorem dX4_init_19 : decode cX4_init 19 = .ok (.putfield 18, 3) := by decide +kernel
theorem dX4_init_22 : decode cX4_init 22 = .ok (.return_, 1) := by decide +kernel
theorem dX4_isMissing_0 : decode cX4_isMissing 0 = .ok (.aload_n 0, 1) := by decide +kernel
theorem dX4_isMissing_1 : decode cX4_isMissing 1 = .ok (.getfield 9, 3) := by decide +kernel
theorem dX4_isMissing_4 : decode cX4_isMissing 4 = .ok (.ifCond .ne 7, 3) := by decide +kernel
theorem dX4_isMissing_7 : decode cX4_isMissing 7 = .ok (.iconst 1, 1) := by decide +kernel
theorem dX4_isMissing_8 : decode cX4_isMissing 8 = .ok (.goto 4, 3) := by decide +kernel
theorem dX4_isMissing_11 : decode cX4_isMissing 11 = .ok (.iconst 0, 1) := by decide +kernel
theorem dX4_isMissing_12 : decode cX4_isMissing 12 = .ok (.ireturn, 1) := by decide +kernel
theorem dX4_begin_0 : decode cX4_begin 0 = .ok (.aload_n 0, 1) := by decide +kernel
theorem dX4_begin_1 : decode cX4_begin 1 = .ok (.iload_n 1, 1) := by decide +kernel
theorem dX4_begin_2 : decode cX4_begin 2 = .ok (.putfield 9, 3) := by decide +kernel
theorem dX4_begin_5 : decode cX4_begin 5 = .ok (.aload_n 0, 1) := by decide +kernel
theorem dX4_begin_6 : decode cX4_begin 6 = .ok (.iload_n 2, 1) := by decide +kernel
theorem dX4_begin_7 : decode cX4_begin 7 = .ok (.putfield 15, 3) := by decide +kernel
theorem dX4_begin_10 : decode cX4_begin 10 = .ok (.iconst 0, 1) := by decide +kernel
theorem dX4_begin_11 : decode cX4_begin 11 = .ok (.istore_n 3, 1) := by decide +kernel
theorem dX4_begin_12 : decode cX4_begin 12 = .ok (.iload_n 3, 1) := by decide +kernel
theorem dX4_begin_13 : decode cX4_begin 13 = .ok (.bipush 24, 2) := by decide +kernel
theorem dX4_begin_15 : decode cX4_begin 15 = .ok (.if_icmp .ge 16, 3) := by decide +kernel
theorem dX4_begin_18 : decode cX4_begin 18 = .ok (.aload_n 0, 1) := by decide +kernel
theorem dX4_begin_19 : decode cX4_begin 19 = .ok (.getfield 18, 3) := by decide +kernel
theorem dX4_begin_22 : decode cX4_begin 22 = .ok (.iload_n 3, 1) := by decide +kernel
theorem dX4_begin_23 : decode cX4_begin 23 = .ok (.iconst 0, 1) := by decide +kernel
theorem dX4_begin_24 : decode cX4_begin 24 = .ok (.iastore, 1) := by decide +kernel
theorem dX4_begin_25 : decode cX4_begin 25 = .ok (.iinc 3 1, 3) := by decide +kernel
theorem dX4_begin_28 : decode cX4_begin 28 = .ok (.goto (-16), 3) := by decide +kernel
theorem dX4_begin_31 : decode cX4_begin 31 = .ok (.return_, 1) := by decide +kernel
theorem dX4_write_0 : decode cX4_write 0 = .ok (.aload_n 0, 1) := by decide +kernel
theorem dX4_write_1 : decode cX4_write 1 = .ok (.getfield 18, 3) := by decide +kernel
theorem dX4_write_4 : decode cX4_write 4 = .ok (.iload_n 1, 1) := by decide +kernel
theorem dX4_write_5 : decode cX4_write 5 = .ok (.aload_n 0, 1) := by decide +kernel
theorem dX4_write_6 : decode cX4_write 6 = .ok (.getfield 9, 3) := by decide +kernel
theorem dX4_write_9 : decode cX4_write 9 = .ok (.bipush 8, 2) := by decide +kernel
theorem dX4_write_11 : decode cX4_write 11 = .ok (.if_icmp .ne 8, 3) := by decide +kernel
theorem dX4_write_14 : decode cX4_write 14 = .ok (.iload_n 2, 1) := by decide +kernel
theorem dX4_write_15 : decode cX4_write 15 = .ok (.i2b, 1) := by decide +kernel
theorem dX4_write_16 : decode cX4_write 16 = .ok (.goto 18, 3) := by decide +kernel
theorem dX4_write_19 : decode cX4_write 19 = .ok (.aload_n 0, 1) := by decide +kernel
theorem dX4_write_20 : decode cX4_write 20 = .ok (.getfield 9, 3) := by decide +kernel
theorem dX4_write_23 : decode cX4_write 23 = .ok (.bipush 16, 2) := by decide +kernel
theorem dX4_write_25 : decode cX4_write 25 = .ok (.if_icmp .ne 8, 3) := by decide +kernel
theorem dX4_write_28 : decode cX4_write 28 = .ok (.iload_n 2, 1) := by decide +kernel
theorem dX4_write_29 : decode cX4_write 29 = .ok (.i2s, 1) := by decide +kernel
theorem dX4_write_30 : decode cX4_write 30 = .ok (.goto 4, 3) := by decide +kernel
theorem dX4_write_33 : decode cX4_write 33 = .ok (.iload_n 2, 1) := by decide +kernel
theorem dX4_write_34 : decode cX4_write 34 = .ok (.iastore, 1) := by decide +kernel
theorem dX4_write_35 : decode cX4_write 35 = .ok (.return_, 1) := by decide +kernel
theorem dX4_has_0 : decode cX4_has 0 = .ok (.iload_n 2, 1) := by decide +kernel
theorem dX4_has_1 : decode cX4_has 1 = .ok (.ifCond .lt 29, 3) := by decide +kernel
theorem dX4_has_4 : decode cX4_has 4 = .ok (.iload_n 1, 1) := by decide +kernel
theorem dX4_has_5 : decode cX4_has 5 = .ok (.ifCond .lt 25, 3) := by decide +kernel
theorem dX4_has_8 : decode cX4_has 8 = .ok (.iload_n 2, 1) := by decide +kernel
theorem dX4_has_9 : decode cX4_has 9 = .ok (.aload_n 0, 1) := by decide +kernel
theorem dX4_has_10 : decode cX4_has 10 = .ok (.getfield 15, 3) := by decide +kernel
theorem dX4_has_13 : decode cX4_has 13 = .ok (.if_icmp .gt 17, 3) := by decide +kernel
theorem dX4_has_16 : decode cX4_has 16 = .ok (.iload_n 1, 1) := by decide +kernel
theorem dX4_has_17 : decode cX4_has 17 = .ok (.aload_n 0, 1) := by decide +kernel
theorem dX4_has_18 : decode cX4_has 18 = .ok (.getfield 15, 3) := by decide +kernel
theorem dX4_has_21 : decode cX4_has 21 = .ok (.iload_n 2, 1) := by decide +kernel
theorem dX4_has_22 : decode cX4_has 22 = .ok (.isub, 1) := by decide +kernel
theorem dX4_has_23 : decode cX4_has 23 = .ok (.if_icmp .gt 7, 3) := by decide +kernel
theorem dX4_has_26 : decode cX4_has 26 = .ok (.iconst 1, 1) := by decide +kernel
theorem dX4_has_27 : decode cX4_has 27 = .ok (.goto 4, 3) := by decide +kernel
theorem dX4_has_30 : decode cX4_has 30 = .ok (.iconst 0, 1) := by decide +kernel
theorem dX4_has_31 : decode cX4_has 31 = .ok (.ireturn, 1) := by decide +kernel
theorem dX4_tellsRows_0 : decode cX4_tellsRows 0 = .ok (.iconst 0, 1) := by decide +kernel
theorem dX4_tellsRows_1 : decode cX4_tellsRows 1 = .ok (.istore_n 3, 1) := by decide +kernel
theorem dX4_tellsRows_2 : decode cX4_tellsRows 2 = .ok (.iload_n 3, 1) := by decide +kernel
theorem dX4_tellsRows_3 : decode cX4_tellsRows 3 = .ok (.aload_n 0, 1) := by decide +kernel
theorem dX4_tellsRows_4 : decode cX4_tellsRows 4 = .ok (.getfield 15, 3) := by decide +kernel
theorem dX4_tellsRows_7 : decode cX4_tellsRows 7 = .ok (.if_icmp .ge 39, 3) := by decide +kernel
theorem dX4_tellsRows_10 : decode cX4_tellsRows 10 = .ok (.iload_n 3, 1) := by decide +kernel
theorem dX4_tellsRows_11 : decode cX4_tellsRows 11 = .ok (.bipush 6, 2) := by decide +kernel
theorem dX4_tellsRows_13 : decode cX4_tellsRows 13 = .ok (.if_icmp .ge 25, 3) := by decide +kernel
theorem dX4_tellsRows_16 : decode cX4_tellsRows 16 = .ok (.aload_n 0, 1) := by decide +kernel
theorem dX4_tellsRows_17 : decode cX4_tellsRows 17 = .ok (.getfield 18, 3) := by decide +kernel
theorem dX4_tellsRows_20 : decode cX4_tellsRows 20 = .ok (.iload_n 3, 1) := by decide +kernel
theorem dX4_tellsRows_21 : decode cX4_tellsRows 21 = .ok (.iaload, 1) := by decide +kernel
theorem dX4_tellsRows_22 : decode cX4_tellsRows 22 = .ok (.lload_n 1, 1) := by decide +kernel
theorem dX4_tellsRows_23 : decode cX4_tellsRows 23 = .ok (.iload_n 3, 1) := by decide +kernel
theorem dX4_tellsRows_24 : decode cX4_tellsRows 24 = .ok (.bipush 8, 2) := by decide +kernel
theorem dX4_tellsRows_26 : decode cX4_tellsRows 26 = .ok (.imul, 1) := by decide +kernel
theorem dX4_tellsRows_27 : decode cX4_tellsRows 27 = .ok (.lushr, 1) := by decide +kernel
theorem dX4_tellsRows_28 : decode cX4_tellsRows 28 = .ok (.ldc2_w 22, 3) := by decide +kernel
theorem dX4_tellsRows_31 : decode cX4_tellsRows 31 = .ok (.land, 1) := by decide +kernel
theorem dX4_tellsRows_32 : decode cX4_tellsRows 32 = .ok (.invokestatic 24, 3) := by decide +kernel
theorem dX4_tellsRows_35 : decode cX4_tellsRows 35 = .ok (.if_icmp .eq 5, 3) := by decide +kernel
theorem dX4_tellsRows_38 : decode cX4_tellsRows 38 = .ok (.iconst 0, 1) := by decide +kernel
theorem dX4_tellsRows_39 : decode cX4_tellsRows 39 = .ok (.ireturn, 1) := by decide +kernel
theorem dX4_tellsRows_40 : decode cX4_tellsRows 40 = .ok (.iinc 3 1, 3) := by decide +kernel
theorem dX4_tellsRows_43 : decode cX4_tellsRows 43 = .ok (.goto (-41), 3) := by decide +kernel
theorem dX4_tellsRows_46 : decode cX4_tellsRows 46 = .ok (.iconst 1, 1) := by decide +kernel
theorem dX4_tellsRows_47 : decode cX4_tellsRows 47 = .ok (.ireturn, 1) := by decide +kernel
theorem dX5_init_0 : decode cX5_init 0 = .ok (.aload_n 0, 1) := by decide +kernel
theorem dX5_init_1 : decode cX5_init 1 = .ok (.invokespecial 3, 3) := by decide +kernel
theorem dX5_init_4 : decode cX5_init 4 = .ok (.aload_n 0, 1) := by decide +kernel
theorem dX5_init_5 : decode cX5_init 5 = .ok (.iconst 0, 1) := by decide +kernel
theorem dX5_init_6 : decode cX5_init 6 = .ok (.putfield 9, 3) := by decide +kernel
theorem dX5_init_9 : decode cX5_init 9 = .ok (.aload_n 0, 1) := by decide +kernel
theorem dX5_init_10 : decode cX5_init 10 = .ok (.iconst 0, 1) := by decide +kernel
theorem dX5_init_11 : decode cX5_init 11 = .ok (.putfield 15, 3) := by decide +kernel
theorem dX5_init_14 : decode cX5_init 14 = .ok (.aload_n 0, 1) := by decide +kernel
theorem dX5_init_15 : decode cX5_init 15 = .ok (.iconst 1, 1) := by decide +kernel
theorem dX5_init_16 : decode cX5_init 16 = .ok (.putfield 18, 3) := by decide +kernel
theorem dX5_init_19 : decode cX5_init 19 = .ok (.aload_n 0, 1) := by decide +kernel
theorem dX5_init_20 : decode cX5_init 20 = .ok (.iconst 0, 1) := by decide +kernel
theorem dX5_init_21 : decode cX5_init 21 = .ok (.putfield 21, 3) := by decide +kernel
theorem dX5_init_24 : decode cX5_init 24 = .ok (.aload_n 0, 1) := by decide +kernel
theorem dX5_init_25 : decode cX5_init 25 = .ok (.iconst (-1), 1) := by decide +kernel
theorem dX5_init_26 : decode cX5_init 26 = .ok (.putfield 24, 3) := by decide +kernel
theorem dX5_init_29 : decode cX5_init 29 = .ok (.aload_n 0, 1) := by decide +kernel
theorem dX5_init_30 : decode cX5_init 30 = .ok (.iconst 0, 1) := by decide +kernel
theorem dX5_init_31 : decode cX5_init 31 = .ok (.putfield 27, 3) := by decide +kernel
theorem dX5_init_34 : decode cX5_init 34 = .ok (.aload_n 0, 1) := by decide +kernel
theorem dX5_init_35 : decode cX5_init 35 = .ok (.iconst (-1), 1) := by decide +kernel
theorem dX5_init_36 : decode cX5_init 36 = .ok (.putfield 30, 3) := by decide +kernel
theorem dX5_init_39 : decode cX5_init 39 = .ok (.return_, 1) := by decide +kernel
theorem dX5_kindAbove_0 : decode cX5_kindAbove 0 = .ok (.iload_n 0, 1) := by decide +kernel
theorem dX5_kindAbove_1 : decode cX5_kindAbove 1 = .ok (.ifCond .lt 11, 3) := by decide +kernel
theorem dX5_kindAbove_4 : decode cX5_kindAbove 4 = .ok (.iload_n 0, 1) := by decide +kernel
theorem dX5_kindAbove_5 : decode cX5_kindAbove 5 = .ok (.getstatic 33, 3) := by decide +kernel
theorem dX5_kindAbove_8 : decode cX5_kindAbove 8 = .ok (.arraylength, 1) := by decide +kernel
theorem dX5_kindAbove_9 : decode cX5_kindAbove 9 = .ok (.if_icmp .lt 7, 3) := by decide +kernel
theorem dX5_kindAbove_12 : decode cX5_kindAbove 12 = .ok (.iconst (-1), 1) := by decide +kernel
theorem dX5_kindAbove_13 : decode cX5_kindAbove 13 = .ok (.goto 8, 3) := by decide +kernel
theorem dX5_kindAbove_16 : decode cX5_kindAbove 16 = .ok (.getstatic 33, 3) := by decide +kernel
theorem dX5_kindAbove_19 : decode cX5_kindAbove 19 = .ok (.iload_n 0, 1) := by decide +kernel
theorem dX5_kindAbove_20 : decode cX5_kindAbove 20 = .ok (.iaload, 1) := by decide +kernel
theorem dX5_kindAbove_21 : decode cX5_kindAbove 21 = .ok (.ireturn, 1) := by decide +kernel
theorem dX5_begin_0 : decode cX5_begin 0 = .ok (.aload_n 0, 1) := by decide +kernel
theorem dX5_begin_1 : decode cX5_begin 1 = .ok (.iload_n 1, 1) := by decide +kernel
theorem dX5_begin_2 : decode cX5_begin 2 = .ok (.invokevirtual 37, 3) := by decide +kernel
theorem dX5_begin_5 : decode cX5_begin 5 = .ok (.aload_n 0, 1) := by decide +kernel
theorem dX5_begin_6 : decode cX5_begin 6 = .ok (.iload_n 2, 1) := by decide +kernel
theorem dX5_begin_7 : decode cX5_begin 7 = .ok (.putfield 18, 3) := by decide +kernel
theorem dX5_begin_10 : decode cX5_begin 10 = .ok (.aload_n 0, 1) := by decide +kernel
theorem dX5_begin_11 : decode cX5_begin 11 = .ok (.iload_n 3, 1) := by decide +kernel
theorem dX5_begin_12 : decode cX5_begin 12 = .ok (.putfield 21, 3) := by decide +kernel
theorem dX5_begin_15 : decode cX5_begin 15 = .ok (.aload_n 0, 1) := by decide +kernel
theorem dX5_begin_16 : decode cX5_begin 16 = .ok (.iload 4, 2) := by decide +kernel
theorem dX5_begin_18 : decode cX5_begin 18 = .ok (.putfield 24, 3) := by decide +kernel
theorem dX5_begin_21 : decode cX5_begin 21 = .ok (.aload_n 0, 1) := by decide +kernel
theorem dX5_begin_22 : decode cX5_begin 22 = .ok (.iconst 0, 1) := by decide +kernel
theorem dX5_begin_23 : decode cX5_begin 23 = .ok (.putfield 27, 3) := by decide +kernel
theorem dX5_begin_26 : decode cX5_begin 26 = .ok (.aload_n 0, 1) := by decide +kernel
theorem dX5_begin_27 : decode cX5_begin 27 = .ok (.iconst (-1), 1) := by decide +kernel
theorem dX5_begin_28 : decode cX5_begin 28 = .ok (.putfield 30, 3) := by decide +kernel
theorem dX5_begin_31 : decode cX5_begin 31 = .ok (.return_, 1) := by decide +kernel
theorem dX5_turn_0 : decode cX5_turn 0 = .ok (.aload_n 0, 1) := by decide +kernel
theorem dX5_turn_1 : decode cX5_turn 1 = .ok (.iload_n 1, 1) := by decide +kernel
theorem dX5_turn_2 : decode cX5_turn 2 = .ok (.bipush 10, 2) := by decide +kernel
theorem dX5_turn_4 : decode cX5_turn 4 = .ok (.idiv, 1) := by decide +kernel
theorem dX5_turn_5 : decode cX5_turn 5 = .ok (.putfield 9, 3) := by decide +kernel
theorem dX5_turn_8 : decode cX5_turn 8 = .ok (.aload_n 0, 1) := by decide +kernel
theorem dX5_turn_9 : decode cX5_turn 9 = .ok (.iload_n 1, 1) := by decide +kernel
theorem dX5_turn_10 : decode cX5_turn 10 = .ok (.bipush 10, 2) := by decide +kernel
theorem dX5_turn_12 : decode cX5_turn 12 = .ok (.irem, 1) := by decide +kernel
theorem dX5_turn_13 : decode cX5_turn 13 = .ok (.putfield 15, 3) := by decide +kernel
theorem dX5_turn_16 : decode cX5_turn 16 = .ok (.return_, 1) := by decide +kernel
theorem dX5_copy_0 : decode cX5_copy 0 = .ok (.aload_n 0, 1) := by decide +kernel
theorem dX5_copy_1 : decode cX5_copy 1 = .ok (.aload_n 1, 1) := by decide +kernel
theorem dX5_copy_2 : decode cX5_copy 2 = .ok (.getfield 9, 3) := by decide +kernel
theorem dX5_copy_5 : decode cX5_copy 5 = .ok (.putfield 9, 3) := by decide +kernel
theorem dX5_copy_8 : decode cX5_copy 8 = .ok (.aload_n 0, 1) := by decide +kernel
theorem dX5_copy_9 : decode cX5_copy 9 = .ok (.aload_n 1, 1) := by decide +kernel
theorem dX5_copy_10 : decode cX5_copy 10 = .ok (.getfield 15, 3) := by decide +kernel
theorem dX5_copy_13 : decode cX5_copy 13 = .ok (.putfield 15, 3) := by decide +kernel
theorem dX5_copy_16 : decode cX5_copy 16 = .ok (.aload_n 0, 1) := by decide +kernel
theorem dX5_copy_17 : decode cX5_copy 17 = .ok (.aload_n 1, 1) := by decide +kernel
theorem dX5_copy_18 : decode cX5_copy 18 = .ok (.getfield 18, 3) := by decide +kernel
theorem dX5_copy_21 : decode cX5_copy 21 = .ok (.putfield 18, 3) := by decide +kernel
theorem dX5_copy_24 : decode cX5_copy 24 = .ok (.aload_n 0, 1) := by decide +kernel
theorem dX5_copy_25 : decode cX5_copy 25 = .ok (.aload_n 1, 1) := by decide +kernel
theorem dX5_copy_26 : decode cX5_copy 26 = .ok (.getfield 21, 3) := by decide +kernel
theorem dX5_copy_29 : decode cX5_copy 29 = .ok (.putfield 21, 3) := by decide +kernel
theorem dX5_copy_32 : decode cX5_copy 32 = .ok (.aload_n 0, 1) := by decide +kernel
theorem dX5_copy_33 : decode cX5_copy 33 = .ok (.aload_n 1, 1) := by decide +kernel
theorem dX5_copy_34 : decode cX5_copy 34 = .ok (.getfield 24, 3) := by decide +kernel
theorem dX5_copy_37 : decode cX5_copy 37 = .ok (.putfield 24, 3) := by decide +kernel
theorem dX5_copy_40 : decode cX5_copy 40 = .ok (.aload_n 0, 1) := by decide +kernel
theorem dX5_copy_41 : decode cX5_copy 41 = .ok (.aload_n 1, 1) := by decide +kernel
theorem dX5_copy_42 : decode cX5_copy 42 = .ok (.getfield 27, 3) := by decide +kernel
theorem dX5_copy_45 : decode cX5_copy 45 = .ok (.putfield 27, 3) := by decide +kernel
theorem dX5_copy_48 : decode cX5_copy 48 = .ok (.aload_n 0, 1) := by decide +kernel
theorem dX5_copy_49 : decode cX5_copy 49 = .ok (.aload_n 1, 1) := by decide +kernel
theorem dX5_copy_50 : decode cX5_copy 50 = .ok (.getfield 30, 3) := by decide +kernel
theorem dX5_copy_53 : decode cX5_copy 53 = .ok (.putfield 30, 3) := by decide +kernel
theorem dX5_copy_56 : decode cX5_copy 56 = .ok (.return_, 1) := by decide +kernel
theorem dX5_isUnder_0 : decode cX5_isUnder 0 = .ok (.aload_n 0, 1) := by decide +kernel
theorem dX5_isUnder_1 : decode cX5_isUnder 1 = .ok (.getfield 9, 3) := by decide +kernel
theorem dX5_isUnder_4 : decode cX5_isUnder 4 = .ok (.istore_n 2, 1) := by decide +kernel
theorem dX5_isUnder_5 : decode cX5_isUnder 5 = .ok (.iconst 0, 1) := by decide +kernel
theorem dX5_isUnder_6 : decode cX5_isUnder 6 = .ok (.istore_n 3, 1) := by decide +kernel
theorem dX5_isUnder_7 : decode cX5_isUnder 7 = .ok (.iload_n 3, 1) := by decide +kernel
theorem dX5_isUnder_8 : decode cX5_isUnder 8 = .ok (.bipush 6, 2) := by decide +kernel
theorem dX5_isUnder_10 : decode cX5_isUnder 10 = .ok (.if_icmp .gt 25, 3) := by decide +kernel
theorem dX5_isUnder_13 : decode cX5_isUnder 13 = .ok (.iload_n 2, 1) := by decide +kernel
theorem dX5_isUnder_14 : decode cX5_isUnder 14 = .ok (.ifCond .lt 21, 3) := by decide +kernel
theorem dX5_isUnder_17 : decode cX5_isUnder 17 = .ok (.iload_n 2, 1) := by decide +kernel
theorem dX5_isUnder_18 : decode cX5_isUnder 18 = .ok (.iload_n 1, 1) := by decide +kernel
theorem dX5_isUnder_19 : decode cX5_isUnder 19 = .ok (.if_icmp .ne 5, 3) := by decide +kernel
theorem dX5_isUnder_22 : decode cX5_isUnder 22 = .ok (.iconst 1, 1) := by decide +kernel
theorem dX5_isUnder_23 : decode cX5_isUnder 23 = .ok (.ireturn, 1) := by decide +kernel
theorem dX5_isUnder_24 : decode cX5_isUnder 24 = .ok (.iload_n 2, 1) := by decide +kernel
theorem dX5_isUnder_25 : decode cX5_isUnder 25 = .ok (.invokestatic 41, 3) := by decide +kernel
theorem dX5_isUnder_28 : decode cX5_isUnder 28 = .ok (.istore_n 2, 1) := by decide +kernel
theorem dX5_isUnder_29 : decode cX5_isUnder 29 = .ok (.iinc 3 1, 3) := by decide +kernel
theorem dX5_isUnder_32 : decode cX5_isUnder 32 = .ok (.goto (-25), 3) := by decide +kernel
theorem dX5_isUnder_35 : decode cX5_isUnder 35 = .ok (.iconst 0, 1) := by decide +kernel
theorem dX5_isUnder_36 : decode cX5_isUnder 36 = .ok (.ireturn, 1) := by decide +kernel
theorem dX5_isLaid_0 : decode cX5_isLaid 0 = .ok (.aload_n 0, 1) := by decide +kernel
theorem dX5_isLaid_1 : decode cX5_isLaid 1 = .ok (.getfield 30, 3) := by decide +kernel
theorem dX5_isLaid_4 : decode cX5_isLaid 4 = .ok (.ifCond .lt 7, 3) := by decide +kernel
theorem dX5_isLaid_7 : decode cX5_isLaid 7 = .ok (.iconst 1, 1) := by decide +kernel
theorem dX5_isLaid_8 : decode cX5_isLaid 8 = .ok (.goto 4, 3) := by decide +kernel
theorem dX5_isLaid_11 : decode cX5_isLaid 11 = .ok (.iconst 0, 1) := by decide +kernel
theorem dX5_isLaid_12 : decode cX5_isLaid 12 = .ok (.ireturn, 1) := by decide +kernel
theorem dX5_row_0 : decode cX5_row 0 = .ok (.aload_n 0, 1) := by decide +kernel
theorem dX5_row_1 : decode cX5_row 1 = .ok (.invokevirtual 45, 3) := by decide +kernel
theorem dX5_row_4 : decode cX5_row 4 = .ok (.ifCond .eq 13, 3) := by decide +kernel
theorem dX5_row_7 : decode cX5_row 7 = .ok (.aload_n 0, 1) := by decide +kernel
theorem dX5_row_8 : decode cX5_row 8 = .ok (.getfield 30, 3) := by decide +kernel
theorem dX5_row_11 : decode cX5_row 11 = .ok (.bipush 8, 2) := by decide +kernel
theorem dX5_row_13 : decode cX5_row 13 = .ok (.idiv, 1) := by decide +kernel
theorem dX5_row_14 : decode cX5_row 14 = .ok (.goto 4, 3) := by decide +kernel
theorem dX5_row_17 : decode cX5_row 17 = .ok (.iconst (-1), 1) := by decide +kernel
theorem dX5_row_18 : decode cX5_row 18 = .ok (.ireturn, 1) := by decide +kernel
theorem dX5_place_0 : decode cX5_place 0 = .ok (.aload_n 0, 1) := by decide +kernel
theorem dX5_place_1 : decode cX5_place 1 = .ok (.invokevirtual 45, 3) := by decide +kernel
theorem dX5_place_4 : decode cX5_place 4 = .ok (.ifCond .eq 13, 3) := by decide +kernel
theorem dX5_place_7 : decode cX5_place 7 = .ok (.aload_n 0, 1) := by decide +kernel
theorem dX5_place_8 : decode cX5_place 8 = .ok (.getfield 30, 3) := by decide +kernel
theorem dX5_place_11 : decode cX5_place 11 = .ok (.bipush 8, 2) := by decide +kernel
theorem dX5_place_13 : decode cX5_place 13 = .ok (.irem, 1) := by decide +kernel
theorem dX5_place_14 : decode cX5_place 14 = .ok (.goto 4, 3) := by decide +kernel
theorem dX5_place_17 : decode cX5_place 17 = .ok (.iconst (-1), 1) := by decide +kernel
theorem dX5_place_18 : decode cX5_place 18 = .ok (.ireturn, 1) := by decide +kernel
theorem dX5_broad_0 : decode cX5_broad 0 = .ok (.aload_n 0, 1) := by decide +kernel
theorem dX5_broad_1 : decode cX5_broad 1 = .ok (.getfield 9, 3) := by decide +kernel
theorem dX5_broad_4 : decode cX5_broad 4 = .ok (.tableswitch 54 1 5 #[36, 54, 54, 36, 43], 36) := by decide +kernel
theorem dX5_broad_40 : decode cX5_broad 40 = .ok (.aload_n 0, 1) := by decide +kernel
theorem dX5_broad_41 : decode cX5_broad 41 = .ok (.getfield 18, 3) := by decide +kernel
theorem dX5_broad_44 : decode cX5_broad 44 = .ok (.iconst 1, 1) := by decide +kernel
theorem dX5_broad_45 : decode cX5_broad 45 = .ok (.iadd, 1) := by decide +kernel
theorem dX5_broad_46 : decode cX5_broad 46 = .ok (.ireturn, 1) := by decide +kernel
theorem dX5_broad_47 : decode cX5_broad 47 = .ok (.iconst 1, 1) := by decide +kernel
theorem dX5_broad_48 : decode cX5_broad 48 = .ok (.aload_n 0, 1) := by decide +kernel
theorem dX5_broad_49 : decode cX5_broad 49 = .ok (.getfield 18, 3) := by decide +kernel
theorem dX5_broad_52 : decode cX5_broad 52 = .ok (.iconst 1, 1) := by decide +kernel
theorem dX5_broad_53 : decode cX5_broad 53 = .ok (.isub, 1) := by decide +kernel
theorem dX5_broad_54 : decode cX5_broad 54 = .ok (.invokestatic 49, 3) := by decide +kernel
theorem dX5_broad_57 : decode cX5_broad 57 = .ok (.ireturn, 1) := by decide +kernel
theorem dX5_broad_58 : decode cX5_broad 58 = .ok (.aload_n 0, 1) := by decide +kernel
theorem dX5_broad_59 : decode cX5_broad 59 = .ok (.getfield 18, 3) := by decide +kernel
theorem dX5_broad_62 : decode cX5_broad 62 = .ok (.ireturn, 1) := by decide +kernel
theorem dX5_holds_0 : decode cX5_holds 0 = .ok (.iconst 3, 1) := by decide +kernel
theorem dX5_holds_1 : decode cX5_holds 1 = .ok (.aload_n 0, 1) := by decide +kernel
theorem dX5_holds_2 : decode cX5_holds 2 = .ok (.getfield 21, 3) := by decide +kernel
theorem dX5_holds_5 : decode cX5_holds 5 = .ok (.imul, 1) := by decide +kernel
theorem dX5_holds_6 : decode cX5_holds 6 = .ok (.aload_n 0, 1) := by decide +kernel
theorem dX5_holds_7 : decode cX5_holds 7 = .ok (.getfield 15, 3) := by decide +kernel
theorem dX5_holds_10 : decode cX5_holds 10 = .ok (.iadd, 1) := by decide +kernel
theorem dX5_holds_11 : decode cX5_holds 11 = .ok (.istore_n 3, 1) := by decide +kernel
theorem dX5_holds_12 : decode cX5_holds 12 = .ok (.aload_n 0, 1) := by decide +kernel
theorem dX5_holds_13 : decode cX5_holds 13 = .ok (.getfield 9, 3) := by decide +kernel
theorem dX5_holds_16 : decode cX5_holds 16 = .ok (.tableswitch 95 1 6 #[40, 44, 53, 59, 68, 84], 40) := by decide +kernel
theorem dX5_holds_56 : decode cX5_holds 56 = .ok (.iload_n 3, 1) := by decide +kernel
theorem dX5_holds_57 : decode cX5_holds 57 = .ok (.iconst 2, 1) := by decide +kernel
theorem dX5_holds_58 : decode cX5_holds 58 = .ok (.isub, 1) := by decide +kernel
theorem dX5_holds_59 : decode cX5_holds 59 = .ok (.ireturn, 1) := by decide +kernel
theorem dX5_holds_60 : decode cX5_holds 60 = .ok (.iload_n 3, 1) := by decide +kernel
theorem dX5_holds_61 : decode cX5_holds 61 = .ok (.aload_n 0, 1) := by decide +kernel
theorem dX5_holds_62 : decode cX5_holds 62 = .ok (.getfield 27, 3) := by decide +kernel
theorem dX5_holds_65 : decode cX5_holds 65 = .ok (.iconst 5, 1) := by decide +kernel
theorem dX5_holds_66 : decode cX5_holds 66 = .ok (.idiv, 1) := by decide +kernel
theorem dX5_holds_67 : decode cX5_holds 67 = .ok (.iadd, 1) := by decide +kernel
theorem dX5_holds_68 : decode cX5_holds 68 = .ok (.ireturn, 1) := by decide +kernel
theorem dX5_holds_69 : decode cX5_holds 69 = .ok (.iload_n 3, 1) := by decide +kernel
theorem dX5_holds_70 : decode cX5_holds 70 = .ok (.iload_n 1, 1) := by decide +kernel
theorem dX5_holds_71 : decode cX5_holds 71 = .ok (.iconst 3, 1) := by decide +kernel
theorem dX5_holds_72 : decode cX5_holds 72 = .ok (.irem, 1) := by decide +kernel
theorem dX5_holds_73 : decode cX5_holds 73 = .ok (.iadd, 1) := by decide +kernel
theorem dX5_holds_74 : decode cX5_holds 74 = .ok (.ireturn, 1) := by decide +kernel
theorem dX5_holds_75 : decode cX5_holds 75 = .ok (.iload_n 3, 1) := by decide +kernel
theorem dX5_holds_76 : decode cX5_holds 76 = .ok (.iconst 2, 1) := by decide +kernel
theorem dX5_holds_77 : decode cX5_holds 77 = .ok (.isub, 1) := by decide +kernel
theorem dX5_holds_78 : decode cX5_holds 78 = .ok (.aload_n 0, 1) := by decide +kernel
theorem dX5_holds_79 : decode cX5_holds 79 = .ok (.getfield 21, 3) := by decide +kernel
theorem dX5_holds_82 : decode cX5_holds 82 = .ok (.iadd, 1) := by decide +kernel
theorem dX5_holds_83 : decode cX5_holds 83 = .ok (.ireturn, 1) := by decide +kernel
theorem dX5_holds_84 : decode cX5_holds 84 = .ok (.iconst 2, 1) := by decide +kernel
theorem dX5_holds_85 : decode cX5_holds 85 = .ok (.iload_n 3, 1) := by decide +kernel
theorem dX5_holds_86 : decode cX5_holds 86 = .ok (.aload_n 0, 1) := by decide +kernel
theorem dX5_holds_87 : decode cX5_holds 87 = .ok (.getfield 27, 3) := by decide +kernel
theorem dX5_holds_90 : decode cX5_holds 90 = .ok (.iconst 5, 1) := by decide +kernel
theorem dX5_holds_91 : decode cX5_holds 91 = .ok (.idiv, 1) := by decide +kernel
theorem dX5_holds_92 : decode cX5_holds 92 = .ok (.iadd, 1) := by decide +kernel
theorem dX5_holds_93 : decode cX5_holds 93 = .ok (.imul, 1) := by decide +kernel
theorem dX5_holds_94 : decode cX5_holds 94 = .ok (.aload_n 0, 1) := by decide +kernel
theorem dX5_holds_95 : decode cX5_holds 95 = .ok (.getfield 15, 3) := by decide +kernel
theorem dX5_holds_98 : decode cX5_holds 98 = .ok (.isub, 1) := by decide +kernel
theorem dX5_holds_99 : decode cX5_holds 99 = .ok (.ireturn, 1) := by decide +kernel
theorem dX5_holds_100 : decode cX5_holds 100 = .ok (.iload_n 2, 1) := by decide +kernel
theorem dX5_holds_101 : decode cX5_holds 101 = .ok (.iconst 1, 1) := by decide +kernel
theorem dX5_holds_102 : decode cX5_holds 102 = .ok (.if_icmp .ne 7, 3) := by decide +kernel
theorem dX5_holds_105 : decode cX5_holds 105 = .ok (.iconst 0, 1) := by decide +kernel
theorem dX5_holds_106 : decode cX5_holds 106 = .ok (.goto 4, 3) := by decide +kernel
theorem dX5_holds_109 : decode cX5_holds 109 = .ok (.iload_n 3, 1) := by decide +kernel
theorem dX5_holds_110 : decode cX5_holds 110 = .ok (.ireturn, 1) := by decide +kernel
theorem dX5_holds_111 : decode cX5_holds 111 = .ok (.iload_n 3, 1) := by decide +kernel
theorem dX5_holds_112 : decode cX5_holds 112 = .ok (.ireturn, 1) := by decide +kernel
theorem dX5_ownAt_0 : decode cX5_ownAt 0 = .ok (.iload_n 1, 1) := by decide +kernel
theorem dX5_ownAt_1 : decode cX5_ownAt 1 = .ok (.invokestatic 55, 3) := by decide +kernel
theorem dX5_ownAt_4 : decode cX5_ownAt 4 = .ok (.ifCond .ne 5, 3) := by decide +kernel
theorem dX5_ownAt_7 : decode cX5_ownAt 7 = .ok (.lconst 0, 1) := by decide +kernel
theorem dX5_ownAt_8 : decode cX5_ownAt 8 = .ok (.lreturn, 1) := by decide +kernel
theorem dX5_ownAt_9 : decode cX5_ownAt 9 = .ok (.iload_n 1, 1) := by decide +kernel
theorem dX5_ownAt_10 : decode cX5_ownAt 10 = .ok (.bipush 8, 2) := by decide +kernel
theorem dX5_ownAt_12 : decode cX5_ownAt 12 = .ok (.irem, 1) := by decide +kernel
theorem dX5_ownAt_13 : decode cX5_ownAt 13 = .ok (.istore_n 2, 1) := by decide +kernel
theorem dX5_ownAt_14 : decode cX5_ownAt 14 = .ok (.lconst 1, 1) := by decide +kernel
theorem dX5_ownAt_15 : decode cX5_ownAt 15 = .ok (.aload_n 0, 1) := by decide +kernel
theorem dX5_ownAt_16 : decode cX5_ownAt 16 = .ok (.invokevirtual 59, 3) := by decide +kernel
theorem dX5_ownAt_19 : decode cX5_ownAt 19 = .ok (.lshl, 1) := by decide +kernel
theorem dX5_ownAt_20 : decode cX5_ownAt 20 = .ok (.lconst 1, 1) := by decide +kernel
theorem dX5_ownAt_21 : decode cX5_ownAt 21 = .ok (.lsub, 1) := by decide +kernel
theorem dX5_ownAt_22 : decode cX5_ownAt 22 = .ok (.iload_n 2, 1) := by decide +kernel
theorem dX5_ownAt_23 : decode cX5_ownAt 23 = .ok (.lshl, 1) := by decide +kernel
theorem dX5_ownAt_24 : decode cX5_ownAt 24 = .ok (.ldc2_w 63, 3) := by decide +kernel
theorem dX5_ownAt_27 : decode cX5_ownAt 27 = .ok (.land, 1) := by decide +kernel
theorem dX5_ownAt_28 : decode cX5_ownAt 28 = .ok (.lstore_n 3, 1) := by decide +kernel
theorem dX5_ownAt_29 : decode cX5_ownAt 29 = .ok (.lload_n 3, 1) := by decide +kernel
theorem dX5_ownAt_30 : decode cX5_ownAt 30 = .ok (.iload_n 1, 1) := by decide +kernel
theorem dX5_ownAt_31 : decode cX5_ownAt 31 = .ok (.iload_n 2, 1) := by decide +kernel
theorem dX5_ownAt_32 : decode cX5_ownAt 32 = .ok (.isub, 1) := by decide +kernel
theorem dX5_ownAt_33 : decode cX5_ownAt 33 = .ok (.lshl, 1) := by decide +kernel
theorem dX5_ownAt_34 : decode cX5_ownAt 34 = .ok (.lreturn, 1) := by decide +kernel
theorem dX5_own_0 : decode cX5_own 0 = .ok (.aload_n 0, 1) := by decide +kernel
theorem dX5_own_1 : decode cX5_own 1 = .ok (.aload_n 0, 1) := by decide +kernel
theorem dX5_own_2 : decode cX5_own 2 = .ok (.getfield 30, 3) := by decide +kernel
theorem dX5_own_5 : decode cX5_own 5 = .ok (.invokevirtual 65, 3) := by decide +kernel
theorem dX5_own_8 : decode cX5_own 8 = .ok (.lreturn, 1) := by decide +kernel
theorem dX6_init_0 : decode cX6_init 0 = .ok (.aload_n 0, 1) := by decide +kernel
theorem dX6_init_1 : decode cX6_init 1 = .ok (.invokespecial 3, 3) := by decide +kernel
theorem dX6_init_4 : decode cX6_init 4 = .ok (.aload_n 0, 1) := by decide +kernel
theorem dX6_init_5 : decode cX6_init 5 = .ok (.new 9, 3) := by decide +kernel
theorem dX6_init_8 : decode cX6_init 8 = .ok (.dup, 1) := by decide +kernel
theorem dX6_init_9 : decode cX6_init 9 = .ok (.invokespecial 11, 3) := by decide +kernel
theorem dX6_init_12 : decode cX6_init 12 = .ok (.putfield 12, 3) := by decide +kernel
theorem dX6_init_15 : decode cX6_init 15 = .ok (.aload_n 0, 1) := by decide +kernel
theorem dX6_init_16 : decode cX6_init 16 = .ok (.new 9, 3) := by decide +kernel
theorem dX6_init_19 : decode cX6_init 19 = .ok (.dup, 1) := by decide +kernel
theorem dX6_init_20 : decode cX6_init 20 = .ok (.invokespecial 11, 3) := by decide +kernel
theorem dX6_init_23 : decode cX6_init 23 = .ok (.putfield 16, 3) := by decide +kernel
theorem dX6_init_26 : decode cX6_init 26 = .ok (.aload_n 0, 1) := by decide +kernel
theorem dX6_init_27 : decode cX6_init 27 = .ok (.iconst 0, 1) := by decide +kernel
theorem dX6_init_28 : decode cX6_init 28 = .ok (.putfield 19, 3) := by decide +kernel
theorem dX6_init_31 : decode cX6_init 31 = .ok (.aload_n 0, 1) := by decide +kernel
theorem dX6_init_32 : decode cX6_init 32 = .ok (.new 23, 3) := by decide +kernel
theorem dX6_init_35 : decode cX6_init 35 = .ok (.dup, 1) := by decide +kernel
theorem dX6_init_36 : decode cX6_init 36 = .ok (.invokespecial 25, 3) := by decide +kernel
theorem dX6_init_39 : decode cX6_init 39 = .ok (.putfield 26, 3) := by decide +kernel
theorem dX6_init_42 : decode cX6_init 42 = .ok (.aload_n 0, 1) := by decide +kernel
theorem dX6_init_43 : decode cX6_init 43 = .ok (.new 30, 3) := by decide +kernel
theorem dX6_init_46 : decode cX6_init 46 = .ok (.dup, 1) := by decide +kernel
theorem dX6_init_47 : decode cX6_init 47 = .ok (.invokespecial 32, 3) := by decide +kernel
theorem dX6_init_50 : decode cX6_init 50 = .ok (.putfield 33, 3) := by decide +kernel
theorem dX6_init_53 : decode cX6_init 53 = .ok (.aload_n 0, 1) := by decide +kernel
theorem dX6_init_54 : decode cX6_init 54 = .ok (.iconst 4, 1) := by decide +kernel
theorem dX6_init_55 : decode cX6_init 55 = .ok (.anewarray 37, 3) := by decide +kernel
theorem dX6_init_58 : decode cX6_init 58 = .ok (.putfield 39, 3) := by decide +kernel
theorem dX6_init_61 : decode cX6_init 61 = .ok (.aload_n 0, 1) := by decide +kernel
theorem dX6_init_62 : decode cX6_init 62 = .ok (.bipush 7, 2) := by decide +kernel
theorem dX6_init_64 : decode cX6_init 64 = .ok (.newarray .int, 2) := by decide +kernel
theorem dX6_init_66 : decode cX6_init 66 = .ok (.putfield 43, 3) := by decide +kernel
theorem dX6_init_69 : decode cX6_init 69 = .ok (.iconst 0, 1) := by decide +kernel
theorem dX6_init_70 : decode cX6_init 70 = .ok (.istore_n 1, 1) := by decide +kernel
theorem dX6_init_71 : decode cX6_init 71 = .ok (.iload_n 1, 1) := by decide +kernel
theorem dX6_init_72 : decode cX6_init 72 = .ok (.iconst 4, 1) := by decide +kernel
theorem dX6_init_73 : decode cX6_init 73 = .ok (.if_icmp .ge 22, 3) := by decide +kernel
theorem dX6_init_76 : decode cX6_init 76 = .ok (.aload_n 0, 1) := by decide +kernel
theorem dX6_init_77 : decode cX6_init 77 = .ok (.getfield 39, 3) := by decide +kernel
theorem dX6_init_80 : decode cX6_init 80 = .ok (.iload_n 1, 1) := by decide +kernel
theorem dX6_init_81 : decode cX6_init 81 = .ok (.new 37, 3) := by decide +kernel
theorem dX6_init_84 : decode cX6_init 84 = .ok (.dup, 1) := by decide +kernel
theorem dX6_init_85 : decode cX6_init 85 = .ok (.invokespecial 47, 3) := by decide +kernel
theorem dX6_init_88 : decode cX6_init 88 = .ok (.aastore, 1) := by decide +kernel
theorem dX6_init_89 : decode cX6_init 89 = .ok (.iinc 1 1, 3) := by decide +kernel
theorem dX6_init_92 : decode cX6_init 92 = .ok (.goto (-21), 3) := by decide +kernel
theorem dX6_init_95 : decode cX6_init 95 = .ok (.return_, 1) := by decide +kernel
theorem dX6_slate_0 : decode cX6_slate 0 = .ok (.iload_n 1, 1) := by decide +kernel
theorem dX6_slate_1 : decode cX6_slate 1 = .ok (.invokestatic 48, 3) := by decide +kernel
theorem dX6_slate_4 : decode cX6_slate 4 = .ok (.ifCond .eq 38, 3) := by decide +kernel
theorem dX6_slate_7 : decode cX6_slate 7 = .ok (.iload_n 2, 1) := by decide +kernel
theorem dX6_slate_8 : decode cX6_slate 8 = .ok (.iconst 1, 1) := by decide +kernel
theorem dX6_slate_9 : decode cX6_slate 9 = .ok (.if_icmp .lt 33, 3) := by decide +kernel
theorem dX6_slate_12 : decode cX6_slate 12 = .ok (.iload_n 2, 1) := by decide +kernel
theorem dX6_slate_13 : decode cX6_slate 13 = .ok (.iconst 2, 1) := by decide +kernel
theorem dX6_slate_14 : decode cX6_slate 14 = .ok (.if_icmp .gt 28, 3) := by decide +kernel
theorem dX6_slate_17 : decode cX6_slate 17 = .ok (.iload_n 3, 1) := by decide +kernel
theorem dX6_slate_18 : decode cX6_slate 18 = .ok (.invokestatic 52, 3) := by decide +kernel
theorem dX6_slate_21 : decode cX6_slate 21 = .ok (.ifCond .eq 21, 3) := by decide +kernel
theorem dX6_slate_24 : decode cX6_slate 24 = .ok (.iload 4, 2) := by decide +kernel
theorem dX6_slate_26 : decode cX6_slate 26 = .ok (.iconst (-1), 1) := by decide +kernel
theorem dX6_slate_27 : decode cX6_slate 27 = .ok (.if_icmp .lt 15, 3) := by decide +kernel
theorem dX6_slate_30 : decode cX6_slate 30 = .ok (.iload 4, 2) := by decide +kernel
theorem dX6_slate_32 : decode cX6_slate 32 = .ok (.aload_n 0, 1) := by decide +kernel
theorem dX6_slate_33 : decode cX6_slate 33 = .ok (.getfield 12, 3) := by decide +kernel
theorem dX6_slate_36 : decode cX6_slate 36 = .ok (.getfield 55, 3) := by decide +kernel
theorem dX6_slate_39 : decode cX6_slate 39 = .ok (.if_icmp .lt 9, 3) := by decide +kernel
theorem dX6_slate_42 : decode cX6_slate 42 = .ok (.aload_n 0, 1) := by decide +kernel
theorem dX6_slate_43 : decode cX6_slate 43 = .ok (.iconst 1, 1) := by decide +kernel
theorem dX6_slate_44 : decode cX6_slate 44 = .ok (.invokevirtual 58, 3) := by decide +kernel
theorem dX6_slate_47 : decode cX6_slate 47 = .ok (.ireturn, 1) := by decide +kernel
theorem dX6_slate_48 : decode cX6_slate 48 = .ok (.aload_n 0, 1) := by decide +kernel
theorem dX6_slate_49 : decode cX6_slate 49 = .ok (.getfield 12, 3) := by decide +kernel
theorem dX6_slate_52 : decode cX6_slate 52 = .ok (.getfield 55, 3) := by decide +kernel
theorem dX6_slate_55 : decode cX6_slate 55 = .ok (.bipush 10, 2) := by decide +kernel
theorem dX6_slate_57 : decode cX6_slate 57 = .ok (.if_icmp .lt 9, 3) := by decide +kernel
theorem dX6_slate_60 : decode cX6_slate 60 = .ok (.aload_n 0, 1) := by decide +kernel
theorem dX6_slate_61 : decode cX6_slate 61 = .ok (.iconst 4, 1) := by decide +kernel
theorem dX6_slate_62 : decode cX6_slate 62 = .ok (.invokevirtual 58, 3) := by decide +kernel
theorem dX6_slate_65 : decode cX6_slate 65 = .ok (.ireturn, 1) := by decide +kernel
theorem dX6_slate_66 : decode cX6_slate 66 = .ok (.aload_n 0, 1) := by decide +kernel
theorem dX6_slate_67 : decode cX6_slate 67 = .ok (.getfield 12, 3) := by decide +kernel
theorem dX6_slate_70 : decode cX6_slate 70 = .ok (.getfield 62, 3) := by decide +kernel
theorem dX6_slate_73 : decode cX6_slate 73 = .ok (.aload_n 0, 1) := by decide +kernel
theorem dX6_slate_74 : decode cX6_slate 74 = .ok (.getfield 12, 3) := by decide +kernel
theorem dX6_slate_77 : decode cX6_slate 77 = .ok (.getfield 55, 3) := by decide +kernel
theorem dX6_slate_80 : decode cX6_slate 80 = .ok (.aaload, 1) := by decide +kernel
theorem dX6_slate_81 : decode cX6_slate 81 = .ok (.iload_n 1, 1) := by decide +kernel
theorem dX6_slate_82 : decode cX6_slate 82 = .ok (.iload_n 2, 1) := by decide +kernel
theorem dX6_slate_83 : decode cX6_slate 83 = .ok (.iload_n 3, 1) := by decide +kernel
theorem dX6_slate_84 : decode cX6_slate 84 = .ok (.iload 4, 2) := by decide +kernel
theorem dX6_slate_86 : decode cX6_slate 86 = .ok (.invokevirtual 66, 3) := by decide +kernel
theorem dX6_slate_89 : decode cX6_slate 89 = .ok (.aload_n 0, 1) := by decide +kernel
theorem dX6_slate_90 : decode cX6_slate 90 = .ok (.getfield 12, 3) := by decide +kernel
theorem dX6_slate_93 : decode cX6_slate 93 = .ok (.dup, 1) := by decide +kernel
theorem dX6_slate_94 : decode cX6_slate 94 = .ok (.getfield 55, 3) := by decide +kernel
theorem dX6_slate_97 : decode cX6_slate 97 = .ok (.iconst 1, 1) := by decide +kernel
theorem dX6_slate_98 : decode cX6_slate 98 = .ok (.iadd, 1) := by decide +kernel
theorem dX6_slate_99 : decode cX6_slate 99 = .ok (.putfield 55, 3) := by decide +kernel
theorem dX6_slate_102 : decode cX6_slate 102 = .ok (.aload_n 0, 1) := by decide +kernel
theorem dX6_slate_103 : decode cX6_slate 103 = .ok (.getfield 12, 3) := by decide +kernel
theorem dX6_slate_106 : decode cX6_slate 106 = .ok (.getfield 55, 3) := by decide +kernel
theorem dX6_slate_109 : decode cX6_slate 109 = .ok (.iconst 1, 1) := by decide +kernel
theorem dX6_slate_110 : decode cX6_slate 110 = .ok (.isub, 1) := by decide +kernel
theorem dX6_slate_111 : decode cX6_slate 111 = .ok (.ireturn, 1) := by decide +kernel
theorem dX6_slateIs_0 : decode cX6_slateIs 0 = .ok (.aload_n 0, 1) := by decide +kernel
theorem dX6_slateIs_1 : decode cX6_slateIs 1 = .ok (.iload_n 1, 1) := by decide +kernel
theorem dX6_slateIs_2 : decode cX6_slateIs 2 = .ok (.invokevirtual 72, 3) := by decide +kernel
theorem dX6_slateIs_5 : decode cX6_slateIs 5 = .ok (.ifCond .ne 9, 3) := by decide +kernel
theorem dX6_slateIs_8 : decode cX6_slateIs 8 = .ok (.aload_n 0, 1) := by decide +kernel
theorem dX6_slateIs_9 : decode cX6_slateIs 9 = .ok (.iconst 1, 1) := by decide +kernel
theorem dX6_slateIs_10 : decode cX6_slateIs 10 = .ok (.invokevirtual 58, 3) := by decide +kernel
theorem dX6_slateIs_13 : decode cX6_slateIs 13 = .ok (.ireturn, 1) := by decide +kernel
theorem dX6_slateIs_14 : decode cX6_slateIs 14 = .ok (.aload_n 0, 1) := by decide +kernel
theorem dX6_slateIs_15 : decode cX6_slateIs 15 = .ok (.getfield 12, 3) := by decide +kernel
theorem dX6_slateIs_18 : decode cX6_slateIs 18 = .ok (.getfield 62, 3) := by decide +kernel
theorem dX6_slateIs_21 : decode cX6_slateIs 21 = .ok (.iload_n 1, 1) := by decide +kernel
theorem dX6_slateIs_22 : decode cX6_slateIs 22 = .ok (.aaload, 1) := by decide +kernel
theorem dX6_slateIs_23 : decode cX6_slateIs 23 = .ok (.astore_n 3, 1) := by decide +kernel
theorem dX6_slateIs_24 : decode cX6_slateIs 24 = .ok (.iload_n 2, 1) := by decide +kernel
theorem dX6_slateIs_25 : decode cX6_slateIs 25 = .ok (.tableswitch 110 0 9 #[55, 60, 65, 70, 75, 80, 85, 90, 95, 100], 55) := by decide +kernel
theorem dX6_slateIs_80 : decode cX6_slateIs 80 = .ok (.aload_n 3, 1) := by decide +kernel
theorem dX6_slateIs_81 : decode cX6_slateIs 81 = .ok (.getfield 75, 3) := by decide +kernel
theorem dX6_slateIs_84 : decode cX6_slateIs 84 = .ok (.ireturn, 1) := by decide +kernel
theorem dX6_slateIs_85 : decode cX6_slateIs 85 = .ok (.aload_n 3, 1) := by decide +kernel
theorem dX6_slateIs_86 : decode cX6_slateIs 86 = .ok (.getfield 78, 3) := by decide +kernel
theorem dX6_slateIs_89 : decode cX6_slateIs 89 = .ok (.ireturn, 1) := by decide +kernel
theorem dX6_slateIs_90 : decode cX6_slateIs 90 = .ok (.aload_n 3, 1) := by decide +kernel
theorem dX6_slateIs_91 : decode cX6_slateIs 91 = .ok (.getfield 81, 3) := by decide +kernel
theorem dX6_slateIs_94 : decode cX6_slateIs 94 = .ok (.ireturn, 1) := by decide +kernel
theorem dX6_slateIs_95 : decode cX6_slateIs 95 = .ok (.aload_n 3, 1) := by decide +kernel
theorem dX6_slateIs_96 : decode cX6_slateIs 96 = .ok (.getfield 84, 3) := by decide +kernel
theorem dX6_slateIs_99 : decode cX6_slateIs 99 = .ok (.ireturn, 1) := by decide +kernel
theorem dX6_slateIs_100 : decode cX6_slateIs 100 = .ok (.aload_n 3, 1) := by decide +kernel
theorem dX6_slateIs_101 : decode cX6_slateIs 101 = .ok (.getfield 87, 3) := by decide +kernel
theorem dX6_slateIs_104 : decode cX6_slateIs 104 = .ok (.ireturn, 1) := by decide +kernel
theorem dX6_slateIs_105 : decode cX6_slateIs 105 = .ok (.aload_n 3, 1) := by decide +kernel
theorem dX6_slateIs_106 : decode cX6_slateIs 106 = .ok (.invokevirtual 90, 3) := by decide +kernel
theorem dX6_slateIs_109 : decode cX6_slateIs 109 = .ok (.ireturn, 1) := by decide +kernel
theorem dX6_slateIs_110 : decode cX6_slateIs 110 = .ok (.aload_n 3, 1) := by decide +kernel
theorem dX6_slateIs_111 : decode cX6_slateIs 111 = .ok (.invokevirtual 94, 3) := by decide +kernel
theorem dX6_slateIs_114 : decode cX6_slateIs 114 = .ok (.ireturn, 1) := by decide +kernel
theorem dX6_slateIs_115 : decode cX6_slateIs 115 = .ok (.aload_n 3, 1) := by decide +kernel
theorem dX6_slateIs_116 : decode cX6_slateIs 116 = .ok (.getfield 97, 3) := by decide +kernel
theorem dX6_slateIs_119 : decode cX6_slateIs 119 = .ok (.ireturn, 1) := by decide +kernel
theorem dX6_slateIs_120 : decode cX6_slateIs 120 = .ok (.aload_n 3, 1) := by decide +kernel
theorem dX6_slateIs_121 : decode cX6_slateIs 121 = .ok (.invokevirtual 100, 3) := by decide +kernel
theorem dX6_slateIs_124 : decode cX6_slateIs 124 = .ok (.ireturn, 1) := by decide +kernel
theorem dX6_slateIs_125 : decode cX6_slateIs 125 = .ok (.aload_n 0, 1) := by decide +kernel
theorem dX6_slateIs_126 : decode cX6_slateIs 126 = .ok (.getfield 12, 3) := by decide +kernel
theorem dX6_slateIs_129 : decode cX6_slateIs 129 = .ok (.iload_n 1, 1) := by decide +kernel
theorem dX6_slateIs_130 : decode cX6_slateIs 130 = .ok (.iconst 0, 1) := by decide +kernel
theorem dX6_slateIs_131 : decode cX6_slateIs 131 = .ok (.invokevirtual 103, 3) := by decide +kernel
theorem dX6_slateIs_134 : decode cX6_slateIs 134 = .ok (.ireturn, 1) := by decide +kernel
theorem dX6_slateIs_135 : decode cX6_slateIs 135 = .ok (.aload_n 0, 1) := by decide +kernel
theorem dX6_slateIs_136 : decode cX6_slateIs 136 = .ok (.iconst 1, 1) := by decide +kernel
theorem dX6_slateIs_137 : decode cX6_slateIs 137 = .ok (.invokevirtual 58, 3) := by decide +kernel
theorem dX6_slateIs_140 : decode cX6_slateIs 140 = .ok (.ireturn, 1) := by decide +kernel
theorem dX6_become_0 : decode cX6_become 0 = .ok (.aload_n 0, 1) := by decide +kernel
theorem dX6_become_1 : decode cX6_become 1 = .ok (.iload_n 1, 1) := by decide +kernel
theorem dX6_become_2 : decode cX6_become 2 = .ok (.invokevirtual 72, 3) := by decide +kernel
theorem dX6_become_5 : decode cX6_become 5 = .ok (.ifCond .eq 10, 3) := by decide +kernel
theorem dX6_become_8 : decode cX6_become 8 = .ok (.iload_n 2, 1) := by decide +kernel
theorem dX6_become_9 : decode cX6_become 9 = .ok (.invokestatic 48, 3) := by decide +kernel
theorem dX6_become_12 : decode cX6_become 12 = .ok (.ifCond .ne 9, 3) := by decide +kernel
theorem dX6_become_15 : decode cX6_become 15 = .ok (.aload_n 0, 1) := by decide +kernel
theorem dX6_become_16 : decode cX6_become 16 = .ok (.iconst 1, 1) := by decide +kernel
theorem dX6_become_17 : decode cX6_become 17 = .ok (.invokevirtual 58, 3) := by decide +kernel
theorem dX6_become_20 : decode cX6_become 20 = .ok (.ireturn, 1) := by decide +kernel
theorem dX6_become_21 : decode cX6_become 21 = .ok (.aload_n 0, 1) := by decide +kernel
theorem dX6_become_22 : decode cX6_become 22 = .ok (.getfield 12, 3) := by decide +kernel
theorem dX6_become_25 : decode cX6_become 25 = .ok (.getfield 62, 3) := by decide +kernel
theorem dX6_become_28 : decode cX6_become 28 = .ok (.iload_n 1, 1) := by decide +kernel
theorem dX6_become_29 : decode cX6_become 29 = .ok (.aaload, 1) := by decide +kernel
theorem dX6_become_30 : decode cX6_become 30 = .ok (.getfield 75, 3) := by decide +kernel
theorem dX6_become_33 : decode cX6_become 33 = .ok (.istore_n 3, 1) := by decide +kernel
theorem dX6_become_34 : decode cX6_become 34 = .ok (.aload_n 0, 1) := by decide +kernel
theorem dX6_become_35 : decode cX6_become 35 = .ok (.getfield 12, 3) := by decide +kernel
theorem dX6_become_38 : decode cX6_become 38 = .ok (.getfield 62, 3) := by decide +kernel
theorem dX6_become_41 : decode cX6_become 41 = .ok (.iload_n 1, 1) := by decide +kernel
theorem dX6_become_42 : decode cX6_become 42 = .ok (.aaload, 1) := by decide +kernel
theorem dX6_become_43 : decode cX6_become 43 = .ok (.iload_n 2, 1) := by decide +kernel
theorem dX6_become_44 : decode cX6_become 44 = .ok (.invokevirtual 107, 3) := by decide +kernel
theorem dX6_become_47 : decode cX6_become 47 = .ok (.iload_n 3, 1) := by decide +kernel
theorem dX6_become_48 : decode cX6_become 48 = .ok (.ireturn, 1) := by decide +kernel
theorem dX6_as_0 : decode cX6_as 0 = .ok (.aload_n 0, 1) := by decide +kernel
theorem dX6_as_1 : decode cX6_as 1 = .ok (.iload_n 1, 1) := by decide +kernel
theorem dX6_as_2 : decode cX6_as 2 = .ok (.invokevirtual 72, 3) := by decide +kernel
theorem dX6_as_5 : decode cX6_as 5 = .ok (.ifCond .eq 13, 3) := by decide +kernel
theorem dX6_as_8 : decode cX6_as 8 = .ok (.iload_n 2, 1) := by decide +kernel
theorem dX6_as_9 : decode cX6_as 9 = .ok (.ifCond .lt 9, 3) := by decide +kernel
theorem dX6_as_12 : decode cX6_as 12 = .ok (.iload_n 2, 1) := by decide +kernel
theorem dX6_as_13 : decode cX6_as 13 = .ok (.bipush 6, 2) := by decide +kernel
theorem dX6_as_15 : decode cX6_as 15 = .ok (.if_icmp .le 9, 3) := by decide +kernel
theorem dX6_as_18 : decode cX6_as 18 = .ok (.aload_n 0, 1) := by decide +kernel
theorem dX6_as_19 : decode cX6_as 19 = .ok (.iconst 1, 1) := by decide +kernel
theorem dX6_as_20 : decode cX6_as 20 = .ok (.invokevirtual 58, 3) := by decide +kernel
theorem dX6_as_23 : decode cX6_as 23 = .ok (.ireturn, 1) := by decide +kernel
theorem dX6_as_24 : decode cX6_as 24 = .ok (.aload_n 0, 1) := by decide +kernel
theorem dX6_as_25 : decode cX6_as 25 = .ok (.getfield 12, 3) := by decide +kernel
theorem dX6_as_28 : decode cX6_as 28 = .ok (.getfield 62, 3) := by decide +kernel
theorem dX6_as_31 : decode cX6_as 31 = .ok (.iload_n 1, 1) := by decide +kernel
theorem dX6_as_32 : decode cX6_as 32 = .ok (.aaload, 1) := by decide +kernel
theorem dX6_as_33 : decode cX6_as 33 = .ok (.iload_n 2, 1) := by decide +kernel
theorem dX6_as_34 : decode cX6_as 34 = .ok (.invokevirtual 111, 3) := by decide +kernel
theorem dX6_as_37 : decode cX6_as 37 = .ok (.ifCond .eq 18, 3) := by decide +kernel
theorem dX6_as_40 : decode cX6_as 40 = .ok (.aload_n 0, 1) := by decide +kernel
theorem dX6_as_41 : decode cX6_as 41 = .ok (.getfield 12, 3) := by decide +kernel
theorem dX6_as_44 : decode cX6_as 44 = .ok (.getfield 62, 3) := by decide +kernel
theorem dX6_as_47 : decode cX6_as 47 = .ok (.iload_n 1, 1) := by decide +kernel
theorem dX6_as_48 : decode cX6_as 48 = .ok (.aaload, 1) := by decide +kernel
theorem dX6_as_49 : decode cX6_as 49 = .ok (.getfield 78, 3) := by decide +kernel
theorem dX6_as_52 : decode cX6_as 52 = .ok (.goto 8, 3) := by decide +kernel
theorem dX6_as_55 : decode cX6_as 55 = .ok (.aload_n 0, 1) := by decide +kernel
theorem dX6_as_56 : decode cX6_as 56 = .ok (.iconst 5, 1) := by decide +kernel
theorem dX6_as_57 : decode cX6_as 57 = .ok (.invokevirtual 58, 3) := by decide +kernel
theorem dX6_as_60 : decode cX6_as 60 = .ok (.ireturn, 1) := by decide +kernel
theorem dX6_lay_0 : decode cX6_lay 0 = .ok (.aload_n 0, 1) := by decide +kernel
theorem dX6_lay_1 : decode cX6_lay 1 = .ok (.iload_n 1, 1) := by decide +kernel
theorem dX6_lay_2 : decode cX6_lay 2 = .ok (.invokevirtual 72, 3) := by decide +kernel
theorem dX6_lay_5 : decode cX6_lay 5 = .ok (.ifCond .eq 23, 3) := by decide +kernel
theorem dX6_lay_8 : decode cX6_lay 8 = .ok (.iload_n 2, 1) := by decide +kernel
theorem dX6_lay_9 : decode cX6_lay 9 = .ok (.ifCond .lt 19, 3) := by decide +kernel
theorem dX6_lay_12 : decode cX6_lay 12 = .ok (.iload_n 2, 1) := by decide +kernel
theorem dX6_lay_13 : decode cX6_lay 13 = .ok (.bipush 6, 2) := by decide +kernel
theorem dX6_lay_15 : decode cX6_lay 15 = .ok (.if_icmp .ge 13, 3) := by decide +kernel
theorem dX6_lay_18 : decode cX6_lay 18 = .ok (.iload_n 3, 1) := by decide +kernel
theorem dX6_lay_19 : decode cX6_lay 19 = .ok (.ifCond .lt 9, 3) := by decide +kernel
theorem dX6_lay_22 : decode cX6_lay 22 = .ok (.iload_n 3, 1) := by decide +kernel
theorem dX6_lay_23 : decode cX6_lay 23 = .ok (.bipush 8, 2) := by decide +kernel
theorem dX6_lay_25 : decode cX6_lay 25 = .ok (.if_icmp .lt 9, 3) := by decide +kernel
theorem dX6_lay_28 : decode cX6_lay 28 = .ok (.aload_n 0, 1) := by decide +kernel
theorem dX6_lay_29 : decode cX6_lay 29 = .ok (.iconst 1, 1) := by decide +kernel
theorem dX6_lay_30 : decode cX6_lay 30 = .ok (.invokevirtual 58, 3) := by decide +kernel
theorem dX6_lay_33 : decode cX6_lay 33 = .ok (.ireturn, 1) := by decide +kernel
theorem dX6_lay_34 : decode cX6_lay 34 = .ok (.iload_n 2, 1) := by decide +kernel
theorem dX6_lay_35 : decode cX6_lay 35 = .ok (.bipush 8, 2) := by decide +kernel
theorem dX6_lay_37 : decode cX6_lay 37 = .ok (.imul, 1) := by decide +kernel
theorem dX6_lay_38 : decode cX6_lay 38 = .ok (.iload_n 3, 1) := by decide +kernel
theorem dX6_lay_39 : decode cX6_lay 39 = .ok (.iadd, 1) := by decide +kernel
theorem dX6_lay_40 : decode cX6_lay 40 = .ok (.istore 4, 2) := by decide +kernel
theorem dX6_lay_42 : decode cX6_lay 42 = .ok (.aload_n 0, 1) := by decide +kernel
theorem dX6_lay_43 : decode cX6_lay 43 = .ok (.getfield 12, 3) := by decide +kernel
theorem dX6_lay_46 : decode cX6_lay 46 = .ok (.iload_n 1, 1) := by decide +kernel
theorem dX6_lay_47 : decode cX6_lay 47 = .ok (.iload 4, 2) := by decide +kernel
theorem dX6_lay_49 : decode cX6_lay 49 = .ok (.invokevirtual 114, 3) := by decide +kernel
theorem dX6_lay_52 : decode cX6_lay 52 = .ok (.ifCond .ne 9, 3) := by decide +kernel
theorem dX6_lay_55 : decode cX6_lay 55 = .ok (.aload_n 0, 1) := by decide +kernel
theorem dX6_lay_56 : decode cX6_lay 56 = .ok (.iconst 3, 1) := by decide +kernel
theorem dX6_lay_57 : decode cX6_lay 57 = .ok (.invokevirtual 58, 3) := by decide +kernel
theorem dX6_lay_60 : decode cX6_lay 60 = .ok (.ireturn, 1) := by decide +kernel
theorem dX6_lay_61 : decode cX6_lay 61 = .ok (.aload_n 0, 1) := by decide +kernel
theorem dX6_lay_62 : decode cX6_lay 62 = .ok (.getfield 12, 3) := by decide +kernel
theorem dX6_lay_65 : decode cX6_lay 65 = .ok (.getfield 62, 3) := by decide +kernel
theorem dX6_lay_68 : decode cX6_lay 68 = .ok (.iload_n 1, 1) := by decide +kernel
theorem dX6_lay_69 : decode cX6_lay 69 = .ok (.aaload, 1) := by decide +kernel
theorem dX6_lay_70 : decode cX6_lay 70 = .ok (.iload 4, 2) := by decide +kernel
theorem dX6_lay_72 : decode cX6_lay 72 = .ok (.putfield 118, 3) := by decide +kernel
theorem dX6_lay_75 : decode cX6_lay 75 = .ok (.aload_n 0, 1) := by decide +kernel
theorem dX6_lay_76 : decode cX6_lay 76 = .ok (.getfield 12, 3) := by decide +kernel
theorem dX6_lay_79 : decode cX6_lay 79 = .ok (.iconst 0, 1) := by decide +kernel
theorem dX6_lay_80 : decode cX6_lay 80 = .ok (.invokevirtual 121, 3) := by decide +kernel
theorem dX6_lay_83 : decode cX6_lay 83 = .ok (.invokestatic 125, 3) := by decide +kernel
theorem dX6_lay_86 : decode cX6_lay 86 = .ok (.ireturn, 1) := by decide +kernel
theorem dX6_lift_0 : decode cX6_lift 0 = .ok (.aload_n 0, 1) := by decide +kernel
theorem dX6_lift_1 : decode cX6_lift 1 = .ok (.iload_n 1, 1) := by decide +kernel
theorem dX6_lift_2 : decode cX6_lift 2 = .ok (.invokevirtual 72, 3) := by decide +kernel
theorem dX6_lift_5 : decode cX6_lift 5 = .ok (.ifCond .ne 9, 3) := by decide +kernel
theorem dX6_lift_8 : decode cX6_lift 8 = .ok (.aload_n 0, 1) := by decide +kernel
theorem dX6_lift_9 : decode cX6_lift 9 = .ok (.iconst 1, 1) := by decide +kernel
theorem dX6_lift_10 : decode cX6_lift 10 = .ok (.invokevirtual 58, 3) := by decide +kernel
theorem dX6_lift_13 : decode cX6_lift 13 = .ok (.ireturn, 1) := by decide +kernel
theorem dX6_lift_14 : decode cX6_lift 14 = .ok (.aload_n 0, 1) := by decide +kernel
theorem dX6_lift_15 : decode cX6_lift 15 = .ok (.getfield 12, 3) := by decide +kernel
theorem dX6_lift_18 : decode cX6_lift 18 = .ok (.getfield 62, 3) := by decide +kernel
theorem dX6_lift_21 : decode cX6_lift 21 = .ok (.iload_n 1, 1) := by decide +kernel
theorem dX6_lift_22 : decode cX6_lift 22 = .ok (.aaload, 1) := by decide +kernel
theorem dX6_lift_23 : decode cX6_lift 23 = .ok (.invokevirtual 131, 3) := by decide +kernel
theorem dX6_lift_26 : decode cX6_lift 26 = .ok (.ifCond .ne 9, 3) := by decide +kernel
theorem dX6_lift_29 : decode cX6_lift 29 = .ok (.aload_n 0, 1) := by decide +kernel
theorem dX6_lift_30 : decode cX6_lift 30 = .ok (.iconst 3, 1) := by decide +kernel
theorem dX6_lift_31 : decode cX6_lift 31 = .ok (.invokevirtual 58, 3) := by decide +kernel
theorem dX6_lift_34 : decode cX6_lift 34 = .ok (.ireturn, 1) := by decide +kernel
theorem dX6_lift_35 : decode cX6_lift 35 = .ok (.aload_n 0, 1) := by decide +kernel
theorem dX6_lift_36 : decode cX6_lift 36 = .ok (.getfield 12, 3) := by decide +kernel
theorem dX6_lift_39 : decode cX6_lift 39 = .ok (.getfield 62, 3) := by decide +kernel
theorem dX6_lift_42 : decode cX6_lift 42 = .ok (.iload_n 1, 1) := by decide +kernel
theorem dX6_lift_43 : decode cX6_lift 43 = .ok (.aaload, 1) := by decide +kernel
theorem dX6_lift_44 : decode cX6_lift 44 = .ok (.iconst (-1), 1) := by decide +kernel
theorem dX6_lift_45 : decode cX6_lift 45 = .ok (.putfield 118, 3) := by decide +kernel
theorem dX6_lift_48 : decode cX6_lift 48 = .ok (.aload_n 0, 1) := by decide +kernel
theorem dX6_lift_49 : decode cX6_lift 49 = .ok (.getfield 12, 3) := by decide +kernel
theorem dX6_lift_52 : decode cX6_lift 52 = .ok (.iconst 0, 1) := by decide +kernel
theorem dX6_lift_53 : decode cX6_lift 53 = .ok (.invokevirtual 121, 3) := by decide +kernel
theorem dX6_lift_56 : decode cX6_lift 56 = .ok (.invokestatic 125, 3) := by decide +kernel
theorem dX6_lift_59 : decode cX6_lift 59 = .ok (.ireturn, 1) := by decide +kernel
theorem dX6_nail_0 : decode cX6_nail 0 = .ok (.aload_n 0, 1) := by decide +kernel
theorem dX6_nail_1 : decode cX6_nail 1 = .ok (.iload_n 1, 1) := by decide +kernel
theorem dX6_nail_2 : decode cX6_nail 2 = .ok (.invokevirtual 72, 3) := by decide +kernel
theorem dX6_nail_5 : decode cX6_nail 5 = .ok (.ifCond .eq 10, 3) := by decide +kernel
theorem dX6_nail_8 : decode cX6_nail 8 = .ok (.iload_n 2, 1) := by decide +kernel
theorem dX6_nail_9 : decode cX6_nail 9 = .ok (.invokestatic 52, 3) := by decide +kernel
theorem dX6_nail_12 : decode cX6_nail 12 = .ok (.ifCond .ne 9, 3) := by decide +kernel
theorem dX6_nail_15 : decode cX6_nail 15 = .ok (.aload_n 0, 1) := by decide +kernel
theorem dX6_nail_16 : decode cX6_nail 16 = .ok (.iconst 1, 1) := by decide +kernel
theorem dX6_nail_17 : decode cX6_nail 17 = .ok (.invokevirtual 58, 3) := by decide +kernel
theorem dX6_nail_20 : decode cX6_nail 20 = .ok (.ireturn, 1) := by decide +kernel
theorem dX6_nail_21 : decode cX6_nail 21 = .ok (.aload_n 0, 1) := by decide +kernel
theorem dX6_nail_22 : decode cX6_nail 22 = .ok (.getfield 12, 3) := by decide +kernel
theorem dX6_nail_25 : decode cX6_nail 25 = .ok (.getfield 62, 3) := by decide +kernel
theorem dX6_nail_28 : decode cX6_nail 28 = .ok (.iload_n 1, 1) := by decide +kernel
theorem dX6_nail_29 : decode cX6_nail 29 = .ok (.aaload, 1) := by decide +kernel
