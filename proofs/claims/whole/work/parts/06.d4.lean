theorem dX7_liftedBy_156 : decode cX7_liftedBy 156 = .ok (.istore 9, 2) := by decide +kernel
theorem dX7_liftedBy_158 : decode cX7_liftedBy 158 = .ok (.iload 9, 2) := by decide +kernel
theorem dX7_liftedBy_160 : decode cX7_liftedBy 160 = .ok (.ifCond .eq 21, 3) := by decide +kernel
theorem dX7_liftedBy_163 : decode cX7_liftedBy 163 = .ok (.aload_n 0, 1) := by decide +kernel
theorem dX7_liftedBy_164 : decode cX7_liftedBy 164 = .ok (.iload 8, 2) := by decide +kernel
theorem dX7_liftedBy_166 : decode cX7_liftedBy 166 = .ok (.invokevirtual 140, 3) := by decide +kernel
theorem dX7_liftedBy_169 : decode cX7_liftedBy 169 = .ok (.aload_n 0, 1) := by decide +kernel
theorem dX7_liftedBy_170 : decode cX7_liftedBy 170 = .ok (.iload 6, 2) := by decide +kernel
theorem dX7_liftedBy_172 : decode cX7_liftedBy 172 = .ok (.invokevirtual 134, 3) := by decide +kernel
theorem dX7_liftedBy_175 : decode cX7_liftedBy 175 = .ok (.land, 1) := by decide +kernel
theorem dX7_liftedBy_176 : decode cX7_liftedBy 176 = .ok (.lconst 0, 1) := by decide +kernel
theorem dX7_liftedBy_177 : decode cX7_liftedBy 177 = .ok (.lcmp, 1) := by decide +kernel
theorem dX7_liftedBy_178 : decode cX7_liftedBy 178 = .ok (.ifCond .ne 7, 3) := by decide +kernel
theorem dX7_liftedBy_181 : decode cX7_liftedBy 181 = .ok (.iconst 1, 1) := by decide +kernel
theorem dX7_liftedBy_182 : decode cX7_liftedBy 182 = .ok (.goto 4, 3) := by decide +kernel
theorem dX7_liftedBy_185 : decode cX7_liftedBy 185 = .ok (.iconst 0, 1) := by decide +kernel
theorem dX7_liftedBy_186 : decode cX7_liftedBy 186 = .ok (.istore 7, 2) := by decide +kernel
theorem dX7_liftedBy_188 : decode cX7_liftedBy 188 = .ok (.iinc 8 1, 3) := by decide +kernel
theorem dX7_liftedBy_191 : decode cX7_liftedBy 191 = .ok (.goto (-103), 3) := by decide +kernel
theorem dX7_liftedBy_194 : decode cX7_liftedBy 194 = .ok (.iload 5, 2) := by decide +kernel
theorem dX7_liftedBy_196 : decode cX7_liftedBy 196 = .ok (.iload 7, 2) := by decide +kernel
theorem dX7_liftedBy_198 : decode cX7_liftedBy 198 = .ok (.ifCond .eq 10, 3) := by decide +kernel
theorem dX7_liftedBy_201 : decode cX7_liftedBy 201 = .ok (.iconst 1, 1) := by decide +kernel
theorem dX7_liftedBy_202 : decode cX7_liftedBy 202 = .ok (.iload 6, 2) := by decide +kernel
theorem dX7_liftedBy_204 : decode cX7_liftedBy 204 = .ok (.ishl, 1) := by decide +kernel
theorem dX7_liftedBy_205 : decode cX7_liftedBy 205 = .ok (.goto 4, 3) := by decide +kernel
theorem dX7_liftedBy_208 : decode cX7_liftedBy 208 = .ok (.iconst 0, 1) := by decide +kernel
theorem dX7_liftedBy_209 : decode cX7_liftedBy 209 = .ok (.ior, 1) := by decide +kernel
theorem dX7_liftedBy_210 : decode cX7_liftedBy 210 = .ok (.istore 5, 2) := by decide +kernel
theorem dX7_liftedBy_212 : decode cX7_liftedBy 212 = .ok (.iinc 6 1, 3) := by decide +kernel
theorem dX7_liftedBy_215 : decode cX7_liftedBy 215 = .ok (.goto (-197), 3) := by decide +kernel
theorem dX7_liftedBy_218 : decode cX7_liftedBy 218 = .ok (.iload_n 3, 1) := by decide +kernel
theorem dX7_liftedBy_219 : decode cX7_liftedBy 219 = .ok (.iload 5, 2) := by decide +kernel
theorem dX7_liftedBy_221 : decode cX7_liftedBy 221 = .ok (.ior, 1) := by decide +kernel
theorem dX7_liftedBy_222 : decode cX7_liftedBy 222 = .ok (.istore_n 3, 1) := by decide +kernel
theorem dX7_liftedBy_223 : decode cX7_liftedBy 223 = .ok (.iinc 4 1, 3) := by decide +kernel
theorem dX7_liftedBy_226 : decode cX7_liftedBy 226 = .ok (.goto (-221), 3) := by decide +kernel
theorem dX7_liftedBy_229 : decode cX7_liftedBy 229 = .ok (.iload_n 3, 1) := by decide +kernel
theorem dX7_liftedBy_230 : decode cX7_liftedBy 230 = .ok (.ireturn, 1) := by decide +kernel
theorem dX7_galeNow_0 : decode cX7_galeNow 0 = .ok (.aload_n 0, 1) := by decide +kernel
theorem dX7_galeNow_1 : decode cX7_galeNow 1 = .ok (.iload_n 1, 1) := by decide +kernel
theorem dX7_galeNow_2 : decode cX7_galeNow 2 = .ok (.invokevirtual 146, 3) := by decide +kernel
theorem dX7_galeNow_5 : decode cX7_galeNow 5 = .ok (.aload_n 0, 1) := by decide +kernel
theorem dX7_galeNow_6 : decode cX7_galeNow 6 = .ok (.iload_n 1, 1) := by decide +kernel
theorem dX7_galeNow_7 : decode cX7_galeNow 7 = .ok (.iconst 0, 1) := by decide +kernel
theorem dX7_galeNow_8 : decode cX7_galeNow 8 = .ok (.invokevirtual 150, 3) := by decide +kernel
theorem dX7_galeNow_11 : decode cX7_galeNow 11 = .ok (.istore_n 2, 1) := by decide +kernel
theorem dX7_galeNow_12 : decode cX7_galeNow 12 = .ok (.iconst 0, 1) := by decide +kernel
theorem dX7_galeNow_13 : decode cX7_galeNow 13 = .ok (.istore_n 3, 1) := by decide +kernel
theorem dX7_galeNow_14 : decode cX7_galeNow 14 = .ok (.iload_n 3, 1) := by decide +kernel
theorem dX7_galeNow_15 : decode cX7_galeNow 15 = .ok (.aload_n 0, 1) := by decide +kernel
theorem dX7_galeNow_16 : decode cX7_galeNow 16 = .ok (.getfield 7, 3) := by decide +kernel
theorem dX7_galeNow_19 : decode cX7_galeNow 19 = .ok (.bipush 6, 2) := by decide +kernel
theorem dX7_galeNow_21 : decode cX7_galeNow 21 = .ok (.iaload, 1) := by decide +kernel
theorem dX7_galeNow_22 : decode cX7_galeNow 22 = .ok (.if_icmp .ge 36, 3) := by decide +kernel
theorem dX7_galeNow_25 : decode cX7_galeNow 25 = .ok (.aload_n 0, 1) := by decide +kernel
theorem dX7_galeNow_26 : decode cX7_galeNow 26 = .ok (.iload_n 3, 1) := by decide +kernel
theorem dX7_galeNow_27 : decode cX7_galeNow 27 = .ok (.bipush 6, 2) := by decide +kernel
theorem dX7_galeNow_29 : decode cX7_galeNow 29 = .ok (.iload_n 2, 1) := by decide +kernel
theorem dX7_galeNow_30 : decode cX7_galeNow 30 = .ok (.iload_n 3, 1) := by decide +kernel
theorem dX7_galeNow_31 : decode cX7_galeNow 31 = .ok (.ishr, 1) := by decide +kernel
theorem dX7_galeNow_32 : decode cX7_galeNow 32 = .ok (.iconst 1, 1) := by decide +kernel
theorem dX7_galeNow_33 : decode cX7_galeNow 33 = .ok (.iand, 1) := by decide +kernel
theorem dX7_galeNow_34 : decode cX7_galeNow 34 = .ok (.iconst 1, 1) := by decide +kernel
theorem dX7_galeNow_35 : decode cX7_galeNow 35 = .ok (.if_icmp .ne 7, 3) := by decide +kernel
theorem dX7_galeNow_38 : decode cX7_galeNow 38 = .ok (.iconst (-1), 1) := by decide +kernel
theorem dX7_galeNow_39 : decode cX7_galeNow 39 = .ok (.goto 10, 3) := by decide +kernel
theorem dX7_galeNow_42 : decode cX7_galeNow 42 = .ok (.aload_n 0, 1) := by decide +kernel
theorem dX7_galeNow_43 : decode cX7_galeNow 43 = .ok (.iload_n 3, 1) := by decide +kernel
theorem dX7_galeNow_44 : decode cX7_galeNow 44 = .ok (.bipush 6, 2) := by decide +kernel
theorem dX7_galeNow_46 : decode cX7_galeNow 46 = .ok (.invokevirtual 111, 3) := by decide +kernel
theorem dX7_galeNow_49 : decode cX7_galeNow 49 = .ok (.invokevirtual 153, 3) := by decide +kernel
theorem dX7_galeNow_52 : decode cX7_galeNow 52 = .ok (.iinc 3 1, 3) := by decide +kernel
theorem dX7_galeNow_55 : decode cX7_galeNow 55 = .ok (.goto (-41), 3) := by decide +kernel
theorem dX7_galeNow_58 : decode cX7_galeNow 58 = .ok (.iload_n 2, 1) := by decide +kernel
theorem dX7_galeNow_59 : decode cX7_galeNow 59 = .ok (.ireturn, 1) := by decide +kernel
theorem dX7_dryBehind_0 : decode cX7_dryBehind 0 = .ok (.aload_n 0, 1) := by decide +kernel
theorem dX7_dryBehind_1 : decode cX7_dryBehind 1 = .ok (.iload_n 1, 1) := by decide +kernel
theorem dX7_dryBehind_2 : decode cX7_dryBehind 2 = .ok (.invokevirtual 146, 3) := by decide +kernel
theorem dX7_dryBehind_5 : decode cX7_dryBehind 5 = .ok (.aload_n 0, 1) := by decide +kernel
theorem dX7_dryBehind_6 : decode cX7_dryBehind 6 = .ok (.iload_n 1, 1) := by decide +kernel
theorem dX7_dryBehind_7 : decode cX7_dryBehind 7 = .ok (.iconst 0, 1) := by decide +kernel
theorem dX7_dryBehind_8 : decode cX7_dryBehind 8 = .ok (.invokevirtual 150, 3) := by decide +kernel
theorem dX7_dryBehind_11 : decode cX7_dryBehind 11 = .ok (.istore_n 2, 1) := by decide +kernel
theorem dX7_dryBehind_12 : decode cX7_dryBehind 12 = .ok (.lconst 0, 1) := by decide +kernel
theorem dX7_dryBehind_13 : decode cX7_dryBehind 13 = .ok (.lstore_n 3, 1) := by decide +kernel
theorem dX7_dryBehind_14 : decode cX7_dryBehind 14 = .ok (.iconst 0, 1) := by decide +kernel
theorem dX7_dryBehind_15 : decode cX7_dryBehind 15 = .ok (.istore 5, 2) := by decide +kernel
theorem dX7_dryBehind_17 : decode cX7_dryBehind 17 = .ok (.iload 5, 2) := by decide +kernel
theorem dX7_dryBehind_19 : decode cX7_dryBehind 19 = .ok (.aload_n 0, 1) := by decide +kernel
theorem dX7_dryBehind_20 : decode cX7_dryBehind 20 = .ok (.getfield 7, 3) := by decide +kernel
theorem dX7_dryBehind_23 : decode cX7_dryBehind 23 = .ok (.bipush 6, 2) := by decide +kernel
theorem dX7_dryBehind_25 : decode cX7_dryBehind 25 = .ok (.iaload, 1) := by decide +kernel
theorem dX7_dryBehind_26 : decode cX7_dryBehind 26 = .ok (.if_icmp .ge 32, 3) := by decide +kernel
theorem dX7_dryBehind_29 : decode cX7_dryBehind 29 = .ok (.lload_n 3, 1) := by decide +kernel
theorem dX7_dryBehind_30 : decode cX7_dryBehind 30 = .ok (.iload_n 2, 1) := by decide +kernel
theorem dX7_dryBehind_31 : decode cX7_dryBehind 31 = .ok (.iload 5, 2) := by decide +kernel
theorem dX7_dryBehind_33 : decode cX7_dryBehind 33 = .ok (.ishr, 1) := by decide +kernel
theorem dX7_dryBehind_34 : decode cX7_dryBehind 34 = .ok (.iconst 1, 1) := by decide +kernel
theorem dX7_dryBehind_35 : decode cX7_dryBehind 35 = .ok (.iand, 1) := by decide +kernel
theorem dX7_dryBehind_36 : decode cX7_dryBehind 36 = .ok (.iconst 1, 1) := by decide +kernel
theorem dX7_dryBehind_37 : decode cX7_dryBehind 37 = .ok (.if_icmp .ne 7, 3) := by decide +kernel
theorem dX7_dryBehind_40 : decode cX7_dryBehind 40 = .ok (.lconst 0, 1) := by decide +kernel
theorem dX7_dryBehind_41 : decode cX7_dryBehind 41 = .ok (.goto 9, 3) := by decide +kernel
theorem dX7_dryBehind_44 : decode cX7_dryBehind 44 = .ok (.aload_n 0, 1) := by decide +kernel
theorem dX7_dryBehind_45 : decode cX7_dryBehind 45 = .ok (.iload 5, 2) := by decide +kernel
theorem dX7_dryBehind_47 : decode cX7_dryBehind 47 = .ok (.invokevirtual 140, 3) := by decide +kernel
theorem dX7_dryBehind_50 : decode cX7_dryBehind 50 = .ok (.lor, 1) := by decide +kernel
theorem dX7_dryBehind_51 : decode cX7_dryBehind 51 = .ok (.lstore_n 3, 1) := by decide +kernel
theorem dX7_dryBehind_52 : decode cX7_dryBehind 52 = .ok (.iinc 5 1, 3) := by decide +kernel
theorem dX7_dryBehind_55 : decode cX7_dryBehind 55 = .ok (.goto (-38), 3) := by decide +kernel
theorem dX7_dryBehind_58 : decode cX7_dryBehind 58 = .ok (.lload_n 3, 1) := by decide +kernel
theorem dX7_dryBehind_59 : decode cX7_dryBehind 59 = .ok (.lreturn, 1) := by decide +kernel
theorem dX7_aYear_0 : decode cX7_aYear 0 = .ok (.aload_n 0, 1) := by decide +kernel
theorem dX7_aYear_1 : decode cX7_aYear 1 = .ok (.invokevirtual 157, 3) := by decide +kernel
theorem dX7_aYear_4 : decode cX7_aYear 4 = .ok (.lstore_n 1, 1) := by decide +kernel
theorem dX7_aYear_5 : decode cX7_aYear 5 = .ok (.aload_n 0, 1) := by decide +kernel
theorem dX7_aYear_6 : decode cX7_aYear 6 = .ok (.getfield 7, 3) := by decide +kernel
theorem dX7_aYear_9 : decode cX7_aYear 9 = .ok (.iconst 2, 1) := by decide +kernel
theorem dX7_aYear_10 : decode cX7_aYear 10 = .ok (.iaload, 1) := by decide +kernel
theorem dX7_aYear_11 : decode cX7_aYear 11 = .ok (.istore_n 3, 1) := by decide +kernel
theorem dX7_aYear_12 : decode cX7_aYear 12 = .ok (.iconst 0, 1) := by decide +kernel
theorem dX7_aYear_13 : decode cX7_aYear 13 = .ok (.istore 4, 2) := by decide +kernel
theorem dX7_aYear_15 : decode cX7_aYear 15 = .ok (.iload 4, 2) := by decide +kernel
theorem dX7_aYear_17 : decode cX7_aYear 17 = .ok (.bipush 48, 2) := by decide +kernel
theorem dX7_aYear_19 : decode cX7_aYear 19 = .ok (.if_icmp .ge 47, 3) := by decide +kernel
theorem dX7_aYear_22 : decode cX7_aYear 22 = .ok (.iload_n 3, 1) := by decide +kernel
theorem dX7_aYear_23 : decode cX7_aYear 23 = .ok (.lload_n 1, 1) := by decide +kernel
theorem dX7_aYear_24 : decode cX7_aYear 24 = .ok (.iload 4, 2) := by decide +kernel
theorem dX7_aYear_26 : decode cX7_aYear 26 = .ok (.lushr, 1) := by decide +kernel
theorem dX7_aYear_27 : decode cX7_aYear 27 = .ok (.lconst 1, 1) := by decide +kernel
theorem dX7_aYear_28 : decode cX7_aYear 28 = .ok (.land, 1) := by decide +kernel
theorem dX7_aYear_29 : decode cX7_aYear 29 = .ok (.lconst 1, 1) := by decide +kernel
theorem dX7_aYear_30 : decode cX7_aYear 30 = .ok (.lcmp, 1) := by decide +kernel
theorem dX7_aYear_31 : decode cX7_aYear 31 = .ok (.ifCond .ne 7, 3) := by decide +kernel
theorem dX7_aYear_34 : decode cX7_aYear 34 = .ok (.iconst 0, 1) := by decide +kernel
theorem dX7_aYear_35 : decode cX7_aYear 35 = .ok (.goto 23, 3) := by decide +kernel
theorem dX7_aYear_38 : decode cX7_aYear 38 = .ok (.aload_n 0, 1) := by decide +kernel
theorem dX7_aYear_39 : decode cX7_aYear 39 = .ok (.iload 4, 2) := by decide +kernel
theorem dX7_aYear_41 : decode cX7_aYear 41 = .ok (.bipush 8, 2) := by decide +kernel
theorem dX7_aYear_43 : decode cX7_aYear 43 = .ok (.idiv, 1) := by decide +kernel
theorem dX7_aYear_44 : decode cX7_aYear 44 = .ok (.iload 4, 2) := by decide +kernel
theorem dX7_aYear_46 : decode cX7_aYear 46 = .ok (.bipush 8, 2) := by decide +kernel
theorem dX7_aYear_48 : decode cX7_aYear 48 = .ok (.irem, 1) := by decide +kernel
theorem dX7_aYear_49 : decode cX7_aYear 49 = .ok (.aload_n 0, 1) := by decide +kernel
theorem dX7_aYear_50 : decode cX7_aYear 50 = .ok (.getfield 7, 3) := by decide +kernel
theorem dX7_aYear_53 : decode cX7_aYear 53 = .ok (.iconst 0, 1) := by decide +kernel
theorem dX7_aYear_54 : decode cX7_aYear 54 = .ok (.iaload, 1) := by decide +kernel
theorem dX7_aYear_55 : decode cX7_aYear 55 = .ok (.invokevirtual 161, 3) := by decide +kernel
theorem dX7_aYear_58 : decode cX7_aYear 58 = .ok (.iadd, 1) := by decide +kernel
theorem dX7_aYear_59 : decode cX7_aYear 59 = .ok (.istore_n 3, 1) := by decide +kernel
theorem dX7_aYear_60 : decode cX7_aYear 60 = .ok (.iinc 4 1, 3) := by decide +kernel
theorem dX7_aYear_63 : decode cX7_aYear 63 = .ok (.goto (-48), 3) := by decide +kernel
theorem dX7_aYear_66 : decode cX7_aYear 66 = .ok (.aload_n 0, 1) := by decide +kernel
theorem dX7_aYear_67 : decode cX7_aYear 67 = .ok (.getfield 7, 3) := by decide +kernel
theorem dX7_aYear_70 : decode cX7_aYear 70 = .ok (.iconst 2, 1) := by decide +kernel
theorem dX7_aYear_71 : decode cX7_aYear 71 = .ok (.iload_n 3, 1) := by decide +kernel
theorem dX7_aYear_72 : decode cX7_aYear 72 = .ok (.iconst 0, 1) := by decide +kernel
theorem dX7_aYear_73 : decode cX7_aYear 73 = .ok (.ldc 164, 2) := by decide +kernel
theorem dX7_aYear_75 : decode cX7_aYear 75 = .ok (.invokestatic 118, 3) := by decide +kernel
theorem dX7_aYear_78 : decode cX7_aYear 78 = .ok (.iastore, 1) := by decide +kernel
theorem dX7_aYear_79 : decode cX7_aYear 79 = .ok (.iconst 0, 1) := by decide +kernel
theorem dX7_aYear_80 : decode cX7_aYear 80 = .ok (.istore 4, 2) := by decide +kernel
theorem dX7_aYear_82 : decode cX7_aYear 82 = .ok (.iload 4, 2) := by decide +kernel
theorem dX7_aYear_84 : decode cX7_aYear 84 = .ok (.aload_n 0, 1) := by decide +kernel
theorem dX7_aYear_85 : decode cX7_aYear 85 = .ok (.getfield 7, 3) := by decide +kernel
theorem dX7_aYear_88 : decode cX7_aYear 88 = .ok (.bipush 6, 2) := by decide +kernel
theorem dX7_aYear_90 : decode cX7_aYear 90 = .ok (.iaload, 1) := by decide +kernel
theorem dX7_aYear_91 : decode cX7_aYear 91 = .ok (.if_icmp .ge 70, 3) := by decide +kernel
theorem dX7_aYear_94 : decode cX7_aYear 94 = .ok (.aload_n 0, 1) := by decide +kernel
theorem dX7_aYear_95 : decode cX7_aYear 95 = .ok (.iload 4, 2) := by decide +kernel
theorem dX7_aYear_97 : decode cX7_aYear 97 = .ok (.iconst 5, 1) := by decide +kernel
theorem dX7_aYear_98 : decode cX7_aYear 98 = .ok (.aload_n 0, 1) := by decide +kernel
theorem dX7_aYear_99 : decode cX7_aYear 99 = .ok (.iload 4, 2) := by decide +kernel
theorem dX7_aYear_101 : decode cX7_aYear 101 = .ok (.iconst 5, 1) := by decide +kernel
theorem dX7_aYear_102 : decode cX7_aYear 102 = .ok (.invokevirtual 111, 3) := by decide +kernel
theorem dX7_aYear_105 : decode cX7_aYear 105 = .ok (.iconst 1, 1) := by decide +kernel
theorem dX7_aYear_106 : decode cX7_aYear 106 = .ok (.iadd, 1) := by decide +kernel
theorem dX7_aYear_107 : decode cX7_aYear 107 = .ok (.iconst 0, 1) := by decide +kernel
theorem dX7_aYear_108 : decode cX7_aYear 108 = .ok (.sipush 999, 3) := by decide +kernel
theorem dX7_aYear_111 : decode cX7_aYear 111 = .ok (.invokestatic 118, 3) := by decide +kernel
theorem dX7_aYear_114 : decode cX7_aYear 114 = .ok (.invokevirtual 153, 3) := by decide +kernel
theorem dX7_aYear_117 : decode cX7_aYear 117 = .ok (.aload_n 0, 1) := by decide +kernel
theorem dX7_aYear_118 : decode cX7_aYear 118 = .ok (.iload 4, 2) := by decide +kernel
theorem dX7_aYear_120 : decode cX7_aYear 120 = .ok (.iconst 3, 1) := by decide +kernel
theorem dX7_aYear_121 : decode cX7_aYear 121 = .ok (.aload_n 0, 1) := by decide +kernel
theorem dX7_aYear_122 : decode cX7_aYear 122 = .ok (.iload 4, 2) := by decide +kernel
theorem dX7_aYear_124 : decode cX7_aYear 124 = .ok (.iconst 3, 1) := by decide +kernel
theorem dX7_aYear_125 : decode cX7_aYear 125 = .ok (.invokevirtual 111, 3) := by decide +kernel
theorem dX7_aYear_128 : decode cX7_aYear 128 = .ok (.aload_n 0, 1) := by decide +kernel
theorem dX7_aYear_129 : decode cX7_aYear 129 = .ok (.getfield 7, 3) := by decide +kernel
theorem dX7_aYear_132 : decode cX7_aYear 132 = .ok (.iconst 0, 1) := by decide +kernel
theorem dX7_aYear_133 : decode cX7_aYear 133 = .ok (.iaload, 1) := by decide +kernel
theorem dX7_aYear_134 : decode cX7_aYear 134 = .ok (.iconst 4, 1) := by decide +kernel
theorem dX7_aYear_135 : decode cX7_aYear 135 = .ok (.irem, 1) := by decide +kernel
theorem dX7_aYear_136 : decode cX7_aYear 136 = .ok (.iconst 3, 1) := by decide +kernel
theorem dX7_aYear_137 : decode cX7_aYear 137 = .ok (.if_icmp .ne 7, 3) := by decide +kernel
theorem dX7_aYear_140 : decode cX7_aYear 140 = .ok (.iconst 1, 1) := by decide +kernel
theorem dX7_aYear_141 : decode cX7_aYear 141 = .ok (.goto 4, 3) := by decide +kernel
theorem dX7_aYear_144 : decode cX7_aYear 144 = .ok (.iconst 0, 1) := by decide +kernel
theorem dX7_aYear_145 : decode cX7_aYear 145 = .ok (.isub, 1) := by decide +kernel
theorem dX7_aYear_146 : decode cX7_aYear 146 = .ok (.iconst 0, 1) := by decide +kernel
theorem dX7_aYear_147 : decode cX7_aYear 147 = .ok (.bipush 9, 2) := by decide +kernel
theorem dX7_aYear_149 : decode cX7_aYear 149 = .ok (.invokestatic 118, 3) := by decide +kernel
theorem dX7_aYear_152 : decode cX7_aYear 152 = .ok (.invokevirtual 153, 3) := by decide +kernel
theorem dX7_aYear_155 : decode cX7_aYear 155 = .ok (.iinc 4 1, 3) := by decide +kernel
theorem dX7_aYear_158 : decode cX7_aYear 158 = .ok (.goto (-76), 3) := by decide +kernel
theorem dX7_aYear_161 : decode cX7_aYear 161 = .ok (.aload_n 0, 1) := by decide +kernel
theorem dX7_aYear_162 : decode cX7_aYear 162 = .ok (.getfield 7, 3) := by decide +kernel
theorem dX7_aYear_165 : decode cX7_aYear 165 = .ok (.iconst 0, 1) := by decide +kernel
theorem dX7_aYear_166 : decode cX7_aYear 166 = .ok (.dup2, 1) := by decide +kernel
theorem dX7_aYear_167 : decode cX7_aYear 167 = .ok (.iaload, 1) := by decide +kernel
theorem dX7_aYear_168 : decode cX7_aYear 168 = .ok (.iconst 1, 1) := by decide +kernel
theorem dX7_aYear_169 : decode cX7_aYear 169 = .ok (.iadd, 1) := by decide +kernel
theorem dX7_aYear_170 : decode cX7_aYear 170 = .ok (.iastore, 1) := by decide +kernel
theorem dX7_aYear_171 : decode cX7_aYear 171 = .ok (.return_, 1) := by decide +kernel
theorem dX7_draw_0 : decode cX7_draw 0 = .ok (.aload_n 0, 1) := by decide +kernel
theorem dX7_draw_1 : decode cX7_draw 1 = .ok (.getfield 7, 3) := by decide +kernel
theorem dX7_draw_4 : decode cX7_draw 4 = .ok (.iconst 3, 1) := by decide +kernel
theorem dX7_draw_5 : decode cX7_draw 5 = .ok (.aload_n 0, 1) := by decide +kernel
theorem dX7_draw_6 : decode cX7_draw 6 = .ok (.getfield 7, 3) := by decide +kernel
theorem dX7_draw_9 : decode cX7_draw 9 = .ok (.iconst 3, 1) := by decide +kernel
theorem dX7_draw_10 : decode cX7_draw 10 = .ok (.iaload, 1) := by decide +kernel
theorem dX7_draw_11 : decode cX7_draw 11 = .ok (.ldc 165, 2) := by decide +kernel
theorem dX7_draw_13 : decode cX7_draw 13 = .ok (.imul, 1) := by decide +kernel
theorem dX7_draw_14 : decode cX7_draw 14 = .ok (.sipush 12345, 3) := by decide +kernel
theorem dX7_draw_17 : decode cX7_draw 17 = .ok (.iadd, 1) := by decide +kernel
theorem dX7_draw_18 : decode cX7_draw 18 = .ok (.iastore, 1) := by decide +kernel
theorem dX7_draw_19 : decode cX7_draw 19 = .ok (.aload_n 0, 1) := by decide +kernel
theorem dX7_draw_20 : decode cX7_draw 20 = .ok (.getfield 7, 3) := by decide +kernel
theorem dX7_draw_23 : decode cX7_draw 23 = .ok (.iconst 3, 1) := by decide +kernel
theorem dX7_draw_24 : decode cX7_draw 24 = .ok (.iaload, 1) := by decide +kernel
theorem dX7_draw_25 : decode cX7_draw 25 = .ok (.bipush 8, 2) := by decide +kernel
theorem dX7_draw_27 : decode cX7_draw 27 = .ok (.iushr, 1) := by decide +kernel
theorem dX7_draw_28 : decode cX7_draw 28 = .ok (.ireturn, 1) := by decide +kernel
theorem dX7_isKind_0 : decode cX7_isKind 0 = .ok (.iload_n 0, 1) := by decide +kernel
theorem dX7_isKind_1 : decode cX7_isKind 1 = .ok (.iconst 0, 1) := by decide +kernel
theorem dX7_isKind_2 : decode cX7_isKind 2 = .ok (.bipush 69, 2) := by decide +kernel
theorem dX7_isKind_4 : decode cX7_isKind 4 = .ok (.invokestatic 47, 3) := by decide +kernel
theorem dX7_isKind_7 : decode cX7_isKind 7 = .ok (.ireturn, 1) := by decide +kernel
theorem dX7_slate_0 : decode cX7_slate 0 = .ok (.iload_n 1, 1) := by decide +kernel
theorem dX7_slate_1 : decode cX7_slate 1 = .ok (.invokestatic 166, 3) := by decide +kernel
theorem dX7_slate_4 : decode cX7_slate 4 = .ok (.ifCond .eq 37, 3) := by decide +kernel
theorem dX7_slate_7 : decode cX7_slate 7 = .ok (.iload_n 2, 1) := by decide +kernel
theorem dX7_slate_8 : decode cX7_slate 8 = .ok (.iconst 1, 1) := by decide +kernel
theorem dX7_slate_9 : decode cX7_slate 9 = .ok (.iconst 2, 1) := by decide +kernel
theorem dX7_slate_10 : decode cX7_slate 10 = .ok (.invokestatic 47, 3) := by decide +kernel
theorem dX7_slate_13 : decode cX7_slate 13 = .ok (.ifCond .eq 28, 3) := by decide +kernel
theorem dX7_slate_16 : decode cX7_slate 16 = .ok (.iload_n 3, 1) := by decide +kernel
theorem dX7_slate_17 : decode cX7_slate 17 = .ok (.iconst 0, 1) := by decide +kernel
theorem dX7_slate_18 : decode cX7_slate 18 = .ok (.bipush 9, 2) := by decide +kernel
theorem dX7_slate_20 : decode cX7_slate 20 = .ok (.invokestatic 47, 3) := by decide +kernel
theorem dX7_slate_23 : decode cX7_slate 23 = .ok (.ifCond .eq 18, 3) := by decide +kernel
theorem dX7_slate_26 : decode cX7_slate 26 = .ok (.iload 4, 2) := by decide +kernel
theorem dX7_slate_28 : decode cX7_slate 28 = .ok (.iconst (-1), 1) := by decide +kernel
theorem dX7_slate_29 : decode cX7_slate 29 = .ok (.if_icmp .eq 18, 3) := by decide +kernel
theorem dX7_slate_32 : decode cX7_slate 32 = .ok (.aload_n 0, 1) := by decide +kernel
theorem dX7_slate_33 : decode cX7_slate 33 = .ok (.iload 4, 2) := by decide +kernel
theorem dX7_slate_35 : decode cX7_slate 35 = .ok (.invokevirtual 169, 3) := by decide +kernel
theorem dX7_slate_38 : decode cX7_slate 38 = .ok (.ifCond .ne 9, 3) := by decide +kernel
theorem dX7_slate_41 : decode cX7_slate 41 = .ok (.aload_n 0, 1) := by decide +kernel
theorem dX7_slate_42 : decode cX7_slate 42 = .ok (.iconst 1, 1) := by decide +kernel
theorem dX7_slate_43 : decode cX7_slate 43 = .ok (.invokevirtual 51, 3) := by decide +kernel
theorem dX7_slate_46 : decode cX7_slate 46 = .ok (.ireturn, 1) := by decide +kernel
theorem dX7_slate_47 : decode cX7_slate 47 = .ok (.aload_n 0, 1) := by decide +kernel
theorem dX7_slate_48 : decode cX7_slate 48 = .ok (.getfield 7, 3) := by decide +kernel
theorem dX7_slate_51 : decode cX7_slate 51 = .ok (.bipush 6, 2) := by decide +kernel
theorem dX7_slate_53 : decode cX7_slate 53 = .ok (.iaload, 1) := by decide +kernel
theorem dX7_slate_54 : decode cX7_slate 54 = .ok (.bipush 10, 2) := by decide +kernel
theorem dX7_slate_56 : decode cX7_slate 56 = .ok (.if_icmp .ne 9, 3) := by decide +kernel
theorem dX7_slate_59 : decode cX7_slate 59 = .ok (.aload_n 0, 1) := by decide +kernel
theorem dX7_slate_60 : decode cX7_slate 60 = .ok (.iconst 4, 1) := by decide +kernel
theorem dX7_slate_61 : decode cX7_slate 61 = .ok (.invokevirtual 51, 3) := by decide +kernel
theorem dX7_slate_64 : decode cX7_slate 64 = .ok (.ireturn, 1) := by decide +kernel
theorem dX7_slate_65 : decode cX7_slate 65 = .ok (.aload_n 0, 1) := by decide +kernel
theorem dX7_slate_66 : decode cX7_slate 66 = .ok (.getfield 7, 3) := by decide +kernel
theorem dX7_slate_69 : decode cX7_slate 69 = .ok (.bipush 6, 2) := by decide +kernel
theorem dX7_slate_71 : decode cX7_slate 71 = .ok (.iaload, 1) := by decide +kernel
theorem dX7_slate_72 : decode cX7_slate 72 = .ok (.istore 5, 2) := by decide +kernel
theorem dX7_slate_74 : decode cX7_slate 74 = .ok (.aload_n 0, 1) := by decide +kernel
theorem dX7_slate_75 : decode cX7_slate 75 = .ok (.iload 5, 2) := by decide +kernel
theorem dX7_slate_77 : decode cX7_slate 77 = .ok (.iconst 0, 1) := by decide +kernel
theorem dX7_slate_78 : decode cX7_slate 78 = .ok (.iload_n 1, 1) := by decide +kernel
theorem dX7_slate_79 : decode cX7_slate 79 = .ok (.bipush 10, 2) := by decide +kernel
theorem dX7_slate_81 : decode cX7_slate 81 = .ok (.idiv, 1) := by decide +kernel
theorem dX7_slate_82 : decode cX7_slate 82 = .ok (.invokevirtual 153, 3) := by decide +kernel
theorem dX7_slate_85 : decode cX7_slate 85 = .ok (.aload_n 0, 1) := by decide +kernel
theorem dX7_slate_86 : decode cX7_slate 86 = .ok (.iload 5, 2) := by decide +kernel
theorem dX7_slate_88 : decode cX7_slate 88 = .ok (.iconst 1, 1) := by decide +kernel
theorem dX7_slate_89 : decode cX7_slate 89 = .ok (.iload_n 1, 1) := by decide +kernel
theorem dX7_slate_90 : decode cX7_slate 90 = .ok (.bipush 10, 2) := by decide +kernel
theorem dX7_slate_92 : decode cX7_slate 92 = .ok (.irem, 1) := by decide +kernel
theorem dX7_slate_93 : decode cX7_slate 93 = .ok (.invokevirtual 153, 3) := by decide +kernel
theorem dX7_slate_96 : decode cX7_slate 96 = .ok (.aload_n 0, 1) := by decide +kernel
theorem dX7_slate_97 : decode cX7_slate 97 = .ok (.iload 5, 2) := by decide +kernel
theorem dX7_slate_99 : decode cX7_slate 99 = .ok (.iconst 2, 1) := by decide +kernel
theorem dX7_slate_100 : decode cX7_slate 100 = .ok (.iload_n 2, 1) := by decide +kernel
theorem dX7_slate_101 : decode cX7_slate 101 = .ok (.invokevirtual 153, 3) := by decide +kernel
theorem dX7_slate_104 : decode cX7_slate 104 = .ok (.aload_n 0, 1) := by decide +kernel
theorem dX7_slate_105 : decode cX7_slate 105 = .ok (.iload 5, 2) := by decide +kernel
theorem dX7_slate_107 : decode cX7_slate 107 = .ok (.iconst 3, 1) := by decide +kernel
theorem dX7_slate_108 : decode cX7_slate 108 = .ok (.iload_n 3, 1) := by decide +kernel
theorem dX7_slate_109 : decode cX7_slate 109 = .ok (.invokevirtual 153, 3) := by decide +kernel
theorem dX7_slate_112 : decode cX7_slate 112 = .ok (.aload_n 0, 1) := by decide +kernel
theorem dX7_slate_113 : decode cX7_slate 113 = .ok (.iload 5, 2) := by decide +kernel
theorem dX7_slate_115 : decode cX7_slate 115 = .ok (.iconst 4, 1) := by decide +kernel
theorem dX7_slate_116 : decode cX7_slate 116 = .ok (.iload 4, 2) := by decide +kernel
theorem dX7_slate_118 : decode cX7_slate 118 = .ok (.invokevirtual 153, 3) := by decide +kernel
theorem dX7_slate_121 : decode cX7_slate 121 = .ok (.aload_n 0, 1) := by decide +kernel
theorem dX7_slate_122 : decode cX7_slate 122 = .ok (.iload 5, 2) := by decide +kernel
theorem dX7_slate_124 : decode cX7_slate 124 = .ok (.iconst 5, 1) := by decide +kernel
theorem dX7_slate_125 : decode cX7_slate 125 = .ok (.iconst 0, 1) := by decide +kernel
theorem dX7_slate_126 : decode cX7_slate 126 = .ok (.invokevirtual 153, 3) := by decide +kernel
theorem dX7_slate_129 : decode cX7_slate 129 = .ok (.aload_n 0, 1) := by decide +kernel
theorem dX7_slate_130 : decode cX7_slate 130 = .ok (.iload 5, 2) := by decide +kernel
theorem dX7_slate_132 : decode cX7_slate 132 = .ok (.bipush 6, 2) := by decide +kernel
theorem dX7_slate_134 : decode cX7_slate 134 = .ok (.iconst (-1), 1) := by decide +kernel
theorem dX7_slate_135 : decode cX7_slate 135 = .ok (.invokevirtual 153, 3) := by decide +kernel
theorem dX7_slate_138 : decode cX7_slate 138 = .ok (.aload_n 0, 1) := by decide +kernel
theorem dX7_slate_139 : decode cX7_slate 139 = .ok (.getfield 7, 3) := by decide +kernel
theorem dX7_slate_142 : decode cX7_slate 142 = .ok (.bipush 6, 2) := by decide +kernel
theorem dX7_slate_144 : decode cX7_slate 144 = .ok (.dup2, 1) := by decide +kernel
theorem dX7_slate_145 : decode cX7_slate 145 = .ok (.iaload, 1) := by decide +kernel
theorem dX7_slate_146 : decode cX7_slate 146 = .ok (.iconst 1, 1) := by decide +kernel
theorem dX7_slate_147 : decode cX7_slate 147 = .ok (.iadd, 1) := by decide +kernel
theorem dX7_slate_148 : decode cX7_slate 148 = .ok (.iastore, 1) := by decide +kernel
theorem dX7_slate_149 : decode cX7_slate 149 = .ok (.iload 5, 2) := by decide +kernel
theorem dX7_slate_151 : decode cX7_slate 151 = .ok (.ireturn, 1) := by decide +kernel
theorem dX7_slateIs_0 : decode cX7_slateIs 0 = .ok (.aload_n 0, 1) := by decide +kernel
theorem dX7_slateIs_1 : decode cX7_slateIs 1 = .ok (.iload_n 1, 1) := by decide +kernel
theorem dX7_slateIs_2 : decode cX7_slateIs 2 = .ok (.invokevirtual 169, 3) := by decide +kernel
theorem dX7_slateIs_5 : decode cX7_slateIs 5 = .ok (.ifCond .eq 13, 3) := by decide +kernel
theorem dX7_slateIs_8 : decode cX7_slateIs 8 = .ok (.iload_n 2, 1) := by decide +kernel
theorem dX7_slateIs_9 : decode cX7_slateIs 9 = .ok (.iconst 0, 1) := by decide +kernel
theorem dX7_slateIs_10 : decode cX7_slateIs 10 = .ok (.bipush 9, 2) := by decide +kernel
theorem dX7_slateIs_12 : decode cX7_slateIs 12 = .ok (.invokestatic 47, 3) := by decide +kernel
theorem dX7_slateIs_15 : decode cX7_slateIs 15 = .ok (.ifCond .ne 9, 3) := by decide +kernel
theorem dX7_slateIs_18 : decode cX7_slateIs 18 = .ok (.aload_n 0, 1) := by decide +kernel
theorem dX7_slateIs_19 : decode cX7_slateIs 19 = .ok (.iconst 1, 1) := by decide +kernel
theorem dX7_slateIs_20 : decode cX7_slateIs 20 = .ok (.invokevirtual 51, 3) := by decide +kernel
theorem dX7_slateIs_23 : decode cX7_slateIs 23 = .ok (.ireturn, 1) := by decide +kernel
theorem dX7_slateIs_24 : decode cX7_slateIs 24 = .ok (.aload_n 0, 1) := by decide +kernel
theorem dX7_slateIs_25 : decode cX7_slateIs 25 = .ok (.iload_n 1, 1) := by decide +kernel
theorem dX7_slateIs_26 : decode cX7_slateIs 26 = .ok (.bipush 6, 2) := by decide +kernel
theorem dX7_slateIs_28 : decode cX7_slateIs 28 = .ok (.invokevirtual 111, 3) := by decide +kernel
theorem dX7_slateIs_31 : decode cX7_slateIs 31 = .ok (.istore_n 3, 1) := by decide +kernel
theorem dX7_slateIs_32 : decode cX7_slateIs 32 = .ok (.iload_n 2, 1) := by decide +kernel
theorem dX7_slateIs_33 : decode cX7_slateIs 33 = .ok (.tableswitch 83 5 9 #[35, 49, 63, 70, 76], 35) := by decide +kernel
theorem dX7_slateIs_68 : decode cX7_slateIs 68 = .ok (.iload_n 3, 1) := by decide +kernel
theorem dX7_slateIs_69 : decode cX7_slateIs 69 = .ok (.iconst (-1), 1) := by decide +kernel
theorem dX7_slateIs_70 : decode cX7_slateIs 70 = .ok (.if_icmp .ne 7, 3) := by decide +kernel
theorem dX7_slateIs_73 : decode cX7_slateIs 73 = .ok (.iconst (-1), 1) := by decide +kernel
theorem dX7_slateIs_74 : decode cX7_slateIs 74 = .ok (.goto 7, 3) := by decide +kernel
theorem dX7_slateIs_77 : decode cX7_slateIs 77 = .ok (.iload_n 3, 1) := by decide +kernel
theorem dX7_slateIs_78 : decode cX7_slateIs 78 = .ok (.bipush 8, 2) := by decide +kernel
theorem dX7_slateIs_80 : decode cX7_slateIs 80 = .ok (.idiv, 1) := by decide +kernel
theorem dX7_slateIs_81 : decode cX7_slateIs 81 = .ok (.ireturn, 1) := by decide +kernel
theorem dX7_slateIs_82 : decode cX7_slateIs 82 = .ok (.iload_n 3, 1) := by decide +kernel
theorem dX7_slateIs_83 : decode cX7_slateIs 83 = .ok (.iconst (-1), 1) := by decide +kernel
theorem dX7_slateIs_84 : decode cX7_slateIs 84 = .ok (.if_icmp .ne 7, 3) := by decide +kernel
theorem dX7_slateIs_87 : decode cX7_slateIs 87 = .ok (.iconst (-1), 1) := by decide +kernel
theorem dX7_slateIs_88 : decode cX7_slateIs 88 = .ok (.goto 7, 3) := by decide +kernel
theorem dX7_slateIs_91 : decode cX7_slateIs 91 = .ok (.iload_n 3, 1) := by decide +kernel
theorem dX7_slateIs_92 : decode cX7_slateIs 92 = .ok (.bipush 8, 2) := by decide +kernel
theorem dX7_slateIs_94 : decode cX7_slateIs 94 = .ok (.irem, 1) := by decide +kernel
theorem dX7_slateIs_95 : decode cX7_slateIs 95 = .ok (.ireturn, 1) := by decide +kernel
theorem dX7_slateIs_96 : decode cX7_slateIs 96 = .ok (.aload_n 0, 1) := by decide +kernel
theorem dX7_slateIs_97 : decode cX7_slateIs 97 = .ok (.iload_n 1, 1) := by decide +kernel
theorem dX7_slateIs_98 : decode cX7_slateIs 98 = .ok (.iconst 5, 1) := by decide +kernel
theorem dX7_slateIs_99 : decode cX7_slateIs 99 = .ok (.invokevirtual 111, 3) := by decide +kernel
theorem dX7_slateIs_102 : decode cX7_slateIs 102 = .ok (.ireturn, 1) := by decide +kernel
theorem dX7_slateIs_103 : decode cX7_slateIs 103 = .ok (.aload_n 0, 1) := by decide +kernel
theorem dX7_slateIs_104 : decode cX7_slateIs 104 = .ok (.iload_n 1, 1) := by decide +kernel
theorem dX7_slateIs_105 : decode cX7_slateIs 105 = .ok (.invokevirtual 127, 3) := by decide +kernel
theorem dX7_slateIs_108 : decode cX7_slateIs 108 = .ok (.ireturn, 1) := by decide +kernel
theorem dX7_slateIs_109 : decode cX7_slateIs 109 = .ok (.aload_n 0, 1) := by decide +kernel
theorem dX7_slateIs_110 : decode cX7_slateIs 110 = .ok (.iload_n 1, 1) := by decide +kernel
theorem dX7_slateIs_111 : decode cX7_slateIs 111 = .ok (.iconst 0, 1) := by decide +kernel
theorem dX7_slateIs_112 : decode cX7_slateIs 112 = .ok (.invokevirtual 143, 3) := by decide +kernel
theorem dX7_slateIs_115 : decode cX7_slateIs 115 = .ok (.ireturn, 1) := by decide +kernel
theorem dX7_slateIs_116 : decode cX7_slateIs 116 = .ok (.aload_n 0, 1) := by decide +kernel
theorem dX7_slateIs_117 : decode cX7_slateIs 117 = .ok (.iload_n 1, 1) := by decide +kernel
theorem dX7_slateIs_118 : decode cX7_slateIs 118 = .ok (.iload_n 2, 1) := by decide +kernel
theorem dX7_slateIs_119 : decode cX7_slateIs 119 = .ok (.invokevirtual 111, 3) := by decide +kernel
theorem dX7_slateIs_122 : decode cX7_slateIs 122 = .ok (.ireturn, 1) := by decide +kernel
theorem dX7_become_0 : decode cX7_become 0 = .ok (.aload_n 0, 1) := by decide +kernel
theorem dX7_become_1 : decode cX7_become 1 = .ok (.iload_n 1, 1) := by decide +kernel
theorem dX7_become_2 : decode cX7_become 2 = .ok (.invokevirtual 169, 3) := by decide +kernel
theorem dX7_become_5 : decode cX7_become 5 = .ok (.ifCond .eq 10, 3) := by decide +kernel
theorem dX7_become_8 : decode cX7_become 8 = .ok (.iload_n 2, 1) := by decide +kernel
theorem dX7_become_9 : decode cX7_become 9 = .ok (.invokestatic 166, 3) := by decide +kernel
theorem dX7_become_12 : decode cX7_become 12 = .ok (.ifCond .ne 9, 3) := by decide +kernel
theorem dX7_become_15 : decode cX7_become 15 = .ok (.aload_n 0, 1) := by decide +kernel
theorem dX7_become_16 : decode cX7_become 16 = .ok (.iconst 1, 1) := by decide +kernel
theorem dX7_become_17 : decode cX7_become 17 = .ok (.invokevirtual 51, 3) := by decide +kernel
theorem dX7_become_20 : decode cX7_become 20 = .ok (.ireturn, 1) := by decide +kernel
theorem dX7_become_21 : decode cX7_become 21 = .ok (.aload_n 0, 1) := by decide +kernel
theorem dX7_become_22 : decode cX7_become 22 = .ok (.iload_n 1, 1) := by decide +kernel
theorem dX7_become_23 : decode cX7_become 23 = .ok (.iconst 1, 1) := by decide +kernel
theorem dX7_become_24 : decode cX7_become 24 = .ok (.iload_n 2, 1) := by decide +kernel
theorem dX7_become_25 : decode cX7_become 25 = .ok (.bipush 10, 2) := by decide +kernel
theorem dX7_become_27 : decode cX7_become 27 = .ok (.irem, 1) := by decide +kernel
theorem dX7_become_28 : decode cX7_become 28 = .ok (.invokevirtual 153, 3) := by decide +kernel
theorem dX7_become_31 : decode cX7_become 31 = .ok (.aload_n 0, 1) := by decide +kernel
theorem dX7_become_32 : decode cX7_become 32 = .ok (.bipush 8, 2) := by decide +kernel
theorem dX7_become_34 : decode cX7_become 34 = .ok (.bipush 7, 2) := by decide +kernel
theorem dX7_become_36 : decode cX7_become 36 = .ok (.iload_n 1, 1) := by decide +kernel
theorem dX7_become_37 : decode cX7_become 37 = .ok (.imul, 1) := by decide +kernel
theorem dX7_become_38 : decode cX7_become 38 = .ok (.iadd, 1) := by decide +kernel
theorem dX7_become_39 : decode cX7_become 39 = .ok (.iconst 0, 1) := by decide +kernel
theorem dX7_become_40 : decode cX7_become 40 = .ok (.iadd, 1) := by decide +kernel
theorem dX7_become_41 : decode cX7_become 41 = .ok (.iload_n 2, 1) := by decide +kernel
theorem dX7_become_42 : decode cX7_become 42 = .ok (.bipush 10, 2) := by decide +kernel
theorem dX7_become_44 : decode cX7_become 44 = .ok (.idiv, 1) := by decide +kernel
theorem dX7_become_45 : decode cX7_become 45 = .ok (.invokevirtual 172, 3) := by decide +kernel
theorem dX7_become_48 : decode cX7_become 48 = .ok (.ireturn, 1) := by decide +kernel
theorem dX7_as_0 : decode cX7_as 0 = .ok (.aload_n 0, 1) := by decide +kernel
theorem dX7_as_1 : decode cX7_as 1 = .ok (.iload_n 1, 1) := by decide +kernel
theorem dX7_as_2 : decode cX7_as 2 = .ok (.invokevirtual 169, 3) := by decide +kernel
theorem dX7_as_5 : decode cX7_as 5 = .ok (.ifCond .eq 13, 3) := by decide +kernel
theorem dX7_as_8 : decode cX7_as 8 = .ok (.iload_n 2, 1) := by decide +kernel
theorem dX7_as_9 : decode cX7_as 9 = .ok (.iconst 0, 1) := by decide +kernel
theorem dX7_as_10 : decode cX7_as 10 = .ok (.bipush 6, 2) := by decide +kernel
theorem dX7_as_12 : decode cX7_as 12 = .ok (.invokestatic 47, 3) := by decide +kernel
theorem dX7_as_15 : decode cX7_as 15 = .ok (.ifCond .ne 9, 3) := by decide +kernel
theorem dX7_as_18 : decode cX7_as 18 = .ok (.aload_n 0, 1) := by decide +kernel
theorem dX7_as_19 : decode cX7_as 19 = .ok (.iconst 1, 1) := by decide +kernel
theorem dX7_as_20 : decode cX7_as 20 = .ok (.invokevirtual 51, 3) := by decide +kernel
theorem dX7_as_23 : decode cX7_as 23 = .ok (.ireturn, 1) := by decide +kernel
theorem dX7_as_24 : decode cX7_as 24 = .ok (.aload_n 0, 1) := by decide +kernel
theorem dX7_as_25 : decode cX7_as 25 = .ok (.iload_n 1, 1) := by decide +kernel
theorem dX7_as_26 : decode cX7_as 26 = .ok (.iconst 0, 1) := by decide +kernel
theorem dX7_as_27 : decode cX7_as 27 = .ok (.invokevirtual 111, 3) := by decide +kernel
theorem dX7_as_30 : decode cX7_as 30 = .ok (.istore_n 3, 1) := by decide +kernel
theorem dX7_as_31 : decode cX7_as 31 = .ok (.iload_n 3, 1) := by decide +kernel
theorem dX7_as_32 : decode cX7_as 32 = .ok (.iload_n 2, 1) := by decide +kernel
theorem dX7_as_33 : decode cX7_as 33 = .ok (.if_icmp .eq 15, 3) := by decide +kernel
theorem dX7_as_36 : decode cX7_as 36 = .ok (.iload_n 3, 1) := by decide +kernel
theorem dX7_as_37 : decode cX7_as 37 = .ok (.ifCond .eq 11, 3) := by decide +kernel
theorem dX7_as_40 : decode cX7_as 40 = .ok (.iload_n 3, 1) := by decide +kernel
theorem dX7_as_41 : decode cX7_as 41 = .ok (.invokestatic 175, 3) := by decide +kernel
theorem dX7_as_44 : decode cX7_as 44 = .ok (.istore_n 3, 1) := by decide +kernel
theorem dX7_as_45 : decode cX7_as 45 = .ok (.goto (-14), 3) := by decide +kernel
theorem dX7_as_48 : decode cX7_as 48 = .ok (.iload_n 3, 1) := by decide +kernel
theorem dX7_as_49 : decode cX7_as 49 = .ok (.iload_n 2, 1) := by decide +kernel
theorem dX7_as_50 : decode cX7_as 50 = .ok (.if_icmp .ne 12, 3) := by decide +kernel
theorem dX7_as_53 : decode cX7_as 53 = .ok (.aload_n 0, 1) := by decide +kernel
theorem dX7_as_54 : decode cX7_as 54 = .ok (.iload_n 1, 1) := by decide +kernel
theorem dX7_as_55 : decode cX7_as 55 = .ok (.iconst 1, 1) := by decide +kernel
theorem dX7_as_56 : decode cX7_as 56 = .ok (.invokevirtual 111, 3) := by decide +kernel
theorem dX7_as_59 : decode cX7_as 59 = .ok (.goto 8, 3) := by decide +kernel
theorem dX7_as_62 : decode cX7_as 62 = .ok (.aload_n 0, 1) := by decide +kernel
theorem dX7_as_63 : decode cX7_as 63 = .ok (.iconst 5, 1) := by decide +kernel
theorem dX7_as_64 : decode cX7_as 64 = .ok (.invokevirtual 51, 3) := by decide +kernel
theorem dX7_as_67 : decode cX7_as 67 = .ok (.ireturn, 1) := by decide +kernel
theorem dX7_lay_0 : decode cX7_lay 0 = .ok (.aload_n 0, 1) := by decide +kernel
theorem dX7_lay_1 : decode cX7_lay 1 = .ok (.iload_n 1, 1) := by decide +kernel
theorem dX7_lay_2 : decode cX7_lay 2 = .ok (.invokevirtual 169, 3) := by decide +kernel
theorem dX7_lay_5 : decode cX7_lay 5 = .ok (.ifCond .eq 22, 3) := by decide +kernel
theorem dX7_lay_8 : decode cX7_lay 8 = .ok (.iload_n 2, 1) := by decide +kernel
theorem dX7_lay_9 : decode cX7_lay 9 = .ok (.iconst 0, 1) := by decide +kernel
theorem dX7_lay_10 : decode cX7_lay 10 = .ok (.iconst 5, 1) := by decide +kernel
theorem dX7_lay_11 : decode cX7_lay 11 = .ok (.invokestatic 47, 3) := by decide +kernel
theorem dX7_lay_14 : decode cX7_lay 14 = .ok (.ifCond .eq 13, 3) := by decide +kernel
theorem dX7_lay_17 : decode cX7_lay 17 = .ok (.iload_n 3, 1) := by decide +kernel
theorem dX7_lay_18 : decode cX7_lay 18 = .ok (.iconst 0, 1) := by decide +kernel
theorem dX7_lay_19 : decode cX7_lay 19 = .ok (.bipush 7, 2) := by decide +kernel
theorem dX7_lay_21 : decode cX7_lay 21 = .ok (.invokestatic 47, 3) := by decide +kernel
theorem dX7_lay_24 : decode cX7_lay 24 = .ok (.ifCond .ne 9, 3) := by decide +kernel
theorem dX7_lay_27 : decode cX7_lay 27 = .ok (.aload_n 0, 1) := by decide +kernel
theorem dX7_lay_28 : decode cX7_lay 28 = .ok (.iconst 1, 1) := by decide +kernel
theorem dX7_lay_29 : decode cX7_lay 29 = .ok (.invokevirtual 51, 3) := by decide +kernel
theorem dX7_lay_32 : decode cX7_lay 32 = .ok (.ireturn, 1) := by decide +kernel
theorem dX7_lay_33 : decode cX7_lay 33 = .ok (.bipush 8, 2) := by decide +kernel
theorem dX7_lay_35 : decode cX7_lay 35 = .ok (.iload_n 2, 1) := by decide +kernel
theorem dX7_lay_36 : decode cX7_lay 36 = .ok (.imul, 1) := by decide +kernel
theorem dX7_lay_37 : decode cX7_lay 37 = .ok (.iload_n 3, 1) := by decide +kernel
theorem dX7_lay_38 : decode cX7_lay 38 = .ok (.iadd, 1) := by decide +kernel
theorem dX7_lay_39 : decode cX7_lay 39 = .ok (.istore 4, 2) := by decide +kernel
theorem dX7_lay_41 : decode cX7_lay 41 = .ok (.aload_n 0, 1) := by decide +kernel
theorem dX7_lay_42 : decode cX7_lay 42 = .ok (.iload_n 1, 1) := by decide +kernel
theorem dX7_lay_43 : decode cX7_lay 43 = .ok (.iload 4, 2) := by decide +kernel
theorem dX7_lay_45 : decode cX7_lay 45 = .ok (.invokevirtual 178, 3) := by decide +kernel
theorem dX7_lay_48 : decode cX7_lay 48 = .ok (.ifCond .ne 9, 3) := by decide +kernel
theorem dX7_lay_51 : decode cX7_lay 51 = .ok (.aload_n 0, 1) := by decide +kernel
theorem dX7_lay_52 : decode cX7_lay 52 = .ok (.iconst 3, 1) := by decide +kernel
theorem dX7_lay_53 : decode cX7_lay 53 = .ok (.invokevirtual 51, 3) := by decide +kernel
theorem dX7_lay_56 : decode cX7_lay 56 = .ok (.ireturn, 1) := by decide +kernel
theorem dX7_lay_57 : decode cX7_lay 57 = .ok (.aload_n 0, 1) := by decide +kernel
theorem dX7_lay_58 : decode cX7_lay 58 = .ok (.iload_n 1, 1) := by decide +kernel
theorem dX7_lay_59 : decode cX7_lay 59 = .ok (.bipush 6, 2) := by decide +kernel
theorem dX7_lay_61 : decode cX7_lay 61 = .ok (.iload 4, 2) := by decide +kernel
theorem dX7_lay_63 : decode cX7_lay 63 = .ok (.invokevirtual 153, 3) := by decide +kernel
theorem dX7_lay_66 : decode cX7_lay 66 = .ok (.aload_n 0, 1) := by decide +kernel
theorem dX7_lay_67 : decode cX7_lay 67 = .ok (.invokevirtual 157, 3) := by decide +kernel
theorem dX7_lay_70 : decode cX7_lay 70 = .ok (.invokestatic 182, 3) := by decide +kernel
theorem dX7_lay_73 : decode cX7_lay 73 = .ok (.ireturn, 1) := by decide +kernel
theorem dX7_lift_0 : decode cX7_lift 0 = .ok (.aload_n 0, 1) := by decide +kernel
theorem dX7_lift_1 : decode cX7_lift 1 = .ok (.iload_n 1, 1) := by decide +kernel
theorem dX7_lift_2 : decode cX7_lift 2 = .ok (.invokevirtual 169, 3) := by decide +kernel
theorem dX7_lift_5 : decode cX7_lift 5 = .ok (.ifCond .ne 9, 3) := by decide +kernel
theorem dX7_lift_8 : decode cX7_lift 8 = .ok (.aload_n 0, 1) := by decide +kernel
theorem dX7_lift_9 : decode cX7_lift 9 = .ok (.iconst 1, 1) := by decide +kernel
theorem dX7_lift_10 : decode cX7_lift 10 = .ok (.invokevirtual 51, 3) := by decide +kernel
theorem dX7_lift_13 : decode cX7_lift 13 = .ok (.ireturn, 1) := by decide +kernel
theorem dX7_lift_14 : decode cX7_lift 14 = .ok (.aload_n 0, 1) := by decide +kernel
theorem dX7_lift_15 : decode cX7_lift 15 = .ok (.iload_n 1, 1) := by decide +kernel
theorem dX7_lift_16 : decode cX7_lift 16 = .ok (.bipush 6, 2) := by decide +kernel
theorem dX7_lift_18 : decode cX7_lift 18 = .ok (.invokevirtual 111, 3) := by decide +kernel
theorem dX7_lift_21 : decode cX7_lift 21 = .ok (.iconst (-1), 1) := by decide +kernel
theorem dX7_lift_22 : decode cX7_lift 22 = .ok (.if_icmp .ne 9, 3) := by decide +kernel
theorem dX7_lift_25 : decode cX7_lift 25 = .ok (.aload_n 0, 1) := by decide +kernel
theorem dX7_lift_26 : decode cX7_lift 26 = .ok (.iconst 3, 1) := by decide +kernel
theorem dX7_lift_27 : decode cX7_lift 27 = .ok (.invokevirtual 51, 3) := by decide +kernel
theorem dX7_lift_30 : decode cX7_lift 30 = .ok (.ireturn, 1) := by decide +kernel
theorem dX7_lift_31 : decode cX7_lift 31 = .ok (.aload_n 0, 1) := by decide +kernel
theorem dX7_lift_32 : decode cX7_lift 32 = .ok (.iload_n 1, 1) := by decide +kernel
theorem dX7_lift_33 : decode cX7_lift 33 = .ok (.bipush 6, 2) := by decide +kernel
theorem dX7_lift_35 : decode cX7_lift 35 = .ok (.iconst (-1), 1) := by decide +kernel
theorem dX7_lift_36 : decode cX7_lift 36 = .ok (.invokevirtual 153, 3) := by decide +kernel
theorem dX7_lift_39 : decode cX7_lift 39 = .ok (.aload_n 0, 1) := by decide +kernel
theorem dX7_lift_40 : decode cX7_lift 40 = .ok (.invokevirtual 157, 3) := by decide +kernel
theorem dX7_lift_43 : decode cX7_lift 43 = .ok (.invokestatic 182, 3) := by decide +kernel
theorem dX7_lift_46 : decode cX7_lift 46 = .ok (.ireturn, 1) := by decide +kernel
theorem dX7_nail_0 : decode cX7_nail 0 = .ok (.aload_n 0, 1) := by decide +kernel
theorem dX7_nail_1 : decode cX7_nail 1 = .ok (.iload_n 1, 1) := by decide +kernel
theorem dX7_nail_2 : decode cX7_nail 2 = .ok (.invokevirtual 169, 3) := by decide +kernel
theorem dX7_nail_5 : decode cX7_nail 5 = .ok (.ifCond .eq 30, 3) := by decide +kernel
theorem dX7_nail_8 : decode cX7_nail 8 = .ok (.iload_n 2, 1) := by decide +kernel
theorem dX7_nail_9 : decode cX7_nail 9 = .ok (.iconst 0, 1) := by decide +kernel
theorem dX7_nail_10 : decode cX7_nail 10 = .ok (.bipush 9, 2) := by decide +kernel
theorem dX7_nail_12 : decode cX7_nail 12 = .ok (.invokestatic 47, 3) := by decide +kernel
theorem dX7_nail_15 : decode cX7_nail 15 = .ok (.ifCond .eq 20, 3) := by decide +kernel
theorem dX7_nail_18 : decode cX7_nail 18 = .ok (.aload_n 0, 1) := by decide +kernel
theorem dX7_nail_19 : decode cX7_nail 19 = .ok (.bipush 8, 2) := by decide +kernel
theorem dX7_nail_21 : decode cX7_nail 21 = .ok (.bipush 7, 2) := by decide +kernel
theorem dX7_nail_23 : decode cX7_nail 23 = .ok (.iload_n 1, 1) := by decide +kernel
theorem dX7_nail_24 : decode cX7_nail 24 = .ok (.imul, 1) := by decide +kernel
theorem dX7_nail_25 : decode cX7_nail 25 = .ok (.iadd, 1) := by decide +kernel
theorem dX7_nail_26 : decode cX7_nail 26 = .ok (.iconst 3, 1) := by decide +kernel
theorem dX7_nail_27 : decode cX7_nail 27 = .ok (.iadd, 1) := by decide +kernel
theorem dX7_nail_28 : decode cX7_nail 28 = .ok (.iload_n 2, 1) := by decide +kernel
theorem dX7_nail_29 : decode cX7_nail 29 = .ok (.invokevirtual 172, 3) := by decide +kernel
theorem dX7_nail_32 : decode cX7_nail 32 = .ok (.goto 8, 3) := by decide +kernel
theorem dX7_nail_35 : decode cX7_nail 35 = .ok (.aload_n 0, 1) := by decide +kernel
theorem dX7_nail_36 : decode cX7_nail 36 = .ok (.iconst 1, 1) := by decide +kernel
theorem dX7_nail_37 : decode cX7_nail 37 = .ok (.invokevirtual 51, 3) := by decide +kernel
theorem dX7_nail_40 : decode cX7_nail 40 = .ok (.ireturn, 1) := by decide +kernel
theorem dX7_sells_0 : decode cX7_sells 0 = .ok (.iload_n 1, 1) := by decide +kernel
theorem dX7_sells_1 : decode cX7_sells 1 = .ok (.iconst 0, 1) := by decide +kernel
theorem dX7_sells_2 : decode cX7_sells 2 = .ok (.iconst 1, 1) := by decide +kernel
theorem dX7_sells_3 : decode cX7_sells 3 = .ok (.invokestatic 47, 3) := by decide +kernel
theorem dX7_sells_6 : decode cX7_sells 6 = .ok (.ifCond .eq 12, 3) := by decide +kernel
theorem dX7_sells_9 : decode cX7_sells 9 = .ok (.aload_n 0, 1) := by decide +kernel
theorem dX7_sells_10 : decode cX7_sells 10 = .ok (.iconst 1, 1) := by decide +kernel
theorem dX7_sells_11 : decode cX7_sells 11 = .ok (.iload_n 1, 1) := by decide +kernel
theorem dX7_sells_12 : decode cX7_sells 12 = .ok (.invokevirtual 172, 3) := by decide +kernel
theorem dX7_sells_15 : decode cX7_sells 15 = .ok (.goto 8, 3) := by decide +kernel
theorem dX7_sells_18 : decode cX7_sells 18 = .ok (.aload_n 0, 1) := by decide +kernel
theorem dX7_sells_19 : decode cX7_sells 19 = .ok (.iconst 1, 1) := by decide +kernel
theorem dX7_sells_20 : decode cX7_sells 20 = .ok (.invokevirtual 51, 3) := by decide +kernel
theorem dX7_sells_23 : decode cX7_sells 23 = .ok (.ireturn, 1) := by decide +kernel
theorem dX7_law_0 : decode cX7_law 0 = .ok (.iload_n 1, 1) := by decide +kernel
theorem dX7_law_1 : decode cX7_law 1 = .ok (.iconst 0, 1) := by decide +kernel
theorem dX7_law_2 : decode cX7_law 2 = .ok (.iconst 1, 1) := by decide +kernel
theorem dX7_law_3 : decode cX7_law 3 = .ok (.invokestatic 47, 3) := by decide +kernel
theorem dX7_law_6 : decode cX7_law 6 = .ok (.ifCond .ne 9, 3) := by decide +kernel
theorem dX7_law_9 : decode cX7_law 9 = .ok (.aload_n 0, 1) := by decide +kernel
theorem dX7_law_10 : decode cX7_law 10 = .ok (.iconst 1, 1) := by decide +kernel
theorem dX7_law_11 : decode cX7_law 11 = .ok (.invokevirtual 51, 3) := by decide +kernel
theorem dX7_law_14 : decode cX7_law 14 = .ok (.ireturn, 1) := by decide +kernel
theorem dX7_law_15 : decode cX7_law 15 = .ok (.iload_n 1, 1) := by decide +kernel
theorem dX7_law_16 : decode cX7_law 16 = .ok (.ifCond .ne 14, 3) := by decide +kernel
theorem dX7_law_19 : decode cX7_law 19 = .ok (.aload_n 0, 1) := by decide +kernel
theorem dX7_law_20 : decode cX7_law 20 = .ok (.iload_n 2, 1) := by decide +kernel
theorem dX7_law_21 : decode cX7_law 21 = .ok (.iload_n 3, 1) := by decide +kernel
theorem dX7_law_22 : decode cX7_law 22 = .ok (.iload 4, 2) := by decide +kernel
theorem dX7_law_24 : decode cX7_law 24 = .ok (.invokevirtual 124, 3) := by decide +kernel
theorem dX7_law_27 : decode cX7_law 27 = .ok (.goto 11, 3) := by decide +kernel
theorem dX7_law_30 : decode cX7_law 30 = .ok (.aload_n 0, 1) := by decide +kernel
theorem dX7_law_31 : decode cX7_law 31 = .ok (.iload_n 2, 1) := by decide +kernel
theorem dX7_law_32 : decode cX7_law 32 = .ok (.iload_n 3, 1) := by decide +kernel
theorem dX7_law_33 : decode cX7_law 33 = .ok (.iload 4, 2) := by decide +kernel
theorem dX7_law_35 : decode cX7_law 35 = .ok (.invokevirtual 161, 3) := by decide +kernel
theorem dX7_law_38 : decode cX7_law 38 = .ok (.ireturn, 1) := by decide +kernel
theorem dX7_isGale_0 : decode cX7_isGale 0 = .ok (.iload_n 0, 1) := by decide +kernel
theorem dX7_isGale_1 : decode cX7_isGale 1 = .ok (.iconst 0, 1) := by decide +kernel
theorem dX7_isGale_2 : decode cX7_isGale 2 = .ok (.bipush 40, 2) := by decide +kernel
theorem dX7_isGale_4 : decode cX7_isGale 4 = .ok (.invokestatic 47, 3) := by decide +kernel
theorem dX7_isGale_7 : decode cX7_isGale 7 = .ok (.ireturn, 1) := by decide +kernel
theorem dX7_gale_0 : decode cX7_gale 0 = .ok (.iload_n 1, 1) := by decide +kernel
theorem dX7_gale_1 : decode cX7_gale 1 = .ok (.invokestatic 186, 3) := by decide +kernel
theorem dX7_gale_4 : decode cX7_gale 4 = .ok (.ifCond .eq 11, 3) := by decide +kernel
theorem dX7_gale_7 : decode cX7_gale 7 = .ok (.aload_n 0, 1) := by decide +kernel
theorem dX7_gale_8 : decode cX7_gale 8 = .ok (.iload_n 1, 1) := by decide +kernel
theorem dX7_gale_9 : decode cX7_gale 9 = .ok (.invokevirtual 189, 3) := by decide +kernel
theorem dX7_gale_12 : decode cX7_gale 12 = .ok (.goto 8, 3) := by decide +kernel
theorem dX7_gale_15 : decode cX7_gale 15 = .ok (.aload_n 0, 1) := by decide +kernel
theorem dX7_gale_16 : decode cX7_gale 16 = .ok (.iconst 1, 1) := by decide +kernel
theorem dX7_gale_17 : decode cX7_gale 17 = .ok (.invokevirtual 51, 3) := by decide +kernel
theorem dX7_gale_20 : decode cX7_gale 20 = .ok (.ireturn, 1) := by decide +kernel
theorem dX7_whyNot_0 : decode cX7_whyNot 0 = .ok (.iload_n 1, 1) := by decide +kernel
theorem dX7_whyNot_1 : decode cX7_whyNot 1 = .ok (.iconst 1, 1) := by decide +kernel
theorem dX7_whyNot_2 : decode cX7_whyNot 2 = .ok (.iload_n 2, 1) := by decide +kernel
theorem dX7_whyNot_3 : decode cX7_whyNot 3 = .ok (.invokestatic 47, 3) := by decide +kernel
theorem dX7_whyNot_6 : decode cX7_whyNot 6 = .ok (.ifCond .ne 7, 3) := by decide +kernel
theorem dX7_whyNot_9 : decode cX7_whyNot 9 = .ok (.iconst 1, 1) := by decide +kernel
theorem dX7_whyNot_10 : decode cX7_whyNot 10 = .ok (.goto 22, 3) := by decide +kernel
theorem dX7_whyNot_13 : decode cX7_whyNot 13 = .ok (.aload_n 0, 1) := by decide +kernel
theorem dX7_whyNot_14 : decode cX7_whyNot 14 = .ok (.getfield 7, 3) := by decide +kernel
theorem dX7_whyNot_17 : decode cX7_whyNot 17 = .ok (.iconst 0, 1) := by decide +kernel
theorem dX7_whyNot_18 : decode cX7_whyNot 18 = .ok (.iaload, 1) := by decide +kernel
theorem dX7_whyNot_19 : decode cX7_whyNot 19 = .ok (.iload_n 1, 1) := by decide +kernel
theorem dX7_whyNot_20 : decode cX7_whyNot 20 = .ok (.iadd, 1) := by decide +kernel
theorem dX7_whyNot_21 : decode cX7_whyNot 21 = .ok (.sipush 9999, 3) := by decide +kernel
theorem dX7_whyNot_24 : decode cX7_whyNot 24 = .ok (.if_icmp .le 7, 3) := by decide +kernel
theorem dX7_whyNot_27 : decode cX7_whyNot 27 = .ok (.iconst 3, 1) := by decide +kernel
theorem dX7_whyNot_28 : decode cX7_whyNot 28 = .ok (.goto 4, 3) := by decide +kernel
theorem dX7_whyNot_31 : decode cX7_whyNot 31 = .ok (.iconst 0, 1) := by decide +kernel
theorem dX7_whyNot_32 : decode cX7_whyNot 32 = .ok (.ireturn, 1) := by decide +kernel
theorem dX7_years_0 : decode cX7_years 0 = .ok (.aload_n 0, 1) := by decide +kernel
theorem dX7_years_1 : decode cX7_years 1 = .ok (.iload_n 1, 1) := by decide +kernel
theorem dX7_years_2 : decode cX7_years 2 = .ok (.bipush 60, 2) := by decide +kernel
theorem dX7_years_4 : decode cX7_years 4 = .ok (.invokevirtual 192, 3) := by decide +kernel
theorem dX7_years_7 : decode cX7_years 7 = .ok (.istore_n 2, 1) := by decide +kernel
theorem dX7_years_8 : decode cX7_years 8 = .ok (.iload_n 2, 1) := by decide +kernel
theorem dX7_years_9 : decode cX7_years 9 = .ok (.ifCond .eq 9, 3) := by decide +kernel
theorem dX7_years_12 : decode cX7_years 12 = .ok (.aload_n 0, 1) := by decide +kernel
theorem dX7_years_13 : decode cX7_years 13 = .ok (.iload_n 2, 1) := by decide +kernel
theorem dX7_years_14 : decode cX7_years 14 = .ok (.invokevirtual 51, 3) := by decide +kernel
theorem dX7_years_17 : decode cX7_years 17 = .ok (.ireturn, 1) := by decide +kernel
theorem dX7_years_18 : decode cX7_years 18 = .ok (.iconst 0, 1) := by decide +kernel
theorem dX7_years_19 : decode cX7_years 19 = .ok (.istore_n 3, 1) := by decide +kernel
theorem dX7_years_20 : decode cX7_years 20 = .ok (.iload_n 3, 1) := by decide +kernel
theorem dX7_years_21 : decode cX7_years 21 = .ok (.iload_n 1, 1) := by decide +kernel
theorem dX7_years_22 : decode cX7_years 22 = .ok (.if_icmp .ge 13, 3) := by decide +kernel
theorem dX7_years_25 : decode cX7_years 25 = .ok (.aload_n 0, 1) := by decide +kernel
theorem dX7_years_26 : decode cX7_years 26 = .ok (.invokevirtual 195, 3) := by decide +kernel
theorem dX7_years_29 : decode cX7_years 29 = .ok (.iinc 3 1, 3) := by decide +kernel
theorem dX7_years_32 : decode cX7_years 32 = .ok (.goto (-12), 3) := by decide +kernel
theorem dX7_years_35 : decode cX7_years 35 = .ok (.aload_n 0, 1) := by decide +kernel
theorem dX7_years_36 : decode cX7_years 36 = .ok (.getfield 7, 3) := by decide +kernel
theorem dX7_years_39 : decode cX7_years 39 = .ok (.iconst 2, 1) := by decide +kernel
theorem dX7_years_40 : decode cX7_years 40 = .ok (.iaload, 1) := by decide +kernel
theorem dX7_years_41 : decode cX7_years 41 = .ok (.ireturn, 1) := by decide +kernel
theorem dX7_loose_0 : decode cX7_loose 0 = .ok (.aload_n 0, 1) := by decide +kernel
theorem dX7_loose_1 : decode cX7_loose 1 = .ok (.iload_n 1, 1) := by decide +kernel
theorem dX7_loose_2 : decode cX7_loose 2 = .ok (.bipush 20, 2) := by decide +kernel
theorem dX7_loose_4 : decode cX7_loose 4 = .ok (.invokevirtual 192, 3) := by decide +kernel
theorem dX7_loose_7 : decode cX7_loose 7 = .ok (.istore_n 2, 1) := by decide +kernel
theorem dX7_loose_8 : decode cX7_loose 8 = .ok (.iload_n 2, 1) := by decide +kernel
theorem dX7_loose_9 : decode cX7_loose 9 = .ok (.ifCond .eq 9, 3) := by decide +kernel
theorem dX7_loose_12 : decode cX7_loose 12 = .ok (.aload_n 0, 1) := by decide +kernel
theorem dX7_loose_13 : decode cX7_loose 13 = .ok (.iload_n 2, 1) := by decide +kernel
theorem dX7_loose_14 : decode cX7_loose 14 = .ok (.invokevirtual 51, 3) := by decide +kernel
theorem dX7_loose_17 : decode cX7_loose 17 = .ok (.ireturn, 1) := by decide +kernel
theorem dX7_loose_18 : decode cX7_loose 18 = .ok (.iconst 0, 1) := by decide +kernel
theorem dX7_loose_19 : decode cX7_loose 19 = .ok (.istore_n 3, 1) := by decide +kernel
theorem dX7_loose_20 : decode cX7_loose 20 = .ok (.iconst 0, 1) := by decide +kernel
theorem dX7_loose_21 : decode cX7_loose 21 = .ok (.istore 4, 2) := by decide +kernel
theorem dX7_loose_23 : decode cX7_loose 23 = .ok (.iload 4, 2) := by decide +kernel
theorem dX7_loose_25 : decode cX7_loose 25 = .ok (.iload_n 1, 1) := by decide +kernel
theorem dX7_loose_26 : decode cX7_loose 26 = .ok (.if_icmp .ge 93, 3) := by decide +kernel
theorem dX7_loose_29 : decode cX7_loose 29 = .ok (.iload_n 3, 1) := by decide +kernel
theorem dX7_loose_30 : decode cX7_loose 30 = .ok (.aload_n 0, 1) := by decide +kernel
theorem dX7_loose_31 : decode cX7_loose 31 = .ok (.aload_n 0, 1) := by decide +kernel
theorem dX7_loose_32 : decode cX7_loose 32 = .ok (.invokevirtual 198, 3) := by decide +kernel
theorem dX7_loose_35 : decode cX7_loose 35 = .ok (.bipush 40, 2) := by decide +kernel
theorem dX7_loose_37 : decode cX7_loose 37 = .ok (.irem, 1) := by decide +kernel
theorem dX7_loose_38 : decode cX7_loose 38 = .ok (.invokevirtual 189, 3) := by decide +kernel
theorem dX7_loose_41 : decode cX7_loose 41 = .ok (.ior, 1) := by decide +kernel
theorem dX7_loose_42 : decode cX7_loose 42 = .ok (.istore_n 3, 1) := by decide +kernel
theorem dX7_loose_43 : decode cX7_loose 43 = .ok (.aload_n 0, 1) := by decide +kernel
theorem dX7_loose_44 : decode cX7_loose 44 = .ok (.getfield 7, 3) := by decide +kernel
theorem dX7_loose_47 : decode cX7_loose 47 = .ok (.bipush 6, 2) := by decide +kernel
theorem dX7_loose_49 : decode cX7_loose 49 = .ok (.iaload, 1) := by decide +kernel
theorem dX7_loose_50 : decode cX7_loose 50 = .ok (.ifCond .le 59, 3) := by decide +kernel
theorem dX7_loose_53 : decode cX7_loose 53 = .ok (.aload_n 0, 1) := by decide +kernel
theorem dX7_loose_54 : decode cX7_loose 54 = .ok (.invokevirtual 198, 3) := by decide +kernel
theorem dX7_loose_57 : decode cX7_loose 57 = .ok (.aload_n 0, 1) := by decide +kernel
theorem dX7_loose_58 : decode cX7_loose 58 = .ok (.getfield 7, 3) := by decide +kernel
theorem dX7_loose_61 : decode cX7_loose 61 = .ok (.bipush 6, 2) := by decide +kernel
theorem dX7_loose_63 : decode cX7_loose 63 = .ok (.iaload, 1) := by decide +kernel
theorem dX7_loose_64 : decode cX7_loose 64 = .ok (.irem, 1) := by decide +kernel
theorem dX7_loose_65 : decode cX7_loose 65 = .ok (.istore 5, 2) := by decide +kernel
theorem dX7_loose_67 : decode cX7_loose 67 = .ok (.aload_n 0, 1) := by decide +kernel
theorem dX7_loose_68 : decode cX7_loose 68 = .ok (.invokevirtual 198, 3) := by decide +kernel
theorem dX7_loose_71 : decode cX7_loose 71 = .ok (.bipush 48, 2) := by decide +kernel
theorem dX7_loose_73 : decode cX7_loose 73 = .ok (.irem, 1) := by decide +kernel
theorem dX7_loose_74 : decode cX7_loose 74 = .ok (.istore 6, 2) := by decide +kernel
theorem dX7_loose_76 : decode cX7_loose 76 = .ok (.aload_n 0, 1) := by decide +kernel
theorem dX7_loose_77 : decode cX7_loose 77 = .ok (.iload 5, 2) := by decide +kernel
theorem dX7_loose_79 : decode cX7_loose 79 = .ok (.bipush 6, 2) := by decide +kernel
theorem dX7_loose_81 : decode cX7_loose 81 = .ok (.invokevirtual 111, 3) := by decide +kernel
theorem dX7_loose_84 : decode cX7_loose 84 = .ok (.iconst (-1), 1) := by decide +kernel
theorem dX7_loose_85 : decode cX7_loose 85 = .ok (.if_icmp .ne 24, 3) := by decide +kernel
theorem dX7_loose_88 : decode cX7_loose 88 = .ok (.aload_n 0, 1) := by decide +kernel
theorem dX7_loose_89 : decode cX7_loose 89 = .ok (.iload 5, 2) := by decide +kernel
theorem dX7_loose_91 : decode cX7_loose 91 = .ok (.iload 6, 2) := by decide +kernel
theorem dX7_loose_93 : decode cX7_loose 93 = .ok (.invokevirtual 178, 3) := by decide +kernel
theorem dX7_loose_96 : decode cX7_loose 96 = .ok (.ifCond .eq 13, 3) := by decide +kernel
theorem dX7_loose_99 : decode cX7_loose 99 = .ok (.aload_n 0, 1) := by decide +kernel
theorem dX7_loose_100 : decode cX7_loose 100 = .ok (.iload 5, 2) := by decide +kernel
theorem dX7_loose_102 : decode cX7_loose 102 = .ok (.bipush 6, 2) := by decide +kernel
theorem dX7_loose_104 : decode cX7_loose 104 = .ok (.iload 6, 2) := by decide +kernel
theorem dX7_loose_106 : decode cX7_loose 106 = .ok (.invokevirtual 153, 3) := by decide +kernel
theorem dX7_loose_109 : decode cX7_loose 109 = .ok (.aload_n 0, 1) := by decide +kernel
theorem dX7_loose_110 : decode cX7_loose 110 = .ok (.invokevirtual 195, 3) := by decide +kernel
theorem dX7_loose_113 : decode cX7_loose 113 = .ok (.iinc 4 1, 3) := by decide +kernel
theorem dX7_loose_116 : decode cX7_loose 116 = .ok (.goto (-93), 3) := by decide +kernel
theorem dX7_loose_119 : decode cX7_loose 119 = .ok (.iload_n 3, 1) := by decide +kernel
theorem dX7_loose_120 : decode cX7_loose 120 = .ok (.ireturn, 1) := by decide +kernel
theorem dX7_seed_0 : decode cX7_seed 0 = .ok (.aload_n 0, 1) := by decide +kernel
theorem dX7_seed_1 : decode cX7_seed 1 = .ok (.iconst 3, 1) := by decide +kernel
theorem dX7_seed_2 : decode cX7_seed 2 = .ok (.iload_n 1, 1) := by decide +kernel
theorem dX7_seed_3 : decode cX7_seed 3 = .ok (.invokevirtual 172, 3) := by decide +kernel
theorem dX7_seed_6 : decode cX7_seed 6 = .ok (.ireturn, 1) := by decide +kernel
theorem dX7_dry_0 : decode cX7_dry 0 = .ok (.iload_n 1, 1) := by decide +kernel
theorem dX7_dry_1 : decode cX7_dry 1 = .ok (.iconst 0, 1) := by decide +kernel
theorem dX7_dry_2 : decode cX7_dry 2 = .ok (.iconst 2, 1) := by decide +kernel
theorem dX7_dry_3 : decode cX7_dry 3 = .ok (.invokestatic 47, 3) := by decide +kernel
theorem dX7_dry_6 : decode cX7_dry 6 = .ok (.ifCond .ne 10, 3) := by decide +kernel
theorem dX7_dry_9 : decode cX7_dry 9 = .ok (.aload_n 0, 1) := by decide +kernel
theorem dX7_dry_10 : decode cX7_dry 10 = .ok (.iconst 1, 1) := by decide +kernel
theorem dX7_dry_11 : decode cX7_dry 11 = .ok (.invokevirtual 51, 3) := by decide +kernel
theorem dX7_dry_14 : decode cX7_dry 14 = .ok (.i2l, 1) := by decide +kernel
theorem dX7_dry_15 : decode cX7_dry 15 = .ok (.lreturn, 1) := by decide +kernel
theorem dX7_dry_16 : decode cX7_dry 16 = .ok (.aload_n 0, 1) := by decide +kernel
theorem dX7_dry_17 : decode cX7_dry 17 = .ok (.invokevirtual 157, 3) := by decide +kernel
theorem dX7_dry_20 : decode cX7_dry 20 = .ok (.lstore_n 2, 1) := by decide +kernel
theorem dX7_dry_21 : decode cX7_dry 21 = .ok (.iload_n 1, 1) := by decide +kernel
theorem dX7_dry_22 : decode cX7_dry 22 = .ok (.iconst 2, 1) := by decide +kernel
theorem dX7_dry_23 : decode cX7_dry 23 = .ok (.if_icmp .ge 17, 3) := by decide +kernel
theorem dX7_dry_26 : decode cX7_dry 26 = .ok (.iload_n 1, 1) := by decide +kernel
theorem dX7_dry_27 : decode cX7_dry 27 = .ok (.ifCond .ne 7, 3) := by decide +kernel
theorem dX7_dry_30 : decode cX7_dry 30 = .ok (.lload_n 2, 1) := by decide +kernel
theorem dX7_dry_31 : decode cX7_dry 31 = .ok (.goto 8, 3) := by decide +kernel
theorem dX7_dry_34 : decode cX7_dry 34 = .ok (.lload_n 2, 1) := by decide +kernel
theorem dX7_dry_35 : decode cX7_dry 35 = .ok (.invokestatic 182, 3) := by decide +kernel
theorem dX7_dry_38 : decode cX7_dry 38 = .ok (.i2l, 1) := by decide +kernel
theorem dX7_dry_39 : decode cX7_dry 39 = .ok (.lreturn, 1) := by decide +kernel
theorem dX7_dry_40 : decode cX7_dry 40 = .ok (.iconst 0, 1) := by decide +kernel
theorem dX7_dry_41 : decode cX7_dry 41 = .ok (.istore 4, 2) := by decide +kernel
theorem dX7_dry_43 : decode cX7_dry 43 = .ok (.iload 4, 2) := by decide +kernel
theorem dX7_dry_45 : decode cX7_dry 45 = .ok (.bipush 48, 2) := by decide +kernel
theorem dX7_dry_47 : decode cX7_dry 47 = .ok (.if_icmp .ge 20, 3) := by decide +kernel
theorem dX7_dry_50 : decode cX7_dry 50 = .ok (.lload_n 2, 1) := by decide +kernel
theorem dX7_dry_51 : decode cX7_dry 51 = .ok (.iload 4, 2) := by decide +kernel
theorem dX7_dry_53 : decode cX7_dry 53 = .ok (.lushr, 1) := by decide +kernel
theorem dX7_dry_54 : decode cX7_dry 54 = .ok (.lconst 1, 1) := by decide +kernel
theorem dX7_dry_55 : decode cX7_dry 55 = .ok (.land, 1) := by decide +kernel
theorem dX7_dry_56 : decode cX7_dry 56 = .ok (.lconst 1, 1) := by decide +kernel
theorem dX7_dry_57 : decode cX7_dry 57 = .ok (.lcmp, 1) := by decide +kernel
theorem dX7_dry_58 : decode cX7_dry 58 = .ok (.ifCond .ne 9, 3) := by decide +kernel
theorem dX7_dry_61 : decode cX7_dry 61 = .ok (.iinc 4 1, 3) := by decide +kernel
theorem dX7_dry_64 : decode cX7_dry 64 = .ok (.goto (-21), 3) := by decide +kernel
theorem dX7_dry_67 : decode cX7_dry 67 = .ok (.iload 4, 2) := by decide +kernel
theorem dX7_dry_69 : decode cX7_dry 69 = .ok (.bipush 48, 2) := by decide +kernel
theorem dX7_dry_71 : decode cX7_dry 71 = .ok (.if_icmp .ge 9, 3) := by decide +kernel
theorem dX7_dry_74 : decode cX7_dry 74 = .ok (.iload 4, 2) := by decide +kernel
theorem dX7_dry_76 : decode cX7_dry 76 = .ok (.i2l, 1) := by decide +kernel
theorem dX7_dry_77 : decode cX7_dry 77 = .ok (.goto 9, 3) := by decide +kernel
theorem dX7_dry_80 : decode cX7_dry 80 = .ok (.aload_n 0, 1) := by decide +kernel
theorem dX7_dry_81 : decode cX7_dry 81 = .ok (.iconst 2, 1) := by decide +kernel
theorem dX7_dry_82 : decode cX7_dry 82 = .ok (.invokevirtual 51, 3) := by decide +kernel
theorem dX7_dry_85 : decode cX7_dry 85 = .ok (.i2l, 1) := by decide +kernel
theorem dX7_dry_86 : decode cX7_dry 86 = .ok (.lreturn, 1) := by decide +kernel
theorem dX7_coveredBy_0 : decode cX7_coveredBy 0 = .ok (.iconst 0, 1) := by decide +kernel
theorem dX7_coveredBy_1 : decode cX7_coveredBy 1 = .ok (.istore 4, 2) := by decide +kernel
theorem dX7_coveredBy_3 : decode cX7_coveredBy 3 = .ok (.iconst 0, 1) := by decide +kernel
theorem dX7_coveredBy_4 : decode cX7_coveredBy 4 = .ok (.istore 5, 2) := by decide +kernel
theorem dX7_coveredBy_6 : decode cX7_coveredBy 6 = .ok (.iload 5, 2) := by decide +kernel
theorem dX7_coveredBy_8 : decode cX7_coveredBy 8 = .ok (.aload_n 0, 1) := by decide +kernel
theorem dX7_coveredBy_9 : decode cX7_coveredBy 9 = .ok (.getfield 7, 3) := by decide +kernel
theorem dX7_coveredBy_12 : decode cX7_coveredBy 12 = .ok (.bipush 6, 2) := by decide +kernel
theorem dX7_coveredBy_14 : decode cX7_coveredBy 14 = .ok (.iaload, 1) := by decide +kernel
theorem dX7_coveredBy_15 : decode cX7_coveredBy 15 = .ok (.if_icmp .ge 79, 3) := by decide +kernel
theorem dX7_coveredBy_18 : decode cX7_coveredBy 18 = .ok (.aload_n 0, 1) := by decide +kernel
theorem dX7_coveredBy_19 : decode cX7_coveredBy 19 = .ok (.iload 5, 2) := by decide +kernel
theorem dX7_coveredBy_21 : decode cX7_coveredBy 21 = .ok (.bipush 6, 2) := by decide +kernel
theorem dX7_coveredBy_23 : decode cX7_coveredBy 23 = .ok (.invokevirtual 111, 3) := by decide +kernel
theorem dX7_coveredBy_26 : decode cX7_coveredBy 26 = .ok (.iconst (-1), 1) := by decide +kernel
theorem dX7_coveredBy_27 : decode cX7_coveredBy 27 = .ok (.if_icmp .eq 40, 3) := by decide +kernel
theorem dX7_coveredBy_30 : decode cX7_coveredBy 30 = .ok (.iload_n 3, 1) := by decide +kernel
theorem dX7_coveredBy_31 : decode cX7_coveredBy 31 = .ok (.iconst (-1), 1) := by decide +kernel
theorem dX7_coveredBy_32 : decode cX7_coveredBy 32 = .ok (.if_icmp .eq 18, 3) := by decide +kernel
theorem dX7_coveredBy_35 : decode cX7_coveredBy 35 = .ok (.aload_n 0, 1) := by decide +kernel
theorem dX7_coveredBy_36 : decode cX7_coveredBy 36 = .ok (.iload 5, 2) := by decide +kernel
theorem dX7_coveredBy_38 : decode cX7_coveredBy 38 = .ok (.bipush 6, 2) := by decide +kernel
theorem dX7_coveredBy_40 : decode cX7_coveredBy 40 = .ok (.invokevirtual 111, 3) := by decide +kernel
theorem dX7_coveredBy_43 : decode cX7_coveredBy 43 = .ok (.bipush 8, 2) := by decide +kernel
theorem dX7_coveredBy_45 : decode cX7_coveredBy 45 = .ok (.idiv, 1) := by decide +kernel
theorem dX7_coveredBy_46 : decode cX7_coveredBy 46 = .ok (.iload_n 3, 1) := by decide +kernel
theorem dX7_coveredBy_47 : decode cX7_coveredBy 47 = .ok (.if_icmp .ne 20, 3) := by decide +kernel
theorem dX7_coveredBy_50 : decode cX7_coveredBy 50 = .ok (.aload_n 0, 1) := by decide +kernel
theorem dX7_coveredBy_51 : decode cX7_coveredBy 51 = .ok (.iload 5, 2) := by decide +kernel
theorem dX7_coveredBy_53 : decode cX7_coveredBy 53 = .ok (.invokevirtual 140, 3) := by decide +kernel
theorem dX7_coveredBy_56 : decode cX7_coveredBy 56 = .ok (.lload_n 1, 1) := by decide +kernel
theorem dX7_coveredBy_57 : decode cX7_coveredBy 57 = .ok (.land, 1) := by decide +kernel
theorem dX7_coveredBy_58 : decode cX7_coveredBy 58 = .ok (.lconst 0, 1) := by decide +kernel
theorem dX7_coveredBy_59 : decode cX7_coveredBy 59 = .ok (.lcmp, 1) := by decide +kernel
theorem dX7_coveredBy_60 : decode cX7_coveredBy 60 = .ok (.ifCond .eq 7, 3) := by decide +kernel
theorem dX7_coveredBy_63 : decode cX7_coveredBy 63 = .ok (.iconst 1, 1) := by decide +kernel
theorem dX7_coveredBy_64 : decode cX7_coveredBy 64 = .ok (.goto 4, 3) := by decide +kernel
theorem dX7_coveredBy_67 : decode cX7_coveredBy 67 = .ok (.iconst 0, 1) := by decide +kernel
theorem dX7_coveredBy_68 : decode cX7_coveredBy 68 = .ok (.istore 6, 2) := by decide +kernel
theorem dX7_coveredBy_70 : decode cX7_coveredBy 70 = .ok (.iload 4, 2) := by decide +kernel
theorem dX7_coveredBy_72 : decode cX7_coveredBy 72 = .ok (.iload 6, 2) := by decide +kernel
theorem dX7_coveredBy_74 : decode cX7_coveredBy 74 = .ok (.ifCond .eq 10, 3) := by decide +kernel
theorem dX7_coveredBy_77 : decode cX7_coveredBy 77 = .ok (.iconst 1, 1) := by decide +kernel
theorem dX7_coveredBy_78 : decode cX7_coveredBy 78 = .ok (.iload 5, 2) := by decide +kernel
theorem dX7_coveredBy_80 : decode cX7_coveredBy 80 = .ok (.ishl, 1) := by decide +kernel
theorem dX7_coveredBy_81 : decode cX7_coveredBy 81 = .ok (.goto 4, 3) := by decide +kernel
theorem dX7_coveredBy_84 : decode cX7_coveredBy 84 = .ok (.iconst 0, 1) := by decide +kernel
theorem dX7_coveredBy_85 : decode cX7_coveredBy 85 = .ok (.ior, 1) := by decide +kernel
theorem dX7_coveredBy_86 : decode cX7_coveredBy 86 = .ok (.istore 4, 2) := by decide +kernel
theorem dX7_coveredBy_88 : decode cX7_coveredBy 88 = .ok (.iinc 5 1, 3) := by decide +kernel
theorem dX7_coveredBy_91 : decode cX7_coveredBy 91 = .ok (.goto (-85), 3) := by decide +kernel
theorem dX7_coveredBy_94 : decode cX7_coveredBy 94 = .ok (.iload 4, 2) := by decide +kernel
theorem dX7_coveredBy_96 : decode cX7_coveredBy 96 = .ok (.ireturn, 1) := by decide +kernel
theorem dX7_over_0 : decode cX7_over 0 = .ok (.iload_n 1, 1) := by decide +kernel
theorem dX7_over_1 : decode cX7_over 1 = .ok (.iconst 0, 1) := by decide +kernel
theorem dX7_over_2 : decode cX7_over 2 = .ok (.bipush 47, 2) := by decide +kernel
theorem dX7_over_4 : decode cX7_over 4 = .ok (.invokestatic 47, 3) := by decide +kernel
theorem dX7_over_7 : decode cX7_over 7 = .ok (.ifCond .eq 12, 3) := by decide +kernel
theorem dX7_over_10 : decode cX7_over 10 = .ok (.iload_n 2, 1) := by decide +kernel
theorem dX7_over_11 : decode cX7_over 11 = .ok (.iconst 0, 1) := by decide +kernel
theorem dX7_over_12 : decode cX7_over 12 = .ok (.iconst 1, 1) := by decide +kernel
theorem dX7_over_13 : decode cX7_over 13 = .ok (.invokestatic 47, 3) := by decide +kernel
theorem dX7_over_16 : decode cX7_over 16 = .ok (.ifCond .ne 9, 3) := by decide +kernel
theorem dX7_over_19 : decode cX7_over 19 = .ok (.aload_n 0, 1) := by decide +kernel
theorem dX7_over_20 : decode cX7_over 20 = .ok (.iconst 1, 1) := by decide +kernel
theorem dX7_over_21 : decode cX7_over 21 = .ok (.invokevirtual 51, 3) := by decide +kernel
theorem dX7_over_24 : decode cX7_over 24 = .ok (.ireturn, 1) := by decide +kernel
theorem dX7_over_25 : decode cX7_over 25 = .ok (.aload_n 0, 1) := by decide +kernel
theorem dX7_over_26 : decode cX7_over 26 = .ok (.lconst 1, 1) := by decide +kernel
theorem dX7_over_27 : decode cX7_over 27 = .ok (.iload_n 1, 1) := by decide +kernel
theorem dX7_over_28 : decode cX7_over 28 = .ok (.lshl, 1) := by decide +kernel
theorem dX7_over_29 : decode cX7_over 29 = .ok (.iconst (-1), 1) := by decide +kernel
theorem dX7_over_30 : decode cX7_over 30 = .ok (.invokevirtual 201, 3) := by decide +kernel
theorem dX7_over_33 : decode cX7_over 33 = .ok (.istore_n 3, 1) := by decide +kernel
theorem dX7_over_34 : decode cX7_over 34 = .ok (.iconst 0, 1) := by decide +kernel
theorem dX7_over_35 : decode cX7_over 35 = .ok (.istore 4, 2) := by decide +kernel
theorem dX7_over_37 : decode cX7_over 37 = .ok (.iload_n 2, 1) := by decide +kernel
theorem dX7_over_38 : decode cX7_over 38 = .ok (.iconst 1, 1) := by decide +kernel
theorem dX7_over_39 : decode cX7_over 39 = .ok (.if_icmp .ne 86, 3) := by decide +kernel
theorem dX7_over_42 : decode cX7_over 42 = .ok (.iload 4, 2) := by decide +kernel
theorem dX7_over_44 : decode cX7_over 44 = .ok (.iload_n 3, 1) := by decide +kernel
theorem dX7_over_45 : decode cX7_over 45 = .ok (.if_icmp .eq 80, 3) := by decide +kernel
theorem dX7_over_48 : decode cX7_over 48 = .ok (.iload_n 3, 1) := by decide +kernel
theorem dX7_over_49 : decode cX7_over 49 = .ok (.istore 4, 2) := by decide +kernel
theorem dX7_over_51 : decode cX7_over 51 = .ok (.iconst 0, 1) := by decide +kernel
theorem dX7_over_52 : decode cX7_over 52 = .ok (.istore 5, 2) := by decide +kernel
theorem dX7_over_54 : decode cX7_over 54 = .ok (.iload 5, 2) := by decide +kernel
theorem dX7_over_56 : decode cX7_over 56 = .ok (.aload_n 0, 1) := by decide +kernel
theorem dX7_over_57 : decode cX7_over 57 = .ok (.getfield 7, 3) := by decide +kernel
theorem dX7_over_60 : decode cX7_over 60 = .ok (.bipush 6, 2) := by decide +kernel
theorem dX7_over_62 : decode cX7_over 62 = .ok (.iaload, 1) := by decide +kernel
theorem dX7_over_63 : decode cX7_over 63 = .ok (.if_icmp .ge 59, 3) := by decide +kernel
theorem dX7_over_66 : decode cX7_over 66 = .ok (.aload_n 0, 1) := by decide +kernel
theorem dX7_over_67 : decode cX7_over 67 = .ok (.iload 5, 2) := by decide +kernel
theorem dX7_over_69 : decode cX7_over 69 = .ok (.bipush 6, 2) := by decide +kernel
theorem dX7_over_71 : decode cX7_over 71 = .ok (.invokevirtual 111, 3) := by decide +kernel
theorem dX7_over_74 : decode cX7_over 74 = .ok (.bipush 8, 2) := by decide +kernel
theorem dX7_over_76 : decode cX7_over 76 = .ok (.idiv, 1) := by decide +kernel
theorem dX7_over_77 : decode cX7_over 77 = .ok (.istore 6, 2) := by decide +kernel
theorem dX7_over_79 : decode cX7_over 79 = .ok (.iload_n 3, 1) := by decide +kernel
theorem dX7_over_80 : decode cX7_over 80 = .ok (.iload 4, 2) := by decide +kernel
theorem dX7_over_82 : decode cX7_over 82 = .ok (.iload 5, 2) := by decide +kernel
theorem dX7_over_84 : decode cX7_over 84 = .ok (.ishr, 1) := by decide +kernel
theorem dX7_over_85 : decode cX7_over 85 = .ok (.iconst 1, 1) := by decide +kernel
theorem dX7_over_86 : decode cX7_over 86 = .ok (.iand, 1) := by decide +kernel
theorem dX7_over_87 : decode cX7_over 87 = .ok (.iconst 1, 1) := by decide +kernel
theorem dX7_over_88 : decode cX7_over 88 = .ok (.if_icmp .ne 25, 3) := by decide +kernel
theorem dX7_over_91 : decode cX7_over 91 = .ok (.iload 6, 2) := by decide +kernel
theorem dX7_over_93 : decode cX7_over 93 = .ok (.ifCond .le 20, 3) := by decide +kernel
theorem dX7_over_96 : decode cX7_over 96 = .ok (.aload_n 0, 1) := by decide +kernel
theorem dX7_over_97 : decode cX7_over 97 = .ok (.aload_n 0, 1) := by decide +kernel
theorem dX7_over_98 : decode cX7_over 98 = .ok (.iload 5, 2) := by decide +kernel
theorem dX7_over_100 : decode cX7_over 100 = .ok (.invokevirtual 134, 3) := by decide +kernel
theorem dX7_over_103 : decode cX7_over 103 = .ok (.iload 6, 2) := by decide +kernel
theorem dX7_over_105 : decode cX7_over 105 = .ok (.iconst 1, 1) := by decide +kernel
theorem dX7_over_106 : decode cX7_over 106 = .ok (.isub, 1) := by decide +kernel
theorem dX7_over_107 : decode cX7_over 107 = .ok (.invokevirtual 201, 3) := by decide +kernel
theorem dX7_over_110 : decode cX7_over 110 = .ok (.goto 4, 3) := by decide +kernel
theorem dX7_over_113 : decode cX7_over 113 = .ok (.iconst 0, 1) := by decide +kernel
theorem dX7_over_114 : decode cX7_over 114 = .ok (.ior, 1) := by decide +kernel
theorem dX7_over_115 : decode cX7_over 115 = .ok (.istore_n 3, 1) := by decide +kernel
theorem dX7_over_116 : decode cX7_over 116 = .ok (.iinc 5 1, 3) := by decide +kernel
theorem dX7_over_119 : decode cX7_over 119 = .ok (.goto (-65), 3) := by decide +kernel
theorem dX7_over_122 : decode cX7_over 122 = .ok (.goto (-85), 3) := by decide +kernel
theorem dX7_over_125 : decode cX7_over 125 = .ok (.iload_n 3, 1) := by decide +kernel
theorem dX7_over_126 : decode cX7_over 126 = .ok (.ireturn, 1) := by decide +kernel
theorem dX7_lifts_0 : decode cX7_lifts 0 = .ok (.iload_n 1, 1) := by decide +kernel
theorem dX7_lifts_1 : decode cX7_lifts 1 = .ok (.invokestatic 186, 3) := by decide +kernel
theorem dX7_lifts_4 : decode cX7_lifts 4 = .ok (.ifCond .eq 12, 3) := by decide +kernel
theorem dX7_lifts_7 : decode cX7_lifts 7 = .ok (.iload_n 2, 1) := by decide +kernel
theorem dX7_lifts_8 : decode cX7_lifts 8 = .ok (.iconst 0, 1) := by decide +kernel
theorem dX7_lifts_9 : decode cX7_lifts 9 = .ok (.iconst 1, 1) := by decide +kernel
theorem dX7_lifts_10 : decode cX7_lifts 10 = .ok (.invokestatic 47, 3) := by decide +kernel
theorem dX7_lifts_13 : decode cX7_lifts 13 = .ok (.ifCond .ne 9, 3) := by decide +kernel
theorem dX7_lifts_16 : decode cX7_lifts 16 = .ok (.aload_n 0, 1) := by decide +kernel
theorem dX7_lifts_17 : decode cX7_lifts 17 = .ok (.iconst 1, 1) := by decide +kernel
theorem dX7_lifts_18 : decode cX7_lifts 18 = .ok (.invokevirtual 51, 3) := by decide +kernel
theorem dX7_lifts_21 : decode cX7_lifts 21 = .ok (.ireturn, 1) := by decide +kernel
theorem dX7_lifts_22 : decode cX7_lifts 22 = .ok (.aload_n 0, 1) := by decide +kernel
theorem dX7_lifts_23 : decode cX7_lifts 23 = .ok (.iload_n 1, 1) := by decide +kernel
theorem dX7_lifts_24 : decode cX7_lifts 24 = .ok (.invokevirtual 146, 3) := by decide +kernel
theorem dX7_lifts_27 : decode cX7_lifts 27 = .ok (.iload_n 2, 1) := by decide +kernel
theorem dX7_lifts_28 : decode cX7_lifts 28 = .ok (.ifCond .ne 12, 3) := by decide +kernel
theorem dX7_lifts_31 : decode cX7_lifts 31 = .ok (.aload_n 0, 1) := by decide +kernel
theorem dX7_lifts_32 : decode cX7_lifts 32 = .ok (.iload_n 1, 1) := by decide +kernel
theorem dX7_lifts_33 : decode cX7_lifts 33 = .ok (.iconst 0, 1) := by decide +kernel
theorem dX7_lifts_34 : decode cX7_lifts 34 = .ok (.invokevirtual 150, 3) := by decide +kernel
theorem dX7_lifts_37 : decode cX7_lifts 37 = .ok (.goto 11, 3) := by decide +kernel
theorem dX7_lifts_40 : decode cX7_lifts 40 = .ok (.aload_n 0, 1) := by decide +kernel
theorem dX7_lifts_41 : decode cX7_lifts 41 = .ok (.iload_n 1, 1) := by decide +kernel
theorem dX7_lifts_42 : decode cX7_lifts 42 = .ok (.invokevirtual 205, 3) := by decide +kernel
theorem dX7_lifts_45 : decode cX7_lifts 45 = .ok (.invokestatic 182, 3) := by decide +kernel
theorem dX7_lifts_48 : decode cX7_lifts 48 = .ok (.ireturn, 1) := by decide +kernel
theorem dX7_fast_0 : decode cX7_fast 0 = .ok (.iload_n 1, 1) := by decide +kernel
theorem dX7_fast_1 : decode cX7_fast 1 = .ok (.invokestatic 186, 3) := by decide +kernel
theorem dX7_fast_4 : decode cX7_fast 4 = .ok (.ifCond .eq 12, 3) := by decide +kernel
theorem dX7_fast_7 : decode cX7_fast 7 = .ok (.iload_n 2, 1) := by decide +kernel
theorem dX7_fast_8 : decode cX7_fast 8 = .ok (.iconst 0, 1) := by decide +kernel
theorem dX7_fast_9 : decode cX7_fast 9 = .ok (.iconst 1, 1) := by decide +kernel
theorem dX7_fast_10 : decode cX7_fast 10 = .ok (.invokestatic 47, 3) := by decide +kernel
theorem dX7_fast_13 : decode cX7_fast 13 = .ok (.ifCond .ne 9, 3) := by decide +kernel
theorem dX7_fast_16 : decode cX7_fast 16 = .ok (.aload_n 0, 1) := by decide +kernel
theorem dX7_fast_17 : decode cX7_fast 17 = .ok (.iconst 1, 1) := by decide +kernel
theorem dX7_fast_18 : decode cX7_fast 18 = .ok (.invokevirtual 51, 3) := by decide +kernel
theorem dX7_fast_21 : decode cX7_fast 21 = .ok (.ireturn, 1) := by decide +kernel
theorem dX7_fast_22 : decode cX7_fast 22 = .ok (.aload_n 0, 1) := by decide +kernel
theorem dX7_fast_23 : decode cX7_fast 23 = .ok (.iload_n 1, 1) := by decide +kernel
theorem dX7_fast_24 : decode cX7_fast 24 = .ok (.invokevirtual 146, 3) := by decide +kernel
theorem dX7_fast_27 : decode cX7_fast 27 = .ok (.iconst (-1), 1) := by decide +kernel
theorem dX7_fast_28 : decode cX7_fast 28 = .ok (.istore_n 3, 1) := by decide +kernel
theorem dX7_fast_29 : decode cX7_fast 29 = .ok (.iconst 0, 1) := by decide +kernel
theorem dX7_fast_30 : decode cX7_fast 30 = .ok (.istore 4, 2) := by decide +kernel
theorem dX7_fast_32 : decode cX7_fast 32 = .ok (.iload 4, 2) := by decide +kernel
theorem dX7_fast_34 : decode cX7_fast 34 = .ok (.iconst 1, 1) := by decide +kernel
theorem dX7_fast_35 : decode cX7_fast 35 = .ok (.aload_n 0, 1) := by decide +kernel
theorem dX7_fast_36 : decode cX7_fast 36 = .ok (.getfield 7, 3) := by decide +kernel
theorem dX7_fast_39 : decode cX7_fast 39 = .ok (.bipush 6, 2) := by decide +kernel
theorem dX7_fast_41 : decode cX7_fast 41 = .ok (.iaload, 1) := by decide +kernel
theorem dX7_fast_42 : decode cX7_fast 42 = .ok (.ishl, 1) := by decide +kernel
theorem dX7_fast_43 : decode cX7_fast 43 = .ok (.if_icmp .ge 57, 3) := by decide +kernel
theorem dX7_fast_46 : decode cX7_fast 46 = .ok (.iload_n 3, 1) := by decide +kernel
theorem dX7_fast_47 : decode cX7_fast 47 = .ok (.iconst (-1), 1) := by decide +kernel
theorem dX7_fast_48 : decode cX7_fast 48 = .ok (.if_icmp .eq 17, 3) := by decide +kernel
theorem dX7_fast_51 : decode cX7_fast 51 = .ok (.iload 4, 2) := by decide +kernel
theorem dX7_fast_53 : decode cX7_fast 53 = .ok (.i2l, 1) := by decide +kernel
theorem dX7_fast_54 : decode cX7_fast 54 = .ok (.invokestatic 182, 3) := by decide +kernel
theorem dX7_fast_57 : decode cX7_fast 57 = .ok (.iload_n 3, 1) := by decide +kernel
theorem dX7_fast_58 : decode cX7_fast 58 = .ok (.i2l, 1) := by decide +kernel
theorem dX7_fast_59 : decode cX7_fast 59 = .ok (.invokestatic 182, 3) := by decide +kernel
theorem dX7_fast_62 : decode cX7_fast 62 = .ok (.if_icmp .ge 7, 3) := by decide +kernel
theorem dX7_fast_65 : decode cX7_fast 65 = .ok (.iconst 1, 1) := by decide +kernel
theorem dX7_fast_66 : decode cX7_fast 66 = .ok (.goto 4, 3) := by decide +kernel
theorem dX7_fast_69 : decode cX7_fast 69 = .ok (.iconst 0, 1) := by decide +kernel
theorem dX7_fast_70 : decode cX7_fast 70 = .ok (.istore 5, 2) := by decide +kernel
theorem dX7_fast_72 : decode cX7_fast 72 = .ok (.iload 5, 2) := by decide +kernel
theorem dX7_fast_74 : decode cX7_fast 74 = .ok (.ifCond .eq 18, 3) := by decide +kernel
theorem dX7_fast_77 : decode cX7_fast 77 = .ok (.aload_n 0, 1) := by decide +kernel
theorem dX7_fast_78 : decode cX7_fast 78 = .ok (.iload_n 1, 1) := by decide +kernel
theorem dX7_fast_79 : decode cX7_fast 79 = .ok (.iload 4, 2) := by decide +kernel
theorem dX7_fast_81 : decode cX7_fast 81 = .ok (.invokevirtual 150, 3) := by decide +kernel
theorem dX7_fast_84 : decode cX7_fast 84 = .ok (.ifCond .ne 8, 3) := by decide +kernel
theorem dX7_fast_87 : decode cX7_fast 87 = .ok (.iload 4, 2) := by decide +kernel
theorem dX7_fast_89 : decode cX7_fast 89 = .ok (.goto 4, 3) := by decide +kernel
theorem dX7_fast_92 : decode cX7_fast 92 = .ok (.iload_n 3, 1) := by decide +kernel
theorem dX7_fast_93 : decode cX7_fast 93 = .ok (.istore_n 3, 1) := by decide +kernel
theorem dX7_fast_94 : decode cX7_fast 94 = .ok (.iinc 4 1, 3) := by decide +kernel
theorem dX7_fast_97 : decode cX7_fast 97 = .ok (.goto (-65), 3) := by decide +kernel
theorem dX7_fast_100 : decode cX7_fast 100 = .ok (.iload_n 2, 1) := by decide +kernel
theorem dX7_fast_101 : decode cX7_fast 101 = .ok (.ifCond .ne 11, 3) := by decide +kernel
theorem dX7_fast_104 : decode cX7_fast 104 = .ok (.iload_n 3, 1) := by decide +kernel
theorem dX7_fast_105 : decode cX7_fast 105 = .ok (.i2l, 1) := by decide +kernel
theorem dX7_fast_106 : decode cX7_fast 106 = .ok (.invokestatic 182, 3) := by decide +kernel
theorem dX7_fast_109 : decode cX7_fast 109 = .ok (.goto 4, 3) := by decide +kernel
theorem dX7_fast_112 : decode cX7_fast 112 = .ok (.iload_n 3, 1) := by decide +kernel
theorem dX7_fast_113 : decode cX7_fast 113 = .ok (.ireturn, 1) := by decide +kernel
theorem dX7_best_0 : decode cX7_best 0 = .ok (.aload_n 0, 1) := by decide +kernel
theorem dX7_best_1 : decode cX7_best 1 = .ok (.iload_n 1, 1) := by decide +kernel
theorem dX7_best_2 : decode cX7_best 2 = .ok (.invokevirtual 169, 3) := by decide +kernel
theorem dX7_best_5 : decode cX7_best 5 = .ok (.ifCond .eq 12, 3) := by decide +kernel
theorem dX7_best_8 : decode cX7_best 8 = .ok (.iload_n 2, 1) := by decide +kernel
theorem dX7_best_9 : decode cX7_best 9 = .ok (.iconst 0, 1) := by decide +kernel
theorem dX7_best_10 : decode cX7_best 10 = .ok (.iconst 1, 1) := by decide +kernel
theorem dX7_best_11 : decode cX7_best 11 = .ok (.invokestatic 47, 3) := by decide +kernel
theorem dX7_best_14 : decode cX7_best 14 = .ok (.ifCond .ne 9, 3) := by decide +kernel
theorem dX7_best_17 : decode cX7_best 17 = .ok (.aload_n 0, 1) := by decide +kernel
theorem dX7_best_18 : decode cX7_best 18 = .ok (.iconst 1, 1) := by decide +kernel
theorem dX7_best_19 : decode cX7_best 19 = .ok (.invokevirtual 51, 3) := by decide +kernel
theorem dX7_best_22 : decode cX7_best 22 = .ok (.ireturn, 1) := by decide +kernel
theorem dX7_best_23 : decode cX7_best 23 = .ok (.aload_n 0, 1) := by decide +kernel
theorem dX7_best_24 : decode cX7_best 24 = .ok (.iload_n 1, 1) := by decide +kernel
theorem dX7_best_25 : decode cX7_best 25 = .ok (.bipush 6, 2) := by decide +kernel
theorem dX7_best_27 : decode cX7_best 27 = .ok (.invokevirtual 111, 3) := by decide +kernel
theorem dX7_best_30 : decode cX7_best 30 = .ok (.istore_n 3, 1) := by decide +kernel
theorem dX7_best_31 : decode cX7_best 31 = .ok (.iconst (-1), 1) := by decide +kernel
theorem dX7_best_32 : decode cX7_best 32 = .ok (.istore 4, 2) := by decide +kernel
theorem dX7_best_34 : decode cX7_best 34 = .ok (.iconst 0, 1) := by decide +kernel
theorem dX7_best_35 : decode cX7_best 35 = .ok (.istore 5, 2) := by decide +kernel
theorem dX7_best_37 : decode cX7_best 37 = .ok (.iconst 0, 1) := by decide +kernel
theorem dX7_best_38 : decode cX7_best 38 = .ok (.istore 6, 2) := by decide +kernel
theorem dX7_best_40 : decode cX7_best 40 = .ok (.iload 6, 2) := by decide +kernel
theorem dX7_best_42 : decode cX7_best 42 = .ok (.bipush 48, 2) := by decide +kernel
theorem dX7_best_44 : decode cX7_best 44 = .ok (.if_icmp .ge 66, 3) := by decide +kernel
theorem dX7_best_47 : decode cX7_best 47 = .ok (.aload_n 0, 1) := by decide +kernel
theorem dX7_best_48 : decode cX7_best 48 = .ok (.iload_n 1, 1) := by decide +kernel
theorem dX7_best_49 : decode cX7_best 49 = .ok (.bipush 6, 2) := by decide +kernel
theorem dX7_best_51 : decode cX7_best 51 = .ok (.iload_n 3, 1) := by decide +kernel
theorem dX7_best_52 : decode cX7_best 52 = .ok (.invokevirtual 153, 3) := by decide +kernel
theorem dX7_best_55 : decode cX7_best 55 = .ok (.aload_n 0, 1) := by decide +kernel
theorem dX7_best_56 : decode cX7_best 56 = .ok (.iload_n 1, 1) := by decide +kernel
theorem dX7_best_57 : decode cX7_best 57 = .ok (.iload 6, 2) := by decide +kernel
theorem dX7_best_59 : decode cX7_best 59 = .ok (.invokevirtual 178, 3) := by decide +kernel
theorem dX7_best_62 : decode cX7_best 62 = .ok (.ifCond .eq 42, 3) := by decide +kernel
theorem dX7_best_65 : decode cX7_best 65 = .ok (.aload_n 0, 1) := by decide +kernel
theorem dX7_best_66 : decode cX7_best 66 = .ok (.iload_n 1, 1) := by decide +kernel
theorem dX7_best_67 : decode cX7_best 67 = .ok (.bipush 6, 2) := by decide +kernel
theorem dX7_best_69 : decode cX7_best 69 = .ok (.iload 6, 2) := by decide +kernel
theorem dX7_best_71 : decode cX7_best 71 = .ok (.invokevirtual 153, 3) := by decide +kernel
theorem dX7_best_74 : decode cX7_best 74 = .ok (.aload_n 0, 1) := by decide +kernel
theorem dX7_best_75 : decode cX7_best 75 = .ok (.invokevirtual 157, 3) := by decide +kernel
theorem dX7_best_78 : decode cX7_best 78 = .ok (.invokestatic 182, 3) := by decide +kernel
theorem dX7_best_81 : decode cX7_best 81 = .ok (.istore 7, 2) := by decide +kernel
theorem dX7_best_83 : decode cX7_best 83 = .ok (.iload 4, 2) := by decide +kernel
theorem dX7_best_85 : decode cX7_best 85 = .ok (.iconst (-1), 1) := by decide +kernel
theorem dX7_best_86 : decode cX7_best 86 = .ok (.if_icmp .eq 10, 3) := by decide +kernel
theorem dX7_best_89 : decode cX7_best 89 = .ok (.iload 7, 2) := by decide +kernel
theorem dX7_best_91 : decode cX7_best 91 = .ok (.iload 5, 2) := by decide +kernel
theorem dX7_best_93 : decode cX7_best 93 = .ok (.if_icmp .le 11, 3) := by decide +kernel
theorem dX7_best_96 : decode cX7_best 96 = .ok (.iload 6, 2) := by decide +kernel
theorem dX7_best_98 : decode cX7_best 98 = .ok (.istore 4, 2) := by decide +kernel
theorem dX7_best_100 : decode cX7_best 100 = .ok (.iload 7, 2) := by decide +kernel
theorem dX7_best_102 : decode cX7_best 102 = .ok (.istore 5, 2) := by decide +kernel
theorem dX7_best_104 : decode cX7_best 104 = .ok (.iinc 6 1, 3) := by decide +kernel
theorem dX7_best_107 : decode cX7_best 107 = .ok (.goto (-67), 3) := by decide +kernel
theorem dX7_best_110 : decode cX7_best 110 = .ok (.aload_n 0, 1) := by decide +kernel
theorem dX7_best_111 : decode cX7_best 111 = .ok (.iload_n 1, 1) := by decide +kernel
theorem dX7_best_112 : decode cX7_best 112 = .ok (.bipush 6, 2) := by decide +kernel
theorem dX7_best_114 : decode cX7_best 114 = .ok (.iload_n 3, 1) := by decide +kernel
theorem dX7_best_115 : decode cX7_best 115 = .ok (.invokevirtual 153, 3) := by decide +kernel
theorem dX7_best_118 : decode cX7_best 118 = .ok (.iload 4, 2) := by decide +kernel
theorem dX7_best_120 : decode cX7_best 120 = .ok (.iconst (-1), 1) := by decide +kernel
theorem dX7_best_121 : decode cX7_best 121 = .ok (.if_icmp .ne 9, 3) := by decide +kernel
theorem dX7_best_124 : decode cX7_best 124 = .ok (.aload_n 0, 1) := by decide +kernel
theorem dX7_best_125 : decode cX7_best 125 = .ok (.iconst 2, 1) := by decide +kernel
theorem dX7_best_126 : decode cX7_best 126 = .ok (.invokevirtual 51, 3) := by decide +kernel
theorem dX7_best_129 : decode cX7_best 129 = .ok (.ireturn, 1) := by decide +kernel
theorem dX7_best_130 : decode cX7_best 130 = .ok (.iload_n 2, 1) := by decide +kernel
theorem dX7_best_131 : decode cX7_best 131 = .ok (.ifCond .ne 8, 3) := by decide +kernel
theorem dX7_best_134 : decode cX7_best 134 = .ok (.iload 4, 2) := by decide +kernel
theorem dX7_best_136 : decode cX7_best 136 = .ok (.goto 5, 3) := by decide +kernel
theorem dX7_best_139 : decode cX7_best 139 = .ok (.iload 5, 2) := by decide +kernel
theorem dX7_best_141 : decode cX7_best 141 = .ok (.ireturn, 1) := by decide +kernel
theorem dX7_isBeside_0 : decode cX7_isBeside 0 = .ok (.aload_n 0, 1) := by decide +kernel
theorem dX7_isBeside_1 : decode cX7_isBeside 1 = .ok (.iload_n 1, 1) := by decide +kernel
theorem dX7_isBeside_2 : decode cX7_isBeside 2 = .ok (.bipush 6, 2) := by decide +kernel
theorem dX7_isBeside_4 : decode cX7_isBeside 4 = .ok (.invokevirtual 111, 3) := by decide +kernel
theorem dX7_isBeside_7 : decode cX7_isBeside 7 = .ok (.istore_n 3, 1) := by decide +kernel
theorem dX7_isBeside_8 : decode cX7_isBeside 8 = .ok (.aload_n 0, 1) := by decide +kernel
theorem dX7_isBeside_9 : decode cX7_isBeside 9 = .ok (.iload_n 2, 1) := by decide +kernel
theorem dX7_isBeside_10 : decode cX7_isBeside 10 = .ok (.bipush 6, 2) := by decide +kernel
theorem dX7_isBeside_12 : decode cX7_isBeside 12 = .ok (.invokevirtual 111, 3) := by decide +kernel
theorem dX7_isBeside_15 : decode cX7_isBeside 15 = .ok (.istore 4, 2) := by decide +kernel
theorem dX7_isBeside_17 : decode cX7_isBeside 17 = .ok (.iload_n 3, 1) := by decide +kernel
theorem dX7_isBeside_18 : decode cX7_isBeside 18 = .ok (.iconst (-1), 1) := by decide +kernel
theorem dX7_isBeside_19 : decode cX7_isBeside 19 = .ok (.if_icmp .eq 37, 3) := by decide +kernel
theorem dX7_isBeside_22 : decode cX7_isBeside 22 = .ok (.iload 4, 2) := by decide +kernel
theorem dX7_isBeside_24 : decode cX7_isBeside 24 = .ok (.iconst (-1), 1) := by decide +kernel
theorem dX7_isBeside_25 : decode cX7_isBeside 25 = .ok (.if_icmp .eq 31, 3) := by decide +kernel
theorem dX7_isBeside_28 : decode cX7_isBeside 28 = .ok (.iload_n 3, 1) := by decide +kernel
theorem dX7_isBeside_29 : decode cX7_isBeside 29 = .ok (.bipush 8, 2) := by decide +kernel
theorem dX7_isBeside_31 : decode cX7_isBeside 31 = .ok (.idiv, 1) := by decide +kernel
theorem dX7_isBeside_32 : decode cX7_isBeside 32 = .ok (.iload 4, 2) := by decide +kernel
theorem dX7_isBeside_34 : decode cX7_isBeside 34 = .ok (.bipush 8, 2) := by decide +kernel
theorem dX7_isBeside_36 : decode cX7_isBeside 36 = .ok (.idiv, 1) := by decide +kernel
theorem dX7_isBeside_37 : decode cX7_isBeside 37 = .ok (.if_icmp .ne 19, 3) := by decide +kernel
theorem dX7_isBeside_40 : decode cX7_isBeside 40 = .ok (.iload_n 3, 1) := by decide +kernel
theorem dX7_isBeside_41 : decode cX7_isBeside 41 = .ok (.iload 4, 2) := by decide +kernel
theorem dX7_isBeside_43 : decode cX7_isBeside 43 = .ok (.aload_n 0, 1) := by decide +kernel
theorem dX7_isBeside_44 : decode cX7_isBeside 44 = .ok (.iload_n 2, 1) := by decide +kernel
theorem dX7_isBeside_45 : decode cX7_isBeside 45 = .ok (.invokevirtual 127, 3) := by decide +kernel
theorem dX7_isBeside_48 : decode cX7_isBeside 48 = .ok (.iadd, 1) := by decide +kernel
theorem dX7_isBeside_49 : decode cX7_isBeside 49 = .ok (.if_icmp .ne 7, 3) := by decide +kernel
theorem dX7_isBeside_52 : decode cX7_isBeside 52 = .ok (.iconst 1, 1) := by decide +kernel
theorem dX7_isBeside_53 : decode cX7_isBeside 53 = .ok (.goto 4, 3) := by decide +kernel
theorem dX7_isBeside_56 : decode cX7_isBeside 56 = .ok (.iconst 0, 1) := by decide +kernel
theorem dX7_isBeside_57 : decode cX7_isBeside 57 = .ok (.ireturn, 1) := by decide +kernel
theorem dX7_rings_0 : decode cX7_rings 0 = .ok (.iconst 0, 1) := by decide +kernel
theorem dX7_rings_1 : decode cX7_rings 1 = .ok (.istore_n 1, 1) := by decide +kernel
theorem dX7_rings_2 : decode cX7_rings 2 = .ok (.iconst 0, 1) := by decide +kernel
theorem dX7_rings_3 : decode cX7_rings 3 = .ok (.istore_n 2, 1) := by decide +kernel
theorem dX7_rings_4 : decode cX7_rings 4 = .ok (.iload_n 2, 1) := by decide +kernel
theorem dX7_rings_5 : decode cX7_rings 5 = .ok (.aload_n 0, 1) := by decide +kernel
theorem dX7_rings_6 : decode cX7_rings 6 = .ok (.getfield 7, 3) := by decide +kernel
theorem dX7_rings_9 : decode cX7_rings 9 = .ok (.bipush 6, 2) := by decide +kernel
theorem dX7_rings_11 : decode cX7_rings 11 = .ok (.iaload, 1) := by decide +kernel
theorem dX7_rings_12 : decode cX7_rings 12 = .ok (.if_icmp .ge 80, 3) := by decide +kernel
theorem dX7_rings_15 : decode cX7_rings 15 = .ok (.iconst 0, 1) := by decide +kernel
theorem dX7_rings_16 : decode cX7_rings 16 = .ok (.istore_n 3, 1) := by decide +kernel
theorem dX7_rings_17 : decode cX7_rings 17 = .ok (.iload_n 3, 1) := by decide +kernel
theorem dX7_rings_18 : decode cX7_rings 18 = .ok (.iload_n 2, 1) := by decide +kernel
theorem dX7_rings_19 : decode cX7_rings 19 = .ok (.if_icmp .ge 67, 3) := by decide +kernel
theorem dX7_rings_22 : decode cX7_rings 22 = .ok (.aload_n 0, 1) := by decide +kernel
theorem dX7_rings_23 : decode cX7_rings 23 = .ok (.iload_n 2, 1) := by decide +kernel
theorem dX7_rings_24 : decode cX7_rings 24 = .ok (.iconst 4, 1) := by decide +kernel
theorem dX7_rings_25 : decode cX7_rings 25 = .ok (.invokevirtual 111, 3) := by decide +kernel
theorem dX7_rings_28 : decode cX7_rings 28 = .ok (.iload_n 3, 1) := by decide +kernel
theorem dX7_rings_29 : decode cX7_rings 29 = .ok (.if_icmp .eq 13, 3) := by decide +kernel
theorem dX7_rings_32 : decode cX7_rings 32 = .ok (.aload_n 0, 1) := by decide +kernel
theorem dX7_rings_33 : decode cX7_rings 33 = .ok (.iload_n 3, 1) := by decide +kernel
theorem dX7_rings_34 : decode cX7_rings 34 = .ok (.iconst 4, 1) := by decide +kernel
theorem dX7_rings_35 : decode cX7_rings 35 = .ok (.invokevirtual 111, 3) := by decide +kernel
theorem dX7_rings_38 : decode cX7_rings 38 = .ok (.iload_n 2, 1) := by decide +kernel
theorem dX7_rings_39 : decode cX7_rings 39 = .ok (.if_icmp .ne 7, 3) := by decide +kernel
theorem dX7_rings_42 : decode cX7_rings 42 = .ok (.iconst 1, 1) := by decide +kernel
theorem dX7_rings_43 : decode cX7_rings 43 = .ok (.goto 4, 3) := by decide +kernel
theorem dX7_rings_46 : decode cX7_rings 46 = .ok (.iconst 0, 1) := by decide +kernel
theorem dX7_rings_47 : decode cX7_rings 47 = .ok (.istore 4, 2) := by decide +kernel
theorem dX7_rings_49 : decode cX7_rings 49 = .ok (.iload_n 1, 1) := by decide +kernel
theorem dX7_rings_50 : decode cX7_rings 50 = .ok (.iload 4, 2) := by decide +kernel
theorem dX7_rings_52 : decode cX7_rings 52 = .ok (.ifCond .ne 25, 3) := by decide +kernel
theorem dX7_rings_55 : decode cX7_rings 55 = .ok (.aload_n 0, 1) := by decide +kernel
theorem dX7_rings_56 : decode cX7_rings 56 = .ok (.iload_n 2, 1) := by decide +kernel
theorem dX7_rings_57 : decode cX7_rings 57 = .ok (.iload_n 3, 1) := by decide +kernel
theorem dX7_rings_58 : decode cX7_rings 58 = .ok (.invokevirtual 208, 3) := by decide +kernel
theorem dX7_rings_61 : decode cX7_rings 61 = .ok (.ifCond .ne 12, 3) := by decide +kernel
theorem dX7_rings_64 : decode cX7_rings 64 = .ok (.aload_n 0, 1) := by decide +kernel
theorem dX7_rings_65 : decode cX7_rings 65 = .ok (.iload_n 3, 1) := by decide +kernel
theorem dX7_rings_66 : decode cX7_rings 66 = .ok (.iload_n 2, 1) := by decide +kernel
theorem dX7_rings_67 : decode cX7_rings 67 = .ok (.invokevirtual 208, 3) := by decide +kernel
theorem dX7_rings_70 : decode cX7_rings 70 = .ok (.ifCond .eq 7, 3) := by decide +kernel
theorem dX7_rings_73 : decode cX7_rings 73 = .ok (.iconst 1, 1) := by decide +kernel
theorem dX7_rings_74 : decode cX7_rings 74 = .ok (.goto 4, 3) := by decide +kernel
theorem dX7_rings_77 : decode cX7_rings 77 = .ok (.iconst 0, 1) := by decide +kernel
theorem dX7_rings_78 : decode cX7_rings 78 = .ok (.iadd, 1) := by decide +kernel
theorem dX7_rings_79 : decode cX7_rings 79 = .ok (.istore_n 1, 1) := by decide +kernel
theorem dX7_rings_80 : decode cX7_rings 80 = .ok (.iinc 3 1, 3) := by decide +kernel
theorem dX7_rings_83 : decode cX7_rings 83 = .ok (.goto (-66), 3) := by decide +kernel
theorem dX7_rings_86 : decode cX7_rings 86 = .ok (.iinc 2 1, 3) := by decide +kernel
theorem dX7_rings_89 : decode cX7_rings 89 = .ok (.goto (-85), 3) := by decide +kernel
theorem dX7_rings_92 : decode cX7_rings 92 = .ok (.iload_n 1, 1) := by decide +kernel
theorem dX7_rings_93 : decode cX7_rings 93 = .ok (.ireturn, 1) := by decide +kernel
theorem dX7_divisor_0 : decode cX7_divisor 0 = .ok (.iload_n 0, 1) := by decide +kernel
theorem dX7_divisor_1 : decode cX7_divisor 1 = .ok (.istore_n 2, 1) := by decide +kernel
theorem dX7_divisor_2 : decode cX7_divisor 2 = .ok (.iload_n 1, 1) := by decide +kernel
theorem dX7_divisor_3 : decode cX7_divisor 3 = .ok (.istore_n 3, 1) := by decide +kernel
theorem dX7_divisor_4 : decode cX7_divisor 4 = .ok (.iload_n 3, 1) := by decide +kernel
theorem dX7_divisor_5 : decode cX7_divisor 5 = .ok (.ifCond .eq 16, 3) := by decide +kernel
theorem dX7_divisor_8 : decode cX7_divisor 8 = .ok (.iload_n 2, 1) := by decide +kernel
theorem dX7_divisor_9 : decode cX7_divisor 9 = .ok (.iload_n 3, 1) := by decide +kernel
theorem dX7_divisor_10 : decode cX7_divisor 10 = .ok (.irem, 1) := by decide +kernel
theorem dX7_divisor_11 : decode cX7_divisor 11 = .ok (.istore 4, 2) := by decide +kernel
theorem dX7_divisor_13 : decode cX7_divisor 13 = .ok (.iload_n 3, 1) := by decide +kernel
theorem dX7_divisor_14 : decode cX7_divisor 14 = .ok (.istore_n 2, 1) := by decide +kernel
theorem dX7_divisor_15 : decode cX7_divisor 15 = .ok (.iload 4, 2) := by decide +kernel
theorem dX7_divisor_17 : decode cX7_divisor 17 = .ok (.istore_n 3, 1) := by decide +kernel
theorem dX7_divisor_18 : decode cX7_divisor 18 = .ok (.goto (-14), 3) := by decide +kernel
theorem dX7_divisor_21 : decode cX7_divisor 21 = .ok (.iload_n 2, 1) := by decide +kernel
theorem dX7_divisor_22 : decode cX7_divisor 22 = .ok (.ireturn, 1) := by decide +kernel
theorem dX7_odds_0 : decode cX7_odds 0 = .ok (.iload_n 1, 1) := by decide +kernel
theorem dX7_odds_1 : decode cX7_odds 1 = .ok (.iconst 0, 1) := by decide +kernel
theorem dX7_odds_2 : decode cX7_odds 2 = .ok (.bipush 47, 2) := by decide +kernel
theorem dX7_odds_4 : decode cX7_odds 4 = .ok (.invokestatic 47, 3) := by decide +kernel
theorem dX7_odds_7 : decode cX7_odds 7 = .ok (.ifCond .eq 12, 3) := by decide +kernel
theorem dX7_odds_10 : decode cX7_odds 10 = .ok (.iload_n 2, 1) := by decide +kernel
theorem dX7_odds_11 : decode cX7_odds 11 = .ok (.iconst 0, 1) := by decide +kernel
theorem dX7_odds_12 : decode cX7_odds 12 = .ok (.iconst 1, 1) := by decide +kernel
theorem dX7_odds_13 : decode cX7_odds 13 = .ok (.invokestatic 47, 3) := by decide +kernel
theorem dX7_odds_16 : decode cX7_odds 16 = .ok (.ifCond .ne 9, 3) := by decide +kernel
theorem dX7_odds_19 : decode cX7_odds 19 = .ok (.aload_n 0, 1) := by decide +kernel
theorem dX7_odds_20 : decode cX7_odds 20 = .ok (.iconst 1, 1) := by decide +kernel
theorem dX7_odds_21 : decode cX7_odds 21 = .ok (.invokevirtual 51, 3) := by decide +kernel
theorem dX7_odds_24 : decode cX7_odds 24 = .ok (.ireturn, 1) := by decide +kernel
theorem dX7_odds_25 : decode cX7_odds 25 = .ok (.iconst 0, 1) := by decide +kernel
theorem dX7_odds_26 : decode cX7_odds 26 = .ok (.istore_n 3, 1) := by decide +kernel
theorem dX7_odds_27 : decode cX7_odds 27 = .ok (.iconst 0, 1) := by decide +kernel
theorem dX7_odds_28 : decode cX7_odds 28 = .ok (.istore 4, 2) := by decide +kernel
theorem dX7_odds_30 : decode cX7_odds 30 = .ok (.iload 4, 2) := by decide +kernel
theorem dX7_odds_32 : decode cX7_odds 32 = .ok (.bipush 40, 2) := by decide +kernel
theorem dX7_odds_34 : decode cX7_odds 34 = .ok (.if_icmp .ge 32, 3) := by decide +kernel
theorem dX7_odds_37 : decode cX7_odds 37 = .ok (.iload_n 3, 1) := by decide +kernel
theorem dX7_odds_38 : decode cX7_odds 38 = .ok (.aload_n 0, 1) := by decide +kernel
theorem dX7_odds_39 : decode cX7_odds 39 = .ok (.iload 4, 2) := by decide +kernel
theorem dX7_odds_41 : decode cX7_odds 41 = .ok (.invokevirtual 205, 3) := by decide +kernel
theorem dX7_odds_44 : decode cX7_odds 44 = .ok (.iload_n 1, 1) := by decide +kernel
theorem dX7_odds_45 : decode cX7_odds 45 = .ok (.lushr, 1) := by decide +kernel
theorem dX7_odds_46 : decode cX7_odds 46 = .ok (.lconst 1, 1) := by decide +kernel
theorem dX7_odds_47 : decode cX7_odds 47 = .ok (.land, 1) := by decide +kernel
theorem dX7_odds_48 : decode cX7_odds 48 = .ok (.lconst 1, 1) := by decide +kernel
theorem dX7_odds_49 : decode cX7_odds 49 = .ok (.lcmp, 1) := by decide +kernel
theorem dX7_odds_50 : decode cX7_odds 50 = .ok (.ifCond .ne 7, 3) := by decide +kernel
theorem dX7_odds_53 : decode cX7_odds 53 = .ok (.iconst 1, 1) := by decide +kernel
theorem dX7_odds_54 : decode cX7_odds 54 = .ok (.goto 4, 3) := by decide +kernel
theorem dX7_odds_57 : decode cX7_odds 57 = .ok (.iconst 0, 1) := by decide +kernel
theorem dX7_odds_58 : decode cX7_odds 58 = .ok (.iadd, 1) := by decide +kernel
