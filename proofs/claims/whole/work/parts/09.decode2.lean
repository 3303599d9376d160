theorem dX11_best_126 : decode cX11_best 126 = .ok (.aload_n 0, 1) := by decide +kernel
theorem dX11_best_127 : decode cX11_best 127 = .ok (.getfield 48, 3) := by decide +kernel
theorem dX11_best_130 : decode cX11_best 130 = .ok (.getfield 185, 3) := by decide +kernel
theorem dX11_best_133 : decode cX11_best 133 = .ok (.istore 8, 2) := by decide +kernel
theorem dX11_best_135 : decode cX11_best 135 = .ok (.iload 8, 2) := by decide +kernel
theorem dX11_best_137 : decode cX11_best 137 = .ok (.iload_n 2, 1) := by decide +kernel
theorem dX11_best_138 : decode cX11_best 138 = .ok (.if_icmp .lt 14, 3) := by decide +kernel
theorem dX11_best_141 : decode cX11_best 141 = .ok (.aload_n 0, 1) := by decide +kernel
theorem dX11_best_142 : decode cX11_best 142 = .ok (.getfield 48, 3) := by decide +kernel
theorem dX11_best_145 : decode cX11_best 145 = .ok (.getfield 173, 3) := by decide +kernel
theorem dX11_best_148 : decode cX11_best 148 = .ok (.iload_n 3, 1) := by decide +kernel
theorem dX11_best_149 : decode cX11_best 149 = .ok (.if_icmp .le 20, 3) := by decide +kernel
theorem dX11_best_152 : decode cX11_best 152 = .ok (.iload 8, 2) := by decide +kernel
theorem dX11_best_154 : decode cX11_best 154 = .ok (.istore_n 2, 1) := by decide +kernel
theorem dX11_best_155 : decode cX11_best 155 = .ok (.aload_n 0, 1) := by decide +kernel
theorem dX11_best_156 : decode cX11_best 156 = .ok (.getfield 48, 3) := by decide +kernel
theorem dX11_best_159 : decode cX11_best 159 = .ok (.getfield 173, 3) := by decide +kernel
theorem dX11_best_162 : decode cX11_best 162 = .ok (.istore_n 3, 1) := by decide +kernel
theorem dX11_best_163 : decode cX11_best 163 = .ok (.aload_n 0, 1) := by decide +kernel
theorem dX11_best_164 : decode cX11_best 164 = .ok (.invokevirtual 230, 3) := by decide +kernel
theorem dX11_best_167 : decode cX11_best 167 = .ok (.istore 4, 2) := by decide +kernel
theorem dX11_best_169 : decode cX11_best 169 = .ok (.aload_n 0, 1) := by decide +kernel
theorem dX11_best_170 : decode cX11_best 170 = .ok (.invokevirtual 233, 3) := by decide +kernel
theorem dX11_best_173 : decode cX11_best 173 = .ok (.istore 5, 2) := by decide +kernel
theorem dX11_best_175 : decode cX11_best 175 = .ok (.iinc 6 1, 3) := by decide +kernel
theorem dX11_best_178 : decode cX11_best 178 = .ok (.goto (-148), 3) := by decide +kernel
theorem dX11_best_181 : decode cX11_best 181 = .ok (.iload_n 1, 1) := by decide +kernel
theorem dX11_best_182 : decode cX11_best 182 = .ok (.ifCond .ne 15, 3) := by decide +kernel
theorem dX11_best_185 : decode cX11_best 185 = .ok (.iload_n 2, 1) := by decide +kernel
theorem dX11_best_186 : decode cX11_best 186 = .ok (.ldc 220, 2) := by decide +kernel
theorem dX11_best_188 : decode cX11_best 188 = .ok (.if_icmp .ne 7, 3) := by decide +kernel
theorem dX11_best_191 : decode cX11_best 191 = .ok (.iconst (-1), 1) := by decide +kernel
theorem dX11_best_192 : decode cX11_best 192 = .ok (.goto 4, 3) := by decide +kernel
theorem dX11_best_195 : decode cX11_best 195 = .ok (.iload_n 2, 1) := by decide +kernel
theorem dX11_best_196 : decode cX11_best 196 = .ok (.ireturn, 1) := by decide +kernel
theorem dX11_best_197 : decode cX11_best 197 = .ok (.iload_n 1, 1) := by decide +kernel
theorem dX11_best_198 : decode cX11_best 198 = .ok (.iconst 1, 1) := by decide +kernel
theorem dX11_best_199 : decode cX11_best 199 = .ok (.if_icmp .ne 7, 3) := by decide +kernel
theorem dX11_best_202 : decode cX11_best 202 = .ok (.iload_n 3, 1) := by decide +kernel
theorem dX11_best_203 : decode cX11_best 203 = .ok (.goto 5, 3) := by decide +kernel
theorem dX11_best_206 : decode cX11_best 206 = .ok (.iload 4, 2) := by decide +kernel
theorem dX11_best_208 : decode cX11_best 208 = .ok (.ireturn, 1) := by decide +kernel
theorem dX11_start_0 : decode cX11_start 0 = .ok (.aload_n 0, 1) := by decide +kernel
theorem dX11_start_1 : decode cX11_start 1 = .ok (.iload_n 1, 1) := by decide +kernel
theorem dX11_start_2 : decode cX11_start 2 = .ok (.invokevirtual 135, 3) := by decide +kernel
theorem dX11_start_5 : decode cX11_start 5 = .ok (.astore_n 3, 1) := by decide +kernel
theorem dX11_start_6 : decode cX11_start 6 = .ok (.aload_n 3, 1) := by decide +kernel
theorem dX11_start_7 : decode cX11_start 7 = .ok (.ifnonnull 6, 3) := by decide +kernel
theorem dX11_start_10 : decode cX11_start 10 = .ok (.bipush (-5), 2) := by decide +kernel
theorem dX11_start_12 : decode cX11_start 12 = .ok (.ireturn, 1) := by decide +kernel
theorem dX11_start_13 : decode cX11_start 13 = .ok (.iload_n 2, 1) := by decide +kernel
theorem dX11_start_14 : decode cX11_start 14 = .ok (.ifCond .lt 8, 3) := by decide +kernel
theorem dX11_start_17 : decode cX11_start 17 = .ok (.iload_n 2, 1) := by decide +kernel
theorem dX11_start_18 : decode cX11_start 18 = .ok (.iconst 1, 1) := by decide +kernel
theorem dX11_start_19 : decode cX11_start 19 = .ok (.if_icmp .le 6, 3) := by decide +kernel
theorem dX11_start_22 : decode cX11_start 22 = .ok (.bipush (-7), 2) := by decide +kernel
theorem dX11_start_24 : decode cX11_start 24 = .ok (.ireturn, 1) := by decide +kernel
theorem dX11_start_25 : decode cX11_start 25 = .ok (.iconst (-1), 1) := by decide +kernel
theorem dX11_start_26 : decode cX11_start 26 = .ok (.istore 4, 2) := by decide +kernel
theorem dX11_start_28 : decode cX11_start 28 = .ok (.iconst (-1), 1) := by decide +kernel
theorem dX11_start_29 : decode cX11_start 29 = .ok (.istore 5, 2) := by decide +kernel
theorem dX11_start_31 : decode cX11_start 31 = .ok (.iconst 0, 1) := by decide +kernel
theorem dX11_start_32 : decode cX11_start 32 = .ok (.istore 6, 2) := by decide +kernel
theorem dX11_start_34 : decode cX11_start 34 = .ok (.iload 6, 2) := by decide +kernel
theorem dX11_start_36 : decode cX11_start 36 = .ok (.bipush 9, 2) := by decide +kernel
theorem dX11_start_38 : decode cX11_start 38 = .ok (.if_icmp .ge 54, 3) := by decide +kernel
theorem dX11_start_41 : decode cX11_start 41 = .ok (.aload_n 0, 1) := by decide +kernel
theorem dX11_start_42 : decode cX11_start 42 = .ok (.invokevirtual 167, 3) := by decide +kernel
theorem dX11_start_45 : decode cX11_start 45 = .ok (.aload_n 3, 1) := by decide +kernel
theorem dX11_start_46 : decode cX11_start 46 = .ok (.iload 6, 2) := by decide +kernel
theorem dX11_start_48 : decode cX11_start 48 = .ok (.putfield 188, 3) := by decide +kernel
theorem dX11_start_51 : decode cX11_start 51 = .ok (.aload_n 0, 1) := by decide +kernel
theorem dX11_start_52 : decode cX11_start 52 = .ok (.getfield 48, 3) := by decide +kernel
theorem dX11_start_55 : decode cX11_start 55 = .ok (.sipush 600, 3) := by decide +kernel
theorem dX11_start_58 : decode cX11_start 58 = .ok (.invokevirtual 170, 3) := by decide +kernel
theorem dX11_start_61 : decode cX11_start 61 = .ok (.aload_n 0, 1) := by decide +kernel
theorem dX11_start_62 : decode cX11_start 62 = .ok (.getfield 48, 3) := by decide +kernel
theorem dX11_start_65 : decode cX11_start 65 = .ok (.getfield 173, 3) := by decide +kernel
theorem dX11_start_68 : decode cX11_start 68 = .ok (.iload 5, 2) := by decide +kernel
theorem dX11_start_70 : decode cX11_start 70 = .ok (.if_icmp .le 16, 3) := by decide +kernel
theorem dX11_start_73 : decode cX11_start 73 = .ok (.iload 6, 2) := by decide +kernel
theorem dX11_start_75 : decode cX11_start 75 = .ok (.istore 4, 2) := by decide +kernel
theorem dX11_start_77 : decode cX11_start 77 = .ok (.aload_n 0, 1) := by decide +kernel
theorem dX11_start_78 : decode cX11_start 78 = .ok (.getfield 48, 3) := by decide +kernel
theorem dX11_start_81 : decode cX11_start 81 = .ok (.getfield 173, 3) := by decide +kernel
theorem dX11_start_84 : decode cX11_start 84 = .ok (.istore 5, 2) := by decide +kernel
theorem dX11_start_86 : decode cX11_start 86 = .ok (.iinc 6 1, 3) := by decide +kernel
theorem dX11_start_89 : decode cX11_start 89 = .ok (.goto (-55), 3) := by decide +kernel
theorem dX11_start_92 : decode cX11_start 92 = .ok (.iload_n 2, 1) := by decide +kernel
theorem dX11_start_93 : decode cX11_start 93 = .ok (.ifCond .ne 8, 3) := by decide +kernel
theorem dX11_start_96 : decode cX11_start 96 = .ok (.iload 4, 2) := by decide +kernel
theorem dX11_start_98 : decode cX11_start 98 = .ok (.goto 5, 3) := by decide +kernel
theorem dX11_start_101 : decode cX11_start 101 = .ok (.iload 5, 2) := by decide +kernel
theorem dX11_start_103 : decode cX11_start 103 = .ok (.ireturn, 1) := by decide +kernel
theorem dX11_sit_0 : decode cX11_sit 0 = .ok (.iload_n 1, 1) := by decide +kernel
theorem dX11_sit_1 : decode cX11_sit 1 = .ok (.ifCond .lt 8, 3) := by decide +kernel
theorem dX11_sit_4 : decode cX11_sit 4 = .ok (.iload_n 1, 1) := by decide +kernel
theorem dX11_sit_5 : decode cX11_sit 5 = .ok (.iconst 1, 1) := by decide +kernel
theorem dX11_sit_6 : decode cX11_sit 6 = .ok (.if_icmp .le 6, 3) := by decide +kernel
theorem dX11_sit_9 : decode cX11_sit 9 = .ok (.bipush (-2), 2) := by decide +kernel
theorem dX11_sit_11 : decode cX11_sit 11 = .ok (.ireturn, 1) := by decide +kernel
theorem dX11_sit_12 : decode cX11_sit 12 = .ok (.iconst (-1), 1) := by decide +kernel
theorem dX11_sit_13 : decode cX11_sit 13 = .ok (.istore_n 2, 1) := by decide +kernel
theorem dX11_sit_14 : decode cX11_sit 14 = .ok (.iconst (-1), 1) := by decide +kernel
theorem dX11_sit_15 : decode cX11_sit 15 = .ok (.istore_n 3, 1) := by decide +kernel
theorem dX11_sit_16 : decode cX11_sit 16 = .ok (.iconst 0, 1) := by decide +kernel
theorem dX11_sit_17 : decode cX11_sit 17 = .ok (.istore 4, 2) := by decide +kernel
theorem dX11_sit_19 : decode cX11_sit 19 = .ok (.iload 4, 2) := by decide +kernel
theorem dX11_sit_21 : decode cX11_sit 21 = .ok (.aload_n 0, 1) := by decide +kernel
theorem dX11_sit_22 : decode cX11_sit 22 = .ok (.getfield 94, 3) := by decide +kernel
theorem dX11_sit_25 : decode cX11_sit 25 = .ok (.if_icmp .ge 47, 3) := by decide +kernel
theorem dX11_sit_28 : decode cX11_sit 28 = .ok (.aload_n 0, 1) := by decide +kernel
theorem dX11_sit_29 : decode cX11_sit 29 = .ok (.iload 4, 2) := by decide +kernel
theorem dX11_sit_31 : decode cX11_sit 31 = .ok (.invokevirtual 236, 3) := by decide +kernel
theorem dX11_sit_34 : decode cX11_sit 34 = .ok (.aload_n 0, 1) := by decide +kernel
theorem dX11_sit_35 : decode cX11_sit 35 = .ok (.getfield 48, 3) := by decide +kernel
theorem dX11_sit_38 : decode cX11_sit 38 = .ok (.sipush 600, 3) := by decide +kernel
theorem dX11_sit_41 : decode cX11_sit 41 = .ok (.invokevirtual 170, 3) := by decide +kernel
theorem dX11_sit_44 : decode cX11_sit 44 = .ok (.aload_n 0, 1) := by decide +kernel
theorem dX11_sit_45 : decode cX11_sit 45 = .ok (.getfield 48, 3) := by decide +kernel
theorem dX11_sit_48 : decode cX11_sit 48 = .ok (.getfield 173, 3) := by decide +kernel
theorem dX11_sit_51 : decode cX11_sit 51 = .ok (.iload_n 3, 1) := by decide +kernel
theorem dX11_sit_52 : decode cX11_sit 52 = .ok (.if_icmp .le 14, 3) := by decide +kernel
theorem dX11_sit_55 : decode cX11_sit 55 = .ok (.iload 4, 2) := by decide +kernel
theorem dX11_sit_57 : decode cX11_sit 57 = .ok (.istore_n 2, 1) := by decide +kernel
theorem dX11_sit_58 : decode cX11_sit 58 = .ok (.aload_n 0, 1) := by decide +kernel
theorem dX11_sit_59 : decode cX11_sit 59 = .ok (.getfield 48, 3) := by decide +kernel
theorem dX11_sit_62 : decode cX11_sit 62 = .ok (.getfield 173, 3) := by decide +kernel
theorem dX11_sit_65 : decode cX11_sit 65 = .ok (.istore_n 3, 1) := by decide +kernel
theorem dX11_sit_66 : decode cX11_sit 66 = .ok (.iinc 4 1, 3) := by decide +kernel
theorem dX11_sit_69 : decode cX11_sit 69 = .ok (.goto (-50), 3) := by decide +kernel
theorem dX11_sit_72 : decode cX11_sit 72 = .ok (.iload_n 1, 1) := by decide +kernel
theorem dX11_sit_73 : decode cX11_sit 73 = .ok (.ifCond .ne 7, 3) := by decide +kernel
theorem dX11_sit_76 : decode cX11_sit 76 = .ok (.iload_n 2, 1) := by decide +kernel
theorem dX11_sit_77 : decode cX11_sit 77 = .ok (.goto 4, 3) := by decide +kernel
theorem dX11_sit_80 : decode cX11_sit 80 = .ok (.iload_n 3, 1) := by decide +kernel
theorem dX11_sit_81 : decode cX11_sit 81 = .ok (.ireturn, 1) := by decide +kernel
theorem dX11_worth_0 : decode cX11_worth 0 = .ok (.aload_n 0, 1) := by decide +kernel
theorem dX11_worth_1 : decode cX11_worth 1 = .ok (.iload_n 1, 1) := by decide +kernel
theorem dX11_worth_2 : decode cX11_worth 2 = .ok (.invokevirtual 135, 3) := by decide +kernel
theorem dX11_worth_5 : decode cX11_worth 5 = .ok (.ifnonnull 7, 3) := by decide +kernel
theorem dX11_worth_8 : decode cX11_worth 8 = .ok (.sipush (-1000), 3) := by decide +kernel
theorem dX11_worth_11 : decode cX11_worth 11 = .ok (.ireturn, 1) := by decide +kernel
theorem dX11_worth_12 : decode cX11_worth 12 = .ok (.aload_n 0, 1) := by decide +kernel
theorem dX11_worth_13 : decode cX11_worth 13 = .ok (.invokevirtual 167, 3) := by decide +kernel
theorem dX11_worth_16 : decode cX11_worth 16 = .ok (.aload_n 0, 1) := by decide +kernel
theorem dX11_worth_17 : decode cX11_worth 17 = .ok (.getfield 48, 3) := by decide +kernel
theorem dX11_worth_20 : decode cX11_worth 20 = .ok (.sipush 600, 3) := by decide +kernel
theorem dX11_worth_23 : decode cX11_worth 23 = .ok (.invokevirtual 170, 3) := by decide +kernel
theorem dX11_worth_26 : decode cX11_worth 26 = .ok (.aload_n 0, 1) := by decide +kernel
theorem dX11_worth_27 : decode cX11_worth 27 = .ok (.getfield 48, 3) := by decide +kernel
theorem dX11_worth_30 : decode cX11_worth 30 = .ok (.getfield 173, 3) := by decide +kernel
theorem dX11_worth_33 : decode cX11_worth 33 = .ok (.istore_n 2, 1) := by decide +kernel
theorem dX11_worth_34 : decode cX11_worth 34 = .ok (.aload_n 0, 1) := by decide +kernel
theorem dX11_worth_35 : decode cX11_worth 35 = .ok (.iload_n 1, 1) := by decide +kernel
theorem dX11_worth_36 : decode cX11_worth 36 = .ok (.invokevirtual 236, 3) := by decide +kernel
theorem dX11_worth_39 : decode cX11_worth 39 = .ok (.aload_n 0, 1) := by decide +kernel
theorem dX11_worth_40 : decode cX11_worth 40 = .ok (.getfield 48, 3) := by decide +kernel
theorem dX11_worth_43 : decode cX11_worth 43 = .ok (.sipush 600, 3) := by decide +kernel
theorem dX11_worth_46 : decode cX11_worth 46 = .ok (.invokevirtual 170, 3) := by decide +kernel
theorem dX11_worth_49 : decode cX11_worth 49 = .ok (.iload_n 2, 1) := by decide +kernel
theorem dX11_worth_50 : decode cX11_worth 50 = .ok (.aload_n 0, 1) := by decide +kernel
theorem dX11_worth_51 : decode cX11_worth 51 = .ok (.getfield 48, 3) := by decide +kernel
theorem dX11_worth_54 : decode cX11_worth 54 = .ok (.getfield 173, 3) := by decide +kernel
theorem dX11_worth_57 : decode cX11_worth 57 = .ok (.isub, 1) := by decide +kernel
theorem dX11_worth_58 : decode cX11_worth 58 = .ok (.ireturn, 1) := by decide +kernel
theorem dX11_more_0 : decode cX11_more 0 = .ok (.iload_n 1, 1) := by decide +kernel
theorem dX11_more_1 : decode cX11_more 1 = .ok (.invokestatic 107, 3) := by decide +kernel
theorem dX11_more_4 : decode cX11_more 4 = .ok (.ifCond .eq 6, 3) := by decide +kernel
theorem dX11_more_7 : decode cX11_more 7 = .ok (.bipush (-2), 2) := by decide +kernel
theorem dX11_more_9 : decode cX11_more 9 = .ok (.ireturn, 1) := by decide +kernel
theorem dX11_more_10 : decode cX11_more 10 = .ok (.iconst 0, 1) := by decide +kernel
theorem dX11_more_11 : decode cX11_more 11 = .ok (.istore_n 2, 1) := by decide +kernel
theorem dX11_more_12 : decode cX11_more 12 = .ok (.iload_n 2, 1) := by decide +kernel
theorem dX11_more_13 : decode cX11_more 13 = .ok (.sipush 200, 3) := by decide +kernel
theorem dX11_more_16 : decode cX11_more 16 = .ok (.aload_n 0, 1) := by decide +kernel
theorem dX11_more_17 : decode cX11_more 17 = .ok (.getfield 9, 3) := by decide +kernel
theorem dX11_more_20 : decode cX11_more 20 = .ok (.iload_n 1, 1) := by decide +kernel
theorem dX11_more_21 : decode cX11_more 21 = .ok (.iaload, 1) := by decide +kernel
theorem dX11_more_22 : decode cX11_more 22 = .ok (.isub, 1) := by decide +kernel
theorem dX11_more_23 : decode cX11_more 23 = .ok (.if_icmp .gt 73, 3) := by decide +kernel
theorem dX11_more_26 : decode cX11_more 26 = .ok (.aload_n 0, 1) := by decide +kernel
theorem dX11_more_27 : decode cX11_more 27 = .ok (.invokevirtual 167, 3) := by decide +kernel
theorem dX11_more_30 : decode cX11_more 30 = .ok (.aload_n 0, 1) := by decide +kernel
theorem dX11_more_31 : decode cX11_more 31 = .ok (.getfield 48, 3) := by decide +kernel
theorem dX11_more_34 : decode cX11_more 34 = .ok (.iload_n 1, 1) := by decide +kernel
theorem dX11_more_35 : decode cX11_more 35 = .ok (.invokevirtual 203, 3) := by decide +kernel
theorem dX11_more_38 : decode cX11_more 38 = .ok (.astore_n 3, 1) := by decide +kernel
theorem dX11_more_39 : decode cX11_more 39 = .ok (.aload_n 3, 1) := by decide +kernel
theorem dX11_more_40 : decode cX11_more 40 = .ok (.dup, 1) := by decide +kernel
theorem dX11_more_41 : decode cX11_more 41 = .ok (.getfield 207, 3) := by decide +kernel
theorem dX11_more_44 : decode cX11_more 44 = .ok (.iload_n 2, 1) := by decide +kernel
theorem dX11_more_45 : decode cX11_more 45 = .ok (.iadd, 1) := by decide +kernel
theorem dX11_more_46 : decode cX11_more 46 = .ok (.putfield 207, 3) := by decide +kernel
theorem dX11_more_49 : decode cX11_more 49 = .ok (.iconst 0, 1) := by decide +kernel
theorem dX11_more_50 : decode cX11_more 50 = .ok (.istore 4, 2) := by decide +kernel
theorem dX11_more_52 : decode cX11_more 52 = .ok (.iload 4, 2) := by decide +kernel
theorem dX11_more_54 : decode cX11_more 54 = .ok (.sipush 600, 3) := by decide +kernel
theorem dX11_more_57 : decode cX11_more 57 = .ok (.if_icmp .ge 24, 3) := by decide +kernel
theorem dX11_more_60 : decode cX11_more 60 = .ok (.aload_n 3, 1) := by decide +kernel
theorem dX11_more_61 : decode cX11_more 61 = .ok (.getfield 239, 3) := by decide +kernel
theorem dX11_more_64 : decode cX11_more 64 = .ok (.ifCond .ne 17, 3) := by decide +kernel
theorem dX11_more_67 : decode cX11_more 67 = .ok (.aload_n 0, 1) := by decide +kernel
theorem dX11_more_68 : decode cX11_more 68 = .ok (.getfield 48, 3) := by decide +kernel
theorem dX11_more_71 : decode cX11_more 71 = .ok (.iconst 1, 1) := by decide +kernel
theorem dX11_more_72 : decode cX11_more 72 = .ok (.invokevirtual 170, 3) := by decide +kernel
theorem dX11_more_75 : decode cX11_more 75 = .ok (.iinc 4 1, 3) := by decide +kernel
theorem dX11_more_78 : decode cX11_more 78 = .ok (.goto (-26), 3) := by decide +kernel
theorem dX11_more_81 : decode cX11_more 81 = .ok (.aload_n 3, 1) := by decide +kernel
theorem dX11_more_82 : decode cX11_more 82 = .ok (.getfield 239, 3) := by decide +kernel
theorem dX11_more_85 : decode cX11_more 85 = .ok (.ifCond .ne 5, 3) := by decide +kernel
theorem dX11_more_88 : decode cX11_more 88 = .ok (.iload_n 2, 1) := by decide +kernel
theorem dX11_more_89 : decode cX11_more 89 = .ok (.ireturn, 1) := by decide +kernel
theorem dX11_more_90 : decode cX11_more 90 = .ok (.iinc 2 1, 3) := by decide +kernel
theorem dX11_more_93 : decode cX11_more 93 = .ok (.goto (-81), 3) := by decide +kernel
theorem dX11_more_96 : decode cX11_more 96 = .ok (.iconst (-1), 1) := by decide +kernel
theorem dX11_more_97 : decode cX11_more 97 = .ok (.ireturn, 1) := by decide +kernel
theorem dX11_layByOrder_0 : decode cX11_layByOrder 0 = .ok (.aload_n 0, 1) := by decide +kernel
theorem dX11_layByOrder_1 : decode cX11_layByOrder 1 = .ok (.invokevirtual 243, 3) := by decide +kernel
theorem dX11_layByOrder_4 : decode cX11_layByOrder 4 = .ok (.iconst 0, 1) := by decide +kernel
theorem dX11_layByOrder_5 : decode cX11_layByOrder 5 = .ok (.istore_n 1, 1) := by decide +kernel
theorem dX11_layByOrder_6 : decode cX11_layByOrder 6 = .ok (.iload_n 1, 1) := by decide +kernel
theorem dX11_layByOrder_7 : decode cX11_layByOrder 7 = .ok (.aload_n 0, 1) := by decide +kernel
theorem dX11_layByOrder_8 : decode cX11_layByOrder 8 = .ok (.getfield 94, 3) := by decide +kernel
theorem dX11_layByOrder_11 : decode cX11_layByOrder 11 = .ok (.if_icmp .ge 31, 3) := by decide +kernel
theorem dX11_layByOrder_14 : decode cX11_layByOrder 14 = .ok (.iload_n 1, 1) := by decide +kernel
theorem dX11_layByOrder_15 : decode cX11_layByOrder 15 = .ok (.iconst 5, 1) := by decide +kernel
theorem dX11_layByOrder_16 : decode cX11_layByOrder 16 = .ok (.if_icmp .ge 26, 3) := by decide +kernel
theorem dX11_layByOrder_19 : decode cX11_layByOrder 19 = .ok (.aload_n 0, 1) := by decide +kernel
theorem dX11_layByOrder_20 : decode cX11_layByOrder 20 = .ok (.getfield 48, 3) := by decide +kernel
theorem dX11_layByOrder_23 : decode cX11_layByOrder 23 = .ok (.aload_n 0, 1) := by decide +kernel
theorem dX11_layByOrder_24 : decode cX11_layByOrder 24 = .ok (.aload_n 0, 1) := by decide +kernel
theorem dX11_layByOrder_25 : decode cX11_layByOrder 25 = .ok (.getfield 52, 3) := by decide +kernel
theorem dX11_layByOrder_28 : decode cX11_layByOrder 28 = .ok (.iload_n 1, 1) := by decide +kernel
theorem dX11_layByOrder_29 : decode cX11_layByOrder 29 = .ok (.iaload, 1) := by decide +kernel
theorem dX11_layByOrder_30 : decode cX11_layByOrder 30 = .ok (.invokevirtual 135, 3) := by decide +kernel
theorem dX11_layByOrder_33 : decode cX11_layByOrder 33 = .ok (.invokevirtual 246, 3) := by decide +kernel
theorem dX11_layByOrder_36 : decode cX11_layByOrder 36 = .ok (.iinc 1 1, 3) := by decide +kernel
theorem dX11_layByOrder_39 : decode cX11_layByOrder 39 = .ok (.goto (-33), 3) := by decide +kernel
theorem dX11_layByOrder_42 : decode cX11_layByOrder 42 = .ok (.return_, 1) := by decide +kernel
theorem dX11_orderByNumbers_0 : decode cX11_orderByNumbers 0 = .ok (.iconst 0, 1) := by decide +kernel
theorem dX11_orderByNumbers_1 : decode cX11_orderByNumbers 1 = .ok (.istore_n 1, 1) := by decide +kernel
theorem dX11_orderByNumbers_2 : decode cX11_orderByNumbers 2 = .ok (.iload_n 1, 1) := by decide +kernel
theorem dX11_orderByNumbers_3 : decode cX11_orderByNumbers 3 = .ok (.iconst 5, 1) := by decide +kernel
theorem dX11_orderByNumbers_4 : decode cX11_orderByNumbers 4 = .ok (.if_icmp .ge 16, 3) := by decide +kernel
theorem dX11_orderByNumbers_7 : decode cX11_orderByNumbers 7 = .ok (.aload_n 0, 1) := by decide +kernel
theorem dX11_orderByNumbers_8 : decode cX11_orderByNumbers 8 = .ok (.getfield 52, 3) := by decide +kernel
theorem dX11_orderByNumbers_11 : decode cX11_orderByNumbers 11 = .ok (.iload_n 1, 1) := by decide +kernel
theorem dX11_orderByNumbers_12 : decode cX11_orderByNumbers 12 = .ok (.iload_n 1, 1) := by decide +kernel
theorem dX11_orderByNumbers_13 : decode cX11_orderByNumbers 13 = .ok (.iastore, 1) := by decide +kernel
theorem dX11_orderByNumbers_14 : decode cX11_orderByNumbers 14 = .ok (.iinc 1 1, 3) := by decide +kernel
theorem dX11_orderByNumbers_17 : decode cX11_orderByNumbers 17 = .ok (.goto (-15), 3) := by decide +kernel
theorem dX11_orderByNumbers_20 : decode cX11_orderByNumbers 20 = .ok (.return_, 1) := by decide +kernel
theorem dX11_orderAsDigits_0 : decode cX11_orderAsDigits 0 = .ok (.iconst 0, 1) := by decide +kernel
theorem dX11_orderAsDigits_1 : decode cX11_orderAsDigits 1 = .ok (.istore_n 1, 1) := by decide +kernel
theorem dX11_orderAsDigits_2 : decode cX11_orderAsDigits 2 = .ok (.iconst 0, 1) := by decide +kernel
theorem dX11_orderAsDigits_3 : decode cX11_orderAsDigits 3 = .ok (.istore_n 2, 1) := by decide +kernel
theorem dX11_orderAsDigits_4 : decode cX11_orderAsDigits 4 = .ok (.iload_n 2, 1) := by decide +kernel
theorem dX11_orderAsDigits_5 : decode cX11_orderAsDigits 5 = .ok (.aload_n 0, 1) := by decide +kernel
theorem dX11_orderAsDigits_6 : decode cX11_orderAsDigits 6 = .ok (.getfield 94, 3) := by decide +kernel
theorem dX11_orderAsDigits_9 : decode cX11_orderAsDigits 9 = .ok (.if_icmp .ge 28, 3) := by decide +kernel
theorem dX11_orderAsDigits_12 : decode cX11_orderAsDigits 12 = .ok (.iload_n 2, 1) := by decide +kernel
theorem dX11_orderAsDigits_13 : decode cX11_orderAsDigits 13 = .ok (.iconst 5, 1) := by decide +kernel
theorem dX11_orderAsDigits_14 : decode cX11_orderAsDigits 14 = .ok (.if_icmp .ge 23, 3) := by decide +kernel
theorem dX11_orderAsDigits_17 : decode cX11_orderAsDigits 17 = .ok (.iload_n 1, 1) := by decide +kernel
theorem dX11_orderAsDigits_18 : decode cX11_orderAsDigits 18 = .ok (.bipush 10, 2) := by decide +kernel
theorem dX11_orderAsDigits_20 : decode cX11_orderAsDigits 20 = .ok (.imul, 1) := by decide +kernel
theorem dX11_orderAsDigits_21 : decode cX11_orderAsDigits 21 = .ok (.aload_n 0, 1) := by decide +kernel
theorem dX11_orderAsDigits_22 : decode cX11_orderAsDigits 22 = .ok (.getfield 52, 3) := by decide +kernel
theorem dX11_orderAsDigits_25 : decode cX11_orderAsDigits 25 = .ok (.iload_n 2, 1) := by decide +kernel
theorem dX11_orderAsDigits_26 : decode cX11_orderAsDigits 26 = .ok (.iaload, 1) := by decide +kernel
theorem dX11_orderAsDigits_27 : decode cX11_orderAsDigits 27 = .ok (.iadd, 1) := by decide +kernel
theorem dX11_orderAsDigits_28 : decode cX11_orderAsDigits 28 = .ok (.iconst 1, 1) := by decide +kernel
theorem dX11_orderAsDigits_29 : decode cX11_orderAsDigits 29 = .ok (.iadd, 1) := by decide +kernel
theorem dX11_orderAsDigits_30 : decode cX11_orderAsDigits 30 = .ok (.istore_n 1, 1) := by decide +kernel
theorem dX11_orderAsDigits_31 : decode cX11_orderAsDigits 31 = .ok (.iinc 2 1, 3) := by decide +kernel
theorem dX11_orderAsDigits_34 : decode cX11_orderAsDigits 34 = .ok (.goto (-30), 3) := by decide +kernel
theorem dX11_orderAsDigits_37 : decode cX11_orderAsDigits 37 = .ok (.iload_n 1, 1) := by decide +kernel
theorem dX11_orderAsDigits_38 : decode cX11_orderAsDigits 38 = .ok (.ireturn, 1) := by decide +kernel
theorem dX11_nextOrder_0 : decode cX11_nextOrder 0 = .ok (.aload_n 0, 1) := by decide +kernel
theorem dX11_nextOrder_1 : decode cX11_nextOrder 1 = .ok (.getfield 94, 3) := by decide +kernel
theorem dX11_nextOrder_4 : decode cX11_nextOrder 4 = .ok (.iconst 5, 1) := by decide +kernel
theorem dX11_nextOrder_5 : decode cX11_nextOrder 5 = .ok (.invokestatic 227, 3) := by decide +kernel
theorem dX11_nextOrder_8 : decode cX11_nextOrder 8 = .ok (.iconst 1, 1) := by decide +kernel
theorem dX11_nextOrder_9 : decode cX11_nextOrder 9 = .ok (.isub, 1) := by decide +kernel
theorem dX11_nextOrder_10 : decode cX11_nextOrder 10 = .ok (.istore_n 1, 1) := by decide +kernel
theorem dX11_nextOrder_11 : decode cX11_nextOrder 11 = .ok (.iload_n 1, 1) := by decide +kernel
theorem dX11_nextOrder_12 : decode cX11_nextOrder 12 = .ok (.iconst 1, 1) := by decide +kernel
theorem dX11_nextOrder_13 : decode cX11_nextOrder 13 = .ok (.isub, 1) := by decide +kernel
theorem dX11_nextOrder_14 : decode cX11_nextOrder 14 = .ok (.istore_n 2, 1) := by decide +kernel
theorem dX11_nextOrder_15 : decode cX11_nextOrder 15 = .ok (.iload_n 2, 1) := by decide +kernel
theorem dX11_nextOrder_16 : decode cX11_nextOrder 16 = .ok (.ifCond .lt 29, 3) := by decide +kernel
theorem dX11_nextOrder_19 : decode cX11_nextOrder 19 = .ok (.aload_n 0, 1) := by decide +kernel
theorem dX11_nextOrder_20 : decode cX11_nextOrder 20 = .ok (.getfield 52, 3) := by decide +kernel
theorem dX11_nextOrder_23 : decode cX11_nextOrder 23 = .ok (.iload_n 2, 1) := by decide +kernel
theorem dX11_nextOrder_24 : decode cX11_nextOrder 24 = .ok (.iaload, 1) := by decide +kernel
theorem dX11_nextOrder_25 : decode cX11_nextOrder 25 = .ok (.aload_n 0, 1) := by decide +kernel
theorem dX11_nextOrder_26 : decode cX11_nextOrder 26 = .ok (.getfield 52, 3) := by decide +kernel
theorem dX11_nextOrder_29 : decode cX11_nextOrder 29 = .ok (.iload_n 2, 1) := by decide +kernel
theorem dX11_nextOrder_30 : decode cX11_nextOrder 30 = .ok (.iconst 1, 1) := by decide +kernel
theorem dX11_nextOrder_31 : decode cX11_nextOrder 31 = .ok (.iadd, 1) := by decide +kernel
theorem dX11_nextOrder_32 : decode cX11_nextOrder 32 = .ok (.iaload, 1) := by decide +kernel
theorem dX11_nextOrder_33 : decode cX11_nextOrder 33 = .ok (.if_icmp .ge 6, 3) := by decide +kernel
theorem dX11_nextOrder_36 : decode cX11_nextOrder 36 = .ok (.goto 9, 3) := by decide +kernel
theorem dX11_nextOrder_39 : decode cX11_nextOrder 39 = .ok (.iinc 2 (-1), 3) := by decide +kernel
theorem dX11_nextOrder_42 : decode cX11_nextOrder 42 = .ok (.goto (-27), 3) := by decide +kernel
theorem dX11_nextOrder_45 : decode cX11_nextOrder 45 = .ok (.iload_n 2, 1) := by decide +kernel
theorem dX11_nextOrder_46 : decode cX11_nextOrder 46 = .ok (.ifCond .ge 5, 3) := by decide +kernel
theorem dX11_nextOrder_49 : decode cX11_nextOrder 49 = .ok (.iconst 0, 1) := by decide +kernel
theorem dX11_nextOrder_50 : decode cX11_nextOrder 50 = .ok (.ireturn, 1) := by decide +kernel
theorem dX11_nextOrder_51 : decode cX11_nextOrder 51 = .ok (.iload_n 1, 1) := by decide +kernel
theorem dX11_nextOrder_52 : decode cX11_nextOrder 52 = .ok (.istore_n 3, 1) := by decide +kernel
theorem dX11_nextOrder_53 : decode cX11_nextOrder 53 = .ok (.iload_n 3, 1) := by decide +kernel
theorem dX11_nextOrder_54 : decode cX11_nextOrder 54 = .ok (.iload_n 2, 1) := by decide +kernel
theorem dX11_nextOrder_55 : decode cX11_nextOrder 55 = .ok (.iconst 1, 1) := by decide +kernel
theorem dX11_nextOrder_56 : decode cX11_nextOrder 56 = .ok (.iadd, 1) := by decide +kernel
theorem dX11_nextOrder_57 : decode cX11_nextOrder 57 = .ok (.if_icmp .le 27, 3) := by decide +kernel
theorem dX11_nextOrder_60 : decode cX11_nextOrder 60 = .ok (.aload_n 0, 1) := by decide +kernel
theorem dX11_nextOrder_61 : decode cX11_nextOrder 61 = .ok (.getfield 52, 3) := by decide +kernel
theorem dX11_nextOrder_64 : decode cX11_nextOrder 64 = .ok (.iload_n 3, 1) := by decide +kernel
theorem dX11_nextOrder_65 : decode cX11_nextOrder 65 = .ok (.iaload, 1) := by decide +kernel
theorem dX11_nextOrder_66 : decode cX11_nextOrder 66 = .ok (.aload_n 0, 1) := by decide +kernel
theorem dX11_nextOrder_67 : decode cX11_nextOrder 67 = .ok (.getfield 52, 3) := by decide +kernel
theorem dX11_nextOrder_70 : decode cX11_nextOrder 70 = .ok (.iload_n 2, 1) := by decide +kernel
theorem dX11_nextOrder_71 : decode cX11_nextOrder 71 = .ok (.iaload, 1) := by decide +kernel
theorem dX11_nextOrder_72 : decode cX11_nextOrder 72 = .ok (.if_icmp .le 6, 3) := by decide +kernel
theorem dX11_nextOrder_75 : decode cX11_nextOrder 75 = .ok (.goto 9, 3) := by decide +kernel
theorem dX11_nextOrder_78 : decode cX11_nextOrder 78 = .ok (.iinc 3 (-1), 3) := by decide +kernel
theorem dX11_nextOrder_81 : decode cX11_nextOrder 81 = .ok (.goto (-28), 3) := by decide +kernel
theorem dX11_nextOrder_84 : decode cX11_nextOrder 84 = .ok (.aload_n 0, 1) := by decide +kernel
theorem dX11_nextOrder_85 : decode cX11_nextOrder 85 = .ok (.iload_n 2, 1) := by decide +kernel
theorem dX11_nextOrder_86 : decode cX11_nextOrder 86 = .ok (.iload_n 3, 1) := by decide +kernel
theorem dX11_nextOrder_87 : decode cX11_nextOrder 87 = .ok (.invokevirtual 250, 3) := by decide +kernel
theorem dX11_nextOrder_90 : decode cX11_nextOrder 90 = .ok (.iload_n 2, 1) := by decide +kernel
theorem dX11_nextOrder_91 : decode cX11_nextOrder 91 = .ok (.iconst 1, 1) := by decide +kernel
theorem dX11_nextOrder_92 : decode cX11_nextOrder 92 = .ok (.iadd, 1) := by decide +kernel
theorem dX11_nextOrder_93 : decode cX11_nextOrder 93 = .ok (.istore 4, 2) := by decide +kernel
theorem dX11_nextOrder_95 : decode cX11_nextOrder 95 = .ok (.iload_n 1, 1) := by decide +kernel
theorem dX11_nextOrder_96 : decode cX11_nextOrder 96 = .ok (.istore 5, 2) := by decide +kernel
theorem dX11_nextOrder_98 : decode cX11_nextOrder 98 = .ok (.iload 4, 2) := by decide +kernel
theorem dX11_nextOrder_100 : decode cX11_nextOrder 100 = .ok (.iload 5, 2) := by decide +kernel
theorem dX11_nextOrder_102 : decode cX11_nextOrder 102 = .ok (.if_icmp .ge 20, 3) := by decide +kernel
theorem dX11_nextOrder_105 : decode cX11_nextOrder 105 = .ok (.aload_n 0, 1) := by decide +kernel
theorem dX11_nextOrder_106 : decode cX11_nextOrder 106 = .ok (.iload 4, 2) := by decide +kernel
theorem dX11_nextOrder_108 : decode cX11_nextOrder 108 = .ok (.iload 5, 2) := by decide +kernel
theorem dX11_nextOrder_110 : decode cX11_nextOrder 110 = .ok (.invokevirtual 250, 3) := by decide +kernel
theorem dX11_nextOrder_113 : decode cX11_nextOrder 113 = .ok (.iinc 4 1, 3) := by decide +kernel
theorem dX11_nextOrder_116 : decode cX11_nextOrder 116 = .ok (.iinc 5 (-1), 3) := by decide +kernel
theorem dX11_nextOrder_119 : decode cX11_nextOrder 119 = .ok (.goto (-21), 3) := by decide +kernel
theorem dX11_nextOrder_122 : decode cX11_nextOrder 122 = .ok (.iconst 1, 1) := by decide +kernel
theorem dX11_nextOrder_123 : decode cX11_nextOrder 123 = .ok (.ireturn, 1) := by decide +kernel
theorem dX11_swapInOrder_0 : decode cX11_swapInOrder 0 = .ok (.iload_n 1, 1) := by decide +kernel
theorem dX11_swapInOrder_1 : decode cX11_swapInOrder 1 = .ok (.ifCond .lt 43, 3) := by decide +kernel
theorem dX11_swapInOrder_4 : decode cX11_swapInOrder 4 = .ok (.iload_n 1, 1) := by decide +kernel
theorem dX11_swapInOrder_5 : decode cX11_swapInOrder 5 = .ok (.iconst 5, 1) := by decide +kernel
theorem dX11_swapInOrder_6 : decode cX11_swapInOrder 6 = .ok (.if_icmp .ge 38, 3) := by decide +kernel
theorem dX11_swapInOrder_9 : decode cX11_swapInOrder 9 = .ok (.iload_n 2, 1) := by decide +kernel
theorem dX11_swapInOrder_10 : decode cX11_swapInOrder 10 = .ok (.ifCond .lt 34, 3) := by decide +kernel
theorem dX11_swapInOrder_13 : decode cX11_swapInOrder 13 = .ok (.iload_n 2, 1) := by decide +kernel
theorem dX11_swapInOrder_14 : decode cX11_swapInOrder 14 = .ok (.iconst 5, 1) := by decide +kernel
theorem dX11_swapInOrder_15 : decode cX11_swapInOrder 15 = .ok (.if_icmp .ge 29, 3) := by decide +kernel
theorem dX11_swapInOrder_18 : decode cX11_swapInOrder 18 = .ok (.aload_n 0, 1) := by decide +kernel
theorem dX11_swapInOrder_19 : decode cX11_swapInOrder 19 = .ok (.getfield 52, 3) := by decide +kernel
theorem dX11_swapInOrder_22 : decode cX11_swapInOrder 22 = .ok (.iload_n 1, 1) := by decide +kernel
theorem dX11_swapInOrder_23 : decode cX11_swapInOrder 23 = .ok (.iaload, 1) := by decide +kernel
theorem dX11_swapInOrder_24 : decode cX11_swapInOrder 24 = .ok (.istore_n 3, 1) := by decide +kernel
theorem dX11_swapInOrder_25 : decode cX11_swapInOrder 25 = .ok (.aload_n 0, 1) := by decide +kernel
theorem dX11_swapInOrder_26 : decode cX11_swapInOrder 26 = .ok (.getfield 52, 3) := by decide +kernel
theorem dX11_swapInOrder_29 : decode cX11_swapInOrder 29 = .ok (.iload_n 1, 1) := by decide +kernel
theorem dX11_swapInOrder_30 : decode cX11_swapInOrder 30 = .ok (.aload_n 0, 1) := by decide +kernel
theorem dX11_swapInOrder_31 : decode cX11_swapInOrder 31 = .ok (.getfield 52, 3) := by decide +kernel
theorem dX11_swapInOrder_34 : decode cX11_swapInOrder 34 = .ok (.iload_n 2, 1) := by decide +kernel
theorem dX11_swapInOrder_35 : decode cX11_swapInOrder 35 = .ok (.iaload, 1) := by decide +kernel
theorem dX11_swapInOrder_36 : decode cX11_swapInOrder 36 = .ok (.iastore, 1) := by decide +kernel
theorem dX11_swapInOrder_37 : decode cX11_swapInOrder 37 = .ok (.aload_n 0, 1) := by decide +kernel
theorem dX11_swapInOrder_38 : decode cX11_swapInOrder 38 = .ok (.getfield 52, 3) := by decide +kernel
theorem dX11_swapInOrder_41 : decode cX11_swapInOrder 41 = .ok (.iload_n 2, 1) := by decide +kernel
theorem dX11_swapInOrder_42 : decode cX11_swapInOrder 42 = .ok (.iload_n 3, 1) := by decide +kernel
theorem dX11_swapInOrder_43 : decode cX11_swapInOrder 43 = .ok (.iastore, 1) := by decide +kernel
theorem dX11_swapInOrder_44 : decode cX11_swapInOrder 44 = .ok (.return_, 1) := by decide +kernel
theorem dX11_stretch_0 : decode cX11_stretch 0 = .ok (.iload_n 1, 1) := by decide +kernel
theorem dX11_stretch_1 : decode cX11_stretch 1 = .ok (.ifCond .lt 8, 3) := by decide +kernel
theorem dX11_stretch_4 : decode cX11_stretch 4 = .ok (.iload_n 1, 1) := by decide +kernel
theorem dX11_stretch_5 : decode cX11_stretch 5 = .ok (.iconst 2, 1) := by decide +kernel
theorem dX11_stretch_6 : decode cX11_stretch 6 = .ok (.if_icmp .le 6, 3) := by decide +kernel
theorem dX11_stretch_9 : decode cX11_stretch 9 = .ok (.bipush (-2), 2) := by decide +kernel
theorem dX11_stretch_11 : decode cX11_stretch 11 = .ok (.ireturn, 1) := by decide +kernel
theorem dX11_stretch_12 : decode cX11_stretch 12 = .ok (.aload_n 0, 1) := by decide +kernel
theorem dX11_stretch_13 : decode cX11_stretch 13 = .ok (.getfield 94, 3) := by decide +kernel
theorem dX11_stretch_16 : decode cX11_stretch 16 = .ok (.ifCond .ne 5, 3) := by decide +kernel
theorem dX11_stretch_19 : decode cX11_stretch 19 = .ok (.iconst (-1), 1) := by decide +kernel
theorem dX11_stretch_20 : decode cX11_stretch 20 = .ok (.ireturn, 1) := by decide +kernel
theorem dX11_stretch_21 : decode cX11_stretch 21 = .ok (.aload_n 0, 1) := by decide +kernel
theorem dX11_stretch_22 : decode cX11_stretch 22 = .ok (.invokevirtual 243, 3) := by decide +kernel
theorem dX11_stretch_25 : decode cX11_stretch 25 = .ok (.aload_n 0, 1) := by decide +kernel
theorem dX11_stretch_26 : decode cX11_stretch 26 = .ok (.invokevirtual 254, 3) := by decide +kernel
theorem dX11_stretch_29 : decode cX11_stretch 29 = .ok (.istore_n 2, 1) := by decide +kernel
theorem dX11_stretch_30 : decode cX11_stretch 30 = .ok (.aload_n 0, 1) := by decide +kernel
theorem dX11_stretch_31 : decode cX11_stretch 31 = .ok (.iload_n 2, 1) := by decide +kernel
theorem dX11_stretch_32 : decode cX11_stretch 32 = .ok (.invokevirtual 257, 3) := by decide +kernel
theorem dX11_stretch_35 : decode cX11_stretch 35 = .ok (.iload_n 1, 1) := by decide +kernel
theorem dX11_stretch_36 : decode cX11_stretch 36 = .ok (.ifCond .ne 5, 3) := by decide +kernel
theorem dX11_stretch_39 : decode cX11_stretch 39 = .ok (.iload_n 2, 1) := by decide +kernel
theorem dX11_stretch_40 : decode cX11_stretch 40 = .ok (.ireturn, 1) := by decide +kernel
theorem dX11_stretch_41 : decode cX11_stretch 41 = .ok (.iload_n 1, 1) := by decide +kernel
theorem dX11_stretch_42 : decode cX11_stretch 42 = .ok (.iconst 1, 1) := by decide +kernel
theorem dX11_stretch_43 : decode cX11_stretch 43 = .ok (.if_icmp .ne 10, 3) := by decide +kernel
theorem dX11_stretch_46 : decode cX11_stretch 46 = .ok (.aload_n 0, 1) := by decide +kernel
theorem dX11_stretch_47 : decode cX11_stretch 47 = .ok (.invokevirtual 260, 3) := by decide +kernel
theorem dX11_stretch_50 : decode cX11_stretch 50 = .ok (.goto 16, 3) := by decide +kernel
theorem dX11_stretch_53 : decode cX11_stretch 53 = .ok (.aload_n 0, 1) := by decide +kernel
theorem dX11_stretch_54 : decode cX11_stretch 54 = .ok (.invokevirtual 263, 3) := by decide +kernel
theorem dX11_stretch_57 : decode cX11_stretch 57 = .ok (.aload_n 0, 1) := by decide +kernel
theorem dX11_stretch_58 : decode cX11_stretch 58 = .ok (.getfield 16, 3) := by decide +kernel
theorem dX11_stretch_61 : decode cX11_stretch 61 = .ok (.iconst 1, 1) := by decide +kernel
theorem dX11_stretch_62 : decode cX11_stretch 62 = .ok (.isub, 1) := by decide +kernel
theorem dX11_stretch_63 : decode cX11_stretch 63 = .ok (.iload_n 2, 1) := by decide +kernel
theorem dX11_stretch_64 : decode cX11_stretch 64 = .ok (.imul, 1) := by decide +kernel
theorem dX11_stretch_65 : decode cX11_stretch 65 = .ok (.iadd, 1) := by decide +kernel
theorem dX11_stretch_66 : decode cX11_stretch 66 = .ok (.ireturn, 1) := by decide +kernel
theorem dX11_slowest_0 : decode cX11_slowest 0 = .ok (.aload_n 0, 1) := by decide +kernel
theorem dX11_slowest_1 : decode cX11_slowest 1 = .ok (.getfield 94, 3) := by decide +kernel
theorem dX11_slowest_4 : decode cX11_slowest 4 = .ok (.ifCond .ne 5, 3) := by decide +kernel
theorem dX11_slowest_7 : decode cX11_slowest 7 = .ok (.iconst (-1), 1) := by decide +kernel
theorem dX11_slowest_8 : decode cX11_slowest 8 = .ok (.ireturn, 1) := by decide +kernel
theorem dX11_slowest_9 : decode cX11_slowest 9 = .ok (.aload_n 0, 1) := by decide +kernel
theorem dX11_slowest_10 : decode cX11_slowest 10 = .ok (.invokevirtual 243, 3) := by decide +kernel
theorem dX11_slowest_13 : decode cX11_slowest 13 = .ok (.aload_n 0, 1) := by decide +kernel
theorem dX11_slowest_14 : decode cX11_slowest 14 = .ok (.invokevirtual 254, 3) := by decide +kernel
theorem dX11_slowest_17 : decode cX11_slowest 17 = .ok (.istore_n 1, 1) := by decide +kernel
theorem dX11_slowest_18 : decode cX11_slowest 18 = .ok (.aload_n 0, 1) := by decide +kernel
theorem dX11_slowest_19 : decode cX11_slowest 19 = .ok (.iload_n 1, 1) := by decide +kernel
theorem dX11_slowest_20 : decode cX11_slowest 20 = .ok (.invokevirtual 257, 3) := by decide +kernel
theorem dX11_slowest_23 : decode cX11_slowest 23 = .ok (.iconst 0, 1) := by decide +kernel
theorem dX11_slowest_24 : decode cX11_slowest 24 = .ok (.istore_n 2, 1) := by decide +kernel
theorem dX11_slowest_25 : decode cX11_slowest 25 = .ok (.iconst 0, 1) := by decide +kernel
theorem dX11_slowest_26 : decode cX11_slowest 26 = .ok (.istore_n 3, 1) := by decide +kernel
theorem dX11_slowest_27 : decode cX11_slowest 27 = .ok (.iload_n 3, 1) := by decide +kernel
theorem dX11_slowest_28 : decode cX11_slowest 28 = .ok (.aload_n 0, 1) := by decide +kernel
theorem dX11_slowest_29 : decode cX11_slowest 29 = .ok (.getfield 94, 3) := by decide +kernel
theorem dX11_slowest_32 : decode cX11_slowest 32 = .ok (.if_icmp .ge 41, 3) := by decide +kernel
theorem dX11_slowest_35 : decode cX11_slowest 35 = .ok (.iload_n 3, 1) := by decide +kernel
theorem dX11_slowest_36 : decode cX11_slowest 36 = .ok (.iconst 5, 1) := by decide +kernel
theorem dX11_slowest_37 : decode cX11_slowest 37 = .ok (.if_icmp .ge 36, 3) := by decide +kernel
theorem dX11_slowest_40 : decode cX11_slowest 40 = .ok (.aload_n 0, 1) := by decide +kernel
theorem dX11_slowest_41 : decode cX11_slowest 41 = .ok (.iload_n 3, 1) := by decide +kernel
theorem dX11_slowest_42 : decode cX11_slowest 42 = .ok (.iload_n 2, 1) := by decide +kernel
theorem dX11_slowest_43 : decode cX11_slowest 43 = .ok (.aload_n 0, 1) := by decide +kernel
theorem dX11_slowest_44 : decode cX11_slowest 44 = .ok (.getfield 60, 3) := by decide +kernel
theorem dX11_slowest_47 : decode cX11_slowest 47 = .ok (.iload_n 3, 1) := by decide +kernel
theorem dX11_slowest_48 : decode cX11_slowest 48 = .ok (.iaload, 1) := by decide +kernel
theorem dX11_slowest_49 : decode cX11_slowest 49 = .ok (.invokevirtual 266, 3) := by decide +kernel
theorem dX11_slowest_52 : decode cX11_slowest 52 = .ok (.iload_n 1, 1) := by decide +kernel
theorem dX11_slowest_53 : decode cX11_slowest 53 = .ok (.if_icmp .ne 5, 3) := by decide +kernel
theorem dX11_slowest_56 : decode cX11_slowest 56 = .ok (.iload_n 3, 1) := by decide +kernel
theorem dX11_slowest_57 : decode cX11_slowest 57 = .ok (.ireturn, 1) := by decide +kernel
theorem dX11_slowest_58 : decode cX11_slowest 58 = .ok (.iload_n 2, 1) := by decide +kernel
theorem dX11_slowest_59 : decode cX11_slowest 59 = .ok (.aload_n 0, 1) := by decide +kernel
theorem dX11_slowest_60 : decode cX11_slowest 60 = .ok (.getfield 60, 3) := by decide +kernel
theorem dX11_slowest_63 : decode cX11_slowest 63 = .ok (.iload_n 3, 1) := by decide +kernel
theorem dX11_slowest_64 : decode cX11_slowest 64 = .ok (.iaload, 1) := by decide +kernel
theorem dX11_slowest_65 : decode cX11_slowest 65 = .ok (.iadd, 1) := by decide +kernel
theorem dX11_slowest_66 : decode cX11_slowest 66 = .ok (.istore_n 2, 1) := by decide +kernel
theorem dX11_slowest_67 : decode cX11_slowest 67 = .ok (.iinc 3 1, 3) := by decide +kernel
theorem dX11_slowest_70 : decode cX11_slowest 70 = .ok (.goto (-43), 3) := by decide +kernel
theorem dX11_slowest_73 : decode cX11_slowest 73 = .ok (.iconst (-1), 1) := by decide +kernel
theorem dX11_slowest_74 : decode cX11_slowest 74 = .ok (.ireturn, 1) := by decide +kernel
theorem dX11_planStretches_0 : decode cX11_planStretches 0 = .ok (.aload_n 0, 1) := by decide +kernel
theorem dX11_planStretches_1 : decode cX11_planStretches 1 = .ok (.getfield 94, 3) := by decide +kernel
theorem dX11_planStretches_4 : decode cX11_planStretches 4 = .ok (.iconst 5, 1) := by decide +kernel
theorem dX11_planStretches_5 : decode cX11_planStretches 5 = .ok (.invokestatic 227, 3) := by decide +kernel
theorem dX11_planStretches_8 : decode cX11_planStretches 8 = .ok (.istore_n 1, 1) := by decide +kernel
theorem dX11_planStretches_9 : decode cX11_planStretches 9 = .ok (.aload_n 0, 1) := by decide +kernel
theorem dX11_planStretches_10 : decode cX11_planStretches 10 = .ok (.getfield 57, 3) := by decide +kernel
theorem dX11_planStretches_13 : decode cX11_planStretches 13 = .ok (.iload_n 1, 1) := by decide +kernel
theorem dX11_planStretches_14 : decode cX11_planStretches 14 = .ok (.aaload, 1) := by decide +kernel
theorem dX11_planStretches_15 : decode cX11_planStretches 15 = .ok (.ldc 220, 2) := by decide +kernel
theorem dX11_planStretches_17 : decode cX11_planStretches 17 = .ok (.invokestatic 75, 3) := by decide +kernel
theorem dX11_planStretches_20 : decode cX11_planStretches 20 = .ok (.aload_n 0, 1) := by decide +kernel
theorem dX11_planStretches_21 : decode cX11_planStretches 21 = .ok (.getfield 57, 3) := by decide +kernel
theorem dX11_planStretches_24 : decode cX11_planStretches 24 = .ok (.iload_n 1, 1) := by decide +kernel
theorem dX11_planStretches_25 : decode cX11_planStretches 25 = .ok (.aaload, 1) := by decide +kernel
theorem dX11_planStretches_26 : decode cX11_planStretches 26 = .ok (.bipush 9, 2) := by decide +kernel
theorem dX11_planStretches_28 : decode cX11_planStretches 28 = .ok (.iconst 0, 1) := by decide +kernel
theorem dX11_planStretches_29 : decode cX11_planStretches 29 = .ok (.iastore, 1) := by decide +kernel
theorem dX11_planStretches_30 : decode cX11_planStretches 30 = .ok (.iload_n 1, 1) := by decide +kernel
theorem dX11_planStretches_31 : decode cX11_planStretches 31 = .ok (.iconst 1, 1) := by decide +kernel
theorem dX11_planStretches_32 : decode cX11_planStretches 32 = .ok (.isub, 1) := by decide +kernel
theorem dX11_planStretches_33 : decode cX11_planStretches 33 = .ok (.istore_n 2, 1) := by decide +kernel
theorem dX11_planStretches_34 : decode cX11_planStretches 34 = .ok (.iload_n 2, 1) := by decide +kernel
theorem dX11_planStretches_35 : decode cX11_planStretches 35 = .ok (.ifCond .lt 37, 3) := by decide +kernel
theorem dX11_planStretches_38 : decode cX11_planStretches 38 = .ok (.iconst 0, 1) := by decide +kernel
theorem dX11_planStretches_39 : decode cX11_planStretches 39 = .ok (.istore_n 3, 1) := by decide +kernel
theorem dX11_planStretches_40 : decode cX11_planStretches 40 = .ok (.iload_n 3, 1) := by decide +kernel
theorem dX11_planStretches_41 : decode cX11_planStretches 41 = .ok (.bipush 9, 2) := by decide +kernel
theorem dX11_planStretches_43 : decode cX11_planStretches 43 = .ok (.if_icmp .gt 23, 3) := by decide +kernel
theorem dX11_planStretches_46 : decode cX11_planStretches 46 = .ok (.aload_n 0, 1) := by decide +kernel
theorem dX11_planStretches_47 : decode cX11_planStretches 47 = .ok (.getfield 57, 3) := by decide +kernel
theorem dX11_planStretches_50 : decode cX11_planStretches 50 = .ok (.iload_n 2, 1) := by decide +kernel
theorem dX11_planStretches_51 : decode cX11_planStretches 51 = .ok (.aaload, 1) := by decide +kernel
theorem dX11_planStretches_52 : decode cX11_planStretches 52 = .ok (.iload_n 3, 1) := by decide +kernel
theorem dX11_planStretches_53 : decode cX11_planStretches 53 = .ok (.aload_n 0, 1) := by decide +kernel
theorem dX11_planStretches_54 : decode cX11_planStretches 54 = .ok (.iload_n 2, 1) := by decide +kernel
theorem dX11_planStretches_55 : decode cX11_planStretches 55 = .ok (.iload_n 3, 1) := by decide +kernel
theorem dX11_planStretches_56 : decode cX11_planStretches 56 = .ok (.invokevirtual 270, 3) := by decide +kernel
theorem dX11_planStretches_59 : decode cX11_planStretches 59 = .ok (.iastore, 1) := by decide +kernel
theorem dX11_planStretches_60 : decode cX11_planStretches 60 = .ok (.iinc 3 1, 3) := by decide +kernel
theorem dX11_planStretches_63 : decode cX11_planStretches 63 = .ok (.goto (-23), 3) := by decide +kernel
theorem dX11_planStretches_66 : decode cX11_planStretches 66 = .ok (.iinc 2 (-1), 3) := by decide +kernel
theorem dX11_planStretches_69 : decode cX11_planStretches 69 = .ok (.goto (-35), 3) := by decide +kernel
theorem dX11_planStretches_72 : decode cX11_planStretches 72 = .ok (.aload_n 0, 1) := by decide +kernel
theorem dX11_planStretches_73 : decode cX11_planStretches 73 = .ok (.getfield 57, 3) := by decide +kernel
theorem dX11_planStretches_76 : decode cX11_planStretches 76 = .ok (.iconst 0, 1) := by decide +kernel
theorem dX11_planStretches_77 : decode cX11_planStretches 77 = .ok (.aaload, 1) := by decide +kernel
theorem dX11_planStretches_78 : decode cX11_planStretches 78 = .ok (.iconst 0, 1) := by decide +kernel
theorem dX11_planStretches_79 : decode cX11_planStretches 79 = .ok (.iaload, 1) := by decide +kernel
theorem dX11_planStretches_80 : decode cX11_planStretches 80 = .ok (.ireturn, 1) := by decide +kernel
theorem dX11_fewestFrom_0 : decode cX11_fewestFrom 0 = .ok (.ldc 220, 2) := by decide +kernel
theorem dX11_fewestFrom_2 : decode cX11_fewestFrom 2 = .ok (.istore_n 3, 1) := by decide +kernel
theorem dX11_fewestFrom_3 : decode cX11_fewestFrom 3 = .ok (.iconst 0, 1) := by decide +kernel
theorem dX11_fewestFrom_4 : decode cX11_fewestFrom 4 = .ok (.istore 4, 2) := by decide +kernel
theorem dX11_fewestFrom_6 : decode cX11_fewestFrom 6 = .ok (.iload_n 2, 1) := by decide +kernel
theorem dX11_fewestFrom_7 : decode cX11_fewestFrom 7 = .ok (.istore 5, 2) := by decide +kernel
theorem dX11_fewestFrom_9 : decode cX11_fewestFrom 9 = .ok (.iload 5, 2) := by decide +kernel
theorem dX11_fewestFrom_11 : decode cX11_fewestFrom 11 = .ok (.bipush 9, 2) := by decide +kernel
theorem dX11_fewestFrom_13 : decode cX11_fewestFrom 13 = .ok (.if_icmp .gt 43, 3) := by decide +kernel
theorem dX11_fewestFrom_16 : decode cX11_fewestFrom 16 = .ok (.iload_n 3, 1) := by decide +kernel
theorem dX11_fewestFrom_17 : decode cX11_fewestFrom 17 = .ok (.iload 4, 2) := by decide +kernel
theorem dX11_fewestFrom_19 : decode cX11_fewestFrom 19 = .ok (.aload_n 0, 1) := by decide +kernel
theorem dX11_fewestFrom_20 : decode cX11_fewestFrom 20 = .ok (.getfield 57, 3) := by decide +kernel
theorem dX11_fewestFrom_23 : decode cX11_fewestFrom 23 = .ok (.iload_n 1, 1) := by decide +kernel
theorem dX11_fewestFrom_24 : decode cX11_fewestFrom 24 = .ok (.iconst 1, 1) := by decide +kernel
theorem dX11_fewestFrom_25 : decode cX11_fewestFrom 25 = .ok (.iadd, 1) := by decide +kernel
theorem dX11_fewestFrom_26 : decode cX11_fewestFrom 26 = .ok (.aaload, 1) := by decide +kernel
theorem dX11_fewestFrom_27 : decode cX11_fewestFrom 27 = .ok (.iload 5, 2) := by decide +kernel
theorem dX11_fewestFrom_29 : decode cX11_fewestFrom 29 = .ok (.iaload, 1) := by decide +kernel
theorem dX11_fewestFrom_30 : decode cX11_fewestFrom 30 = .ok (.invokestatic 273, 3) := by decide +kernel
theorem dX11_fewestFrom_33 : decode cX11_fewestFrom 33 = .ok (.invokestatic 227, 3) := by decide +kernel
theorem dX11_fewestFrom_36 : decode cX11_fewestFrom 36 = .ok (.istore_n 3, 1) := by decide +kernel
theorem dX11_fewestFrom_37 : decode cX11_fewestFrom 37 = .ok (.iload 4, 2) := by decide +kernel
theorem dX11_fewestFrom_39 : decode cX11_fewestFrom 39 = .ok (.aload_n 0, 1) := by decide +kernel
theorem dX11_fewestFrom_40 : decode cX11_fewestFrom 40 = .ok (.iload_n 1, 1) := by decide +kernel
theorem dX11_fewestFrom_41 : decode cX11_fewestFrom 41 = .ok (.iload 5, 2) := by decide +kernel
theorem dX11_fewestFrom_43 : decode cX11_fewestFrom 43 = .ok (.iconst 1, 1) := by decide +kernel
theorem dX11_fewestFrom_44 : decode cX11_fewestFrom 44 = .ok (.invokevirtual 266, 3) := by decide +kernel
theorem dX11_fewestFrom_47 : decode cX11_fewestFrom 47 = .ok (.iadd, 1) := by decide +kernel
theorem dX11_fewestFrom_48 : decode cX11_fewestFrom 48 = .ok (.istore 4, 2) := by decide +kernel
theorem dX11_fewestFrom_50 : decode cX11_fewestFrom 50 = .ok (.iinc 5 1, 3) := by decide +kernel
theorem dX11_fewestFrom_53 : decode cX11_fewestFrom 53 = .ok (.goto (-44), 3) := by decide +kernel
theorem dX11_fewestFrom_56 : decode cX11_fewestFrom 56 = .ok (.iload_n 3, 1) := by decide +kernel
theorem dX11_fewestFrom_57 : decode cX11_fewestFrom 57 = .ok (.ireturn, 1) := by decide +kernel
theorem dX11_shareHeaps_0 : decode cX11_shareHeaps 0 = .ok (.iconst 0, 1) := by decide +kernel
theorem dX11_shareHeaps_1 : decode cX11_shareHeaps 1 = .ok (.istore_n 2, 1) := by decide +kernel
theorem dX11_shareHeaps_2 : decode cX11_shareHeaps 2 = .ok (.iconst 0, 1) := by decide +kernel
theorem dX11_shareHeaps_3 : decode cX11_shareHeaps 3 = .ok (.istore_n 3, 1) := by decide +kernel
theorem dX11_shareHeaps_4 : decode cX11_shareHeaps 4 = .ok (.iload_n 3, 1) := by decide +kernel
theorem dX11_shareHeaps_5 : decode cX11_shareHeaps 5 = .ok (.aload_n 0, 1) := by decide +kernel
theorem dX11_shareHeaps_6 : decode cX11_shareHeaps 6 = .ok (.getfield 94, 3) := by decide +kernel
theorem dX11_shareHeaps_9 : decode cX11_shareHeaps 9 = .ok (.if_icmp .ge 62, 3) := by decide +kernel
theorem dX11_shareHeaps_12 : decode cX11_shareHeaps 12 = .ok (.iload_n 3, 1) := by decide +kernel
theorem dX11_shareHeaps_13 : decode cX11_shareHeaps 13 = .ok (.iconst 5, 1) := by decide +kernel
theorem dX11_shareHeaps_14 : decode cX11_shareHeaps 14 = .ok (.if_icmp .ge 57, 3) := by decide +kernel
theorem dX11_shareHeaps_17 : decode cX11_shareHeaps 17 = .ok (.iconst 0, 1) := by decide +kernel
theorem dX11_shareHeaps_18 : decode cX11_shareHeaps 18 = .ok (.istore 4, 2) := by decide +kernel
theorem dX11_shareHeaps_20 : decode cX11_shareHeaps 20 = .ok (.iload_n 2, 1) := by decide +kernel
theorem dX11_shareHeaps_21 : decode cX11_shareHeaps 21 = .ok (.iload 4, 2) := by decide +kernel
theorem dX11_shareHeaps_23 : decode cX11_shareHeaps 23 = .ok (.iadd, 1) := by decide +kernel
theorem dX11_shareHeaps_24 : decode cX11_shareHeaps 24 = .ok (.bipush 9, 2) := by decide +kernel
theorem dX11_shareHeaps_26 : decode cX11_shareHeaps 26 = .ok (.if_icmp .ge 26, 3) := by decide +kernel
theorem dX11_shareHeaps_29 : decode cX11_shareHeaps 29 = .ok (.aload_n 0, 1) := by decide +kernel
theorem dX11_shareHeaps_30 : decode cX11_shareHeaps 30 = .ok (.getfield 57, 3) := by decide +kernel
theorem dX11_shareHeaps_33 : decode cX11_shareHeaps 33 = .ok (.iload_n 3, 1) := by decide +kernel
theorem dX11_shareHeaps_34 : decode cX11_shareHeaps 34 = .ok (.iconst 1, 1) := by decide +kernel
theorem dX11_shareHeaps_35 : decode cX11_shareHeaps 35 = .ok (.iadd, 1) := by decide +kernel
theorem dX11_shareHeaps_36 : decode cX11_shareHeaps 36 = .ok (.aaload, 1) := by decide +kernel
theorem dX11_shareHeaps_37 : decode cX11_shareHeaps 37 = .ok (.iload_n 2, 1) := by decide +kernel
theorem dX11_shareHeaps_38 : decode cX11_shareHeaps 38 = .ok (.iload 4, 2) := by decide +kernel
theorem dX11_shareHeaps_40 : decode cX11_shareHeaps 40 = .ok (.iadd, 1) := by decide +kernel
theorem dX11_shareHeaps_41 : decode cX11_shareHeaps 41 = .ok (.iaload, 1) := by decide +kernel
theorem dX11_shareHeaps_42 : decode cX11_shareHeaps 42 = .ok (.iload_n 1, 1) := by decide +kernel
theorem dX11_shareHeaps_43 : decode cX11_shareHeaps 43 = .ok (.if_icmp .le 9, 3) := by decide +kernel
theorem dX11_shareHeaps_46 : decode cX11_shareHeaps 46 = .ok (.iinc 4 1, 3) := by decide +kernel
theorem dX11_shareHeaps_49 : decode cX11_shareHeaps 49 = .ok (.goto (-29), 3) := by decide +kernel
theorem dX11_shareHeaps_52 : decode cX11_shareHeaps 52 = .ok (.aload_n 0, 1) := by decide +kernel
theorem dX11_shareHeaps_53 : decode cX11_shareHeaps 53 = .ok (.getfield 60, 3) := by decide +kernel
theorem dX11_shareHeaps_56 : decode cX11_shareHeaps 56 = .ok (.iload_n 3, 1) := by decide +kernel
theorem dX11_shareHeaps_57 : decode cX11_shareHeaps 57 = .ok (.iload 4, 2) := by decide +kernel
theorem dX11_shareHeaps_59 : decode cX11_shareHeaps 59 = .ok (.iastore, 1) := by decide +kernel
theorem dX11_shareHeaps_60 : decode cX11_shareHeaps 60 = .ok (.iload_n 2, 1) := by decide +kernel
theorem dX11_shareHeaps_61 : decode cX11_shareHeaps 61 = .ok (.iload 4, 2) := by decide +kernel
theorem dX11_shareHeaps_63 : decode cX11_shareHeaps 63 = .ok (.iadd, 1) := by decide +kernel
theorem dX11_shareHeaps_64 : decode cX11_shareHeaps 64 = .ok (.istore_n 2, 1) := by decide +kernel
theorem dX11_shareHeaps_65 : decode cX11_shareHeaps 65 = .ok (.iinc 3 1, 3) := by decide +kernel
theorem dX11_shareHeaps_68 : decode cX11_shareHeaps 68 = .ok (.goto (-64), 3) := by decide +kernel
theorem dX11_shareHeaps_71 : decode cX11_shareHeaps 71 = .ok (.return_, 1) := by decide +kernel
theorem dX11_sharesAsDigits_0 : decode cX11_sharesAsDigits 0 = .ok (.iconst 0, 1) := by decide +kernel
theorem dX11_sharesAsDigits_1 : decode cX11_sharesAsDigits 1 = .ok (.istore_n 1, 1) := by decide +kernel
theorem dX11_sharesAsDigits_2 : decode cX11_sharesAsDigits 2 = .ok (.iconst 0, 1) := by decide +kernel
theorem dX11_sharesAsDigits_3 : decode cX11_sharesAsDigits 3 = .ok (.istore_n 2, 1) := by decide +kernel
theorem dX11_sharesAsDigits_4 : decode cX11_sharesAsDigits 4 = .ok (.iload_n 2, 1) := by decide +kernel
theorem dX11_sharesAsDigits_5 : decode cX11_sharesAsDigits 5 = .ok (.aload_n 0, 1) := by decide +kernel
theorem dX11_sharesAsDigits_6 : decode cX11_sharesAsDigits 6 = .ok (.getfield 94, 3) := by decide +kernel
theorem dX11_sharesAsDigits_9 : decode cX11_sharesAsDigits 9 = .ok (.if_icmp .ge 26, 3) := by decide +kernel
theorem dX11_sharesAsDigits_12 : decode cX11_sharesAsDigits 12 = .ok (.iload_n 2, 1) := by decide +kernel
theorem dX11_sharesAsDigits_13 : decode cX11_sharesAsDigits 13 = .ok (.iconst 5, 1) := by decide +kernel
theorem dX11_sharesAsDigits_14 : decode cX11_sharesAsDigits 14 = .ok (.if_icmp .ge 21, 3) := by decide +kernel
theorem dX11_sharesAsDigits_17 : decode cX11_sharesAsDigits 17 = .ok (.iload_n 1, 1) := by decide +kernel
theorem dX11_sharesAsDigits_18 : decode cX11_sharesAsDigits 18 = .ok (.bipush 10, 2) := by decide +kernel
theorem dX11_sharesAsDigits_20 : decode cX11_sharesAsDigits 20 = .ok (.imul, 1) := by decide +kernel
theorem dX11_sharesAsDigits_21 : decode cX11_sharesAsDigits 21 = .ok (.aload_n 0, 1) := by decide +kernel
theorem dX11_sharesAsDigits_22 : decode cX11_sharesAsDigits 22 = .ok (.getfield 60, 3) := by decide +kernel
theorem dX11_sharesAsDigits_25 : decode cX11_sharesAsDigits 25 = .ok (.iload_n 2, 1) := by decide +kernel
theorem dX11_sharesAsDigits_26 : decode cX11_sharesAsDigits 26 = .ok (.iaload, 1) := by decide +kernel
theorem dX11_sharesAsDigits_27 : decode cX11_sharesAsDigits 27 = .ok (.iadd, 1) := by decide +kernel
theorem dX11_sharesAsDigits_28 : decode cX11_sharesAsDigits 28 = .ok (.istore_n 1, 1) := by decide +kernel
theorem dX11_sharesAsDigits_29 : decode cX11_sharesAsDigits 29 = .ok (.iinc 2 1, 3) := by decide +kernel
theorem dX11_sharesAsDigits_32 : decode cX11_sharesAsDigits 32 = .ok (.goto (-28), 3) := by decide +kernel
theorem dX11_sharesAsDigits_35 : decode cX11_sharesAsDigits 35 = .ok (.iload_n 1, 1) := by decide +kernel
theorem dX11_sharesAsDigits_36 : decode cX11_sharesAsDigits 36 = .ok (.ireturn, 1) := by decide +kernel
theorem dX11_secondsOfAll_0 : decode cX11_secondsOfAll 0 = .ok (.iconst 0, 1) := by decide +kernel
theorem dX11_secondsOfAll_1 : decode cX11_secondsOfAll 1 = .ok (.istore_n 1, 1) := by decide +kernel
theorem dX11_secondsOfAll_2 : decode cX11_secondsOfAll 2 = .ok (.iconst 0, 1) := by decide +kernel
theorem dX11_secondsOfAll_3 : decode cX11_secondsOfAll 3 = .ok (.istore_n 2, 1) := by decide +kernel
theorem dX11_secondsOfAll_4 : decode cX11_secondsOfAll 4 = .ok (.iconst 0, 1) := by decide +kernel
theorem dX11_secondsOfAll_5 : decode cX11_secondsOfAll 5 = .ok (.istore_n 3, 1) := by decide +kernel
theorem dX11_secondsOfAll_6 : decode cX11_secondsOfAll 6 = .ok (.iload_n 3, 1) := by decide +kernel
theorem dX11_secondsOfAll_7 : decode cX11_secondsOfAll 7 = .ok (.aload_n 0, 1) := by decide +kernel
theorem dX11_secondsOfAll_8 : decode cX11_secondsOfAll 8 = .ok (.getfield 94, 3) := by decide +kernel
theorem dX11_secondsOfAll_11 : decode cX11_secondsOfAll 11 = .ok (.if_icmp .ge 38, 3) := by decide +kernel
theorem dX11_secondsOfAll_14 : decode cX11_secondsOfAll 14 = .ok (.iload_n 3, 1) := by decide +kernel
theorem dX11_secondsOfAll_15 : decode cX11_secondsOfAll 15 = .ok (.iconst 5, 1) := by decide +kernel
theorem dX11_secondsOfAll_16 : decode cX11_secondsOfAll 16 = .ok (.if_icmp .ge 33, 3) := by decide +kernel
theorem dX11_secondsOfAll_19 : decode cX11_secondsOfAll 19 = .ok (.iload_n 1, 1) := by decide +kernel
theorem dX11_secondsOfAll_20 : decode cX11_secondsOfAll 20 = .ok (.aload_n 0, 1) := by decide +kernel
theorem dX11_secondsOfAll_21 : decode cX11_secondsOfAll 21 = .ok (.iload_n 3, 1) := by decide +kernel
theorem dX11_secondsOfAll_22 : decode cX11_secondsOfAll 22 = .ok (.iload_n 2, 1) := by decide +kernel
theorem dX11_secondsOfAll_23 : decode cX11_secondsOfAll 23 = .ok (.aload_n 0, 1) := by decide +kernel
theorem dX11_secondsOfAll_24 : decode cX11_secondsOfAll 24 = .ok (.getfield 60, 3) := by decide +kernel
theorem dX11_secondsOfAll_27 : decode cX11_secondsOfAll 27 = .ok (.iload_n 3, 1) := by decide +kernel
theorem dX11_secondsOfAll_28 : decode cX11_secondsOfAll 28 = .ok (.iaload, 1) := by decide +kernel
theorem dX11_secondsOfAll_29 : decode cX11_secondsOfAll 29 = .ok (.invokevirtual 266, 3) := by decide +kernel
theorem dX11_secondsOfAll_32 : decode cX11_secondsOfAll 32 = .ok (.iadd, 1) := by decide +kernel
theorem dX11_secondsOfAll_33 : decode cX11_secondsOfAll 33 = .ok (.istore_n 1, 1) := by decide +kernel
theorem dX11_secondsOfAll_34 : decode cX11_secondsOfAll 34 = .ok (.iload_n 2, 1) := by decide +kernel
theorem dX11_secondsOfAll_35 : decode cX11_secondsOfAll 35 = .ok (.aload_n 0, 1) := by decide +kernel
theorem dX11_secondsOfAll_36 : decode cX11_secondsOfAll 36 = .ok (.getfield 60, 3) := by decide +kernel
theorem dX11_secondsOfAll_39 : decode cX11_secondsOfAll 39 = .ok (.iload_n 3, 1) := by decide +kernel
theorem dX11_secondsOfAll_40 : decode cX11_secondsOfAll 40 = .ok (.iaload, 1) := by decide +kernel
theorem dX11_secondsOfAll_41 : decode cX11_secondsOfAll 41 = .ok (.iadd, 1) := by decide +kernel
theorem dX11_secondsOfAll_42 : decode cX11_secondsOfAll 42 = .ok (.istore_n 2, 1) := by decide +kernel
theorem dX11_secondsOfAll_43 : decode cX11_secondsOfAll 43 = .ok (.iinc 3 1, 3) := by decide +kernel
theorem dX11_secondsOfAll_46 : decode cX11_secondsOfAll 46 = .ok (.goto (-40), 3) := by decide +kernel
theorem dX11_secondsOfAll_49 : decode cX11_secondsOfAll 49 = .ok (.iload_n 1, 1) := by decide +kernel
theorem dX11_secondsOfAll_50 : decode cX11_secondsOfAll 50 = .ok (.ireturn, 1) := by decide +kernel
theorem dX11_ownSeconds_0 : decode cX11_ownSeconds 0 = .ok (.aload_n 0, 1) := by decide +kernel
theorem dX11_ownSeconds_1 : decode cX11_ownSeconds 1 = .ok (.iload_n 1, 1) := by decide +kernel
theorem dX11_ownSeconds_2 : decode cX11_ownSeconds 2 = .ok (.invokevirtual 135, 3) := by decide +kernel
theorem dX11_ownSeconds_5 : decode cX11_ownSeconds 5 = .ok (.astore 4, 2) := by decide +kernel
theorem dX11_ownSeconds_7 : decode cX11_ownSeconds 7 = .ok (.iconst 0, 1) := by decide +kernel
theorem dX11_ownSeconds_8 : decode cX11_ownSeconds 8 = .ok (.istore 5, 2) := by decide +kernel
theorem dX11_ownSeconds_10 : decode cX11_ownSeconds 10 = .ok (.iload_n 2, 1) := by decide +kernel
theorem dX11_ownSeconds_11 : decode cX11_ownSeconds 11 = .ok (.istore 6, 2) := by decide +kernel
theorem dX11_ownSeconds_13 : decode cX11_ownSeconds 13 = .ok (.iload 6, 2) := by decide +kernel
theorem dX11_ownSeconds_15 : decode cX11_ownSeconds 15 = .ok (.iload_n 2, 1) := by decide +kernel
theorem dX11_ownSeconds_16 : decode cX11_ownSeconds 16 = .ok (.iload_n 3, 1) := by decide +kernel
theorem dX11_ownSeconds_17 : decode cX11_ownSeconds 17 = .ok (.iadd, 1) := by decide +kernel
theorem dX11_ownSeconds_18 : decode cX11_ownSeconds 18 = .ok (.if_icmp .ge 62, 3) := by decide +kernel
theorem dX11_ownSeconds_21 : decode cX11_ownSeconds 21 = .ok (.iload 6, 2) := by decide +kernel
theorem dX11_ownSeconds_23 : decode cX11_ownSeconds 23 = .ok (.bipush 9, 2) := by decide +kernel
theorem dX11_ownSeconds_25 : decode cX11_ownSeconds 25 = .ok (.if_icmp .ge 55, 3) := by decide +kernel
theorem dX11_ownSeconds_28 : decode cX11_ownSeconds 28 = .ok (.aload 4, 2) := by decide +kernel
theorem dX11_ownSeconds_30 : decode cX11_ownSeconds 30 = .ok (.ifnull 50, 3) := by decide +kernel
theorem dX11_ownSeconds_33 : decode cX11_ownSeconds 33 = .ok (.aload_n 0, 1) := by decide +kernel
theorem dX11_ownSeconds_34 : decode cX11_ownSeconds 34 = .ok (.getfield 48, 3) := by decide +kernel
theorem dX11_ownSeconds_37 : decode cX11_ownSeconds 37 = .ok (.iload 6, 2) := by decide +kernel
theorem dX11_ownSeconds_39 : decode cX11_ownSeconds 39 = .ok (.invokevirtual 203, 3) := by decide +kernel
theorem dX11_ownSeconds_42 : decode cX11_ownSeconds 42 = .ok (.astore 7, 2) := by decide +kernel
theorem dX11_ownSeconds_44 : decode cX11_ownSeconds 44 = .ok (.iload 5, 2) := by decide +kernel
theorem dX11_ownSeconds_46 : decode cX11_ownSeconds 46 = .ok (.aload_n 0, 1) := by decide +kernel
theorem dX11_ownSeconds_47 : decode cX11_ownSeconds 47 = .ok (.getfield 48, 3) := by decide +kernel
theorem dX11_ownSeconds_50 : decode cX11_ownSeconds 50 = .ok (.aload 4, 2) := by decide +kernel
theorem dX11_ownSeconds_52 : decode cX11_ownSeconds 52 = .ok (.aload 7, 2) := by decide +kernel
theorem dX11_ownSeconds_54 : decode cX11_ownSeconds 54 = .ok (.iconst 0, 1) := by decide +kernel
theorem dX11_ownSeconds_55 : decode cX11_ownSeconds 55 = .ok (.invokevirtual 276, 3) := by decide +kernel
theorem dX11_ownSeconds_58 : decode cX11_ownSeconds 58 = .ok (.aload_n 0, 1) := by decide +kernel
theorem dX11_ownSeconds_59 : decode cX11_ownSeconds 59 = .ok (.getfield 48, 3) := by decide +kernel
theorem dX11_ownSeconds_62 : decode cX11_ownSeconds 62 = .ok (.aload 4, 2) := by decide +kernel
theorem dX11_ownSeconds_64 : decode cX11_ownSeconds 64 = .ok (.aload 7, 2) := by decide +kernel
theorem dX11_ownSeconds_66 : decode cX11_ownSeconds 66 = .ok (.iconst 0, 1) := by decide +kernel
theorem dX11_ownSeconds_67 : decode cX11_ownSeconds 67 = .ok (.invokevirtual 280, 3) := by decide +kernel
theorem dX11_ownSeconds_70 : decode cX11_ownSeconds 70 = .ok (.iadd, 1) := by decide +kernel
theorem dX11_ownSeconds_71 : decode cX11_ownSeconds 71 = .ok (.iadd, 1) := by decide +kernel
theorem dX11_ownSeconds_72 : decode cX11_ownSeconds 72 = .ok (.istore 5, 2) := by decide +kernel
theorem dX11_ownSeconds_74 : decode cX11_ownSeconds 74 = .ok (.iinc 6 1, 3) := by decide +kernel
theorem dX11_ownSeconds_77 : decode cX11_ownSeconds 77 = .ok (.goto (-64), 3) := by decide +kernel
theorem dX11_ownSeconds_80 : decode cX11_ownSeconds 80 = .ok (.iload 5, 2) := by decide +kernel
theorem dX11_ownSeconds_82 : decode cX11_ownSeconds 82 = .ok (.ireturn, 1) := by decide +kernel
theorem dX11_judge_0 : decode cX11_judge 0 = .ok (.aload_n 0, 1) := by decide +kernel
theorem dX11_judge_1 : decode cX11_judge 1 = .ok (.iload_n 1, 1) := by decide +kernel
theorem dX11_judge_2 : decode cX11_judge 2 = .ok (.iload_n 2, 1) := by decide +kernel
theorem dX11_judge_3 : decode cX11_judge 3 = .ok (.invokevirtual 283, 3) := by decide +kernel
theorem dX11_judge_6 : decode cX11_judge 6 = .ok (.istore_n 3, 1) := by decide +kernel
theorem dX11_judge_7 : decode cX11_judge 7 = .ok (.iload_n 3, 1) := by decide +kernel
theorem dX11_judge_8 : decode cX11_judge 8 = .ok (.ifCond .eq 5, 3) := by decide +kernel
theorem dX11_judge_11 : decode cX11_judge 11 = .ok (.iload_n 3, 1) := by decide +kernel
theorem dX11_judge_12 : decode cX11_judge 12 = .ok (.ireturn, 1) := by decide +kernel
theorem dX11_judge_13 : decode cX11_judge 13 = .ok (.aload_n 0, 1) := by decide +kernel
theorem dX11_judge_14 : decode cX11_judge 14 = .ok (.invokevirtual 167, 3) := by decide +kernel
theorem dX11_judge_17 : decode cX11_judge 17 = .ok (.aload_n 0, 1) := by decide +kernel
theorem dX11_judge_18 : decode cX11_judge 18 = .ok (.getfield 48, 3) := by decide +kernel
theorem dX11_judge_21 : decode cX11_judge 21 = .ok (.iload_n 2, 1) := by decide +kernel
theorem dX11_judge_22 : decode cX11_judge 22 = .ok (.invokevirtual 170, 3) := by decide +kernel
theorem dX11_judge_25 : decode cX11_judge 25 = .ok (.aload_n 0, 1) := by decide +kernel
theorem dX11_judge_26 : decode cX11_judge 26 = .ok (.iload_n 1, 1) := by decide +kernel
theorem dX11_judge_27 : decode cX11_judge 27 = .ok (.invokevirtual 286, 3) := by decide +kernel
theorem dX11_judge_30 : decode cX11_judge 30 = .ok (.ireturn, 1) := by decide +kernel
theorem dX11_when_0 : decode cX11_when 0 = .ok (.aload_n 0, 1) := by decide +kernel
theorem dX11_when_1 : decode cX11_when 1 = .ok (.iload_n 1, 1) := by decide +kernel
theorem dX11_when_2 : decode cX11_when 2 = .ok (.invokevirtual 289, 3) := by decide +kernel
theorem dX11_when_5 : decode cX11_when 5 = .ok (.istore_n 3, 1) := by decide +kernel
theorem dX11_when_6 : decode cX11_when 6 = .ok (.iload_n 3, 1) := by decide +kernel
theorem dX11_when_7 : decode cX11_when 7 = .ok (.ifCond .eq 5, 3) := by decide +kernel
theorem dX11_when_10 : decode cX11_when 10 = .ok (.iload_n 3, 1) := by decide +kernel
theorem dX11_when_11 : decode cX11_when 11 = .ok (.ireturn, 1) := by decide +kernel
theorem dX11_when_12 : decode cX11_when 12 = .ok (.iload_n 2, 1) := by decide +kernel
theorem dX11_when_13 : decode cX11_when 13 = .ok (.ifCond .lt 8, 3) := by decide +kernel
theorem dX11_when_16 : decode cX11_when 16 = .ok (.iload_n 2, 1) := by decide +kernel
theorem dX11_when_17 : decode cX11_when 17 = .ok (.iconst 1, 1) := by decide +kernel
theorem dX11_when_18 : decode cX11_when 18 = .ok (.if_icmp .le 6, 3) := by decide +kernel
theorem dX11_when_21 : decode cX11_when 21 = .ok (.bipush (-7), 2) := by decide +kernel
theorem dX11_when_23 : decode cX11_when 23 = .ok (.ireturn, 1) := by decide +kernel
theorem dX11_when_24 : decode cX11_when 24 = .ok (.iconst (-1), 1) := by decide +kernel
theorem dX11_when_25 : decode cX11_when 25 = .ok (.istore 4, 2) := by decide +kernel
theorem dX11_when_27 : decode cX11_when 27 = .ok (.iconst 0, 1) := by decide +kernel
theorem dX11_when_28 : decode cX11_when 28 = .ok (.istore 5, 2) := by decide +kernel
theorem dX11_when_30 : decode cX11_when 30 = .ok (.aload_n 0, 1) := by decide +kernel
theorem dX11_when_31 : decode cX11_when 31 = .ok (.invokevirtual 167, 3) := by decide +kernel
theorem dX11_when_34 : decode cX11_when 34 = .ok (.iconst 0, 1) := by decide +kernel
theorem dX11_when_35 : decode cX11_when 35 = .ok (.istore 6, 2) := by decide +kernel
theorem dX11_when_37 : decode cX11_when 37 = .ok (.iload 6, 2) := by decide +kernel
theorem dX11_when_39 : decode cX11_when 39 = .ok (.sipush 600, 3) := by decide +kernel
theorem dX11_when_42 : decode cX11_when 42 = .ok (.if_icmp .gt 49, 3) := by decide +kernel
theorem dX11_when_45 : decode cX11_when 45 = .ok (.iload 6, 2) := by decide +kernel
theorem dX11_when_47 : decode cX11_when 47 = .ok (.ifCond .le 11, 3) := by decide +kernel
theorem dX11_when_50 : decode cX11_when 50 = .ok (.aload_n 0, 1) := by decide +kernel
theorem dX11_when_51 : decode cX11_when 51 = .ok (.getfield 48, 3) := by decide +kernel
theorem dX11_when_54 : decode cX11_when 54 = .ok (.iconst 1, 1) := by decide +kernel
theorem dX11_when_55 : decode cX11_when 55 = .ok (.invokevirtual 170, 3) := by decide +kernel
theorem dX11_when_58 : decode cX11_when 58 = .ok (.aload_n 0, 1) := by decide +kernel
theorem dX11_when_59 : decode cX11_when 59 = .ok (.iload_n 1, 1) := by decide +kernel
theorem dX11_when_60 : decode cX11_when 60 = .ok (.invokevirtual 286, 3) := by decide +kernel
theorem dX11_when_63 : decode cX11_when 63 = .ok (.iconst (-1), 1) := by decide +kernel
theorem dX11_when_64 : decode cX11_when 64 = .ok (.if_icmp .ne 21, 3) := by decide +kernel
theorem dX11_when_67 : decode cX11_when 67 = .ok (.iinc 5 1, 3) := by decide +kernel
theorem dX11_when_70 : decode cX11_when 70 = .ok (.iload 4, 2) := by decide +kernel
theorem dX11_when_72 : decode cX11_when 72 = .ok (.iconst (-1), 1) := by decide +kernel
theorem dX11_when_73 : decode cX11_when 73 = .ok (.if_icmp .ne 8, 3) := by decide +kernel
theorem dX11_when_76 : decode cX11_when 76 = .ok (.iload 6, 2) := by decide +kernel
theorem dX11_when_78 : decode cX11_when 78 = .ok (.goto 5, 3) := by decide +kernel
theorem dX11_when_81 : decode cX11_when 81 = .ok (.iload 4, 2) := by decide +kernel
theorem dX11_when_83 : decode cX11_when 83 = .ok (.istore 4, 2) := by decide +kernel
theorem dX11_when_85 : decode cX11_when 85 = .ok (.iinc 6 1, 3) := by decide +kernel
theorem dX11_when_88 : decode cX11_when 88 = .ok (.goto (-51), 3) := by decide +kernel
theorem dX11_when_91 : decode cX11_when 91 = .ok (.iload_n 2, 1) := by decide +kernel
theorem dX11_when_92 : decode cX11_when 92 = .ok (.ifCond .ne 8, 3) := by decide +kernel
theorem dX11_when_95 : decode cX11_when 95 = .ok (.iload 4, 2) := by decide +kernel
theorem dX11_when_97 : decode cX11_when 97 = .ok (.goto 5, 3) := by decide +kernel
theorem dX11_when_100 : decode cX11_when 100 = .ok (.iload 5, 2) := by decide +kernel
theorem dX11_when_102 : decode cX11_when 102 = .ok (.ireturn, 1) := by decide +kernel
theorem dX11_sticks_0 : decode cX11_sticks 0 = .ok (.aload_n 0, 1) := by decide +kernel
theorem dX11_sticks_1 : decode cX11_sticks 1 = .ok (.iload_n 1, 1) := by decide +kernel
theorem dX11_sticks_2 : decode cX11_sticks 2 = .ok (.iload_n 2, 1) := by decide +kernel
theorem dX11_sticks_3 : decode cX11_sticks 3 = .ok (.invokevirtual 283, 3) := by decide +kernel
theorem dX11_sticks_6 : decode cX11_sticks 6 = .ok (.istore 4, 2) := by decide +kernel
theorem dX11_sticks_8 : decode cX11_sticks 8 = .ok (.iload 4, 2) := by decide +kernel
theorem dX11_sticks_10 : decode cX11_sticks 10 = .ok (.ifCond .eq 6, 3) := by decide +kernel
theorem dX11_sticks_13 : decode cX11_sticks 13 = .ok (.iload 4, 2) := by decide +kernel
theorem dX11_sticks_15 : decode cX11_sticks 15 = .ok (.ireturn, 1) := by decide +kernel
theorem dX11_sticks_16 : decode cX11_sticks 16 = .ok (.iload_n 3, 1) := by decide +kernel
theorem dX11_sticks_17 : decode cX11_sticks 17 = .ok (.invokestatic 107, 3) := by decide +kernel
theorem dX11_sticks_20 : decode cX11_sticks 20 = .ok (.ifCond .eq 6, 3) := by decide +kernel
theorem dX11_sticks_23 : decode cX11_sticks 23 = .ok (.bipush (-6), 2) := by decide +kernel
theorem dX11_sticks_25 : decode cX11_sticks 25 = .ok (.ireturn, 1) := by decide +kernel
theorem dX11_sticks_26 : decode cX11_sticks 26 = .ok (.iconst 0, 1) := by decide +kernel
theorem dX11_sticks_27 : decode cX11_sticks 27 = .ok (.istore 5, 2) := by decide +kernel
theorem dX11_sticks_29 : decode cX11_sticks 29 = .ok (.iconst 0, 1) := by decide +kernel
theorem dX11_sticks_30 : decode cX11_sticks 30 = .ok (.istore 6, 2) := by decide +kernel
theorem dX11_sticks_32 : decode cX11_sticks 32 = .ok (.iload 6, 2) := by decide +kernel
theorem dX11_sticks_34 : decode cX11_sticks 34 = .ok (.bipush 9, 2) := by decide +kernel
theorem dX11_sticks_36 : decode cX11_sticks 36 = .ok (.if_icmp .gt 56, 3) := by decide +kernel
theorem dX11_sticks_39 : decode cX11_sticks 39 = .ok (.aload_n 0, 1) := by decide +kernel
theorem dX11_sticks_40 : decode cX11_sticks 40 = .ok (.invokevirtual 167, 3) := by decide +kernel
theorem dX11_sticks_43 : decode cX11_sticks 43 = .ok (.aload_n 0, 1) := by decide +kernel
theorem dX11_sticks_44 : decode cX11_sticks 44 = .ok (.getfield 48, 3) := by decide +kernel
theorem dX11_sticks_47 : decode cX11_sticks 47 = .ok (.iload_n 3, 1) := by decide +kernel
theorem dX11_sticks_48 : decode cX11_sticks 48 = .ok (.invokevirtual 203, 3) := by decide +kernel
theorem dX11_sticks_51 : decode cX11_sticks 51 = .ok (.iload 6, 2) := by decide +kernel
theorem dX11_sticks_53 : decode cX11_sticks 53 = .ok (.putfield 292, 3) := by decide +kernel
theorem dX11_sticks_56 : decode cX11_sticks 56 = .ok (.aload_n 0, 1) := by decide +kernel
theorem dX11_sticks_57 : decode cX11_sticks 57 = .ok (.getfield 48, 3) := by decide +kernel
theorem dX11_sticks_60 : decode cX11_sticks 60 = .ok (.iload_n 2, 1) := by decide +kernel
theorem dX11_sticks_61 : decode cX11_sticks 61 = .ok (.invokevirtual 170, 3) := by decide +kernel
theorem dX11_sticks_64 : decode cX11_sticks 64 = .ok (.iload 5, 2) := by decide +kernel
theorem dX11_sticks_66 : decode cX11_sticks 66 = .ok (.aload_n 0, 1) := by decide +kernel
theorem dX11_sticks_67 : decode cX11_sticks 67 = .ok (.iload_n 1, 1) := by decide +kernel
theorem dX11_sticks_68 : decode cX11_sticks 68 = .ok (.invokevirtual 286, 3) := by decide +kernel
theorem dX11_sticks_71 : decode cX11_sticks 71 = .ok (.iconst (-1), 1) := by decide +kernel
theorem dX11_sticks_72 : decode cX11_sticks 72 = .ok (.if_icmp .ne 10, 3) := by decide +kernel
theorem dX11_sticks_75 : decode cX11_sticks 75 = .ok (.iconst 1, 1) := by decide +kernel
theorem dX11_sticks_76 : decode cX11_sticks 76 = .ok (.iload 6, 2) := by decide +kernel
theorem dX11_sticks_78 : decode cX11_sticks 78 = .ok (.ishl, 1) := by decide +kernel
theorem dX11_sticks_79 : decode cX11_sticks 79 = .ok (.goto 4, 3) := by decide +kernel
theorem dX11_sticks_82 : decode cX11_sticks 82 = .ok (.iconst 0, 1) := by decide +kernel
theorem dX11_sticks_83 : decode cX11_sticks 83 = .ok (.ior, 1) := by decide +kernel
theorem dX11_sticks_84 : decode cX11_sticks 84 = .ok (.istore 5, 2) := by decide +kernel
theorem dX11_sticks_86 : decode cX11_sticks 86 = .ok (.iinc 6 1, 3) := by decide +kernel
theorem dX11_sticks_89 : decode cX11_sticks 89 = .ok (.goto (-57), 3) := by decide +kernel
theorem dX11_sticks_92 : decode cX11_sticks 92 = .ok (.iload 5, 2) := by decide +kernel
theorem dX11_sticks_94 : decode cX11_sticks 94 = .ok (.ireturn, 1) := by decide +kernel
theorem dX11_kinds_0 : decode cX11_kinds 0 = .ok (.aload_n 0, 1) := by decide +kernel
theorem dX11_kinds_1 : decode cX11_kinds 1 = .ok (.iload_n 1, 1) := by decide +kernel
theorem dX11_kinds_2 : decode cX11_kinds 2 = .ok (.iload_n 2, 1) := by decide +kernel
theorem dX11_kinds_3 : decode cX11_kinds 3 = .ok (.invokevirtual 283, 3) := by decide +kernel
theorem dX11_kinds_6 : decode cX11_kinds 6 = .ok (.istore 4, 2) := by decide +kernel
theorem dX11_kinds_8 : decode cX11_kinds 8 = .ok (.iload 4, 2) := by decide +kernel
theorem dX11_kinds_10 : decode cX11_kinds 10 = .ok (.ifCond .eq 6, 3) := by decide +kernel
theorem dX11_kinds_13 : decode cX11_kinds 13 = .ok (.iload 4, 2) := by decide +kernel
theorem dX11_kinds_15 : decode cX11_kinds 15 = .ok (.ireturn, 1) := by decide +kernel
theorem dX11_kinds_16 : decode cX11_kinds 16 = .ok (.aload_n 0, 1) := by decide +kernel
theorem dX11_kinds_17 : decode cX11_kinds 17 = .ok (.iload_n 3, 1) := by decide +kernel
theorem dX11_kinds_18 : decode cX11_kinds 18 = .ok (.bipush 100, 2) := by decide +kernel
theorem dX11_kinds_20 : decode cX11_kinds 20 = .ok (.invokestatic 126, 3) := by decide +kernel
theorem dX11_kinds_23 : decode cX11_kinds 23 = .ok (.invokevirtual 135, 3) := by decide +kernel
theorem dX11_kinds_26 : decode cX11_kinds 26 = .ok (.astore 5, 2) := by decide +kernel
theorem dX11_kinds_28 : decode cX11_kinds 28 = .ok (.aload 5, 2) := by decide +kernel
theorem dX11_kinds_30 : decode cX11_kinds 30 = .ok (.ifnonnull 6, 3) := by decide +kernel
theorem dX11_kinds_33 : decode cX11_kinds 33 = .ok (.bipush (-5), 2) := by decide +kernel
theorem dX11_kinds_35 : decode cX11_kinds 35 = .ok (.ireturn, 1) := by decide +kernel
theorem dX11_kinds_36 : decode cX11_kinds 36 = .ok (.iload_n 3, 1) := by decide +kernel
theorem dX11_kinds_37 : decode cX11_kinds 37 = .ok (.bipush 100, 2) := by decide +kernel
theorem dX11_kinds_39 : decode cX11_kinds 39 = .ok (.invokestatic 132, 3) := by decide +kernel
theorem dX11_kinds_42 : decode cX11_kinds 42 = .ok (.istore 6, 2) := by decide +kernel
theorem dX11_kinds_44 : decode cX11_kinds 44 = .ok (.iload 6, 2) := by decide +kernel
theorem dX11_kinds_46 : decode cX11_kinds 46 = .ok (.iconst 1, 1) := by decide +kernel
theorem dX11_kinds_47 : decode cX11_kinds 47 = .ok (.if_icmp .le 6, 3) := by decide +kernel
theorem dX11_kinds_50 : decode cX11_kinds 50 = .ok (.bipush (-7), 2) := by decide +kernel
theorem dX11_kinds_52 : decode cX11_kinds 52 = .ok (.ireturn, 1) := by decide +kernel
theorem dX11_kinds_53 : decode cX11_kinds 53 = .ok (.iconst 0, 1) := by decide +kernel
theorem dX11_kinds_54 : decode cX11_kinds 54 = .ok (.istore 7, 2) := by decide +kernel
theorem dX11_kinds_56 : decode cX11_kinds 56 = .ok (.iconst 0, 1) := by decide +kernel
theorem dX11_kinds_57 : decode cX11_kinds 57 = .ok (.istore 8, 2) := by decide +kernel
theorem dX11_kinds_59 : decode cX11_kinds 59 = .ok (.iload 8, 2) := by decide +kernel
theorem dX11_kinds_61 : decode cX11_kinds 61 = .ok (.iload 6, 2) := by decide +kernel
theorem dX11_kinds_63 : decode cX11_kinds 63 = .ok (.ifCond .ne 8, 3) := by decide +kernel
theorem dX11_kinds_66 : decode cX11_kinds 66 = .ok (.bipush 6, 2) := by decide +kernel
theorem dX11_kinds_68 : decode cX11_kinds 68 = .ok (.goto 5, 3) := by decide +kernel
theorem dX11_kinds_71 : decode cX11_kinds 71 = .ok (.bipush 9, 2) := by decide +kernel
theorem dX11_kinds_73 : decode cX11_kinds 73 = .ok (.if_icmp .ge 94, 3) := by decide +kernel
theorem dX11_kinds_76 : decode cX11_kinds 76 = .ok (.iload 6, 2) := by decide +kernel
theorem dX11_kinds_78 : decode cX11_kinds 78 = .ok (.ifCond .ne 8, 3) := by decide +kernel
theorem dX11_kinds_81 : decode cX11_kinds 81 = .ok (.iload 8, 2) := by decide +kernel
theorem dX11_kinds_83 : decode cX11_kinds 83 = .ok (.goto 8, 3) := by decide +kernel
theorem dX11_kinds_86 : decode cX11_kinds 86 = .ok (.aload 5, 2) := by decide +kernel
theorem dX11_kinds_88 : decode cX11_kinds 88 = .ok (.invokevirtual 154, 3) := by decide +kernel
theorem dX11_kinds_91 : decode cX11_kinds 91 = .ok (.istore 9, 2) := by decide +kernel
theorem dX11_kinds_93 : decode cX11_kinds 93 = .ok (.iload 6, 2) := by decide +kernel
theorem dX11_kinds_95 : decode cX11_kinds 95 = .ok (.ifCond .ne 11, 3) := by decide +kernel
theorem dX11_kinds_98 : decode cX11_kinds 98 = .ok (.aload 5, 2) := by decide +kernel
theorem dX11_kinds_100 : decode cX11_kinds 100 = .ok (.getfield 151, 3) := by decide +kernel
theorem dX11_kinds_103 : decode cX11_kinds 103 = .ok (.goto 5, 3) := by decide +kernel
theorem dX11_kinds_106 : decode cX11_kinds 106 = .ok (.iload 8, 2) := by decide +kernel
theorem dX11_kinds_108 : decode cX11_kinds 108 = .ok (.istore 10, 2) := by decide +kernel
theorem dX11_kinds_110 : decode cX11_kinds 110 = .ok (.aload_n 0, 1) := by decide +kernel
theorem dX11_kinds_111 : decode cX11_kinds 111 = .ok (.iload 9, 2) := by decide +kernel
theorem dX11_kinds_113 : decode cX11_kinds 113 = .ok (.aload 5, 2) := by decide +kernel
theorem dX11_kinds_115 : decode cX11_kinds 115 = .ok (.getfield 294, 3) := by decide +kernel
theorem dX11_kinds_118 : decode cX11_kinds 118 = .ok (.aload 5, 2) := by decide +kernel
theorem dX11_kinds_120 : decode cX11_kinds 120 = .ok (.getfield 157, 3) := by decide +kernel
theorem dX11_kinds_123 : decode cX11_kinds 123 = .ok (.iload 10, 2) := by decide +kernel
theorem dX11_kinds_125 : decode cX11_kinds 125 = .ok (.invokestatic 147, 3) := by decide +kernel
theorem dX11_kinds_128 : decode cX11_kinds 128 = .ok (.invokevirtual 297, 3) := by decide +kernel
theorem dX11_kinds_131 : decode cX11_kinds 131 = .ok (.aload_n 0, 1) := by decide +kernel
theorem dX11_kinds_132 : decode cX11_kinds 132 = .ok (.getfield 48, 3) := by decide +kernel
theorem dX11_kinds_135 : decode cX11_kinds 135 = .ok (.iload_n 2, 1) := by decide +kernel
theorem dX11_kinds_136 : decode cX11_kinds 136 = .ok (.invokevirtual 170, 3) := by decide +kernel
theorem dX11_kinds_139 : decode cX11_kinds 139 = .ok (.iload 7, 2) := by decide +kernel
theorem dX11_kinds_141 : decode cX11_kinds 141 = .ok (.aload_n 0, 1) := by decide +kernel
theorem dX11_kinds_142 : decode cX11_kinds 142 = .ok (.iload_n 1, 1) := by decide +kernel
theorem dX11_kinds_143 : decode cX11_kinds 143 = .ok (.invokevirtual 286, 3) := by decide +kernel
theorem dX11_kinds_146 : decode cX11_kinds 146 = .ok (.iconst (-1), 1) := by decide +kernel
theorem dX11_kinds_147 : decode cX11_kinds 147 = .ok (.if_icmp .ne 10, 3) := by decide +kernel
theorem dX11_kinds_150 : decode cX11_kinds 150 = .ok (.iconst 1, 1) := by decide +kernel
theorem dX11_kinds_151 : decode cX11_kinds 151 = .ok (.iload 8, 2) := by decide +kernel
theorem dX11_kinds_153 : decode cX11_kinds 153 = .ok (.ishl, 1) := by decide +kernel
theorem dX11_kinds_154 : decode cX11_kinds 154 = .ok (.goto 4, 3) := by decide +kernel
theorem dX11_kinds_157 : decode cX11_kinds 157 = .ok (.iconst 0, 1) := by decide +kernel
theorem dX11_kinds_158 : decode cX11_kinds 158 = .ok (.ior, 1) := by decide +kernel
theorem dX11_kinds_159 : decode cX11_kinds 159 = .ok (.istore 7, 2) := by decide +kernel
theorem dX11_kinds_161 : decode cX11_kinds 161 = .ok (.iinc 8 1, 3) := by decide +kernel
theorem dX11_kinds_164 : decode cX11_kinds 164 = .ok (.goto (-105), 3) := by decide +kernel
theorem dX11_kinds_167 : decode cX11_kinds 167 = .ok (.iload 7, 2) := by decide +kernel
theorem dX11_kinds_169 : decode cX11_kinds 169 = .ok (.ireturn, 1) := by decide +kernel
theorem dX11_laws_0 : decode cX11_laws 0 = .ok (.aload_n 0, 1) := by decide +kernel
theorem dX11_laws_1 : decode cX11_laws 1 = .ok (.iload_n 1, 1) := by decide +kernel
theorem dX11_laws_2 : decode cX11_laws 2 = .ok (.iload_n 2, 1) := by decide +kernel
theorem dX11_laws_3 : decode cX11_laws 3 = .ok (.invokevirtual 283, 3) := by decide +kernel
theorem dX11_laws_6 : decode cX11_laws 6 = .ok (.istore_n 3, 1) := by decide +kernel
theorem dX11_laws_7 : decode cX11_laws 7 = .ok (.iload_n 3, 1) := by decide +kernel
theorem dX11_laws_8 : decode cX11_laws 8 = .ok (.ifCond .eq 5, 3) := by decide +kernel
theorem dX11_laws_11 : decode cX11_laws 11 = .ok (.iload_n 3, 1) := by decide +kernel
theorem dX11_laws_12 : decode cX11_laws 12 = .ok (.ireturn, 1) := by decide +kernel
theorem dX11_laws_13 : decode cX11_laws 13 = .ok (.iconst 0, 1) := by decide +kernel
theorem dX11_laws_14 : decode cX11_laws 14 = .ok (.istore 4, 2) := by decide +kernel
theorem dX11_laws_16 : decode cX11_laws 16 = .ok (.iconst 0, 1) := by decide +kernel
theorem dX11_laws_17 : decode cX11_laws 17 = .ok (.istore 5, 2) := by decide +kernel
theorem dX11_laws_19 : decode cX11_laws 19 = .ok (.iload 5, 2) := by decide +kernel
theorem dX11_laws_21 : decode cX11_laws 21 = .ok (.aload_n 0, 1) := by decide +kernel
theorem dX11_laws_22 : decode cX11_laws 22 = .ok (.getfield 90, 3) := by decide +kernel
theorem dX11_laws_25 : decode cX11_laws 25 = .ok (.if_icmp .ge 56, 3) := by decide +kernel
theorem dX11_laws_28 : decode cX11_laws 28 = .ok (.aload_n 0, 1) := by decide +kernel
theorem dX11_laws_29 : decode cX11_laws 29 = .ok (.invokevirtual 167, 3) := by decide +kernel
theorem dX11_laws_32 : decode cX11_laws 32 = .ok (.aload_n 0, 1) := by decide +kernel
theorem dX11_laws_33 : decode cX11_laws 33 = .ok (.getfield 48, 3) := by decide +kernel
theorem dX11_laws_36 : decode cX11_laws 36 = .ok (.aload_n 0, 1) := by decide +kernel
theorem dX11_laws_37 : decode cX11_laws 37 = .ok (.iload 5, 2) := by decide +kernel
theorem dX11_laws_39 : decode cX11_laws 39 = .ok (.invokevirtual 139, 3) := by decide +kernel
theorem dX11_laws_42 : decode cX11_laws 42 = .ok (.putfield 300, 3) := by decide +kernel
theorem dX11_laws_45 : decode cX11_laws 45 = .ok (.aload_n 0, 1) := by decide +kernel
theorem dX11_laws_46 : decode cX11_laws 46 = .ok (.getfield 48, 3) := by decide +kernel
theorem dX11_laws_49 : decode cX11_laws 49 = .ok (.iload_n 2, 1) := by decide +kernel
theorem dX11_laws_50 : decode cX11_laws 50 = .ok (.invokevirtual 170, 3) := by decide +kernel
theorem dX11_laws_53 : decode cX11_laws 53 = .ok (.iload 4, 2) := by decide +kernel
theorem dX11_laws_55 : decode cX11_laws 55 = .ok (.aload_n 0, 1) := by decide +kernel
theorem dX11_laws_56 : decode cX11_laws 56 = .ok (.iload_n 1, 1) := by decide +kernel
theorem dX11_laws_57 : decode cX11_laws 57 = .ok (.invokevirtual 286, 3) := by decide +kernel
theorem dX11_laws_60 : decode cX11_laws 60 = .ok (.iconst (-1), 1) := by decide +kernel
theorem dX11_laws_61 : decode cX11_laws 61 = .ok (.if_icmp .ne 10, 3) := by decide +kernel
theorem dX11_laws_64 : decode cX11_laws 64 = .ok (.iconst 1, 1) := by decide +kernel
theorem dX11_laws_65 : decode cX11_laws 65 = .ok (.iload 5, 2) := by decide +kernel
theorem dX11_laws_67 : decode cX11_laws 67 = .ok (.ishl, 1) := by decide +kernel
theorem dX11_laws_68 : decode cX11_laws 68 = .ok (.goto 4, 3) := by decide +kernel
theorem dX11_laws_71 : decode cX11_laws 71 = .ok (.iconst 0, 1) := by decide +kernel
theorem dX11_laws_72 : decode cX11_laws 72 = .ok (.ior, 1) := by decide +kernel
theorem dX11_laws_73 : decode cX11_laws 73 = .ok (.istore 4, 2) := by decide +kernel
theorem dX11_laws_75 : decode cX11_laws 75 = .ok (.iinc 5 1, 3) := by decide +kernel
theorem dX11_laws_78 : decode cX11_laws 78 = .ok (.goto (-59), 3) := by decide +kernel
theorem dX11_laws_81 : decode cX11_laws 81 = .ok (.iload 4, 2) := by decide +kernel
theorem dX11_laws_83 : decode cX11_laws 83 = .ok (.ireturn, 1) := by decide +kernel
theorem dX11_film_0 : decode cX11_film 0 = .ok (.aload_n 0, 1) := by decide +kernel
theorem dX11_film_1 : decode cX11_film 1 = .ok (.iload_n 1, 1) := by decide +kernel
theorem dX11_film_2 : decode cX11_film 2 = .ok (.invokevirtual 303, 3) := by decide +kernel
theorem dX11_film_5 : decode cX11_film 5 = .ok (.astore_n 3, 1) := by decide +kernel
theorem dX11_film_6 : decode cX11_film 6 = .ok (.aload_n 3, 1) := by decide +kernel
theorem dX11_film_7 : decode cX11_film 7 = .ok (.ifnull 10, 3) := by decide +kernel
theorem dX11_film_10 : decode cX11_film 10 = .ok (.iload_n 2, 1) := by decide +kernel
theorem dX11_film_11 : decode cX11_film 11 = .ok (.invokestatic 164, 3) := by decide +kernel
theorem dX11_film_14 : decode cX11_film 14 = .ok (.ifCond .eq 6, 3) := by decide +kernel
theorem dX11_film_17 : decode cX11_film 17 = .ok (.bipush (-2), 2) := by decide +kernel
theorem dX11_film_19 : decode cX11_film 19 = .ok (.ireturn, 1) := by decide +kernel
theorem dX11_film_20 : decode cX11_film 20 = .ok (.aload_n 0, 1) := by decide +kernel
theorem dX11_film_21 : decode cX11_film 21 = .ok (.invokevirtual 167, 3) := by decide +kernel
theorem dX11_film_24 : decode cX11_film 24 = .ok (.aload_n 0, 1) := by decide +kernel
theorem dX11_film_25 : decode cX11_film 25 = .ok (.getfield 48, 3) := by decide +kernel
theorem dX11_film_28 : decode cX11_film 28 = .ok (.iload_n 2, 1) := by decide +kernel
theorem dX11_film_29 : decode cX11_film 29 = .ok (.invokevirtual 170, 3) := by decide +kernel
theorem dX11_film_32 : decode cX11_film 32 = .ok (.aload_n 3, 1) := by decide +kernel
theorem dX11_film_33 : decode cX11_film 33 = .ok (.iconst 1, 1) := by decide +kernel
theorem dX11_film_34 : decode cX11_film 34 = .ok (.bipush 9, 2) := by decide +kernel
theorem dX11_film_36 : decode cX11_film 36 = .ok (.invokevirtual 307, 3) := by decide +kernel
theorem dX11_film_39 : decode cX11_film 39 = .ok (.iconst 0, 1) := by decide +kernel
theorem dX11_film_40 : decode cX11_film 40 = .ok (.istore 4, 2) := by decide +kernel
theorem dX11_film_42 : decode cX11_film 42 = .ok (.iload 4, 2) := by decide +kernel
theorem dX11_film_44 : decode cX11_film 44 = .ok (.bipush 9, 2) := by decide +kernel
theorem dX11_film_46 : decode cX11_film 46 = .ok (.if_icmp .ge 27, 3) := by decide +kernel
theorem dX11_film_49 : decode cX11_film 49 = .ok (.aload_n 3, 1) := by decide +kernel
theorem dX11_film_50 : decode cX11_film 50 = .ok (.iload 4, 2) := by decide +kernel
theorem dX11_film_52 : decode cX11_film 52 = .ok (.aload_n 0, 1) := by decide +kernel
theorem dX11_film_53 : decode cX11_film 53 = .ok (.getfield 48, 3) := by decide +kernel
theorem dX11_film_56 : decode cX11_film 56 = .ok (.iload 4, 2) := by decide +kernel
theorem dX11_film_58 : decode cX11_film 58 = .ok (.invokevirtual 203, 3) := by decide +kernel
theorem dX11_film_61 : decode cX11_film 61 = .ok (.getfield 207, 3) := by decide +kernel
theorem dX11_film_64 : decode cX11_film 64 = .ok (.invokevirtual 310, 3) := by decide +kernel
theorem dX11_film_67 : decode cX11_film 67 = .ok (.iinc 4 1, 3) := by decide +kernel
theorem dX11_film_70 : decode cX11_film 70 = .ok (.goto (-28), 3) := by decide +kernel
theorem dX11_film_73 : decode cX11_film 73 = .ok (.bipush 9, 2) := by decide +kernel
theorem dX11_film_75 : decode cX11_film 75 = .ok (.ireturn, 1) := by decide +kernel
theorem dX11_refusedTelling_0 : decode cX11_refusedTelling 0 = .ok (.aload_n 0, 1) := by decide +kernel
theorem dX11_refusedTelling_1 : decode cX11_refusedTelling 1 = .ok (.iload_n 1, 1) := by decide +kernel
theorem dX11_refusedTelling_2 : decode cX11_refusedTelling 2 = .ok (.invokevirtual 303, 3) := by decide +kernel
theorem dX11_refusedTelling_5 : decode cX11_refusedTelling 5 = .ok (.astore_n 2, 1) := by decide +kernel
theorem dX11_refusedTelling_6 : decode cX11_refusedTelling 6 = .ok (.aload_n 2, 1) := by decide +kernel
theorem dX11_refusedTelling_7 : decode cX11_refusedTelling 7 = .ok (.ifnonnull 6, 3) := by decide +kernel
theorem dX11_refusedTelling_10 : decode cX11_refusedTelling 10 = .ok (.bipush (-2), 2) := by decide +kernel
theorem dX11_refusedTelling_12 : decode cX11_refusedTelling 12 = .ok (.ireturn, 1) := by decide +kernel
theorem dX11_refusedTelling_13 : decode cX11_refusedTelling 13 = .ok (.aload_n 2, 1) := by decide +kernel
theorem dX11_refusedTelling_14 : decode cX11_refusedTelling 14 = .ok (.invokevirtual 313, 3) := by decide +kernel
theorem dX11_refusedTelling_17 : decode cX11_refusedTelling 17 = .ok (.ifCond .eq 6, 3) := by decide +kernel
theorem dX11_refusedTelling_20 : decode cX11_refusedTelling 20 = .ok (.bipush (-11), 2) := by decide +kernel
theorem dX11_refusedTelling_22 : decode cX11_refusedTelling 22 = .ok (.ireturn, 1) := by decide +kernel
theorem dX11_refusedTelling_23 : decode cX11_refusedTelling 23 = .ok (.aload_n 2, 1) := by decide +kernel
theorem dX11_refusedTelling_24 : decode cX11_refusedTelling 24 = .ok (.getfield 316, 3) := by decide +kernel
theorem dX11_refusedTelling_27 : decode cX11_refusedTelling 27 = .ok (.bipush 9, 2) := by decide +kernel
theorem dX11_refusedTelling_29 : decode cX11_refusedTelling 29 = .ok (.if_icmp .ne 7, 3) := by decide +kernel
theorem dX11_refusedTelling_32 : decode cX11_refusedTelling 32 = .ok (.iconst 0, 1) := by decide +kernel
theorem dX11_refusedTelling_33 : decode cX11_refusedTelling 33 = .ok (.goto 5, 3) := by decide +kernel
theorem dX11_refusedTelling_36 : decode cX11_refusedTelling 36 = .ok (.bipush (-2), 2) := by decide +kernel
theorem dX11_refusedTelling_38 : decode cX11_refusedTelling 38 = .ok (.ireturn, 1) := by decide +kernel
theorem dX11_refusedJudging_0 : decode cX11_refusedJudging 0 = .ok (.aload_n 0, 1) := by decide +kernel
theorem dX11_refusedJudging_1 : decode cX11_refusedJudging 1 = .ok (.iload_n 1, 1) := by decide +kernel
theorem dX11_refusedJudging_2 : decode cX11_refusedJudging 2 = .ok (.invokevirtual 289, 3) := by decide +kernel
theorem dX11_refusedJudging_5 : decode cX11_refusedJudging 5 = .ok (.istore_n 3, 1) := by decide +kernel
theorem dX11_refusedJudging_6 : decode cX11_refusedJudging 6 = .ok (.iload_n 3, 1) := by decide +kernel
theorem dX11_refusedJudging_7 : decode cX11_refusedJudging 7 = .ok (.ifCond .ne 15, 3) := by decide +kernel
theorem dX11_refusedJudging_10 : decode cX11_refusedJudging 10 = .ok (.iload_n 2, 1) := by decide +kernel
theorem dX11_refusedJudging_11 : decode cX11_refusedJudging 11 = .ok (.invokestatic 164, 3) := by decide +kernel
theorem dX11_refusedJudging_14 : decode cX11_refusedJudging 14 = .ok (.ifCond .eq 8, 3) := by decide +kernel
theorem dX11_refusedJudging_17 : decode cX11_refusedJudging 17 = .ok (.bipush (-7), 2) := by decide +kernel
theorem dX11_refusedJudging_19 : decode cX11_refusedJudging 19 = .ok (.goto 4, 3) := by decide +kernel
theorem dX11_refusedJudging_22 : decode cX11_refusedJudging 22 = .ok (.iload_n 3, 1) := by decide +kernel
theorem dX11_refusedJudging_23 : decode cX11_refusedJudging 23 = .ok (.ireturn, 1) := by decide +kernel
theorem dX11_firstOtherwise_0 : decode cX11_firstOtherwise 0 = .ok (.aload_n 0, 1) := by decide +kernel
theorem dX11_firstOtherwise_1 : decode cX11_firstOtherwise 1 = .ok (.iload_n 1, 1) := by decide +kernel
theorem dX11_firstOtherwise_2 : decode cX11_firstOtherwise 2 = .ok (.invokevirtual 303, 3) := by decide +kernel
theorem dX11_firstOtherwise_5 : decode cX11_firstOtherwise 5 = .ok (.astore_n 2, 1) := by decide +kernel
theorem dX11_firstOtherwise_6 : decode cX11_firstOtherwise 6 = .ok (.iconst 0, 1) := by decide +kernel
theorem dX11_firstOtherwise_7 : decode cX11_firstOtherwise 7 = .ok (.istore_n 3, 1) := by decide +kernel
theorem dX11_firstOtherwise_8 : decode cX11_firstOtherwise 8 = .ok (.iload_n 3, 1) := by decide +kernel
theorem dX11_firstOtherwise_9 : decode cX11_firstOtherwise 9 = .ok (.bipush 9, 2) := by decide +kernel
theorem dX11_firstOtherwise_11 : decode cX11_firstOtherwise 11 = .ok (.if_icmp .ge 35, 3) := by decide +kernel
theorem dX11_firstOtherwise_14 : decode cX11_firstOtherwise 14 = .ok (.aload_n 2, 1) := by decide +kernel
theorem dX11_firstOtherwise_15 : decode cX11_firstOtherwise 15 = .ok (.ifnull 31, 3) := by decide +kernel
theorem dX11_firstOtherwise_18 : decode cX11_firstOtherwise 18 = .ok (.aload_n 2, 1) := by decide +kernel
theorem dX11_firstOtherwise_19 : decode cX11_firstOtherwise 19 = .ok (.getfield 317, 3) := by decide +kernel
theorem dX11_firstOtherwise_22 : decode cX11_firstOtherwise 22 = .ok (.iload_n 3, 1) := by decide +kernel
theorem dX11_firstOtherwise_23 : decode cX11_firstOtherwise 23 = .ok (.iaload, 1) := by decide +kernel
theorem dX11_firstOtherwise_24 : decode cX11_firstOtherwise 24 = .ok (.aload_n 0, 1) := by decide +kernel
theorem dX11_firstOtherwise_25 : decode cX11_firstOtherwise 25 = .ok (.getfield 48, 3) := by decide +kernel
theorem dX11_firstOtherwise_28 : decode cX11_firstOtherwise 28 = .ok (.iload_n 3, 1) := by decide +kernel
theorem dX11_firstOtherwise_29 : decode cX11_firstOtherwise 29 = .ok (.invokevirtual 203, 3) := by decide +kernel
theorem dX11_firstOtherwise_32 : decode cX11_firstOtherwise 32 = .ok (.getfield 207, 3) := by decide +kernel
theorem dX11_firstOtherwise_35 : decode cX11_firstOtherwise 35 = .ok (.if_icmp .eq 5, 3) := by decide +kernel
theorem dX11_firstOtherwise_38 : decode cX11_firstOtherwise 38 = .ok (.iload_n 3, 1) := by decide +kernel
theorem dX11_firstOtherwise_39 : decode cX11_firstOtherwise 39 = .ok (.ireturn, 1) := by decide +kernel
theorem dX11_firstOtherwise_40 : decode cX11_firstOtherwise 40 = .ok (.iinc 3 1, 3) := by decide +kernel
theorem dX11_firstOtherwise_43 : decode cX11_firstOtherwise 43 = .ok (.goto (-35), 3) := by decide +kernel
theorem dX11_firstOtherwise_46 : decode cX11_firstOtherwise 46 = .ok (.iconst (-1), 1) := by decide +kernel
theorem dX11_firstOtherwise_47 : decode cX11_firstOtherwise 47 = .ok (.ireturn, 1) := by decide +kernel
theorem dX11_drawn_0 : decode cX11_drawn 0 = .ok (.iload_n 1, 1) := by decide +kernel
theorem dX11_drawn_1 : decode cX11_drawn 1 = .ok (.ifCond .lt 19, 3) := by decide +kernel
theorem dX11_drawn_4 : decode cX11_drawn 4 = .ok (.iload_n 1, 1) := by decide +kernel
theorem dX11_drawn_5 : decode cX11_drawn 5 = .ok (.ldc_w 320, 3) := by decide +kernel
theorem dX11_drawn_8 : decode cX11_drawn 8 = .ok (.if_icmp .gt 12, 3) := by decide +kernel
theorem dX11_drawn_11 : decode cX11_drawn 11 = .ok (.iload_n 2, 1) := by decide +kernel
theorem dX11_drawn_12 : decode cX11_drawn 12 = .ok (.ifCond .lt 8, 3) := by decide +kernel
theorem dX11_drawn_15 : decode cX11_drawn 15 = .ok (.iload_n 2, 1) := by decide +kernel
theorem dX11_drawn_16 : decode cX11_drawn 16 = .ok (.iconst 2, 1) := by decide +kernel
theorem dX11_drawn_17 : decode cX11_drawn 17 = .ok (.if_icmp .le 6, 3) := by decide +kernel
theorem dX11_drawn_20 : decode cX11_drawn 20 = .ok (.bipush (-2), 2) := by decide +kernel
theorem dX11_drawn_22 : decode cX11_drawn 22 = .ok (.ireturn, 1) := by decide +kernel
theorem dX11_drawn_23 : decode cX11_drawn 23 = .ok (.aload_n 0, 1) := by decide +kernel
theorem dX11_drawn_24 : decode cX11_drawn 24 = .ok (.invokevirtual 167, 3) := by decide +kernel
theorem dX11_drawn_27 : decode cX11_drawn 27 = .ok (.aload_n 0, 1) := by decide +kernel
theorem dX11_drawn_28 : decode cX11_drawn 28 = .ok (.getfield 48, 3) := by decide +kernel
theorem dX11_drawn_31 : decode cX11_drawn 31 = .ok (.iload_n 1, 1) := by decide +kernel
theorem dX11_drawn_32 : decode cX11_drawn 32 = .ok (.invokevirtual 321, 3) := by decide +kernel
theorem dX11_drawn_35 : decode cX11_drawn 35 = .ok (.aload_n 0, 1) := by decide +kernel
theorem dX11_drawn_36 : decode cX11_drawn 36 = .ok (.getfield 48, 3) := by decide +kernel
theorem dX11_drawn_39 : decode cX11_drawn 39 = .ok (.sipush 600, 3) := by decide +kernel
theorem dX11_drawn_42 : decode cX11_drawn 42 = .ok (.invokevirtual 170, 3) := by decide +kernel
theorem dX11_drawn_45 : decode cX11_drawn 45 = .ok (.iload_n 2, 1) := by decide +kernel
theorem dX11_drawn_46 : decode cX11_drawn 46 = .ok (.lookupswitch 42 #[(0, 26), (1, 34)], 26) := by decide +kernel
theorem dX11_drawn_72 : decode cX11_drawn 72 = .ok (.aload_n 0, 1) := by decide +kernel
theorem dX11_drawn_73 : decode cX11_drawn 73 = .ok (.getfield 48, 3) := by decide +kernel
theorem dX11_drawn_76 : decode cX11_drawn 76 = .ok (.getfield 173, 3) := by decide +kernel
theorem dX11_drawn_79 : decode cX11_drawn 79 = .ok (.ireturn, 1) := by decide +kernel
theorem dX11_drawn_80 : decode cX11_drawn 80 = .ok (.aload_n 0, 1) := by decide +kernel
theorem dX11_drawn_81 : decode cX11_drawn 81 = .ok (.getfield 48, 3) := by decide +kernel
theorem dX11_drawn_84 : decode cX11_drawn 84 = .ok (.getfield 176, 3) := by decide +kernel
theorem dX11_drawn_87 : decode cX11_drawn 87 = .ok (.ireturn, 1) := by decide +kernel
theorem dX11_drawn_88 : decode cX11_drawn 88 = .ok (.aload_n 0, 1) := by decide +kernel
theorem dX11_drawn_89 : decode cX11_drawn 89 = .ok (.getfield 48, 3) := by decide +kernel
theorem dX11_drawn_92 : decode cX11_drawn 92 = .ok (.getfield 179, 3) := by decide +kernel
theorem dX11_drawn_95 : decode cX11_drawn 95 = .ok (.ireturn, 1) := by decide +kernel
theorem dX11_odds_0 : decode cX11_odds 0 = .ok (.iload_n 1, 1) := by decide +kernel
theorem dX11_odds_1 : decode cX11_odds 1 = .ok (.ifCond .lt 39, 3) := by decide +kernel
theorem dX11_odds_4 : decode cX11_odds 4 = .ok (.iload_n 1, 1) := by decide +kernel
theorem dX11_odds_5 : decode cX11_odds 5 = .ok (.ldc_w 320, 3) := by decide +kernel
theorem dX11_odds_8 : decode cX11_odds 8 = .ok (.if_icmp .gt 32, 3) := by decide +kernel
theorem dX11_odds_11 : decode cX11_odds 11 = .ok (.iload_n 2, 1) := by decide +kernel
theorem dX11_odds_12 : decode cX11_odds 12 = .ok (.iconst 1, 1) := by decide +kernel
theorem dX11_odds_13 : decode cX11_odds 13 = .ok (.if_icmp .lt 27, 3) := by decide +kernel
theorem dX11_odds_16 : decode cX11_odds 16 = .ok (.iload_n 2, 1) := by decide +kernel
theorem dX11_odds_17 : decode cX11_odds 17 = .ok (.bipush 10, 2) := by decide +kernel
theorem dX11_odds_19 : decode cX11_odds 19 = .ok (.if_icmp .gt 21, 3) := by decide +kernel
theorem dX11_odds_22 : decode cX11_odds 22 = .ok (.iload_n 3, 1) := by decide +kernel
theorem dX11_odds_23 : decode cX11_odds 23 = .ok (.invokestatic 164, 3) := by decide +kernel
theorem dX11_odds_26 : decode cX11_odds 26 = .ok (.ifCond .ne 14, 3) := by decide +kernel
theorem dX11_odds_29 : decode cX11_odds 29 = .ok (.iload 4, 2) := by decide +kernel
theorem dX11_odds_31 : decode cX11_odds 31 = .ok (.ifCond .lt 9, 3) := by decide +kernel
theorem dX11_odds_34 : decode cX11_odds 34 = .ok (.iload 4, 2) := by decide +kernel
theorem dX11_odds_36 : decode cX11_odds 36 = .ok (.iconst 1, 1) := by decide +kernel
theorem dX11_odds_37 : decode cX11_odds 37 = .ok (.if_icmp .le 7, 3) := by decide +kernel
theorem dX11_odds_40 : decode cX11_odds 40 = .ok (.ldc2_w 324, 3) := by decide +kernel
theorem dX11_odds_43 : decode cX11_odds 43 = .ok (.lreturn, 1) := by decide +kernel
theorem dX11_odds_44 : decode cX11_odds 44 = .ok (.iconst 0, 1) := by decide +kernel
theorem dX11_odds_45 : decode cX11_odds 45 = .ok (.istore 5, 2) := by decide +kernel
theorem dX11_odds_47 : decode cX11_odds 47 = .ok (.iconst 0, 1) := by decide +kernel
theorem dX11_odds_48 : decode cX11_odds 48 = .ok (.istore 6, 2) := by decide +kernel
theorem dX11_odds_50 : decode cX11_odds 50 = .ok (.iconst 0, 1) := by decide +kernel
theorem dX11_odds_51 : decode cX11_odds 51 = .ok (.istore 7, 2) := by decide +kernel
theorem dX11_odds_53 : decode cX11_odds 53 = .ok (.iload 7, 2) := by decide +kernel
theorem dX11_odds_55 : decode cX11_odds 55 = .ok (.iload_n 2, 1) := by decide +kernel
theorem dX11_odds_56 : decode cX11_odds 56 = .ok (.if_icmp .ge 72, 3) := by decide +kernel
theorem dX11_odds_59 : decode cX11_odds 59 = .ok (.aload_n 0, 1) := by decide +kernel
theorem dX11_odds_60 : decode cX11_odds 60 = .ok (.invokevirtual 167, 3) := by decide +kernel
theorem dX11_odds_63 : decode cX11_odds 63 = .ok (.aload_n 0, 1) := by decide +kernel
theorem dX11_odds_64 : decode cX11_odds 64 = .ok (.getfield 48, 3) := by decide +kernel
theorem dX11_odds_67 : decode cX11_odds 67 = .ok (.iload_n 1, 1) := by decide +kernel
theorem dX11_odds_68 : decode cX11_odds 68 = .ok (.iload 7, 2) := by decide +kernel
theorem dX11_odds_70 : decode cX11_odds 70 = .ok (.iadd, 1) := by decide +kernel
theorem dX11_odds_71 : decode cX11_odds 71 = .ok (.invokevirtual 321, 3) := by decide +kernel
theorem dX11_odds_74 : decode cX11_odds 74 = .ok (.aload_n 0, 1) := by decide +kernel
theorem dX11_odds_75 : decode cX11_odds 75 = .ok (.getfield 48, 3) := by decide +kernel
theorem dX11_odds_78 : decode cX11_odds 78 = .ok (.iload_n 3, 1) := by decide +kernel
theorem dX11_odds_79 : decode cX11_odds 79 = .ok (.invokevirtual 170, 3) := by decide +kernel
theorem dX11_odds_82 : decode cX11_odds 82 = .ok (.iload 5, 2) := by decide +kernel
theorem dX11_odds_84 : decode cX11_odds 84 = .ok (.aload_n 0, 1) := by decide +kernel
theorem dX11_odds_85 : decode cX11_odds 85 = .ok (.getfield 48, 3) := by decide +kernel
theorem dX11_odds_88 : decode cX11_odds 88 = .ok (.getfield 173, 3) := by decide +kernel
theorem dX11_odds_91 : decode cX11_odds 91 = .ok (.iadd, 1) := by decide +kernel
theorem dX11_odds_92 : decode cX11_odds 92 = .ok (.istore 5, 2) := by decide +kernel
theorem dX11_odds_94 : decode cX11_odds 94 = .ok (.iload 6, 2) := by decide +kernel
theorem dX11_odds_96 : decode cX11_odds 96 = .ok (.aload_n 0, 1) := by decide +kernel
theorem dX11_odds_97 : decode cX11_odds 97 = .ok (.getfield 48, 3) := by decide +kernel
theorem dX11_odds_100 : decode cX11_odds 100 = .ok (.getfield 173, 3) := by decide +kernel
theorem dX11_odds_103 : decode cX11_odds 103 = .ok (.aload_n 0, 1) := by decide +kernel
theorem dX11_odds_104 : decode cX11_odds 104 = .ok (.getfield 48, 3) := by decide +kernel
theorem dX11_odds_107 : decode cX11_odds 107 = .ok (.getfield 176, 3) := by decide +kernel
theorem dX11_odds_110 : decode cX11_odds 110 = .ok (.isub, 1) := by decide +kernel
theorem dX11_odds_111 : decode cX11_odds 111 = .ok (.aload_n 0, 1) := by decide +kernel
theorem dX11_odds_112 : decode cX11_odds 112 = .ok (.getfield 48, 3) := by decide +kernel
theorem dX11_odds_115 : decode cX11_odds 115 = .ok (.getfield 179, 3) := by decide +kernel
theorem dX11_odds_118 : decode cX11_odds 118 = .ok (.isub, 1) := by decide +kernel
theorem dX11_odds_119 : decode cX11_odds 119 = .ok (.iadd, 1) := by decide +kernel
theorem dX11_odds_120 : decode cX11_odds 120 = .ok (.istore 6, 2) := by decide +kernel
theorem dX11_odds_122 : decode cX11_odds 122 = .ok (.iinc 7 1, 3) := by decide +kernel
theorem dX11_odds_125 : decode cX11_odds 125 = .ok (.goto (-72), 3) := by decide +kernel
theorem dX11_odds_128 : decode cX11_odds 128 = .ok (.iload 5, 2) := by decide +kernel
theorem dX11_odds_130 : decode cX11_odds 130 = .ok (.iload 6, 2) := by decide +kernel
theorem dX11_odds_132 : decode cX11_odds 132 = .ok (.invokestatic 326, 3) := by decide +kernel
theorem dX11_odds_135 : decode cX11_odds 135 = .ok (.istore 7, 2) := by decide +kernel
theorem dX11_odds_137 : decode cX11_odds 137 = .ok (.iload 7, 2) := by decide +kernel
theorem dX11_odds_139 : decode cX11_odds 139 = .ok (.ifCond .gt 7, 3) := by decide +kernel
theorem dX11_odds_142 : decode cX11_odds 142 = .ok (.ldc2_w 324, 3) := by decide +kernel
theorem dX11_odds_145 : decode cX11_odds 145 = .ok (.lreturn, 1) := by decide +kernel
theorem dX11_odds_146 : decode cX11_odds 146 = .ok (.iload 4, 2) := by decide +kernel
theorem dX11_odds_148 : decode cX11_odds 148 = .ok (.ifCond .ne 8, 3) := by decide +kernel
theorem dX11_odds_151 : decode cX11_odds 151 = .ok (.iload 6, 2) := by decide +kernel
theorem dX11_odds_153 : decode cX11_odds 153 = .ok (.goto 5, 3) := by decide +kernel
theorem dX11_odds_156 : decode cX11_odds 156 = .ok (.iload 5, 2) := by decide +kernel
theorem dX11_odds_158 : decode cX11_odds 158 = .ok (.iload 7, 2) := by decide +kernel
theorem dX11_odds_160 : decode cX11_odds 160 = .ok (.idiv, 1) := by decide +kernel
theorem dX11_odds_161 : decode cX11_odds 161 = .ok (.i2l, 1) := by decide +kernel
theorem dX11_odds_162 : decode cX11_odds 162 = .ok (.lreturn, 1) := by decide +kernel
theorem dX11_commonDivisor_0 : decode cX11_commonDivisor 0 = .ok (.iconst 0, 1) := by decide +kernel
theorem dX11_commonDivisor_1 : decode cX11_commonDivisor 1 = .ok (.istore_n 2, 1) := by decide +kernel
theorem dX11_commonDivisor_2 : decode cX11_commonDivisor 2 = .ok (.iload_n 2, 1) := by decide +kernel
theorem dX11_commonDivisor_3 : decode cX11_commonDivisor 3 = .ok (.bipush 64, 2) := by decide +kernel
theorem dX11_commonDivisor_5 : decode cX11_commonDivisor 5 = .ok (.if_icmp .ge 21, 3) := by decide +kernel
theorem dX11_commonDivisor_8 : decode cX11_commonDivisor 8 = .ok (.iload_n 1, 1) := by decide +kernel
theorem dX11_commonDivisor_9 : decode cX11_commonDivisor 9 = .ok (.ifCond .eq 17, 3) := by decide +kernel
theorem dX11_commonDivisor_12 : decode cX11_commonDivisor 12 = .ok (.iload_n 0, 1) := by decide +kernel
theorem dX11_commonDivisor_13 : decode cX11_commonDivisor 13 = .ok (.iload_n 1, 1) := by decide +kernel
theorem dX11_commonDivisor_14 : decode cX11_commonDivisor 14 = .ok (.irem, 1) := by decide +kernel
theorem dX11_commonDivisor_15 : decode cX11_commonDivisor 15 = .ok (.istore_n 3, 1) := by decide +kernel
theorem dX11_commonDivisor_16 : decode cX11_commonDivisor 16 = .ok (.iload_n 1, 1) := by decide +kernel
theorem dX11_commonDivisor_17 : decode cX11_commonDivisor 17 = .ok (.istore_n 0, 1) := by decide +kernel
theorem dX11_commonDivisor_18 : decode cX11_commonDivisor 18 = .ok (.iload_n 3, 1) := by decide +kernel
theorem dX11_commonDivisor_19 : decode cX11_commonDivisor 19 = .ok (.istore_n 1, 1) := by decide +kernel
theorem dX11_commonDivisor_20 : decode cX11_commonDivisor 20 = .ok (.iinc 2 1, 3) := by decide +kernel
theorem dX11_commonDivisor_23 : decode cX11_commonDivisor 23 = .ok (.goto (-21), 3) := by decide +kernel
theorem dX11_commonDivisor_26 : decode cX11_commonDivisor 26 = .ok (.iload_n 0, 1) := by decide +kernel
theorem dX11_commonDivisor_27 : decode cX11_commonDivisor 27 = .ok (.ireturn, 1) := by decide +kernel
theorem dX11_image_0 : decode cX11_image 0 = .ok (.iconst 0, 1) := by decide +kernel
theorem dX11_image_1 : decode cX11_image 1 = .ok (.istore_n 1, 1) := by decide +kernel
theorem dX11_image_2 : decode cX11_image 2 = .ok (.iload_n 1, 1) := by decide +kernel
theorem dX11_image_3 : decode cX11_image 3 = .ok (.bipush 9, 2) := by decide +kernel
theorem dX11_image_5 : decode cX11_image 5 = .ok (.if_icmp .ge 33, 3) := by decide +kernel
theorem dX11_image_8 : decode cX11_image 8 = .ok (.aload_n 0, 1) := by decide +kernel
theorem dX11_image_9 : decode cX11_image 9 = .ok (.getfield 63, 3) := by decide +kernel
theorem dX11_image_12 : decode cX11_image 12 = .ok (.iload_n 1, 1) := by decide +kernel
theorem dX11_image_13 : decode cX11_image 13 = .ok (.aload_n 0, 1) := by decide +kernel
theorem dX11_image_14 : decode cX11_image 14 = .ok (.getfield 9, 3) := by decide +kernel
theorem dX11_image_17 : decode cX11_image 17 = .ok (.iload_n 1, 1) := by decide +kernel
theorem dX11_image_18 : decode cX11_image 18 = .ok (.iaload, 1) := by decide +kernel
theorem dX11_image_19 : decode cX11_image 19 = .ok (.iastore, 1) := by decide +kernel
theorem dX11_image_20 : decode cX11_image 20 = .ok (.aload_n 0, 1) := by decide +kernel
theorem dX11_image_21 : decode cX11_image 21 = .ok (.getfield 66, 3) := by decide +kernel
theorem dX11_image_24 : decode cX11_image 24 = .ok (.iload_n 1, 1) := by decide +kernel
theorem dX11_image_25 : decode cX11_image 25 = .ok (.aload_n 0, 1) := by decide +kernel
theorem dX11_image_26 : decode cX11_image 26 = .ok (.getfield 13, 3) := by decide +kernel
theorem dX11_image_29 : decode cX11_image 29 = .ok (.iload_n 1, 1) := by decide +kernel
theorem dX11_image_30 : decode cX11_image 30 = .ok (.iaload, 1) := by decide +kernel
theorem dX11_image_31 : decode cX11_image 31 = .ok (.iastore, 1) := by decide +kernel
theorem dX11_image_32 : decode cX11_image 32 = .ok (.iinc 1 1, 3) := by decide +kernel
theorem dX11_image_35 : decode cX11_image 35 = .ok (.goto (-33), 3) := by decide +kernel
theorem dX11_image_38 : decode cX11_image 38 = .ok (.iconst 0, 1) := by decide +kernel
theorem dX11_image_39 : decode cX11_image 39 = .ok (.istore_n 1, 1) := by decide +kernel
theorem dX11_image_40 : decode cX11_image 40 = .ok (.iload_n 1, 1) := by decide +kernel
theorem dX11_image_41 : decode cX11_image 41 = .ok (.aload_n 0, 1) := by decide +kernel
theorem dX11_image_42 : decode cX11_image 42 = .ok (.getfield 94, 3) := by decide +kernel
theorem dX11_image_45 : decode cX11_image 45 = .ok (.if_icmp .ge 39, 3) := by decide +kernel
theorem dX11_image_48 : decode cX11_image 48 = .ok (.iload_n 1, 1) := by decide +kernel
theorem dX11_image_49 : decode cX11_image 49 = .ok (.iconst 5, 1) := by decide +kernel
theorem dX11_image_50 : decode cX11_image 50 = .ok (.if_icmp .ge 34, 3) := by decide +kernel
theorem dX11_image_53 : decode cX11_image 53 = .ok (.aload_n 0, 1) := by decide +kernel
theorem dX11_image_54 : decode cX11_image 54 = .ok (.getfield 22, 3) := by decide +kernel
theorem dX11_image_57 : decode cX11_image 57 = .ok (.iload_n 1, 1) := by decide +kernel
theorem dX11_image_58 : decode cX11_image 58 = .ok (.aaload, 1) := by decide +kernel
theorem dX11_image_59 : decode cX11_image 59 = .ok (.astore_n 2, 1) := by decide +kernel
theorem dX11_image_60 : decode cX11_image 60 = .ok (.aload_n 0, 1) := by decide +kernel
theorem dX11_image_61 : decode cX11_image 61 = .ok (.getfield 69, 3) := by decide +kernel
theorem dX11_image_64 : decode cX11_image 64 = .ok (.iload_n 1, 1) := by decide +kernel
theorem dX11_image_65 : decode cX11_image 65 = .ok (.aload_n 2, 1) := by decide +kernel
theorem dX11_image_66 : decode cX11_image 66 = .ok (.ifnonnull 7, 3) := by decide +kernel
theorem dX11_image_69 : decode cX11_image 69 = .ok (.iconst 0, 1) := by decide +kernel
theorem dX11_image_70 : decode cX11_image 70 = .ok (.goto 7, 3) := by decide +kernel
theorem dX11_image_73 : decode cX11_image 73 = .ok (.aload_n 2, 1) := by decide +kernel
theorem dX11_image_74 : decode cX11_image 74 = .ok (.getfield 151, 3) := by decide +kernel
theorem dX11_image_77 : decode cX11_image 77 = .ok (.iastore, 1) := by decide +kernel
theorem dX11_image_78 : decode cX11_image 78 = .ok (.iinc 1 1, 3) := by decide +kernel
theorem dX11_image_81 : decode cX11_image 81 = .ok (.goto (-41), 3) := by decide +kernel
theorem dX11_image_84 : decode cX11_image 84 = .ok (.aload_n 0, 1) := by decide +kernel
theorem dX11_image_85 : decode cX11_image 85 = .ok (.aload_n 0, 1) := by decide +kernel
theorem dX11_image_86 : decode cX11_image 86 = .ok (.getfield 16, 3) := by decide +kernel
theorem dX11_image_89 : decode cX11_image 89 = .ok (.putfield 329, 3) := by decide +kernel
theorem dX11_image_92 : decode cX11_image 92 = .ok (.aload_n 0, 1) := by decide +kernel
theorem dX11_image_93 : decode cX11_image 93 = .ok (.aload_n 0, 1) := by decide +kernel
theorem dX11_image_94 : decode cX11_image 94 = .ok (.getfield 94, 3) := by decide +kernel
theorem dX11_image_97 : decode cX11_image 97 = .ok (.putfield 72, 3) := by decide +kernel
theorem dX11_image_100 : decode cX11_image 100 = .ok (.aload_n 0, 1) := by decide +kernel
theorem dX11_image_101 : decode cX11_image 101 = .ok (.aload_n 0, 1) := by decide +kernel
theorem dX11_image_102 : decode cX11_image 102 = .ok (.getfield 97, 3) := by decide +kernel
theorem dX11_image_105 : decode cX11_image 105 = .ok (.putfield 332, 3) := by decide +kernel
theorem dX11_image_108 : decode cX11_image 108 = .ok (.aload_n 0, 1) := by decide +kernel
theorem dX11_image_109 : decode cX11_image 109 = .ok (.getfield 94, 3) := by decide +kernel
theorem dX11_image_112 : decode cX11_image 112 = .ok (.ireturn, 1) := by decide +kernel
theorem dX11_back_0 : decode cX11_back 0 = .ok (.aload_n 0, 1) := by decide +kernel
theorem dX11_back_1 : decode cX11_back 1 = .ok (.getfield 72, 3) := by decide +kernel
theorem dX11_back_4 : decode cX11_back 4 = .ok (.iconst (-1), 1) := by decide +kernel
theorem dX11_back_5 : decode cX11_back 5 = .ok (.if_icmp .ne 6, 3) := by decide +kernel
theorem dX11_back_8 : decode cX11_back 8 = .ok (.bipush (-3), 2) := by decide +kernel
theorem dX11_back_10 : decode cX11_back 10 = .ok (.ireturn, 1) := by decide +kernel
theorem dX11_back_11 : decode cX11_back 11 = .ok (.iconst 0, 1) := by decide +kernel
theorem dX11_back_12 : decode cX11_back 12 = .ok (.istore_n 1, 1) := by decide +kernel
theorem dX11_back_13 : decode cX11_back 13 = .ok (.iload_n 1, 1) := by decide +kernel
theorem dX11_back_14 : decode cX11_back 14 = .ok (.bipush 9, 2) := by decide +kernel
theorem dX11_back_16 : decode cX11_back 16 = .ok (.if_icmp .ge 33, 3) := by decide +kernel
theorem dX11_back_19 : decode cX11_back 19 = .ok (.aload_n 0, 1) := by decide +kernel
theorem dX11_back_20 : decode cX11_back 20 = .ok (.getfield 9, 3) := by decide +kernel
theorem dX11_back_23 : decode cX11_back 23 = .ok (.iload_n 1, 1) := by decide +kernel
theorem dX11_back_24 : decode cX11_back 24 = .ok (.aload_n 0, 1) := by decide +kernel
theorem dX11_back_25 : decode cX11_back 25 = .ok (.getfield 63, 3) := by decide +kernel
theorem dX11_back_28 : decode cX11_back 28 = .ok (.iload_n 1, 1) := by decide +kernel
theorem dX11_back_29 : decode cX11_back 29 = .ok (.iaload, 1) := by decide +kernel
theorem dX11_back_30 : decode cX11_back 30 = .ok (.iastore, 1) := by decide +kernel
theorem dX11_back_31 : decode cX11_back 31 = .ok (.aload_n 0, 1) := by decide +kernel
theorem dX11_back_32 : decode cX11_back 32 = .ok (.getfield 13, 3) := by decide +kernel
theorem dX11_back_35 : decode cX11_back 35 = .ok (.iload_n 1, 1) := by decide +kernel
theorem dX11_back_36 : decode cX11_back 36 = .ok (.aload_n 0, 1) := by decide +kernel
theorem dX11_back_37 : decode cX11_back 37 = .ok (.getfield 66, 3) := by decide +kernel
theorem dX11_back_40 : decode cX11_back 40 = .ok (.iload_n 1, 1) := by decide +kernel
theorem dX11_back_41 : decode cX11_back 41 = .ok (.iaload, 1) := by decide +kernel
theorem dX11_back_42 : decode cX11_back 42 = .ok (.iastore, 1) := by decide +kernel
theorem dX11_back_43 : decode cX11_back 43 = .ok (.iinc 1 1, 3) := by decide +kernel
theorem dX11_back_46 : decode cX11_back 46 = .ok (.goto (-33), 3) := by decide +kernel
theorem dX11_back_49 : decode cX11_back 49 = .ok (.iconst 0, 1) := by decide +kernel
theorem dX11_back_50 : decode cX11_back 50 = .ok (.istore_n 1, 1) := by decide +kernel
theorem dX11_back_51 : decode cX11_back 51 = .ok (.iload_n 1, 1) := by decide +kernel
theorem dX11_back_52 : decode cX11_back 52 = .ok (.iconst 5, 1) := by decide +kernel
theorem dX11_back_53 : decode cX11_back 53 = .ok (.if_icmp .ge 48, 3) := by decide +kernel
theorem dX11_back_56 : decode cX11_back 56 = .ok (.aload_n 0, 1) := by decide +kernel
theorem dX11_back_57 : decode cX11_back 57 = .ok (.getfield 22, 3) := by decide +kernel
theorem dX11_back_60 : decode cX11_back 60 = .ok (.iload_n 1, 1) := by decide +kernel
theorem dX11_back_61 : decode cX11_back 61 = .ok (.aaload, 1) := by decide +kernel
theorem dX11_back_62 : decode cX11_back 62 = .ok (.astore_n 2, 1) := by decide +kernel
theorem dX11_back_63 : decode cX11_back 63 = .ok (.iload_n 1, 1) := by decide +kernel
theorem dX11_back_64 : decode cX11_back 64 = .ok (.aload_n 0, 1) := by decide +kernel
theorem dX11_back_65 : decode cX11_back 65 = .ok (.getfield 72, 3) := by decide +kernel
theorem dX11_back_68 : decode cX11_back 68 = .ok (.if_icmp .lt 13, 3) := by decide +kernel
theorem dX11_back_71 : decode cX11_back 71 = .ok (.aload_n 0, 1) := by decide +kernel
theorem dX11_back_72 : decode cX11_back 72 = .ok (.getfield 22, 3) := by decide +kernel
theorem dX11_back_75 : decode cX11_back 75 = .ok (.iload_n 1, 1) := by decide +kernel
theorem dX11_back_76 : decode cX11_back 76 = .ok (.aconst_null, 1) := by decide +kernel
theorem dX11_back_77 : decode cX11_back 77 = .ok (.aastore, 1) := by decide +kernel
theorem dX11_back_78 : decode cX11_back 78 = .ok (.goto 17, 3) := by decide +kernel
theorem dX11_back_81 : decode cX11_back 81 = .ok (.aload_n 2, 1) := by decide +kernel
theorem dX11_back_82 : decode cX11_back 82 = .ok (.ifnull 13, 3) := by decide +kernel
theorem dX11_back_85 : decode cX11_back 85 = .ok (.aload_n 2, 1) := by decide +kernel
theorem dX11_back_86 : decode cX11_back 86 = .ok (.aload_n 0, 1) := by decide +kernel
theorem dX11_back_87 : decode cX11_back 87 = .ok (.getfield 69, 3) := by decide +kernel
theorem dX11_back_90 : decode cX11_back 90 = .ok (.iload_n 1, 1) := by decide +kernel
theorem dX11_back_91 : decode cX11_back 91 = .ok (.iaload, 1) := by decide +kernel
theorem dX11_back_92 : decode cX11_back 92 = .ok (.putfield 151, 3) := by decide +kernel
theorem dX11_back_95 : decode cX11_back 95 = .ok (.iinc 1 1, 3) := by decide +kernel
theorem dX11_back_98 : decode cX11_back 98 = .ok (.goto (-47), 3) := by decide +kernel
theorem dX11_back_101 : decode cX11_back 101 = .ok (.aload_n 0, 1) := by decide +kernel
theorem dX11_back_102 : decode cX11_back 102 = .ok (.aload_n 0, 1) := by decide +kernel
theorem dX11_back_103 : decode cX11_back 103 = .ok (.getfield 329, 3) := by decide +kernel
theorem dX11_back_106 : decode cX11_back 106 = .ok (.putfield 16, 3) := by decide +kernel
theorem dX11_back_109 : decode cX11_back 109 = .ok (.aload_n 0, 1) := by decide +kernel
theorem dX11_back_110 : decode cX11_back 110 = .ok (.aload_n 0, 1) := by decide +kernel
theorem dX11_back_111 : decode cX11_back 111 = .ok (.getfield 72, 3) := by decide +kernel
theorem dX11_back_114 : decode cX11_back 114 = .ok (.putfield 94, 3) := by decide +kernel
theorem dX11_back_117 : decode cX11_back 117 = .ok (.aload_n 0, 1) := by decide +kernel
theorem dX11_back_118 : decode cX11_back 118 = .ok (.aload_n 0, 1) := by decide +kernel
theorem dX11_back_119 : decode cX11_back 119 = .ok (.getfield 332, 3) := by decide +kernel
theorem dX11_back_122 : decode cX11_back 122 = .ok (.putfield 97, 3) := by decide +kernel
theorem dX11_back_125 : decode cX11_back 125 = .ok (.aload_n 0, 1) := by decide +kernel
theorem dX11_back_126 : decode cX11_back 126 = .ok (.getfield 94, 3) := by decide +kernel
theorem dX11_back_129 : decode cX11_back 129 = .ok (.ireturn, 1) := by decide +kernel
theorem dX11_sheet_0 : decode cX11_sheet 0 = .ok (.aload_n 0, 1) := by decide +kernel
theorem dX11_sheet_1 : decode cX11_sheet 1 = .ok (.iload_n 1, 1) := by decide +kernel
theorem dX11_sheet_2 : decode cX11_sheet 2 = .ok (.invokevirtual 303, 3) := by decide +kernel
theorem dX11_sheet_5 : decode cX11_sheet 5 = .ok (.astore 4, 2) := by decide +kernel
theorem dX11_sheet_7 : decode cX11_sheet 7 = .ok (.aload 4, 2) := by decide +kernel
theorem dX11_sheet_9 : decode cX11_sheet 9 = .ok (.ifnull 13, 3) := by decide +kernel
theorem dX11_sheet_12 : decode cX11_sheet 12 = .ok (.iload_n 2, 1) := by decide +kernel
theorem dX11_sheet_13 : decode cX11_sheet 13 = .ok (.iconst (-1), 1) := by decide +kernel
theorem dX11_sheet_14 : decode cX11_sheet 14 = .ok (.if_icmp .lt 8, 3) := by decide +kernel
theorem dX11_sheet_17 : decode cX11_sheet 17 = .ok (.iload_n 2, 1) := by decide +kernel
theorem dX11_sheet_18 : decode cX11_sheet 18 = .ok (.iconst 2, 1) := by decide +kernel
theorem dX11_sheet_19 : decode cX11_sheet 19 = .ok (.if_icmp .le 6, 3) := by decide +kernel
theorem dX11_sheet_22 : decode cX11_sheet 22 = .ok (.bipush (-2), 2) := by decide +kernel
theorem dX11_sheet_24 : decode cX11_sheet 24 = .ok (.ireturn, 1) := by decide +kernel
theorem dX11_sheet_25 : decode cX11_sheet 25 = .ok (.iload_n 2, 1) := by decide +kernel
theorem dX11_sheet_26 : decode cX11_sheet 26 = .ok (.iconst (-1), 1) := by decide +kernel
theorem dX11_sheet_27 : decode cX11_sheet 27 = .ok (.if_icmp .ne 12, 3) := by decide +kernel
theorem dX11_sheet_30 : decode cX11_sheet 30 = .ok (.aload 4, 2) := by decide +kernel
theorem dX11_sheet_32 : decode cX11_sheet 32 = .ok (.iconst (-1), 1) := by decide +kernel
theorem dX11_sheet_33 : decode cX11_sheet 33 = .ok (.iconst 0, 1) := by decide +kernel
theorem dX11_sheet_34 : decode cX11_sheet 34 = .ok (.invokevirtual 307, 3) := by decide +kernel
theorem dX11_sheet_37 : decode cX11_sheet 37 = .ok (.iconst 1, 1) := by decide +kernel
theorem dX11_sheet_38 : decode cX11_sheet 38 = .ok (.ireturn, 1) := by decide +kernel
theorem dX11_sheet_39 : decode cX11_sheet 39 = .ok (.iload_n 3, 1) := by decide +kernel
theorem dX11_sheet_40 : decode cX11_sheet 40 = .ok (.bipush 40, 2) := by decide +kernel
theorem dX11_sheet_42 : decode cX11_sheet 42 = .ok (.if_icmp .le 6, 3) := by decide +kernel
theorem dX11_sheet_45 : decode cX11_sheet 45 = .ok (.bipush (-2), 2) := by decide +kernel
theorem dX11_sheet_47 : decode cX11_sheet 47 = .ok (.ireturn, 1) := by decide +kernel
theorem dX11_sheet_48 : decode cX11_sheet 48 = .ok (.iload_n 3, 1) := by decide +kernel
theorem dX11_sheet_49 : decode cX11_sheet 49 = .ok (.ifCond .ge 6, 3) := by decide +kernel
theorem dX11_sheet_52 : decode cX11_sheet 52 = .ok (.bipush (-14), 2) := by decide +kernel
theorem dX11_sheet_54 : decode cX11_sheet 54 = .ok (.ireturn, 1) := by decide +kernel
theorem dX11_sheet_55 : decode cX11_sheet 55 = .ok (.aload 4, 2) := by decide +kernel
theorem dX11_sheet_57 : decode cX11_sheet 57 = .ok (.iload_n 2, 1) := by decide +kernel
theorem dX11_sheet_58 : decode cX11_sheet 58 = .ok (.iload_n 3, 1) := by decide +kernel
theorem dX11_sheet_59 : decode cX11_sheet 59 = .ok (.invokevirtual 307, 3) := by decide +kernel
theorem dX11_sheet_62 : decode cX11_sheet 62 = .ok (.iconst 1, 1) := by decide +kernel
theorem dX11_sheet_63 : decode cX11_sheet 63 = .ok (.ireturn, 1) := by decide +kernel
theorem dX11_cell_0 : decode cX11_cell 0 = .ok (.aload_n 0, 1) := by decide +kernel
theorem dX11_cell_1 : decode cX11_cell 1 = .ok (.iload_n 1, 1) := by decide +kernel
theorem dX11_cell_2 : decode cX11_cell 2 = .ok (.invokevirtual 303, 3) := by decide +kernel
theorem dX11_cell_5 : decode cX11_cell 5 = .ok (.astore 4, 2) := by decide +kernel
theorem dX11_cell_7 : decode cX11_cell 7 = .ok (.aload 4, 2) := by decide +kernel
theorem dX11_cell_9 : decode cX11_cell 9 = .ok (.ifnonnull 6, 3) := by decide +kernel
theorem dX11_cell_12 : decode cX11_cell 12 = .ok (.bipush (-2), 2) := by decide +kernel
theorem dX11_cell_14 : decode cX11_cell 14 = .ok (.ireturn, 1) := by decide +kernel
theorem dX11_cell_15 : decode cX11_cell 15 = .ok (.aload 4, 2) := by decide +kernel
theorem dX11_cell_17 : decode cX11_cell 17 = .ok (.invokevirtual 313, 3) := by decide +kernel
theorem dX11_cell_20 : decode cX11_cell 20 = .ok (.ifCond .eq 6, 3) := by decide +kernel
theorem dX11_cell_23 : decode cX11_cell 23 = .ok (.bipush (-11), 2) := by decide +kernel
theorem dX11_cell_25 : decode cX11_cell 25 = .ok (.ireturn, 1) := by decide +kernel
theorem dX11_cell_26 : decode cX11_cell 26 = .ok (.aload 4, 2) := by decide +kernel
theorem dX11_cell_28 : decode cX11_cell 28 = .ok (.iload_n 2, 1) := by decide +kernel
theorem dX11_cell_29 : decode cX11_cell 29 = .ok (.iconst 1, 1) := by decide +kernel
theorem dX11_cell_30 : decode cX11_cell 30 = .ok (.invokevirtual 335, 3) := by decide +kernel
theorem dX11_cell_33 : decode cX11_cell 33 = .ok (.ifCond .ne 6, 3) := by decide +kernel
theorem dX11_cell_36 : decode cX11_cell 36 = .ok (.bipush (-12), 2) := by decide +kernel
theorem dX11_cell_38 : decode cX11_cell 38 = .ok (.ireturn, 1) := by decide +kernel
theorem dX11_cell_39 : decode cX11_cell 39 = .ok (.aload 4, 2) := by decide +kernel
theorem dX11_cell_41 : decode cX11_cell 41 = .ok (.iload_n 2, 1) := by decide +kernel
theorem dX11_cell_42 : decode cX11_cell 42 = .ok (.iload_n 3, 1) := by decide +kernel
theorem dX11_cell_43 : decode cX11_cell 43 = .ok (.invokevirtual 310, 3) := by decide +kernel
theorem dX11_cell_46 : decode cX11_cell 46 = .ok (.iconst 1, 1) := by decide +kernel
theorem dX11_cell_47 : decode cX11_cell 47 = .ok (.ireturn, 1) := by decide +kernel
theorem dX11_copy_0 : decode cX11_copy 0 = .ok (.aload_n 0, 1) := by decide +kernel
theorem dX11_copy_1 : decode cX11_copy 1 = .ok (.iload_n 1, 1) := by decide +kernel
theorem dX11_copy_2 : decode cX11_copy 2 = .ok (.invokevirtual 303, 3) := by decide +kernel
theorem dX11_copy_5 : decode cX11_copy 5 = .ok (.astore 6, 2) := by decide +kernel
theorem dX11_copy_7 : decode cX11_copy 7 = .ok (.aload_n 0, 1) := by decide +kernel
theorem dX11_copy_8 : decode cX11_copy 8 = .ok (.iload_n 3, 1) := by decide +kernel
theorem dX11_copy_9 : decode cX11_copy 9 = .ok (.invokevirtual 303, 3) := by decide +kernel
theorem dX11_copy_12 : decode cX11_copy 12 = .ok (.astore 7, 2) := by decide +kernel
theorem dX11_copy_14 : decode cX11_copy 14 = .ok (.aload 6, 2) := by decide +kernel
theorem dX11_copy_16 : decode cX11_copy 16 = .ok (.ifnull 8, 3) := by decide +kernel
theorem dX11_copy_19 : decode cX11_copy 19 = .ok (.aload 7, 2) := by decide +kernel
theorem dX11_copy_21 : decode cX11_copy 21 = .ok (.ifnonnull 6, 3) := by decide +kernel
theorem dX11_copy_24 : decode cX11_copy 24 = .ok (.bipush (-2), 2) := by decide +kernel
theorem dX11_copy_26 : decode cX11_copy 26 = .ok (.ireturn, 1) := by decide +kernel
theorem dX11_copy_27 : decode cX11_copy 27 = .ok (.aload 6, 2) := by decide +kernel
theorem dX11_copy_29 : decode cX11_copy 29 = .ok (.invokevirtual 313, 3) := by decide +kernel
theorem dX11_copy_32 : decode cX11_copy 32 = .ok (.ifCond .ne 11, 3) := by decide +kernel
theorem dX11_copy_35 : decode cX11_copy 35 = .ok (.aload 7, 2) := by decide +kernel
theorem dX11_copy_37 : decode cX11_copy 37 = .ok (.invokevirtual 313, 3) := by decide +kernel
theorem dX11_copy_40 : decode cX11_copy 40 = .ok (.ifCond .eq 6, 3) := by decide +kernel
theorem dX11_copy_43 : decode cX11_copy 43 = .ok (.bipush (-11), 2) := by decide +kernel
theorem dX11_copy_45 : decode cX11_copy 45 = .ok (.ireturn, 1) := by decide +kernel
theorem dX11_copy_46 : decode cX11_copy 46 = .ok (.aload 6, 2) := by decide +kernel
theorem dX11_copy_48 : decode cX11_copy 48 = .ok (.getfield 339, 3) := by decide +kernel
theorem dX11_copy_51 : decode cX11_copy 51 = .ok (.aload 7, 2) := by decide +kernel
theorem dX11_copy_53 : decode cX11_copy 53 = .ok (.getfield 339, 3) := by decide +kernel
theorem dX11_copy_56 : decode cX11_copy 56 = .ok (.if_icmp .eq 6, 3) := by decide +kernel
theorem dX11_copy_59 : decode cX11_copy 59 = .ok (.bipush (-13), 2) := by decide +kernel
theorem dX11_copy_61 : decode cX11_copy 61 = .ok (.ireturn, 1) := by decide +kernel
theorem dX11_copy_62 : decode cX11_copy 62 = .ok (.aload 6, 2) := by decide +kernel
theorem dX11_copy_64 : decode cX11_copy 64 = .ok (.iload_n 2, 1) := by decide +kernel
theorem dX11_copy_65 : decode cX11_copy 65 = .ok (.iload 5, 2) := by decide +kernel
theorem dX11_copy_67 : decode cX11_copy 67 = .ok (.invokevirtual 335, 3) := by decide +kernel
theorem dX11_copy_70 : decode cX11_copy 70 = .ok (.ifCond .eq 15, 3) := by decide +kernel
theorem dX11_copy_73 : decode cX11_copy 73 = .ok (.aload 7, 2) := by decide +kernel
theorem dX11_copy_75 : decode cX11_copy 75 = .ok (.iload 4, 2) := by decide +kernel
theorem dX11_copy_77 : decode cX11_copy 77 = .ok (.iload 5, 2) := by decide +kernel
theorem dX11_copy_79 : decode cX11_copy 79 = .ok (.invokevirtual 335, 3) := by decide +kernel
theorem dX11_copy_82 : decode cX11_copy 82 = .ok (.ifCond .ne 6, 3) := by decide +kernel
theorem dX11_copy_85 : decode cX11_copy 85 = .ok (.bipush (-12), 2) := by decide +kernel
theorem dX11_copy_87 : decode cX11_copy 87 = .ok (.ireturn, 1) := by decide +kernel
theorem dX11_copy_88 : decode cX11_copy 88 = .ok (.aload 6, 2) := by decide +kernel
theorem dX11_copy_90 : decode cX11_copy 90 = .ok (.getfield 317, 3) := by decide +kernel
theorem dX11_copy_93 : decode cX11_copy 93 = .ok (.iload_n 2, 1) := by decide +kernel
theorem dX11_copy_94 : decode cX11_copy 94 = .ok (.aload 7, 2) := by decide +kernel
theorem dX11_copy_96 : decode cX11_copy 96 = .ok (.getfield 317, 3) := by decide +kernel
theorem dX11_copy_99 : decode cX11_copy 99 = .ok (.iload 4, 2) := by decide +kernel
theorem dX11_copy_101 : decode cX11_copy 101 = .ok (.iload 5, 2) := by decide +kernel
theorem dX11_copy_103 : decode cX11_copy 103 = .ok (.invokestatic 342, 3) := by decide +kernel
theorem dX11_copy_106 : decode cX11_copy 106 = .ok (.iload 5, 2) := by decide +kernel
theorem dX11_copy_108 : decode cX11_copy 108 = .ok (.ireturn, 1) := by decide +kernel
theorem dX11_walkersBy_0 : decode cX11_walkersBy 0 = .ok (.aload_n 0, 1) := by decide +kernel
theorem dX11_walkersBy_1 : decode cX11_walkersBy 1 = .ok (.iload_n 1, 1) := by decide +kernel
theorem dX11_walkersBy_2 : decode cX11_walkersBy 2 = .ok (.invokevirtual 303, 3) := by decide +kernel
theorem dX11_walkersBy_5 : decode cX11_walkersBy 5 = .ok (.astore 5, 2) := by decide +kernel
theorem dX11_walkersBy_7 : decode cX11_walkersBy 7 = .ok (.aload 5, 2) := by decide +kernel
theorem dX11_walkersBy_9 : decode cX11_walkersBy 9 = .ok (.ifnull 23, 3) := by decide +kernel
theorem dX11_walkersBy_12 : decode cX11_walkersBy 12 = .ok (.iload_n 2, 1) := by decide +kernel
theorem dX11_walkersBy_13 : decode cX11_walkersBy 13 = .ok (.ifCond .lt 19, 3) := by decide +kernel
theorem dX11_walkersBy_16 : decode cX11_walkersBy 16 = .ok (.iload_n 2, 1) := by decide +kernel
theorem dX11_walkersBy_17 : decode cX11_walkersBy 17 = .ok (.iconst 2, 1) := by decide +kernel
theorem dX11_walkersBy_18 : decode cX11_walkersBy 18 = .ok (.if_icmp .gt 14, 3) := by decide +kernel
theorem dX11_walkersBy_21 : decode cX11_walkersBy 21 = .ok (.iload 4, 2) := by decide +kernel
theorem dX11_walkersBy_23 : decode cX11_walkersBy 23 = .ok (.ifCond .lt 9, 3) := by decide +kernel
theorem dX11_walkersBy_26 : decode cX11_walkersBy 26 = .ok (.iload 4, 2) := by decide +kernel
theorem dX11_walkersBy_28 : decode cX11_walkersBy 28 = .ok (.iconst 5, 1) := by decide +kernel
theorem dX11_walkersBy_29 : decode cX11_walkersBy 29 = .ok (.if_icmp .le 6, 3) := by decide +kernel
theorem dX11_walkersBy_32 : decode cX11_walkersBy 32 = .ok (.bipush (-2), 2) := by decide +kernel
theorem dX11_walkersBy_34 : decode cX11_walkersBy 34 = .ok (.ireturn, 1) := by decide +kernel
theorem dX11_walkersBy_35 : decode cX11_walkersBy 35 = .ok (.aload 5, 2) := by decide +kernel
theorem dX11_walkersBy_37 : decode cX11_walkersBy 37 = .ok (.invokevirtual 313, 3) := by decide +kernel
theorem dX11_walkersBy_40 : decode cX11_walkersBy 40 = .ok (.ifCond .eq 6, 3) := by decide +kernel
theorem dX11_walkersBy_43 : decode cX11_walkersBy 43 = .ok (.bipush (-11), 2) := by decide +kernel
theorem dX11_walkersBy_45 : decode cX11_walkersBy 45 = .ok (.ireturn, 1) := by decide +kernel
theorem dX11_walkersBy_46 : decode cX11_walkersBy 46 = .ok (.aload 5, 2) := by decide +kernel
theorem dX11_walkersBy_48 : decode cX11_walkersBy 48 = .ok (.getfield 339, 3) := by decide +kernel
theorem dX11_walkersBy_51 : decode cX11_walkersBy 51 = .ok (.iload_n 2, 1) := by decide +kernel
theorem dX11_walkersBy_52 : decode cX11_walkersBy 52 = .ok (.if_icmp .eq 6, 3) := by decide +kernel
theorem dX11_walkersBy_55 : decode cX11_walkersBy 55 = .ok (.bipush (-13), 2) := by decide +kernel
theorem dX11_walkersBy_57 : decode cX11_walkersBy 57 = .ok (.ireturn, 1) := by decide +kernel
theorem dX11_walkersBy_58 : decode cX11_walkersBy 58 = .ok (.iconst 0, 1) := by decide +kernel
theorem dX11_walkersBy_59 : decode cX11_walkersBy 59 = .ok (.istore 6, 2) := by decide +kernel
theorem dX11_walkersBy_61 : decode cX11_walkersBy 61 = .ok (.iconst 0, 1) := by decide +kernel
theorem dX11_walkersBy_62 : decode cX11_walkersBy 62 = .ok (.istore 7, 2) := by decide +kernel
theorem dX11_walkersBy_64 : decode cX11_walkersBy 64 = .ok (.iload 7, 2) := by decide +kernel
theorem dX11_walkersBy_66 : decode cX11_walkersBy 66 = .ok (.iload 4, 2) := by decide +kernel
theorem dX11_walkersBy_68 : decode cX11_walkersBy 68 = .ok (.if_icmp .ge 83, 3) := by decide +kernel
theorem dX11_walkersBy_71 : decode cX11_walkersBy 71 = .ok (.iload_n 3, 1) := by decide +kernel
theorem dX11_walkersBy_72 : decode cX11_walkersBy 72 = .ok (.ifCond .lt 24, 3) := by decide +kernel
theorem dX11_walkersBy_75 : decode cX11_walkersBy 75 = .ok (.iload_n 3, 1) := by decide +kernel
theorem dX11_walkersBy_76 : decode cX11_walkersBy 76 = .ok (.bipush 40, 2) := by decide +kernel
theorem dX11_walkersBy_78 : decode cX11_walkersBy 78 = .ok (.if_icmp .gt 18, 3) := by decide +kernel
theorem dX11_walkersBy_81 : decode cX11_walkersBy 81 = .ok (.aload 5, 2) := by decide +kernel
theorem dX11_walkersBy_83 : decode cX11_walkersBy 83 = .ok (.iload_n 3, 1) := by decide +kernel
theorem dX11_walkersBy_84 : decode cX11_walkersBy 84 = .ok (.iconst 3, 1) := by decide +kernel
theorem dX11_walkersBy_85 : decode cX11_walkersBy 85 = .ok (.iload 7, 2) := by decide +kernel
theorem dX11_walkersBy_87 : decode cX11_walkersBy 87 = .ok (.imul, 1) := by decide +kernel
theorem dX11_walkersBy_88 : decode cX11_walkersBy 88 = .ok (.iadd, 1) := by decide +kernel
theorem dX11_walkersBy_89 : decode cX11_walkersBy 89 = .ok (.iconst 3, 1) := by decide +kernel
theorem dX11_walkersBy_90 : decode cX11_walkersBy 90 = .ok (.invokevirtual 335, 3) := by decide +kernel
theorem dX11_walkersBy_93 : decode cX11_walkersBy 93 = .ok (.ifCond .ne 6, 3) := by decide +kernel
theorem dX11_walkersBy_96 : decode cX11_walkersBy 96 = .ok (.bipush (-12), 2) := by decide +kernel
theorem dX11_walkersBy_98 : decode cX11_walkersBy 98 = .ok (.ireturn, 1) := by decide +kernel
theorem dX11_walkersBy_99 : decode cX11_walkersBy 99 = .ok (.iload_n 3, 1) := by decide +kernel
theorem dX11_walkersBy_100 : decode cX11_walkersBy 100 = .ok (.iconst 3, 1) := by decide +kernel
theorem dX11_walkersBy_101 : decode cX11_walkersBy 101 = .ok (.iload 7, 2) := by decide +kernel
theorem dX11_walkersBy_103 : decode cX11_walkersBy 103 = .ok (.imul, 1) := by decide +kernel
theorem dX11_walkersBy_104 : decode cX11_walkersBy 104 = .ok (.iadd, 1) := by decide +kernel
theorem dX11_walkersBy_105 : decode cX11_walkersBy 105 = .ok (.istore 8, 2) := by decide +kernel
theorem dX11_walkersBy_107 : decode cX11_walkersBy 107 = .ok (.aload_n 0, 1) := by decide +kernel
theorem dX11_walkersBy_108 : decode cX11_walkersBy 108 = .ok (.aload 5, 2) := by decide +kernel
theorem dX11_walkersBy_110 : decode cX11_walkersBy 110 = .ok (.getfield 317, 3) := by decide +kernel
theorem dX11_walkersBy_113 : decode cX11_walkersBy 113 = .ok (.iload 8, 2) := by decide +kernel
theorem dX11_walkersBy_115 : decode cX11_walkersBy 115 = .ok (.iaload, 1) := by decide +kernel
theorem dX11_walkersBy_116 : decode cX11_walkersBy 116 = .ok (.aload 5, 2) := by decide +kernel
theorem dX11_walkersBy_118 : decode cX11_walkersBy 118 = .ok (.getfield 317, 3) := by decide +kernel
theorem dX11_walkersBy_121 : decode cX11_walkersBy 121 = .ok (.iload 8, 2) := by decide +kernel
theorem dX11_walkersBy_123 : decode cX11_walkersBy 123 = .ok (.iconst 1, 1) := by decide +kernel
theorem dX11_walkersBy_124 : decode cX11_walkersBy 124 = .ok (.iadd, 1) := by decide +kernel
theorem dX11_walkersBy_125 : decode cX11_walkersBy 125 = .ok (.iaload, 1) := by decide +kernel
theorem dX11_walkersBy_126 : decode cX11_walkersBy 126 = .ok (.aload 5, 2) := by decide +kernel
theorem dX11_walkersBy_128 : decode cX11_walkersBy 128 = .ok (.getfield 317, 3) := by decide +kernel
theorem dX11_walkersBy_131 : decode cX11_walkersBy 131 = .ok (.iload 8, 2) := by decide +kernel
theorem dX11_walkersBy_133 : decode cX11_walkersBy 133 = .ok (.iconst 2, 1) := by decide +kernel
theorem dX11_walkersBy_134 : decode cX11_walkersBy 134 = .ok (.iadd, 1) := by decide +kernel
theorem dX11_walkersBy_135 : decode cX11_walkersBy 135 = .ok (.iaload, 1) := by decide +kernel
theorem dX11_walkersBy_136 : decode cX11_walkersBy 136 = .ok (.invokevirtual 348, 3) := by decide +kernel
theorem dX11_walkersBy_139 : decode cX11_walkersBy 139 = .ok (.ifCond .lt 6, 3) := by decide +kernel
theorem dX11_walkersBy_142 : decode cX11_walkersBy 142 = .ok (.iinc 6 1, 3) := by decide +kernel
theorem dX11_walkersBy_145 : decode cX11_walkersBy 145 = .ok (.iinc 7 1, 3) := by decide +kernel
theorem dX11_walkersBy_148 : decode cX11_walkersBy 148 = .ok (.goto (-84), 3) := by decide +kernel
theorem dX11_walkersBy_151 : decode cX11_walkersBy 151 = .ok (.iload 6, 2) := by decide +kernel
theorem dX11_walkersBy_153 : decode cX11_walkersBy 153 = .ok (.ireturn, 1) := by decide +kernel
theorem dX11_taken_0 : decode cX11_taken 0 = .ok (.iload_n 2, 1) := by decide +kernel
theorem dX11_taken_1 : decode cX11_taken 1 = .ok (.ifCond .lt 9, 3) := by decide +kernel
theorem dX11_taken_4 : decode cX11_taken 4 = .ok (.iload_n 2, 1) := by decide +kernel
theorem dX11_taken_5 : decode cX11_taken 5 = .ok (.bipush 6, 2) := by decide +kernel
theorem dX11_taken_7 : decode cX11_taken 7 = .ok (.if_icmp .le 6, 3) := by decide +kernel
theorem dX11_taken_10 : decode cX11_taken 10 = .ok (.bipush (-2), 2) := by decide +kernel
theorem dX11_taken_12 : decode cX11_taken 12 = .ok (.ireturn, 1) := by decide +kernel
theorem dX11_taken_13 : decode cX11_taken 13 = .ok (.iload_n 1, 1) := by decide +kernel
theorem dX11_taken_14 : decode cX11_taken 14 = .ok (.ifCond .lt 9, 3) := by decide +kernel
theorem dX11_taken_17 : decode cX11_taken 17 = .ok (.iload_n 1, 1) := by decide +kernel
theorem dX11_taken_18 : decode cX11_taken 18 = .ok (.bipush 14, 2) := by decide +kernel
theorem dX11_taken_20 : decode cX11_taken 20 = .ok (.if_icmp .lt 6, 3) := by decide +kernel
theorem dX11_taken_23 : decode cX11_taken 23 = .ok (.bipush (-12), 2) := by decide +kernel
theorem dX11_taken_25 : decode cX11_taken 25 = .ok (.ireturn, 1) := by decide +kernel
theorem dX11_taken_26 : decode cX11_taken 26 = .ok (.iload_n 1, 1) := by decide +kernel
theorem dX11_taken_27 : decode cX11_taken 27 = .ok (.bipush 9, 2) := by decide +kernel
theorem dX11_taken_29 : decode cX11_taken 29 = .ok (.if_icmp .ge 12, 3) := by decide +kernel
theorem dX11_taken_32 : decode cX11_taken 32 = .ok (.aload_n 0, 1) := by decide +kernel
theorem dX11_taken_33 : decode cX11_taken 33 = .ok (.iload_n 1, 1) := by decide +kernel
theorem dX11_taken_34 : decode cX11_taken 34 = .ok (.iload_n 2, 1) := by decide +kernel
theorem dX11_taken_35 : decode cX11_taken 35 = .ok (.invokevirtual 351, 3) := by decide +kernel
theorem dX11_taken_38 : decode cX11_taken 38 = .ok (.goto 12, 3) := by decide +kernel
theorem dX11_taken_41 : decode cX11_taken 41 = .ok (.aload_n 0, 1) := by decide +kernel
theorem dX11_taken_42 : decode cX11_taken 42 = .ok (.iload_n 1, 1) := by decide +kernel
theorem dX11_taken_43 : decode cX11_taken 43 = .ok (.bipush 9, 2) := by decide +kernel
theorem dX11_taken_45 : decode cX11_taken 45 = .ok (.isub, 1) := by decide +kernel
theorem dX11_taken_46 : decode cX11_taken 46 = .ok (.iload_n 2, 1) := by decide +kernel
theorem dX11_taken_47 : decode cX11_taken 47 = .ok (.invokevirtual 354, 3) := by decide +kernel
theorem dX11_taken_50 : decode cX11_taken 50 = .ok (.ireturn, 1) := by decide +kernel
theorem dX11_heapTaken_0 : decode cX11_heapTaken 0 = .ok (.iload_n 1, 1) := by decide +kernel
theorem dX11_heapTaken_1 : decode cX11_heapTaken 1 = .ok (.invokestatic 107, 3) := by decide +kernel
theorem dX11_heapTaken_4 : decode cX11_heapTaken 4 = .ok (.ifCond .ne 12, 3) := by decide +kernel
theorem dX11_heapTaken_7 : decode cX11_heapTaken 7 = .ok (.aload_n 0, 1) := by decide +kernel
theorem dX11_heapTaken_8 : decode cX11_heapTaken 8 = .ok (.getfield 9, 3) := by decide +kernel
theorem dX11_heapTaken_11 : decode cX11_heapTaken 11 = .ok (.iload_n 1, 1) := by decide +kernel
theorem dX11_heapTaken_12 : decode cX11_heapTaken 12 = .ok (.iaload, 1) := by decide +kernel
theorem dX11_heapTaken_13 : decode cX11_heapTaken 13 = .ok (.ifCond .ne 6, 3) := by decide +kernel
theorem dX11_heapTaken_16 : decode cX11_heapTaken 16 = .ok (.bipush (-11), 2) := by decide +kernel
theorem dX11_heapTaken_18 : decode cX11_heapTaken 18 = .ok (.ireturn, 1) := by decide +kernel
theorem dX11_heapTaken_19 : decode cX11_heapTaken 19 = .ok (.iload_n 2, 1) := by decide +kernel
theorem dX11_heapTaken_20 : decode cX11_heapTaken 20 = .ok (.bipush 6, 2) := by decide +kernel
theorem dX11_heapTaken_22 : decode cX11_heapTaken 22 = .ok (.if_icmp .ne 12, 3) := by decide +kernel
theorem dX11_heapTaken_25 : decode cX11_heapTaken 25 = .ok (.aload_n 0, 1) := by decide +kernel
theorem dX11_heapTaken_26 : decode cX11_heapTaken 26 = .ok (.getfield 9, 3) := by decide +kernel
theorem dX11_heapTaken_29 : decode cX11_heapTaken 29 = .ok (.iload_n 1, 1) := by decide +kernel
theorem dX11_heapTaken_30 : decode cX11_heapTaken 30 = .ok (.iaload, 1) := by decide +kernel
theorem dX11_heapTaken_31 : decode cX11_heapTaken 31 = .ok (.goto 5, 3) := by decide +kernel
theorem dX11_heapTaken_34 : decode cX11_heapTaken 34 = .ok (.bipush (-13), 2) := by decide +kernel
theorem dX11_heapTaken_36 : decode cX11_heapTaken 36 = .ok (.ireturn, 1) := by decide +kernel
theorem dX11_walkerTaken_0 : decode cX11_walkerTaken 0 = .ok (.aload_n 0, 1) := by decide +kernel
theorem dX11_walkerTaken_1 : decode cX11_walkerTaken 1 = .ok (.iload_n 1, 1) := by decide +kernel
theorem dX11_walkerTaken_2 : decode cX11_walkerTaken 2 = .ok (.invokevirtual 135, 3) := by decide +kernel
theorem dX11_walkerTaken_5 : decode cX11_walkerTaken 5 = .ok (.astore_n 3, 1) := by decide +kernel
theorem dX11_walkerTaken_6 : decode cX11_walkerTaken 6 = .ok (.aload_n 3, 1) := by decide +kernel
theorem dX11_walkerTaken_7 : decode cX11_walkerTaken 7 = .ok (.ifnonnull 6, 3) := by decide +kernel
theorem dX11_walkerTaken_10 : decode cX11_walkerTaken 10 = .ok (.bipush (-11), 2) := by decide +kernel
theorem dX11_walkerTaken_12 : decode cX11_walkerTaken 12 = .ok (.ireturn, 1) := by decide +kernel
theorem dX11_walkerTaken_13 : decode cX11_walkerTaken 13 = .ok (.aload_n 3, 1) := by decide +kernel
theorem dX11_walkerTaken_14 : decode cX11_walkerTaken 14 = .ok (.iload_n 2, 1) := by decide +kernel
theorem dX11_walkerTaken_15 : decode cX11_walkerTaken 15 = .ok (.invokevirtual 357, 3) := by decide +kernel
theorem dX11_walkerTaken_18 : decode cX11_walkerTaken 18 = .ok (.ifCond .eq 10, 3) := by decide +kernel
theorem dX11_walkerTaken_21 : decode cX11_walkerTaken 21 = .ok (.aload_n 3, 1) := by decide +kernel
theorem dX11_walkerTaken_22 : decode cX11_walkerTaken 22 = .ok (.getfield 294, 3) := by decide +kernel
theorem dX11_walkerTaken_25 : decode cX11_walkerTaken 25 = .ok (.goto 5, 3) := by decide +kernel
theorem dX11_walkerTaken_28 : decode cX11_walkerTaken 28 = .ok (.bipush (-13), 2) := by decide +kernel
theorem dX11_walkerTaken_30 : decode cX11_walkerTaken 30 = .ok (.ireturn, 1) := by decide +kernel
theorem dX11_noHeap_0 : decode cX11_noHeap 0 = .ok (.iload_n 0, 1) := by decide +kernel
theorem dX11_noHeap_1 : decode cX11_noHeap 1 = .ok (.ifCond .lt 9, 3) := by decide +kernel
theorem dX11_noHeap_4 : decode cX11_noHeap 4 = .ok (.iload_n 0, 1) := by decide +kernel
theorem dX11_noHeap_5 : decode cX11_noHeap 5 = .ok (.bipush 9, 2) := by decide +kernel
theorem dX11_noHeap_7 : decode cX11_noHeap 7 = .ok (.if_icmp .lt 7, 3) := by decide +kernel
theorem dX11_noHeap_10 : decode cX11_noHeap 10 = .ok (.iconst 1, 1) := by decide +kernel
theorem dX11_noHeap_11 : decode cX11_noHeap 11 = .ok (.goto 4, 3) := by decide +kernel
theorem dX11_noHeap_14 : decode cX11_noHeap 14 = .ok (.iconst 0, 1) := by decide +kernel
theorem dX11_noHeap_15 : decode cX11_noHeap 15 = .ok (.ireturn, 1) := by decide +kernel
theorem dX11_noByte_0 : decode cX11_noByte 0 = .ok (.iload_n 0, 1) := by decide +kernel
theorem dX11_noByte_1 : decode cX11_noByte 1 = .ok (.ifCond .lt 10, 3) := by decide +kernel
theorem dX11_noByte_4 : decode cX11_noByte 4 = .ok (.iload_n 0, 1) := by decide +kernel
theorem dX11_noByte_5 : decode cX11_noByte 5 = .ok (.sipush 255, 3) := by decide +kernel
theorem dX11_noByte_8 : decode cX11_noByte 8 = .ok (.if_icmp .le 7, 3) := by decide +kernel
theorem dX11_noByte_11 : decode cX11_noByte 11 = .ok (.iconst 1, 1) := by decide +kernel
theorem dX11_noByte_12 : decode cX11_noByte 12 = .ok (.goto 4, 3) := by decide +kernel
theorem dX11_noByte_15 : decode cX11_noByte 15 = .ok (.iconst 0, 1) := by decide +kernel
theorem dX11_noByte_16 : decode cX11_noByte 16 = .ok (.ireturn, 1) := by decide +kernel
theorem dX11_noSeconds_0 : decode cX11_noSeconds 0 = .ok (.iload_n 0, 1) := by decide +kernel
theorem dX11_noSeconds_1 : decode cX11_noSeconds 1 = .ok (.ifCond .lt 10, 3) := by decide +kernel
theorem dX11_noSeconds_4 : decode cX11_noSeconds 4 = .ok (.iload_n 0, 1) := by decide +kernel
theorem dX11_noSeconds_5 : decode cX11_noSeconds 5 = .ok (.sipush 600, 3) := by decide +kernel
theorem dX11_noSeconds_8 : decode cX11_noSeconds 8 = .ok (.if_icmp .le 7, 3) := by decide +kernel
theorem dX11_noSeconds_11 : decode cX11_noSeconds 11 = .ok (.iconst 1, 1) := by decide +kernel
theorem dX11_noSeconds_12 : decode cX11_noSeconds 12 = .ok (.goto 4, 3) := by decide +kernel
theorem dX11_noSeconds_15 : decode cX11_noSeconds 15 = .ok (.iconst 0, 1) := by decide +kernel
theorem dX11_noSeconds_16 : decode cX11_noSeconds 16 = .ok (.ireturn, 1) := by decide +kernel
theorem dX11_walkerOf_0 : decode cX11_walkerOf 0 = .ok (.iload_n 1, 1) := by decide +kernel
theorem dX11_walkerOf_1 : decode cX11_walkerOf 1 = .ok (.ifCond .lt 25, 3) := by decide +kernel
theorem dX11_walkerOf_4 : decode cX11_walkerOf 4 = .ok (.iload_n 1, 1) := by decide +kernel
theorem dX11_walkerOf_5 : decode cX11_walkerOf 5 = .ok (.aload_n 0, 1) := by decide +kernel
theorem dX11_walkerOf_6 : decode cX11_walkerOf 6 = .ok (.getfield 94, 3) := by decide +kernel
theorem dX11_walkerOf_9 : decode cX11_walkerOf 9 = .ok (.if_icmp .ge 17, 3) := by decide +kernel
theorem dX11_walkerOf_12 : decode cX11_walkerOf 12 = .ok (.iload_n 1, 1) := by decide +kernel
theorem dX11_walkerOf_13 : decode cX11_walkerOf 13 = .ok (.iconst 5, 1) := by decide +kernel
theorem dX11_walkerOf_14 : decode cX11_walkerOf 14 = .ok (.if_icmp .ge 12, 3) := by decide +kernel
theorem dX11_walkerOf_17 : decode cX11_walkerOf 17 = .ok (.aload_n 0, 1) := by decide +kernel
theorem dX11_walkerOf_18 : decode cX11_walkerOf 18 = .ok (.getfield 22, 3) := by decide +kernel
theorem dX11_walkerOf_21 : decode cX11_walkerOf 21 = .ok (.iload_n 1, 1) := by decide +kernel
theorem dX11_walkerOf_22 : decode cX11_walkerOf 22 = .ok (.aaload, 1) := by decide +kernel
theorem dX11_walkerOf_23 : decode cX11_walkerOf 23 = .ok (.goto 4, 3) := by decide +kernel
theorem dX11_walkerOf_26 : decode cX11_walkerOf 26 = .ok (.aconst_null, 1) := by decide +kernel
theorem dX11_walkerOf_27 : decode cX11_walkerOf 27 = .ok (.areturn, 1) := by decide +kernel
theorem dX11_textOf_0 : decode cX11_textOf 0 = .ok (.iload_n 1, 1) := by decide +kernel
theorem dX11_textOf_1 : decode cX11_textOf 1 = .ok (.ifCond .lt 26, 3) := by decide +kernel
theorem dX11_textOf_4 : decode cX11_textOf 4 = .ok (.iload_n 1, 1) := by decide +kernel
theorem dX11_textOf_5 : decode cX11_textOf 5 = .ok (.aload_n 0, 1) := by decide +kernel
theorem dX11_textOf_6 : decode cX11_textOf 6 = .ok (.getfield 90, 3) := by decide +kernel
theorem dX11_textOf_9 : decode cX11_textOf 9 = .ok (.if_icmp .ge 18, 3) := by decide +kernel
theorem dX11_textOf_12 : decode cX11_textOf 12 = .ok (.iload_n 1, 1) := by decide +kernel
theorem dX11_textOf_13 : decode cX11_textOf 13 = .ok (.bipush 6, 2) := by decide +kernel
theorem dX11_textOf_15 : decode cX11_textOf 15 = .ok (.if_icmp .ge 12, 3) := by decide +kernel
theorem dX11_textOf_18 : decode cX11_textOf 18 = .ok (.aload_n 0, 1) := by decide +kernel
theorem dX11_textOf_19 : decode cX11_textOf 19 = .ok (.getfield 28, 3) := by decide +kernel
theorem dX11_textOf_22 : decode cX11_textOf 22 = .ok (.iload_n 1, 1) := by decide +kernel
theorem dX11_textOf_23 : decode cX11_textOf 23 = .ok (.aaload, 1) := by decide +kernel
theorem dX11_textOf_24 : decode cX11_textOf 24 = .ok (.goto 4, 3) := by decide +kernel
theorem dX11_textOf_27 : decode cX11_textOf 27 = .ok (.aconst_null, 1) := by decide +kernel
theorem dX11_textOf_28 : decode cX11_textOf 28 = .ok (.areturn, 1) := by decide +kernel
theorem dX11_sheetOf_0 : decode cX11_sheetOf 0 = .ok (.iload_n 1, 1) := by decide +kernel
theorem dX11_sheetOf_1 : decode cX11_sheetOf 1 = .ok (.ifCond .lt 17, 3) := by decide +kernel
theorem dX11_sheetOf_4 : decode cX11_sheetOf 4 = .ok (.iload_n 1, 1) := by decide +kernel
theorem dX11_sheetOf_5 : decode cX11_sheetOf 5 = .ok (.iconst 4, 1) := by decide +kernel
theorem dX11_sheetOf_6 : decode cX11_sheetOf 6 = .ok (.if_icmp .ge 12, 3) := by decide +kernel
theorem dX11_sheetOf_9 : decode cX11_sheetOf 9 = .ok (.aload_n 0, 1) := by decide +kernel
theorem dX11_sheetOf_10 : decode cX11_sheetOf 10 = .ok (.getfield 41, 3) := by decide +kernel
theorem dX11_sheetOf_13 : decode cX11_sheetOf 13 = .ok (.iload_n 1, 1) := by decide +kernel
theorem dX11_sheetOf_14 : decode cX11_sheetOf 14 = .ok (.aaload, 1) := by decide +kernel
theorem dX11_sheetOf_15 : decode cX11_sheetOf 15 = .ok (.goto 4, 3) := by decide +kernel
theorem dX11_sheetOf_18 : decode cX11_sheetOf 18 = .ok (.aconst_null, 1) := by decide +kernel
theorem dX11_sheetOf_19 : decode cX11_sheetOf 19 = .ok (.areturn, 1) := by decide +kernel
theorem dX11_layPlain_0 : decode cX11_layPlain 0 = .ok (.aload_n 0, 1) := by decide +kernel
theorem dX11_layPlain_1 : decode cX11_layPlain 1 = .ok (.iconst (-1), 1) := by decide +kernel
theorem dX11_layPlain_2 : decode cX11_layPlain 2 = .ok (.invokevirtual 236, 3) := by decide +kernel
theorem dX11_layPlain_5 : decode cX11_layPlain 5 = .ok (.return_, 1) := by decide +kernel
theorem dX11_layWithout_0 : decode cX11_layWithout 0 = .ok (.aload_n 0, 1) := by decide +kernel
theorem dX11_layWithout_1 : decode cX11_layWithout 1 = .ok (.invokevirtual 243, 3) := by decide +kernel
theorem dX11_layWithout_4 : decode cX11_layWithout 4 = .ok (.iconst 0, 1) := by decide +kernel
theorem dX11_layWithout_5 : decode cX11_layWithout 5 = .ok (.istore_n 2, 1) := by decide +kernel
theorem dX11_layWithout_6 : decode cX11_layWithout 6 = .ok (.iload_n 2, 1) := by decide +kernel
theorem dX11_layWithout_7 : decode cX11_layWithout 7 = .ok (.aload_n 0, 1) := by decide +kernel
theorem dX11_layWithout_8 : decode cX11_layWithout 8 = .ok (.getfield 94, 3) := by decide +kernel
theorem dX11_layWithout_11 : decode cX11_layWithout 11 = .ok (.if_icmp .ge 26, 3) := by decide +kernel
theorem dX11_layWithout_14 : decode cX11_layWithout 14 = .ok (.iload_n 2, 1) := by decide +kernel
theorem dX11_layWithout_15 : decode cX11_layWithout 15 = .ok (.iload_n 1, 1) := by decide +kernel
theorem dX11_layWithout_16 : decode cX11_layWithout 16 = .ok (.if_icmp .eq 15, 3) := by decide +kernel
theorem dX11_layWithout_19 : decode cX11_layWithout 19 = .ok (.aload_n 0, 1) := by decide +kernel
theorem dX11_layWithout_20 : decode cX11_layWithout 20 = .ok (.getfield 48, 3) := by decide +kernel
theorem dX11_layWithout_23 : decode cX11_layWithout 23 = .ok (.aload_n 0, 1) := by decide +kernel
theorem dX11_layWithout_24 : decode cX11_layWithout 24 = .ok (.iload_n 2, 1) := by decide +kernel
theorem dX11_layWithout_25 : decode cX11_layWithout 25 = .ok (.invokevirtual 135, 3) := by decide +kernel
theorem dX11_layWithout_28 : decode cX11_layWithout 28 = .ok (.invokevirtual 246, 3) := by decide +kernel
theorem dX11_layWithout_31 : decode cX11_layWithout 31 = .ok (.iinc 2 1, 3) := by decide +kernel
theorem dX11_layWithout_34 : decode cX11_layWithout 34 = .ok (.goto (-28), 3) := by decide +kernel
theorem dX11_layWithout_37 : decode cX11_layWithout 37 = .ok (.return_, 1) := by decide +kernel
theorem dX11_layPlainWith_0 : decode cX11_layPlainWith 0 = .ok (.aload_n 0, 1) := by decide +kernel
theorem dX11_layPlainWith_1 : decode cX11_layPlainWith 1 = .ok (.invokevirtual 243, 3) := by decide +kernel
theorem dX11_layPlainWith_4 : decode cX11_layPlainWith 4 = .ok (.iconst 0, 1) := by decide +kernel
theorem dX11_layPlainWith_5 : decode cX11_layPlainWith 5 = .ok (.istore_n 2, 1) := by decide +kernel
theorem dX11_layPlainWith_6 : decode cX11_layPlainWith 6 = .ok (.iload_n 2, 1) := by decide +kernel
theorem dX11_layPlainWith_7 : decode cX11_layPlainWith 7 = .ok (.aload_n 0, 1) := by decide +kernel
theorem dX11_layPlainWith_8 : decode cX11_layPlainWith 8 = .ok (.getfield 94, 3) := by decide +kernel
theorem dX11_layPlainWith_11 : decode cX11_layPlainWith 11 = .ok (.if_icmp .ge 37, 3) := by decide +kernel
theorem dX11_layPlainWith_14 : decode cX11_layPlainWith 14 = .ok (.aload_n 0, 1) := by decide +kernel
theorem dX11_layPlainWith_15 : decode cX11_layPlainWith 15 = .ok (.getfield 48, 3) := by decide +kernel
theorem dX11_layPlainWith_18 : decode cX11_layPlainWith 18 = .ok (.aload_n 1, 1) := by decide +kernel
theorem dX11_layPlainWith_19 : decode cX11_layPlainWith 19 = .ok (.ifnull 15, 3) := by decide +kernel
theorem dX11_layPlainWith_22 : decode cX11_layPlainWith 22 = .ok (.iload_n 2, 1) := by decide +kernel
theorem dX11_layPlainWith_23 : decode cX11_layPlainWith 23 = .ok (.aload_n 1, 1) := by decide +kernel
theorem dX11_layPlainWith_24 : decode cX11_layPlainWith 24 = .ok (.getfield 294, 3) := by decide +kernel
theorem dX11_layPlainWith_27 : decode cX11_layPlainWith 27 = .ok (.if_icmp .ne 7, 3) := by decide +kernel
theorem dX11_layPlainWith_30 : decode cX11_layPlainWith 30 = .ok (.aload_n 1, 1) := by decide +kernel
theorem dX11_layPlainWith_31 : decode cX11_layPlainWith 31 = .ok (.goto 8, 3) := by decide +kernel
theorem dX11_layPlainWith_34 : decode cX11_layPlainWith 34 = .ok (.aload_n 0, 1) := by decide +kernel
theorem dX11_layPlainWith_35 : decode cX11_layPlainWith 35 = .ok (.iload_n 2, 1) := by decide +kernel
theorem dX11_layPlainWith_36 : decode cX11_layPlainWith 36 = .ok (.invokevirtual 135, 3) := by decide +kernel
theorem dX11_layPlainWith_39 : decode cX11_layPlainWith 39 = .ok (.invokevirtual 246, 3) := by decide +kernel
theorem dX11_layPlainWith_42 : decode cX11_layPlainWith 42 = .ok (.iinc 2 1, 3) := by decide +kernel
theorem dX11_layPlainWith_45 : decode cX11_layPlainWith 45 = .ok (.goto (-39), 3) := by decide +kernel
theorem dX11_layPlainWith_48 : decode cX11_layPlainWith 48 = .ok (.return_, 1) := by decide +kernel
theorem dX11_layHeaps_0 : decode cX11_layHeaps 0 = .ok (.aload_n 0, 1) := by decide +kernel
theorem dX11_layHeaps_1 : decode cX11_layHeaps 1 = .ok (.getfield 48, 3) := by decide +kernel
theorem dX11_layHeaps_4 : decode cX11_layHeaps 4 = .ok (.aload_n 0, 1) := by decide +kernel
theorem dX11_layHeaps_5 : decode cX11_layHeaps 5 = .ok (.getfield 9, 3) := by decide +kernel
theorem dX11_layHeaps_8 : decode cX11_layHeaps 8 = .ok (.aload_n 0, 1) := by decide +kernel
theorem dX11_layHeaps_9 : decode cX11_layHeaps 9 = .ok (.getfield 13, 3) := by decide +kernel
theorem dX11_layHeaps_12 : decode cX11_layHeaps 12 = .ok (.aload_n 0, 1) := by decide +kernel
theorem dX11_layHeaps_13 : decode cX11_layHeaps 13 = .ok (.aload_n 0, 1) := by decide +kernel
theorem dX11_layHeaps_14 : decode cX11_layHeaps 14 = .ok (.getfield 97, 3) := by decide +kernel
theorem dX11_layHeaps_17 : decode cX11_layHeaps 17 = .ok (.invokevirtual 139, 3) := by decide +kernel
theorem dX11_layHeaps_20 : decode cX11_layHeaps 20 = .ok (.aload_n 0, 1) := by decide +kernel
theorem dX11_layHeaps_21 : decode cX11_layHeaps 21 = .ok (.getfield 16, 3) := by decide +kernel
theorem dX11_layHeaps_24 : decode cX11_layHeaps 24 = .ok (.aload_n 0, 1) := by decide +kernel
theorem dX11_layHeaps_25 : decode cX11_layHeaps 25 = .ok (.getfield 94, 3) := by decide +kernel
theorem dX11_layHeaps_28 : decode cX11_layHeaps 28 = .ok (.invokevirtual 360, 3) := by decide +kernel
theorem dX11_layHeaps_31 : decode cX11_layHeaps 31 = .ok (.return_, 1) := by decide +kernel
theorem dX11_newWalker_0 : decode cX11_newWalker 0 = .ok (.iload_n 0, 1) := by decide +kernel
theorem dX11_newWalker_1 : decode cX11_newWalker 1 = .ok (.tableswitch 90 1 5 #[35, 46, 57, 68, 79], 35) := by decide +kernel
theorem dX11_newWalker_36 : decode cX11_newWalker 36 = .ok (.new 364, 3) := by decide +kernel
theorem dX11_newWalker_39 : decode cX11_newWalker 39 = .ok (.dup, 1) := by decide +kernel
theorem dX11_newWalker_40 : decode cX11_newWalker 40 = .ok (.iload_n 1, 1) := by decide +kernel
theorem dX11_newWalker_41 : decode cX11_newWalker 41 = .ok (.iload_n 2, 1) := by decide +kernel
theorem dX11_newWalker_42 : decode cX11_newWalker 42 = .ok (.iload_n 3, 1) := by decide +kernel
theorem dX11_newWalker_43 : decode cX11_newWalker 43 = .ok (.invokespecial 366, 3) := by decide +kernel
theorem dX11_newWalker_46 : decode cX11_newWalker 46 = .ok (.areturn, 1) := by decide +kernel
theorem dX11_newWalker_47 : decode cX11_newWalker 47 = .ok (.new 369, 3) := by decide +kernel
theorem dX11_newWalker_50 : decode cX11_newWalker 50 = .ok (.dup, 1) := by decide +kernel
theorem dX11_newWalker_51 : decode cX11_newWalker 51 = .ok (.iload_n 1, 1) := by decide +kernel
theorem dX11_newWalker_52 : decode cX11_newWalker 52 = .ok (.iload_n 2, 1) := by decide +kernel
theorem dX11_newWalker_53 : decode cX11_newWalker 53 = .ok (.iload_n 3, 1) := by decide +kernel
theorem dX11_newWalker_54 : decode cX11_newWalker 54 = .ok (.invokespecial 371, 3) := by decide +kernel
theorem dX11_newWalker_57 : decode cX11_newWalker 57 = .ok (.areturn, 1) := by decide +kernel
theorem dX11_newWalker_58 : decode cX11_newWalker 58 = .ok (.new 372, 3) := by decide +kernel
theorem dX11_newWalker_61 : decode cX11_newWalker 61 = .ok (.dup, 1) := by decide +kernel
theorem dX11_newWalker_62 : decode cX11_newWalker 62 = .ok (.iload_n 1, 1) := by decide +kernel
theorem dX11_newWalker_63 : decode cX11_newWalker 63 = .ok (.iload_n 2, 1) := by decide +kernel
theorem dX11_newWalker_64 : decode cX11_newWalker 64 = .ok (.iload_n 3, 1) := by decide +kernel
theorem dX11_newWalker_65 : decode cX11_newWalker 65 = .ok (.invokespecial 374, 3) := by decide +kernel
theorem dX11_newWalker_68 : decode cX11_newWalker 68 = .ok (.areturn, 1) := by decide +kernel
theorem dX11_newWalker_69 : decode cX11_newWalker 69 = .ok (.new 375, 3) := by decide +kernel
theorem dX11_newWalker_72 : decode cX11_newWalker 72 = .ok (.dup, 1) := by decide +kernel
theorem dX11_newWalker_73 : decode cX11_newWalker 73 = .ok (.iload_n 1, 1) := by decide +kernel
theorem dX11_newWalker_74 : decode cX11_newWalker 74 = .ok (.iload_n 2, 1) := by decide +kernel
theorem dX11_newWalker_75 : decode cX11_newWalker 75 = .ok (.iload_n 3, 1) := by decide +kernel
theorem dX11_newWalker_76 : decode cX11_newWalker 76 = .ok (.invokespecial 377, 3) := by decide +kernel
theorem dX11_newWalker_79 : decode cX11_newWalker 79 = .ok (.areturn, 1) := by decide +kernel
theorem dX11_newWalker_80 : decode cX11_newWalker 80 = .ok (.new 378, 3) := by decide +kernel
theorem dX11_newWalker_83 : decode cX11_newWalker 83 = .ok (.dup, 1) := by decide +kernel
theorem dX11_newWalker_84 : decode cX11_newWalker 84 = .ok (.iload_n 1, 1) := by decide +kernel
theorem dX11_newWalker_85 : decode cX11_newWalker 85 = .ok (.iload_n 2, 1) := by decide +kernel
theorem dX11_newWalker_86 : decode cX11_newWalker 86 = .ok (.iload_n 3, 1) := by decide +kernel
theorem dX11_newWalker_87 : decode cX11_newWalker 87 = .ok (.invokespecial 380, 3) := by decide +kernel
theorem dX11_newWalker_90 : decode cX11_newWalker 90 = .ok (.areturn, 1) := by decide +kernel
theorem dX11_newWalker_91 : decode cX11_newWalker 91 = .ok (.new 20, 3) := by decide +kernel
theorem dX11_newWalker_94 : decode cX11_newWalker 94 = .ok (.dup, 1) := by decide +kernel
theorem dX11_newWalker_95 : decode cX11_newWalker 95 = .ok (.iload_n 1, 1) := by decide +kernel
theorem dX11_newWalker_96 : decode cX11_newWalker 96 = .ok (.iload_n 2, 1) := by decide +kernel
theorem dX11_newWalker_97 : decode cX11_newWalker 97 = .ok (.iload_n 3, 1) := by decide +kernel
theorem dX11_newWalker_98 : decode cX11_newWalker 98 = .ok (.invokespecial 381, 3) := by decide +kernel
theorem dX11_newWalker_101 : decode cX11_newWalker 101 = .ok (.areturn, 1) := by decide +kernel
theorem dX12_init_0 : decode cX12_init 0 = .ok (.aload_n 0, 1) := by decide +kernel
theorem dX12_init_1 : decode cX12_init 1 = .ok (.invokespecial 1, 3) := by decide +kernel
theorem dX12_init_4 : decode cX12_init 4 = .ok (.aload_n 0, 1) := by decide +kernel
theorem dX12_init_5 : decode cX12_init 5 = .ok (.bipush 9, 2) := by decide +kernel
theorem dX12_init_7 : decode cX12_init 7 = .ok (.newarray .int, 2) := by decide +kernel
theorem dX12_init_9 : decode cX12_init 9 = .ok (.dup, 1) := by decide +kernel
theorem dX12_init_10 : decode cX12_init 10 = .ok (.iconst 0, 1) := by decide +kernel
theorem dX12_init_11 : decode cX12_init 11 = .ok (.bipush 50, 2) := by decide +kernel
theorem dX12_init_13 : decode cX12_init 13 = .ok (.iastore, 1) := by decide +kernel
theorem dX12_init_14 : decode cX12_init 14 = .ok (.dup, 1) := by decide +kernel
theorem dX12_init_15 : decode cX12_init 15 = .ok (.iconst 1, 1) := by decide +kernel
theorem dX12_init_16 : decode cX12_init 16 = .ok (.bipush 50, 2) := by decide +kernel
theorem dX12_init_18 : decode cX12_init 18 = .ok (.iastore, 1) := by decide +kernel
theorem dX12_init_19 : decode cX12_init 19 = .ok (.dup, 1) := by decide +kernel
theorem dX12_init_20 : decode cX12_init 20 = .ok (.iconst 2, 1) := by decide +kernel
theorem dX12_init_21 : decode cX12_init 21 = .ok (.bipush 50, 2) := by decide +kernel
theorem dX12_init_23 : decode cX12_init 23 = .ok (.iastore, 1) := by decide +kernel
theorem dX12_init_24 : decode cX12_init 24 = .ok (.dup, 1) := by decide +kernel
theorem dX12_init_25 : decode cX12_init 25 = .ok (.iconst 3, 1) := by decide +kernel
theorem dX12_init_26 : decode cX12_init 26 = .ok (.bipush 50, 2) := by decide +kernel
theorem dX12_init_28 : decode cX12_init 28 = .ok (.iastore, 1) := by decide +kernel
theorem dX12_init_29 : decode cX12_init 29 = .ok (.dup, 1) := by decide +kernel
theorem dX12_init_30 : decode cX12_init 30 = .ok (.iconst 4, 1) := by decide +kernel
theorem dX12_init_31 : decode cX12_init 31 = .ok (.bipush 50, 2) := by decide +kernel
theorem dX12_init_33 : decode cX12_init 33 = .ok (.iastore, 1) := by decide +kernel
theorem dX12_init_34 : decode cX12_init 34 = .ok (.dup, 1) := by decide +kernel
theorem dX12_init_35 : decode cX12_init 35 = .ok (.iconst 5, 1) := by decide +kernel
theorem dX12_init_36 : decode cX12_init 36 = .ok (.bipush 50, 2) := by decide +kernel
theorem dX12_init_38 : decode cX12_init 38 = .ok (.iastore, 1) := by decide +kernel
theorem dX12_init_39 : decode cX12_init 39 = .ok (.dup, 1) := by decide +kernel
theorem dX12_init_40 : decode cX12_init 40 = .ok (.bipush 6, 2) := by decide +kernel
theorem dX12_init_42 : decode cX12_init 42 = .ok (.bipush 50, 2) := by decide +kernel
theorem dX12_init_44 : decode cX12_init 44 = .ok (.iastore, 1) := by decide +kernel
theorem dX12_init_45 : decode cX12_init 45 = .ok (.dup, 1) := by decide +kernel
theorem dX12_init_46 : decode cX12_init 46 = .ok (.bipush 7, 2) := by decide +kernel
theorem dX12_init_48 : decode cX12_init 48 = .ok (.bipush 50, 2) := by decide +kernel
theorem dX12_init_50 : decode cX12_init 50 = .ok (.iastore, 1) := by decide +kernel
theorem dX12_init_51 : decode cX12_init 51 = .ok (.dup, 1) := by decide +kernel
theorem dX12_init_52 : decode cX12_init 52 = .ok (.bipush 8, 2) := by decide +kernel
theorem dX12_init_54 : decode cX12_init 54 = .ok (.bipush 50, 2) := by decide +kernel
theorem dX12_init_56 : decode cX12_init 56 = .ok (.iastore, 1) := by decide +kernel
theorem dX12_init_57 : decode cX12_init 57 = .ok (.putfield 7, 3) := by decide +kernel
theorem dX12_init_60 : decode cX12_init 60 = .ok (.aload_n 0, 1) := by decide +kernel
theorem dX12_init_61 : decode cX12_init 61 = .ok (.bipush 9, 2) := by decide +kernel
theorem dX12_init_63 : decode cX12_init 63 = .ok (.newarray .int, 2) := by decide +kernel
theorem dX12_init_65 : decode cX12_init 65 = .ok (.putfield 13, 3) := by decide +kernel
theorem dX12_init_68 : decode cX12_init 68 = .ok (.aload_n 0, 1) := by decide +kernel
theorem dX12_init_69 : decode cX12_init 69 = .ok (.bipush 20, 2) := by decide +kernel
theorem dX12_init_71 : decode cX12_init 71 = .ok (.putfield 16, 3) := by decide +kernel
theorem dX12_init_74 : decode cX12_init 74 = .ok (.aload_n 0, 1) := by decide +kernel
theorem dX12_init_75 : decode cX12_init 75 = .ok (.iconst 5, 1) := by decide +kernel
theorem dX12_init_76 : decode cX12_init 76 = .ok (.newarray .int, 2) := by decide +kernel
theorem dX12_init_78 : decode cX12_init 78 = .ok (.putfield 20, 3) := by decide +kernel
theorem dX12_init_81 : decode cX12_init 81 = .ok (.aload_n 0, 1) := by decide +kernel
theorem dX12_init_82 : decode cX12_init 82 = .ok (.iconst 5, 1) := by decide +kernel
theorem dX12_init_83 : decode cX12_init 83 = .ok (.newarray .int, 2) := by decide +kernel
theorem dX12_init_85 : decode cX12_init 85 = .ok (.putfield 23, 3) := by decide +kernel
theorem dX12_init_88 : decode cX12_init 88 = .ok (.aload_n 0, 1) := by decide +kernel
theorem dX12_init_89 : decode cX12_init 89 = .ok (.iconst 5, 1) := by decide +kernel
theorem dX12_init_90 : decode cX12_init 90 = .ok (.newarray .int, 2) := by decide +kernel
theorem dX12_init_92 : decode cX12_init 92 = .ok (.putfield 26, 3) := by decide +kernel
theorem dX12_init_95 : decode cX12_init 95 = .ok (.aload_n 0, 1) := by decide +kernel
theorem dX12_init_96 : decode cX12_init 96 = .ok (.sipush 160, 3) := by decide +kernel
theorem dX12_init_99 : decode cX12_init 99 = .ok (.newarray .int, 2) := by decide +kernel
theorem dX12_init_101 : decode cX12_init 101 = .ok (.putfield 29, 3) := by decide +kernel
theorem dX12_init_104 : decode cX12_init 104 = .ok (.aload_n 0, 1) := by decide +kernel
theorem dX12_init_105 : decode cX12_init 105 = .ok (.sipush 1200, 3) := by decide +kernel
theorem dX12_init_108 : decode cX12_init 108 = .ok (.newarray .int, 2) := by decide +kernel
theorem dX12_init_110 : decode cX12_init 110 = .ok (.putfield 32, 3) := by decide +kernel
theorem dX12_init_113 : decode cX12_init 113 = .ok (.aload_n 0, 1) := by decide +kernel
theorem dX12_init_114 : decode cX12_init 114 = .ok (.bipush 24, 2) := by decide +kernel
theorem dX12_init_116 : decode cX12_init 116 = .ok (.newarray .int, 2) := by decide +kernel
theorem dX12_init_118 : decode cX12_init 118 = .ok (.putfield 35, 3) := by decide +kernel
theorem dX12_init_121 : decode cX12_init 121 = .ok (.aload_n 0, 1) := by decide +kernel
theorem dX12_init_122 : decode cX12_init 122 = .ok (.bipush 23, 2) := by decide +kernel
theorem dX12_init_124 : decode cX12_init 124 = .ok (.newarray .int, 2) := by decide +kernel
theorem dX12_init_126 : decode cX12_init 126 = .ok (.putfield 38, 3) := by decide +kernel
theorem dX12_init_129 : decode cX12_init 129 = .ok (.aload_n 0, 1) := by decide +kernel
theorem dX12_init_130 : decode cX12_init 130 = .ok (.iconst 4, 1) := by decide +kernel
theorem dX12_init_131 : decode cX12_init 131 = .ok (.newarray .int, 2) := by decide +kernel
theorem dX12_init_133 : decode cX12_init 133 = .ok (.dup, 1) := by decide +kernel
theorem dX12_init_134 : decode cX12_init 134 = .ok (.iconst 0, 1) := by decide +kernel
theorem dX12_init_135 : decode cX12_init 135 = .ok (.iconst (-1), 1) := by decide +kernel
theorem dX12_init_136 : decode cX12_init 136 = .ok (.iastore, 1) := by decide +kernel
theorem dX12_init_137 : decode cX12_init 137 = .ok (.dup, 1) := by decide +kernel
theorem dX12_init_138 : decode cX12_init 138 = .ok (.iconst 1, 1) := by decide +kernel
theorem dX12_init_139 : decode cX12_init 139 = .ok (.iconst (-1), 1) := by decide +kernel
theorem dX12_init_140 : decode cX12_init 140 = .ok (.iastore, 1) := by decide +kernel
theorem dX12_init_141 : decode cX12_init 141 = .ok (.dup, 1) := by decide +kernel
theorem dX12_init_142 : decode cX12_init 142 = .ok (.iconst 2, 1) := by decide +kernel
theorem dX12_init_143 : decode cX12_init 143 = .ok (.iconst (-1), 1) := by decide +kernel
theorem dX12_init_144 : decode cX12_init 144 = .ok (.iastore, 1) := by decide +kernel
theorem dX12_init_145 : decode cX12_init 145 = .ok (.dup, 1) := by decide +kernel
theorem dX12_init_146 : decode cX12_init 146 = .ok (.iconst 3, 1) := by decide +kernel
theorem dX12_init_147 : decode cX12_init 147 = .ok (.iconst (-1), 1) := by decide +kernel
theorem dX12_init_148 : decode cX12_init 148 = .ok (.iastore, 1) := by decide +kernel
theorem dX12_init_149 : decode cX12_init 149 = .ok (.putfield 41, 3) := by decide +kernel
theorem dX12_init_152 : decode cX12_init 152 = .ok (.aload_n 0, 1) := by decide +kernel
theorem dX12_init_153 : decode cX12_init 153 = .ok (.iconst 4, 1) := by decide +kernel
theorem dX12_init_154 : decode cX12_init 154 = .ok (.newarray .int, 2) := by decide +kernel
theorem dX12_init_156 : decode cX12_init 156 = .ok (.putfield 44, 3) := by decide +kernel
theorem dX12_init_159 : decode cX12_init 159 = .ok (.aload_n 0, 1) := by decide +kernel
theorem dX12_init_160 : decode cX12_init 160 = .ok (.sipush 160, 3) := by decide +kernel
theorem dX12_init_163 : decode cX12_init 163 = .ok (.newarray .int, 2) := by decide +kernel
theorem dX12_init_165 : decode cX12_init 165 = .ok (.putfield 47, 3) := by decide +kernel
theorem dX12_init_168 : decode cX12_init 168 = .ok (.aload_n 0, 1) := by decide +kernel
theorem dX12_init_169 : decode cX12_init 169 = .ok (.bipush 29, 2) := by decide +kernel
theorem dX12_init_171 : decode cX12_init 171 = .ok (.newarray .int, 2) := by decide +kernel
theorem dX12_init_173 : decode cX12_init 173 = .ok (.dup, 1) := by decide +kernel
theorem dX12_init_174 : decode cX12_init 174 = .ok (.iconst 0, 1) := by decide +kernel
theorem dX12_init_175 : decode cX12_init 175 = .ok (.bipush 116, 2) := by decide +kernel
theorem dX12_init_177 : decode cX12_init 177 = .ok (.iastore, 1) := by decide +kernel
theorem dX12_init_178 : decode cX12_init 178 = .ok (.dup, 1) := by decide +kernel
theorem dX12_init_179 : decode cX12_init 179 = .ok (.iconst 1, 1) := by decide +kernel
theorem dX12_init_180 : decode cX12_init 180 = .ok (.bipush 97, 2) := by decide +kernel
theorem dX12_init_182 : decode cX12_init 182 = .ok (.iastore, 1) := by decide +kernel
theorem dX12_init_183 : decode cX12_init 183 = .ok (.dup, 1) := by decide +kernel
theorem dX12_init_184 : decode cX12_init 184 = .ok (.iconst 2, 1) := by decide +kernel
theorem dX12_init_185 : decode cX12_init 185 = .ok (.bipush 107, 2) := by decide +kernel
theorem dX12_init_187 : decode cX12_init 187 = .ok (.iastore, 1) := by decide +kernel
theorem dX12_init_188 : decode cX12_init 188 = .ok (.dup, 1) := by decide +kernel
theorem dX12_init_189 : decode cX12_init 189 = .ok (.iconst 3, 1) := by decide +kernel
theorem dX12_init_190 : decode cX12_init 190 = .ok (.bipush 101, 2) := by decide +kernel
theorem dX12_init_192 : decode cX12_init 192 = .ok (.iastore, 1) := by decide +kernel
theorem dX12_init_193 : decode cX12_init 193 = .ok (.dup, 1) := by decide +kernel
theorem dX12_init_194 : decode cX12_init 194 = .ok (.iconst 4, 1) := by decide +kernel
theorem dX12_init_195 : decode cX12_init 195 = .ok (.bipush 115, 2) := by decide +kernel
theorem dX12_init_197 : decode cX12_init 197 = .ok (.iastore, 1) := by decide +kernel
theorem dX12_init_198 : decode cX12_init 198 = .ok (.dup, 1) := by decide +kernel
theorem dX12_init_199 : decode cX12_init 199 = .ok (.iconst 5, 1) := by decide +kernel
theorem dX12_init_200 : decode cX12_init 200 = .ok (.bipush 32, 2) := by decide +kernel
theorem dX12_init_202 : decode cX12_init 202 = .ok (.iastore, 1) := by decide +kernel
theorem dX12_init_203 : decode cX12_init 203 = .ok (.dup, 1) := by decide +kernel
theorem dX12_init_204 : decode cX12_init 204 = .ok (.bipush 6, 2) := by decide +kernel
theorem dX12_init_206 : decode cX12_init 206 = .ok (.bipush 50, 2) := by decide +kernel
theorem dX12_init_208 : decode cX12_init 208 = .ok (.iastore, 1) := by decide +kernel
theorem dX12_init_209 : decode cX12_init 209 = .ok (.dup, 1) := by decide +kernel
theorem dX12_init_210 : decode cX12_init 210 = .ok (.bipush 7, 2) := by decide +kernel
theorem dX12_init_212 : decode cX12_init 212 = .ok (.bipush 32, 2) := by decide +kernel
theorem dX12_init_214 : decode cX12_init 214 = .ok (.iastore, 1) := by decide +kernel
theorem dX12_init_215 : decode cX12_init 215 = .ok (.dup, 1) := by decide +kernel
theorem dX12_init_216 : decode cX12_init 216 = .ok (.bipush 8, 2) := by decide +kernel
theorem dX12_init_218 : decode cX12_init 218 = .ok (.bipush 59, 2) := by decide +kernel
theorem dX12_init_220 : decode cX12_init 220 = .ok (.iastore, 1) := by decide +kernel
theorem dX12_init_221 : decode cX12_init 221 = .ok (.dup, 1) := by decide +kernel
theorem dX12_init_222 : decode cX12_init 222 = .ok (.bipush 9, 2) := by decide +kernel
theorem dX12_init_224 : decode cX12_init 224 = .ok (.bipush 32, 2) := by decide +kernel
theorem dX12_init_226 : decode cX12_init 226 = .ok (.iastore, 1) := by decide +kernel
theorem dX12_init_227 : decode cX12_init 227 = .ok (.dup, 1) := by decide +kernel
theorem dX12_init_228 : decode cX12_init 228 = .ok (.bipush 10, 2) := by decide +kernel
theorem dX12_init_230 : decode cX12_init 230 = .ok (.bipush 115, 2) := by decide +kernel
theorem dX12_init_232 : decode cX12_init 232 = .ok (.iastore, 1) := by decide +kernel
theorem dX12_init_233 : decode cX12_init 233 = .ok (.dup, 1) := by decide +kernel
theorem dX12_init_234 : decode cX12_init 234 = .ok (.bipush 11, 2) := by decide +kernel
theorem dX12_init_236 : decode cX12_init 236 = .ok (.bipush 116, 2) := by decide +kernel
theorem dX12_init_238 : decode cX12_init 238 = .ok (.iastore, 1) := by decide +kernel
theorem dX12_init_239 : decode cX12_init 239 = .ok (.dup, 1) := by decide +kernel
theorem dX12_init_240 : decode cX12_init 240 = .ok (.bipush 12, 2) := by decide +kernel
theorem dX12_init_242 : decode cX12_init 242 = .ok (.bipush 101, 2) := by decide +kernel
theorem dX12_init_244 : decode cX12_init 244 = .ok (.iastore, 1) := by decide +kernel
theorem dX12_init_245 : decode cX12_init 245 = .ok (.dup, 1) := by decide +kernel
theorem dX12_init_246 : decode cX12_init 246 = .ok (.bipush 13, 2) := by decide +kernel
theorem dX12_init_248 : decode cX12_init 248 = .ok (.bipush 112, 2) := by decide +kernel
theorem dX12_init_250 : decode cX12_init 250 = .ok (.iastore, 1) := by decide +kernel
theorem dX12_init_251 : decode cX12_init 251 = .ok (.dup, 1) := by decide +kernel
theorem dX12_init_252 : decode cX12_init 252 = .ok (.bipush 14, 2) := by decide +kernel
theorem dX12_init_254 : decode cX12_init 254 = .ok (.bipush 115, 2) := by decide +kernel
theorem dX12_init_256 : decode cX12_init 256 = .ok (.iastore, 1) := by decide +kernel
theorem dX12_init_257 : decode cX12_init 257 = .ok (.dup, 1) := by decide +kernel
theorem dX12_init_258 : decode cX12_init 258 = .ok (.bipush 15, 2) := by decide +kernel
theorem dX12_init_260 : decode cX12_init 260 = .ok (.bipush 32, 2) := by decide +kernel
theorem dX12_init_262 : decode cX12_init 262 = .ok (.iastore, 1) := by decide +kernel
theorem dX12_init_263 : decode cX12_init 263 = .ok (.dup, 1) := by decide +kernel
theorem dX12_init_264 : decode cX12_init 264 = .ok (.bipush 16, 2) := by decide +kernel
theorem dX12_init_266 : decode cX12_init 266 = .ok (.bipush 49, 2) := by decide +kernel
theorem dX12_init_268 : decode cX12_init 268 = .ok (.iastore, 1) := by decide +kernel
theorem dX12_init_269 : decode cX12_init 269 = .ok (.dup, 1) := by decide +kernel
theorem dX12_init_270 : decode cX12_init 270 = .ok (.bipush 17, 2) := by decide +kernel
theorem dX12_init_272 : decode cX12_init 272 = .ok (.bipush 32, 2) := by decide +kernel
theorem dX12_init_274 : decode cX12_init 274 = .ok (.iastore, 1) := by decide +kernel
theorem dX12_init_275 : decode cX12_init 275 = .ok (.dup, 1) := by decide +kernel
theorem dX12_init_276 : decode cX12_init 276 = .ok (.bipush 18, 2) := by decide +kernel
theorem dX12_init_278 : decode cX12_init 278 = .ok (.bipush 59, 2) := by decide +kernel
theorem dX12_init_280 : decode cX12_init 280 = .ok (.iastore, 1) := by decide +kernel
theorem dX12_init_281 : decode cX12_init 281 = .ok (.dup, 1) := by decide +kernel
theorem dX12_init_282 : decode cX12_init 282 = .ok (.bipush 19, 2) := by decide +kernel
theorem dX12_init_284 : decode cX12_init 284 = .ok (.bipush 32, 2) := by decide +kernel
theorem dX12_init_286 : decode cX12_init 286 = .ok (.iastore, 1) := by decide +kernel
theorem dX12_init_287 : decode cX12_init 287 = .ok (.dup, 1) := by decide +kernel
theorem dX12_init_288 : decode cX12_init 288 = .ok (.bipush 20, 2) := by decide +kernel
theorem dX12_init_290 : decode cX12_init 290 = .ok (.bipush 109, 2) := by decide +kernel
theorem dX12_init_292 : decode cX12_init 292 = .ok (.iastore, 1) := by decide +kernel
theorem dX12_init_293 : decode cX12_init 293 = .ok (.dup, 1) := by decide +kernel
theorem dX12_init_294 : decode cX12_init 294 = .ok (.bipush 21, 2) := by decide +kernel
theorem dX12_init_296 : decode cX12_init 296 = .ok (.bipush 105, 2) := by decide +kernel
theorem dX12_init_298 : decode cX12_init 298 = .ok (.iastore, 1) := by decide +kernel
theorem dX12_init_299 : decode cX12_init 299 = .ok (.dup, 1) := by decide +kernel
theorem dX12_init_300 : decode cX12_init 300 = .ok (.bipush 22, 2) := by decide +kernel
theorem dX12_init_302 : decode cX12_init 302 = .ok (.bipush 110, 2) := by decide +kernel
theorem dX12_init_304 : decode cX12_init 304 = .ok (.iastore, 1) := by decide +kernel
theorem dX12_init_305 : decode cX12_init 305 = .ok (.dup, 1) := by decide +kernel
theorem dX12_init_306 : decode cX12_init 306 = .ok (.bipush 23, 2) := by decide +kernel
theorem dX12_init_308 : decode cX12_init 308 = .ok (.bipush 100, 2) := by decide +kernel
theorem dX12_init_310 : decode cX12_init 310 = .ok (.iastore, 1) := by decide +kernel
theorem dX12_init_311 : decode cX12_init 311 = .ok (.dup, 1) := by decide +kernel
theorem dX12_init_312 : decode cX12_init 312 = .ok (.bipush 24, 2) := by decide +kernel
theorem dX12_init_314 : decode cX12_init 314 = .ok (.bipush 115, 2) := by decide +kernel
theorem dX12_init_316 : decode cX12_init 316 = .ok (.iastore, 1) := by decide +kernel
theorem dX12_init_317 : decode cX12_init 317 = .ok (.dup, 1) := by decide +kernel
theorem dX12_init_318 : decode cX12_init 318 = .ok (.bipush 25, 2) := by decide +kernel
theorem dX12_init_320 : decode cX12_init 320 = .ok (.bipush 32, 2) := by decide +kernel
theorem dX12_init_322 : decode cX12_init 322 = .ok (.iastore, 1) := by decide +kernel
theorem dX12_init_323 : decode cX12_init 323 = .ok (.dup, 1) := by decide +kernel
theorem dX12_init_324 : decode cX12_init 324 = .ok (.bipush 26, 2) := by decide +kernel
theorem dX12_init_326 : decode cX12_init 326 = .ok (.bipush 49, 2) := by decide +kernel
theorem dX12_init_328 : decode cX12_init 328 = .ok (.iastore, 1) := by decide +kernel
theorem dX12_init_329 : decode cX12_init 329 = .ok (.dup, 1) := by decide +kernel
theorem dX12_init_330 : decode cX12_init 330 = .ok (.bipush 27, 2) := by decide +kernel
theorem dX12_init_332 : decode cX12_init 332 = .ok (.bipush 32, 2) := by decide +kernel
theorem dX12_init_334 : decode cX12_init 334 = .ok (.iastore, 1) := by decide +kernel
theorem dX12_init_335 : decode cX12_init 335 = .ok (.dup, 1) := by decide +kernel
theorem dX12_init_336 : decode cX12_init 336 = .ok (.bipush 28, 2) := by decide +kernel
theorem dX12_init_338 : decode cX12_init 338 = .ok (.bipush 59, 2) := by decide +kernel
theorem dX12_init_340 : decode cX12_init 340 = .ok (.iastore, 1) := by decide +kernel
theorem dX12_init_341 : decode cX12_init 341 = .ok (.putfield 50, 3) := by decide +kernel
theorem dX12_init_344 : decode cX12_init 344 = .ok (.aload_n 0, 1) := by decide +kernel
theorem dX12_init_345 : decode cX12_init 345 = .ok (.bipush 96, 2) := by decide +kernel
theorem dX12_init_347 : decode cX12_init 347 = .ok (.newarray .int, 2) := by decide +kernel
theorem dX12_init_349 : decode cX12_init 349 = .ok (.dup, 1) := by decide +kernel
theorem dX12_init_350 : decode cX12_init 350 = .ok (.iconst 0, 1) := by decide +kernel
theorem dX12_init_351 : decode cX12_init 351 = .ok (.bipush 116, 2) := by decide +kernel
theorem dX12_init_353 : decode cX12_init 353 = .ok (.iastore, 1) := by decide +kernel
theorem dX12_init_354 : decode cX12_init 354 = .ok (.dup, 1) := by decide +kernel
theorem dX12_init_355 : decode cX12_init 355 = .ok (.iconst 1, 1) := by decide +kernel
theorem dX12_init_356 : decode cX12_init 356 = .ok (.bipush 97, 2) := by decide +kernel
theorem dX12_init_358 : decode cX12_init 358 = .ok (.iastore, 1) := by decide +kernel
theorem dX12_init_359 : decode cX12_init 359 = .ok (.dup, 1) := by decide +kernel
theorem dX12_init_360 : decode cX12_init 360 = .ok (.iconst 2, 1) := by decide +kernel
theorem dX12_init_361 : decode cX12_init 361 = .ok (.bipush 107, 2) := by decide +kernel
theorem dX12_init_363 : decode cX12_init 363 = .ok (.iastore, 1) := by decide +kernel
theorem dX12_init_364 : decode cX12_init 364 = .ok (.dup, 1) := by decide +kernel
theorem dX12_init_365 : decode cX12_init 365 = .ok (.iconst 3, 1) := by decide +kernel
theorem dX12_init_366 : decode cX12_init 366 = .ok (.bipush 101, 2) := by decide +kernel
theorem dX12_init_368 : decode cX12_init 368 = .ok (.iastore, 1) := by decide +kernel
theorem dX12_init_369 : decode cX12_init 369 = .ok (.dup, 1) := by decide +kernel
theorem dX12_init_370 : decode cX12_init 370 = .ok (.iconst 4, 1) := by decide +kernel
theorem dX12_init_371 : decode cX12_init 371 = .ok (.bipush 115, 2) := by decide +kernel
theorem dX12_init_373 : decode cX12_init 373 = .ok (.iastore, 1) := by decide +kernel
theorem dX12_init_374 : decode cX12_init 374 = .ok (.dup, 1) := by decide +kernel
theorem dX12_init_375 : decode cX12_init 375 = .ok (.iconst 5, 1) := by decide +kernel
theorem dX12_init_376 : decode cX12_init 376 = .ok (.bipush 32, 2) := by decide +kernel
theorem dX12_init_378 : decode cX12_init 378 = .ok (.iastore, 1) := by decide +kernel
theorem dX12_init_379 : decode cX12_init 379 = .ok (.dup, 1) := by decide +kernel
theorem dX12_init_380 : decode cX12_init 380 = .ok (.bipush 6, 2) := by decide +kernel
theorem dX12_init_382 : decode cX12_init 382 = .ok (.bipush 32, 2) := by decide +kernel
theorem dX12_init_384 : decode cX12_init 384 = .ok (.iastore, 1) := by decide +kernel
theorem dX12_init_385 : decode cX12_init 385 = .ok (.dup, 1) := by decide +kernel
theorem dX12_init_386 : decode cX12_init 386 = .ok (.bipush 7, 2) := by decide +kernel
theorem dX12_init_388 : decode cX12_init 388 = .ok (.bipush 32, 2) := by decide +kernel
theorem dX12_init_390 : decode cX12_init 390 = .ok (.iastore, 1) := by decide +kernel
theorem dX12_init_391 : decode cX12_init 391 = .ok (.dup, 1) := by decide +kernel
theorem dX12_init_392 : decode cX12_init 392 = .ok (.bipush 8, 2) := by decide +kernel
theorem dX12_init_394 : decode cX12_init 394 = .ok (.bipush 115, 2) := by decide +kernel
theorem dX12_init_396 : decode cX12_init 396 = .ok (.iastore, 1) := by decide +kernel
theorem dX12_init_397 : decode cX12_init 397 = .ok (.dup, 1) := by decide +kernel
theorem dX12_init_398 : decode cX12_init 398 = .ok (.bipush 9, 2) := by decide +kernel
theorem dX12_init_400 : decode cX12_init 400 = .ok (.bipush 116, 2) := by decide +kernel
theorem dX12_init_402 : decode cX12_init 402 = .ok (.iastore, 1) := by decide +kernel
theorem dX12_init_403 : decode cX12_init 403 = .ok (.dup, 1) := by decide +kernel
theorem dX12_init_404 : decode cX12_init 404 = .ok (.bipush 10, 2) := by decide +kernel
theorem dX12_init_406 : decode cX12_init 406 = .ok (.bipush 101, 2) := by decide +kernel
theorem dX12_init_408 : decode cX12_init 408 = .ok (.iastore, 1) := by decide +kernel
theorem dX12_init_409 : decode cX12_init 409 = .ok (.dup, 1) := by decide +kernel
theorem dX12_init_410 : decode cX12_init 410 = .ok (.bipush 11, 2) := by decide +kernel
theorem dX12_init_412 : decode cX12_init 412 = .ok (.bipush 112, 2) := by decide +kernel
theorem dX12_init_414 : decode cX12_init 414 = .ok (.iastore, 1) := by decide +kernel
theorem dX12_init_415 : decode cX12_init 415 = .ok (.dup, 1) := by decide +kernel
theorem dX12_init_416 : decode cX12_init 416 = .ok (.bipush 12, 2) := by decide +kernel
theorem dX12_init_418 : decode cX12_init 418 = .ok (.bipush 115, 2) := by decide +kernel
theorem dX12_init_420 : decode cX12_init 420 = .ok (.iastore, 1) := by decide +kernel
theorem dX12_init_421 : decode cX12_init 421 = .ok (.dup, 1) := by decide +kernel
theorem dX12_init_422 : decode cX12_init 422 = .ok (.bipush 13, 2) := by decide +kernel
theorem dX12_init_424 : decode cX12_init 424 = .ok (.bipush 32, 2) := by decide +kernel
theorem dX12_init_426 : decode cX12_init 426 = .ok (.iastore, 1) := by decide +kernel
theorem dX12_init_427 : decode cX12_init 427 = .ok (.dup, 1) := by decide +kernel
theorem dX12_init_428 : decode cX12_init 428 = .ok (.bipush 14, 2) := by decide +kernel
theorem dX12_init_430 : decode cX12_init 430 = .ok (.bipush 32, 2) := by decide +kernel
theorem dX12_init_432 : decode cX12_init 432 = .ok (.iastore, 1) := by decide +kernel
theorem dX12_init_433 : decode cX12_init 433 = .ok (.dup, 1) := by decide +kernel
theorem dX12_init_434 : decode cX12_init 434 = .ok (.bipush 15, 2) := by decide +kernel
theorem dX12_init_436 : decode cX12_init 436 = .ok (.bipush 32, 2) := by decide +kernel
theorem dX12_init_438 : decode cX12_init 438 = .ok (.iastore, 1) := by decide +kernel
theorem dX12_init_439 : decode cX12_init 439 = .ok (.dup, 1) := by decide +kernel
theorem dX12_init_440 : decode cX12_init 440 = .ok (.bipush 16, 2) := by decide +kernel
theorem dX12_init_442 : decode cX12_init 442 = .ok (.bipush 109, 2) := by decide +kernel
theorem dX12_init_444 : decode cX12_init 444 = .ok (.iastore, 1) := by decide +kernel
theorem dX12_init_445 : decode cX12_init 445 = .ok (.dup, 1) := by decide +kernel
theorem dX12_init_446 : decode cX12_init 446 = .ok (.bipush 17, 2) := by decide +kernel
theorem dX12_init_448 : decode cX12_init 448 = .ok (.bipush 105, 2) := by decide +kernel
theorem dX12_init_450 : decode cX12_init 450 = .ok (.iastore, 1) := by decide +kernel
theorem dX12_init_451 : decode cX12_init 451 = .ok (.dup, 1) := by decide +kernel
theorem dX12_init_452 : decode cX12_init 452 = .ok (.bipush 18, 2) := by decide +kernel
theorem dX12_init_454 : decode cX12_init 454 = .ok (.bipush 110, 2) := by decide +kernel
theorem dX12_init_456 : decode cX12_init 456 = .ok (.iastore, 1) := by decide +kernel
theorem dX12_init_457 : decode cX12_init 457 = .ok (.dup, 1) := by decide +kernel
theorem dX12_init_458 : decode cX12_init 458 = .ok (.bipush 19, 2) := by decide +kernel
theorem dX12_init_460 : decode cX12_init 460 = .ok (.bipush 100, 2) := by decide +kernel
theorem dX12_init_462 : decode cX12_init 462 = .ok (.iastore, 1) := by decide +kernel
theorem dX12_init_463 : decode cX12_init 463 = .ok (.dup, 1) := by decide +kernel
theorem dX12_init_464 : decode cX12_init 464 = .ok (.bipush 20, 2) := by decide +kernel
theorem dX12_init_466 : decode cX12_init 466 = .ok (.bipush 115, 2) := by decide +kernel
theorem dX12_init_468 : decode cX12_init 468 = .ok (.iastore, 1) := by decide +kernel
theorem dX12_init_469 : decode cX12_init 469 = .ok (.dup, 1) := by decide +kernel
theorem dX12_init_470 : decode cX12_init 470 = .ok (.bipush 21, 2) := by decide +kernel
theorem dX12_init_472 : decode cX12_init 472 = .ok (.bipush 32, 2) := by decide +kernel
theorem dX12_init_474 : decode cX12_init 474 = .ok (.iastore, 1) := by decide +kernel
theorem dX12_init_475 : decode cX12_init 475 = .ok (.dup, 1) := by decide +kernel
theorem dX12_init_476 : decode cX12_init 476 = .ok (.bipush 22, 2) := by decide +kernel
theorem dX12_init_478 : decode cX12_init 478 = .ok (.bipush 32, 2) := by decide +kernel
theorem dX12_init_480 : decode cX12_init 480 = .ok (.iastore, 1) := by decide +kernel
theorem dX12_init_481 : decode cX12_init 481 = .ok (.dup, 1) := by decide +kernel
theorem dX12_init_482 : decode cX12_init 482 = .ok (.bipush 23, 2) := by decide +kernel
theorem dX12_init_484 : decode cX12_init 484 = .ok (.bipush 32, 2) := by decide +kernel
theorem dX12_init_486 : decode cX12_init 486 = .ok (.iastore, 1) := by decide +kernel
theorem dX12_init_487 : decode cX12_init 487 = .ok (.dup, 1) := by decide +kernel
theorem dX12_init_488 : decode cX12_init 488 = .ok (.bipush 24, 2) := by decide +kernel
theorem dX12_init_490 : decode cX12_init 490 = .ok (.bipush 104, 2) := by decide +kernel
theorem dX12_init_492 : decode cX12_init 492 = .ok (.iastore, 1) := by decide +kernel
theorem dX12_init_493 : decode cX12_init 493 = .ok (.dup, 1) := by decide +kernel
theorem dX12_init_494 : decode cX12_init 494 = .ok (.bipush 25, 2) := by decide +kernel
theorem dX12_init_496 : decode cX12_init 496 = .ok (.bipush 101, 2) := by decide +kernel
theorem dX12_init_498 : decode cX12_init 498 = .ok (.iastore, 1) := by decide +kernel
theorem dX12_init_499 : decode cX12_init 499 = .ok (.dup, 1) := by decide +kernel
theorem dX12_init_500 : decode cX12_init 500 = .ok (.bipush 26, 2) := by decide +kernel
theorem dX12_init_502 : decode cX12_init 502 = .ok (.bipush 97, 2) := by decide +kernel
theorem dX12_init_504 : decode cX12_init 504 = .ok (.iastore, 1) := by decide +kernel
theorem dX12_init_505 : decode cX12_init 505 = .ok (.dup, 1) := by decide +kernel
theorem dX12_init_506 : decode cX12_init 506 = .ok (.bipush 27, 2) := by decide +kernel
theorem dX12_init_508 : decode cX12_init 508 = .ok (.bipush 112, 2) := by decide +kernel
theorem dX12_init_510 : decode cX12_init 510 = .ok (.iastore, 1) := by decide +kernel
theorem dX12_init_511 : decode cX12_init 511 = .ok (.dup, 1) := by decide +kernel
theorem dX12_init_512 : decode cX12_init 512 = .ok (.bipush 28, 2) := by decide +kernel
theorem dX12_init_514 : decode cX12_init 514 = .ok (.bipush 32, 2) := by decide +kernel
theorem dX12_init_516 : decode cX12_init 516 = .ok (.iastore, 1) := by decide +kernel
theorem dX12_init_517 : decode cX12_init 517 = .ok (.dup, 1) := by decide +kernel
theorem dX12_init_518 : decode cX12_init 518 = .ok (.bipush 29, 2) := by decide +kernel
theorem dX12_init_520 : decode cX12_init 520 = .ok (.bipush 32, 2) := by decide +kernel
theorem dX12_init_522 : decode cX12_init 522 = .ok (.iastore, 1) := by decide +kernel
theorem dX12_init_523 : decode cX12_init 523 = .ok (.dup, 1) := by decide +kernel
theorem dX12_init_524 : decode cX12_init 524 = .ok (.bipush 30, 2) := by decide +kernel
theorem dX12_init_526 : decode cX12_init 526 = .ok (.bipush 32, 2) := by decide +kernel
theorem dX12_init_528 : decode cX12_init 528 = .ok (.iastore, 1) := by decide +kernel
theorem dX12_init_529 : decode cX12_init 529 = .ok (.dup, 1) := by decide +kernel
theorem dX12_init_530 : decode cX12_init 530 = .ok (.bipush 31, 2) := by decide +kernel
theorem dX12_init_532 : decode cX12_init 532 = .ok (.bipush 32, 2) := by decide +kernel
theorem dX12_init_534 : decode cX12_init 534 = .ok (.iastore, 1) := by decide +kernel
theorem dX12_init_535 : decode cX12_init 535 = .ok (.dup, 1) := by decide +kernel
theorem dX12_init_536 : decode cX12_init 536 = .ok (.bipush 32, 2) := by decide +kernel
theorem dX12_init_538 : decode cX12_init 538 = .ok (.bipush 119, 2) := by decide +kernel
theorem dX12_init_540 : decode cX12_init 540 = .ok (.iastore, 1) := by decide +kernel
theorem dX12_init_541 : decode cX12_init 541 = .ok (.dup, 1) := by decide +kernel
theorem dX12_init_542 : decode cX12_init 542 = .ok (.bipush 33, 2) := by decide +kernel
theorem dX12_init_544 : decode cX12_init 544 = .ok (.bipush 97, 2) := by decide +kernel
theorem dX12_init_546 : decode cX12_init 546 = .ok (.iastore, 1) := by decide +kernel
theorem dX12_init_547 : decode cX12_init 547 = .ok (.dup, 1) := by decide +kernel
theorem dX12_init_548 : decode cX12_init 548 = .ok (.bipush 34, 2) := by decide +kernel
theorem dX12_init_550 : decode cX12_init 550 = .ok (.bipush 108, 2) := by decide +kernel
theorem dX12_init_552 : decode cX12_init 552 = .ok (.iastore, 1) := by decide +kernel
theorem dX12_init_553 : decode cX12_init 553 = .ok (.dup, 1) := by decide +kernel
theorem dX12_init_554 : decode cX12_init 554 = .ok (.bipush 35, 2) := by decide +kernel
theorem dX12_init_556 : decode cX12_init 556 = .ok (.bipush 107, 2) := by decide +kernel
theorem dX12_init_558 : decode cX12_init 558 = .ok (.iastore, 1) := by decide +kernel
theorem dX12_init_559 : decode cX12_init 559 = .ok (.dup, 1) := by decide +kernel
theorem dX12_init_560 : decode cX12_init 560 = .ok (.bipush 36, 2) := by decide +kernel
theorem dX12_init_562 : decode cX12_init 562 = .ok (.bipush 101, 2) := by decide +kernel
theorem dX12_init_564 : decode cX12_init 564 = .ok (.iastore, 1) := by decide +kernel
theorem dX12_init_565 : decode cX12_init 565 = .ok (.dup, 1) := by decide +kernel
theorem dX12_init_566 : decode cX12_init 566 = .ok (.bipush 37, 2) := by decide +kernel
theorem dX12_init_568 : decode cX12_init 568 = .ok (.bipush 114, 2) := by decide +kernel
theorem dX12_init_570 : decode cX12_init 570 = .ok (.iastore, 1) := by decide +kernel
theorem dX12_init_571 : decode cX12_init 571 = .ok (.dup, 1) := by decide +kernel
theorem dX12_init_572 : decode cX12_init 572 = .ok (.bipush 38, 2) := by decide +kernel
theorem dX12_init_574 : decode cX12_init 574 = .ok (.bipush 32, 2) := by decide +kernel
theorem dX12_init_576 : decode cX12_init 576 = .ok (.iastore, 1) := by decide +kernel
theorem dX12_init_577 : decode cX12_init 577 = .ok (.dup, 1) := by decide +kernel
theorem dX12_init_578 : decode cX12_init 578 = .ok (.bipush 39, 2) := by decide +kernel
theorem dX12_init_580 : decode cX12_init 580 = .ok (.bipush 32, 2) := by decide +kernel
theorem dX12_init_582 : decode cX12_init 582 = .ok (.iastore, 1) := by decide +kernel
theorem dX12_init_583 : decode cX12_init 583 = .ok (.dup, 1) := by decide +kernel
theorem dX12_init_584 : decode cX12_init 584 = .ok (.bipush 40, 2) := by decide +kernel
theorem dX12_init_586 : decode cX12_init 586 = .ok (.bipush 109, 2) := by decide +kernel
theorem dX12_init_588 : decode cX12_init 588 = .ok (.iastore, 1) := by decide +kernel
theorem dX12_init_589 : decode cX12_init 589 = .ok (.dup, 1) := by decide +kernel
theorem dX12_init_590 : decode cX12_init 590 = .ok (.bipush 41, 2) := by decide +kernel
theorem dX12_init_592 : decode cX12_init 592 = .ok (.bipush 111, 2) := by decide +kernel
theorem dX12_init_594 : decode cX12_init 594 = .ok (.iastore, 1) := by decide +kernel
theorem dX12_init_595 : decode cX12_init 595 = .ok (.dup, 1) := by decide +kernel
theorem dX12_init_596 : decode cX12_init 596 = .ok (.bipush 42, 2) := by decide +kernel
theorem dX12_init_598 : decode cX12_init 598 = .ok (.bipush 114, 2) := by decide +kernel
theorem dX12_init_600 : decode cX12_init 600 = .ok (.iastore, 1) := by decide +kernel
theorem dX12_init_601 : decode cX12_init 601 = .ok (.dup, 1) := by decide +kernel
theorem dX12_init_602 : decode cX12_init 602 = .ok (.bipush 43, 2) := by decide +kernel
theorem dX12_init_604 : decode cX12_init 604 = .ok (.bipush 101, 2) := by decide +kernel
theorem dX12_init_606 : decode cX12_init 606 = .ok (.iastore, 1) := by decide +kernel
theorem dX12_init_607 : decode cX12_init 607 = .ok (.dup, 1) := by decide +kernel
theorem dX12_init_608 : decode cX12_init 608 = .ok (.bipush 44, 2) := by decide +kernel
theorem dX12_init_610 : decode cX12_init 610 = .ok (.bipush 32, 2) := by decide +kernel
theorem dX12_init_612 : decode cX12_init 612 = .ok (.iastore, 1) := by decide +kernel
theorem dX12_init_613 : decode cX12_init 613 = .ok (.dup, 1) := by decide +kernel
theorem dX12_init_614 : decode cX12_init 614 = .ok (.bipush 45, 2) := by decide +kernel
theorem dX12_init_616 : decode cX12_init 616 = .ok (.bipush 32, 2) := by decide +kernel
theorem dX12_init_618 : decode cX12_init 618 = .ok (.iastore, 1) := by decide +kernel
theorem dX12_init_619 : decode cX12_init 619 = .ok (.dup, 1) := by decide +kernel
theorem dX12_init_620 : decode cX12_init 620 = .ok (.bipush 46, 2) := by decide +kernel
theorem dX12_init_622 : decode cX12_init 622 = .ok (.bipush 32, 2) := by decide +kernel
theorem dX12_init_624 : decode cX12_init 624 = .ok (.iastore, 1) := by decide +kernel
theorem dX12_init_625 : decode cX12_init 625 = .ok (.dup, 1) := by decide +kernel
theorem dX12_init_626 : decode cX12_init 626 = .ok (.bipush 47, 2) := by decide +kernel
theorem dX12_init_628 : decode cX12_init 628 = .ok (.bipush 32, 2) := by decide +kernel
theorem dX12_init_630 : decode cX12_init 630 = .ok (.iastore, 1) := by decide +kernel
theorem dX12_init_631 : decode cX12_init 631 = .ok (.dup, 1) := by decide +kernel
theorem dX12_init_632 : decode cX12_init 632 = .ok (.bipush 48, 2) := by decide +kernel
theorem dX12_init_634 : decode cX12_init 634 = .ok (.bipush 108, 2) := by decide +kernel
theorem dX12_init_636 : decode cX12_init 636 = .ok (.iastore, 1) := by decide +kernel
theorem dX12_init_637 : decode cX12_init 637 = .ok (.dup, 1) := by decide +kernel
theorem dX12_init_638 : decode cX12_init 638 = .ok (.bipush 49, 2) := by decide +kernel
theorem dX12_init_640 : decode cX12_init 640 = .ok (.bipush 101, 2) := by decide +kernel
theorem dX12_init_642 : decode cX12_init 642 = .ok (.iastore, 1) := by decide +kernel
theorem dX12_init_643 : decode cX12_init 643 = .ok (.dup, 1) := by decide +kernel
theorem dX12_init_644 : decode cX12_init 644 = .ok (.bipush 50, 2) := by decide +kernel
theorem dX12_init_646 : decode cX12_init 646 = .ok (.bipush 102, 2) := by decide +kernel
theorem dX12_init_648 : decode cX12_init 648 = .ok (.iastore, 1) := by decide +kernel
theorem dX12_init_649 : decode cX12_init 649 = .ok (.dup, 1) := by decide +kernel
theorem dX12_init_650 : decode cX12_init 650 = .ok (.bipush 51, 2) := by decide +kernel
theorem dX12_init_652 : decode cX12_init 652 = .ok (.bipush 116, 2) := by decide +kernel
theorem dX12_init_654 : decode cX12_init 654 = .ok (.iastore, 1) := by decide +kernel
theorem dX12_init_655 : decode cX12_init 655 = .ok (.dup, 1) := by decide +kernel
theorem dX12_init_656 : decode cX12_init 656 = .ok (.bipush 52, 2) := by decide +kernel
theorem dX12_init_658 : decode cX12_init 658 = .ok (.bipush 32, 2) := by decide +kernel
theorem dX12_init_660 : decode cX12_init 660 = .ok (.iastore, 1) := by decide +kernel
theorem dX12_init_661 : decode cX12_init 661 = .ok (.dup, 1) := by decide +kernel
theorem dX12_init_662 : decode cX12_init 662 = .ok (.bipush 53, 2) := by decide +kernel
theorem dX12_init_664 : decode cX12_init 664 = .ok (.bipush 32, 2) := by decide +kernel
theorem dX12_init_666 : decode cX12_init 666 = .ok (.iastore, 1) := by decide +kernel
theorem dX12_init_667 : decode cX12_init 667 = .ok (.dup, 1) := by decide +kernel
theorem dX12_init_668 : decode cX12_init 668 = .ok (.bipush 54, 2) := by decide +kernel
theorem dX12_init_670 : decode cX12_init 670 = .ok (.bipush 32, 2) := by decide +kernel
theorem dX12_init_672 : decode cX12_init 672 = .ok (.iastore, 1) := by decide +kernel
theorem dX12_init_673 : decode cX12_init 673 = .ok (.dup, 1) := by decide +kernel
theorem dX12_init_674 : decode cX12_init 674 = .ok (.bipush 55, 2) := by decide +kernel
theorem dX12_init_676 : decode cX12_init 676 = .ok (.bipush 32, 2) := by decide +kernel
theorem dX12_init_678 : decode cX12_init 678 = .ok (.iastore, 1) := by decide +kernel
theorem dX12_init_679 : decode cX12_init 679 = .ok (.dup, 1) := by decide +kernel
theorem dX12_init_680 : decode cX12_init 680 = .ok (.bipush 56, 2) := by decide +kernel
theorem dX12_init_682 : decode cX12_init 682 = .ok (.bipush 100, 2) := by decide +kernel
theorem dX12_init_684 : decode cX12_init 684 = .ok (.iastore, 1) := by decide +kernel
theorem dX12_init_685 : decode cX12_init 685 = .ok (.dup, 1) := by decide +kernel
theorem dX12_init_686 : decode cX12_init 686 = .ok (.bipush 57, 2) := by decide +kernel
theorem dX12_init_688 : decode cX12_init 688 = .ok (.bipush 111, 2) := by decide +kernel
theorem dX12_init_690 : decode cX12_init 690 = .ok (.iastore, 1) := by decide +kernel
theorem dX12_init_691 : decode cX12_init 691 = .ok (.dup, 1) := by decide +kernel
theorem dX12_init_692 : decode cX12_init 692 = .ok (.bipush 58, 2) := by decide +kernel
theorem dX12_init_694 : decode cX12_init 694 = .ok (.bipush 110, 2) := by decide +kernel
theorem dX12_init_696 : decode cX12_init 696 = .ok (.iastore, 1) := by decide +kernel
theorem dX12_init_697 : decode cX12_init 697 = .ok (.dup, 1) := by decide +kernel
theorem dX12_init_698 : decode cX12_init 698 = .ok (.bipush 59, 2) := by decide +kernel
theorem dX12_init_700 : decode cX12_init 700 = .ok (.bipush 101, 2) := by decide +kernel
theorem dX12_init_702 : decode cX12_init 702 = .ok (.iastore, 1) := by decide +kernel
theorem dX12_init_703 : decode cX12_init 703 = .ok (.dup, 1) := by decide +kernel
theorem dX12_init_704 : decode cX12_init 704 = .ok (.bipush 60, 2) := by decide +kernel
theorem dX12_init_706 : decode cX12_init 706 = .ok (.bipush 32, 2) := by decide +kernel
theorem dX12_init_708 : decode cX12_init 708 = .ok (.iastore, 1) := by decide +kernel
theorem dX12_init_709 : decode cX12_init 709 = .ok (.dup, 1) := by decide +kernel
theorem dX12_init_710 : decode cX12_init 710 = .ok (.bipush 61, 2) := by decide +kernel
theorem dX12_init_712 : decode cX12_init 712 = .ok (.bipush 32, 2) := by decide +kernel
theorem dX12_init_714 : decode cX12_init 714 = .ok (.iastore, 1) := by decide +kernel
theorem dX12_init_715 : decode cX12_init 715 = .ok (.dup, 1) := by decide +kernel
theorem dX12_init_716 : decode cX12_init 716 = .ok (.bipush 62, 2) := by decide +kernel
theorem dX12_init_718 : decode cX12_init 718 = .ok (.bipush 32, 2) := by decide +kernel
theorem dX12_init_720 : decode cX12_init 720 = .ok (.iastore, 1) := by decide +kernel
theorem dX12_init_721 : decode cX12_init 721 = .ok (.dup, 1) := by decide +kernel
theorem dX12_init_722 : decode cX12_init 722 = .ok (.bipush 63, 2) := by decide +kernel
theorem dX12_init_724 : decode cX12_init 724 = .ok (.bipush 32, 2) := by decide +kernel
theorem dX12_init_726 : decode cX12_init 726 = .ok (.iastore, 1) := by decide +kernel
theorem dX12_init_727 : decode cX12_init 727 = .ok (.dup, 1) := by decide +kernel
theorem dX12_init_728 : decode cX12_init 728 = .ok (.bipush 64, 2) := by decide +kernel
theorem dX12_init_730 : decode cX12_init 730 = .ok (.bipush 109, 2) := by decide +kernel
theorem dX12_init_732 : decode cX12_init 732 = .ok (.iastore, 1) := by decide +kernel
theorem dX12_init_733 : decode cX12_init 733 = .ok (.dup, 1) := by decide +kernel
theorem dX12_init_734 : decode cX12_init 734 = .ok (.bipush 65, 2) := by decide +kernel
theorem dX12_init_736 : decode cX12_init 736 = .ok (.bipush 97, 2) := by decide +kernel
theorem dX12_init_738 : decode cX12_init 738 = .ok (.iastore, 1) := by decide +kernel
theorem dX12_init_739 : decode cX12_init 739 = .ok (.dup, 1) := by decide +kernel
theorem dX12_init_740 : decode cX12_init 740 = .ok (.bipush 66, 2) := by decide +kernel
theorem dX12_init_742 : decode cX12_init 742 = .ok (.bipush 110, 2) := by decide +kernel
theorem dX12_init_744 : decode cX12_init 744 = .ok (.iastore, 1) := by decide +kernel
theorem dX12_init_745 : decode cX12_init 745 = .ok (.dup, 1) := by decide +kernel
theorem dX12_init_746 : decode cX12_init 746 = .ok (.bipush 67, 2) := by decide +kernel
theorem dX12_init_748 : decode cX12_init 748 = .ok (.bipush 121, 2) := by decide +kernel
theorem dX12_init_750 : decode cX12_init 750 = .ok (.iastore, 1) := by decide +kernel
theorem dX12_init_751 : decode cX12_init 751 = .ok (.dup, 1) := by decide +kernel
theorem dX12_init_752 : decode cX12_init 752 = .ok (.bipush 68, 2) := by decide +kernel
theorem dX12_init_754 : decode cX12_init 754 = .ok (.bipush 32, 2) := by decide +kernel
theorem dX12_init_756 : decode cX12_init 756 = .ok (.iastore, 1) := by decide +kernel
theorem dX12_init_757 : decode cX12_init 757 = .ok (.dup, 1) := by decide +kernel
theorem dX12_init_758 : decode cX12_init 758 = .ok (.bipush 69, 2) := by decide +kernel
theorem dX12_init_760 : decode cX12_init 760 = .ok (.bipush 32, 2) := by decide +kernel
theorem dX12_init_762 : decode cX12_init 762 = .ok (.iastore, 1) := by decide +kernel
theorem dX12_init_763 : decode cX12_init 763 = .ok (.dup, 1) := by decide +kernel
theorem dX12_init_764 : decode cX12_init 764 = .ok (.bipush 70, 2) := by decide +kernel
theorem dX12_init_766 : decode cX12_init 766 = .ok (.bipush 32, 2) := by decide +kernel
theorem dX12_init_768 : decode cX12_init 768 = .ok (.iastore, 1) := by decide +kernel
theorem dX12_init_769 : decode cX12_init 769 = .ok (.dup, 1) := by decide +kernel
theorem dX12_init_770 : decode cX12_init 770 = .ok (.bipush 71, 2) := by decide +kernel
theorem dX12_init_772 : decode cX12_init 772 = .ok (.bipush 32, 2) := by decide +kernel
theorem dX12_init_774 : decode cX12_init 774 = .ok (.iastore, 1) := by decide +kernel
theorem dX12_init_775 : decode cX12_init 775 = .ok (.dup, 1) := by decide +kernel
theorem dX12_init_776 : decode cX12_init 776 = .ok (.bipush 72, 2) := by decide +kernel
theorem dX12_init_778 : decode cX12_init 778 = .ok (.bipush 111, 2) := by decide +kernel
theorem dX12_init_780 : decode cX12_init 780 = .ok (.iastore, 1) := by decide +kernel
theorem dX12_init_781 : decode cX12_init 781 = .ok (.dup, 1) := by decide +kernel
theorem dX12_init_782 : decode cX12_init 782 = .ok (.bipush 73, 2) := by decide +kernel
theorem dX12_init_784 : decode cX12_init 784 = .ok (.bipush 114, 2) := by decide +kernel
theorem dX12_init_786 : decode cX12_init 786 = .ok (.iastore, 1) := by decide +kernel
theorem dX12_init_787 : decode cX12_init 787 = .ok (.dup, 1) := by decide +kernel
theorem dX12_init_788 : decode cX12_init 788 = .ok (.bipush 74, 2) := by decide +kernel
theorem dX12_init_790 : decode cX12_init 790 = .ok (.bipush 32, 2) := by decide +kernel
theorem dX12_init_792 : decode cX12_init 792 = .ok (.iastore, 1) := by decide +kernel
theorem dX12_init_793 : decode cX12_init 793 = .ok (.dup, 1) := by decide +kernel
theorem dX12_init_794 : decode cX12_init 794 = .ok (.bipush 75, 2) := by decide +kernel
theorem dX12_init_796 : decode cX12_init 796 = .ok (.bipush 32, 2) := by decide +kernel
theorem dX12_init_798 : decode cX12_init 798 = .ok (.iastore, 1) := by decide +kernel
theorem dX12_init_799 : decode cX12_init 799 = .ok (.dup, 1) := by decide +kernel
theorem dX12_init_800 : decode cX12_init 800 = .ok (.bipush 76, 2) := by decide +kernel
theorem dX12_init_802 : decode cX12_init 802 = .ok (.bipush 32, 2) := by decide +kernel
theorem dX12_init_804 : decode cX12_init 804 = .ok (.iastore, 1) := by decide +kernel
theorem dX12_init_805 : decode cX12_init 805 = .ok (.dup, 1) := by decide +kernel
theorem dX12_init_806 : decode cX12_init 806 = .ok (.bipush 77, 2) := by decide +kernel
theorem dX12_init_808 : decode cX12_init 808 = .ok (.bipush 32, 2) := by decide +kernel
theorem dX12_init_810 : decode cX12_init 810 = .ok (.iastore, 1) := by decide +kernel
theorem dX12_init_811 : decode cX12_init 811 = .ok (.dup, 1) := by decide +kernel
theorem dX12_init_812 : decode cX12_init 812 = .ok (.bipush 78, 2) := by decide +kernel
theorem dX12_init_814 : decode cX12_init 814 = .ok (.bipush 32, 2) := by decide +kernel
theorem dX12_init_816 : decode cX12_init 816 = .ok (.iastore, 1) := by decide +kernel
theorem dX12_init_817 : decode cX12_init 817 = .ok (.dup, 1) := by decide +kernel
theorem dX12_init_818 : decode cX12_init 818 = .ok (.bipush 79, 2) := by decide +kernel
theorem dX12_init_820 : decode cX12_init 820 = .ok (.bipush 32, 2) := by decide +kernel
theorem dX12_init_822 : decode cX12_init 822 = .ok (.iastore, 1) := by decide +kernel
theorem dX12_init_823 : decode cX12_init 823 = .ok (.dup, 1) := by decide +kernel
theorem dX12_init_824 : decode cX12_init 824 = .ok (.bipush 80, 2) := by decide +kernel
theorem dX12_init_826 : decode cX12_init 826 = .ok (.bipush 97, 2) := by decide +kernel
theorem dX12_init_828 : decode cX12_init 828 = .ok (.iastore, 1) := by decide +kernel
theorem dX12_init_829 : decode cX12_init 829 = .ok (.dup, 1) := by decide +kernel
theorem dX12_init_830 : decode cX12_init 830 = .ok (.bipush 81, 2) := by decide +kernel
theorem dX12_init_832 : decode cX12_init 832 = .ok (.bipush 110, 2) := by decide +kernel
theorem dX12_init_834 : decode cX12_init 834 = .ok (.iastore, 1) := by decide +kernel
theorem dX12_init_835 : decode cX12_init 835 = .ok (.dup, 1) := by decide +kernel
theorem dX12_init_836 : decode cX12_init 836 = .ok (.bipush 82, 2) := by decide +kernel
theorem dX12_init_838 : decode cX12_init 838 = .ok (.bipush 100, 2) := by decide +kernel
theorem dX12_init_840 : decode cX12_init 840 = .ok (.iastore, 1) := by decide +kernel
theorem dX12_init_841 : decode cX12_init 841 = .ok (.dup, 1) := by decide +kernel
theorem dX12_init_842 : decode cX12_init 842 = .ok (.bipush 83, 2) := by decide +kernel
theorem dX12_init_844 : decode cX12_init 844 = .ok (.bipush 32, 2) := by decide +kernel
theorem dX12_init_846 : decode cX12_init 846 = .ok (.iastore, 1) := by decide +kernel
theorem dX12_init_847 : decode cX12_init 847 = .ok (.dup, 1) := by decide +kernel
theorem dX12_init_848 : decode cX12_init 848 = .ok (.bipush 84, 2) := by decide +kernel
theorem dX12_init_850 : decode cX12_init 850 = .ok (.bipush 32, 2) := by decide +kernel
theorem dX12_init_852 : decode cX12_init 852 = .ok (.iastore, 1) := by decide +kernel
theorem dX12_init_853 : decode cX12_init 853 = .ok (.dup, 1) := by decide +kernel
theorem dX12_init_854 : decode cX12_init 854 = .ok (.bipush 85, 2) := by decide +kernel
theorem dX12_init_856 : decode cX12_init 856 = .ok (.bipush 32, 2) := by decide +kernel
theorem dX12_init_858 : decode cX12_init 858 = .ok (.iastore, 1) := by decide +kernel
theorem dX12_init_859 : decode cX12_init 859 = .ok (.dup, 1) := by decide +kernel
theorem dX12_init_860 : decode cX12_init 860 = .ok (.bipush 86, 2) := by decide +kernel
theorem dX12_init_862 : decode cX12_init 862 = .ok (.bipush 32, 2) := by decide +kernel
theorem dX12_init_864 : decode cX12_init 864 = .ok (.iastore, 1) := by decide +kernel
theorem dX12_init_865 : decode cX12_init 865 = .ok (.dup, 1) := by decide +kernel
theorem dX12_init_866 : decode cX12_init 866 = .ok (.bipush 87, 2) := by decide +kernel
theorem dX12_init_868 : decode cX12_init 868 = .ok (.bipush 32, 2) := by decide +kernel
theorem dX12_init_870 : decode cX12_init 870 = .ok (.iastore, 1) := by decide +kernel
theorem dX12_init_871 : decode cX12_init 871 = .ok (.dup, 1) := by decide +kernel
theorem dX12_init_872 : decode cX12_init 872 = .ok (.bipush 88, 2) := by decide +kernel
theorem dX12_init_874 : decode cX12_init 874 = .ok (.bipush 110, 2) := by decide +kernel
theorem dX12_init_876 : decode cX12_init 876 = .ok (.iastore, 1) := by decide +kernel
theorem dX12_init_877 : decode cX12_init 877 = .ok (.dup, 1) := by decide +kernel
theorem dX12_init_878 : decode cX12_init 878 = .ok (.bipush 89, 2) := by decide +kernel
theorem dX12_init_880 : decode cX12_init 880 = .ok (.bipush 111, 2) := by decide +kernel
theorem dX12_init_882 : decode cX12_init 882 = .ok (.iastore, 1) := by decide +kernel
theorem dX12_init_883 : decode cX12_init 883 = .ok (.dup, 1) := by decide +kernel
theorem dX12_init_884 : decode cX12_init 884 = .ok (.bipush 90, 2) := by decide +kernel
theorem dX12_init_886 : decode cX12_init 886 = .ok (.bipush 116, 2) := by decide +kernel
theorem dX12_init_888 : decode cX12_init 888 = .ok (.iastore, 1) := by decide +kernel
theorem dX12_init_889 : decode cX12_init 889 = .ok (.dup, 1) := by decide +kernel
theorem dX12_init_890 : decode cX12_init 890 = .ok (.bipush 91, 2) := by decide +kernel
theorem dX12_init_892 : decode cX12_init 892 = .ok (.bipush 32, 2) := by decide +kernel
theorem dX12_init_894 : decode cX12_init 894 = .ok (.iastore, 1) := by decide +kernel
theorem dX12_init_895 : decode cX12_init 895 = .ok (.dup, 1) := by decide +kernel
theorem dX12_init_896 : decode cX12_init 896 = .ok (.bipush 92, 2) := by decide +kernel
theorem dX12_init_898 : decode cX12_init 898 = .ok (.bipush 32, 2) := by decide +kernel
theorem dX12_init_900 : decode cX12_init 900 = .ok (.iastore, 1) := by decide +kernel
theorem dX12_init_901 : decode cX12_init 901 = .ok (.dup, 1) := by decide +kernel
theorem dX12_init_902 : decode cX12_init 902 = .ok (.bipush 93, 2) := by decide +kernel
theorem dX12_init_904 : decode cX12_init 904 = .ok (.bipush 32, 2) := by decide +kernel
theorem dX12_init_906 : decode cX12_init 906 = .ok (.iastore, 1) := by decide +kernel
theorem dX12_init_907 : decode cX12_init 907 = .ok (.dup, 1) := by decide +kernel
theorem dX12_init_908 : decode cX12_init 908 = .ok (.bipush 94, 2) := by decide +kernel
theorem dX12_init_910 : decode cX12_init 910 = .ok (.bipush 32, 2) := by decide +kernel
theorem dX12_init_912 : decode cX12_init 912 = .ok (.iastore, 1) := by decide +kernel
theorem dX12_init_913 : decode cX12_init 913 = .ok (.dup, 1) := by decide +kernel
theorem dX12_init_914 : decode cX12_init 914 = .ok (.bipush 95, 2) := by decide +kernel
theorem dX12_init_916 : decode cX12_init 916 = .ok (.bipush 32, 2) := by decide +kernel
theorem dX12_init_918 : decode cX12_init 918 = .ok (.iastore, 1) := by decide +kernel
theorem dX12_init_919 : decode cX12_init 919 = .ok (.putfield 53, 3) := by decide +kernel
theorem dX12_init_922 : decode cX12_init 922 = .ok (.aload_n 0, 1) := by decide +kernel
theorem dX12_init_923 : decode cX12_init 923 = .ok (.sipush 200, 3) := by decide +kernel
theorem dX12_init_926 : decode cX12_init 926 = .ok (.newarray .int, 2) := by decide +kernel
theorem dX12_init_928 : decode cX12_init 928 = .ok (.putfield 56, 3) := by decide +kernel
theorem dX12_init_931 : decode cX12_init 931 = .ok (.aload_n 0, 1) := by decide +kernel
theorem dX12_init_932 : decode cX12_init 932 = .ok (.sipush 200, 3) := by decide +kernel
theorem dX12_init_935 : decode cX12_init 935 = .ok (.newarray .int, 2) := by decide +kernel
theorem dX12_init_937 : decode cX12_init 937 = .ok (.putfield 59, 3) := by decide +kernel
theorem dX12_init_940 : decode cX12_init 940 = .ok (.aload_n 0, 1) := by decide +kernel
theorem dX12_init_941 : decode cX12_init 941 = .ok (.bipush 6, 2) := by decide +kernel
theorem dX12_init_943 : decode cX12_init 943 = .ok (.newarray .int, 2) := by decide +kernel
theorem dX12_init_945 : decode cX12_init 945 = .ok (.putfield 62, 3) := by decide +kernel
theorem dX12_init_948 : decode cX12_init 948 = .ok (.aload_n 0, 1) := by decide +kernel
theorem dX12_init_949 : decode cX12_init 949 = .ok (.iconst 5, 1) := by decide +kernel
theorem dX12_init_950 : decode cX12_init 950 = .ok (.newarray .int, 2) := by decide +kernel
theorem dX12_init_952 : decode cX12_init 952 = .ok (.putfield 65, 3) := by decide +kernel
theorem dX12_init_955 : decode cX12_init 955 = .ok (.aload_n 0, 1) := by decide +kernel
theorem dX12_init_956 : decode cX12_init 956 = .ok (.iconst 5, 1) := by decide +kernel
theorem dX12_init_957 : decode cX12_init 957 = .ok (.newarray .int, 2) := by decide +kernel
theorem dX12_init_959 : decode cX12_init 959 = .ok (.putfield 68, 3) := by decide +kernel
theorem dX12_init_962 : decode cX12_init 962 = .ok (.aload_n 0, 1) := by decide +kernel
theorem dX12_init_963 : decode cX12_init 963 = .ok (.iconst 5, 1) := by decide +kernel
theorem dX12_init_964 : decode cX12_init 964 = .ok (.newarray .int, 2) := by decide +kernel
theorem dX12_init_966 : decode cX12_init 966 = .ok (.putfield 71, 3) := by decide +kernel
theorem dX12_init_969 : decode cX12_init 969 = .ok (.aload_n 0, 1) := by decide +kernel
theorem dX12_init_970 : decode cX12_init 970 = .ok (.iconst 5, 1) := by decide +kernel
theorem dX12_init_971 : decode cX12_init 971 = .ok (.newarray .int, 2) := by decide +kernel
theorem dX12_init_973 : decode cX12_init 973 = .ok (.putfield 74, 3) := by decide +kernel
theorem dX12_init_976 : decode cX12_init 976 = .ok (.aload_n 0, 1) := by decide +kernel
theorem dX12_init_977 : decode cX12_init 977 = .ok (.iconst 5, 1) := by decide +kernel
theorem dX12_init_978 : decode cX12_init 978 = .ok (.newarray .int, 2) := by decide +kernel
theorem dX12_init_980 : decode cX12_init 980 = .ok (.putfield 77, 3) := by decide +kernel
theorem dX12_init_983 : decode cX12_init 983 = .ok (.aload_n 0, 1) := by decide +kernel
theorem dX12_init_984 : decode cX12_init 984 = .ok (.iconst 5, 1) := by decide +kernel
theorem dX12_init_985 : decode cX12_init 985 = .ok (.newarray .int, 2) := by decide +kernel
theorem dX12_init_987 : decode cX12_init 987 = .ok (.putfield 80, 3) := by decide +kernel
theorem dX12_init_990 : decode cX12_init 990 = .ok (.aload_n 0, 1) := by decide +kernel
theorem dX12_init_991 : decode cX12_init 991 = .ok (.iconst 5, 1) := by decide +kernel
theorem dX12_init_992 : decode cX12_init 992 = .ok (.newarray .int, 2) := by decide +kernel
theorem dX12_init_994 : decode cX12_init 994 = .ok (.putfield 83, 3) := by decide +kernel
theorem dX12_init_997 : decode cX12_init 997 = .ok (.aload_n 0, 1) := by decide +kernel
theorem dX12_init_998 : decode cX12_init 998 = .ok (.iconst 5, 1) := by decide +kernel
theorem dX12_init_999 : decode cX12_init 999 = .ok (.newarray .int, 2) := by decide +kernel
theorem dX12_init_1001 : decode cX12_init 1001 = .ok (.putfield 86, 3) := by decide +kernel
theorem dX12_init_1004 : decode cX12_init 1004 = .ok (.aload_n 0, 1) := by decide +kernel
theorem dX12_init_1005 : decode cX12_init 1005 = .ok (.bipush 9, 2) := by decide +kernel
theorem dX12_init_1007 : decode cX12_init 1007 = .ok (.newarray .int, 2) := by decide +kernel
theorem dX12_init_1009 : decode cX12_init 1009 = .ok (.putfield 89, 3) := by decide +kernel
theorem dX12_init_1012 : decode cX12_init 1012 = .ok (.aload_n 0, 1) := by decide +kernel
theorem dX12_init_1013 : decode cX12_init 1013 = .ok (.bipush 9, 2) := by decide +kernel
theorem dX12_init_1015 : decode cX12_init 1015 = .ok (.newarray .int, 2) := by decide +kernel
theorem dX12_init_1017 : decode cX12_init 1017 = .ok (.putfield 92, 3) := by decide +kernel
theorem dX12_init_1020 : decode cX12_init 1020 = .ok (.aload_n 0, 1) := by decide +kernel
theorem dX12_init_1021 : decode cX12_init 1021 = .ok (.bipush 9, 2) := by decide +kernel
theorem dX12_init_1023 : decode cX12_init 1023 = .ok (.newarray .int, 2) := by decide +kernel
theorem dX12_init_1025 : decode cX12_init 1025 = .ok (.putfield 95, 3) := by decide +kernel
theorem dX12_init_1028 : decode cX12_init 1028 = .ok (.aload_n 0, 1) := by decide +kernel
theorem dX12_init_1029 : decode cX12_init 1029 = .ok (.sipush 400, 3) := by decide +kernel
theorem dX12_init_1032 : decode cX12_init 1032 = .ok (.newarray .int, 2) := by decide +kernel
theorem dX12_init_1034 : decode cX12_init 1034 = .ok (.putfield 98, 3) := by decide +kernel
theorem dX12_init_1037 : decode cX12_init 1037 = .ok (.aload_n 0, 1) := by decide +kernel
theorem dX12_init_1038 : decode cX12_init 1038 = .ok (.iconst 5, 1) := by decide +kernel
theorem dX12_init_1039 : decode cX12_init 1039 = .ok (.newarray .int, 2) := by decide +kernel
theorem dX12_init_1041 : decode cX12_init 1041 = .ok (.putfield 101, 3) := by decide +kernel
theorem dX12_init_1044 : decode cX12_init 1044 = .ok (.aload_n 0, 1) := by decide +kernel
theorem dX12_init_1045 : decode cX12_init 1045 = .ok (.iconst 5, 1) := by decide +kernel
theorem dX12_init_1046 : decode cX12_init 1046 = .ok (.newarray .int, 2) := by decide +kernel
theorem dX12_init_1048 : decode cX12_init 1048 = .ok (.putfield 104, 3) := by decide +kernel
theorem dX12_init_1051 : decode cX12_init 1051 = .ok (.aload_n 0, 1) := by decide +kernel
theorem dX12_init_1052 : decode cX12_init 1052 = .ok (.bipush 9, 2) := by decide +kernel
theorem dX12_init_1054 : decode cX12_init 1054 = .ok (.newarray .int, 2) := by decide +kernel
theorem dX12_init_1056 : decode cX12_init 1056 = .ok (.putfield 107, 3) := by decide +kernel
theorem dX12_init_1059 : decode cX12_init 1059 = .ok (.iconst 0, 1) := by decide +kernel
theorem dX12_init_1060 : decode cX12_init 1060 = .ok (.istore_n 1, 1) := by decide +kernel
theorem dX12_init_1061 : decode cX12_init 1061 = .ok (.iload_n 1, 1) := by decide +kernel
theorem dX12_init_1062 : decode cX12_init 1062 = .ok (.bipush 29, 2) := by decide +kernel
theorem dX12_init_1064 : decode cX12_init 1064 = .ok (.if_icmp .ge 21, 3) := by decide +kernel
theorem dX12_init_1067 : decode cX12_init 1067 = .ok (.aload_n 0, 1) := by decide +kernel
theorem dX12_init_1068 : decode cX12_init 1068 = .ok (.getfield 29, 3) := by decide +kernel
theorem dX12_init_1071 : decode cX12_init 1071 = .ok (.iload_n 1, 1) := by decide +kernel
theorem dX12_init_1072 : decode cX12_init 1072 = .ok (.aload_n 0, 1) := by decide +kernel
theorem dX12_init_1073 : decode cX12_init 1073 = .ok (.getfield 50, 3) := by decide +kernel
theorem dX12_init_1076 : decode cX12_init 1076 = .ok (.iload_n 1, 1) := by decide +kernel
theorem dX12_init_1077 : decode cX12_init 1077 = .ok (.iaload, 1) := by decide +kernel
theorem dX12_init_1078 : decode cX12_init 1078 = .ok (.iastore, 1) := by decide +kernel
theorem dX12_init_1079 : decode cX12_init 1079 = .ok (.iinc 1 1, 3) := by decide +kernel
theorem dX12_init_1082 : decode cX12_init 1082 = .ok (.goto (-21), 3) := by decide +kernel
theorem dX12_init_1085 : decode cX12_init 1085 = .ok (.aload_n 0, 1) := by decide +kernel
theorem dX12_init_1086 : decode cX12_init 1086 = .ok (.bipush 29, 2) := by decide +kernel
theorem dX12_init_1088 : decode cX12_init 1088 = .ok (.putfield 110, 3) := by decide +kernel
theorem dX12_init_1091 : decode cX12_init 1091 = .ok (.aload_n 0, 1) := by decide +kernel
theorem dX12_init_1092 : decode cX12_init 1092 = .ok (.invokevirtual 113, 3) := by decide +kernel
theorem dX12_init_1095 : decode cX12_init 1095 = .ok (.pop, 1) := by decide +kernel
theorem dX12_init_1096 : decode cX12_init 1096 = .ok (.return_, 1) := by decide +kernel
theorem dX12_in_0 : decode cX12_in 0 = .ok (.iload_n 0, 1) := by decide +kernel
theorem dX12_in_1 : decode cX12_in 1 = .ok (.iload_n 1, 1) := by decide +kernel
theorem dX12_in_2 : decode cX12_in 2 = .ok (.if_icmp .lt 12, 3) := by decide +kernel
theorem dX12_in_5 : decode cX12_in 5 = .ok (.iload_n 0, 1) := by decide +kernel
theorem dX12_in_6 : decode cX12_in 6 = .ok (.iload_n 2, 1) := by decide +kernel
theorem dX12_in_7 : decode cX12_in 7 = .ok (.if_icmp .gt 7, 3) := by decide +kernel
theorem dX12_in_10 : decode cX12_in 10 = .ok (.iconst 1, 1) := by decide +kernel
theorem dX12_in_11 : decode cX12_in 11 = .ok (.goto 4, 3) := by decide +kernel
theorem dX12_in_14 : decode cX12_in 14 = .ok (.iconst 0, 1) := by decide +kernel
theorem dX12_in_15 : decode cX12_in 15 = .ok (.ireturn, 1) := by decide +kernel
theorem dX12_within_0 : decode cX12_within 0 = .ok (.iload_n 0, 1) := by decide +kernel
theorem dX12_within_1 : decode cX12_within 1 = .ok (.iload_n 1, 1) := by decide +kernel
theorem dX12_within_2 : decode cX12_within 2 = .ok (.if_icmp .ge 7, 3) := by decide +kernel
theorem dX12_within_5 : decode cX12_within 5 = .ok (.iload_n 1, 1) := by decide +kernel
theorem dX12_within_6 : decode cX12_within 6 = .ok (.goto 13, 3) := by decide +kernel
theorem dX12_within_9 : decode cX12_within 9 = .ok (.iload_n 0, 1) := by decide +kernel
theorem dX12_within_10 : decode cX12_within 10 = .ok (.iload_n 2, 1) := by decide +kernel
theorem dX12_within_11 : decode cX12_within 11 = .ok (.if_icmp .le 7, 3) := by decide +kernel
theorem dX12_within_14 : decode cX12_within 14 = .ok (.iload_n 2, 1) := by decide +kernel
theorem dX12_within_15 : decode cX12_within 15 = .ok (.goto 4, 3) := by decide +kernel
theorem dX12_within_18 : decode cX12_within 18 = .ok (.iload_n 0, 1) := by decide +kernel
theorem dX12_within_19 : decode cX12_within 19 = .ok (.ireturn, 1) := by decide +kernel
theorem dX12_isWalker_0 : decode cX12_isWalker 0 = .ok (.iload_n 1, 1) := by decide +kernel
theorem dX12_isWalker_1 : decode cX12_isWalker 1 = .ok (.iconst 0, 1) := by decide +kernel
theorem dX12_isWalker_2 : decode cX12_isWalker 2 = .ok (.aload_n 0, 1) := by decide +kernel
theorem dX12_isWalker_3 : decode cX12_isWalker 3 = .ok (.getfield 117, 3) := by decide +kernel
theorem dX12_isWalker_6 : decode cX12_isWalker 6 = .ok (.iconst 1, 1) := by decide +kernel
theorem dX12_isWalker_7 : decode cX12_isWalker 7 = .ok (.isub, 1) := by decide +kernel
theorem dX12_isWalker_8 : decode cX12_isWalker 8 = .ok (.invokestatic 120, 3) := by decide +kernel
theorem dX12_isWalker_11 : decode cX12_isWalker 11 = .ok (.ireturn, 1) := by decide +kernel
theorem dX12_isHeap_0 : decode cX12_isHeap 0 = .ok (.iload_n 0, 1) := by decide +kernel
theorem dX12_isHeap_1 : decode cX12_isHeap 1 = .ok (.iconst 0, 1) := by decide +kernel
theorem dX12_isHeap_2 : decode cX12_isHeap 2 = .ok (.bipush 8, 2) := by decide +kernel
theorem dX12_isHeap_4 : decode cX12_isHeap 4 = .ok (.invokestatic 120, 3) := by decide +kernel
theorem dX12_isHeap_7 : decode cX12_isHeap 7 = .ok (.ireturn, 1) := by decide +kernel
theorem dX12_areSeconds_0 : decode cX12_areSeconds 0 = .ok (.iload_n 0, 1) := by decide +kernel
theorem dX12_areSeconds_1 : decode cX12_areSeconds 1 = .ok (.iconst 0, 1) := by decide +kernel
theorem dX12_areSeconds_2 : decode cX12_areSeconds 2 = .ok (.sipush 600, 3) := by decide +kernel
theorem dX12_areSeconds_5 : decode cX12_areSeconds 5 = .ok (.invokestatic 120, 3) := by decide +kernel
theorem dX12_areSeconds_8 : decode cX12_areSeconds 8 = .ok (.ireturn, 1) := by decide +kernel
theorem dX12_count_0 : decode cX12_count 0 = .ok (.iload_n 1, 1) := by decide +kernel
theorem dX12_count_1 : decode cX12_count 1 = .ok (.tableswitch 60 0 4 #[35, 40, 45, 50, 55], 35) := by decide +kernel
theorem dX12_count_36 : decode cX12_count 36 = .ok (.aload_n 0, 1) := by decide +kernel
theorem dX12_count_37 : decode cX12_count 37 = .ok (.getfield 117, 3) := by decide +kernel
theorem dX12_count_40 : decode cX12_count 40 = .ok (.ireturn, 1) := by decide +kernel
theorem dX12_count_41 : decode cX12_count 41 = .ok (.aload_n 0, 1) := by decide +kernel
theorem dX12_count_42 : decode cX12_count 42 = .ok (.getfield 16, 3) := by decide +kernel
theorem dX12_count_45 : decode cX12_count 45 = .ok (.ireturn, 1) := by decide +kernel
theorem dX12_count_46 : decode cX12_count 46 = .ok (.aload_n 0, 1) := by decide +kernel
theorem dX12_count_47 : decode cX12_count 47 = .ok (.getfield 124, 3) := by decide +kernel
theorem dX12_count_50 : decode cX12_count 50 = .ok (.ireturn, 1) := by decide +kernel
theorem dX12_count_51 : decode cX12_count 51 = .ok (.aload_n 0, 1) := by decide +kernel
theorem dX12_count_52 : decode cX12_count 52 = .ok (.getfield 127, 3) := by decide +kernel
theorem dX12_count_55 : decode cX12_count 55 = .ok (.ireturn, 1) := by decide +kernel
theorem dX12_count_56 : decode cX12_count 56 = .ok (.aload_n 0, 1) := by decide +kernel
theorem dX12_count_57 : decode cX12_count 57 = .ok (.getfield 110, 3) := by decide +kernel
theorem dX12_count_60 : decode cX12_count 60 = .ok (.ireturn, 1) := by decide +kernel
theorem dX12_count_61 : decode cX12_count 61 = .ok (.bipush (-2), 2) := by decide +kernel
theorem dX12_count_63 : decode cX12_count 63 = .ok (.ireturn, 1) := by decide +kernel
theorem dX12_set_0 : decode cX12_set 0 = .ok (.iload_n 1, 1) := by decide +kernel
theorem dX12_set_1 : decode cX12_set 1 = .ok (.iconst 0, 1) := by decide +kernel
theorem dX12_set_2 : decode cX12_set 2 = .ok (.iconst 2, 1) := by decide +kernel
theorem dX12_set_3 : decode cX12_set 3 = .ok (.invokestatic 120, 3) := by decide +kernel
theorem dX12_set_6 : decode cX12_set 6 = .ok (.ifCond .ne 6, 3) := by decide +kernel
theorem dX12_set_9 : decode cX12_set 9 = .ok (.bipush (-5), 2) := by decide +kernel
theorem dX12_set_11 : decode cX12_set 11 = .ok (.ireturn, 1) := by decide +kernel
theorem dX12_set_12 : decode cX12_set 12 = .ok (.iload_n 1, 1) := by decide +kernel
theorem dX12_set_13 : decode cX12_set 13 = .ok (.iconst 2, 1) := by decide +kernel
theorem dX12_set_14 : decode cX12_set 14 = .ok (.if_icmp .ge 13, 3) := by decide +kernel
theorem dX12_set_17 : decode cX12_set 17 = .ok (.iload_n 2, 1) := by decide +kernel
theorem dX12_set_18 : decode cX12_set 18 = .ok (.invokestatic 130, 3) := by decide +kernel
theorem dX12_set_21 : decode cX12_set 21 = .ok (.ifCond .ne 6, 3) := by decide +kernel
theorem dX12_set_24 : decode cX12_set 24 = .ok (.bipush (-6), 2) := by decide +kernel
theorem dX12_set_26 : decode cX12_set 26 = .ok (.ireturn, 1) := by decide +kernel
theorem dX12_set_27 : decode cX12_set 27 = .ok (.iload_n 3, 1) := by decide +kernel
theorem dX12_set_28 : decode cX12_set 28 = .ok (.iload_n 1, 1) := by decide +kernel
theorem dX12_set_29 : decode cX12_set 29 = .ok (.iconst 2, 1) := by decide +kernel
theorem dX12_set_30 : decode cX12_set 30 = .ok (.if_icmp .ne 7, 3) := by decide +kernel
theorem dX12_set_33 : decode cX12_set 33 = .ok (.iconst 1, 1) := by decide +kernel
theorem dX12_set_34 : decode cX12_set 34 = .ok (.goto 4, 3) := by decide +kernel
theorem dX12_set_37 : decode cX12_set 37 = .ok (.iconst 0, 1) := by decide +kernel
theorem dX12_set_38 : decode cX12_set 38 = .ok (.iload_n 1, 1) := by decide +kernel
theorem dX12_set_39 : decode cX12_set 39 = .ok (.iconst 1, 1) := by decide +kernel
theorem dX12_set_40 : decode cX12_set 40 = .ok (.if_icmp .ne 8, 3) := by decide +kernel
theorem dX12_set_43 : decode cX12_set 43 = .ok (.bipush 9, 2) := by decide +kernel
theorem dX12_set_45 : decode cX12_set 45 = .ok (.goto 6, 3) := by decide +kernel
theorem dX12_set_48 : decode cX12_set 48 = .ok (.sipush 200, 3) := by decide +kernel
theorem dX12_set_51 : decode cX12_set 51 = .ok (.invokestatic 120, 3) := by decide +kernel
theorem dX12_set_54 : decode cX12_set 54 = .ok (.ifCond .ne 6, 3) := by decide +kernel
theorem dX12_set_57 : decode cX12_set 57 = .ok (.bipush (-7), 2) := by decide +kernel
theorem dX12_set_59 : decode cX12_set 59 = .ok (.ireturn, 1) := by decide +kernel
theorem dX12_set_60 : decode cX12_set 60 = .ok (.iload_n 1, 1) := by decide +kernel
theorem dX12_set_61 : decode cX12_set 61 = .ok (.ifCond .ne 12, 3) := by decide +kernel
theorem dX12_set_64 : decode cX12_set 64 = .ok (.aload_n 0, 1) := by decide +kernel
theorem dX12_set_65 : decode cX12_set 65 = .ok (.getfield 7, 3) := by decide +kernel
theorem dX12_set_68 : decode cX12_set 68 = .ok (.iload_n 2, 1) := by decide +kernel
theorem dX12_set_69 : decode cX12_set 69 = .ok (.iaload, 1) := by decide +kernel
theorem dX12_set_70 : decode cX12_set 70 = .ok (.goto 21, 3) := by decide +kernel
theorem dX12_set_73 : decode cX12_set 73 = .ok (.iload_n 1, 1) := by decide +kernel
theorem dX12_set_74 : decode cX12_set 74 = .ok (.iconst 1, 1) := by decide +kernel
theorem dX12_set_75 : decode cX12_set 75 = .ok (.if_icmp .ne 12, 3) := by decide +kernel
theorem dX12_set_78 : decode cX12_set 78 = .ok (.aload_n 0, 1) := by decide +kernel
theorem dX12_set_79 : decode cX12_set 79 = .ok (.getfield 13, 3) := by decide +kernel
theorem dX12_set_82 : decode cX12_set 82 = .ok (.iload_n 2, 1) := by decide +kernel
theorem dX12_set_83 : decode cX12_set 83 = .ok (.iaload, 1) := by decide +kernel
theorem dX12_set_84 : decode cX12_set 84 = .ok (.goto 7, 3) := by decide +kernel
theorem dX12_set_87 : decode cX12_set 87 = .ok (.aload_n 0, 1) := by decide +kernel
theorem dX12_set_88 : decode cX12_set 88 = .ok (.getfield 16, 3) := by decide +kernel
theorem dX12_set_91 : decode cX12_set 91 = .ok (.istore 4, 2) := by decide +kernel
theorem dX12_set_93 : decode cX12_set 93 = .ok (.iload_n 1, 1) := by decide +kernel
theorem dX12_set_94 : decode cX12_set 94 = .ok (.lookupswitch 46 #[(0, 26), (1, 36)], 26) := by decide +kernel
theorem dX12_set_120 : decode cX12_set 120 = .ok (.aload_n 0, 1) := by decide +kernel
theorem dX12_set_121 : decode cX12_set 121 = .ok (.getfield 7, 3) := by decide +kernel
theorem dX12_set_124 : decode cX12_set 124 = .ok (.iload_n 2, 1) := by decide +kernel
theorem dX12_set_125 : decode cX12_set 125 = .ok (.iload_n 3, 1) := by decide +kernel
theorem dX12_set_126 : decode cX12_set 126 = .ok (.iastore, 1) := by decide +kernel
theorem dX12_set_127 : decode cX12_set 127 = .ok (.goto 18, 3) := by decide +kernel
theorem dX12_set_130 : decode cX12_set 130 = .ok (.aload_n 0, 1) := by decide +kernel
theorem dX12_set_131 : decode cX12_set 131 = .ok (.getfield 13, 3) := by decide +kernel
theorem dX12_set_134 : decode cX12_set 134 = .ok (.iload_n 2, 1) := by decide +kernel
theorem dX12_set_135 : decode cX12_set 135 = .ok (.iload_n 3, 1) := by decide +kernel
theorem dX12_set_136 : decode cX12_set 136 = .ok (.iastore, 1) := by decide +kernel
theorem dX12_set_137 : decode cX12_set 137 = .ok (.goto 8, 3) := by decide +kernel
theorem dX12_set_140 : decode cX12_set 140 = .ok (.aload_n 0, 1) := by decide +kernel
theorem dX12_set_141 : decode cX12_set 141 = .ok (.iload_n 3, 1) := by decide +kernel
theorem dX12_set_142 : decode cX12_set 142 = .ok (.putfield 16, 3) := by decide +kernel
theorem dX12_set_145 : decode cX12_set 145 = .ok (.iload 4, 2) := by decide +kernel
theorem dX12_set_147 : decode cX12_set 147 = .ok (.ireturn, 1) := by decide +kernel
theorem dX12_heap_0 : decode cX12_heap 0 = .ok (.iload_n 1, 1) := by decide +kernel
