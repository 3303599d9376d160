theorem dX12_tellsStretches_80 : decode cX12_tellsStretches 80 = .ok (.ireturn, 1) := by decide +kernel
theorem dX12_tens_0 : decode cX12_tens 0 = .ok (.iconst 1, 1) := by decide +kernel
theorem dX12_tens_1 : decode cX12_tens 1 = .ok (.istore_n 2, 1) := by decide +kernel
theorem dX12_tens_2 : decode cX12_tens 2 = .ok (.iconst 0, 1) := by decide +kernel
theorem dX12_tens_3 : decode cX12_tens 3 = .ok (.istore_n 3, 1) := by decide +kernel
theorem dX12_tens_4 : decode cX12_tens 4 = .ok (.iload_n 3, 1) := by decide +kernel
theorem dX12_tens_5 : decode cX12_tens 5 = .ok (.iload_n 1, 1) := by decide +kernel
theorem dX12_tens_6 : decode cX12_tens 6 = .ok (.if_icmp .ge 14, 3) := by decide +kernel
theorem dX12_tens_9 : decode cX12_tens 9 = .ok (.iload_n 2, 1) := by decide +kernel
theorem dX12_tens_10 : decode cX12_tens 10 = .ok (.bipush 10, 2) := by decide +kernel
theorem dX12_tens_12 : decode cX12_tens 12 = .ok (.imul, 1) := by decide +kernel
theorem dX12_tens_13 : decode cX12_tens 13 = .ok (.istore_n 2, 1) := by decide +kernel
theorem dX12_tens_14 : decode cX12_tens 14 = .ok (.iinc 3 1, 3) := by decide +kernel
theorem dX12_tens_17 : decode cX12_tens 17 = .ok (.goto (-13), 3) := by decide +kernel
theorem dX12_tens_20 : decode cX12_tens 20 = .ok (.iload_n 2, 1) := by decide +kernel
theorem dX12_tens_21 : decode cX12_tens 21 = .ok (.ireturn, 1) := by decide +kernel
theorem dX12_findsStretches_0 : decode cX12_findsStretches 0 = .ok (.iconst (-1), 1) := by decide +kernel
theorem dX12_findsStretches_1 : decode cX12_findsStretches 1 = .ok (.istore_n 1, 1) := by decide +kernel
theorem dX12_findsStretches_2 : decode cX12_findsStretches 2 = .ok (.iconst 0, 1) := by decide +kernel
theorem dX12_findsStretches_3 : decode cX12_findsStretches 3 = .ok (.istore_n 2, 1) := by decide +kernel
theorem dX12_findsStretches_4 : decode cX12_findsStretches 4 = .ok (.iload_n 2, 1) := by decide +kernel
theorem dX12_findsStretches_5 : decode cX12_findsStretches 5 = .ok (.aload_n 0, 1) := by decide +kernel
theorem dX12_findsStretches_6 : decode cX12_findsStretches 6 = .ok (.aload_n 0, 1) := by decide +kernel
theorem dX12_findsStretches_7 : decode cX12_findsStretches 7 = .ok (.getfield 117, 3) := by decide +kernel
theorem dX12_findsStretches_10 : decode cX12_findsStretches 10 = .ok (.iconst 1, 1) := by decide +kernel
theorem dX12_findsStretches_11 : decode cX12_findsStretches 11 = .ok (.isub, 1) := by decide +kernel
theorem dX12_findsStretches_12 : decode cX12_findsStretches 12 = .ok (.invokevirtual 293, 3) := by decide +kernel
theorem dX12_findsStretches_15 : decode cX12_findsStretches 15 = .ok (.if_icmp .ge 70, 3) := by decide +kernel
theorem dX12_findsStretches_18 : decode cX12_findsStretches 18 = .ok (.aload_n 0, 1) := by decide +kernel
theorem dX12_findsStretches_19 : decode cX12_findsStretches 19 = .ok (.getfield 117, 3) := by decide +kernel
theorem dX12_findsStretches_22 : decode cX12_findsStretches 22 = .ok (.ifCond .le 63, 3) := by decide +kernel
theorem dX12_findsStretches_25 : decode cX12_findsStretches 25 = .ok (.aload_n 0, 1) := by decide +kernel
theorem dX12_findsStretches_26 : decode cX12_findsStretches 26 = .ok (.iload_n 2, 1) := by decide +kernel
theorem dX12_findsStretches_27 : decode cX12_findsStretches 27 = .ok (.invokevirtual 296, 3) := by decide +kernel
theorem dX12_findsStretches_30 : decode cX12_findsStretches 30 = .ok (.ifCond .eq 49, 3) := by decide +kernel
theorem dX12_findsStretches_33 : decode cX12_findsStretches 33 = .ok (.aload_n 0, 1) := by decide +kernel
theorem dX12_findsStretches_34 : decode cX12_findsStretches 34 = .ok (.invokevirtual 299, 3) := by decide +kernel
theorem dX12_findsStretches_37 : decode cX12_findsStretches 37 = .ok (.istore_n 3, 1) := by decide +kernel
theorem dX12_findsStretches_38 : decode cX12_findsStretches 38 = .ok (.iload_n 1, 1) := by decide +kernel
theorem dX12_findsStretches_39 : decode cX12_findsStretches 39 = .ok (.iconst (-1), 1) := by decide +kernel
theorem dX12_findsStretches_40 : decode cX12_findsStretches 40 = .ok (.if_icmp .eq 8, 3) := by decide +kernel
theorem dX12_findsStretches_43 : decode cX12_findsStretches 43 = .ok (.iload_n 3, 1) := by decide +kernel
theorem dX12_findsStretches_44 : decode cX12_findsStretches 44 = .ok (.iload_n 1, 1) := by decide +kernel
theorem dX12_findsStretches_45 : decode cX12_findsStretches 45 = .ok (.if_icmp .ge 34, 3) := by decide +kernel
theorem dX12_findsStretches_48 : decode cX12_findsStretches 48 = .ok (.iload_n 3, 1) := by decide +kernel
theorem dX12_findsStretches_49 : decode cX12_findsStretches 49 = .ok (.istore_n 1, 1) := by decide +kernel
theorem dX12_findsStretches_50 : decode cX12_findsStretches 50 = .ok (.iconst 0, 1) := by decide +kernel
theorem dX12_findsStretches_51 : decode cX12_findsStretches 51 = .ok (.istore 4, 2) := by decide +kernel
theorem dX12_findsStretches_53 : decode cX12_findsStretches 53 = .ok (.iload 4, 2) := by decide +kernel
theorem dX12_findsStretches_55 : decode cX12_findsStretches 55 = .ok (.iconst 5, 1) := by decide +kernel
theorem dX12_findsStretches_56 : decode cX12_findsStretches 56 = .ok (.if_icmp .ge 23, 3) := by decide +kernel
theorem dX12_findsStretches_59 : decode cX12_findsStretches 59 = .ok (.aload_n 0, 1) := by decide +kernel
theorem dX12_findsStretches_60 : decode cX12_findsStretches 60 = .ok (.getfield 104, 3) := by decide +kernel
theorem dX12_findsStretches_63 : decode cX12_findsStretches 63 = .ok (.iload 4, 2) := by decide +kernel
theorem dX12_findsStretches_65 : decode cX12_findsStretches 65 = .ok (.aload_n 0, 1) := by decide +kernel
theorem dX12_findsStretches_66 : decode cX12_findsStretches 66 = .ok (.getfield 101, 3) := by decide +kernel
theorem dX12_findsStretches_69 : decode cX12_findsStretches 69 = .ok (.iload 4, 2) := by decide +kernel
theorem dX12_findsStretches_71 : decode cX12_findsStretches 71 = .ok (.iaload, 1) := by decide +kernel
theorem dX12_findsStretches_72 : decode cX12_findsStretches 72 = .ok (.iastore, 1) := by decide +kernel
theorem dX12_findsStretches_73 : decode cX12_findsStretches 73 = .ok (.iinc 4 1, 3) := by decide +kernel
theorem dX12_findsStretches_76 : decode cX12_findsStretches 76 = .ok (.goto (-23), 3) := by decide +kernel
theorem dX12_findsStretches_79 : decode cX12_findsStretches 79 = .ok (.iinc 2 1, 3) := by decide +kernel
theorem dX12_findsStretches_82 : decode cX12_findsStretches 82 = .ok (.goto (-78), 3) := by decide +kernel
theorem dX12_findsStretches_85 : decode cX12_findsStretches 85 = .ok (.iconst 0, 1) := by decide +kernel
theorem dX12_findsStretches_86 : decode cX12_findsStretches 86 = .ok (.istore_n 2, 1) := by decide +kernel
theorem dX12_findsStretches_87 : decode cX12_findsStretches 87 = .ok (.iload_n 2, 1) := by decide +kernel
theorem dX12_findsStretches_88 : decode cX12_findsStretches 88 = .ok (.iconst 5, 1) := by decide +kernel
theorem dX12_findsStretches_89 : decode cX12_findsStretches 89 = .ok (.if_icmp .ge 21, 3) := by decide +kernel
theorem dX12_findsStretches_92 : decode cX12_findsStretches 92 = .ok (.aload_n 0, 1) := by decide +kernel
theorem dX12_findsStretches_93 : decode cX12_findsStretches 93 = .ok (.getfield 101, 3) := by decide +kernel
theorem dX12_findsStretches_96 : decode cX12_findsStretches 96 = .ok (.iload_n 2, 1) := by decide +kernel
theorem dX12_findsStretches_97 : decode cX12_findsStretches 97 = .ok (.aload_n 0, 1) := by decide +kernel
theorem dX12_findsStretches_98 : decode cX12_findsStretches 98 = .ok (.getfield 104, 3) := by decide +kernel
theorem dX12_findsStretches_101 : decode cX12_findsStretches 101 = .ok (.iload_n 2, 1) := by decide +kernel
theorem dX12_findsStretches_102 : decode cX12_findsStretches 102 = .ok (.iaload, 1) := by decide +kernel
theorem dX12_findsStretches_103 : decode cX12_findsStretches 103 = .ok (.iastore, 1) := by decide +kernel
theorem dX12_findsStretches_104 : decode cX12_findsStretches 104 = .ok (.iinc 2 1, 3) := by decide +kernel
theorem dX12_findsStretches_107 : decode cX12_findsStretches 107 = .ok (.goto (-20), 3) := by decide +kernel
theorem dX12_findsStretches_110 : decode cX12_findsStretches 110 = .ok (.iload_n 1, 1) := by decide +kernel
theorem dX12_findsStretches_111 : decode cX12_findsStretches 111 = .ok (.ireturn, 1) := by decide +kernel
theorem dX12_stretch_0 : decode cX12_stretch 0 = .ok (.iload_n 1, 1) := by decide +kernel
theorem dX12_stretch_1 : decode cX12_stretch 1 = .ok (.iconst 0, 1) := by decide +kernel
theorem dX12_stretch_2 : decode cX12_stretch 2 = .ok (.iconst 2, 1) := by decide +kernel
theorem dX12_stretch_3 : decode cX12_stretch 3 = .ok (.invokestatic 120, 3) := by decide +kernel
theorem dX12_stretch_6 : decode cX12_stretch 6 = .ok (.ifCond .ne 6, 3) := by decide +kernel
theorem dX12_stretch_9 : decode cX12_stretch 9 = .ok (.bipush (-2), 2) := by decide +kernel
theorem dX12_stretch_11 : decode cX12_stretch 11 = .ok (.ireturn, 1) := by decide +kernel
theorem dX12_stretch_12 : decode cX12_stretch 12 = .ok (.aload_n 0, 1) := by decide +kernel
theorem dX12_stretch_13 : decode cX12_stretch 13 = .ok (.invokevirtual 302, 3) := by decide +kernel
theorem dX12_stretch_16 : decode cX12_stretch 16 = .ok (.istore_n 2, 1) := by decide +kernel
theorem dX12_stretch_17 : decode cX12_stretch 17 = .ok (.iload_n 2, 1) := by decide +kernel
theorem dX12_stretch_18 : decode cX12_stretch 18 = .ok (.iconst (-1), 1) := by decide +kernel
theorem dX12_stretch_19 : decode cX12_stretch 19 = .ok (.if_icmp .ne 5, 3) := by decide +kernel
theorem dX12_stretch_22 : decode cX12_stretch 22 = .ok (.iconst (-1), 1) := by decide +kernel
theorem dX12_stretch_23 : decode cX12_stretch 23 = .ok (.ireturn, 1) := by decide +kernel
theorem dX12_stretch_24 : decode cX12_stretch 24 = .ok (.aload_n 0, 1) := by decide +kernel
theorem dX12_stretch_25 : decode cX12_stretch 25 = .ok (.invokevirtual 299, 3) := by decide +kernel
theorem dX12_stretch_28 : decode cX12_stretch 28 = .ok (.pop, 1) := by decide +kernel
theorem dX12_stretch_29 : decode cX12_stretch 29 = .ok (.iconst 0, 1) := by decide +kernel
theorem dX12_stretch_30 : decode cX12_stretch 30 = .ok (.istore_n 3, 1) := by decide +kernel
theorem dX12_stretch_31 : decode cX12_stretch 31 = .ok (.iconst 0, 1) := by decide +kernel
theorem dX12_stretch_32 : decode cX12_stretch 32 = .ok (.istore 4, 2) := by decide +kernel
theorem dX12_stretch_34 : decode cX12_stretch 34 = .ok (.iload 4, 2) := by decide +kernel
theorem dX12_stretch_36 : decode cX12_stretch 36 = .ok (.aload_n 0, 1) := by decide +kernel
theorem dX12_stretch_37 : decode cX12_stretch 37 = .ok (.getfield 117, 3) := by decide +kernel
theorem dX12_stretch_40 : decode cX12_stretch 40 = .ok (.if_icmp .ge 22, 3) := by decide +kernel
theorem dX12_stretch_43 : decode cX12_stretch 43 = .ok (.bipush 10, 2) := by decide +kernel
theorem dX12_stretch_45 : decode cX12_stretch 45 = .ok (.iload_n 3, 1) := by decide +kernel
theorem dX12_stretch_46 : decode cX12_stretch 46 = .ok (.imul, 1) := by decide +kernel
theorem dX12_stretch_47 : decode cX12_stretch 47 = .ok (.aload_n 0, 1) := by decide +kernel
theorem dX12_stretch_48 : decode cX12_stretch 48 = .ok (.getfield 101, 3) := by decide +kernel
theorem dX12_stretch_51 : decode cX12_stretch 51 = .ok (.iload 4, 2) := by decide +kernel
theorem dX12_stretch_53 : decode cX12_stretch 53 = .ok (.iaload, 1) := by decide +kernel
theorem dX12_stretch_54 : decode cX12_stretch 54 = .ok (.iadd, 1) := by decide +kernel
theorem dX12_stretch_55 : decode cX12_stretch 55 = .ok (.istore_n 3, 1) := by decide +kernel
theorem dX12_stretch_56 : decode cX12_stretch 56 = .ok (.iinc 4 1, 3) := by decide +kernel
theorem dX12_stretch_59 : decode cX12_stretch 59 = .ok (.goto (-25), 3) := by decide +kernel
theorem dX12_stretch_62 : decode cX12_stretch 62 = .ok (.iload_n 1, 1) := by decide +kernel
theorem dX12_stretch_63 : decode cX12_stretch 63 = .ok (.ifCond .ne 7, 3) := by decide +kernel
theorem dX12_stretch_66 : decode cX12_stretch 66 = .ok (.iload_n 2, 1) := by decide +kernel
theorem dX12_stretch_67 : decode cX12_stretch 67 = .ok (.goto 25, 3) := by decide +kernel
theorem dX12_stretch_70 : decode cX12_stretch 70 = .ok (.iload_n 1, 1) := by decide +kernel
theorem dX12_stretch_71 : decode cX12_stretch 71 = .ok (.iconst 1, 1) := by decide +kernel
theorem dX12_stretch_72 : decode cX12_stretch 72 = .ok (.if_icmp .ne 7, 3) := by decide +kernel
theorem dX12_stretch_75 : decode cX12_stretch 75 = .ok (.iload_n 3, 1) := by decide +kernel
theorem dX12_stretch_76 : decode cX12_stretch 76 = .ok (.goto 16, 3) := by decide +kernel
theorem dX12_stretch_79 : decode cX12_stretch 79 = .ok (.aload_n 0, 1) := by decide +kernel
theorem dX12_stretch_80 : decode cX12_stretch 80 = .ok (.getfield 287, 3) := by decide +kernel
theorem dX12_stretch_83 : decode cX12_stretch 83 = .ok (.iload_n 2, 1) := by decide +kernel
theorem dX12_stretch_84 : decode cX12_stretch 84 = .ok (.aload_n 0, 1) := by decide +kernel
theorem dX12_stretch_85 : decode cX12_stretch 85 = .ok (.getfield 16, 3) := by decide +kernel
theorem dX12_stretch_88 : decode cX12_stretch 88 = .ok (.iconst 1, 1) := by decide +kernel
theorem dX12_stretch_89 : decode cX12_stretch 89 = .ok (.isub, 1) := by decide +kernel
theorem dX12_stretch_90 : decode cX12_stretch 90 = .ok (.imul, 1) := by decide +kernel
theorem dX12_stretch_91 : decode cX12_stretch 91 = .ok (.iadd, 1) := by decide +kernel
theorem dX12_stretch_92 : decode cX12_stretch 92 = .ok (.ireturn, 1) := by decide +kernel
theorem dX12_slowest_0 : decode cX12_slowest 0 = .ok (.aload_n 0, 1) := by decide +kernel
theorem dX12_slowest_1 : decode cX12_slowest 1 = .ok (.invokevirtual 302, 3) := by decide +kernel
theorem dX12_slowest_4 : decode cX12_slowest 4 = .ok (.istore_n 1, 1) := by decide +kernel
theorem dX12_slowest_5 : decode cX12_slowest 5 = .ok (.iconst 0, 1) := by decide +kernel
theorem dX12_slowest_6 : decode cX12_slowest 6 = .ok (.istore_n 2, 1) := by decide +kernel
theorem dX12_slowest_7 : decode cX12_slowest 7 = .ok (.iconst 0, 1) := by decide +kernel
theorem dX12_slowest_8 : decode cX12_slowest 8 = .ok (.istore_n 3, 1) := by decide +kernel
theorem dX12_slowest_9 : decode cX12_slowest 9 = .ok (.iload_n 3, 1) := by decide +kernel
theorem dX12_slowest_10 : decode cX12_slowest 10 = .ok (.aload_n 0, 1) := by decide +kernel
theorem dX12_slowest_11 : decode cX12_slowest 11 = .ok (.getfield 117, 3) := by decide +kernel
theorem dX12_slowest_14 : decode cX12_slowest 14 = .ok (.if_icmp .ge 36, 3) := by decide +kernel
theorem dX12_slowest_17 : decode cX12_slowest 17 = .ok (.aload_n 0, 1) := by decide +kernel
theorem dX12_slowest_18 : decode cX12_slowest 18 = .ok (.iload_n 3, 1) := by decide +kernel
theorem dX12_slowest_19 : decode cX12_slowest 19 = .ok (.iload_n 2, 1) := by decide +kernel
theorem dX12_slowest_20 : decode cX12_slowest 20 = .ok (.aload_n 0, 1) := by decide +kernel
theorem dX12_slowest_21 : decode cX12_slowest 21 = .ok (.getfield 101, 3) := by decide +kernel
theorem dX12_slowest_24 : decode cX12_slowest 24 = .ok (.iload_n 3, 1) := by decide +kernel
theorem dX12_slowest_25 : decode cX12_slowest 25 = .ok (.iaload, 1) := by decide +kernel
theorem dX12_slowest_26 : decode cX12_slowest 26 = .ok (.invokevirtual 290, 3) := by decide +kernel
theorem dX12_slowest_29 : decode cX12_slowest 29 = .ok (.iload_n 1, 1) := by decide +kernel
theorem dX12_slowest_30 : decode cX12_slowest 30 = .ok (.if_icmp .ne 5, 3) := by decide +kernel
theorem dX12_slowest_33 : decode cX12_slowest 33 = .ok (.iload_n 3, 1) := by decide +kernel
theorem dX12_slowest_34 : decode cX12_slowest 34 = .ok (.ireturn, 1) := by decide +kernel
theorem dX12_slowest_35 : decode cX12_slowest 35 = .ok (.iload_n 2, 1) := by decide +kernel
theorem dX12_slowest_36 : decode cX12_slowest 36 = .ok (.aload_n 0, 1) := by decide +kernel
theorem dX12_slowest_37 : decode cX12_slowest 37 = .ok (.getfield 101, 3) := by decide +kernel
theorem dX12_slowest_40 : decode cX12_slowest 40 = .ok (.iload_n 3, 1) := by decide +kernel
theorem dX12_slowest_41 : decode cX12_slowest 41 = .ok (.iaload, 1) := by decide +kernel
theorem dX12_slowest_42 : decode cX12_slowest 42 = .ok (.iadd, 1) := by decide +kernel
theorem dX12_slowest_43 : decode cX12_slowest 43 = .ok (.istore_n 2, 1) := by decide +kernel
theorem dX12_slowest_44 : decode cX12_slowest 44 = .ok (.iinc 3 1, 3) := by decide +kernel
theorem dX12_slowest_47 : decode cX12_slowest 47 = .ok (.goto (-38), 3) := by decide +kernel
theorem dX12_slowest_50 : decode cX12_slowest 50 = .ok (.iconst (-1), 1) := by decide +kernel
theorem dX12_slowest_51 : decode cX12_slowest 51 = .ok (.ireturn, 1) := by decide +kernel
theorem dX12_sheetWrong_0 : decode cX12_sheetWrong 0 = .ok (.iload_n 1, 1) := by decide +kernel
theorem dX12_sheetWrong_1 : decode cX12_sheetWrong 1 = .ok (.iconst 0, 1) := by decide +kernel
theorem dX12_sheetWrong_2 : decode cX12_sheetWrong 2 = .ok (.iconst 3, 1) := by decide +kernel
theorem dX12_sheetWrong_3 : decode cX12_sheetWrong 3 = .ok (.invokestatic 120, 3) := by decide +kernel
theorem dX12_sheetWrong_6 : decode cX12_sheetWrong 6 = .ok (.ifCond .ne 6, 3) := by decide +kernel
theorem dX12_sheetWrong_9 : decode cX12_sheetWrong 9 = .ok (.bipush (-2), 2) := by decide +kernel
theorem dX12_sheetWrong_11 : decode cX12_sheetWrong 11 = .ok (.ireturn, 1) := by decide +kernel
theorem dX12_sheetWrong_12 : decode cX12_sheetWrong 12 = .ok (.aload_n 0, 1) := by decide +kernel
theorem dX12_sheetWrong_13 : decode cX12_sheetWrong 13 = .ok (.getfield 41, 3) := by decide +kernel
theorem dX12_sheetWrong_16 : decode cX12_sheetWrong 16 = .ok (.iload_n 1, 1) := by decide +kernel
theorem dX12_sheetWrong_17 : decode cX12_sheetWrong 17 = .ok (.iaload, 1) := by decide +kernel
theorem dX12_sheetWrong_18 : decode cX12_sheetWrong 18 = .ok (.iconst (-1), 1) := by decide +kernel
theorem dX12_sheetWrong_19 : decode cX12_sheetWrong 19 = .ok (.if_icmp .ne 6, 3) := by decide +kernel
theorem dX12_sheetWrong_22 : decode cX12_sheetWrong 22 = .ok (.bipush (-11), 2) := by decide +kernel
theorem dX12_sheetWrong_24 : decode cX12_sheetWrong 24 = .ok (.ireturn, 1) := by decide +kernel
theorem dX12_sheetWrong_25 : decode cX12_sheetWrong 25 = .ok (.aload_n 0, 1) := by decide +kernel
theorem dX12_sheetWrong_26 : decode cX12_sheetWrong 26 = .ok (.getfield 44, 3) := by decide +kernel
theorem dX12_sheetWrong_29 : decode cX12_sheetWrong 29 = .ok (.iload_n 1, 1) := by decide +kernel
theorem dX12_sheetWrong_30 : decode cX12_sheetWrong 30 = .ok (.iaload, 1) := by decide +kernel
theorem dX12_sheetWrong_31 : decode cX12_sheetWrong 31 = .ok (.bipush 9, 2) := by decide +kernel
theorem dX12_sheetWrong_33 : decode cX12_sheetWrong 33 = .ok (.if_icmp .ne 7, 3) := by decide +kernel
theorem dX12_sheetWrong_36 : decode cX12_sheetWrong 36 = .ok (.iconst 0, 1) := by decide +kernel
theorem dX12_sheetWrong_37 : decode cX12_sheetWrong 37 = .ok (.goto 5, 3) := by decide +kernel
theorem dX12_sheetWrong_40 : decode cX12_sheetWrong 40 = .ok (.bipush (-2), 2) := by decide +kernel
theorem dX12_sheetWrong_42 : decode cX12_sheetWrong 42 = .ok (.ireturn, 1) := by decide +kernel
theorem dX12_timeWrong_0 : decode cX12_timeWrong 0 = .ok (.aload_n 0, 1) := by decide +kernel
theorem dX12_timeWrong_1 : decode cX12_timeWrong 1 = .ok (.iload_n 1, 1) := by decide +kernel
theorem dX12_timeWrong_2 : decode cX12_timeWrong 2 = .ok (.invokevirtual 305, 3) := by decide +kernel
theorem dX12_timeWrong_5 : decode cX12_timeWrong 5 = .ok (.istore_n 3, 1) := by decide +kernel
theorem dX12_timeWrong_6 : decode cX12_timeWrong 6 = .ok (.iload_n 3, 1) := by decide +kernel
theorem dX12_timeWrong_7 : decode cX12_timeWrong 7 = .ok (.ifCond .eq 7, 3) := by decide +kernel
theorem dX12_timeWrong_10 : decode cX12_timeWrong 10 = .ok (.iload_n 3, 1) := by decide +kernel
theorem dX12_timeWrong_11 : decode cX12_timeWrong 11 = .ok (.goto 16, 3) := by decide +kernel
theorem dX12_timeWrong_14 : decode cX12_timeWrong 14 = .ok (.iload_n 2, 1) := by decide +kernel
theorem dX12_timeWrong_15 : decode cX12_timeWrong 15 = .ok (.invokestatic 257, 3) := by decide +kernel
theorem dX12_timeWrong_18 : decode cX12_timeWrong 18 = .ok (.ifCond .eq 7, 3) := by decide +kernel
theorem dX12_timeWrong_21 : decode cX12_timeWrong 21 = .ok (.iconst 0, 1) := by decide +kernel
theorem dX12_timeWrong_22 : decode cX12_timeWrong 22 = .ok (.goto 5, 3) := by decide +kernel
theorem dX12_timeWrong_25 : decode cX12_timeWrong 25 = .ok (.bipush (-7), 2) := by decide +kernel
theorem dX12_timeWrong_27 : decode cX12_timeWrong 27 = .ok (.ireturn, 1) := by decide +kernel
theorem dX12_unlikeNow_0 : decode cX12_unlikeNow 0 = .ok (.iconst 0, 1) := by decide +kernel
theorem dX12_unlikeNow_1 : decode cX12_unlikeNow 1 = .ok (.istore_n 2, 1) := by decide +kernel
theorem dX12_unlikeNow_2 : decode cX12_unlikeNow 2 = .ok (.iload_n 2, 1) := by decide +kernel
theorem dX12_unlikeNow_3 : decode cX12_unlikeNow 3 = .ok (.bipush 9, 2) := by decide +kernel
theorem dX12_unlikeNow_5 : decode cX12_unlikeNow 5 = .ok (.if_icmp .ge 31, 3) := by decide +kernel
theorem dX12_unlikeNow_8 : decode cX12_unlikeNow 8 = .ok (.aload_n 0, 1) := by decide +kernel
theorem dX12_unlikeNow_9 : decode cX12_unlikeNow 9 = .ok (.getfield 47, 3) := by decide +kernel
theorem dX12_unlikeNow_12 : decode cX12_unlikeNow 12 = .ok (.bipush 40, 2) := by decide +kernel
theorem dX12_unlikeNow_14 : decode cX12_unlikeNow 14 = .ok (.iload_n 1, 1) := by decide +kernel
theorem dX12_unlikeNow_15 : decode cX12_unlikeNow 15 = .ok (.imul, 1) := by decide +kernel
theorem dX12_unlikeNow_16 : decode cX12_unlikeNow 16 = .ok (.iload_n 2, 1) := by decide +kernel
theorem dX12_unlikeNow_17 : decode cX12_unlikeNow 17 = .ok (.iadd, 1) := by decide +kernel
theorem dX12_unlikeNow_18 : decode cX12_unlikeNow 18 = .ok (.iaload, 1) := by decide +kernel
theorem dX12_unlikeNow_19 : decode cX12_unlikeNow 19 = .ok (.aload_n 0, 1) := by decide +kernel
theorem dX12_unlikeNow_20 : decode cX12_unlikeNow 20 = .ok (.getfield 89, 3) := by decide +kernel
theorem dX12_unlikeNow_23 : decode cX12_unlikeNow 23 = .ok (.iload_n 2, 1) := by decide +kernel
theorem dX12_unlikeNow_24 : decode cX12_unlikeNow 24 = .ok (.iaload, 1) := by decide +kernel
theorem dX12_unlikeNow_25 : decode cX12_unlikeNow 25 = .ok (.if_icmp .eq 5, 3) := by decide +kernel
theorem dX12_unlikeNow_28 : decode cX12_unlikeNow 28 = .ok (.iload_n 2, 1) := by decide +kernel
theorem dX12_unlikeNow_29 : decode cX12_unlikeNow 29 = .ok (.ireturn, 1) := by decide +kernel
theorem dX12_unlikeNow_30 : decode cX12_unlikeNow 30 = .ok (.iinc 2 1, 3) := by decide +kernel
theorem dX12_unlikeNow_33 : decode cX12_unlikeNow 33 = .ok (.goto (-31), 3) := by decide +kernel
theorem dX12_unlikeNow_36 : decode cX12_unlikeNow 36 = .ok (.iconst (-1), 1) := by decide +kernel
theorem dX12_unlikeNow_37 : decode cX12_unlikeNow 37 = .ok (.ireturn, 1) := by decide +kernel
theorem dX12_unlike_0 : decode cX12_unlike 0 = .ok (.aload_n 0, 1) := by decide +kernel
theorem dX12_unlike_1 : decode cX12_unlike 1 = .ok (.iload_n 2, 1) := by decide +kernel
theorem dX12_unlike_2 : decode cX12_unlike 2 = .ok (.invokevirtual 260, 3) := by decide +kernel
theorem dX12_unlike_5 : decode cX12_unlike 5 = .ok (.aload_n 0, 1) := by decide +kernel
theorem dX12_unlike_6 : decode cX12_unlike 6 = .ok (.iload_n 1, 1) := by decide +kernel
theorem dX12_unlike_7 : decode cX12_unlike 7 = .ok (.invokevirtual 308, 3) := by decide +kernel
theorem dX12_unlike_10 : decode cX12_unlike 10 = .ok (.ireturn, 1) := by decide +kernel
theorem dX12_judge_0 : decode cX12_judge 0 = .ok (.aload_n 0, 1) := by decide +kernel
theorem dX12_judge_1 : decode cX12_judge 1 = .ok (.iload_n 1, 1) := by decide +kernel
theorem dX12_judge_2 : decode cX12_judge 2 = .ok (.iload_n 2, 1) := by decide +kernel
theorem dX12_judge_3 : decode cX12_judge 3 = .ok (.invokevirtual 311, 3) := by decide +kernel
theorem dX12_judge_6 : decode cX12_judge 6 = .ok (.istore_n 3, 1) := by decide +kernel
theorem dX12_judge_7 : decode cX12_judge 7 = .ok (.iload_n 3, 1) := by decide +kernel
theorem dX12_judge_8 : decode cX12_judge 8 = .ok (.ifCond .ne 12, 3) := by decide +kernel
theorem dX12_judge_11 : decode cX12_judge 11 = .ok (.aload_n 0, 1) := by decide +kernel
theorem dX12_judge_12 : decode cX12_judge 12 = .ok (.iload_n 1, 1) := by decide +kernel
theorem dX12_judge_13 : decode cX12_judge 13 = .ok (.iload_n 2, 1) := by decide +kernel
theorem dX12_judge_14 : decode cX12_judge 14 = .ok (.invokevirtual 314, 3) := by decide +kernel
theorem dX12_judge_17 : decode cX12_judge 17 = .ok (.goto 4, 3) := by decide +kernel
theorem dX12_judge_20 : decode cX12_judge 20 = .ok (.iload_n 3, 1) := by decide +kernel
theorem dX12_judge_21 : decode cX12_judge 21 = .ok (.ireturn, 1) := by decide +kernel
theorem dX12_when_0 : decode cX12_when 0 = .ok (.aload_n 0, 1) := by decide +kernel
theorem dX12_when_1 : decode cX12_when 1 = .ok (.iload_n 1, 1) := by decide +kernel
theorem dX12_when_2 : decode cX12_when 2 = .ok (.invokevirtual 305, 3) := by decide +kernel
theorem dX12_when_5 : decode cX12_when 5 = .ok (.istore_n 3, 1) := by decide +kernel
theorem dX12_when_6 : decode cX12_when 6 = .ok (.iload_n 3, 1) := by decide +kernel
theorem dX12_when_7 : decode cX12_when 7 = .ok (.ifCond .eq 5, 3) := by decide +kernel
theorem dX12_when_10 : decode cX12_when 10 = .ok (.iload_n 3, 1) := by decide +kernel
theorem dX12_when_11 : decode cX12_when 11 = .ok (.ireturn, 1) := by decide +kernel
theorem dX12_when_12 : decode cX12_when 12 = .ok (.iload_n 2, 1) := by decide +kernel
theorem dX12_when_13 : decode cX12_when 13 = .ok (.iconst 0, 1) := by decide +kernel
theorem dX12_when_14 : decode cX12_when 14 = .ok (.iconst 1, 1) := by decide +kernel
theorem dX12_when_15 : decode cX12_when 15 = .ok (.invokestatic 120, 3) := by decide +kernel
theorem dX12_when_18 : decode cX12_when 18 = .ok (.ifCond .ne 6, 3) := by decide +kernel
theorem dX12_when_21 : decode cX12_when 21 = .ok (.bipush (-7), 2) := by decide +kernel
theorem dX12_when_23 : decode cX12_when 23 = .ok (.ireturn, 1) := by decide +kernel
theorem dX12_when_24 : decode cX12_when 24 = .ok (.iconst (-1), 1) := by decide +kernel
theorem dX12_when_25 : decode cX12_when 25 = .ok (.istore 4, 2) := by decide +kernel
theorem dX12_when_27 : decode cX12_when 27 = .ok (.iconst 0, 1) := by decide +kernel
theorem dX12_when_28 : decode cX12_when 28 = .ok (.istore 5, 2) := by decide +kernel
theorem dX12_when_30 : decode cX12_when 30 = .ok (.aload_n 0, 1) := by decide +kernel
theorem dX12_when_31 : decode cX12_when 31 = .ok (.iconst (-1), 1) := by decide +kernel
theorem dX12_when_32 : decode cX12_when 32 = .ok (.invokevirtual 251, 3) := by decide +kernel
theorem dX12_when_35 : decode cX12_when 35 = .ok (.aload_n 0, 1) := by decide +kernel
theorem dX12_when_36 : decode cX12_when 36 = .ok (.invokevirtual 245, 3) := by decide +kernel
theorem dX12_when_39 : decode cX12_when 39 = .ok (.iconst 0, 1) := by decide +kernel
theorem dX12_when_40 : decode cX12_when 40 = .ok (.istore 6, 2) := by decide +kernel
theorem dX12_when_42 : decode cX12_when 42 = .ok (.iload 6, 2) := by decide +kernel
theorem dX12_when_44 : decode cX12_when 44 = .ok (.sipush 600, 3) := by decide +kernel
theorem dX12_when_47 : decode cX12_when 47 = .ok (.if_icmp .gt 66, 3) := by decide +kernel
theorem dX12_when_50 : decode cX12_when 50 = .ok (.aload_n 0, 1) := by decide +kernel
theorem dX12_when_51 : decode cX12_when 51 = .ok (.iload_n 1, 1) := by decide +kernel
theorem dX12_when_52 : decode cX12_when 52 = .ok (.invokevirtual 308, 3) := by decide +kernel
theorem dX12_when_55 : decode cX12_when 55 = .ok (.iconst (-1), 1) := by decide +kernel
theorem dX12_when_56 : decode cX12_when 56 = .ok (.if_icmp .ne 7, 3) := by decide +kernel
theorem dX12_when_59 : decode cX12_when 59 = .ok (.iconst 1, 1) := by decide +kernel
theorem dX12_when_60 : decode cX12_when 60 = .ok (.goto 4, 3) := by decide +kernel
theorem dX12_when_63 : decode cX12_when 63 = .ok (.iconst 0, 1) := by decide +kernel
theorem dX12_when_64 : decode cX12_when 64 = .ok (.istore 7, 2) := by decide +kernel
theorem dX12_when_66 : decode cX12_when 66 = .ok (.iload 7, 2) := by decide +kernel
theorem dX12_when_68 : decode cX12_when 68 = .ok (.ifCond .eq 14, 3) := by decide +kernel
theorem dX12_when_71 : decode cX12_when 71 = .ok (.iload 4, 2) := by decide +kernel
theorem dX12_when_73 : decode cX12_when 73 = .ok (.iconst (-1), 1) := by decide +kernel
theorem dX12_when_74 : decode cX12_when 74 = .ok (.if_icmp .ne 8, 3) := by decide +kernel
theorem dX12_when_77 : decode cX12_when 77 = .ok (.iload 6, 2) := by decide +kernel
theorem dX12_when_79 : decode cX12_when 79 = .ok (.goto 5, 3) := by decide +kernel
theorem dX12_when_82 : decode cX12_when 82 = .ok (.iload 4, 2) := by decide +kernel
theorem dX12_when_84 : decode cX12_when 84 = .ok (.istore 4, 2) := by decide +kernel
theorem dX12_when_86 : decode cX12_when 86 = .ok (.iload 5, 2) := by decide +kernel
theorem dX12_when_88 : decode cX12_when 88 = .ok (.iload 7, 2) := by decide +kernel
theorem dX12_when_90 : decode cX12_when 90 = .ok (.ifCond .eq 7, 3) := by decide +kernel
theorem dX12_when_93 : decode cX12_when 93 = .ok (.iconst 1, 1) := by decide +kernel
theorem dX12_when_94 : decode cX12_when 94 = .ok (.goto 4, 3) := by decide +kernel
theorem dX12_when_97 : decode cX12_when 97 = .ok (.iconst 0, 1) := by decide +kernel
theorem dX12_when_98 : decode cX12_when 98 = .ok (.iadd, 1) := by decide +kernel
theorem dX12_when_99 : decode cX12_when 99 = .ok (.istore 5, 2) := by decide +kernel
theorem dX12_when_101 : decode cX12_when 101 = .ok (.aload_n 0, 1) := by decide +kernel
theorem dX12_when_102 : decode cX12_when 102 = .ok (.iload 6, 2) := by decide +kernel
theorem dX12_when_104 : decode cX12_when 104 = .ok (.invokevirtual 248, 3) := by decide +kernel
theorem dX12_when_107 : decode cX12_when 107 = .ok (.iinc 6 1, 3) := by decide +kernel
theorem dX12_when_110 : decode cX12_when 110 = .ok (.goto (-68), 3) := by decide +kernel
theorem dX12_when_113 : decode cX12_when 113 = .ok (.iload_n 2, 1) := by decide +kernel
theorem dX12_when_114 : decode cX12_when 114 = .ok (.ifCond .ne 8, 3) := by decide +kernel
theorem dX12_when_117 : decode cX12_when 117 = .ok (.iload 4, 2) := by decide +kernel
theorem dX12_when_119 : decode cX12_when 119 = .ok (.goto 5, 3) := by decide +kernel
theorem dX12_when_122 : decode cX12_when 122 = .ok (.iload 5, 2) := by decide +kernel
theorem dX12_when_124 : decode cX12_when 124 = .ok (.ireturn, 1) := by decide +kernel
theorem dX12_sticks_0 : decode cX12_sticks 0 = .ok (.aload_n 0, 1) := by decide +kernel
theorem dX12_sticks_1 : decode cX12_sticks 1 = .ok (.iload_n 1, 1) := by decide +kernel
theorem dX12_sticks_2 : decode cX12_sticks 2 = .ok (.iload_n 2, 1) := by decide +kernel
theorem dX12_sticks_3 : decode cX12_sticks 3 = .ok (.invokevirtual 311, 3) := by decide +kernel
theorem dX12_sticks_6 : decode cX12_sticks 6 = .ok (.istore 4, 2) := by decide +kernel
theorem dX12_sticks_8 : decode cX12_sticks 8 = .ok (.iload 4, 2) := by decide +kernel
theorem dX12_sticks_10 : decode cX12_sticks 10 = .ok (.ifCond .eq 6, 3) := by decide +kernel
theorem dX12_sticks_13 : decode cX12_sticks 13 = .ok (.iload 4, 2) := by decide +kernel
theorem dX12_sticks_15 : decode cX12_sticks 15 = .ok (.ireturn, 1) := by decide +kernel
theorem dX12_sticks_16 : decode cX12_sticks 16 = .ok (.iload_n 3, 1) := by decide +kernel
theorem dX12_sticks_17 : decode cX12_sticks 17 = .ok (.invokestatic 130, 3) := by decide +kernel
theorem dX12_sticks_20 : decode cX12_sticks 20 = .ok (.ifCond .ne 6, 3) := by decide +kernel
theorem dX12_sticks_23 : decode cX12_sticks 23 = .ok (.bipush (-6), 2) := by decide +kernel
theorem dX12_sticks_25 : decode cX12_sticks 25 = .ok (.ireturn, 1) := by decide +kernel
theorem dX12_sticks_26 : decode cX12_sticks 26 = .ok (.aload_n 0, 1) := by decide +kernel
theorem dX12_sticks_27 : decode cX12_sticks 27 = .ok (.getfield 13, 3) := by decide +kernel
theorem dX12_sticks_30 : decode cX12_sticks 30 = .ok (.iload_n 3, 1) := by decide +kernel
theorem dX12_sticks_31 : decode cX12_sticks 31 = .ok (.iaload, 1) := by decide +kernel
theorem dX12_sticks_32 : decode cX12_sticks 32 = .ok (.istore 5, 2) := by decide +kernel
theorem dX12_sticks_34 : decode cX12_sticks 34 = .ok (.iconst 0, 1) := by decide +kernel
theorem dX12_sticks_35 : decode cX12_sticks 35 = .ok (.istore 6, 2) := by decide +kernel
theorem dX12_sticks_37 : decode cX12_sticks 37 = .ok (.iconst 0, 1) := by decide +kernel
theorem dX12_sticks_38 : decode cX12_sticks 38 = .ok (.istore 7, 2) := by decide +kernel
theorem dX12_sticks_40 : decode cX12_sticks 40 = .ok (.iload 7, 2) := by decide +kernel
theorem dX12_sticks_42 : decode cX12_sticks 42 = .ok (.bipush 10, 2) := by decide +kernel
theorem dX12_sticks_44 : decode cX12_sticks 44 = .ok (.if_icmp .ge 40, 3) := by decide +kernel
theorem dX12_sticks_47 : decode cX12_sticks 47 = .ok (.aload_n 0, 1) := by decide +kernel
theorem dX12_sticks_48 : decode cX12_sticks 48 = .ok (.getfield 13, 3) := by decide +kernel
theorem dX12_sticks_51 : decode cX12_sticks 51 = .ok (.iload_n 3, 1) := by decide +kernel
theorem dX12_sticks_52 : decode cX12_sticks 52 = .ok (.iload 7, 2) := by decide +kernel
theorem dX12_sticks_54 : decode cX12_sticks 54 = .ok (.iastore, 1) := by decide +kernel
theorem dX12_sticks_55 : decode cX12_sticks 55 = .ok (.iload 6, 2) := by decide +kernel
theorem dX12_sticks_57 : decode cX12_sticks 57 = .ok (.aload_n 0, 1) := by decide +kernel
theorem dX12_sticks_58 : decode cX12_sticks 58 = .ok (.iload_n 1, 1) := by decide +kernel
theorem dX12_sticks_59 : decode cX12_sticks 59 = .ok (.iload_n 2, 1) := by decide +kernel
theorem dX12_sticks_60 : decode cX12_sticks 60 = .ok (.invokevirtual 314, 3) := by decide +kernel
theorem dX12_sticks_63 : decode cX12_sticks 63 = .ok (.iconst (-1), 1) := by decide +kernel
theorem dX12_sticks_64 : decode cX12_sticks 64 = .ok (.if_icmp .ne 10, 3) := by decide +kernel
theorem dX12_sticks_67 : decode cX12_sticks 67 = .ok (.iconst 1, 1) := by decide +kernel
theorem dX12_sticks_68 : decode cX12_sticks 68 = .ok (.iload 7, 2) := by decide +kernel
theorem dX12_sticks_70 : decode cX12_sticks 70 = .ok (.ishl, 1) := by decide +kernel
theorem dX12_sticks_71 : decode cX12_sticks 71 = .ok (.goto 4, 3) := by decide +kernel
theorem dX12_sticks_74 : decode cX12_sticks 74 = .ok (.iconst 0, 1) := by decide +kernel
theorem dX12_sticks_75 : decode cX12_sticks 75 = .ok (.ior, 1) := by decide +kernel
theorem dX12_sticks_76 : decode cX12_sticks 76 = .ok (.istore 6, 2) := by decide +kernel
theorem dX12_sticks_78 : decode cX12_sticks 78 = .ok (.iinc 7 1, 3) := by decide +kernel
theorem dX12_sticks_81 : decode cX12_sticks 81 = .ok (.goto (-41), 3) := by decide +kernel
theorem dX12_sticks_84 : decode cX12_sticks 84 = .ok (.aload_n 0, 1) := by decide +kernel
theorem dX12_sticks_85 : decode cX12_sticks 85 = .ok (.getfield 13, 3) := by decide +kernel
theorem dX12_sticks_88 : decode cX12_sticks 88 = .ok (.iload_n 3, 1) := by decide +kernel
theorem dX12_sticks_89 : decode cX12_sticks 89 = .ok (.iload 5, 2) := by decide +kernel
theorem dX12_sticks_91 : decode cX12_sticks 91 = .ok (.iastore, 1) := by decide +kernel
theorem dX12_sticks_92 : decode cX12_sticks 92 = .ok (.iload 6, 2) := by decide +kernel
theorem dX12_sticks_94 : decode cX12_sticks 94 = .ok (.ireturn, 1) := by decide +kernel
theorem dX12_kinds_0 : decode cX12_kinds 0 = .ok (.aload_n 0, 1) := by decide +kernel
theorem dX12_kinds_1 : decode cX12_kinds 1 = .ok (.iload_n 1, 1) := by decide +kernel
theorem dX12_kinds_2 : decode cX12_kinds 2 = .ok (.iload_n 2, 1) := by decide +kernel
theorem dX12_kinds_3 : decode cX12_kinds 3 = .ok (.invokevirtual 311, 3) := by decide +kernel
theorem dX12_kinds_6 : decode cX12_kinds 6 = .ok (.istore 4, 2) := by decide +kernel
theorem dX12_kinds_8 : decode cX12_kinds 8 = .ok (.iload 4, 2) := by decide +kernel
theorem dX12_kinds_10 : decode cX12_kinds 10 = .ok (.ifCond .eq 6, 3) := by decide +kernel
theorem dX12_kinds_13 : decode cX12_kinds 13 = .ok (.iload 4, 2) := by decide +kernel
theorem dX12_kinds_15 : decode cX12_kinds 15 = .ok (.ireturn, 1) := by decide +kernel
theorem dX12_kinds_16 : decode cX12_kinds 16 = .ok (.iload_n 3, 1) := by decide +kernel
theorem dX12_kinds_17 : decode cX12_kinds 17 = .ok (.ifCond .ge 7, 3) := by decide +kernel
theorem dX12_kinds_20 : decode cX12_kinds 20 = .ok (.iconst (-1), 1) := by decide +kernel
theorem dX12_kinds_21 : decode cX12_kinds 21 = .ok (.goto 7, 3) := by decide +kernel
theorem dX12_kinds_24 : decode cX12_kinds 24 = .ok (.iload_n 3, 1) := by decide +kernel
theorem dX12_kinds_25 : decode cX12_kinds 25 = .ok (.bipush 100, 2) := by decide +kernel
theorem dX12_kinds_27 : decode cX12_kinds 27 = .ok (.idiv, 1) := by decide +kernel
theorem dX12_kinds_28 : decode cX12_kinds 28 = .ok (.istore 5, 2) := by decide +kernel
theorem dX12_kinds_30 : decode cX12_kinds 30 = .ok (.aload_n 0, 1) := by decide +kernel
theorem dX12_kinds_31 : decode cX12_kinds 31 = .ok (.iload 5, 2) := by decide +kernel
theorem dX12_kinds_33 : decode cX12_kinds 33 = .ok (.invokevirtual 203, 3) := by decide +kernel
theorem dX12_kinds_36 : decode cX12_kinds 36 = .ok (.ifCond .ne 6, 3) := by decide +kernel
theorem dX12_kinds_39 : decode cX12_kinds 39 = .ok (.bipush (-5), 2) := by decide +kernel
theorem dX12_kinds_41 : decode cX12_kinds 41 = .ok (.ireturn, 1) := by decide +kernel
theorem dX12_kinds_42 : decode cX12_kinds 42 = .ok (.iload_n 3, 1) := by decide +kernel
theorem dX12_kinds_43 : decode cX12_kinds 43 = .ok (.bipush 100, 2) := by decide +kernel
theorem dX12_kinds_45 : decode cX12_kinds 45 = .ok (.irem, 1) := by decide +kernel
theorem dX12_kinds_46 : decode cX12_kinds 46 = .ok (.istore 6, 2) := by decide +kernel
theorem dX12_kinds_48 : decode cX12_kinds 48 = .ok (.iload 6, 2) := by decide +kernel
theorem dX12_kinds_50 : decode cX12_kinds 50 = .ok (.iconst 0, 1) := by decide +kernel
theorem dX12_kinds_51 : decode cX12_kinds 51 = .ok (.iconst 1, 1) := by decide +kernel
theorem dX12_kinds_52 : decode cX12_kinds 52 = .ok (.invokestatic 120, 3) := by decide +kernel
theorem dX12_kinds_55 : decode cX12_kinds 55 = .ok (.ifCond .ne 6, 3) := by decide +kernel
theorem dX12_kinds_58 : decode cX12_kinds 58 = .ok (.bipush (-7), 2) := by decide +kernel
theorem dX12_kinds_60 : decode cX12_kinds 60 = .ok (.ireturn, 1) := by decide +kernel
theorem dX12_kinds_61 : decode cX12_kinds 61 = .ok (.aload_n 0, 1) := by decide +kernel
theorem dX12_kinds_62 : decode cX12_kinds 62 = .ok (.getfield 20, 3) := by decide +kernel
theorem dX12_kinds_65 : decode cX12_kinds 65 = .ok (.iload 5, 2) := by decide +kernel
theorem dX12_kinds_67 : decode cX12_kinds 67 = .ok (.iaload, 1) := by decide +kernel
theorem dX12_kinds_68 : decode cX12_kinds 68 = .ok (.istore 7, 2) := by decide +kernel
theorem dX12_kinds_70 : decode cX12_kinds 70 = .ok (.aload_n 0, 1) := by decide +kernel
theorem dX12_kinds_71 : decode cX12_kinds 71 = .ok (.getfield 26, 3) := by decide +kernel
theorem dX12_kinds_74 : decode cX12_kinds 74 = .ok (.iload 5, 2) := by decide +kernel
theorem dX12_kinds_76 : decode cX12_kinds 76 = .ok (.iaload, 1) := by decide +kernel
theorem dX12_kinds_77 : decode cX12_kinds 77 = .ok (.istore 8, 2) := by decide +kernel
theorem dX12_kinds_79 : decode cX12_kinds 79 = .ok (.iconst 0, 1) := by decide +kernel
theorem dX12_kinds_80 : decode cX12_kinds 80 = .ok (.istore 9, 2) := by decide +kernel
theorem dX12_kinds_82 : decode cX12_kinds 82 = .ok (.iconst 0, 1) := by decide +kernel
theorem dX12_kinds_83 : decode cX12_kinds 83 = .ok (.istore 10, 2) := by decide +kernel
theorem dX12_kinds_85 : decode cX12_kinds 85 = .ok (.iload 10, 2) := by decide +kernel
theorem dX12_kinds_87 : decode cX12_kinds 87 = .ok (.iload 6, 2) := by decide +kernel
theorem dX12_kinds_89 : decode cX12_kinds 89 = .ok (.ifCond .ne 8, 3) := by decide +kernel
theorem dX12_kinds_92 : decode cX12_kinds 92 = .ok (.bipush 6, 2) := by decide +kernel
theorem dX12_kinds_94 : decode cX12_kinds 94 = .ok (.goto 5, 3) := by decide +kernel
theorem dX12_kinds_97 : decode cX12_kinds 97 = .ok (.bipush 9, 2) := by decide +kernel
theorem dX12_kinds_99 : decode cX12_kinds 99 = .ok (.if_icmp .ge 71, 3) := by decide +kernel
theorem dX12_kinds_102 : decode cX12_kinds 102 = .ok (.aload_n 0, 1) := by decide +kernel
theorem dX12_kinds_103 : decode cX12_kinds 103 = .ok (.getfield 20, 3) := by decide +kernel
theorem dX12_kinds_106 : decode cX12_kinds 106 = .ok (.iload 5, 2) := by decide +kernel
theorem dX12_kinds_108 : decode cX12_kinds 108 = .ok (.iload 6, 2) := by decide +kernel
theorem dX12_kinds_110 : decode cX12_kinds 110 = .ok (.ifCond .ne 8, 3) := by decide +kernel
theorem dX12_kinds_113 : decode cX12_kinds 113 = .ok (.iload 10, 2) := by decide +kernel
theorem dX12_kinds_115 : decode cX12_kinds 115 = .ok (.goto 5, 3) := by decide +kernel
theorem dX12_kinds_118 : decode cX12_kinds 118 = .ok (.iload 7, 2) := by decide +kernel
theorem dX12_kinds_120 : decode cX12_kinds 120 = .ok (.iastore, 1) := by decide +kernel
theorem dX12_kinds_121 : decode cX12_kinds 121 = .ok (.aload_n 0, 1) := by decide +kernel
theorem dX12_kinds_122 : decode cX12_kinds 122 = .ok (.getfield 26, 3) := by decide +kernel
theorem dX12_kinds_125 : decode cX12_kinds 125 = .ok (.iload 5, 2) := by decide +kernel
theorem dX12_kinds_127 : decode cX12_kinds 127 = .ok (.iload 6, 2) := by decide +kernel
theorem dX12_kinds_129 : decode cX12_kinds 129 = .ok (.iconst 1, 1) := by decide +kernel
theorem dX12_kinds_130 : decode cX12_kinds 130 = .ok (.if_icmp .ne 8, 3) := by decide +kernel
theorem dX12_kinds_133 : decode cX12_kinds 133 = .ok (.iload 10, 2) := by decide +kernel
theorem dX12_kinds_135 : decode cX12_kinds 135 = .ok (.goto 5, 3) := by decide +kernel
theorem dX12_kinds_138 : decode cX12_kinds 138 = .ok (.iload 8, 2) := by decide +kernel
theorem dX12_kinds_140 : decode cX12_kinds 140 = .ok (.iastore, 1) := by decide +kernel
theorem dX12_kinds_141 : decode cX12_kinds 141 = .ok (.iload 9, 2) := by decide +kernel
theorem dX12_kinds_143 : decode cX12_kinds 143 = .ok (.aload_n 0, 1) := by decide +kernel
theorem dX12_kinds_144 : decode cX12_kinds 144 = .ok (.iload_n 1, 1) := by decide +kernel
theorem dX12_kinds_145 : decode cX12_kinds 145 = .ok (.iload_n 2, 1) := by decide +kernel
theorem dX12_kinds_146 : decode cX12_kinds 146 = .ok (.invokevirtual 314, 3) := by decide +kernel
theorem dX12_kinds_149 : decode cX12_kinds 149 = .ok (.iconst (-1), 1) := by decide +kernel
theorem dX12_kinds_150 : decode cX12_kinds 150 = .ok (.if_icmp .ne 10, 3) := by decide +kernel
theorem dX12_kinds_153 : decode cX12_kinds 153 = .ok (.iconst 1, 1) := by decide +kernel
theorem dX12_kinds_154 : decode cX12_kinds 154 = .ok (.iload 10, 2) := by decide +kernel
theorem dX12_kinds_156 : decode cX12_kinds 156 = .ok (.ishl, 1) := by decide +kernel
theorem dX12_kinds_157 : decode cX12_kinds 157 = .ok (.goto 4, 3) := by decide +kernel
theorem dX12_kinds_160 : decode cX12_kinds 160 = .ok (.iconst 0, 1) := by decide +kernel
theorem dX12_kinds_161 : decode cX12_kinds 161 = .ok (.ior, 1) := by decide +kernel
theorem dX12_kinds_162 : decode cX12_kinds 162 = .ok (.istore 9, 2) := by decide +kernel
theorem dX12_kinds_164 : decode cX12_kinds 164 = .ok (.iinc 10 1, 3) := by decide +kernel
theorem dX12_kinds_167 : decode cX12_kinds 167 = .ok (.goto (-82), 3) := by decide +kernel
theorem dX12_kinds_170 : decode cX12_kinds 170 = .ok (.aload_n 0, 1) := by decide +kernel
theorem dX12_kinds_171 : decode cX12_kinds 171 = .ok (.getfield 20, 3) := by decide +kernel
theorem dX12_kinds_174 : decode cX12_kinds 174 = .ok (.iload 5, 2) := by decide +kernel
theorem dX12_kinds_176 : decode cX12_kinds 176 = .ok (.iload 7, 2) := by decide +kernel
theorem dX12_kinds_178 : decode cX12_kinds 178 = .ok (.iastore, 1) := by decide +kernel
theorem dX12_kinds_179 : decode cX12_kinds 179 = .ok (.aload_n 0, 1) := by decide +kernel
theorem dX12_kinds_180 : decode cX12_kinds 180 = .ok (.getfield 26, 3) := by decide +kernel
theorem dX12_kinds_183 : decode cX12_kinds 183 = .ok (.iload 5, 2) := by decide +kernel
theorem dX12_kinds_185 : decode cX12_kinds 185 = .ok (.iload 8, 2) := by decide +kernel
theorem dX12_kinds_187 : decode cX12_kinds 187 = .ok (.iastore, 1) := by decide +kernel
theorem dX12_kinds_188 : decode cX12_kinds 188 = .ok (.iload 9, 2) := by decide +kernel
theorem dX12_kinds_190 : decode cX12_kinds 190 = .ok (.ireturn, 1) := by decide +kernel
theorem dX12_laws_0 : decode cX12_laws 0 = .ok (.aload_n 0, 1) := by decide +kernel
theorem dX12_laws_1 : decode cX12_laws 1 = .ok (.iload_n 1, 1) := by decide +kernel
theorem dX12_laws_2 : decode cX12_laws 2 = .ok (.iload_n 2, 1) := by decide +kernel
theorem dX12_laws_3 : decode cX12_laws 3 = .ok (.invokevirtual 311, 3) := by decide +kernel
theorem dX12_laws_6 : decode cX12_laws 6 = .ok (.istore_n 3, 1) := by decide +kernel
theorem dX12_laws_7 : decode cX12_laws 7 = .ok (.iload_n 3, 1) := by decide +kernel
theorem dX12_laws_8 : decode cX12_laws 8 = .ok (.ifCond .eq 5, 3) := by decide +kernel
theorem dX12_laws_11 : decode cX12_laws 11 = .ok (.iload_n 3, 1) := by decide +kernel
theorem dX12_laws_12 : decode cX12_laws 12 = .ok (.ireturn, 1) := by decide +kernel
theorem dX12_laws_13 : decode cX12_laws 13 = .ok (.aload_n 0, 1) := by decide +kernel
theorem dX12_laws_14 : decode cX12_laws 14 = .ok (.getfield 127, 3) := by decide +kernel
theorem dX12_laws_17 : decode cX12_laws 17 = .ok (.istore 4, 2) := by decide +kernel
theorem dX12_laws_19 : decode cX12_laws 19 = .ok (.iconst 0, 1) := by decide +kernel
theorem dX12_laws_20 : decode cX12_laws 20 = .ok (.istore 5, 2) := by decide +kernel
theorem dX12_laws_22 : decode cX12_laws 22 = .ok (.iconst 0, 1) := by decide +kernel
theorem dX12_laws_23 : decode cX12_laws 23 = .ok (.istore 6, 2) := by decide +kernel
theorem dX12_laws_25 : decode cX12_laws 25 = .ok (.iload 6, 2) := by decide +kernel
theorem dX12_laws_27 : decode cX12_laws 27 = .ok (.aload_n 0, 1) := by decide +kernel
theorem dX12_laws_28 : decode cX12_laws 28 = .ok (.getfield 124, 3) := by decide +kernel
theorem dX12_laws_31 : decode cX12_laws 31 = .ok (.if_icmp .ge 38, 3) := by decide +kernel
theorem dX12_laws_34 : decode cX12_laws 34 = .ok (.aload_n 0, 1) := by decide +kernel
theorem dX12_laws_35 : decode cX12_laws 35 = .ok (.iload 6, 2) := by decide +kernel
theorem dX12_laws_37 : decode cX12_laws 37 = .ok (.putfield 127, 3) := by decide +kernel
theorem dX12_laws_40 : decode cX12_laws 40 = .ok (.iload 5, 2) := by decide +kernel
theorem dX12_laws_42 : decode cX12_laws 42 = .ok (.aload_n 0, 1) := by decide +kernel
theorem dX12_laws_43 : decode cX12_laws 43 = .ok (.iload_n 1, 1) := by decide +kernel
theorem dX12_laws_44 : decode cX12_laws 44 = .ok (.iload_n 2, 1) := by decide +kernel
theorem dX12_laws_45 : decode cX12_laws 45 = .ok (.invokevirtual 314, 3) := by decide +kernel
theorem dX12_laws_48 : decode cX12_laws 48 = .ok (.iconst (-1), 1) := by decide +kernel
theorem dX12_laws_49 : decode cX12_laws 49 = .ok (.if_icmp .ne 10, 3) := by decide +kernel
theorem dX12_laws_52 : decode cX12_laws 52 = .ok (.iconst 1, 1) := by decide +kernel
theorem dX12_laws_53 : decode cX12_laws 53 = .ok (.iload 6, 2) := by decide +kernel
theorem dX12_laws_55 : decode cX12_laws 55 = .ok (.ishl, 1) := by decide +kernel
theorem dX12_laws_56 : decode cX12_laws 56 = .ok (.goto 4, 3) := by decide +kernel
theorem dX12_laws_59 : decode cX12_laws 59 = .ok (.iconst 0, 1) := by decide +kernel
theorem dX12_laws_60 : decode cX12_laws 60 = .ok (.ior, 1) := by decide +kernel
theorem dX12_laws_61 : decode cX12_laws 61 = .ok (.istore 5, 2) := by decide +kernel
theorem dX12_laws_63 : decode cX12_laws 63 = .ok (.iinc 6 1, 3) := by decide +kernel
theorem dX12_laws_66 : decode cX12_laws 66 = .ok (.goto (-41), 3) := by decide +kernel
theorem dX12_laws_69 : decode cX12_laws 69 = .ok (.aload_n 0, 1) := by decide +kernel
theorem dX12_laws_70 : decode cX12_laws 70 = .ok (.iload 4, 2) := by decide +kernel
theorem dX12_laws_72 : decode cX12_laws 72 = .ok (.putfield 127, 3) := by decide +kernel
theorem dX12_laws_75 : decode cX12_laws 75 = .ok (.iload 5, 2) := by decide +kernel
theorem dX12_laws_77 : decode cX12_laws 77 = .ok (.ireturn, 1) := by decide +kernel
theorem dX12_film_0 : decode cX12_film 0 = .ok (.iload_n 1, 1) := by decide +kernel
theorem dX12_film_1 : decode cX12_film 1 = .ok (.iconst 0, 1) := by decide +kernel
theorem dX12_film_2 : decode cX12_film 2 = .ok (.iconst 3, 1) := by decide +kernel
theorem dX12_film_3 : decode cX12_film 3 = .ok (.invokestatic 120, 3) := by decide +kernel
theorem dX12_film_6 : decode cX12_film 6 = .ok (.ifCond .eq 10, 3) := by decide +kernel
theorem dX12_film_9 : decode cX12_film 9 = .ok (.iload_n 2, 1) := by decide +kernel
theorem dX12_film_10 : decode cX12_film 10 = .ok (.invokestatic 257, 3) := by decide +kernel
theorem dX12_film_13 : decode cX12_film 13 = .ok (.ifCond .ne 6, 3) := by decide +kernel
theorem dX12_film_16 : decode cX12_film 16 = .ok (.bipush (-2), 2) := by decide +kernel
theorem dX12_film_18 : decode cX12_film 18 = .ok (.ireturn, 1) := by decide +kernel
theorem dX12_film_19 : decode cX12_film 19 = .ok (.aload_n 0, 1) := by decide +kernel
theorem dX12_film_20 : decode cX12_film 20 = .ok (.iload_n 2, 1) := by decide +kernel
theorem dX12_film_21 : decode cX12_film 21 = .ok (.invokevirtual 260, 3) := by decide +kernel
theorem dX12_film_24 : decode cX12_film 24 = .ok (.aload_n 0, 1) := by decide +kernel
theorem dX12_film_25 : decode cX12_film 25 = .ok (.getfield 41, 3) := by decide +kernel
theorem dX12_film_28 : decode cX12_film 28 = .ok (.iload_n 1, 1) := by decide +kernel
theorem dX12_film_29 : decode cX12_film 29 = .ok (.iconst 1, 1) := by decide +kernel
theorem dX12_film_30 : decode cX12_film 30 = .ok (.iastore, 1) := by decide +kernel
theorem dX12_film_31 : decode cX12_film 31 = .ok (.aload_n 0, 1) := by decide +kernel
theorem dX12_film_32 : decode cX12_film 32 = .ok (.getfield 44, 3) := by decide +kernel
theorem dX12_film_35 : decode cX12_film 35 = .ok (.iload_n 1, 1) := by decide +kernel
theorem dX12_film_36 : decode cX12_film 36 = .ok (.bipush 9, 2) := by decide +kernel
theorem dX12_film_38 : decode cX12_film 38 = .ok (.iastore, 1) := by decide +kernel
theorem dX12_film_39 : decode cX12_film 39 = .ok (.iconst 0, 1) := by decide +kernel
theorem dX12_film_40 : decode cX12_film 40 = .ok (.istore_n 3, 1) := by decide +kernel
theorem dX12_film_41 : decode cX12_film 41 = .ok (.iload_n 3, 1) := by decide +kernel
theorem dX12_film_42 : decode cX12_film 42 = .ok (.bipush 40, 2) := by decide +kernel
theorem dX12_film_44 : decode cX12_film 44 = .ok (.if_icmp .ge 42, 3) := by decide +kernel
theorem dX12_film_47 : decode cX12_film 47 = .ok (.aload_n 0, 1) := by decide +kernel
theorem dX12_film_48 : decode cX12_film 48 = .ok (.getfield 47, 3) := by decide +kernel
theorem dX12_film_51 : decode cX12_film 51 = .ok (.bipush 40, 2) := by decide +kernel
theorem dX12_film_53 : decode cX12_film 53 = .ok (.iload_n 1, 1) := by decide +kernel
theorem dX12_film_54 : decode cX12_film 54 = .ok (.imul, 1) := by decide +kernel
theorem dX12_film_55 : decode cX12_film 55 = .ok (.iload_n 3, 1) := by decide +kernel
theorem dX12_film_56 : decode cX12_film 56 = .ok (.iadd, 1) := by decide +kernel
theorem dX12_film_57 : decode cX12_film 57 = .ok (.iload_n 3, 1) := by decide +kernel
theorem dX12_film_58 : decode cX12_film 58 = .ok (.bipush 9, 2) := by decide +kernel
theorem dX12_film_60 : decode cX12_film 60 = .ok (.if_icmp .ge 18, 3) := by decide +kernel
theorem dX12_film_63 : decode cX12_film 63 = .ok (.aload_n 0, 1) := by decide +kernel
theorem dX12_film_64 : decode cX12_film 64 = .ok (.getfield 89, 3) := by decide +kernel
theorem dX12_film_67 : decode cX12_film 67 = .ok (.iload_n 3, 1) := by decide +kernel
theorem dX12_film_68 : decode cX12_film 68 = .ok (.iconst 0, 1) := by decide +kernel
theorem dX12_film_69 : decode cX12_film 69 = .ok (.bipush 8, 2) := by decide +kernel
theorem dX12_film_71 : decode cX12_film 71 = .ok (.invokestatic 200, 3) := by decide +kernel
theorem dX12_film_74 : decode cX12_film 74 = .ok (.iaload, 1) := by decide +kernel
theorem dX12_film_75 : decode cX12_film 75 = .ok (.goto 4, 3) := by decide +kernel
theorem dX12_film_78 : decode cX12_film 78 = .ok (.iconst 0, 1) := by decide +kernel
theorem dX12_film_79 : decode cX12_film 79 = .ok (.iastore, 1) := by decide +kernel
theorem dX12_film_80 : decode cX12_film 80 = .ok (.iinc 3 1, 3) := by decide +kernel
theorem dX12_film_83 : decode cX12_film 83 = .ok (.goto (-42), 3) := by decide +kernel
theorem dX12_film_86 : decode cX12_film 86 = .ok (.bipush 9, 2) := by decide +kernel
theorem dX12_film_88 : decode cX12_film 88 = .ok (.ireturn, 1) := by decide +kernel
theorem dX12_goesBy_0 : decode cX12_goesBy 0 = .ok (.iload_n 1, 1) := by decide +kernel
theorem dX12_goesBy_1 : decode cX12_goesBy 1 = .ok (.i2l, 1) := by decide +kernel
theorem dX12_goesBy_2 : decode cX12_goesBy 2 = .ok (.lconst 1, 1) := by decide +kernel
theorem dX12_goesBy_3 : decode cX12_goesBy 3 = .ok (.ladd, 1) := by decide +kernel
theorem dX12_goesBy_4 : decode cX12_goesBy 4 = .ok (.lstore_n 3, 1) := by decide +kernel
theorem dX12_goesBy_5 : decode cX12_goesBy 5 = .ok (.iconst 0, 1) := by decide +kernel
theorem dX12_goesBy_6 : decode cX12_goesBy 6 = .ok (.istore 5, 2) := by decide +kernel
theorem dX12_goesBy_8 : decode cX12_goesBy 8 = .ok (.iload 5, 2) := by decide +kernel
theorem dX12_goesBy_10 : decode cX12_goesBy 10 = .ok (.bipush 9, 2) := by decide +kernel
theorem dX12_goesBy_12 : decode cX12_goesBy 12 = .ok (.if_icmp .ge 46, 3) := by decide +kernel
theorem dX12_goesBy_15 : decode cX12_goesBy 15 = .ok (.aload_n 0, 1) := by decide +kernel
theorem dX12_goesBy_16 : decode cX12_goesBy 16 = .ok (.getfield 107, 3) := by decide +kernel
theorem dX12_goesBy_19 : decode cX12_goesBy 19 = .ok (.iload 5, 2) := by decide +kernel
theorem dX12_goesBy_21 : decode cX12_goesBy 21 = .ok (.aload_n 0, 1) := by decide +kernel
theorem dX12_goesBy_22 : decode cX12_goesBy 22 = .ok (.getfield 13, 3) := by decide +kernel
theorem dX12_goesBy_25 : decode cX12_goesBy 25 = .ok (.iload 5, 2) := by decide +kernel
theorem dX12_goesBy_27 : decode cX12_goesBy 27 = .ok (.iaload, 1) := by decide +kernel
theorem dX12_goesBy_28 : decode cX12_goesBy 28 = .ok (.iastore, 1) := by decide +kernel
theorem dX12_goesBy_29 : decode cX12_goesBy 29 = .ok (.lload_n 3, 1) := by decide +kernel
theorem dX12_goesBy_30 : decode cX12_goesBy 30 = .ok (.ldc2_w 317, 3) := by decide +kernel
theorem dX12_goesBy_33 : decode cX12_goesBy 33 = .ok (.lmul, 1) := by decide +kernel
theorem dX12_goesBy_34 : decode cX12_goesBy 34 = .ok (.ldc2_w 319, 3) := by decide +kernel
theorem dX12_goesBy_37 : decode cX12_goesBy 37 = .ok (.lrem, 1) := by decide +kernel
theorem dX12_goesBy_38 : decode cX12_goesBy 38 = .ok (.lstore_n 3, 1) := by decide +kernel
theorem dX12_goesBy_39 : decode cX12_goesBy 39 = .ok (.aload_n 0, 1) := by decide +kernel
theorem dX12_goesBy_40 : decode cX12_goesBy 40 = .ok (.getfield 13, 3) := by decide +kernel
theorem dX12_goesBy_43 : decode cX12_goesBy 43 = .ok (.iload 5, 2) := by decide +kernel
theorem dX12_goesBy_45 : decode cX12_goesBy 45 = .ok (.lload_n 3, 1) := by decide +kernel
theorem dX12_goesBy_46 : decode cX12_goesBy 46 = .ok (.ldc2_w 321, 3) := by decide +kernel
theorem dX12_goesBy_49 : decode cX12_goesBy 49 = .ok (.lrem, 1) := by decide +kernel
theorem dX12_goesBy_50 : decode cX12_goesBy 50 = .ok (.l2i, 1) := by decide +kernel
theorem dX12_goesBy_51 : decode cX12_goesBy 51 = .ok (.iastore, 1) := by decide +kernel
theorem dX12_goesBy_52 : decode cX12_goesBy 52 = .ok (.iinc 5 1, 3) := by decide +kernel
theorem dX12_goesBy_55 : decode cX12_goesBy 55 = .ok (.goto (-47), 3) := by decide +kernel
theorem dX12_goesBy_58 : decode cX12_goesBy 58 = .ok (.aload_n 0, 1) := by decide +kernel
theorem dX12_goesBy_59 : decode cX12_goesBy 59 = .ok (.iload_n 2, 1) := by decide +kernel
theorem dX12_goesBy_60 : decode cX12_goesBy 60 = .ok (.invokevirtual 260, 3) := by decide +kernel
theorem dX12_goesBy_63 : decode cX12_goesBy 63 = .ok (.iconst 0, 1) := by decide +kernel
theorem dX12_goesBy_64 : decode cX12_goesBy 64 = .ok (.istore 5, 2) := by decide +kernel
theorem dX12_goesBy_66 : decode cX12_goesBy 66 = .ok (.iload 5, 2) := by decide +kernel
theorem dX12_goesBy_68 : decode cX12_goesBy 68 = .ok (.bipush 9, 2) := by decide +kernel
theorem dX12_goesBy_70 : decode cX12_goesBy 70 = .ok (.if_icmp .ge 23, 3) := by decide +kernel
theorem dX12_goesBy_73 : decode cX12_goesBy 73 = .ok (.aload_n 0, 1) := by decide +kernel
theorem dX12_goesBy_74 : decode cX12_goesBy 74 = .ok (.getfield 13, 3) := by decide +kernel
theorem dX12_goesBy_77 : decode cX12_goesBy 77 = .ok (.iload 5, 2) := by decide +kernel
theorem dX12_goesBy_79 : decode cX12_goesBy 79 = .ok (.aload_n 0, 1) := by decide +kernel
theorem dX12_goesBy_80 : decode cX12_goesBy 80 = .ok (.getfield 107, 3) := by decide +kernel
theorem dX12_goesBy_83 : decode cX12_goesBy 83 = .ok (.iload 5, 2) := by decide +kernel
theorem dX12_goesBy_85 : decode cX12_goesBy 85 = .ok (.iaload, 1) := by decide +kernel
theorem dX12_goesBy_86 : decode cX12_goesBy 86 = .ok (.iastore, 1) := by decide +kernel
theorem dX12_goesBy_87 : decode cX12_goesBy 87 = .ok (.iinc 5 1, 3) := by decide +kernel
theorem dX12_goesBy_90 : decode cX12_goesBy 90 = .ok (.goto (-24), 3) := by decide +kernel
theorem dX12_goesBy_93 : decode cX12_goesBy 93 = .ok (.return_, 1) := by decide +kernel
theorem dX12_drawn_0 : decode cX12_drawn 0 = .ok (.iload_n 1, 1) := by decide +kernel
theorem dX12_drawn_1 : decode cX12_drawn 1 = .ok (.iconst 0, 1) := by decide +kernel
theorem dX12_drawn_2 : decode cX12_drawn 2 = .ok (.ldc_w 323, 3) := by decide +kernel
theorem dX12_drawn_5 : decode cX12_drawn 5 = .ok (.invokestatic 120, 3) := by decide +kernel
theorem dX12_drawn_8 : decode cX12_drawn 8 = .ok (.ifCond .eq 12, 3) := by decide +kernel
theorem dX12_drawn_11 : decode cX12_drawn 11 = .ok (.iload_n 2, 1) := by decide +kernel
theorem dX12_drawn_12 : decode cX12_drawn 12 = .ok (.iconst 0, 1) := by decide +kernel
theorem dX12_drawn_13 : decode cX12_drawn 13 = .ok (.iconst 2, 1) := by decide +kernel
theorem dX12_drawn_14 : decode cX12_drawn 14 = .ok (.invokestatic 120, 3) := by decide +kernel
theorem dX12_drawn_17 : decode cX12_drawn 17 = .ok (.ifCond .ne 6, 3) := by decide +kernel
theorem dX12_drawn_20 : decode cX12_drawn 20 = .ok (.bipush (-2), 2) := by decide +kernel
theorem dX12_drawn_22 : decode cX12_drawn 22 = .ok (.ireturn, 1) := by decide +kernel
theorem dX12_drawn_23 : decode cX12_drawn 23 = .ok (.aload_n 0, 1) := by decide +kernel
theorem dX12_drawn_24 : decode cX12_drawn 24 = .ok (.iload_n 1, 1) := by decide +kernel
theorem dX12_drawn_25 : decode cX12_drawn 25 = .ok (.sipush 600, 3) := by decide +kernel
theorem dX12_drawn_28 : decode cX12_drawn 28 = .ok (.invokevirtual 324, 3) := by decide +kernel
theorem dX12_drawn_31 : decode cX12_drawn 31 = .ok (.iload_n 2, 1) := by decide +kernel
theorem dX12_drawn_32 : decode cX12_drawn 32 = .ok (.ifCond .ne 10, 3) := by decide +kernel
theorem dX12_drawn_35 : decode cX12_drawn 35 = .ok (.aload_n 0, 1) := by decide +kernel
theorem dX12_drawn_36 : decode cX12_drawn 36 = .ok (.getfield 213, 3) := by decide +kernel
theorem dX12_drawn_39 : decode cX12_drawn 39 = .ok (.goto 8, 3) := by decide +kernel
theorem dX12_drawn_42 : decode cX12_drawn 42 = .ok (.aload_n 0, 1) := by decide +kernel
theorem dX12_drawn_43 : decode cX12_drawn 43 = .ok (.iload_n 2, 1) := by decide +kernel
theorem dX12_drawn_44 : decode cX12_drawn 44 = .ok (.invokevirtual 263, 3) := by decide +kernel
theorem dX12_drawn_47 : decode cX12_drawn 47 = .ok (.ireturn, 1) := by decide +kernel
theorem dX12_lowest_0 : decode cX12_lowest 0 = .ok (.lload_n 0, 1) := by decide +kernel
theorem dX12_lowest_1 : decode cX12_lowest 1 = .ok (.lconst 0, 1) := by decide +kernel
theorem dX12_lowest_2 : decode cX12_lowest 2 = .ok (.lcmp, 1) := by decide +kernel
theorem dX12_lowest_3 : decode cX12_lowest 3 = .ok (.ifCond .ne 7, 3) := by decide +kernel
theorem dX12_lowest_6 : decode cX12_lowest 6 = .ok (.iload 4, 2) := by decide +kernel
theorem dX12_lowest_8 : decode cX12_lowest 8 = .ok (.i2l, 1) := by decide +kernel
theorem dX12_lowest_9 : decode cX12_lowest 9 = .ok (.lreturn, 1) := by decide +kernel
theorem dX12_lowest_10 : decode cX12_lowest 10 = .ok (.lload_n 0, 1) := by decide +kernel
theorem dX12_lowest_11 : decode cX12_lowest 11 = .ok (.lstore 5, 2) := by decide +kernel
theorem dX12_lowest_13 : decode cX12_lowest 13 = .ok (.lload_n 2, 1) := by decide +kernel
theorem dX12_lowest_14 : decode cX12_lowest 14 = .ok (.lstore 7, 2) := by decide +kernel
theorem dX12_lowest_16 : decode cX12_lowest 16 = .ok (.lload 7, 2) := by decide +kernel
theorem dX12_lowest_18 : decode cX12_lowest 18 = .ok (.lconst 0, 1) := by decide +kernel
theorem dX12_lowest_19 : decode cX12_lowest 19 = .ok (.lcmp, 1) := by decide +kernel
theorem dX12_lowest_20 : decode cX12_lowest 20 = .ok (.ifCond .eq 21, 3) := by decide +kernel
theorem dX12_lowest_23 : decode cX12_lowest 23 = .ok (.lload 5, 2) := by decide +kernel
theorem dX12_lowest_25 : decode cX12_lowest 25 = .ok (.lload 7, 2) := by decide +kernel
theorem dX12_lowest_27 : decode cX12_lowest 27 = .ok (.lrem, 1) := by decide +kernel
theorem dX12_lowest_28 : decode cX12_lowest 28 = .ok (.lstore 9, 2) := by decide +kernel
theorem dX12_lowest_30 : decode cX12_lowest 30 = .ok (.lload 7, 2) := by decide +kernel
theorem dX12_lowest_32 : decode cX12_lowest 32 = .ok (.lstore 5, 2) := by decide +kernel
theorem dX12_lowest_34 : decode cX12_lowest 34 = .ok (.lload 9, 2) := by decide +kernel
theorem dX12_lowest_36 : decode cX12_lowest 36 = .ok (.lstore 7, 2) := by decide +kernel
theorem dX12_lowest_38 : decode cX12_lowest 38 = .ok (.goto (-22), 3) := by decide +kernel
theorem dX12_lowest_41 : decode cX12_lowest 41 = .ok (.iload 4, 2) := by decide +kernel
theorem dX12_lowest_43 : decode cX12_lowest 43 = .ok (.ifCond .ne 7, 3) := by decide +kernel
theorem dX12_lowest_46 : decode cX12_lowest 46 = .ok (.lload_n 0, 1) := by decide +kernel
theorem dX12_lowest_47 : decode cX12_lowest 47 = .ok (.goto 4, 3) := by decide +kernel
theorem dX12_lowest_50 : decode cX12_lowest 50 = .ok (.lload_n 2, 1) := by decide +kernel
theorem dX12_lowest_51 : decode cX12_lowest 51 = .ok (.lload 5, 2) := by decide +kernel
theorem dX12_lowest_53 : decode cX12_lowest 53 = .ok (.ldiv, 1) := by decide +kernel
theorem dX12_lowest_54 : decode cX12_lowest 54 = .ok (.lreturn, 1) := by decide +kernel
theorem dX12_odds_0 : decode cX12_odds 0 = .ok (.iload_n 1, 1) := by decide +kernel
theorem dX12_odds_1 : decode cX12_odds 1 = .ok (.iconst 0, 1) := by decide +kernel
theorem dX12_odds_2 : decode cX12_odds 2 = .ok (.ldc_w 323, 3) := by decide +kernel
theorem dX12_odds_5 : decode cX12_odds 5 = .ok (.invokestatic 120, 3) := by decide +kernel
theorem dX12_odds_8 : decode cX12_odds 8 = .ok (.ifCond .eq 30, 3) := by decide +kernel
theorem dX12_odds_11 : decode cX12_odds 11 = .ok (.iload_n 2, 1) := by decide +kernel
theorem dX12_odds_12 : decode cX12_odds 12 = .ok (.iconst 1, 1) := by decide +kernel
theorem dX12_odds_13 : decode cX12_odds 13 = .ok (.bipush 10, 2) := by decide +kernel
theorem dX12_odds_15 : decode cX12_odds 15 = .ok (.invokestatic 120, 3) := by decide +kernel
theorem dX12_odds_18 : decode cX12_odds 18 = .ok (.ifCond .eq 20, 3) := by decide +kernel
theorem dX12_odds_21 : decode cX12_odds 21 = .ok (.iload_n 3, 1) := by decide +kernel
theorem dX12_odds_22 : decode cX12_odds 22 = .ok (.invokestatic 257, 3) := by decide +kernel
theorem dX12_odds_25 : decode cX12_odds 25 = .ok (.ifCond .eq 13, 3) := by decide +kernel
theorem dX12_odds_28 : decode cX12_odds 28 = .ok (.iload 4, 2) := by decide +kernel
theorem dX12_odds_30 : decode cX12_odds 30 = .ok (.iconst 0, 1) := by decide +kernel
theorem dX12_odds_31 : decode cX12_odds 31 = .ok (.iconst 1, 1) := by decide +kernel
theorem dX12_odds_32 : decode cX12_odds 32 = .ok (.invokestatic 120, 3) := by decide +kernel
theorem dX12_odds_35 : decode cX12_odds 35 = .ok (.ifCond .ne 7, 3) := by decide +kernel
theorem dX12_odds_38 : decode cX12_odds 38 = .ok (.ldc2_w 327, 3) := by decide +kernel
theorem dX12_odds_41 : decode cX12_odds 41 = .ok (.lreturn, 1) := by decide +kernel
theorem dX12_odds_42 : decode cX12_odds 42 = .ok (.lconst 0, 1) := by decide +kernel
theorem dX12_odds_43 : decode cX12_odds 43 = .ok (.lstore 5, 2) := by decide +kernel
theorem dX12_odds_45 : decode cX12_odds 45 = .ok (.iconst 0, 1) := by decide +kernel
theorem dX12_odds_46 : decode cX12_odds 46 = .ok (.istore 7, 2) := by decide +kernel
theorem dX12_odds_48 : decode cX12_odds 48 = .ok (.iconst 0, 1) := by decide +kernel
theorem dX12_odds_49 : decode cX12_odds 49 = .ok (.istore 8, 2) := by decide +kernel
theorem dX12_odds_51 : decode cX12_odds 51 = .ok (.iload 8, 2) := by decide +kernel
theorem dX12_odds_53 : decode cX12_odds 53 = .ok (.iload_n 2, 1) := by decide +kernel
theorem dX12_odds_54 : decode cX12_odds 54 = .ok (.if_icmp .ge 38, 3) := by decide +kernel
theorem dX12_odds_57 : decode cX12_odds 57 = .ok (.aload_n 0, 1) := by decide +kernel
theorem dX12_odds_58 : decode cX12_odds 58 = .ok (.iload_n 1, 1) := by decide +kernel
theorem dX12_odds_59 : decode cX12_odds 59 = .ok (.iload 8, 2) := by decide +kernel
theorem dX12_odds_61 : decode cX12_odds 61 = .ok (.iadd, 1) := by decide +kernel
theorem dX12_odds_62 : decode cX12_odds 62 = .ok (.iload_n 3, 1) := by decide +kernel
theorem dX12_odds_63 : decode cX12_odds 63 = .ok (.invokevirtual 324, 3) := by decide +kernel
theorem dX12_odds_66 : decode cX12_odds 66 = .ok (.lload 5, 2) := by decide +kernel
theorem dX12_odds_68 : decode cX12_odds 68 = .ok (.aload_n 0, 1) := by decide +kernel
theorem dX12_odds_69 : decode cX12_odds 69 = .ok (.iconst 0, 1) := by decide +kernel
theorem dX12_odds_70 : decode cX12_odds 70 = .ok (.invokevirtual 263, 3) := by decide +kernel
theorem dX12_odds_73 : decode cX12_odds 73 = .ok (.i2l, 1) := by decide +kernel
theorem dX12_odds_74 : decode cX12_odds 74 = .ok (.ladd, 1) := by decide +kernel
theorem dX12_odds_75 : decode cX12_odds 75 = .ok (.lstore 5, 2) := by decide +kernel
theorem dX12_odds_77 : decode cX12_odds 77 = .ok (.iload 7, 2) := by decide +kernel
theorem dX12_odds_79 : decode cX12_odds 79 = .ok (.aload_n 0, 1) := by decide +kernel
theorem dX12_odds_80 : decode cX12_odds 80 = .ok (.getfield 213, 3) := by decide +kernel
theorem dX12_odds_83 : decode cX12_odds 83 = .ok (.iadd, 1) := by decide +kernel
theorem dX12_odds_84 : decode cX12_odds 84 = .ok (.istore 7, 2) := by decide +kernel
theorem dX12_odds_86 : decode cX12_odds 86 = .ok (.iinc 8 1, 3) := by decide +kernel
theorem dX12_odds_89 : decode cX12_odds 89 = .ok (.goto (-38), 3) := by decide +kernel
theorem dX12_odds_92 : decode cX12_odds 92 = .ok (.iload 7, 2) := by decide +kernel
theorem dX12_odds_94 : decode cX12_odds 94 = .ok (.ifCond .ne 9, 3) := by decide +kernel
theorem dX12_odds_97 : decode cX12_odds 97 = .ok (.ldc2_w 327, 3) := by decide +kernel
theorem dX12_odds_100 : decode cX12_odds 100 = .ok (.goto 13, 3) := by decide +kernel
theorem dX12_odds_103 : decode cX12_odds 103 = .ok (.lload 5, 2) := by decide +kernel
theorem dX12_odds_105 : decode cX12_odds 105 = .ok (.iload 7, 2) := by decide +kernel
theorem dX12_odds_107 : decode cX12_odds 107 = .ok (.i2l, 1) := by decide +kernel
theorem dX12_odds_108 : decode cX12_odds 108 = .ok (.iload 4, 2) := by decide +kernel
theorem dX12_odds_110 : decode cX12_odds 110 = .ok (.invokestatic 329, 3) := by decide +kernel
theorem dX12_odds_113 : decode cX12_odds 113 = .ok (.lreturn, 1) := by decide +kernel
theorem dX12_image_0 : decode cX12_image 0 = .ok (.aload_n 0, 1) := by decide +kernel
theorem dX12_image_1 : decode cX12_image 1 = .ok (.iconst 1, 1) := by decide +kernel
theorem dX12_image_2 : decode cX12_image 2 = .ok (.putfield 333, 3) := by decide +kernel
theorem dX12_image_5 : decode cX12_image 5 = .ok (.aload_n 0, 1) := by decide +kernel
theorem dX12_image_6 : decode cX12_image 6 = .ok (.aload_n 0, 1) := by decide +kernel
theorem dX12_image_7 : decode cX12_image 7 = .ok (.getfield 117, 3) := by decide +kernel
theorem dX12_image_10 : decode cX12_image 10 = .ok (.putfield 337, 3) := by decide +kernel
theorem dX12_image_13 : decode cX12_image 13 = .ok (.aload_n 0, 1) := by decide +kernel
theorem dX12_image_14 : decode cX12_image 14 = .ok (.aload_n 0, 1) := by decide +kernel
theorem dX12_image_15 : decode cX12_image 15 = .ok (.getfield 16, 3) := by decide +kernel
theorem dX12_image_18 : decode cX12_image 18 = .ok (.putfield 340, 3) := by decide +kernel
theorem dX12_image_21 : decode cX12_image 21 = .ok (.aload_n 0, 1) := by decide +kernel
theorem dX12_image_22 : decode cX12_image 22 = .ok (.aload_n 0, 1) := by decide +kernel
theorem dX12_image_23 : decode cX12_image 23 = .ok (.getfield 127, 3) := by decide +kernel
theorem dX12_image_26 : decode cX12_image 26 = .ok (.putfield 343, 3) := by decide +kernel
theorem dX12_image_29 : decode cX12_image 29 = .ok (.iconst 0, 1) := by decide +kernel
theorem dX12_image_30 : decode cX12_image 30 = .ok (.istore_n 1, 1) := by decide +kernel
theorem dX12_image_31 : decode cX12_image 31 = .ok (.iload_n 1, 1) := by decide +kernel
theorem dX12_image_32 : decode cX12_image 32 = .ok (.bipush 9, 2) := by decide +kernel
theorem dX12_image_34 : decode cX12_image 34 = .ok (.if_icmp .ge 36, 3) := by decide +kernel
theorem dX12_image_37 : decode cX12_image 37 = .ok (.aload_n 0, 1) := by decide +kernel
theorem dX12_image_38 : decode cX12_image 38 = .ok (.getfield 38, 3) := by decide +kernel
theorem dX12_image_41 : decode cX12_image 41 = .ok (.iload_n 1, 1) := by decide +kernel
theorem dX12_image_42 : decode cX12_image 42 = .ok (.aload_n 0, 1) := by decide +kernel
theorem dX12_image_43 : decode cX12_image 43 = .ok (.getfield 7, 3) := by decide +kernel
theorem dX12_image_46 : decode cX12_image 46 = .ok (.iload_n 1, 1) := by decide +kernel
theorem dX12_image_47 : decode cX12_image 47 = .ok (.iaload, 1) := by decide +kernel
theorem dX12_image_48 : decode cX12_image 48 = .ok (.iastore, 1) := by decide +kernel
theorem dX12_image_49 : decode cX12_image 49 = .ok (.aload_n 0, 1) := by decide +kernel
theorem dX12_image_50 : decode cX12_image 50 = .ok (.getfield 38, 3) := by decide +kernel
theorem dX12_image_53 : decode cX12_image 53 = .ok (.bipush 9, 2) := by decide +kernel
theorem dX12_image_55 : decode cX12_image 55 = .ok (.iload_n 1, 1) := by decide +kernel
theorem dX12_image_56 : decode cX12_image 56 = .ok (.iadd, 1) := by decide +kernel
theorem dX12_image_57 : decode cX12_image 57 = .ok (.aload_n 0, 1) := by decide +kernel
theorem dX12_image_58 : decode cX12_image 58 = .ok (.getfield 13, 3) := by decide +kernel
theorem dX12_image_61 : decode cX12_image 61 = .ok (.iload_n 1, 1) := by decide +kernel
theorem dX12_image_62 : decode cX12_image 62 = .ok (.iaload, 1) := by decide +kernel
theorem dX12_image_63 : decode cX12_image 63 = .ok (.iastore, 1) := by decide +kernel
theorem dX12_image_64 : decode cX12_image 64 = .ok (.iinc 1 1, 3) := by decide +kernel
theorem dX12_image_67 : decode cX12_image 67 = .ok (.goto (-36), 3) := by decide +kernel
theorem dX12_image_70 : decode cX12_image 70 = .ok (.iconst 0, 1) := by decide +kernel
theorem dX12_image_71 : decode cX12_image 71 = .ok (.istore_n 1, 1) := by decide +kernel
theorem dX12_image_72 : decode cX12_image 72 = .ok (.iload_n 1, 1) := by decide +kernel
theorem dX12_image_73 : decode cX12_image 73 = .ok (.iconst 5, 1) := by decide +kernel
theorem dX12_image_74 : decode cX12_image 74 = .ok (.if_icmp .ge 24, 3) := by decide +kernel
theorem dX12_image_77 : decode cX12_image 77 = .ok (.aload_n 0, 1) := by decide +kernel
theorem dX12_image_78 : decode cX12_image 78 = .ok (.getfield 38, 3) := by decide +kernel
theorem dX12_image_81 : decode cX12_image 81 = .ok (.bipush 18, 2) := by decide +kernel
theorem dX12_image_83 : decode cX12_image 83 = .ok (.iload_n 1, 1) := by decide +kernel
theorem dX12_image_84 : decode cX12_image 84 = .ok (.iadd, 1) := by decide +kernel
theorem dX12_image_85 : decode cX12_image 85 = .ok (.aload_n 0, 1) := by decide +kernel
theorem dX12_image_86 : decode cX12_image 86 = .ok (.getfield 26, 3) := by decide +kernel
theorem dX12_image_89 : decode cX12_image 89 = .ok (.iload_n 1, 1) := by decide +kernel
theorem dX12_image_90 : decode cX12_image 90 = .ok (.iaload, 1) := by decide +kernel
theorem dX12_image_91 : decode cX12_image 91 = .ok (.iastore, 1) := by decide +kernel
theorem dX12_image_92 : decode cX12_image 92 = .ok (.iinc 1 1, 3) := by decide +kernel
theorem dX12_image_95 : decode cX12_image 95 = .ok (.goto (-23), 3) := by decide +kernel
theorem dX12_image_98 : decode cX12_image 98 = .ok (.aload_n 0, 1) := by decide +kernel
theorem dX12_image_99 : decode cX12_image 99 = .ok (.getfield 117, 3) := by decide +kernel
theorem dX12_image_102 : decode cX12_image 102 = .ok (.ireturn, 1) := by decide +kernel
theorem dX12_back_0 : decode cX12_back 0 = .ok (.aload_n 0, 1) := by decide +kernel
theorem dX12_back_1 : decode cX12_back 1 = .ok (.getfield 333, 3) := by decide +kernel
theorem dX12_back_4 : decode cX12_back 4 = .ok (.ifCond .ne 6, 3) := by decide +kernel
theorem dX12_back_7 : decode cX12_back 7 = .ok (.bipush (-3), 2) := by decide +kernel
theorem dX12_back_9 : decode cX12_back 9 = .ok (.ireturn, 1) := by decide +kernel
theorem dX12_back_10 : decode cX12_back 10 = .ok (.aload_n 0, 1) := by decide +kernel
theorem dX12_back_11 : decode cX12_back 11 = .ok (.aload_n 0, 1) := by decide +kernel
theorem dX12_back_12 : decode cX12_back 12 = .ok (.getfield 337, 3) := by decide +kernel
theorem dX12_back_15 : decode cX12_back 15 = .ok (.putfield 117, 3) := by decide +kernel
theorem dX12_back_18 : decode cX12_back 18 = .ok (.aload_n 0, 1) := by decide +kernel
theorem dX12_back_19 : decode cX12_back 19 = .ok (.aload_n 0, 1) := by decide +kernel
theorem dX12_back_20 : decode cX12_back 20 = .ok (.getfield 340, 3) := by decide +kernel
theorem dX12_back_23 : decode cX12_back 23 = .ok (.putfield 16, 3) := by decide +kernel
theorem dX12_back_26 : decode cX12_back 26 = .ok (.aload_n 0, 1) := by decide +kernel
theorem dX12_back_27 : decode cX12_back 27 = .ok (.aload_n 0, 1) := by decide +kernel
theorem dX12_back_28 : decode cX12_back 28 = .ok (.getfield 343, 3) := by decide +kernel
theorem dX12_back_31 : decode cX12_back 31 = .ok (.putfield 127, 3) := by decide +kernel
theorem dX12_back_34 : decode cX12_back 34 = .ok (.iconst 0, 1) := by decide +kernel
theorem dX12_back_35 : decode cX12_back 35 = .ok (.istore_n 1, 1) := by decide +kernel
theorem dX12_back_36 : decode cX12_back 36 = .ok (.iload_n 1, 1) := by decide +kernel
theorem dX12_back_37 : decode cX12_back 37 = .ok (.bipush 9, 2) := by decide +kernel
theorem dX12_back_39 : decode cX12_back 39 = .ok (.if_icmp .ge 36, 3) := by decide +kernel
theorem dX12_back_42 : decode cX12_back 42 = .ok (.aload_n 0, 1) := by decide +kernel
theorem dX12_back_43 : decode cX12_back 43 = .ok (.getfield 7, 3) := by decide +kernel
theorem dX12_back_46 : decode cX12_back 46 = .ok (.iload_n 1, 1) := by decide +kernel
theorem dX12_back_47 : decode cX12_back 47 = .ok (.aload_n 0, 1) := by decide +kernel
theorem dX12_back_48 : decode cX12_back 48 = .ok (.getfield 38, 3) := by decide +kernel
theorem dX12_back_51 : decode cX12_back 51 = .ok (.iload_n 1, 1) := by decide +kernel
theorem dX12_back_52 : decode cX12_back 52 = .ok (.iaload, 1) := by decide +kernel
theorem dX12_back_53 : decode cX12_back 53 = .ok (.iastore, 1) := by decide +kernel
theorem dX12_back_54 : decode cX12_back 54 = .ok (.aload_n 0, 1) := by decide +kernel
theorem dX12_back_55 : decode cX12_back 55 = .ok (.getfield 13, 3) := by decide +kernel
theorem dX12_back_58 : decode cX12_back 58 = .ok (.iload_n 1, 1) := by decide +kernel
theorem dX12_back_59 : decode cX12_back 59 = .ok (.aload_n 0, 1) := by decide +kernel
theorem dX12_back_60 : decode cX12_back 60 = .ok (.getfield 38, 3) := by decide +kernel
theorem dX12_back_63 : decode cX12_back 63 = .ok (.bipush 9, 2) := by decide +kernel
theorem dX12_back_65 : decode cX12_back 65 = .ok (.iload_n 1, 1) := by decide +kernel
theorem dX12_back_66 : decode cX12_back 66 = .ok (.iadd, 1) := by decide +kernel
theorem dX12_back_67 : decode cX12_back 67 = .ok (.iaload, 1) := by decide +kernel
theorem dX12_back_68 : decode cX12_back 68 = .ok (.iastore, 1) := by decide +kernel
theorem dX12_back_69 : decode cX12_back 69 = .ok (.iinc 1 1, 3) := by decide +kernel
theorem dX12_back_72 : decode cX12_back 72 = .ok (.goto (-36), 3) := by decide +kernel
theorem dX12_back_75 : decode cX12_back 75 = .ok (.iconst 0, 1) := by decide +kernel
theorem dX12_back_76 : decode cX12_back 76 = .ok (.istore_n 1, 1) := by decide +kernel
theorem dX12_back_77 : decode cX12_back 77 = .ok (.iload_n 1, 1) := by decide +kernel
theorem dX12_back_78 : decode cX12_back 78 = .ok (.iconst 5, 1) := by decide +kernel
theorem dX12_back_79 : decode cX12_back 79 = .ok (.if_icmp .ge 24, 3) := by decide +kernel
theorem dX12_back_82 : decode cX12_back 82 = .ok (.aload_n 0, 1) := by decide +kernel
theorem dX12_back_83 : decode cX12_back 83 = .ok (.getfield 26, 3) := by decide +kernel
theorem dX12_back_86 : decode cX12_back 86 = .ok (.iload_n 1, 1) := by decide +kernel
theorem dX12_back_87 : decode cX12_back 87 = .ok (.aload_n 0, 1) := by decide +kernel
theorem dX12_back_88 : decode cX12_back 88 = .ok (.getfield 38, 3) := by decide +kernel
theorem dX12_back_91 : decode cX12_back 91 = .ok (.bipush 18, 2) := by decide +kernel
theorem dX12_back_93 : decode cX12_back 93 = .ok (.iload_n 1, 1) := by decide +kernel
theorem dX12_back_94 : decode cX12_back 94 = .ok (.iadd, 1) := by decide +kernel
theorem dX12_back_95 : decode cX12_back 95 = .ok (.iaload, 1) := by decide +kernel
theorem dX12_back_96 : decode cX12_back 96 = .ok (.iastore, 1) := by decide +kernel
theorem dX12_back_97 : decode cX12_back 97 = .ok (.iinc 1 1, 3) := by decide +kernel
theorem dX12_back_100 : decode cX12_back 100 = .ok (.goto (-23), 3) := by decide +kernel
theorem dX12_back_103 : decode cX12_back 103 = .ok (.aload_n 0, 1) := by decide +kernel
theorem dX12_back_104 : decode cX12_back 104 = .ok (.getfield 117, 3) := by decide +kernel
theorem dX12_back_107 : decode cX12_back 107 = .ok (.ireturn, 1) := by decide +kernel
theorem dX12_sheet_0 : decode cX12_sheet 0 = .ok (.iload_n 1, 1) := by decide +kernel
theorem dX12_sheet_1 : decode cX12_sheet 1 = .ok (.iconst 0, 1) := by decide +kernel
theorem dX12_sheet_2 : decode cX12_sheet 2 = .ok (.iconst 3, 1) := by decide +kernel
theorem dX12_sheet_3 : decode cX12_sheet 3 = .ok (.invokestatic 120, 3) := by decide +kernel
theorem dX12_sheet_6 : decode cX12_sheet 6 = .ok (.ifCond .eq 23, 3) := by decide +kernel
theorem dX12_sheet_9 : decode cX12_sheet 9 = .ok (.iload_n 2, 1) := by decide +kernel
theorem dX12_sheet_10 : decode cX12_sheet 10 = .ok (.iconst (-1), 1) := by decide +kernel
theorem dX12_sheet_11 : decode cX12_sheet 11 = .ok (.iconst 2, 1) := by decide +kernel
theorem dX12_sheet_12 : decode cX12_sheet 12 = .ok (.invokestatic 120, 3) := by decide +kernel
theorem dX12_sheet_15 : decode cX12_sheet 15 = .ok (.ifCond .eq 14, 3) := by decide +kernel
theorem dX12_sheet_18 : decode cX12_sheet 18 = .ok (.iload_n 2, 1) := by decide +kernel
theorem dX12_sheet_19 : decode cX12_sheet 19 = .ok (.iconst (-1), 1) := by decide +kernel
theorem dX12_sheet_20 : decode cX12_sheet 20 = .ok (.if_icmp .eq 12, 3) := by decide +kernel
theorem dX12_sheet_23 : decode cX12_sheet 23 = .ok (.iload_n 3, 1) := by decide +kernel
theorem dX12_sheet_24 : decode cX12_sheet 24 = .ok (.bipush 40, 2) := by decide +kernel
theorem dX12_sheet_26 : decode cX12_sheet 26 = .ok (.if_icmp .le 6, 3) := by decide +kernel
theorem dX12_sheet_29 : decode cX12_sheet 29 = .ok (.bipush (-2), 2) := by decide +kernel
theorem dX12_sheet_31 : decode cX12_sheet 31 = .ok (.ireturn, 1) := by decide +kernel
theorem dX12_sheet_32 : decode cX12_sheet 32 = .ok (.iload_n 2, 1) := by decide +kernel
theorem dX12_sheet_33 : decode cX12_sheet 33 = .ok (.iconst (-1), 1) := by decide +kernel
theorem dX12_sheet_34 : decode cX12_sheet 34 = .ok (.if_icmp .eq 10, 3) := by decide +kernel
theorem dX12_sheet_37 : decode cX12_sheet 37 = .ok (.iload_n 3, 1) := by decide +kernel
theorem dX12_sheet_38 : decode cX12_sheet 38 = .ok (.ifCond .ge 6, 3) := by decide +kernel
theorem dX12_sheet_41 : decode cX12_sheet 41 = .ok (.bipush (-14), 2) := by decide +kernel
theorem dX12_sheet_43 : decode cX12_sheet 43 = .ok (.ireturn, 1) := by decide +kernel
theorem dX12_sheet_44 : decode cX12_sheet 44 = .ok (.aload_n 0, 1) := by decide +kernel
theorem dX12_sheet_45 : decode cX12_sheet 45 = .ok (.getfield 41, 3) := by decide +kernel
theorem dX12_sheet_48 : decode cX12_sheet 48 = .ok (.iload_n 1, 1) := by decide +kernel
theorem dX12_sheet_49 : decode cX12_sheet 49 = .ok (.iload_n 2, 1) := by decide +kernel
theorem dX12_sheet_50 : decode cX12_sheet 50 = .ok (.iastore, 1) := by decide +kernel
theorem dX12_sheet_51 : decode cX12_sheet 51 = .ok (.aload_n 0, 1) := by decide +kernel
theorem dX12_sheet_52 : decode cX12_sheet 52 = .ok (.getfield 44, 3) := by decide +kernel
theorem dX12_sheet_55 : decode cX12_sheet 55 = .ok (.iload_n 1, 1) := by decide +kernel
theorem dX12_sheet_56 : decode cX12_sheet 56 = .ok (.iload_n 2, 1) := by decide +kernel
theorem dX12_sheet_57 : decode cX12_sheet 57 = .ok (.iconst (-1), 1) := by decide +kernel
theorem dX12_sheet_58 : decode cX12_sheet 58 = .ok (.if_icmp .ne 7, 3) := by decide +kernel
theorem dX12_sheet_61 : decode cX12_sheet 61 = .ok (.iconst 0, 1) := by decide +kernel
theorem dX12_sheet_62 : decode cX12_sheet 62 = .ok (.goto 4, 3) := by decide +kernel
theorem dX12_sheet_65 : decode cX12_sheet 65 = .ok (.iload_n 3, 1) := by decide +kernel
theorem dX12_sheet_66 : decode cX12_sheet 66 = .ok (.iastore, 1) := by decide +kernel
theorem dX12_sheet_67 : decode cX12_sheet 67 = .ok (.iconst 0, 1) := by decide +kernel
theorem dX12_sheet_68 : decode cX12_sheet 68 = .ok (.istore 4, 2) := by decide +kernel
theorem dX12_sheet_70 : decode cX12_sheet 70 = .ok (.iload 4, 2) := by decide +kernel
theorem dX12_sheet_72 : decode cX12_sheet 72 = .ok (.bipush 40, 2) := by decide +kernel
theorem dX12_sheet_74 : decode cX12_sheet 74 = .ok (.if_icmp .ge 22, 3) := by decide +kernel
theorem dX12_sheet_77 : decode cX12_sheet 77 = .ok (.aload_n 0, 1) := by decide +kernel
theorem dX12_sheet_78 : decode cX12_sheet 78 = .ok (.getfield 47, 3) := by decide +kernel
theorem dX12_sheet_81 : decode cX12_sheet 81 = .ok (.bipush 40, 2) := by decide +kernel
theorem dX12_sheet_83 : decode cX12_sheet 83 = .ok (.iload_n 1, 1) := by decide +kernel
theorem dX12_sheet_84 : decode cX12_sheet 84 = .ok (.imul, 1) := by decide +kernel
theorem dX12_sheet_85 : decode cX12_sheet 85 = .ok (.iload 4, 2) := by decide +kernel
theorem dX12_sheet_87 : decode cX12_sheet 87 = .ok (.iadd, 1) := by decide +kernel
theorem dX12_sheet_88 : decode cX12_sheet 88 = .ok (.iconst 0, 1) := by decide +kernel
theorem dX12_sheet_89 : decode cX12_sheet 89 = .ok (.iastore, 1) := by decide +kernel
theorem dX12_sheet_90 : decode cX12_sheet 90 = .ok (.iinc 4 1, 3) := by decide +kernel
theorem dX12_sheet_93 : decode cX12_sheet 93 = .ok (.goto (-23), 3) := by decide +kernel
theorem dX12_sheet_96 : decode cX12_sheet 96 = .ok (.iconst 1, 1) := by decide +kernel
theorem dX12_sheet_97 : decode cX12_sheet 97 = .ok (.ireturn, 1) := by decide +kernel
theorem dX12_cell_0 : decode cX12_cell 0 = .ok (.iload_n 1, 1) := by decide +kernel
theorem dX12_cell_1 : decode cX12_cell 1 = .ok (.iconst 0, 1) := by decide +kernel
theorem dX12_cell_2 : decode cX12_cell 2 = .ok (.iconst 3, 1) := by decide +kernel
theorem dX12_cell_3 : decode cX12_cell 3 = .ok (.invokestatic 120, 3) := by decide +kernel
theorem dX12_cell_6 : decode cX12_cell 6 = .ok (.ifCond .ne 6, 3) := by decide +kernel
theorem dX12_cell_9 : decode cX12_cell 9 = .ok (.bipush (-2), 2) := by decide +kernel
theorem dX12_cell_11 : decode cX12_cell 11 = .ok (.ireturn, 1) := by decide +kernel
theorem dX12_cell_12 : decode cX12_cell 12 = .ok (.aload_n 0, 1) := by decide +kernel
theorem dX12_cell_13 : decode cX12_cell 13 = .ok (.getfield 41, 3) := by decide +kernel
theorem dX12_cell_16 : decode cX12_cell 16 = .ok (.iload_n 1, 1) := by decide +kernel
theorem dX12_cell_17 : decode cX12_cell 17 = .ok (.iaload, 1) := by decide +kernel
theorem dX12_cell_18 : decode cX12_cell 18 = .ok (.iconst (-1), 1) := by decide +kernel
theorem dX12_cell_19 : decode cX12_cell 19 = .ok (.if_icmp .ne 6, 3) := by decide +kernel
theorem dX12_cell_22 : decode cX12_cell 22 = .ok (.bipush (-11), 2) := by decide +kernel
theorem dX12_cell_24 : decode cX12_cell 24 = .ok (.ireturn, 1) := by decide +kernel
theorem dX12_cell_25 : decode cX12_cell 25 = .ok (.iload_n 2, 1) := by decide +kernel
theorem dX12_cell_26 : decode cX12_cell 26 = .ok (.iconst 0, 1) := by decide +kernel
theorem dX12_cell_27 : decode cX12_cell 27 = .ok (.aload_n 0, 1) := by decide +kernel
theorem dX12_cell_28 : decode cX12_cell 28 = .ok (.getfield 44, 3) := by decide +kernel
theorem dX12_cell_31 : decode cX12_cell 31 = .ok (.iload_n 1, 1) := by decide +kernel
theorem dX12_cell_32 : decode cX12_cell 32 = .ok (.iaload, 1) := by decide +kernel
theorem dX12_cell_33 : decode cX12_cell 33 = .ok (.iconst 1, 1) := by decide +kernel
theorem dX12_cell_34 : decode cX12_cell 34 = .ok (.isub, 1) := by decide +kernel
theorem dX12_cell_35 : decode cX12_cell 35 = .ok (.invokestatic 120, 3) := by decide +kernel
theorem dX12_cell_38 : decode cX12_cell 38 = .ok (.ifCond .ne 6, 3) := by decide +kernel
theorem dX12_cell_41 : decode cX12_cell 41 = .ok (.bipush (-12), 2) := by decide +kernel
theorem dX12_cell_43 : decode cX12_cell 43 = .ok (.ireturn, 1) := by decide +kernel
theorem dX12_cell_44 : decode cX12_cell 44 = .ok (.aload_n 0, 1) := by decide +kernel
theorem dX12_cell_45 : decode cX12_cell 45 = .ok (.getfield 47, 3) := by decide +kernel
theorem dX12_cell_48 : decode cX12_cell 48 = .ok (.bipush 40, 2) := by decide +kernel
theorem dX12_cell_50 : decode cX12_cell 50 = .ok (.iload_n 1, 1) := by decide +kernel
theorem dX12_cell_51 : decode cX12_cell 51 = .ok (.imul, 1) := by decide +kernel
theorem dX12_cell_52 : decode cX12_cell 52 = .ok (.iload_n 2, 1) := by decide +kernel
theorem dX12_cell_53 : decode cX12_cell 53 = .ok (.iadd, 1) := by decide +kernel
theorem dX12_cell_54 : decode cX12_cell 54 = .ok (.aload_n 0, 1) := by decide +kernel
theorem dX12_cell_55 : decode cX12_cell 55 = .ok (.getfield 41, 3) := by decide +kernel
theorem dX12_cell_58 : decode cX12_cell 58 = .ok (.iload_n 1, 1) := by decide +kernel
theorem dX12_cell_59 : decode cX12_cell 59 = .ok (.iaload, 1) := by decide +kernel
theorem dX12_cell_60 : decode cX12_cell 60 = .ok (.ifCond .ne 8, 3) := by decide +kernel
theorem dX12_cell_63 : decode cX12_cell 63 = .ok (.iload_n 3, 1) := by decide +kernel
theorem dX12_cell_64 : decode cX12_cell 64 = .ok (.i2b, 1) := by decide +kernel
theorem dX12_cell_65 : decode cX12_cell 65 = .ok (.goto 19, 3) := by decide +kernel
theorem dX12_cell_68 : decode cX12_cell 68 = .ok (.aload_n 0, 1) := by decide +kernel
theorem dX12_cell_69 : decode cX12_cell 69 = .ok (.getfield 41, 3) := by decide +kernel
theorem dX12_cell_72 : decode cX12_cell 72 = .ok (.iload_n 1, 1) := by decide +kernel
theorem dX12_cell_73 : decode cX12_cell 73 = .ok (.iaload, 1) := by decide +kernel
theorem dX12_cell_74 : decode cX12_cell 74 = .ok (.iconst 1, 1) := by decide +kernel
theorem dX12_cell_75 : decode cX12_cell 75 = .ok (.if_icmp .ne 8, 3) := by decide +kernel
theorem dX12_cell_78 : decode cX12_cell 78 = .ok (.iload_n 3, 1) := by decide +kernel
theorem dX12_cell_79 : decode cX12_cell 79 = .ok (.i2s, 1) := by decide +kernel
theorem dX12_cell_80 : decode cX12_cell 80 = .ok (.goto 4, 3) := by decide +kernel
theorem dX12_cell_83 : decode cX12_cell 83 = .ok (.iload_n 3, 1) := by decide +kernel
theorem dX12_cell_84 : decode cX12_cell 84 = .ok (.iastore, 1) := by decide +kernel
theorem dX12_cell_85 : decode cX12_cell 85 = .ok (.iconst 1, 1) := by decide +kernel
theorem dX12_cell_86 : decode cX12_cell 86 = .ok (.ireturn, 1) := by decide +kernel
theorem dX12_copy_0 : decode cX12_copy 0 = .ok (.iload_n 1, 1) := by decide +kernel
theorem dX12_copy_1 : decode cX12_copy 1 = .ok (.iconst 0, 1) := by decide +kernel
theorem dX12_copy_2 : decode cX12_copy 2 = .ok (.iconst 3, 1) := by decide +kernel
theorem dX12_copy_3 : decode cX12_copy 3 = .ok (.invokestatic 120, 3) := by decide +kernel
theorem dX12_copy_6 : decode cX12_copy 6 = .ok (.ifCond .eq 12, 3) := by decide +kernel
theorem dX12_copy_9 : decode cX12_copy 9 = .ok (.iload_n 3, 1) := by decide +kernel
theorem dX12_copy_10 : decode cX12_copy 10 = .ok (.iconst 0, 1) := by decide +kernel
theorem dX12_copy_11 : decode cX12_copy 11 = .ok (.iconst 3, 1) := by decide +kernel
theorem dX12_copy_12 : decode cX12_copy 12 = .ok (.invokestatic 120, 3) := by decide +kernel
theorem dX12_copy_15 : decode cX12_copy 15 = .ok (.ifCond .ne 6, 3) := by decide +kernel
theorem dX12_copy_18 : decode cX12_copy 18 = .ok (.bipush (-2), 2) := by decide +kernel
theorem dX12_copy_20 : decode cX12_copy 20 = .ok (.ireturn, 1) := by decide +kernel
theorem dX12_copy_21 : decode cX12_copy 21 = .ok (.aload_n 0, 1) := by decide +kernel
theorem dX12_copy_22 : decode cX12_copy 22 = .ok (.getfield 41, 3) := by decide +kernel
theorem dX12_copy_25 : decode cX12_copy 25 = .ok (.iload_n 1, 1) := by decide +kernel
theorem dX12_copy_26 : decode cX12_copy 26 = .ok (.iaload, 1) := by decide +kernel
theorem dX12_copy_27 : decode cX12_copy 27 = .ok (.iconst (-1), 1) := by decide +kernel
theorem dX12_copy_28 : decode cX12_copy 28 = .ok (.if_icmp .eq 13, 3) := by decide +kernel
theorem dX12_copy_31 : decode cX12_copy 31 = .ok (.aload_n 0, 1) := by decide +kernel
theorem dX12_copy_32 : decode cX12_copy 32 = .ok (.getfield 41, 3) := by decide +kernel
theorem dX12_copy_35 : decode cX12_copy 35 = .ok (.iload_n 3, 1) := by decide +kernel
theorem dX12_copy_36 : decode cX12_copy 36 = .ok (.iaload, 1) := by decide +kernel
theorem dX12_copy_37 : decode cX12_copy 37 = .ok (.iconst (-1), 1) := by decide +kernel
theorem dX12_copy_38 : decode cX12_copy 38 = .ok (.if_icmp .ne 6, 3) := by decide +kernel
theorem dX12_copy_41 : decode cX12_copy 41 = .ok (.bipush (-11), 2) := by decide +kernel
theorem dX12_copy_43 : decode cX12_copy 43 = .ok (.ireturn, 1) := by decide +kernel
theorem dX12_copy_44 : decode cX12_copy 44 = .ok (.aload_n 0, 1) := by decide +kernel
theorem dX12_copy_45 : decode cX12_copy 45 = .ok (.getfield 41, 3) := by decide +kernel
theorem dX12_copy_48 : decode cX12_copy 48 = .ok (.iload_n 1, 1) := by decide +kernel
theorem dX12_copy_49 : decode cX12_copy 49 = .ok (.iaload, 1) := by decide +kernel
theorem dX12_copy_50 : decode cX12_copy 50 = .ok (.aload_n 0, 1) := by decide +kernel
theorem dX12_copy_51 : decode cX12_copy 51 = .ok (.getfield 41, 3) := by decide +kernel
theorem dX12_copy_54 : decode cX12_copy 54 = .ok (.iload_n 3, 1) := by decide +kernel
theorem dX12_copy_55 : decode cX12_copy 55 = .ok (.iaload, 1) := by decide +kernel
theorem dX12_copy_56 : decode cX12_copy 56 = .ok (.if_icmp .eq 6, 3) := by decide +kernel
theorem dX12_copy_59 : decode cX12_copy 59 = .ok (.bipush (-13), 2) := by decide +kernel
theorem dX12_copy_61 : decode cX12_copy 61 = .ok (.ireturn, 1) := by decide +kernel
theorem dX12_copy_62 : decode cX12_copy 62 = .ok (.iload 5, 2) := by decide +kernel
theorem dX12_copy_64 : decode cX12_copy 64 = .ok (.ifCond .lt 60, 3) := by decide +kernel
theorem dX12_copy_67 : decode cX12_copy 67 = .ok (.iload_n 2, 1) := by decide +kernel
theorem dX12_copy_68 : decode cX12_copy 68 = .ok (.ifCond .lt 56, 3) := by decide +kernel
theorem dX12_copy_71 : decode cX12_copy 71 = .ok (.iload 4, 2) := by decide +kernel
theorem dX12_copy_73 : decode cX12_copy 73 = .ok (.ifCond .lt 51, 3) := by decide +kernel
theorem dX12_copy_76 : decode cX12_copy 76 = .ok (.iload_n 2, 1) := by decide +kernel
theorem dX12_copy_77 : decode cX12_copy 77 = .ok (.aload_n 0, 1) := by decide +kernel
theorem dX12_copy_78 : decode cX12_copy 78 = .ok (.getfield 44, 3) := by decide +kernel
theorem dX12_copy_81 : decode cX12_copy 81 = .ok (.iload_n 1, 1) := by decide +kernel
theorem dX12_copy_82 : decode cX12_copy 82 = .ok (.iaload, 1) := by decide +kernel
theorem dX12_copy_83 : decode cX12_copy 83 = .ok (.if_icmp .gt 41, 3) := by decide +kernel
theorem dX12_copy_86 : decode cX12_copy 86 = .ok (.iload 4, 2) := by decide +kernel
theorem dX12_copy_88 : decode cX12_copy 88 = .ok (.aload_n 0, 1) := by decide +kernel
theorem dX12_copy_89 : decode cX12_copy 89 = .ok (.getfield 44, 3) := by decide +kernel
theorem dX12_copy_92 : decode cX12_copy 92 = .ok (.iload_n 3, 1) := by decide +kernel
theorem dX12_copy_93 : decode cX12_copy 93 = .ok (.iaload, 1) := by decide +kernel
theorem dX12_copy_94 : decode cX12_copy 94 = .ok (.if_icmp .gt 30, 3) := by decide +kernel
theorem dX12_copy_97 : decode cX12_copy 97 = .ok (.iload 5, 2) := by decide +kernel
theorem dX12_copy_99 : decode cX12_copy 99 = .ok (.aload_n 0, 1) := by decide +kernel
theorem dX12_copy_100 : decode cX12_copy 100 = .ok (.getfield 44, 3) := by decide +kernel
theorem dX12_copy_103 : decode cX12_copy 103 = .ok (.iload_n 1, 1) := by decide +kernel
theorem dX12_copy_104 : decode cX12_copy 104 = .ok (.iaload, 1) := by decide +kernel
theorem dX12_copy_105 : decode cX12_copy 105 = .ok (.iload_n 2, 1) := by decide +kernel
theorem dX12_copy_106 : decode cX12_copy 106 = .ok (.isub, 1) := by decide +kernel
theorem dX12_copy_107 : decode cX12_copy 107 = .ok (.if_icmp .gt 17, 3) := by decide +kernel
theorem dX12_copy_110 : decode cX12_copy 110 = .ok (.iload 5, 2) := by decide +kernel
theorem dX12_copy_112 : decode cX12_copy 112 = .ok (.aload_n 0, 1) := by decide +kernel
theorem dX12_copy_113 : decode cX12_copy 113 = .ok (.getfield 44, 3) := by decide +kernel
theorem dX12_copy_116 : decode cX12_copy 116 = .ok (.iload_n 3, 1) := by decide +kernel
theorem dX12_copy_117 : decode cX12_copy 117 = .ok (.iaload, 1) := by decide +kernel
theorem dX12_copy_118 : decode cX12_copy 118 = .ok (.iload 4, 2) := by decide +kernel
theorem dX12_copy_120 : decode cX12_copy 120 = .ok (.isub, 1) := by decide +kernel
theorem dX12_copy_121 : decode cX12_copy 121 = .ok (.if_icmp .le 6, 3) := by decide +kernel
theorem dX12_copy_124 : decode cX12_copy 124 = .ok (.bipush (-12), 2) := by decide +kernel
theorem dX12_copy_126 : decode cX12_copy 126 = .ok (.ireturn, 1) := by decide +kernel
theorem dX12_copy_127 : decode cX12_copy 127 = .ok (.bipush 40, 2) := by decide +kernel
theorem dX12_copy_129 : decode cX12_copy 129 = .ok (.iload_n 1, 1) := by decide +kernel
theorem dX12_copy_130 : decode cX12_copy 130 = .ok (.imul, 1) := by decide +kernel
theorem dX12_copy_131 : decode cX12_copy 131 = .ok (.iload_n 2, 1) := by decide +kernel
theorem dX12_copy_132 : decode cX12_copy 132 = .ok (.iadd, 1) := by decide +kernel
theorem dX12_copy_133 : decode cX12_copy 133 = .ok (.istore 6, 2) := by decide +kernel
theorem dX12_copy_135 : decode cX12_copy 135 = .ok (.bipush 40, 2) := by decide +kernel
theorem dX12_copy_137 : decode cX12_copy 137 = .ok (.iload_n 3, 1) := by decide +kernel
theorem dX12_copy_138 : decode cX12_copy 138 = .ok (.imul, 1) := by decide +kernel
theorem dX12_copy_139 : decode cX12_copy 139 = .ok (.iload 4, 2) := by decide +kernel
theorem dX12_copy_141 : decode cX12_copy 141 = .ok (.iadd, 1) := by decide +kernel
theorem dX12_copy_142 : decode cX12_copy 142 = .ok (.istore 7, 2) := by decide +kernel
theorem dX12_copy_144 : decode cX12_copy 144 = .ok (.iconst 0, 1) := by decide +kernel
theorem dX12_copy_145 : decode cX12_copy 145 = .ok (.istore 8, 2) := by decide +kernel
theorem dX12_copy_147 : decode cX12_copy 147 = .ok (.iload 8, 2) := by decide +kernel
theorem dX12_copy_149 : decode cX12_copy 149 = .ok (.iload 5, 2) := by decide +kernel
theorem dX12_copy_151 : decode cX12_copy 151 = .ok (.if_icmp .ge 50, 3) := by decide +kernel
theorem dX12_copy_154 : decode cX12_copy 154 = .ok (.iload 6, 2) := by decide +kernel
theorem dX12_copy_156 : decode cX12_copy 156 = .ok (.iload 7, 2) := by decide +kernel
theorem dX12_copy_158 : decode cX12_copy 158 = .ok (.if_icmp .ge 13, 3) := by decide +kernel
theorem dX12_copy_161 : decode cX12_copy 161 = .ok (.iload 5, 2) := by decide +kernel
theorem dX12_copy_163 : decode cX12_copy 163 = .ok (.iconst 1, 1) := by decide +kernel
theorem dX12_copy_164 : decode cX12_copy 164 = .ok (.isub, 1) := by decide +kernel
theorem dX12_copy_165 : decode cX12_copy 165 = .ok (.iload 8, 2) := by decide +kernel
theorem dX12_copy_167 : decode cX12_copy 167 = .ok (.isub, 1) := by decide +kernel
theorem dX12_copy_168 : decode cX12_copy 168 = .ok (.goto 5, 3) := by decide +kernel
theorem dX12_copy_171 : decode cX12_copy 171 = .ok (.iload 8, 2) := by decide +kernel
theorem dX12_copy_173 : decode cX12_copy 173 = .ok (.istore 9, 2) := by decide +kernel
theorem dX12_copy_175 : decode cX12_copy 175 = .ok (.aload_n 0, 1) := by decide +kernel
theorem dX12_copy_176 : decode cX12_copy 176 = .ok (.getfield 47, 3) := by decide +kernel
theorem dX12_copy_179 : decode cX12_copy 179 = .ok (.iload 7, 2) := by decide +kernel
theorem dX12_copy_181 : decode cX12_copy 181 = .ok (.iload 9, 2) := by decide +kernel
theorem dX12_copy_183 : decode cX12_copy 183 = .ok (.iadd, 1) := by decide +kernel
theorem dX12_copy_184 : decode cX12_copy 184 = .ok (.aload_n 0, 1) := by decide +kernel
theorem dX12_copy_185 : decode cX12_copy 185 = .ok (.getfield 47, 3) := by decide +kernel
theorem dX12_copy_188 : decode cX12_copy 188 = .ok (.iload 6, 2) := by decide +kernel
theorem dX12_copy_190 : decode cX12_copy 190 = .ok (.iload 9, 2) := by decide +kernel
theorem dX12_copy_192 : decode cX12_copy 192 = .ok (.iadd, 1) := by decide +kernel
theorem dX12_copy_193 : decode cX12_copy 193 = .ok (.iaload, 1) := by decide +kernel
theorem dX12_copy_194 : decode cX12_copy 194 = .ok (.iastore, 1) := by decide +kernel
theorem dX12_copy_195 : decode cX12_copy 195 = .ok (.iinc 8 1, 3) := by decide +kernel
theorem dX12_copy_198 : decode cX12_copy 198 = .ok (.goto (-51), 3) := by decide +kernel
theorem dX12_copy_201 : decode cX12_copy 201 = .ok (.iload 5, 2) := by decide +kernel
theorem dX12_copy_203 : decode cX12_copy 203 = .ok (.ireturn, 1) := by decide +kernel
theorem dX12_walkersBy_0 : decode cX12_walkersBy 0 = .ok (.iload_n 1, 1) := by decide +kernel
theorem dX12_walkersBy_1 : decode cX12_walkersBy 1 = .ok (.iconst 0, 1) := by decide +kernel
theorem dX12_walkersBy_2 : decode cX12_walkersBy 2 = .ok (.iconst 3, 1) := by decide +kernel
theorem dX12_walkersBy_3 : decode cX12_walkersBy 3 = .ok (.invokestatic 120, 3) := by decide +kernel
theorem dX12_walkersBy_6 : decode cX12_walkersBy 6 = .ok (.ifCond .eq 22, 3) := by decide +kernel
theorem dX12_walkersBy_9 : decode cX12_walkersBy 9 = .ok (.iload_n 2, 1) := by decide +kernel
theorem dX12_walkersBy_10 : decode cX12_walkersBy 10 = .ok (.iconst 0, 1) := by decide +kernel
theorem dX12_walkersBy_11 : decode cX12_walkersBy 11 = .ok (.iconst 2, 1) := by decide +kernel
theorem dX12_walkersBy_12 : decode cX12_walkersBy 12 = .ok (.invokestatic 120, 3) := by decide +kernel
theorem dX12_walkersBy_15 : decode cX12_walkersBy 15 = .ok (.ifCond .eq 13, 3) := by decide +kernel
theorem dX12_walkersBy_18 : decode cX12_walkersBy 18 = .ok (.iload 4, 2) := by decide +kernel
theorem dX12_walkersBy_20 : decode cX12_walkersBy 20 = .ok (.iconst 0, 1) := by decide +kernel
theorem dX12_walkersBy_21 : decode cX12_walkersBy 21 = .ok (.iconst 5, 1) := by decide +kernel
theorem dX12_walkersBy_22 : decode cX12_walkersBy 22 = .ok (.invokestatic 120, 3) := by decide +kernel
theorem dX12_walkersBy_25 : decode cX12_walkersBy 25 = .ok (.ifCond .ne 6, 3) := by decide +kernel
theorem dX12_walkersBy_28 : decode cX12_walkersBy 28 = .ok (.bipush (-2), 2) := by decide +kernel
theorem dX12_walkersBy_30 : decode cX12_walkersBy 30 = .ok (.ireturn, 1) := by decide +kernel
theorem dX12_walkersBy_31 : decode cX12_walkersBy 31 = .ok (.aload_n 0, 1) := by decide +kernel
theorem dX12_walkersBy_32 : decode cX12_walkersBy 32 = .ok (.getfield 41, 3) := by decide +kernel
theorem dX12_walkersBy_35 : decode cX12_walkersBy 35 = .ok (.iload_n 1, 1) := by decide +kernel
theorem dX12_walkersBy_36 : decode cX12_walkersBy 36 = .ok (.iaload, 1) := by decide +kernel
theorem dX12_walkersBy_37 : decode cX12_walkersBy 37 = .ok (.iconst (-1), 1) := by decide +kernel
theorem dX12_walkersBy_38 : decode cX12_walkersBy 38 = .ok (.if_icmp .ne 6, 3) := by decide +kernel
theorem dX12_walkersBy_41 : decode cX12_walkersBy 41 = .ok (.bipush (-11), 2) := by decide +kernel
theorem dX12_walkersBy_43 : decode cX12_walkersBy 43 = .ok (.ireturn, 1) := by decide +kernel
theorem dX12_walkersBy_44 : decode cX12_walkersBy 44 = .ok (.aload_n 0, 1) := by decide +kernel
theorem dX12_walkersBy_45 : decode cX12_walkersBy 45 = .ok (.getfield 41, 3) := by decide +kernel
theorem dX12_walkersBy_48 : decode cX12_walkersBy 48 = .ok (.iload_n 1, 1) := by decide +kernel
theorem dX12_walkersBy_49 : decode cX12_walkersBy 49 = .ok (.iaload, 1) := by decide +kernel
theorem dX12_walkersBy_50 : decode cX12_walkersBy 50 = .ok (.iload_n 2, 1) := by decide +kernel
theorem dX12_walkersBy_51 : decode cX12_walkersBy 51 = .ok (.if_icmp .eq 6, 3) := by decide +kernel
theorem dX12_walkersBy_54 : decode cX12_walkersBy 54 = .ok (.bipush (-13), 2) := by decide +kernel
theorem dX12_walkersBy_56 : decode cX12_walkersBy 56 = .ok (.ireturn, 1) := by decide +kernel
theorem dX12_walkersBy_57 : decode cX12_walkersBy 57 = .ok (.iconst 0, 1) := by decide +kernel
theorem dX12_walkersBy_58 : decode cX12_walkersBy 58 = .ok (.istore 5, 2) := by decide +kernel
theorem dX12_walkersBy_60 : decode cX12_walkersBy 60 = .ok (.iconst 0, 1) := by decide +kernel
theorem dX12_walkersBy_61 : decode cX12_walkersBy 61 = .ok (.istore 6, 2) := by decide +kernel
theorem dX12_walkersBy_63 : decode cX12_walkersBy 63 = .ok (.iload 6, 2) := by decide +kernel
theorem dX12_walkersBy_65 : decode cX12_walkersBy 65 = .ok (.iload 4, 2) := by decide +kernel
theorem dX12_walkersBy_67 : decode cX12_walkersBy 67 = .ok (.if_icmp .ge 94, 3) := by decide +kernel
theorem dX12_walkersBy_70 : decode cX12_walkersBy 70 = .ok (.iload_n 3, 1) := by decide +kernel
theorem dX12_walkersBy_71 : decode cX12_walkersBy 71 = .ok (.iconst 3, 1) := by decide +kernel
theorem dX12_walkersBy_72 : decode cX12_walkersBy 72 = .ok (.iload 6, 2) := by decide +kernel
theorem dX12_walkersBy_74 : decode cX12_walkersBy 74 = .ok (.imul, 1) := by decide +kernel
theorem dX12_walkersBy_75 : decode cX12_walkersBy 75 = .ok (.iadd, 1) := by decide +kernel
theorem dX12_walkersBy_76 : decode cX12_walkersBy 76 = .ok (.istore 7, 2) := by decide +kernel
theorem dX12_walkersBy_78 : decode cX12_walkersBy 78 = .ok (.iload_n 3, 1) := by decide +kernel
theorem dX12_walkersBy_79 : decode cX12_walkersBy 79 = .ok (.ifCond .lt 22, 3) := by decide +kernel
theorem dX12_walkersBy_82 : decode cX12_walkersBy 82 = .ok (.iload 7, 2) := by decide +kernel
theorem dX12_walkersBy_84 : decode cX12_walkersBy 84 = .ok (.iload_n 3, 1) := by decide +kernel
theorem dX12_walkersBy_85 : decode cX12_walkersBy 85 = .ok (.if_icmp .lt 16, 3) := by decide +kernel
theorem dX12_walkersBy_88 : decode cX12_walkersBy 88 = .ok (.iload 7, 2) := by decide +kernel
theorem dX12_walkersBy_90 : decode cX12_walkersBy 90 = .ok (.aload_n 0, 1) := by decide +kernel
theorem dX12_walkersBy_91 : decode cX12_walkersBy 91 = .ok (.getfield 44, 3) := by decide +kernel
theorem dX12_walkersBy_94 : decode cX12_walkersBy 94 = .ok (.iload_n 1, 1) := by decide +kernel
theorem dX12_walkersBy_95 : decode cX12_walkersBy 95 = .ok (.iaload, 1) := by decide +kernel
theorem dX12_walkersBy_96 : decode cX12_walkersBy 96 = .ok (.iconst 3, 1) := by decide +kernel
theorem dX12_walkersBy_97 : decode cX12_walkersBy 97 = .ok (.isub, 1) := by decide +kernel
theorem dX12_walkersBy_98 : decode cX12_walkersBy 98 = .ok (.if_icmp .le 6, 3) := by decide +kernel
theorem dX12_walkersBy_101 : decode cX12_walkersBy 101 = .ok (.bipush (-12), 2) := by decide +kernel
theorem dX12_walkersBy_103 : decode cX12_walkersBy 103 = .ok (.ireturn, 1) := by decide +kernel
theorem dX12_walkersBy_104 : decode cX12_walkersBy 104 = .ok (.bipush 40, 2) := by decide +kernel
theorem dX12_walkersBy_106 : decode cX12_walkersBy 106 = .ok (.iload_n 1, 1) := by decide +kernel
theorem dX12_walkersBy_107 : decode cX12_walkersBy 107 = .ok (.imul, 1) := by decide +kernel
theorem dX12_walkersBy_108 : decode cX12_walkersBy 108 = .ok (.iload 7, 2) := by decide +kernel
theorem dX12_walkersBy_110 : decode cX12_walkersBy 110 = .ok (.iadd, 1) := by decide +kernel
theorem dX12_walkersBy_111 : decode cX12_walkersBy 111 = .ok (.istore 8, 2) := by decide +kernel
theorem dX12_walkersBy_113 : decode cX12_walkersBy 113 = .ok (.iload 5, 2) := by decide +kernel
theorem dX12_walkersBy_115 : decode cX12_walkersBy 115 = .ok (.aload_n 0, 1) := by decide +kernel
theorem dX12_walkersBy_116 : decode cX12_walkersBy 116 = .ok (.aload_n 0, 1) := by decide +kernel
theorem dX12_walkersBy_117 : decode cX12_walkersBy 117 = .ok (.getfield 47, 3) := by decide +kernel
theorem dX12_walkersBy_120 : decode cX12_walkersBy 120 = .ok (.iload 8, 2) := by decide +kernel
theorem dX12_walkersBy_122 : decode cX12_walkersBy 122 = .ok (.iaload, 1) := by decide +kernel
theorem dX12_walkersBy_123 : decode cX12_walkersBy 123 = .ok (.aload_n 0, 1) := by decide +kernel
theorem dX12_walkersBy_124 : decode cX12_walkersBy 124 = .ok (.getfield 47, 3) := by decide +kernel
theorem dX12_walkersBy_127 : decode cX12_walkersBy 127 = .ok (.iload 8, 2) := by decide +kernel
theorem dX12_walkersBy_129 : decode cX12_walkersBy 129 = .ok (.iconst 1, 1) := by decide +kernel
theorem dX12_walkersBy_130 : decode cX12_walkersBy 130 = .ok (.iadd, 1) := by decide +kernel
theorem dX12_walkersBy_131 : decode cX12_walkersBy 131 = .ok (.iaload, 1) := by decide +kernel
theorem dX12_walkersBy_132 : decode cX12_walkersBy 132 = .ok (.aload_n 0, 1) := by decide +kernel
theorem dX12_walkersBy_133 : decode cX12_walkersBy 133 = .ok (.getfield 47, 3) := by decide +kernel
theorem dX12_walkersBy_136 : decode cX12_walkersBy 136 = .ok (.iload 8, 2) := by decide +kernel
theorem dX12_walkersBy_138 : decode cX12_walkersBy 138 = .ok (.iconst 2, 1) := by decide +kernel
theorem dX12_walkersBy_139 : decode cX12_walkersBy 139 = .ok (.iadd, 1) := by decide +kernel
theorem dX12_walkersBy_140 : decode cX12_walkersBy 140 = .ok (.iaload, 1) := by decide +kernel
theorem dX12_walkersBy_141 : decode cX12_walkersBy 141 = .ok (.invokevirtual 346, 3) := by decide +kernel
theorem dX12_walkersBy_144 : decode cX12_walkersBy 144 = .ok (.ifCond .lt 7, 3) := by decide +kernel
theorem dX12_walkersBy_147 : decode cX12_walkersBy 147 = .ok (.iconst 1, 1) := by decide +kernel
theorem dX12_walkersBy_148 : decode cX12_walkersBy 148 = .ok (.goto 4, 3) := by decide +kernel
theorem dX12_walkersBy_151 : decode cX12_walkersBy 151 = .ok (.iconst 0, 1) := by decide +kernel
theorem dX12_walkersBy_152 : decode cX12_walkersBy 152 = .ok (.iadd, 1) := by decide +kernel
theorem dX12_walkersBy_153 : decode cX12_walkersBy 153 = .ok (.istore 5, 2) := by decide +kernel
theorem dX12_walkersBy_155 : decode cX12_walkersBy 155 = .ok (.iinc 6 1, 3) := by decide +kernel
theorem dX12_walkersBy_158 : decode cX12_walkersBy 158 = .ok (.goto (-95), 3) := by decide +kernel
theorem dX12_walkersBy_161 : decode cX12_walkersBy 161 = .ok (.iload 5, 2) := by decide +kernel
theorem dX12_walkersBy_163 : decode cX12_walkersBy 163 = .ok (.ireturn, 1) := by decide +kernel
theorem dX12_isUnder_0 : decode cX12_isUnder 0 = .ok (.iload_n 1, 1) := by decide +kernel
theorem dX12_isUnder_1 : decode cX12_isUnder 1 = .ok (.ifCond .eq 28, 3) := by decide +kernel
theorem dX12_isUnder_4 : decode cX12_isUnder 4 = .ok (.iload_n 0, 1) := by decide +kernel
theorem dX12_isUnder_5 : decode cX12_isUnder 5 = .ok (.iload_n 1, 1) := by decide +kernel
theorem dX12_isUnder_6 : decode cX12_isUnder 6 = .ok (.if_icmp .eq 23, 3) := by decide +kernel
theorem dX12_isUnder_9 : decode cX12_isUnder 9 = .ok (.iload_n 1, 1) := by decide +kernel
theorem dX12_isUnder_10 : decode cX12_isUnder 10 = .ok (.iconst 1, 1) := by decide +kernel
theorem dX12_isUnder_11 : decode cX12_isUnder 11 = .ok (.if_icmp .ne 8, 3) := by decide +kernel
theorem dX12_isUnder_14 : decode cX12_isUnder 14 = .ok (.iload_n 0, 1) := by decide +kernel
theorem dX12_isUnder_15 : decode cX12_isUnder 15 = .ok (.iconst 3, 1) := by decide +kernel
theorem dX12_isUnder_16 : decode cX12_isUnder 16 = .ok (.if_icmp .eq 13, 3) := by decide +kernel
theorem dX12_isUnder_19 : decode cX12_isUnder 19 = .ok (.iload_n 1, 1) := by decide +kernel
theorem dX12_isUnder_20 : decode cX12_isUnder 20 = .ok (.iconst 2, 1) := by decide +kernel
theorem dX12_isUnder_21 : decode cX12_isUnder 21 = .ok (.if_icmp .ne 12, 3) := by decide +kernel
theorem dX12_isUnder_24 : decode cX12_isUnder 24 = .ok (.iload_n 0, 1) := by decide +kernel
theorem dX12_isUnder_25 : decode cX12_isUnder 25 = .ok (.iconst 4, 1) := by decide +kernel
theorem dX12_isUnder_26 : decode cX12_isUnder 26 = .ok (.if_icmp .ne 7, 3) := by decide +kernel
theorem dX12_isUnder_29 : decode cX12_isUnder 29 = .ok (.iconst 1, 1) := by decide +kernel
theorem dX12_isUnder_30 : decode cX12_isUnder 30 = .ok (.goto 4, 3) := by decide +kernel
theorem dX12_isUnder_33 : decode cX12_isUnder 33 = .ok (.iconst 0, 1) := by decide +kernel
theorem dX12_isUnder_34 : decode cX12_isUnder 34 = .ok (.ireturn, 1) := by decide +kernel
theorem dX12_taken_0 : decode cX12_taken 0 = .ok (.iload_n 2, 1) := by decide +kernel
theorem dX12_taken_1 : decode cX12_taken 1 = .ok (.iconst 0, 1) := by decide +kernel
theorem dX12_taken_2 : decode cX12_taken 2 = .ok (.bipush 6, 2) := by decide +kernel
theorem dX12_taken_4 : decode cX12_taken 4 = .ok (.invokestatic 120, 3) := by decide +kernel
theorem dX12_taken_7 : decode cX12_taken 7 = .ok (.ifCond .ne 6, 3) := by decide +kernel
theorem dX12_taken_10 : decode cX12_taken 10 = .ok (.bipush (-2), 2) := by decide +kernel
theorem dX12_taken_12 : decode cX12_taken 12 = .ok (.ireturn, 1) := by decide +kernel
theorem dX12_taken_13 : decode cX12_taken 13 = .ok (.iload_n 1, 1) := by decide +kernel
theorem dX12_taken_14 : decode cX12_taken 14 = .ok (.iconst 0, 1) := by decide +kernel
theorem dX12_taken_15 : decode cX12_taken 15 = .ok (.bipush 13, 2) := by decide +kernel
theorem dX12_taken_17 : decode cX12_taken 17 = .ok (.invokestatic 120, 3) := by decide +kernel
theorem dX12_taken_20 : decode cX12_taken 20 = .ok (.ifCond .ne 6, 3) := by decide +kernel
theorem dX12_taken_23 : decode cX12_taken 23 = .ok (.bipush (-12), 2) := by decide +kernel
theorem dX12_taken_25 : decode cX12_taken 25 = .ok (.ireturn, 1) := by decide +kernel
theorem dX12_taken_26 : decode cX12_taken 26 = .ok (.iload_n 1, 1) := by decide +kernel
theorem dX12_taken_27 : decode cX12_taken 27 = .ok (.bipush 9, 2) := by decide +kernel
theorem dX12_taken_29 : decode cX12_taken 29 = .ok (.if_icmp .ge 35, 3) := by decide +kernel
theorem dX12_taken_32 : decode cX12_taken 32 = .ok (.aload_n 0, 1) := by decide +kernel
theorem dX12_taken_33 : decode cX12_taken 33 = .ok (.getfield 7, 3) := by decide +kernel
theorem dX12_taken_36 : decode cX12_taken 36 = .ok (.iload_n 1, 1) := by decide +kernel
theorem dX12_taken_37 : decode cX12_taken 37 = .ok (.iaload, 1) := by decide +kernel
theorem dX12_taken_38 : decode cX12_taken 38 = .ok (.ifCond .ne 8, 3) := by decide +kernel
theorem dX12_taken_41 : decode cX12_taken 41 = .ok (.bipush (-11), 2) := by decide +kernel
theorem dX12_taken_43 : decode cX12_taken 43 = .ok (.goto 20, 3) := by decide +kernel
theorem dX12_taken_46 : decode cX12_taken 46 = .ok (.iload_n 2, 1) := by decide +kernel
theorem dX12_taken_47 : decode cX12_taken 47 = .ok (.bipush 6, 2) := by decide +kernel
theorem dX12_taken_49 : decode cX12_taken 49 = .ok (.if_icmp .ne 12, 3) := by decide +kernel
theorem dX12_taken_52 : decode cX12_taken 52 = .ok (.aload_n 0, 1) := by decide +kernel
theorem dX12_taken_53 : decode cX12_taken 53 = .ok (.getfield 7, 3) := by decide +kernel
theorem dX12_taken_56 : decode cX12_taken 56 = .ok (.iload_n 1, 1) := by decide +kernel
theorem dX12_taken_57 : decode cX12_taken 57 = .ok (.iaload, 1) := by decide +kernel
theorem dX12_taken_58 : decode cX12_taken 58 = .ok (.goto 5, 3) := by decide +kernel
theorem dX12_taken_61 : decode cX12_taken 61 = .ok (.bipush (-13), 2) := by decide +kernel
theorem dX12_taken_63 : decode cX12_taken 63 = .ok (.ireturn, 1) := by decide +kernel
theorem dX12_taken_64 : decode cX12_taken 64 = .ok (.iload_n 1, 1) := by decide +kernel
theorem dX12_taken_65 : decode cX12_taken 65 = .ok (.bipush 9, 2) := by decide +kernel
theorem dX12_taken_67 : decode cX12_taken 67 = .ok (.isub, 1) := by decide +kernel
theorem dX12_taken_68 : decode cX12_taken 68 = .ok (.aload_n 0, 1) := by decide +kernel
theorem dX12_taken_69 : decode cX12_taken 69 = .ok (.getfield 117, 3) := by decide +kernel
theorem dX12_taken_72 : decode cX12_taken 72 = .ok (.if_icmp .lt 8, 3) := by decide +kernel
theorem dX12_taken_75 : decode cX12_taken 75 = .ok (.bipush (-11), 2) := by decide +kernel
theorem dX12_taken_77 : decode cX12_taken 77 = .ok (.goto 34, 3) := by decide +kernel
theorem dX12_taken_80 : decode cX12_taken 80 = .ok (.iload_n 2, 1) := by decide +kernel
theorem dX12_taken_81 : decode cX12_taken 81 = .ok (.bipush 6, 2) := by decide +kernel
theorem dX12_taken_83 : decode cX12_taken 83 = .ok (.if_icmp .ge 26, 3) := by decide +kernel
theorem dX12_taken_86 : decode cX12_taken 86 = .ok (.aload_n 0, 1) := by decide +kernel
theorem dX12_taken_87 : decode cX12_taken 87 = .ok (.getfield 20, 3) := by decide +kernel
theorem dX12_taken_90 : decode cX12_taken 90 = .ok (.iload_n 1, 1) := by decide +kernel
theorem dX12_taken_91 : decode cX12_taken 91 = .ok (.bipush 9, 2) := by decide +kernel
theorem dX12_taken_93 : decode cX12_taken 93 = .ok (.isub, 1) := by decide +kernel
theorem dX12_taken_94 : decode cX12_taken 94 = .ok (.iaload, 1) := by decide +kernel
theorem dX12_taken_95 : decode cX12_taken 95 = .ok (.iload_n 2, 1) := by decide +kernel
theorem dX12_taken_96 : decode cX12_taken 96 = .ok (.invokestatic 349, 3) := by decide +kernel
theorem dX12_taken_99 : decode cX12_taken 99 = .ok (.ifCond .eq 10, 3) := by decide +kernel
theorem dX12_taken_102 : decode cX12_taken 102 = .ok (.iload_n 1, 1) := by decide +kernel
theorem dX12_taken_103 : decode cX12_taken 103 = .ok (.bipush 9, 2) := by decide +kernel
theorem dX12_taken_105 : decode cX12_taken 105 = .ok (.isub, 1) := by decide +kernel
theorem dX12_taken_106 : decode cX12_taken 106 = .ok (.goto 5, 3) := by decide +kernel
theorem dX12_taken_109 : decode cX12_taken 109 = .ok (.bipush (-13), 2) := by decide +kernel
theorem dX12_taken_111 : decode cX12_taken 111 = .ok (.ireturn, 1) := by decide +kernel
theorem dJ9_floorDiv_7cf53_0 : decode cJ9_floorDiv_7cf53 0 = .ok (.iload_n 0, 1) := by decide +kernel
theorem dJ9_floorDiv_7cf53_1 : decode cJ9_floorDiv_7cf53 1 = .ok (.iload_n 1, 1) := by decide +kernel
theorem dJ9_floorDiv_7cf53_2 : decode cJ9_floorDiv_7cf53 2 = .ok (.idiv, 1) := by decide +kernel
theorem dJ9_floorDiv_7cf53_3 : decode cJ9_floorDiv_7cf53 3 = .ok (.istore_n 2, 1) := by decide +kernel
theorem dJ9_floorDiv_7cf53_4 : decode cJ9_floorDiv_7cf53 4 = .ok (.iload_n 0, 1) := by decide +kernel
theorem dJ9_floorDiv_7cf53_5 : decode cJ9_floorDiv_7cf53 5 = .ok (.iload_n 1, 1) := by decide +kernel
theorem dJ9_floorDiv_7cf53_6 : decode cJ9_floorDiv_7cf53 6 = .ok (.ixor, 1) := by decide +kernel
theorem dJ9_floorDiv_7cf53_7 : decode cJ9_floorDiv_7cf53 7 = .ok (.ifCond .ge 14, 3) := by decide +kernel
theorem dJ9_floorDiv_7cf53_10 : decode cJ9_floorDiv_7cf53 10 = .ok (.iload_n 2, 1) := by decide +kernel
theorem dJ9_floorDiv_7cf53_11 : decode cJ9_floorDiv_7cf53 11 = .ok (.iload_n 1, 1) := by decide +kernel
theorem dJ9_floorDiv_7cf53_12 : decode cJ9_floorDiv_7cf53 12 = .ok (.imul, 1) := by decide +kernel
theorem dJ9_floorDiv_7cf53_13 : decode cJ9_floorDiv_7cf53 13 = .ok (.iload_n 0, 1) := by decide +kernel
theorem dJ9_floorDiv_7cf53_14 : decode cJ9_floorDiv_7cf53 14 = .ok (.if_icmp .eq 7, 3) := by decide +kernel
theorem dJ9_floorDiv_7cf53_17 : decode cJ9_floorDiv_7cf53 17 = .ok (.iload_n 2, 1) := by decide +kernel
theorem dJ9_floorDiv_7cf53_18 : decode cJ9_floorDiv_7cf53 18 = .ok (.iconst 1, 1) := by decide +kernel
theorem dJ9_floorDiv_7cf53_19 : decode cJ9_floorDiv_7cf53 19 = .ok (.isub, 1) := by decide +kernel
theorem dJ9_floorDiv_7cf53_20 : decode cJ9_floorDiv_7cf53 20 = .ok (.ireturn, 1) := by decide +kernel
theorem dJ9_floorDiv_7cf53_21 : decode cJ9_floorDiv_7cf53 21 = .ok (.iload_n 2, 1) := by decide +kernel
theorem dJ9_floorDiv_7cf53_22 : decode cJ9_floorDiv_7cf53 22 = .ok (.ireturn, 1) := by decide +kernel
theorem dJ9_floorMod_7cf53_0 : decode cJ9_floorMod_7cf53 0 = .ok (.iload_n 0, 1) := by decide +kernel
theorem dJ9_floorMod_7cf53_1 : decode cJ9_floorMod_7cf53 1 = .ok (.iload_n 1, 1) := by decide +kernel
theorem dJ9_floorMod_7cf53_2 : decode cJ9_floorMod_7cf53 2 = .ok (.irem, 1) := by decide +kernel
theorem dJ9_floorMod_7cf53_3 : decode cJ9_floorMod_7cf53 3 = .ok (.istore_n 2, 1) := by decide +kernel
theorem dJ9_floorMod_7cf53_4 : decode cJ9_floorMod_7cf53 4 = .ok (.iload_n 0, 1) := by decide +kernel
theorem dJ9_floorMod_7cf53_5 : decode cJ9_floorMod_7cf53 5 = .ok (.iload_n 1, 1) := by decide +kernel
theorem dJ9_floorMod_7cf53_6 : decode cJ9_floorMod_7cf53 6 = .ok (.ixor, 1) := by decide +kernel
theorem dJ9_floorMod_7cf53_7 : decode cJ9_floorMod_7cf53 7 = .ok (.ifCond .ge 11, 3) := by decide +kernel
theorem dJ9_floorMod_7cf53_10 : decode cJ9_floorMod_7cf53 10 = .ok (.iload_n 2, 1) := by decide +kernel
theorem dJ9_floorMod_7cf53_11 : decode cJ9_floorMod_7cf53 11 = .ok (.ifCond .eq 7, 3) := by decide +kernel
theorem dJ9_floorMod_7cf53_14 : decode cJ9_floorMod_7cf53 14 = .ok (.iload_n 2, 1) := by decide +kernel
theorem dJ9_floorMod_7cf53_15 : decode cJ9_floorMod_7cf53 15 = .ok (.iload_n 1, 1) := by decide +kernel
theorem dJ9_floorMod_7cf53_16 : decode cJ9_floorMod_7cf53 16 = .ok (.iadd, 1) := by decide +kernel
theorem dJ9_floorMod_7cf53_17 : decode cJ9_floorMod_7cf53 17 = .ok (.ireturn, 1) := by decide +kernel
theorem dJ9_floorMod_7cf53_18 : decode cJ9_floorMod_7cf53 18 = .ok (.iload_n 2, 1) := by decide +kernel
theorem dJ9_floorMod_7cf53_19 : decode cJ9_floorMod_7cf53 19 = .ok (.ireturn, 1) := by decide +kernel
theorem dJ0_length_8abf5_0 : decode cJ0_length_8abf5 0 = .ok (.aload_n 0, 1) := by decide +kernel
theorem dJ0_length_8abf5_1 : decode cJ0_length_8abf5 1 = .ok (.getfield 9, 3) := by decide +kernel
theorem dJ0_length_8abf5_4 : decode cJ0_length_8abf5 4 = .ok (.arraylength, 1) := by decide +kernel
theorem dJ0_length_8abf5_5 : decode cJ0_length_8abf5 5 = .ok (.aload_n 0, 1) := by decide +kernel
theorem dJ0_length_8abf5_6 : decode cJ0_length_8abf5 6 = .ok (.invokevirtual 335, 3) := by decide +kernel
theorem dJ0_length_8abf5_9 : decode cJ0_length_8abf5 9 = .ok (.ishr, 1) := by decide +kernel
theorem dJ0_length_8abf5_10 : decode cJ0_length_8abf5 10 = .ok (.ireturn, 1) := by decide +kernel
theorem dJ0_charAt_5068e_0 : decode cJ0_charAt_5068e 0 = .ok (.aload_n 0, 1) := by decide +kernel
theorem dJ0_charAt_5068e_1 : decode cJ0_charAt_5068e 1 = .ok (.invokevirtual 492, 3) := by decide +kernel
theorem dJ0_charAt_5068e_4 : decode cJ0_charAt_5068e 4 = .ok (.ifCond .eq 12, 3) := by decide +kernel
theorem dJ0_charAt_5068e_7 : decode cJ0_charAt_5068e 7 = .ok (.aload_n 0, 1) := by decide +kernel
theorem dJ0_charAt_5068e_8 : decode cJ0_charAt_5068e 8 = .ok (.getfield 9, 3) := by decide +kernel
theorem dJ0_charAt_5068e_11 : decode cJ0_charAt_5068e 11 = .ok (.iload_n 1, 1) := by decide +kernel
theorem dJ0_charAt_5068e_12 : decode cJ0_charAt_5068e 12 = .ok (.invokestatic 495, 3) := by decide +kernel
theorem dJ0_charAt_5068e_15 : decode cJ0_charAt_5068e 15 = .ok (.ireturn, 1) := by decide +kernel
theorem dJ0_charAt_5068e_16 : decode cJ0_charAt_5068e 16 = .ok (.aload_n 0, 1) := by decide +kernel
theorem dJ0_charAt_5068e_17 : decode cJ0_charAt_5068e 17 = .ok (.getfield 9, 3) := by decide +kernel
theorem dJ0_charAt_5068e_20 : decode cJ0_charAt_5068e 20 = .ok (.iload_n 1, 1) := by decide +kernel
theorem dJ0_charAt_5068e_21 : decode cJ0_charAt_5068e 21 = .ok (.invokestatic 498, 3) := by decide +kernel
theorem dJ0_charAt_5068e_24 : decode cJ0_charAt_5068e 24 = .ok (.ireturn, 1) := by decide +kernel
theorem dJ0_coder_7d493_0 : decode cJ0_coder_7d493 0 = .ok (.getstatic 38, 3) := by decide +kernel
theorem dJ0_coder_7d493_3 : decode cJ0_coder_7d493 3 = .ok (.ifCond .eq 10, 3) := by decide +kernel
theorem dJ0_coder_7d493_6 : decode cJ0_coder_7d493 6 = .ok (.aload_n 0, 1) := by decide +kernel
theorem dJ0_coder_7d493_7 : decode cJ0_coder_7d493 7 = .ok (.getfield 15, 3) := by decide +kernel
theorem dJ0_coder_7d493_10 : decode cJ0_coder_7d493 10 = .ok (.goto 4, 3) := by decide +kernel
theorem dJ0_coder_7d493_13 : decode cJ0_coder_7d493 13 = .ok (.iconst 1, 1) := by decide +kernel
theorem dJ0_coder_7d493_14 : decode cJ0_coder_7d493 14 = .ok (.ireturn, 1) := by decide +kernel
theorem dJ0_isLatin1_aae02_0 : decode cJ0_isLatin1_aae02 0 = .ok (.getstatic 38, 3) := by decide +kernel
theorem dJ0_isLatin1_aae02_3 : decode cJ0_isLatin1_aae02 3 = .ok (.ifCond .eq 14, 3) := by decide +kernel
theorem dJ0_isLatin1_aae02_6 : decode cJ0_isLatin1_aae02 6 = .ok (.aload_n 0, 1) := by decide +kernel
theorem dJ0_isLatin1_aae02_7 : decode cJ0_isLatin1_aae02 7 = .ok (.getfield 15, 3) := by decide +kernel
theorem dJ0_isLatin1_aae02_10 : decode cJ0_isLatin1_aae02 10 = .ok (.ifCond .ne 7, 3) := by decide +kernel
theorem dJ0_isLatin1_aae02_13 : decode cJ0_isLatin1_aae02 13 = .ok (.iconst 1, 1) := by decide +kernel
theorem dJ0_isLatin1_aae02_14 : decode cJ0_isLatin1_aae02 14 = .ok (.goto 4, 3) := by decide +kernel
theorem dJ0_isLatin1_aae02_17 : decode cJ0_isLatin1_aae02 17 = .ok (.iconst 0, 1) := by decide +kernel
theorem dJ0_isLatin1_aae02_18 : decode cJ0_isLatin1_aae02 18 = .ok (.ireturn, 1) := by decide +kernel
theorem dJ0_checkIndex_df160_0 : decode cJ0_checkIndex_df160 0 = .ok (.iload_n 0, 1) := by decide +kernel
theorem dJ0_checkIndex_df160_1 : decode cJ0_checkIndex_df160 1 = .ok (.iload_n 1, 1) := by decide +kernel
theorem dJ0_checkIndex_df160_2 : decode cJ0_checkIndex_df160 2 = .ok (.getstatic 1053, 3) := by decide +kernel
theorem dJ0_checkIndex_df160_5 : decode cJ0_checkIndex_df160 5 = .ok (.invokestatic 1059, 3) := by decide +kernel
theorem dJ0_checkIndex_df160_8 : decode cJ0_checkIndex_df160 8 = .ok (.pop, 1) := by decide +kernel
theorem dJ0_checkIndex_df160_9 : decode cJ0_checkIndex_df160 9 = .ok (.return_, 1) := by decide +kernel
theorem dJ1_charAt_3b067_0 : decode cJ1_charAt_3b067 0 = .ok (.iload_n 1, 1) := by decide +kernel
theorem dJ1_charAt_3b067_1 : decode cJ1_charAt_3b067 1 = .ok (.aload_n 0, 1) := by decide +kernel
theorem dJ1_charAt_3b067_2 : decode cJ1_charAt_3b067 2 = .ok (.arraylength, 1) := by decide +kernel
theorem dJ1_charAt_3b067_3 : decode cJ1_charAt_3b067 3 = .ok (.invokestatic 9, 3) := by decide +kernel
theorem dJ1_charAt_3b067_6 : decode cJ1_charAt_3b067 6 = .ok (.aload_n 0, 1) := by decide +kernel
theorem dJ1_charAt_3b067_7 : decode cJ1_charAt_3b067 7 = .ok (.iload_n 1, 1) := by decide +kernel
theorem dJ1_charAt_3b067_8 : decode cJ1_charAt_3b067 8 = .ok (.baload, 1) := by decide +kernel
theorem dJ1_charAt_3b067_9 : decode cJ1_charAt_3b067 9 = .ok (.sipush 255, 3) := by decide +kernel
theorem dJ1_charAt_3b067_12 : decode cJ1_charAt_3b067 12 = .ok (.iand, 1) := by decide +kernel
theorem dJ1_charAt_3b067_13 : decode cJ1_charAt_3b067 13 = .ok (.i2c, 1) := by decide +kernel
theorem dJ1_charAt_3b067_14 : decode cJ1_charAt_3b067 14 = .ok (.ireturn, 1) := by decide +kernel
theorem dJ7_fill_53178_0 : decode cJ7_fill_53178 0 = .ok (.iconst 0, 1) := by decide +kernel
theorem dJ7_fill_53178_1 : decode cJ7_fill_53178 1 = .ok (.istore_n 2, 1) := by decide +kernel
theorem dJ7_fill_53178_2 : decode cJ7_fill_53178 2 = .ok (.aload_n 0, 1) := by decide +kernel
theorem dJ7_fill_53178_3 : decode cJ7_fill_53178 3 = .ok (.arraylength, 1) := by decide +kernel
theorem dJ7_fill_53178_4 : decode cJ7_fill_53178 4 = .ok (.istore_n 3, 1) := by decide +kernel
theorem dJ7_fill_53178_5 : decode cJ7_fill_53178 5 = .ok (.iload_n 2, 1) := by decide +kernel
theorem dJ7_fill_53178_6 : decode cJ7_fill_53178 6 = .ok (.iload_n 3, 1) := by decide +kernel
theorem dJ7_fill_53178_7 : decode cJ7_fill_53178 7 = .ok (.if_icmp .ge 13, 3) := by decide +kernel
theorem dJ7_fill_53178_10 : decode cJ7_fill_53178 10 = .ok (.aload_n 0, 1) := by decide +kernel
theorem dJ7_fill_53178_11 : decode cJ7_fill_53178 11 = .ok (.iload_n 2, 1) := by decide +kernel
theorem dJ7_fill_53178_12 : decode cJ7_fill_53178 12 = .ok (.iload_n 1, 1) := by decide +kernel
theorem dJ7_fill_53178_13 : decode cJ7_fill_53178 13 = .ok (.iastore, 1) := by decide +kernel
theorem dJ7_fill_53178_14 : decode cJ7_fill_53178 14 = .ok (.iinc 2 1, 3) := by decide +kernel
theorem dJ7_fill_53178_17 : decode cJ7_fill_53178 17 = .ok (.goto (-12), 3) := by decide +kernel
theorem dJ7_fill_53178_20 : decode cJ7_fill_53178 20 = .ok (.return_, 1) := by decide +kernel
theorem dJ7_copyOf_59c91_0 : decode cJ7_copyOf_59c91 0 = .ok (.iload_n 1, 1) := by decide +kernel
theorem dJ7_copyOf_59c91_1 : decode cJ7_copyOf_59c91 1 = .ok (.aload_n 0, 1) := by decide +kernel
theorem dJ7_copyOf_59c91_2 : decode cJ7_copyOf_59c91 2 = .ok (.arraylength, 1) := by decide +kernel
theorem dJ7_copyOf_59c91_3 : decode cJ7_copyOf_59c91 3 = .ok (.if_icmp .ne 11, 3) := by decide +kernel
theorem dJ7_copyOf_59c91_6 : decode cJ7_copyOf_59c91 6 = .ok (.aload_n 0, 1) := by decide +kernel
theorem dJ7_copyOf_59c91_7 : decode cJ7_copyOf_59c91 7 = .ok (.invokevirtual 316, 3) := by decide +kernel
theorem dJ7_copyOf_59c91_10 : decode cJ7_copyOf_59c91 10 = .ok (.checkcast 317, 3) := by decide +kernel
theorem dJ7_copyOf_59c91_13 : decode cJ7_copyOf_59c91 13 = .ok (.areturn, 1) := by decide +kernel
theorem dJ7_copyOf_59c91_14 : decode cJ7_copyOf_59c91 14 = .ok (.iload_n 1, 1) := by decide +kernel
theorem dJ7_copyOf_59c91_15 : decode cJ7_copyOf_59c91 15 = .ok (.newarray .int, 2) := by decide +kernel
theorem dJ7_copyOf_59c91_17 : decode cJ7_copyOf_59c91 17 = .ok (.astore_n 2, 1) := by decide +kernel
theorem dJ7_copyOf_59c91_18 : decode cJ7_copyOf_59c91 18 = .ok (.aload_n 0, 1) := by decide +kernel
theorem dJ7_copyOf_59c91_19 : decode cJ7_copyOf_59c91 19 = .ok (.iconst 0, 1) := by decide +kernel
theorem dJ7_copyOf_59c91_20 : decode cJ7_copyOf_59c91 20 = .ok (.aload_n 2, 1) := by decide +kernel
theorem dJ7_copyOf_59c91_21 : decode cJ7_copyOf_59c91 21 = .ok (.iconst 0, 1) := by decide +kernel
theorem dJ7_copyOf_59c91_22 : decode cJ7_copyOf_59c91 22 = .ok (.aload_n 0, 1) := by decide +kernel
theorem dJ7_copyOf_59c91_23 : decode cJ7_copyOf_59c91 23 = .ok (.arraylength, 1) := by decide +kernel
theorem dJ7_copyOf_59c91_24 : decode cJ7_copyOf_59c91 24 = .ok (.iload_n 1, 1) := by decide +kernel
theorem dJ7_copyOf_59c91_25 : decode cJ7_copyOf_59c91 25 = .ok (.invokestatic 304, 3) := by decide +kernel
theorem dJ7_copyOf_59c91_28 : decode cJ7_copyOf_59c91 28 = .ok (.invokestatic 150, 3) := by decide +kernel
theorem dJ7_copyOf_59c91_31 : decode cJ7_copyOf_59c91 31 = .ok (.aload_n 2, 1) := by decide +kernel
theorem dJ7_copyOf_59c91_32 : decode cJ7_copyOf_59c91 32 = .ok (.areturn, 1) := by decide +kernel
theorem dJ3_checkIndex_8e157_0 : decode cJ3_checkIndex_8e157 0 = .ok (.iload_n 0, 1) := by decide +kernel
theorem dJ3_checkIndex_8e157_1 : decode cJ3_checkIndex_8e157 1 = .ok (.ifCond .lt 8, 3) := by decide +kernel
theorem dJ3_checkIndex_8e157_4 : decode cJ3_checkIndex_8e157 4 = .ok (.iload_n 0, 1) := by decide +kernel
theorem dJ3_checkIndex_8e157_5 : decode cJ3_checkIndex_8e157 5 = .ok (.iload_n 1, 1) := by decide +kernel
theorem dJ3_checkIndex_8e157_6 : decode cJ3_checkIndex_8e157 6 = .ok (.if_icmp .lt 10, 3) := by decide +kernel
theorem dJ3_checkIndex_8e157_9 : decode cJ3_checkIndex_8e157 9 = .ok (.aload_n 2, 1) := by decide +kernel
theorem dJ3_checkIndex_8e157_10 : decode cJ3_checkIndex_8e157 10 = .ok (.iload_n 0, 1) := by decide +kernel
theorem dJ3_checkIndex_8e157_11 : decode cJ3_checkIndex_8e157 11 = .ok (.iload_n 1, 1) := by decide +kernel
theorem dJ3_checkIndex_8e157_12 : decode cJ3_checkIndex_8e157 12 = .ok (.invokestatic 95, 3) := by decide +kernel
theorem dJ3_checkIndex_8e157_15 : decode cJ3_checkIndex_8e157 15 = .ok (.athrow, 1) := by decide +kernel
theorem dJ3_checkIndex_8e157_16 : decode cJ3_checkIndex_8e157 16 = .ok (.iload_n 0, 1) := by decide +kernel
theorem dJ3_checkIndex_8e157_17 : decode cJ3_checkIndex_8e157 17 = .ok (.ireturn, 1) := by decide +kernel
theorem dL_law_0 : decode cL_law 0 = .ok (.new 7, 3) := by decide +kernel
theorem dL_law_3 : decode cL_law 3 = .ok (.dup, 1) := by decide +kernel
theorem dL_law_4 : decode cL_law 4 = .ok (.invokespecial 9, 3) := by decide +kernel
theorem dL_law_7 : decode cL_law 7 = .ok (.astore_n 1, 1) := by decide +kernel
theorem dL_law_8 : decode cL_law 8 = .ok (.new 10, 3) := by decide +kernel
theorem dL_law_11 : decode cL_law 11 = .ok (.dup, 1) := by decide +kernel
theorem dL_law_12 : decode cL_law 12 = .ok (.invokespecial 12, 3) := by decide +kernel
theorem dL_law_15 : decode cL_law 15 = .ok (.astore_n 2, 1) := by decide +kernel
theorem dL_law_16 : decode cL_law 16 = .ok (.iconst 0, 1) := by decide +kernel
theorem dL_law_17 : decode cL_law 17 = .ok (.istore_n 3, 1) := by decide +kernel
theorem dL_law_18 : decode cL_law 18 = .ok (.iload_n 3, 1) := by decide +kernel
theorem dL_law_19 : decode cL_law 19 = .ok (.aload_n 0, 1) := by decide +kernel
theorem dL_law_20 : decode cL_law 20 = .ok (.arraylength, 1) := by decide +kernel
theorem dL_law_21 : decode cL_law 21 = .ok (.bipush 7, 2) := by decide +kernel
theorem dL_law_23 : decode cL_law 23 = .ok (.isub, 1) := by decide +kernel
theorem dL_law_24 : decode cL_law 24 = .ok (.if_icmp .gt 1469, 3) := by decide +kernel
theorem dL_law_27 : decode cL_law 27 = .ok (.aload_n 0, 1) := by decide +kernel
theorem dL_law_28 : decode cL_law 28 = .ok (.iload_n 3, 1) := by decide +kernel
theorem dL_law_29 : decode cL_law 29 = .ok (.iaload, 1) := by decide +kernel
theorem dL_law_30 : decode cL_law 30 = .ok (.bipush 63, 2) := by decide +kernel
theorem dL_law_32 : decode cL_law 32 = .ok (.iand, 1) := by decide +kernel
theorem dL_law_33 : decode cL_law 33 = .ok (.tableswitch 1454 0 37 #[167, 190, 233, 266, 341, 354, 377, 420, 463, 496, 529, 562, 605, 648, 671, 694, 727, 750, 783, 806, 829, 852, 875, 888, 921, 954, 997, 1040, 1073, 1106, 1139, 1193, 1206, 1219, 1262, 1305, 1368, 1421], 167) := by decide +kernel
theorem dL_law_200 : decode cL_law 200 = .ok (.aload_n 1, 1) := by decide +kernel
theorem dL_law_201 : decode cL_law 201 = .ok (.aload_n 0, 1) := by decide +kernel
theorem dL_law_202 : decode cL_law 202 = .ok (.iload_n 3, 1) := by decide +kernel
theorem dL_law_203 : decode cL_law 203 = .ok (.iconst 1, 1) := by decide +kernel
theorem dL_law_204 : decode cL_law 204 = .ok (.iadd, 1) := by decide +kernel
theorem dL_law_205 : decode cL_law 205 = .ok (.iaload, 1) := by decide +kernel
theorem dL_law_206 : decode cL_law 206 = .ok (.invokevirtual 13, 3) := by decide +kernel
theorem dL_law_209 : decode cL_law 209 = .ok (.aload_n 2, 1) := by decide +kernel
theorem dL_law_210 : decode cL_law 210 = .ok (.aload_n 0, 1) := by decide +kernel
theorem dL_law_211 : decode cL_law 211 = .ok (.iload_n 3, 1) := by decide +kernel
theorem dL_law_212 : decode cL_law 212 = .ok (.iconst 1, 1) := by decide +kernel
theorem dL_law_213 : decode cL_law 213 = .ok (.iadd, 1) := by decide +kernel
theorem dL_law_214 : decode cL_law 214 = .ok (.iaload, 1) := by decide +kernel
theorem dL_law_215 : decode cL_law 215 = .ok (.invokevirtual 17, 3) := by decide +kernel
theorem dL_law_218 : decode cL_law 218 = .ok (.if_icmp .eq 1269, 3) := by decide +kernel
theorem dL_law_221 : decode cL_law 221 = .ok (.iconst 0, 1) := by decide +kernel
theorem dL_law_222 : decode cL_law 222 = .ok (.ireturn, 1) := by decide +kernel
theorem dL_law_223 : decode cL_law 223 = .ok (.aload_n 1, 1) := by decide +kernel
theorem dL_law_224 : decode cL_law 224 = .ok (.aload_n 0, 1) := by decide +kernel
theorem dL_law_225 : decode cL_law 225 = .ok (.iload_n 3, 1) := by decide +kernel
theorem dL_law_226 : decode cL_law 226 = .ok (.iconst 1, 1) := by decide +kernel
theorem dL_law_227 : decode cL_law 227 = .ok (.iadd, 1) := by decide +kernel
theorem dL_law_228 : decode cL_law 228 = .ok (.iaload, 1) := by decide +kernel
theorem dL_law_229 : decode cL_law 229 = .ok (.aload_n 0, 1) := by decide +kernel
theorem dL_law_230 : decode cL_law 230 = .ok (.iload_n 3, 1) := by decide +kernel
theorem dL_law_231 : decode cL_law 231 = .ok (.iconst 2, 1) := by decide +kernel
theorem dL_law_232 : decode cL_law 232 = .ok (.iadd, 1) := by decide +kernel
theorem dL_law_233 : decode cL_law 233 = .ok (.iaload, 1) := by decide +kernel
theorem dL_law_234 : decode cL_law 234 = .ok (.aload_n 0, 1) := by decide +kernel
theorem dL_law_235 : decode cL_law 235 = .ok (.iload_n 3, 1) := by decide +kernel
theorem dL_law_236 : decode cL_law 236 = .ok (.iconst 3, 1) := by decide +kernel
theorem dL_law_237 : decode cL_law 237 = .ok (.iadd, 1) := by decide +kernel
theorem dL_law_238 : decode cL_law 238 = .ok (.iaload, 1) := by decide +kernel
theorem dL_law_239 : decode cL_law 239 = .ok (.invokevirtual 18, 3) := by decide +kernel
theorem dL_law_242 : decode cL_law 242 = .ok (.aload_n 2, 1) := by decide +kernel
theorem dL_law_243 : decode cL_law 243 = .ok (.aload_n 0, 1) := by decide +kernel
theorem dL_law_244 : decode cL_law 244 = .ok (.iload_n 3, 1) := by decide +kernel
theorem dL_law_245 : decode cL_law 245 = .ok (.iconst 1, 1) := by decide +kernel
theorem dL_law_246 : decode cL_law 246 = .ok (.iadd, 1) := by decide +kernel
theorem dL_law_247 : decode cL_law 247 = .ok (.iaload, 1) := by decide +kernel
theorem dL_law_248 : decode cL_law 248 = .ok (.aload_n 0, 1) := by decide +kernel
theorem dL_law_249 : decode cL_law 249 = .ok (.iload_n 3, 1) := by decide +kernel
theorem dL_law_250 : decode cL_law 250 = .ok (.iconst 2, 1) := by decide +kernel
theorem dL_law_251 : decode cL_law 251 = .ok (.iadd, 1) := by decide +kernel
theorem dL_law_252 : decode cL_law 252 = .ok (.iaload, 1) := by decide +kernel
theorem dL_law_253 : decode cL_law 253 = .ok (.aload_n 0, 1) := by decide +kernel
theorem dL_law_254 : decode cL_law 254 = .ok (.iload_n 3, 1) := by decide +kernel
theorem dL_law_255 : decode cL_law 255 = .ok (.iconst 3, 1) := by decide +kernel
theorem dL_law_256 : decode cL_law 256 = .ok (.iadd, 1) := by decide +kernel
theorem dL_law_257 : decode cL_law 257 = .ok (.iaload, 1) := by decide +kernel
theorem dL_law_258 : decode cL_law 258 = .ok (.invokevirtual 22, 3) := by decide +kernel
theorem dL_law_261 : decode cL_law 261 = .ok (.if_icmp .eq 1226, 3) := by decide +kernel
theorem dL_law_264 : decode cL_law 264 = .ok (.iconst 0, 1) := by decide +kernel
theorem dL_law_265 : decode cL_law 265 = .ok (.ireturn, 1) := by decide +kernel
theorem dL_law_266 : decode cL_law 266 = .ok (.aload_n 1, 1) := by decide +kernel
theorem dL_law_267 : decode cL_law 267 = .ok (.aload_n 0, 1) := by decide +kernel
theorem dL_law_268 : decode cL_law 268 = .ok (.iload_n 3, 1) := by decide +kernel
theorem dL_law_269 : decode cL_law 269 = .ok (.iconst 1, 1) := by decide +kernel
theorem dL_law_270 : decode cL_law 270 = .ok (.iadd, 1) := by decide +kernel
theorem dL_law_271 : decode cL_law 271 = .ok (.iaload, 1) := by decide +kernel
theorem dL_law_272 : decode cL_law 272 = .ok (.aload_n 0, 1) := by decide +kernel
theorem dL_law_273 : decode cL_law 273 = .ok (.iload_n 3, 1) := by decide +kernel
theorem dL_law_274 : decode cL_law 274 = .ok (.iconst 2, 1) := by decide +kernel
theorem dL_law_275 : decode cL_law 275 = .ok (.iadd, 1) := by decide +kernel
theorem dL_law_276 : decode cL_law 276 = .ok (.iaload, 1) := by decide +kernel
theorem dL_law_277 : decode cL_law 277 = .ok (.invokevirtual 23, 3) := by decide +kernel
theorem dL_law_280 : decode cL_law 280 = .ok (.aload_n 2, 1) := by decide +kernel
theorem dL_law_281 : decode cL_law 281 = .ok (.aload_n 0, 1) := by decide +kernel
theorem dL_law_282 : decode cL_law 282 = .ok (.iload_n 3, 1) := by decide +kernel
theorem dL_law_283 : decode cL_law 283 = .ok (.iconst 1, 1) := by decide +kernel
theorem dL_law_284 : decode cL_law 284 = .ok (.iadd, 1) := by decide +kernel
theorem dL_law_285 : decode cL_law 285 = .ok (.iaload, 1) := by decide +kernel
theorem dL_law_286 : decode cL_law 286 = .ok (.aload_n 0, 1) := by decide +kernel
theorem dL_law_287 : decode cL_law 287 = .ok (.iload_n 3, 1) := by decide +kernel
theorem dL_law_288 : decode cL_law 288 = .ok (.iconst 2, 1) := by decide +kernel
theorem dL_law_289 : decode cL_law 289 = .ok (.iadd, 1) := by decide +kernel
theorem dL_law_290 : decode cL_law 290 = .ok (.iaload, 1) := by decide +kernel
theorem dL_law_291 : decode cL_law 291 = .ok (.invokevirtual 27, 3) := by decide +kernel
theorem dL_law_294 : decode cL_law 294 = .ok (.if_icmp .eq 1193, 3) := by decide +kernel
theorem dL_law_297 : decode cL_law 297 = .ok (.iconst 0, 1) := by decide +kernel
theorem dL_law_298 : decode cL_law 298 = .ok (.ireturn, 1) := by decide +kernel
theorem dL_law_299 : decode cL_law 299 = .ok (.aload_n 1, 1) := by decide +kernel
theorem dL_law_300 : decode cL_law 300 = .ok (.aload_n 0, 1) := by decide +kernel
theorem dL_law_301 : decode cL_law 301 = .ok (.iload_n 3, 1) := by decide +kernel
theorem dL_law_302 : decode cL_law 302 = .ok (.iconst 1, 1) := by decide +kernel
theorem dL_law_303 : decode cL_law 303 = .ok (.iadd, 1) := by decide +kernel
theorem dL_law_304 : decode cL_law 304 = .ok (.iaload, 1) := by decide +kernel
theorem dL_law_305 : decode cL_law 305 = .ok (.aload_n 0, 1) := by decide +kernel
theorem dL_law_306 : decode cL_law 306 = .ok (.iload_n 3, 1) := by decide +kernel
theorem dL_law_307 : decode cL_law 307 = .ok (.iconst 2, 1) := by decide +kernel
theorem dL_law_308 : decode cL_law 308 = .ok (.iadd, 1) := by decide +kernel
theorem dL_law_309 : decode cL_law 309 = .ok (.iaload, 1) := by decide +kernel
theorem dL_law_310 : decode cL_law 310 = .ok (.aload_n 0, 1) := by decide +kernel
theorem dL_law_311 : decode cL_law 311 = .ok (.iload_n 3, 1) := by decide +kernel
theorem dL_law_312 : decode cL_law 312 = .ok (.iconst 3, 1) := by decide +kernel
theorem dL_law_313 : decode cL_law 313 = .ok (.iadd, 1) := by decide +kernel
theorem dL_law_314 : decode cL_law 314 = .ok (.iaload, 1) := by decide +kernel
theorem dL_law_315 : decode cL_law 315 = .ok (.aload_n 0, 1) := by decide +kernel
theorem dL_law_316 : decode cL_law 316 = .ok (.iload_n 3, 1) := by decide +kernel
theorem dL_law_317 : decode cL_law 317 = .ok (.iconst 4, 1) := by decide +kernel
theorem dL_law_318 : decode cL_law 318 = .ok (.iadd, 1) := by decide +kernel
theorem dL_law_319 : decode cL_law 319 = .ok (.iaload, 1) := by decide +kernel
theorem dL_law_320 : decode cL_law 320 = .ok (.aload_n 0, 1) := by decide +kernel
theorem dL_law_321 : decode cL_law 321 = .ok (.iload_n 3, 1) := by decide +kernel
theorem dL_law_322 : decode cL_law 322 = .ok (.iconst 5, 1) := by decide +kernel
theorem dL_law_323 : decode cL_law 323 = .ok (.iadd, 1) := by decide +kernel
theorem dL_law_324 : decode cL_law 324 = .ok (.iaload, 1) := by decide +kernel
theorem dL_law_325 : decode cL_law 325 = .ok (.aload_n 0, 1) := by decide +kernel
theorem dL_law_326 : decode cL_law 326 = .ok (.iload_n 3, 1) := by decide +kernel
theorem dL_law_327 : decode cL_law 327 = .ok (.bipush 6, 2) := by decide +kernel
theorem dL_law_329 : decode cL_law 329 = .ok (.iadd, 1) := by decide +kernel
theorem dL_law_330 : decode cL_law 330 = .ok (.iaload, 1) := by decide +kernel
theorem dL_law_331 : decode cL_law 331 = .ok (.invokevirtual 28, 3) := by decide +kernel
theorem dL_law_334 : decode cL_law 334 = .ok (.aload_n 2, 1) := by decide +kernel
theorem dL_law_335 : decode cL_law 335 = .ok (.aload_n 0, 1) := by decide +kernel
theorem dL_law_336 : decode cL_law 336 = .ok (.iload_n 3, 1) := by decide +kernel
theorem dL_law_337 : decode cL_law 337 = .ok (.iconst 1, 1) := by decide +kernel
theorem dL_law_338 : decode cL_law 338 = .ok (.iadd, 1) := by decide +kernel
theorem dL_law_339 : decode cL_law 339 = .ok (.iaload, 1) := by decide +kernel
theorem dL_law_340 : decode cL_law 340 = .ok (.aload_n 0, 1) := by decide +kernel
theorem dL_law_341 : decode cL_law 341 = .ok (.iload_n 3, 1) := by decide +kernel
theorem dL_law_342 : decode cL_law 342 = .ok (.iconst 2, 1) := by decide +kernel
theorem dL_law_343 : decode cL_law 343 = .ok (.iadd, 1) := by decide +kernel
theorem dL_law_344 : decode cL_law 344 = .ok (.iaload, 1) := by decide +kernel
theorem dL_law_345 : decode cL_law 345 = .ok (.aload_n 0, 1) := by decide +kernel
theorem dL_law_346 : decode cL_law 346 = .ok (.iload_n 3, 1) := by decide +kernel
theorem dL_law_347 : decode cL_law 347 = .ok (.iconst 3, 1) := by decide +kernel
theorem dL_law_348 : decode cL_law 348 = .ok (.iadd, 1) := by decide +kernel
theorem dL_law_349 : decode cL_law 349 = .ok (.iaload, 1) := by decide +kernel
theorem dL_law_350 : decode cL_law 350 = .ok (.aload_n 0, 1) := by decide +kernel
theorem dL_law_351 : decode cL_law 351 = .ok (.iload_n 3, 1) := by decide +kernel
theorem dL_law_352 : decode cL_law 352 = .ok (.iconst 4, 1) := by decide +kernel
theorem dL_law_353 : decode cL_law 353 = .ok (.iadd, 1) := by decide +kernel
theorem dL_law_354 : decode cL_law 354 = .ok (.iaload, 1) := by decide +kernel
theorem dL_law_355 : decode cL_law 355 = .ok (.aload_n 0, 1) := by decide +kernel
theorem dL_law_356 : decode cL_law 356 = .ok (.iload_n 3, 1) := by decide +kernel
theorem dL_law_357 : decode cL_law 357 = .ok (.iconst 5, 1) := by decide +kernel
theorem dL_law_358 : decode cL_law 358 = .ok (.iadd, 1) := by decide +kernel
theorem dL_law_359 : decode cL_law 359 = .ok (.iaload, 1) := by decide +kernel
theorem dL_law_360 : decode cL_law 360 = .ok (.aload_n 0, 1) := by decide +kernel
theorem dL_law_361 : decode cL_law 361 = .ok (.iload_n 3, 1) := by decide +kernel
theorem dL_law_362 : decode cL_law 362 = .ok (.bipush 6, 2) := by decide +kernel
theorem dL_law_364 : decode cL_law 364 = .ok (.iadd, 1) := by decide +kernel
theorem dL_law_365 : decode cL_law 365 = .ok (.iaload, 1) := by decide +kernel
theorem dL_law_366 : decode cL_law 366 = .ok (.invokevirtual 32, 3) := by decide +kernel
theorem dL_law_369 : decode cL_law 369 = .ok (.if_icmp .eq 1118, 3) := by decide +kernel
theorem dL_law_372 : decode cL_law 372 = .ok (.iconst 0, 1) := by decide +kernel
theorem dL_law_373 : decode cL_law 373 = .ok (.ireturn, 1) := by decide +kernel
theorem dL_law_374 : decode cL_law 374 = .ok (.aload_n 1, 1) := by decide +kernel
theorem dL_law_375 : decode cL_law 375 = .ok (.invokevirtual 33, 3) := by decide +kernel
theorem dL_law_378 : decode cL_law 378 = .ok (.aload_n 2, 1) := by decide +kernel
theorem dL_law_379 : decode cL_law 379 = .ok (.invokevirtual 37, 3) := by decide +kernel
theorem dL_law_382 : decode cL_law 382 = .ok (.if_icmp .eq 1105, 3) := by decide +kernel
theorem dL_law_385 : decode cL_law 385 = .ok (.iconst 0, 1) := by decide +kernel
theorem dL_law_386 : decode cL_law 386 = .ok (.ireturn, 1) := by decide +kernel
theorem dL_law_387 : decode cL_law 387 = .ok (.aload_n 1, 1) := by decide +kernel
theorem dL_law_388 : decode cL_law 388 = .ok (.aload_n 0, 1) := by decide +kernel
theorem dL_law_389 : decode cL_law 389 = .ok (.iload_n 3, 1) := by decide +kernel
theorem dL_law_390 : decode cL_law 390 = .ok (.iconst 1, 1) := by decide +kernel
theorem dL_law_391 : decode cL_law 391 = .ok (.iadd, 1) := by decide +kernel
theorem dL_law_392 : decode cL_law 392 = .ok (.iaload, 1) := by decide +kernel
theorem dL_law_393 : decode cL_law 393 = .ok (.invokevirtual 38, 3) := by decide +kernel
theorem dL_law_396 : decode cL_law 396 = .ok (.aload_n 2, 1) := by decide +kernel
theorem dL_law_397 : decode cL_law 397 = .ok (.aload_n 0, 1) := by decide +kernel
theorem dL_law_398 : decode cL_law 398 = .ok (.iload_n 3, 1) := by decide +kernel
theorem dL_law_399 : decode cL_law 399 = .ok (.iconst 1, 1) := by decide +kernel
theorem dL_law_400 : decode cL_law 400 = .ok (.iadd, 1) := by decide +kernel
theorem dL_law_401 : decode cL_law 401 = .ok (.iaload, 1) := by decide +kernel
theorem dL_law_402 : decode cL_law 402 = .ok (.invokevirtual 41, 3) := by decide +kernel
theorem dL_law_405 : decode cL_law 405 = .ok (.if_icmp .eq 1082, 3) := by decide +kernel
theorem dL_law_408 : decode cL_law 408 = .ok (.iconst 0, 1) := by decide +kernel
theorem dL_law_409 : decode cL_law 409 = .ok (.ireturn, 1) := by decide +kernel
theorem dL_law_410 : decode cL_law 410 = .ok (.aload_n 1, 1) := by decide +kernel
theorem dL_law_411 : decode cL_law 411 = .ok (.aload_n 0, 1) := by decide +kernel
theorem dL_law_412 : decode cL_law 412 = .ok (.iload_n 3, 1) := by decide +kernel
theorem dL_law_413 : decode cL_law 413 = .ok (.iconst 1, 1) := by decide +kernel
theorem dL_law_414 : decode cL_law 414 = .ok (.iadd, 1) := by decide +kernel
theorem dL_law_415 : decode cL_law 415 = .ok (.iaload, 1) := by decide +kernel
theorem dL_law_416 : decode cL_law 416 = .ok (.aload_n 0, 1) := by decide +kernel
theorem dL_law_417 : decode cL_law 417 = .ok (.iload_n 3, 1) := by decide +kernel
theorem dL_law_418 : decode cL_law 418 = .ok (.iconst 2, 1) := by decide +kernel
theorem dL_law_419 : decode cL_law 419 = .ok (.iadd, 1) := by decide +kernel
theorem dL_law_420 : decode cL_law 420 = .ok (.iaload, 1) := by decide +kernel
theorem dL_law_421 : decode cL_law 421 = .ok (.aload_n 0, 1) := by decide +kernel
theorem dL_law_422 : decode cL_law 422 = .ok (.iload_n 3, 1) := by decide +kernel
theorem dL_law_423 : decode cL_law 423 = .ok (.iconst 3, 1) := by decide +kernel
theorem dL_law_424 : decode cL_law 424 = .ok (.iadd, 1) := by decide +kernel
theorem dL_law_425 : decode cL_law 425 = .ok (.iaload, 1) := by decide +kernel
theorem dL_law_426 : decode cL_law 426 = .ok (.invokevirtual 42, 3) := by decide +kernel
theorem dL_law_429 : decode cL_law 429 = .ok (.aload_n 2, 1) := by decide +kernel
theorem dL_law_430 : decode cL_law 430 = .ok (.aload_n 0, 1) := by decide +kernel
theorem dL_law_431 : decode cL_law 431 = .ok (.iload_n 3, 1) := by decide +kernel
theorem dL_law_432 : decode cL_law 432 = .ok (.iconst 1, 1) := by decide +kernel
theorem dL_law_433 : decode cL_law 433 = .ok (.iadd, 1) := by decide +kernel
theorem dL_law_434 : decode cL_law 434 = .ok (.iaload, 1) := by decide +kernel
theorem dL_law_435 : decode cL_law 435 = .ok (.aload_n 0, 1) := by decide +kernel
theorem dL_law_436 : decode cL_law 436 = .ok (.iload_n 3, 1) := by decide +kernel
theorem dL_law_437 : decode cL_law 437 = .ok (.iconst 2, 1) := by decide +kernel
theorem dL_law_438 : decode cL_law 438 = .ok (.iadd, 1) := by decide +kernel
theorem dL_law_439 : decode cL_law 439 = .ok (.iaload, 1) := by decide +kernel
theorem dL_law_440 : decode cL_law 440 = .ok (.aload_n 0, 1) := by decide +kernel
theorem dL_law_441 : decode cL_law 441 = .ok (.iload_n 3, 1) := by decide +kernel
theorem dL_law_442 : decode cL_law 442 = .ok (.iconst 3, 1) := by decide +kernel
theorem dL_law_443 : decode cL_law 443 = .ok (.iadd, 1) := by decide +kernel
theorem dL_law_444 : decode cL_law 444 = .ok (.iaload, 1) := by decide +kernel
theorem dL_law_445 : decode cL_law 445 = .ok (.invokevirtual 45, 3) := by decide +kernel
theorem dL_law_448 : decode cL_law 448 = .ok (.if_icmp .eq 1039, 3) := by decide +kernel
theorem dL_law_451 : decode cL_law 451 = .ok (.iconst 0, 1) := by decide +kernel
theorem dL_law_452 : decode cL_law 452 = .ok (.ireturn, 1) := by decide +kernel
theorem dL_law_453 : decode cL_law 453 = .ok (.aload_n 1, 1) := by decide +kernel
theorem dL_law_454 : decode cL_law 454 = .ok (.aload_n 0, 1) := by decide +kernel
theorem dL_law_455 : decode cL_law 455 = .ok (.iload_n 3, 1) := by decide +kernel
theorem dL_law_456 : decode cL_law 456 = .ok (.iconst 1, 1) := by decide +kernel
theorem dL_law_457 : decode cL_law 457 = .ok (.iadd, 1) := by decide +kernel
theorem dL_law_458 : decode cL_law 458 = .ok (.iaload, 1) := by decide +kernel
theorem dL_law_459 : decode cL_law 459 = .ok (.aload_n 0, 1) := by decide +kernel
theorem dL_law_460 : decode cL_law 460 = .ok (.iload_n 3, 1) := by decide +kernel
theorem dL_law_461 : decode cL_law 461 = .ok (.iconst 2, 1) := by decide +kernel
theorem dL_law_462 : decode cL_law 462 = .ok (.iadd, 1) := by decide +kernel
theorem dL_law_463 : decode cL_law 463 = .ok (.iaload, 1) := by decide +kernel
theorem dL_law_464 : decode cL_law 464 = .ok (.aload_n 0, 1) := by decide +kernel
theorem dL_law_465 : decode cL_law 465 = .ok (.iload_n 3, 1) := by decide +kernel
theorem dL_law_466 : decode cL_law 466 = .ok (.iconst 3, 1) := by decide +kernel
theorem dL_law_467 : decode cL_law 467 = .ok (.iadd, 1) := by decide +kernel
theorem dL_law_468 : decode cL_law 468 = .ok (.iaload, 1) := by decide +kernel
theorem dL_law_469 : decode cL_law 469 = .ok (.invokevirtual 46, 3) := by decide +kernel
theorem dL_law_472 : decode cL_law 472 = .ok (.aload_n 2, 1) := by decide +kernel
theorem dL_law_473 : decode cL_law 473 = .ok (.aload_n 0, 1) := by decide +kernel
theorem dL_law_474 : decode cL_law 474 = .ok (.iload_n 3, 1) := by decide +kernel
theorem dL_law_475 : decode cL_law 475 = .ok (.iconst 1, 1) := by decide +kernel
theorem dL_law_476 : decode cL_law 476 = .ok (.iadd, 1) := by decide +kernel
theorem dL_law_477 : decode cL_law 477 = .ok (.iaload, 1) := by decide +kernel
theorem dL_law_478 : decode cL_law 478 = .ok (.aload_n 0, 1) := by decide +kernel
theorem dL_law_479 : decode cL_law 479 = .ok (.iload_n 3, 1) := by decide +kernel
theorem dL_law_480 : decode cL_law 480 = .ok (.iconst 2, 1) := by decide +kernel
theorem dL_law_481 : decode cL_law 481 = .ok (.iadd, 1) := by decide +kernel
theorem dL_law_482 : decode cL_law 482 = .ok (.iaload, 1) := by decide +kernel
theorem dL_law_483 : decode cL_law 483 = .ok (.aload_n 0, 1) := by decide +kernel
theorem dL_law_484 : decode cL_law 484 = .ok (.iload_n 3, 1) := by decide +kernel
theorem dL_law_485 : decode cL_law 485 = .ok (.iconst 3, 1) := by decide +kernel
theorem dL_law_486 : decode cL_law 486 = .ok (.iadd, 1) := by decide +kernel
theorem dL_law_487 : decode cL_law 487 = .ok (.iaload, 1) := by decide +kernel
theorem dL_law_488 : decode cL_law 488 = .ok (.invokevirtual 49, 3) := by decide +kernel
theorem dL_law_491 : decode cL_law 491 = .ok (.if_icmp .eq 996, 3) := by decide +kernel
theorem dL_law_494 : decode cL_law 494 = .ok (.iconst 0, 1) := by decide +kernel
theorem dL_law_495 : decode cL_law 495 = .ok (.ireturn, 1) := by decide +kernel
theorem dL_law_496 : decode cL_law 496 = .ok (.aload_n 1, 1) := by decide +kernel
theorem dL_law_497 : decode cL_law 497 = .ok (.aload_n 0, 1) := by decide +kernel
theorem dL_law_498 : decode cL_law 498 = .ok (.iload_n 3, 1) := by decide +kernel
theorem dL_law_499 : decode cL_law 499 = .ok (.iconst 1, 1) := by decide +kernel
theorem dL_law_500 : decode cL_law 500 = .ok (.iadd, 1) := by decide +kernel
theorem dL_law_501 : decode cL_law 501 = .ok (.iaload, 1) := by decide +kernel
theorem dL_law_502 : decode cL_law 502 = .ok (.aload_n 0, 1) := by decide +kernel
theorem dL_law_503 : decode cL_law 503 = .ok (.iload_n 3, 1) := by decide +kernel
theorem dL_law_504 : decode cL_law 504 = .ok (.iconst 2, 1) := by decide +kernel
theorem dL_law_505 : decode cL_law 505 = .ok (.iadd, 1) := by decide +kernel
theorem dL_law_506 : decode cL_law 506 = .ok (.iaload, 1) := by decide +kernel
theorem dL_law_507 : decode cL_law 507 = .ok (.invokevirtual 50, 3) := by decide +kernel
theorem dL_law_510 : decode cL_law 510 = .ok (.aload_n 2, 1) := by decide +kernel
theorem dL_law_511 : decode cL_law 511 = .ok (.aload_n 0, 1) := by decide +kernel
theorem dL_law_512 : decode cL_law 512 = .ok (.iload_n 3, 1) := by decide +kernel
theorem dL_law_513 : decode cL_law 513 = .ok (.iconst 1, 1) := by decide +kernel
theorem dL_law_514 : decode cL_law 514 = .ok (.iadd, 1) := by decide +kernel
theorem dL_law_515 : decode cL_law 515 = .ok (.iaload, 1) := by decide +kernel
theorem dL_law_516 : decode cL_law 516 = .ok (.aload_n 0, 1) := by decide +kernel
theorem dL_law_517 : decode cL_law 517 = .ok (.iload_n 3, 1) := by decide +kernel
theorem dL_law_518 : decode cL_law 518 = .ok (.iconst 2, 1) := by decide +kernel
theorem dL_law_519 : decode cL_law 519 = .ok (.iadd, 1) := by decide +kernel
theorem dL_law_520 : decode cL_law 520 = .ok (.iaload, 1) := by decide +kernel
theorem dL_law_521 : decode cL_law 521 = .ok (.invokevirtual 53, 3) := by decide +kernel
theorem dL_law_524 : decode cL_law 524 = .ok (.if_icmp .eq 963, 3) := by decide +kernel
theorem dL_law_527 : decode cL_law 527 = .ok (.iconst 0, 1) := by decide +kernel
theorem dL_law_528 : decode cL_law 528 = .ok (.ireturn, 1) := by decide +kernel
theorem dL_law_529 : decode cL_law 529 = .ok (.aload_n 1, 1) := by decide +kernel
theorem dL_law_530 : decode cL_law 530 = .ok (.aload_n 0, 1) := by decide +kernel
theorem dL_law_531 : decode cL_law 531 = .ok (.iload_n 3, 1) := by decide +kernel
theorem dL_law_532 : decode cL_law 532 = .ok (.iconst 1, 1) := by decide +kernel
theorem dL_law_533 : decode cL_law 533 = .ok (.iadd, 1) := by decide +kernel
theorem dL_law_534 : decode cL_law 534 = .ok (.iaload, 1) := by decide +kernel
theorem dL_law_535 : decode cL_law 535 = .ok (.aload_n 0, 1) := by decide +kernel
theorem dL_law_536 : decode cL_law 536 = .ok (.iload_n 3, 1) := by decide +kernel
theorem dL_law_537 : decode cL_law 537 = .ok (.iconst 2, 1) := by decide +kernel
theorem dL_law_538 : decode cL_law 538 = .ok (.iadd, 1) := by decide +kernel
theorem dL_law_539 : decode cL_law 539 = .ok (.iaload, 1) := by decide +kernel
theorem dL_law_540 : decode cL_law 540 = .ok (.invokevirtual 54, 3) := by decide +kernel
theorem dL_law_543 : decode cL_law 543 = .ok (.aload_n 2, 1) := by decide +kernel
theorem dL_law_544 : decode cL_law 544 = .ok (.aload_n 0, 1) := by decide +kernel
theorem dL_law_545 : decode cL_law 545 = .ok (.iload_n 3, 1) := by decide +kernel
theorem dL_law_546 : decode cL_law 546 = .ok (.iconst 1, 1) := by decide +kernel
theorem dL_law_547 : decode cL_law 547 = .ok (.iadd, 1) := by decide +kernel
theorem dL_law_548 : decode cL_law 548 = .ok (.iaload, 1) := by decide +kernel
theorem dL_law_549 : decode cL_law 549 = .ok (.aload_n 0, 1) := by decide +kernel
theorem dL_law_550 : decode cL_law 550 = .ok (.iload_n 3, 1) := by decide +kernel
theorem dL_law_551 : decode cL_law 551 = .ok (.iconst 2, 1) := by decide +kernel
theorem dL_law_552 : decode cL_law 552 = .ok (.iadd, 1) := by decide +kernel
theorem dL_law_553 : decode cL_law 553 = .ok (.iaload, 1) := by decide +kernel
theorem dL_law_554 : decode cL_law 554 = .ok (.invokevirtual 57, 3) := by decide +kernel
theorem dL_law_557 : decode cL_law 557 = .ok (.if_icmp .eq 930, 3) := by decide +kernel
theorem dL_law_560 : decode cL_law 560 = .ok (.iconst 0, 1) := by decide +kernel
theorem dL_law_561 : decode cL_law 561 = .ok (.ireturn, 1) := by decide +kernel
theorem dL_law_562 : decode cL_law 562 = .ok (.aload_n 1, 1) := by decide +kernel
theorem dL_law_563 : decode cL_law 563 = .ok (.aload_n 0, 1) := by decide +kernel
theorem dL_law_564 : decode cL_law 564 = .ok (.iload_n 3, 1) := by decide +kernel
theorem dL_law_565 : decode cL_law 565 = .ok (.iconst 1, 1) := by decide +kernel
theorem dL_law_566 : decode cL_law 566 = .ok (.iadd, 1) := by decide +kernel
theorem dL_law_567 : decode cL_law 567 = .ok (.iaload, 1) := by decide +kernel
theorem dL_law_568 : decode cL_law 568 = .ok (.aload_n 0, 1) := by decide +kernel
theorem dL_law_569 : decode cL_law 569 = .ok (.iload_n 3, 1) := by decide +kernel
theorem dL_law_570 : decode cL_law 570 = .ok (.iconst 2, 1) := by decide +kernel
theorem dL_law_571 : decode cL_law 571 = .ok (.iadd, 1) := by decide +kernel
theorem dL_law_572 : decode cL_law 572 = .ok (.iaload, 1) := by decide +kernel
theorem dL_law_573 : decode cL_law 573 = .ok (.invokevirtual 58, 3) := by decide +kernel
theorem dL_law_576 : decode cL_law 576 = .ok (.aload_n 2, 1) := by decide +kernel
theorem dL_law_577 : decode cL_law 577 = .ok (.aload_n 0, 1) := by decide +kernel
theorem dL_law_578 : decode cL_law 578 = .ok (.iload_n 3, 1) := by decide +kernel
theorem dL_law_579 : decode cL_law 579 = .ok (.iconst 1, 1) := by decide +kernel
theorem dL_law_580 : decode cL_law 580 = .ok (.iadd, 1) := by decide +kernel
theorem dL_law_581 : decode cL_law 581 = .ok (.iaload, 1) := by decide +kernel
theorem dL_law_582 : decode cL_law 582 = .ok (.aload_n 0, 1) := by decide +kernel
theorem dL_law_583 : decode cL_law 583 = .ok (.iload_n 3, 1) := by decide +kernel
theorem dL_law_584 : decode cL_law 584 = .ok (.iconst 2, 1) := by decide +kernel
theorem dL_law_585 : decode cL_law 585 = .ok (.iadd, 1) := by decide +kernel
theorem dL_law_586 : decode cL_law 586 = .ok (.iaload, 1) := by decide +kernel
theorem dL_law_587 : decode cL_law 587 = .ok (.invokevirtual 61, 3) := by decide +kernel
theorem dL_law_590 : decode cL_law 590 = .ok (.if_icmp .eq 897, 3) := by decide +kernel
theorem dL_law_593 : decode cL_law 593 = .ok (.iconst 0, 1) := by decide +kernel
theorem dL_law_594 : decode cL_law 594 = .ok (.ireturn, 1) := by decide +kernel
theorem dL_law_595 : decode cL_law 595 = .ok (.aload_n 1, 1) := by decide +kernel
theorem dL_law_596 : decode cL_law 596 = .ok (.aload_n 0, 1) := by decide +kernel
theorem dL_law_597 : decode cL_law 597 = .ok (.iload_n 3, 1) := by decide +kernel
theorem dL_law_598 : decode cL_law 598 = .ok (.iconst 1, 1) := by decide +kernel
theorem dL_law_599 : decode cL_law 599 = .ok (.iadd, 1) := by decide +kernel
theorem dL_law_600 : decode cL_law 600 = .ok (.iaload, 1) := by decide +kernel
theorem dL_law_601 : decode cL_law 601 = .ok (.aload_n 0, 1) := by decide +kernel
theorem dL_law_602 : decode cL_law 602 = .ok (.iload_n 3, 1) := by decide +kernel
theorem dL_law_603 : decode cL_law 603 = .ok (.iconst 2, 1) := by decide +kernel
theorem dL_law_604 : decode cL_law 604 = .ok (.iadd, 1) := by decide +kernel
theorem dL_law_605 : decode cL_law 605 = .ok (.iaload, 1) := by decide +kernel
theorem dL_law_606 : decode cL_law 606 = .ok (.aload_n 0, 1) := by decide +kernel
theorem dL_law_607 : decode cL_law 607 = .ok (.iload_n 3, 1) := by decide +kernel
theorem dL_law_608 : decode cL_law 608 = .ok (.iconst 3, 1) := by decide +kernel
theorem dL_law_609 : decode cL_law 609 = .ok (.iadd, 1) := by decide +kernel
theorem dL_law_610 : decode cL_law 610 = .ok (.iaload, 1) := by decide +kernel
theorem dL_law_611 : decode cL_law 611 = .ok (.invokevirtual 62, 3) := by decide +kernel
theorem dL_law_614 : decode cL_law 614 = .ok (.aload_n 2, 1) := by decide +kernel
theorem dL_law_615 : decode cL_law 615 = .ok (.aload_n 0, 1) := by decide +kernel
theorem dL_law_616 : decode cL_law 616 = .ok (.iload_n 3, 1) := by decide +kernel
theorem dL_law_617 : decode cL_law 617 = .ok (.iconst 1, 1) := by decide +kernel
theorem dL_law_618 : decode cL_law 618 = .ok (.iadd, 1) := by decide +kernel
theorem dL_law_619 : decode cL_law 619 = .ok (.iaload, 1) := by decide +kernel
theorem dL_law_620 : decode cL_law 620 = .ok (.aload_n 0, 1) := by decide +kernel
theorem dL_law_621 : decode cL_law 621 = .ok (.iload_n 3, 1) := by decide +kernel
theorem dL_law_622 : decode cL_law 622 = .ok (.iconst 2, 1) := by decide +kernel
theorem dL_law_623 : decode cL_law 623 = .ok (.iadd, 1) := by decide +kernel
theorem dL_law_624 : decode cL_law 624 = .ok (.iaload, 1) := by decide +kernel
theorem dL_law_625 : decode cL_law 625 = .ok (.aload_n 0, 1) := by decide +kernel
theorem dL_law_626 : decode cL_law 626 = .ok (.iload_n 3, 1) := by decide +kernel
theorem dL_law_627 : decode cL_law 627 = .ok (.iconst 3, 1) := by decide +kernel
theorem dL_law_628 : decode cL_law 628 = .ok (.iadd, 1) := by decide +kernel
theorem dL_law_629 : decode cL_law 629 = .ok (.iaload, 1) := by decide +kernel
theorem dL_law_630 : decode cL_law 630 = .ok (.invokevirtual 65, 3) := by decide +kernel
theorem dL_law_633 : decode cL_law 633 = .ok (.if_icmp .eq 854, 3) := by decide +kernel
theorem dL_law_636 : decode cL_law 636 = .ok (.iconst 0, 1) := by decide +kernel
theorem dL_law_637 : decode cL_law 637 = .ok (.ireturn, 1) := by decide +kernel
theorem dL_law_638 : decode cL_law 638 = .ok (.aload_n 1, 1) := by decide +kernel
theorem dL_law_639 : decode cL_law 639 = .ok (.aload_n 0, 1) := by decide +kernel
theorem dL_law_640 : decode cL_law 640 = .ok (.iload_n 3, 1) := by decide +kernel
theorem dL_law_641 : decode cL_law 641 = .ok (.iconst 1, 1) := by decide +kernel
theorem dL_law_642 : decode cL_law 642 = .ok (.iadd, 1) := by decide +kernel
theorem dL_law_643 : decode cL_law 643 = .ok (.iaload, 1) := by decide +kernel
theorem dL_law_644 : decode cL_law 644 = .ok (.aload_n 0, 1) := by decide +kernel
theorem dL_law_645 : decode cL_law 645 = .ok (.iload_n 3, 1) := by decide +kernel
theorem dL_law_646 : decode cL_law 646 = .ok (.iconst 2, 1) := by decide +kernel
theorem dL_law_647 : decode cL_law 647 = .ok (.iadd, 1) := by decide +kernel
theorem dL_law_648 : decode cL_law 648 = .ok (.iaload, 1) := by decide +kernel
theorem dL_law_649 : decode cL_law 649 = .ok (.aload_n 0, 1) := by decide +kernel
theorem dL_law_650 : decode cL_law 650 = .ok (.iload_n 3, 1) := by decide +kernel
theorem dL_law_651 : decode cL_law 651 = .ok (.iconst 3, 1) := by decide +kernel
theorem dL_law_652 : decode cL_law 652 = .ok (.iadd, 1) := by decide +kernel
theorem dL_law_653 : decode cL_law 653 = .ok (.iaload, 1) := by decide +kernel
theorem dL_law_654 : decode cL_law 654 = .ok (.invokevirtual 66, 3) := by decide +kernel
theorem dL_law_657 : decode cL_law 657 = .ok (.aload_n 2, 1) := by decide +kernel
theorem dL_law_658 : decode cL_law 658 = .ok (.aload_n 0, 1) := by decide +kernel
theorem dL_law_659 : decode cL_law 659 = .ok (.iload_n 3, 1) := by decide +kernel
theorem dL_law_660 : decode cL_law 660 = .ok (.iconst 1, 1) := by decide +kernel
theorem dL_law_661 : decode cL_law 661 = .ok (.iadd, 1) := by decide +kernel
theorem dL_law_662 : decode cL_law 662 = .ok (.iaload, 1) := by decide +kernel
theorem dL_law_663 : decode cL_law 663 = .ok (.aload_n 0, 1) := by decide +kernel
theorem dL_law_664 : decode cL_law 664 = .ok (.iload_n 3, 1) := by decide +kernel
theorem dL_law_665 : decode cL_law 665 = .ok (.iconst 2, 1) := by decide +kernel
theorem dL_law_666 : decode cL_law 666 = .ok (.iadd, 1) := by decide +kernel
theorem dL_law_667 : decode cL_law 667 = .ok (.iaload, 1) := by decide +kernel
theorem dL_law_668 : decode cL_law 668 = .ok (.aload_n 0, 1) := by decide +kernel
theorem dL_law_669 : decode cL_law 669 = .ok (.iload_n 3, 1) := by decide +kernel
theorem dL_law_670 : decode cL_law 670 = .ok (.iconst 3, 1) := by decide +kernel
theorem dL_law_671 : decode cL_law 671 = .ok (.iadd, 1) := by decide +kernel
theorem dL_law_672 : decode cL_law 672 = .ok (.iaload, 1) := by decide +kernel
theorem dL_law_673 : decode cL_law 673 = .ok (.invokevirtual 69, 3) := by decide +kernel
theorem dL_law_676 : decode cL_law 676 = .ok (.if_icmp .eq 811, 3) := by decide +kernel
theorem dL_law_679 : decode cL_law 679 = .ok (.iconst 0, 1) := by decide +kernel
theorem dL_law_680 : decode cL_law 680 = .ok (.ireturn, 1) := by decide +kernel
theorem dL_law_681 : decode cL_law 681 = .ok (.aload_n 1, 1) := by decide +kernel
theorem dL_law_682 : decode cL_law 682 = .ok (.aload_n 0, 1) := by decide +kernel
theorem dL_law_683 : decode cL_law 683 = .ok (.iload_n 3, 1) := by decide +kernel
theorem dL_law_684 : decode cL_law 684 = .ok (.iconst 1, 1) := by decide +kernel
theorem dL_law_685 : decode cL_law 685 = .ok (.iadd, 1) := by decide +kernel
theorem dL_law_686 : decode cL_law 686 = .ok (.iaload, 1) := by decide +kernel
theorem dL_law_687 : decode cL_law 687 = .ok (.invokevirtual 70, 3) := by decide +kernel
theorem dL_law_690 : decode cL_law 690 = .ok (.aload_n 2, 1) := by decide +kernel
theorem dL_law_691 : decode cL_law 691 = .ok (.aload_n 0, 1) := by decide +kernel
theorem dL_law_692 : decode cL_law 692 = .ok (.iload_n 3, 1) := by decide +kernel
theorem dL_law_693 : decode cL_law 693 = .ok (.iconst 1, 1) := by decide +kernel
theorem dL_law_694 : decode cL_law 694 = .ok (.iadd, 1) := by decide +kernel
theorem dL_law_695 : decode cL_law 695 = .ok (.iaload, 1) := by decide +kernel
theorem dL_law_696 : decode cL_law 696 = .ok (.invokevirtual 73, 3) := by decide +kernel
theorem dL_law_699 : decode cL_law 699 = .ok (.if_icmp .eq 788, 3) := by decide +kernel
theorem dL_law_702 : decode cL_law 702 = .ok (.iconst 0, 1) := by decide +kernel
theorem dL_law_703 : decode cL_law 703 = .ok (.ireturn, 1) := by decide +kernel
theorem dL_law_704 : decode cL_law 704 = .ok (.aload_n 1, 1) := by decide +kernel
theorem dL_law_705 : decode cL_law 705 = .ok (.aload_n 0, 1) := by decide +kernel
theorem dL_law_706 : decode cL_law 706 = .ok (.iload_n 3, 1) := by decide +kernel
theorem dL_law_707 : decode cL_law 707 = .ok (.iconst 1, 1) := by decide +kernel
theorem dL_law_708 : decode cL_law 708 = .ok (.iadd, 1) := by decide +kernel
theorem dL_law_709 : decode cL_law 709 = .ok (.iaload, 1) := by decide +kernel
theorem dL_law_710 : decode cL_law 710 = .ok (.invokevirtual 74, 3) := by decide +kernel
theorem dL_law_713 : decode cL_law 713 = .ok (.aload_n 2, 1) := by decide +kernel
theorem dL_law_714 : decode cL_law 714 = .ok (.aload_n 0, 1) := by decide +kernel
theorem dL_law_715 : decode cL_law 715 = .ok (.iload_n 3, 1) := by decide +kernel
theorem dL_law_716 : decode cL_law 716 = .ok (.iconst 1, 1) := by decide +kernel
theorem dL_law_717 : decode cL_law 717 = .ok (.iadd, 1) := by decide +kernel
theorem dL_law_718 : decode cL_law 718 = .ok (.iaload, 1) := by decide +kernel
theorem dL_law_719 : decode cL_law 719 = .ok (.invokevirtual 77, 3) := by decide +kernel
theorem dL_law_722 : decode cL_law 722 = .ok (.if_icmp .eq 765, 3) := by decide +kernel
theorem dL_law_725 : decode cL_law 725 = .ok (.iconst 0, 1) := by decide +kernel
theorem dL_law_726 : decode cL_law 726 = .ok (.ireturn, 1) := by decide +kernel
theorem dL_law_727 : decode cL_law 727 = .ok (.aload_n 1, 1) := by decide +kernel
theorem dL_law_728 : decode cL_law 728 = .ok (.aload_n 0, 1) := by decide +kernel
theorem dL_law_729 : decode cL_law 729 = .ok (.iload_n 3, 1) := by decide +kernel
theorem dL_law_730 : decode cL_law 730 = .ok (.iconst 1, 1) := by decide +kernel
theorem dL_law_731 : decode cL_law 731 = .ok (.iadd, 1) := by decide +kernel
theorem dL_law_732 : decode cL_law 732 = .ok (.iaload, 1) := by decide +kernel
theorem dL_law_733 : decode cL_law 733 = .ok (.aload_n 0, 1) := by decide +kernel
theorem dL_law_734 : decode cL_law 734 = .ok (.iload_n 3, 1) := by decide +kernel
theorem dL_law_735 : decode cL_law 735 = .ok (.iconst 2, 1) := by decide +kernel
theorem dL_law_736 : decode cL_law 736 = .ok (.iadd, 1) := by decide +kernel
theorem dL_law_737 : decode cL_law 737 = .ok (.iaload, 1) := by decide +kernel
theorem dL_law_738 : decode cL_law 738 = .ok (.invokevirtual 78, 3) := by decide +kernel
theorem dL_law_741 : decode cL_law 741 = .ok (.aload_n 2, 1) := by decide +kernel
theorem dL_law_742 : decode cL_law 742 = .ok (.aload_n 0, 1) := by decide +kernel
theorem dL_law_743 : decode cL_law 743 = .ok (.iload_n 3, 1) := by decide +kernel
theorem dL_law_744 : decode cL_law 744 = .ok (.iconst 1, 1) := by decide +kernel
theorem dL_law_745 : decode cL_law 745 = .ok (.iadd, 1) := by decide +kernel
theorem dL_law_746 : decode cL_law 746 = .ok (.iaload, 1) := by decide +kernel
theorem dL_law_747 : decode cL_law 747 = .ok (.aload_n 0, 1) := by decide +kernel
theorem dL_law_748 : decode cL_law 748 = .ok (.iload_n 3, 1) := by decide +kernel
theorem dL_law_749 : decode cL_law 749 = .ok (.iconst 2, 1) := by decide +kernel
theorem dL_law_750 : decode cL_law 750 = .ok (.iadd, 1) := by decide +kernel
theorem dL_law_751 : decode cL_law 751 = .ok (.iaload, 1) := by decide +kernel
theorem dL_law_752 : decode cL_law 752 = .ok (.invokevirtual 81, 3) := by decide +kernel
theorem dL_law_755 : decode cL_law 755 = .ok (.if_icmp .eq 732, 3) := by decide +kernel
theorem dL_law_758 : decode cL_law 758 = .ok (.iconst 0, 1) := by decide +kernel
theorem dL_law_759 : decode cL_law 759 = .ok (.ireturn, 1) := by decide +kernel
theorem dL_law_760 : decode cL_law 760 = .ok (.aload_n 1, 1) := by decide +kernel
theorem dL_law_761 : decode cL_law 761 = .ok (.aload_n 0, 1) := by decide +kernel
theorem dL_law_762 : decode cL_law 762 = .ok (.iload_n 3, 1) := by decide +kernel
theorem dL_law_763 : decode cL_law 763 = .ok (.iconst 1, 1) := by decide +kernel
theorem dL_law_764 : decode cL_law 764 = .ok (.iadd, 1) := by decide +kernel
theorem dL_law_765 : decode cL_law 765 = .ok (.iaload, 1) := by decide +kernel
theorem dL_law_766 : decode cL_law 766 = .ok (.invokevirtual 82, 3) := by decide +kernel
theorem dL_law_769 : decode cL_law 769 = .ok (.aload_n 2, 1) := by decide +kernel
theorem dL_law_770 : decode cL_law 770 = .ok (.aload_n 0, 1) := by decide +kernel
theorem dL_law_771 : decode cL_law 771 = .ok (.iload_n 3, 1) := by decide +kernel
theorem dL_law_772 : decode cL_law 772 = .ok (.iconst 1, 1) := by decide +kernel
theorem dL_law_773 : decode cL_law 773 = .ok (.iadd, 1) := by decide +kernel
theorem dL_law_774 : decode cL_law 774 = .ok (.iaload, 1) := by decide +kernel
theorem dL_law_775 : decode cL_law 775 = .ok (.invokevirtual 85, 3) := by decide +kernel
theorem dL_law_778 : decode cL_law 778 = .ok (.if_icmp .eq 709, 3) := by decide +kernel
theorem dL_law_781 : decode cL_law 781 = .ok (.iconst 0, 1) := by decide +kernel
theorem dL_law_782 : decode cL_law 782 = .ok (.ireturn, 1) := by decide +kernel
theorem dL_law_783 : decode cL_law 783 = .ok (.aload_n 1, 1) := by decide +kernel
theorem dL_law_784 : decode cL_law 784 = .ok (.aload_n 0, 1) := by decide +kernel
theorem dL_law_785 : decode cL_law 785 = .ok (.iload_n 3, 1) := by decide +kernel
theorem dL_law_786 : decode cL_law 786 = .ok (.iconst 1, 1) := by decide +kernel
theorem dL_law_787 : decode cL_law 787 = .ok (.iadd, 1) := by decide +kernel
theorem dL_law_788 : decode cL_law 788 = .ok (.iaload, 1) := by decide +kernel
theorem dL_law_789 : decode cL_law 789 = .ok (.aload_n 0, 1) := by decide +kernel
theorem dL_law_790 : decode cL_law 790 = .ok (.iload_n 3, 1) := by decide +kernel
theorem dL_law_791 : decode cL_law 791 = .ok (.iconst 2, 1) := by decide +kernel
theorem dL_law_792 : decode cL_law 792 = .ok (.iadd, 1) := by decide +kernel
theorem dL_law_793 : decode cL_law 793 = .ok (.iaload, 1) := by decide +kernel
theorem dL_law_794 : decode cL_law 794 = .ok (.invokevirtual 86, 3) := by decide +kernel
theorem dL_law_797 : decode cL_law 797 = .ok (.aload_n 2, 1) := by decide +kernel
theorem dL_law_798 : decode cL_law 798 = .ok (.aload_n 0, 1) := by decide +kernel
theorem dL_law_799 : decode cL_law 799 = .ok (.iload_n 3, 1) := by decide +kernel
theorem dL_law_800 : decode cL_law 800 = .ok (.iconst 1, 1) := by decide +kernel
theorem dL_law_801 : decode cL_law 801 = .ok (.iadd, 1) := by decide +kernel
theorem dL_law_802 : decode cL_law 802 = .ok (.iaload, 1) := by decide +kernel
theorem dL_law_803 : decode cL_law 803 = .ok (.aload_n 0, 1) := by decide +kernel
theorem dL_law_804 : decode cL_law 804 = .ok (.iload_n 3, 1) := by decide +kernel
theorem dL_law_805 : decode cL_law 805 = .ok (.iconst 2, 1) := by decide +kernel
theorem dL_law_806 : decode cL_law 806 = .ok (.iadd, 1) := by decide +kernel
theorem dL_law_807 : decode cL_law 807 = .ok (.iaload, 1) := by decide +kernel
theorem dL_law_808 : decode cL_law 808 = .ok (.invokevirtual 89, 3) := by decide +kernel
theorem dL_law_811 : decode cL_law 811 = .ok (.if_icmp .eq 676, 3) := by decide +kernel
theorem dL_law_814 : decode cL_law 814 = .ok (.iconst 0, 1) := by decide +kernel
theorem dL_law_815 : decode cL_law 815 = .ok (.ireturn, 1) := by decide +kernel
theorem dL_law_816 : decode cL_law 816 = .ok (.aload_n 1, 1) := by decide +kernel
theorem dL_law_817 : decode cL_law 817 = .ok (.aload_n 0, 1) := by decide +kernel
theorem dL_law_818 : decode cL_law 818 = .ok (.iload_n 3, 1) := by decide +kernel
theorem dL_law_819 : decode cL_law 819 = .ok (.iconst 1, 1) := by decide +kernel
theorem dL_law_820 : decode cL_law 820 = .ok (.iadd, 1) := by decide +kernel
theorem dL_law_821 : decode cL_law 821 = .ok (.iaload, 1) := by decide +kernel
theorem dL_law_822 : decode cL_law 822 = .ok (.invokevirtual 90, 3) := by decide +kernel
theorem dL_law_825 : decode cL_law 825 = .ok (.aload_n 2, 1) := by decide +kernel
theorem dL_law_826 : decode cL_law 826 = .ok (.aload_n 0, 1) := by decide +kernel
theorem dL_law_827 : decode cL_law 827 = .ok (.iload_n 3, 1) := by decide +kernel
theorem dL_law_828 : decode cL_law 828 = .ok (.iconst 1, 1) := by decide +kernel
theorem dL_law_829 : decode cL_law 829 = .ok (.iadd, 1) := by decide +kernel
theorem dL_law_830 : decode cL_law 830 = .ok (.iaload, 1) := by decide +kernel
theorem dL_law_831 : decode cL_law 831 = .ok (.invokevirtual 93, 3) := by decide +kernel
theorem dL_law_834 : decode cL_law 834 = .ok (.if_icmp .eq 653, 3) := by decide +kernel
theorem dL_law_837 : decode cL_law 837 = .ok (.iconst 0, 1) := by decide +kernel
theorem dL_law_838 : decode cL_law 838 = .ok (.ireturn, 1) := by decide +kernel
theorem dL_law_839 : decode cL_law 839 = .ok (.aload_n 1, 1) := by decide +kernel
theorem dL_law_840 : decode cL_law 840 = .ok (.aload_n 0, 1) := by decide +kernel
theorem dL_law_841 : decode cL_law 841 = .ok (.iload_n 3, 1) := by decide +kernel
theorem dL_law_842 : decode cL_law 842 = .ok (.iconst 1, 1) := by decide +kernel
theorem dL_law_843 : decode cL_law 843 = .ok (.iadd, 1) := by decide +kernel
theorem dL_law_844 : decode cL_law 844 = .ok (.iaload, 1) := by decide +kernel
theorem dL_law_845 : decode cL_law 845 = .ok (.invokevirtual 94, 3) := by decide +kernel
theorem dL_law_848 : decode cL_law 848 = .ok (.aload_n 2, 1) := by decide +kernel
theorem dL_law_849 : decode cL_law 849 = .ok (.aload_n 0, 1) := by decide +kernel
theorem dL_law_850 : decode cL_law 850 = .ok (.iload_n 3, 1) := by decide +kernel
theorem dL_law_851 : decode cL_law 851 = .ok (.iconst 1, 1) := by decide +kernel
theorem dL_law_852 : decode cL_law 852 = .ok (.iadd, 1) := by decide +kernel
theorem dL_law_853 : decode cL_law 853 = .ok (.iaload, 1) := by decide +kernel
theorem dL_law_854 : decode cL_law 854 = .ok (.invokevirtual 97, 3) := by decide +kernel
theorem dL_law_857 : decode cL_law 857 = .ok (.if_icmp .eq 630, 3) := by decide +kernel
theorem dL_law_860 : decode cL_law 860 = .ok (.iconst 0, 1) := by decide +kernel
theorem dL_law_861 : decode cL_law 861 = .ok (.ireturn, 1) := by decide +kernel
theorem dL_law_862 : decode cL_law 862 = .ok (.aload_n 1, 1) := by decide +kernel
theorem dL_law_863 : decode cL_law 863 = .ok (.aload_n 0, 1) := by decide +kernel
theorem dL_law_864 : decode cL_law 864 = .ok (.iload_n 3, 1) := by decide +kernel
theorem dL_law_865 : decode cL_law 865 = .ok (.iconst 1, 1) := by decide +kernel
theorem dL_law_866 : decode cL_law 866 = .ok (.iadd, 1) := by decide +kernel
theorem dL_law_867 : decode cL_law 867 = .ok (.iaload, 1) := by decide +kernel
theorem dL_law_868 : decode cL_law 868 = .ok (.invokevirtual 98, 3) := by decide +kernel
theorem dL_law_871 : decode cL_law 871 = .ok (.aload_n 2, 1) := by decide +kernel
theorem dL_law_872 : decode cL_law 872 = .ok (.aload_n 0, 1) := by decide +kernel
theorem dL_law_873 : decode cL_law 873 = .ok (.iload_n 3, 1) := by decide +kernel
theorem dL_law_874 : decode cL_law 874 = .ok (.iconst 1, 1) := by decide +kernel
theorem dL_law_875 : decode cL_law 875 = .ok (.iadd, 1) := by decide +kernel
theorem dL_law_876 : decode cL_law 876 = .ok (.iaload, 1) := by decide +kernel
theorem dL_law_877 : decode cL_law 877 = .ok (.invokevirtual 101, 3) := by decide +kernel
theorem dL_law_880 : decode cL_law 880 = .ok (.if_icmp .eq 607, 3) := by decide +kernel
theorem dL_law_883 : decode cL_law 883 = .ok (.iconst 0, 1) := by decide +kernel
theorem dL_law_884 : decode cL_law 884 = .ok (.ireturn, 1) := by decide +kernel
theorem dL_law_885 : decode cL_law 885 = .ok (.aload_n 1, 1) := by decide +kernel
theorem dL_law_886 : decode cL_law 886 = .ok (.aload_n 0, 1) := by decide +kernel
theorem dL_law_887 : decode cL_law 887 = .ok (.iload_n 3, 1) := by decide +kernel
theorem dL_law_888 : decode cL_law 888 = .ok (.iconst 1, 1) := by decide +kernel
theorem dL_law_889 : decode cL_law 889 = .ok (.iadd, 1) := by decide +kernel
theorem dL_law_890 : decode cL_law 890 = .ok (.iaload, 1) := by decide +kernel
theorem dL_law_891 : decode cL_law 891 = .ok (.invokevirtual 102, 3) := by decide +kernel
theorem dL_law_894 : decode cL_law 894 = .ok (.aload_n 2, 1) := by decide +kernel
theorem dL_law_895 : decode cL_law 895 = .ok (.aload_n 0, 1) := by decide +kernel
theorem dL_law_896 : decode cL_law 896 = .ok (.iload_n 3, 1) := by decide +kernel
theorem dL_law_897 : decode cL_law 897 = .ok (.iconst 1, 1) := by decide +kernel
theorem dL_law_898 : decode cL_law 898 = .ok (.iadd, 1) := by decide +kernel
theorem dL_law_899 : decode cL_law 899 = .ok (.iaload, 1) := by decide +kernel
theorem dL_law_900 : decode cL_law 900 = .ok (.invokevirtual 105, 3) := by decide +kernel
theorem dL_law_903 : decode cL_law 903 = .ok (.if_icmp .eq 584, 3) := by decide +kernel
theorem dL_law_906 : decode cL_law 906 = .ok (.iconst 0, 1) := by decide +kernel
theorem dL_law_907 : decode cL_law 907 = .ok (.ireturn, 1) := by decide +kernel
theorem dL_law_908 : decode cL_law 908 = .ok (.aload_n 1, 1) := by decide +kernel
theorem dL_law_909 : decode cL_law 909 = .ok (.invokevirtual 106, 3) := by decide +kernel
theorem dL_law_912 : decode cL_law 912 = .ok (.aload_n 2, 1) := by decide +kernel
theorem dL_law_913 : decode cL_law 913 = .ok (.invokevirtual 109, 3) := by decide +kernel
theorem dL_law_916 : decode cL_law 916 = .ok (.if_icmp .eq 571, 3) := by decide +kernel
theorem dL_law_919 : decode cL_law 919 = .ok (.iconst 0, 1) := by decide +kernel
theorem dL_law_920 : decode cL_law 920 = .ok (.ireturn, 1) := by decide +kernel
theorem dL_law_921 : decode cL_law 921 = .ok (.aload_n 1, 1) := by decide +kernel
theorem dL_law_922 : decode cL_law 922 = .ok (.aload_n 0, 1) := by decide +kernel
theorem dL_law_923 : decode cL_law 923 = .ok (.iload_n 3, 1) := by decide +kernel
theorem dL_law_924 : decode cL_law 924 = .ok (.iconst 1, 1) := by decide +kernel
theorem dL_law_925 : decode cL_law 925 = .ok (.iadd, 1) := by decide +kernel
theorem dL_law_926 : decode cL_law 926 = .ok (.iaload, 1) := by decide +kernel
theorem dL_law_927 : decode cL_law 927 = .ok (.aload_n 0, 1) := by decide +kernel
theorem dL_law_928 : decode cL_law 928 = .ok (.iload_n 3, 1) := by decide +kernel
theorem dL_law_929 : decode cL_law 929 = .ok (.iconst 2, 1) := by decide +kernel
theorem dL_law_930 : decode cL_law 930 = .ok (.iadd, 1) := by decide +kernel
theorem dL_law_931 : decode cL_law 931 = .ok (.iaload, 1) := by decide +kernel
theorem dL_law_932 : decode cL_law 932 = .ok (.invokevirtual 110, 3) := by decide +kernel
theorem dL_law_935 : decode cL_law 935 = .ok (.aload_n 2, 1) := by decide +kernel
theorem dL_law_936 : decode cL_law 936 = .ok (.aload_n 0, 1) := by decide +kernel
theorem dL_law_937 : decode cL_law 937 = .ok (.iload_n 3, 1) := by decide +kernel
theorem dL_law_938 : decode cL_law 938 = .ok (.iconst 1, 1) := by decide +kernel
theorem dL_law_939 : decode cL_law 939 = .ok (.iadd, 1) := by decide +kernel
theorem dL_law_940 : decode cL_law 940 = .ok (.iaload, 1) := by decide +kernel
theorem dL_law_941 : decode cL_law 941 = .ok (.aload_n 0, 1) := by decide +kernel
theorem dL_law_942 : decode cL_law 942 = .ok (.iload_n 3, 1) := by decide +kernel
theorem dL_law_943 : decode cL_law 943 = .ok (.iconst 2, 1) := by decide +kernel
theorem dL_law_944 : decode cL_law 944 = .ok (.iadd, 1) := by decide +kernel
theorem dL_law_945 : decode cL_law 945 = .ok (.iaload, 1) := by decide +kernel
theorem dL_law_946 : decode cL_law 946 = .ok (.invokevirtual 113, 3) := by decide +kernel
theorem dL_law_949 : decode cL_law 949 = .ok (.if_icmp .eq 538, 3) := by decide +kernel
theorem dL_law_952 : decode cL_law 952 = .ok (.iconst 0, 1) := by decide +kernel
theorem dL_law_953 : decode cL_law 953 = .ok (.ireturn, 1) := by decide +kernel
theorem dL_law_954 : decode cL_law 954 = .ok (.aload_n 1, 1) := by decide +kernel
theorem dL_law_955 : decode cL_law 955 = .ok (.aload_n 0, 1) := by decide +kernel
theorem dL_law_956 : decode cL_law 956 = .ok (.iload_n 3, 1) := by decide +kernel
theorem dL_law_957 : decode cL_law 957 = .ok (.iconst 1, 1) := by decide +kernel
theorem dL_law_958 : decode cL_law 958 = .ok (.iadd, 1) := by decide +kernel
theorem dL_law_959 : decode cL_law 959 = .ok (.iaload, 1) := by decide +kernel
theorem dL_law_960 : decode cL_law 960 = .ok (.aload_n 0, 1) := by decide +kernel
theorem dL_law_961 : decode cL_law 961 = .ok (.iload_n 3, 1) := by decide +kernel
theorem dL_law_962 : decode cL_law 962 = .ok (.iconst 2, 1) := by decide +kernel
theorem dL_law_963 : decode cL_law 963 = .ok (.iadd, 1) := by decide +kernel
theorem dL_law_964 : decode cL_law 964 = .ok (.iaload, 1) := by decide +kernel
theorem dL_law_965 : decode cL_law 965 = .ok (.invokevirtual 114, 3) := by decide +kernel
theorem dL_law_968 : decode cL_law 968 = .ok (.aload_n 2, 1) := by decide +kernel
theorem dL_law_969 : decode cL_law 969 = .ok (.aload_n 0, 1) := by decide +kernel
theorem dL_law_970 : decode cL_law 970 = .ok (.iload_n 3, 1) := by decide +kernel
theorem dL_law_971 : decode cL_law 971 = .ok (.iconst 1, 1) := by decide +kernel
theorem dL_law_972 : decode cL_law 972 = .ok (.iadd, 1) := by decide +kernel
theorem dL_law_973 : decode cL_law 973 = .ok (.iaload, 1) := by decide +kernel
theorem dL_law_974 : decode cL_law 974 = .ok (.aload_n 0, 1) := by decide +kernel
theorem dL_law_975 : decode cL_law 975 = .ok (.iload_n 3, 1) := by decide +kernel
theorem dL_law_976 : decode cL_law 976 = .ok (.iconst 2, 1) := by decide +kernel
theorem dL_law_977 : decode cL_law 977 = .ok (.iadd, 1) := by decide +kernel
theorem dL_law_978 : decode cL_law 978 = .ok (.iaload, 1) := by decide +kernel
theorem dL_law_979 : decode cL_law 979 = .ok (.invokevirtual 117, 3) := by decide +kernel
theorem dL_law_982 : decode cL_law 982 = .ok (.if_icmp .eq 505, 3) := by decide +kernel
theorem dL_law_985 : decode cL_law 985 = .ok (.iconst 0, 1) := by decide +kernel
theorem dL_law_986 : decode cL_law 986 = .ok (.ireturn, 1) := by decide +kernel
theorem dL_law_987 : decode cL_law 987 = .ok (.aload_n 1, 1) := by decide +kernel
theorem dL_law_988 : decode cL_law 988 = .ok (.aload_n 0, 1) := by decide +kernel
theorem dL_law_989 : decode cL_law 989 = .ok (.iload_n 3, 1) := by decide +kernel
theorem dL_law_990 : decode cL_law 990 = .ok (.iconst 1, 1) := by decide +kernel
theorem dL_law_991 : decode cL_law 991 = .ok (.iadd, 1) := by decide +kernel
theorem dL_law_992 : decode cL_law 992 = .ok (.iaload, 1) := by decide +kernel
theorem dL_law_993 : decode cL_law 993 = .ok (.aload_n 0, 1) := by decide +kernel
theorem dL_law_994 : decode cL_law 994 = .ok (.iload_n 3, 1) := by decide +kernel
theorem dL_law_995 : decode cL_law 995 = .ok (.iconst 2, 1) := by decide +kernel
theorem dL_law_996 : decode cL_law 996 = .ok (.iadd, 1) := by decide +kernel
theorem dL_law_997 : decode cL_law 997 = .ok (.iaload, 1) := by decide +kernel
theorem dL_law_998 : decode cL_law 998 = .ok (.aload_n 0, 1) := by decide +kernel
theorem dL_law_999 : decode cL_law 999 = .ok (.iload_n 3, 1) := by decide +kernel
theorem dL_law_1000 : decode cL_law 1000 = .ok (.iconst 3, 1) := by decide +kernel
theorem dL_law_1001 : decode cL_law 1001 = .ok (.iadd, 1) := by decide +kernel
theorem dL_law_1002 : decode cL_law 1002 = .ok (.iaload, 1) := by decide +kernel
theorem dL_law_1003 : decode cL_law 1003 = .ok (.invokevirtual 118, 3) := by decide +kernel
theorem dL_law_1006 : decode cL_law 1006 = .ok (.aload_n 2, 1) := by decide +kernel
theorem dL_law_1007 : decode cL_law 1007 = .ok (.aload_n 0, 1) := by decide +kernel
theorem dL_law_1008 : decode cL_law 1008 = .ok (.iload_n 3, 1) := by decide +kernel
theorem dL_law_1009 : decode cL_law 1009 = .ok (.iconst 1, 1) := by decide +kernel
theorem dL_law_1010 : decode cL_law 1010 = .ok (.iadd, 1) := by decide +kernel
theorem dL_law_1011 : decode cL_law 1011 = .ok (.iaload, 1) := by decide +kernel
theorem dL_law_1012 : decode cL_law 1012 = .ok (.aload_n 0, 1) := by decide +kernel
theorem dL_law_1013 : decode cL_law 1013 = .ok (.iload_n 3, 1) := by decide +kernel
theorem dL_law_1014 : decode cL_law 1014 = .ok (.iconst 2, 1) := by decide +kernel
theorem dL_law_1015 : decode cL_law 1015 = .ok (.iadd, 1) := by decide +kernel
theorem dL_law_1016 : decode cL_law 1016 = .ok (.iaload, 1) := by decide +kernel
theorem dL_law_1017 : decode cL_law 1017 = .ok (.aload_n 0, 1) := by decide +kernel
theorem dL_law_1018 : decode cL_law 1018 = .ok (.iload_n 3, 1) := by decide +kernel
theorem dL_law_1019 : decode cL_law 1019 = .ok (.iconst 3, 1) := by decide +kernel
theorem dL_law_1020 : decode cL_law 1020 = .ok (.iadd, 1) := by decide +kernel
theorem dL_law_1021 : decode cL_law 1021 = .ok (.iaload, 1) := by decide +kernel
theorem dL_law_1022 : decode cL_law 1022 = .ok (.invokevirtual 121, 3) := by decide +kernel
theorem dL_law_1025 : decode cL_law 1025 = .ok (.if_icmp .eq 462, 3) := by decide +kernel
theorem dL_law_1028 : decode cL_law 1028 = .ok (.iconst 0, 1) := by decide +kernel
theorem dL_law_1029 : decode cL_law 1029 = .ok (.ireturn, 1) := by decide +kernel
theorem dL_law_1030 : decode cL_law 1030 = .ok (.aload_n 1, 1) := by decide +kernel
theorem dL_law_1031 : decode cL_law 1031 = .ok (.aload_n 0, 1) := by decide +kernel
theorem dL_law_1032 : decode cL_law 1032 = .ok (.iload_n 3, 1) := by decide +kernel
theorem dL_law_1033 : decode cL_law 1033 = .ok (.iconst 1, 1) := by decide +kernel
theorem dL_law_1034 : decode cL_law 1034 = .ok (.iadd, 1) := by decide +kernel
theorem dL_law_1035 : decode cL_law 1035 = .ok (.iaload, 1) := by decide +kernel
theorem dL_law_1036 : decode cL_law 1036 = .ok (.aload_n 0, 1) := by decide +kernel
theorem dL_law_1037 : decode cL_law 1037 = .ok (.iload_n 3, 1) := by decide +kernel
theorem dL_law_1038 : decode cL_law 1038 = .ok (.iconst 2, 1) := by decide +kernel
theorem dL_law_1039 : decode cL_law 1039 = .ok (.iadd, 1) := by decide +kernel
theorem dL_law_1040 : decode cL_law 1040 = .ok (.iaload, 1) := by decide +kernel
theorem dL_law_1041 : decode cL_law 1041 = .ok (.aload_n 0, 1) := by decide +kernel
theorem dL_law_1042 : decode cL_law 1042 = .ok (.iload_n 3, 1) := by decide +kernel
theorem dL_law_1043 : decode cL_law 1043 = .ok (.iconst 3, 1) := by decide +kernel
theorem dL_law_1044 : decode cL_law 1044 = .ok (.iadd, 1) := by decide +kernel
theorem dL_law_1045 : decode cL_law 1045 = .ok (.iaload, 1) := by decide +kernel
theorem dL_law_1046 : decode cL_law 1046 = .ok (.invokevirtual 122, 3) := by decide +kernel
theorem dL_law_1049 : decode cL_law 1049 = .ok (.aload_n 2, 1) := by decide +kernel
theorem dL_law_1050 : decode cL_law 1050 = .ok (.aload_n 0, 1) := by decide +kernel
theorem dL_law_1051 : decode cL_law 1051 = .ok (.iload_n 3, 1) := by decide +kernel
theorem dL_law_1052 : decode cL_law 1052 = .ok (.iconst 1, 1) := by decide +kernel
theorem dL_law_1053 : decode cL_law 1053 = .ok (.iadd, 1) := by decide +kernel
theorem dL_law_1054 : decode cL_law 1054 = .ok (.iaload, 1) := by decide +kernel
theorem dL_law_1055 : decode cL_law 1055 = .ok (.aload_n 0, 1) := by decide +kernel
theorem dL_law_1056 : decode cL_law 1056 = .ok (.iload_n 3, 1) := by decide +kernel
theorem dL_law_1057 : decode cL_law 1057 = .ok (.iconst 2, 1) := by decide +kernel
theorem dL_law_1058 : decode cL_law 1058 = .ok (.iadd, 1) := by decide +kernel
theorem dL_law_1059 : decode cL_law 1059 = .ok (.iaload, 1) := by decide +kernel
theorem dL_law_1060 : decode cL_law 1060 = .ok (.aload_n 0, 1) := by decide +kernel
theorem dL_law_1061 : decode cL_law 1061 = .ok (.iload_n 3, 1) := by decide +kernel
theorem dL_law_1062 : decode cL_law 1062 = .ok (.iconst 3, 1) := by decide +kernel
theorem dL_law_1063 : decode cL_law 1063 = .ok (.iadd, 1) := by decide +kernel
theorem dL_law_1064 : decode cL_law 1064 = .ok (.iaload, 1) := by decide +kernel
theorem dL_law_1065 : decode cL_law 1065 = .ok (.invokevirtual 125, 3) := by decide +kernel
theorem dL_law_1068 : decode cL_law 1068 = .ok (.if_icmp .eq 419, 3) := by decide +kernel
theorem dL_law_1071 : decode cL_law 1071 = .ok (.iconst 0, 1) := by decide +kernel
theorem dL_law_1072 : decode cL_law 1072 = .ok (.ireturn, 1) := by decide +kernel
theorem dL_law_1073 : decode cL_law 1073 = .ok (.aload_n 1, 1) := by decide +kernel
theorem dL_law_1074 : decode cL_law 1074 = .ok (.aload_n 0, 1) := by decide +kernel
theorem dL_law_1075 : decode cL_law 1075 = .ok (.iload_n 3, 1) := by decide +kernel
theorem dL_law_1076 : decode cL_law 1076 = .ok (.iconst 1, 1) := by decide +kernel
theorem dL_law_1077 : decode cL_law 1077 = .ok (.iadd, 1) := by decide +kernel
theorem dL_law_1078 : decode cL_law 1078 = .ok (.iaload, 1) := by decide +kernel
theorem dL_law_1079 : decode cL_law 1079 = .ok (.aload_n 0, 1) := by decide +kernel
theorem dL_law_1080 : decode cL_law 1080 = .ok (.iload_n 3, 1) := by decide +kernel
theorem dL_law_1081 : decode cL_law 1081 = .ok (.iconst 2, 1) := by decide +kernel
theorem dL_law_1082 : decode cL_law 1082 = .ok (.iadd, 1) := by decide +kernel
theorem dL_law_1083 : decode cL_law 1083 = .ok (.iaload, 1) := by decide +kernel
theorem dL_law_1084 : decode cL_law 1084 = .ok (.invokevirtual 126, 3) := by decide +kernel
theorem dL_law_1087 : decode cL_law 1087 = .ok (.aload_n 2, 1) := by decide +kernel
theorem dL_law_1088 : decode cL_law 1088 = .ok (.aload_n 0, 1) := by decide +kernel
theorem dL_law_1089 : decode cL_law 1089 = .ok (.iload_n 3, 1) := by decide +kernel
theorem dL_law_1090 : decode cL_law 1090 = .ok (.iconst 1, 1) := by decide +kernel
theorem dL_law_1091 : decode cL_law 1091 = .ok (.iadd, 1) := by decide +kernel
theorem dL_law_1092 : decode cL_law 1092 = .ok (.iaload, 1) := by decide +kernel
theorem dL_law_1093 : decode cL_law 1093 = .ok (.aload_n 0, 1) := by decide +kernel
theorem dL_law_1094 : decode cL_law 1094 = .ok (.iload_n 3, 1) := by decide +kernel
theorem dL_law_1095 : decode cL_law 1095 = .ok (.iconst 2, 1) := by decide +kernel
theorem dL_law_1096 : decode cL_law 1096 = .ok (.iadd, 1) := by decide +kernel
theorem dL_law_1097 : decode cL_law 1097 = .ok (.iaload, 1) := by decide +kernel
theorem dL_law_1098 : decode cL_law 1098 = .ok (.invokevirtual 129, 3) := by decide +kernel
theorem dL_law_1101 : decode cL_law 1101 = .ok (.if_icmp .eq 386, 3) := by decide +kernel
theorem dL_law_1104 : decode cL_law 1104 = .ok (.iconst 0, 1) := by decide +kernel
theorem dL_law_1105 : decode cL_law 1105 = .ok (.ireturn, 1) := by decide +kernel
theorem dL_law_1106 : decode cL_law 1106 = .ok (.aload_n 1, 1) := by decide +kernel
theorem dL_law_1107 : decode cL_law 1107 = .ok (.aload_n 0, 1) := by decide +kernel
theorem dL_law_1108 : decode cL_law 1108 = .ok (.iload_n 3, 1) := by decide +kernel
theorem dL_law_1109 : decode cL_law 1109 = .ok (.iconst 1, 1) := by decide +kernel
theorem dL_law_1110 : decode cL_law 1110 = .ok (.iadd, 1) := by decide +kernel
theorem dL_law_1111 : decode cL_law 1111 = .ok (.iaload, 1) := by decide +kernel
theorem dL_law_1112 : decode cL_law 1112 = .ok (.aload_n 0, 1) := by decide +kernel
theorem dL_law_1113 : decode cL_law 1113 = .ok (.iload_n 3, 1) := by decide +kernel
theorem dL_law_1114 : decode cL_law 1114 = .ok (.iconst 2, 1) := by decide +kernel
theorem dL_law_1115 : decode cL_law 1115 = .ok (.iadd, 1) := by decide +kernel
theorem dL_law_1116 : decode cL_law 1116 = .ok (.iaload, 1) := by decide +kernel
theorem dL_law_1117 : decode cL_law 1117 = .ok (.invokevirtual 130, 3) := by decide +kernel
theorem dL_law_1120 : decode cL_law 1120 = .ok (.aload_n 2, 1) := by decide +kernel
theorem dL_law_1121 : decode cL_law 1121 = .ok (.aload_n 0, 1) := by decide +kernel
theorem dL_law_1122 : decode cL_law 1122 = .ok (.iload_n 3, 1) := by decide +kernel
theorem dL_law_1123 : decode cL_law 1123 = .ok (.iconst 1, 1) := by decide +kernel
theorem dL_law_1124 : decode cL_law 1124 = .ok (.iadd, 1) := by decide +kernel
theorem dL_law_1125 : decode cL_law 1125 = .ok (.iaload, 1) := by decide +kernel
theorem dL_law_1126 : decode cL_law 1126 = .ok (.aload_n 0, 1) := by decide +kernel
theorem dL_law_1127 : decode cL_law 1127 = .ok (.iload_n 3, 1) := by decide +kernel
theorem dL_law_1128 : decode cL_law 1128 = .ok (.iconst 2, 1) := by decide +kernel
theorem dL_law_1129 : decode cL_law 1129 = .ok (.iadd, 1) := by decide +kernel
theorem dL_law_1130 : decode cL_law 1130 = .ok (.iaload, 1) := by decide +kernel
theorem dL_law_1131 : decode cL_law 1131 = .ok (.invokevirtual 133, 3) := by decide +kernel
theorem dL_law_1134 : decode cL_law 1134 = .ok (.if_icmp .eq 353, 3) := by decide +kernel
theorem dL_law_1137 : decode cL_law 1137 = .ok (.iconst 0, 1) := by decide +kernel
theorem dL_law_1138 : decode cL_law 1138 = .ok (.ireturn, 1) := by decide +kernel
theorem dL_law_1139 : decode cL_law 1139 = .ok (.aload_n 1, 1) := by decide +kernel
theorem dL_law_1140 : decode cL_law 1140 = .ok (.aload_n 0, 1) := by decide +kernel
theorem dL_law_1141 : decode cL_law 1141 = .ok (.iload_n 3, 1) := by decide +kernel
theorem dL_law_1142 : decode cL_law 1142 = .ok (.iconst 1, 1) := by decide +kernel
theorem dL_law_1143 : decode cL_law 1143 = .ok (.iadd, 1) := by decide +kernel
theorem dL_law_1144 : decode cL_law 1144 = .ok (.iaload, 1) := by decide +kernel
theorem dL_law_1145 : decode cL_law 1145 = .ok (.aload_n 0, 1) := by decide +kernel
theorem dL_law_1146 : decode cL_law 1146 = .ok (.iload_n 3, 1) := by decide +kernel
theorem dL_law_1147 : decode cL_law 1147 = .ok (.iconst 2, 1) := by decide +kernel
theorem dL_law_1148 : decode cL_law 1148 = .ok (.iadd, 1) := by decide +kernel
theorem dL_law_1149 : decode cL_law 1149 = .ok (.iaload, 1) := by decide +kernel
theorem dL_law_1150 : decode cL_law 1150 = .ok (.invokevirtual 134, 3) := by decide +kernel
theorem dL_law_1153 : decode cL_law 1153 = .ok (.aload_n 2, 1) := by decide +kernel
theorem dL_law_1154 : decode cL_law 1154 = .ok (.aload_n 0, 1) := by decide +kernel
theorem dL_law_1155 : decode cL_law 1155 = .ok (.iload_n 3, 1) := by decide +kernel
theorem dL_law_1156 : decode cL_law 1156 = .ok (.iconst 1, 1) := by decide +kernel
theorem dL_law_1157 : decode cL_law 1157 = .ok (.iadd, 1) := by decide +kernel
theorem dL_law_1158 : decode cL_law 1158 = .ok (.iaload, 1) := by decide +kernel
theorem dL_law_1159 : decode cL_law 1159 = .ok (.aload_n 0, 1) := by decide +kernel
theorem dL_law_1160 : decode cL_law 1160 = .ok (.iload_n 3, 1) := by decide +kernel
theorem dL_law_1161 : decode cL_law 1161 = .ok (.iconst 2, 1) := by decide +kernel
theorem dL_law_1162 : decode cL_law 1162 = .ok (.iadd, 1) := by decide +kernel
theorem dL_law_1163 : decode cL_law 1163 = .ok (.iaload, 1) := by decide +kernel
theorem dL_law_1164 : decode cL_law 1164 = .ok (.invokevirtual 137, 3) := by decide +kernel
theorem dL_law_1167 : decode cL_law 1167 = .ok (.if_icmp .eq 320, 3) := by decide +kernel
theorem dL_law_1170 : decode cL_law 1170 = .ok (.iconst 0, 1) := by decide +kernel
theorem dL_law_1171 : decode cL_law 1171 = .ok (.ireturn, 1) := by decide +kernel
theorem dL_law_1172 : decode cL_law 1172 = .ok (.aload_n 1, 1) := by decide +kernel
theorem dL_law_1173 : decode cL_law 1173 = .ok (.aload_n 0, 1) := by decide +kernel
theorem dL_law_1174 : decode cL_law 1174 = .ok (.iload_n 3, 1) := by decide +kernel
theorem dL_law_1175 : decode cL_law 1175 = .ok (.iconst 1, 1) := by decide +kernel
theorem dL_law_1176 : decode cL_law 1176 = .ok (.iadd, 1) := by decide +kernel
theorem dL_law_1177 : decode cL_law 1177 = .ok (.iaload, 1) := by decide +kernel
theorem dL_law_1178 : decode cL_law 1178 = .ok (.aload_n 0, 1) := by decide +kernel
theorem dL_law_1179 : decode cL_law 1179 = .ok (.iload_n 3, 1) := by decide +kernel
theorem dL_law_1180 : decode cL_law 1180 = .ok (.iconst 2, 1) := by decide +kernel
theorem dL_law_1181 : decode cL_law 1181 = .ok (.iadd, 1) := by decide +kernel
theorem dL_law_1182 : decode cL_law 1182 = .ok (.iaload, 1) := by decide +kernel
theorem dL_law_1183 : decode cL_law 1183 = .ok (.aload_n 0, 1) := by decide +kernel
theorem dL_law_1184 : decode cL_law 1184 = .ok (.iload_n 3, 1) := by decide +kernel
theorem dL_law_1185 : decode cL_law 1185 = .ok (.iconst 3, 1) := by decide +kernel
theorem dL_law_1186 : decode cL_law 1186 = .ok (.iadd, 1) := by decide +kernel
theorem dL_law_1187 : decode cL_law 1187 = .ok (.iaload, 1) := by decide +kernel
theorem dL_law_1188 : decode cL_law 1188 = .ok (.aload_n 0, 1) := by decide +kernel
theorem dL_law_1189 : decode cL_law 1189 = .ok (.iload_n 3, 1) := by decide +kernel
theorem dL_law_1190 : decode cL_law 1190 = .ok (.iconst 4, 1) := by decide +kernel
theorem dL_law_1191 : decode cL_law 1191 = .ok (.iadd, 1) := by decide +kernel
theorem dL_law_1192 : decode cL_law 1192 = .ok (.iaload, 1) := by decide +kernel
theorem dL_law_1193 : decode cL_law 1193 = .ok (.invokevirtual 138, 3) := by decide +kernel
theorem dL_law_1196 : decode cL_law 1196 = .ok (.aload_n 2, 1) := by decide +kernel
theorem dL_law_1197 : decode cL_law 1197 = .ok (.aload_n 0, 1) := by decide +kernel
theorem dL_law_1198 : decode cL_law 1198 = .ok (.iload_n 3, 1) := by decide +kernel
theorem dL_law_1199 : decode cL_law 1199 = .ok (.iconst 1, 1) := by decide +kernel
theorem dL_law_1200 : decode cL_law 1200 = .ok (.iadd, 1) := by decide +kernel
theorem dL_law_1201 : decode cL_law 1201 = .ok (.iaload, 1) := by decide +kernel
theorem dL_law_1202 : decode cL_law 1202 = .ok (.aload_n 0, 1) := by decide +kernel
theorem dL_law_1203 : decode cL_law 1203 = .ok (.iload_n 3, 1) := by decide +kernel
theorem dL_law_1204 : decode cL_law 1204 = .ok (.iconst 2, 1) := by decide +kernel
theorem dL_law_1205 : decode cL_law 1205 = .ok (.iadd, 1) := by decide +kernel
theorem dL_law_1206 : decode cL_law 1206 = .ok (.iaload, 1) := by decide +kernel
theorem dL_law_1207 : decode cL_law 1207 = .ok (.aload_n 0, 1) := by decide +kernel
theorem dL_law_1208 : decode cL_law 1208 = .ok (.iload_n 3, 1) := by decide +kernel
theorem dL_law_1209 : decode cL_law 1209 = .ok (.iconst 3, 1) := by decide +kernel
theorem dL_law_1210 : decode cL_law 1210 = .ok (.iadd, 1) := by decide +kernel
theorem dL_law_1211 : decode cL_law 1211 = .ok (.iaload, 1) := by decide +kernel
theorem dL_law_1212 : decode cL_law 1212 = .ok (.aload_n 0, 1) := by decide +kernel
theorem dL_law_1213 : decode cL_law 1213 = .ok (.iload_n 3, 1) := by decide +kernel
theorem dL_law_1214 : decode cL_law 1214 = .ok (.iconst 4, 1) := by decide +kernel
theorem dL_law_1215 : decode cL_law 1215 = .ok (.iadd, 1) := by decide +kernel
theorem dL_law_1216 : decode cL_law 1216 = .ok (.iaload, 1) := by decide +kernel
theorem dL_law_1217 : decode cL_law 1217 = .ok (.invokevirtual 142, 3) := by decide +kernel
theorem dL_law_1220 : decode cL_law 1220 = .ok (.lcmp, 1) := by decide +kernel
theorem dL_law_1221 : decode cL_law 1221 = .ok (.ifCond .eq 266, 3) := by decide +kernel
theorem dL_law_1224 : decode cL_law 1224 = .ok (.iconst 0, 1) := by decide +kernel
theorem dL_law_1225 : decode cL_law 1225 = .ok (.ireturn, 1) := by decide +kernel
theorem dL_law_1226 : decode cL_law 1226 = .ok (.aload_n 1, 1) := by decide +kernel
theorem dL_law_1227 : decode cL_law 1227 = .ok (.invokevirtual 143, 3) := by decide +kernel
theorem dL_law_1230 : decode cL_law 1230 = .ok (.aload_n 2, 1) := by decide +kernel
theorem dL_law_1231 : decode cL_law 1231 = .ok (.invokevirtual 146, 3) := by decide +kernel
theorem dL_law_1234 : decode cL_law 1234 = .ok (.if_icmp .eq 253, 3) := by decide +kernel
theorem dL_law_1237 : decode cL_law 1237 = .ok (.iconst 0, 1) := by decide +kernel
theorem dL_law_1238 : decode cL_law 1238 = .ok (.ireturn, 1) := by decide +kernel
theorem dL_law_1239 : decode cL_law 1239 = .ok (.aload_n 1, 1) := by decide +kernel
theorem dL_law_1240 : decode cL_law 1240 = .ok (.invokevirtual 147, 3) := by decide +kernel
theorem dL_law_1243 : decode cL_law 1243 = .ok (.aload_n 2, 1) := by decide +kernel
theorem dL_law_1244 : decode cL_law 1244 = .ok (.invokevirtual 150, 3) := by decide +kernel
theorem dL_law_1247 : decode cL_law 1247 = .ok (.if_icmp .eq 240, 3) := by decide +kernel
theorem dL_law_1250 : decode cL_law 1250 = .ok (.iconst 0, 1) := by decide +kernel
theorem dL_law_1251 : decode cL_law 1251 = .ok (.ireturn, 1) := by decide +kernel
theorem dL_law_1252 : decode cL_law 1252 = .ok (.aload_n 1, 1) := by decide +kernel
theorem dL_law_1253 : decode cL_law 1253 = .ok (.aload_n 0, 1) := by decide +kernel
theorem dL_law_1254 : decode cL_law 1254 = .ok (.iload_n 3, 1) := by decide +kernel
theorem dL_law_1255 : decode cL_law 1255 = .ok (.iconst 1, 1) := by decide +kernel
theorem dL_law_1256 : decode cL_law 1256 = .ok (.iadd, 1) := by decide +kernel
theorem dL_law_1257 : decode cL_law 1257 = .ok (.iaload, 1) := by decide +kernel
theorem dL_law_1258 : decode cL_law 1258 = .ok (.aload_n 0, 1) := by decide +kernel
theorem dL_law_1259 : decode cL_law 1259 = .ok (.iload_n 3, 1) := by decide +kernel
theorem dL_law_1260 : decode cL_law 1260 = .ok (.iconst 2, 1) := by decide +kernel
theorem dL_law_1261 : decode cL_law 1261 = .ok (.iadd, 1) := by decide +kernel
theorem dL_law_1262 : decode cL_law 1262 = .ok (.iaload, 1) := by decide +kernel
theorem dL_law_1263 : decode cL_law 1263 = .ok (.aload_n 0, 1) := by decide +kernel
theorem dL_law_1264 : decode cL_law 1264 = .ok (.iload_n 3, 1) := by decide +kernel
theorem dL_law_1265 : decode cL_law 1265 = .ok (.iconst 3, 1) := by decide +kernel
theorem dL_law_1266 : decode cL_law 1266 = .ok (.iadd, 1) := by decide +kernel
theorem dL_law_1267 : decode cL_law 1267 = .ok (.iaload, 1) := by decide +kernel
theorem dL_law_1268 : decode cL_law 1268 = .ok (.invokevirtual 151, 3) := by decide +kernel
theorem dL_law_1271 : decode cL_law 1271 = .ok (.aload_n 2, 1) := by decide +kernel
theorem dL_law_1272 : decode cL_law 1272 = .ok (.aload_n 0, 1) := by decide +kernel
theorem dL_law_1273 : decode cL_law 1273 = .ok (.iload_n 3, 1) := by decide +kernel
theorem dL_law_1274 : decode cL_law 1274 = .ok (.iconst 1, 1) := by decide +kernel
theorem dL_law_1275 : decode cL_law 1275 = .ok (.iadd, 1) := by decide +kernel
theorem dL_law_1276 : decode cL_law 1276 = .ok (.iaload, 1) := by decide +kernel
theorem dL_law_1277 : decode cL_law 1277 = .ok (.aload_n 0, 1) := by decide +kernel
theorem dL_law_1278 : decode cL_law 1278 = .ok (.iload_n 3, 1) := by decide +kernel
theorem dL_law_1279 : decode cL_law 1279 = .ok (.iconst 2, 1) := by decide +kernel
theorem dL_law_1280 : decode cL_law 1280 = .ok (.iadd, 1) := by decide +kernel
theorem dL_law_1281 : decode cL_law 1281 = .ok (.iaload, 1) := by decide +kernel
theorem dL_law_1282 : decode cL_law 1282 = .ok (.aload_n 0, 1) := by decide +kernel
theorem dL_law_1283 : decode cL_law 1283 = .ok (.iload_n 3, 1) := by decide +kernel
theorem dL_law_1284 : decode cL_law 1284 = .ok (.iconst 3, 1) := by decide +kernel
theorem dL_law_1285 : decode cL_law 1285 = .ok (.iadd, 1) := by decide +kernel
theorem dL_law_1286 : decode cL_law 1286 = .ok (.iaload, 1) := by decide +kernel
theorem dL_law_1287 : decode cL_law 1287 = .ok (.invokevirtual 154, 3) := by decide +kernel
theorem dL_law_1290 : decode cL_law 1290 = .ok (.if_icmp .eq 197, 3) := by decide +kernel
theorem dL_law_1293 : decode cL_law 1293 = .ok (.iconst 0, 1) := by decide +kernel
theorem dL_law_1294 : decode cL_law 1294 = .ok (.ireturn, 1) := by decide +kernel
theorem dL_law_1295 : decode cL_law 1295 = .ok (.aload_n 1, 1) := by decide +kernel
theorem dL_law_1296 : decode cL_law 1296 = .ok (.aload_n 0, 1) := by decide +kernel
theorem dL_law_1297 : decode cL_law 1297 = .ok (.iload_n 3, 1) := by decide +kernel
theorem dL_law_1298 : decode cL_law 1298 = .ok (.iconst 1, 1) := by decide +kernel
theorem dL_law_1299 : decode cL_law 1299 = .ok (.iadd, 1) := by decide +kernel
theorem dL_law_1300 : decode cL_law 1300 = .ok (.iaload, 1) := by decide +kernel
theorem dL_law_1301 : decode cL_law 1301 = .ok (.aload_n 0, 1) := by decide +kernel
theorem dL_law_1302 : decode cL_law 1302 = .ok (.iload_n 3, 1) := by decide +kernel
theorem dL_law_1303 : decode cL_law 1303 = .ok (.iconst 2, 1) := by decide +kernel
theorem dL_law_1304 : decode cL_law 1304 = .ok (.iadd, 1) := by decide +kernel
theorem dL_law_1305 : decode cL_law 1305 = .ok (.iaload, 1) := by decide +kernel
theorem dL_law_1306 : decode cL_law 1306 = .ok (.aload_n 0, 1) := by decide +kernel
theorem dL_law_1307 : decode cL_law 1307 = .ok (.iload_n 3, 1) := by decide +kernel
theorem dL_law_1308 : decode cL_law 1308 = .ok (.iconst 3, 1) := by decide +kernel
theorem dL_law_1309 : decode cL_law 1309 = .ok (.iadd, 1) := by decide +kernel
theorem dL_law_1310 : decode cL_law 1310 = .ok (.iaload, 1) := by decide +kernel
theorem dL_law_1311 : decode cL_law 1311 = .ok (.invokevirtual 155, 3) := by decide +kernel
theorem dL_law_1314 : decode cL_law 1314 = .ok (.aload_n 2, 1) := by decide +kernel
theorem dL_law_1315 : decode cL_law 1315 = .ok (.aload_n 0, 1) := by decide +kernel
theorem dL_law_1316 : decode cL_law 1316 = .ok (.iload_n 3, 1) := by decide +kernel
theorem dL_law_1317 : decode cL_law 1317 = .ok (.iconst 1, 1) := by decide +kernel
theorem dL_law_1318 : decode cL_law 1318 = .ok (.iadd, 1) := by decide +kernel
theorem dL_law_1319 : decode cL_law 1319 = .ok (.iaload, 1) := by decide +kernel
theorem dL_law_1320 : decode cL_law 1320 = .ok (.aload_n 0, 1) := by decide +kernel
theorem dL_law_1321 : decode cL_law 1321 = .ok (.iload_n 3, 1) := by decide +kernel
theorem dL_law_1322 : decode cL_law 1322 = .ok (.iconst 2, 1) := by decide +kernel
theorem dL_law_1323 : decode cL_law 1323 = .ok (.iadd, 1) := by decide +kernel
theorem dL_law_1324 : decode cL_law 1324 = .ok (.iaload, 1) := by decide +kernel
theorem dL_law_1325 : decode cL_law 1325 = .ok (.aload_n 0, 1) := by decide +kernel
theorem dL_law_1326 : decode cL_law 1326 = .ok (.iload_n 3, 1) := by decide +kernel
theorem dL_law_1327 : decode cL_law 1327 = .ok (.iconst 3, 1) := by decide +kernel
theorem dL_law_1328 : decode cL_law 1328 = .ok (.iadd, 1) := by decide +kernel
theorem dL_law_1329 : decode cL_law 1329 = .ok (.iaload, 1) := by decide +kernel
theorem dL_law_1330 : decode cL_law 1330 = .ok (.invokevirtual 158, 3) := by decide +kernel
theorem dL_law_1333 : decode cL_law 1333 = .ok (.if_icmp .eq 154, 3) := by decide +kernel
theorem dL_law_1336 : decode cL_law 1336 = .ok (.iconst 0, 1) := by decide +kernel
theorem dL_law_1337 : decode cL_law 1337 = .ok (.ireturn, 1) := by decide +kernel
theorem dL_law_1338 : decode cL_law 1338 = .ok (.aload_n 1, 1) := by decide +kernel
theorem dL_law_1339 : decode cL_law 1339 = .ok (.aload_n 0, 1) := by decide +kernel
theorem dL_law_1340 : decode cL_law 1340 = .ok (.iload_n 3, 1) := by decide +kernel
theorem dL_law_1341 : decode cL_law 1341 = .ok (.iconst 1, 1) := by decide +kernel
theorem dL_law_1342 : decode cL_law 1342 = .ok (.iadd, 1) := by decide +kernel
theorem dL_law_1343 : decode cL_law 1343 = .ok (.iaload, 1) := by decide +kernel
theorem dL_law_1344 : decode cL_law 1344 = .ok (.aload_n 0, 1) := by decide +kernel
theorem dL_law_1345 : decode cL_law 1345 = .ok (.iload_n 3, 1) := by decide +kernel
theorem dL_law_1346 : decode cL_law 1346 = .ok (.iconst 2, 1) := by decide +kernel
theorem dL_law_1347 : decode cL_law 1347 = .ok (.iadd, 1) := by decide +kernel
theorem dL_law_1348 : decode cL_law 1348 = .ok (.iaload, 1) := by decide +kernel
theorem dL_law_1349 : decode cL_law 1349 = .ok (.aload_n 0, 1) := by decide +kernel
theorem dL_law_1350 : decode cL_law 1350 = .ok (.iload_n 3, 1) := by decide +kernel
theorem dL_law_1351 : decode cL_law 1351 = .ok (.iconst 3, 1) := by decide +kernel
theorem dL_law_1352 : decode cL_law 1352 = .ok (.iadd, 1) := by decide +kernel
theorem dL_law_1353 : decode cL_law 1353 = .ok (.iaload, 1) := by decide +kernel
theorem dL_law_1354 : decode cL_law 1354 = .ok (.aload_n 0, 1) := by decide +kernel
theorem dL_law_1355 : decode cL_law 1355 = .ok (.iload_n 3, 1) := by decide +kernel
theorem dL_law_1356 : decode cL_law 1356 = .ok (.iconst 4, 1) := by decide +kernel
theorem dL_law_1357 : decode cL_law 1357 = .ok (.iadd, 1) := by decide +kernel
theorem dL_law_1358 : decode cL_law 1358 = .ok (.iaload, 1) := by decide +kernel
theorem dL_law_1359 : decode cL_law 1359 = .ok (.aload_n 0, 1) := by decide +kernel
theorem dL_law_1360 : decode cL_law 1360 = .ok (.iload_n 3, 1) := by decide +kernel
theorem dL_law_1361 : decode cL_law 1361 = .ok (.iconst 5, 1) := by decide +kernel
theorem dL_law_1362 : decode cL_law 1362 = .ok (.iadd, 1) := by decide +kernel
theorem dL_law_1363 : decode cL_law 1363 = .ok (.iaload, 1) := by decide +kernel
theorem dL_law_1364 : decode cL_law 1364 = .ok (.invokevirtual 159, 3) := by decide +kernel
theorem dL_law_1367 : decode cL_law 1367 = .ok (.aload_n 2, 1) := by decide +kernel
theorem dL_law_1368 : decode cL_law 1368 = .ok (.aload_n 0, 1) := by decide +kernel
theorem dL_law_1369 : decode cL_law 1369 = .ok (.iload_n 3, 1) := by decide +kernel
theorem dL_law_1370 : decode cL_law 1370 = .ok (.iconst 1, 1) := by decide +kernel
theorem dL_law_1371 : decode cL_law 1371 = .ok (.iadd, 1) := by decide +kernel
theorem dL_law_1372 : decode cL_law 1372 = .ok (.iaload, 1) := by decide +kernel
theorem dL_law_1373 : decode cL_law 1373 = .ok (.aload_n 0, 1) := by decide +kernel
theorem dL_law_1374 : decode cL_law 1374 = .ok (.iload_n 3, 1) := by decide +kernel
theorem dL_law_1375 : decode cL_law 1375 = .ok (.iconst 2, 1) := by decide +kernel
theorem dL_law_1376 : decode cL_law 1376 = .ok (.iadd, 1) := by decide +kernel
theorem dL_law_1377 : decode cL_law 1377 = .ok (.iaload, 1) := by decide +kernel
theorem dL_law_1378 : decode cL_law 1378 = .ok (.aload_n 0, 1) := by decide +kernel
theorem dL_law_1379 : decode cL_law 1379 = .ok (.iload_n 3, 1) := by decide +kernel
theorem dL_law_1380 : decode cL_law 1380 = .ok (.iconst 3, 1) := by decide +kernel
theorem dL_law_1381 : decode cL_law 1381 = .ok (.iadd, 1) := by decide +kernel
theorem dL_law_1382 : decode cL_law 1382 = .ok (.iaload, 1) := by decide +kernel
theorem dL_law_1383 : decode cL_law 1383 = .ok (.aload_n 0, 1) := by decide +kernel
theorem dL_law_1384 : decode cL_law 1384 = .ok (.iload_n 3, 1) := by decide +kernel
theorem dL_law_1385 : decode cL_law 1385 = .ok (.iconst 4, 1) := by decide +kernel
theorem dL_law_1386 : decode cL_law 1386 = .ok (.iadd, 1) := by decide +kernel
theorem dL_law_1387 : decode cL_law 1387 = .ok (.iaload, 1) := by decide +kernel
theorem dL_law_1388 : decode cL_law 1388 = .ok (.aload_n 0, 1) := by decide +kernel
theorem dL_law_1389 : decode cL_law 1389 = .ok (.iload_n 3, 1) := by decide +kernel
theorem dL_law_1390 : decode cL_law 1390 = .ok (.iconst 5, 1) := by decide +kernel
theorem dL_law_1391 : decode cL_law 1391 = .ok (.iadd, 1) := by decide +kernel
theorem dL_law_1392 : decode cL_law 1392 = .ok (.iaload, 1) := by decide +kernel
theorem dL_law_1393 : decode cL_law 1393 = .ok (.invokevirtual 163, 3) := by decide +kernel
theorem dL_law_1396 : decode cL_law 1396 = .ok (.if_icmp .eq 91, 3) := by decide +kernel
theorem dL_law_1399 : decode cL_law 1399 = .ok (.iconst 0, 1) := by decide +kernel
theorem dL_law_1400 : decode cL_law 1400 = .ok (.ireturn, 1) := by decide +kernel
theorem dL_law_1401 : decode cL_law 1401 = .ok (.aload_n 1, 1) := by decide +kernel
theorem dL_law_1402 : decode cL_law 1402 = .ok (.aload_n 0, 1) := by decide +kernel
theorem dL_law_1403 : decode cL_law 1403 = .ok (.iload_n 3, 1) := by decide +kernel
theorem dL_law_1404 : decode cL_law 1404 = .ok (.iconst 1, 1) := by decide +kernel
theorem dL_law_1405 : decode cL_law 1405 = .ok (.iadd, 1) := by decide +kernel
theorem dL_law_1406 : decode cL_law 1406 = .ok (.iaload, 1) := by decide +kernel
theorem dL_law_1407 : decode cL_law 1407 = .ok (.aload_n 0, 1) := by decide +kernel
theorem dL_law_1408 : decode cL_law 1408 = .ok (.iload_n 3, 1) := by decide +kernel
theorem dL_law_1409 : decode cL_law 1409 = .ok (.iconst 2, 1) := by decide +kernel
theorem dL_law_1410 : decode cL_law 1410 = .ok (.iadd, 1) := by decide +kernel
theorem dL_law_1411 : decode cL_law 1411 = .ok (.iaload, 1) := by decide +kernel
theorem dL_law_1412 : decode cL_law 1412 = .ok (.aload_n 0, 1) := by decide +kernel
theorem dL_law_1413 : decode cL_law 1413 = .ok (.iload_n 3, 1) := by decide +kernel
theorem dL_law_1414 : decode cL_law 1414 = .ok (.iconst 3, 1) := by decide +kernel
theorem dL_law_1415 : decode cL_law 1415 = .ok (.iadd, 1) := by decide +kernel
theorem dL_law_1416 : decode cL_law 1416 = .ok (.iaload, 1) := by decide +kernel
theorem dL_law_1417 : decode cL_law 1417 = .ok (.aload_n 0, 1) := by decide +kernel
theorem dL_law_1418 : decode cL_law 1418 = .ok (.iload_n 3, 1) := by decide +kernel
theorem dL_law_1419 : decode cL_law 1419 = .ok (.iconst 4, 1) := by decide +kernel
theorem dL_law_1420 : decode cL_law 1420 = .ok (.iadd, 1) := by decide +kernel
theorem dL_law_1421 : decode cL_law 1421 = .ok (.iaload, 1) := by decide +kernel
theorem dL_law_1422 : decode cL_law 1422 = .ok (.invokevirtual 164, 3) := by decide +kernel
theorem dL_law_1425 : decode cL_law 1425 = .ok (.aload_n 2, 1) := by decide +kernel
theorem dL_law_1426 : decode cL_law 1426 = .ok (.aload_n 0, 1) := by decide +kernel
theorem dL_law_1427 : decode cL_law 1427 = .ok (.iload_n 3, 1) := by decide +kernel
theorem dL_law_1428 : decode cL_law 1428 = .ok (.iconst 1, 1) := by decide +kernel
theorem dL_law_1429 : decode cL_law 1429 = .ok (.iadd, 1) := by decide +kernel
theorem dL_law_1430 : decode cL_law 1430 = .ok (.iaload, 1) := by decide +kernel
theorem dL_law_1431 : decode cL_law 1431 = .ok (.aload_n 0, 1) := by decide +kernel
theorem dL_law_1432 : decode cL_law 1432 = .ok (.iload_n 3, 1) := by decide +kernel
theorem dL_law_1433 : decode cL_law 1433 = .ok (.iconst 2, 1) := by decide +kernel
theorem dL_law_1434 : decode cL_law 1434 = .ok (.iadd, 1) := by decide +kernel
theorem dL_law_1435 : decode cL_law 1435 = .ok (.iaload, 1) := by decide +kernel
theorem dL_law_1436 : decode cL_law 1436 = .ok (.aload_n 0, 1) := by decide +kernel
theorem dL_law_1437 : decode cL_law 1437 = .ok (.iload_n 3, 1) := by decide +kernel
theorem dL_law_1438 : decode cL_law 1438 = .ok (.iconst 3, 1) := by decide +kernel
theorem dL_law_1439 : decode cL_law 1439 = .ok (.iadd, 1) := by decide +kernel
theorem dL_law_1440 : decode cL_law 1440 = .ok (.iaload, 1) := by decide +kernel
theorem dL_law_1441 : decode cL_law 1441 = .ok (.aload_n 0, 1) := by decide +kernel
theorem dL_law_1442 : decode cL_law 1442 = .ok (.iload_n 3, 1) := by decide +kernel
theorem dL_law_1443 : decode cL_law 1443 = .ok (.iconst 4, 1) := by decide +kernel
theorem dL_law_1444 : decode cL_law 1444 = .ok (.iadd, 1) := by decide +kernel
theorem dL_law_1445 : decode cL_law 1445 = .ok (.iaload, 1) := by decide +kernel
theorem dL_law_1446 : decode cL_law 1446 = .ok (.invokevirtual 168, 3) := by decide +kernel
theorem dL_law_1449 : decode cL_law 1449 = .ok (.if_icmp .eq 38, 3) := by decide +kernel
theorem dL_law_1452 : decode cL_law 1452 = .ok (.iconst 0, 1) := by decide +kernel
theorem dL_law_1453 : decode cL_law 1453 = .ok (.ireturn, 1) := by decide +kernel
theorem dL_law_1454 : decode cL_law 1454 = .ok (.aload_n 1, 1) := by decide +kernel
theorem dL_law_1455 : decode cL_law 1455 = .ok (.aload_n 0, 1) := by decide +kernel
theorem dL_law_1456 : decode cL_law 1456 = .ok (.iload_n 3, 1) := by decide +kernel
theorem dL_law_1457 : decode cL_law 1457 = .ok (.iconst 1, 1) := by decide +kernel
theorem dL_law_1458 : decode cL_law 1458 = .ok (.iadd, 1) := by decide +kernel
theorem dL_law_1459 : decode cL_law 1459 = .ok (.iaload, 1) := by decide +kernel
theorem dL_law_1460 : decode cL_law 1460 = .ok (.aload_n 0, 1) := by decide +kernel
theorem dL_law_1461 : decode cL_law 1461 = .ok (.iload_n 3, 1) := by decide +kernel
theorem dL_law_1462 : decode cL_law 1462 = .ok (.iconst 2, 1) := by decide +kernel
theorem dL_law_1463 : decode cL_law 1463 = .ok (.iadd, 1) := by decide +kernel
theorem dL_law_1464 : decode cL_law 1464 = .ok (.iaload, 1) := by decide +kernel
theorem dL_law_1465 : decode cL_law 1465 = .ok (.invokevirtual 169, 3) := by decide +kernel
theorem dL_law_1468 : decode cL_law 1468 = .ok (.aload_n 2, 1) := by decide +kernel
theorem dL_law_1469 : decode cL_law 1469 = .ok (.aload_n 0, 1) := by decide +kernel
theorem dL_law_1470 : decode cL_law 1470 = .ok (.iload_n 3, 1) := by decide +kernel
theorem dL_law_1471 : decode cL_law 1471 = .ok (.iconst 1, 1) := by decide +kernel
theorem dL_law_1472 : decode cL_law 1472 = .ok (.iadd, 1) := by decide +kernel
theorem dL_law_1473 : decode cL_law 1473 = .ok (.iaload, 1) := by decide +kernel
theorem dL_law_1474 : decode cL_law 1474 = .ok (.aload_n 0, 1) := by decide +kernel
theorem dL_law_1475 : decode cL_law 1475 = .ok (.iload_n 3, 1) := by decide +kernel
theorem dL_law_1476 : decode cL_law 1476 = .ok (.iconst 2, 1) := by decide +kernel
theorem dL_law_1477 : decode cL_law 1477 = .ok (.iadd, 1) := by decide +kernel
theorem dL_law_1478 : decode cL_law 1478 = .ok (.iaload, 1) := by decide +kernel
theorem dL_law_1479 : decode cL_law 1479 = .ok (.invokevirtual 172, 3) := by decide +kernel
theorem dL_law_1482 : decode cL_law 1482 = .ok (.if_icmp .eq 5, 3) := by decide +kernel
theorem dL_law_1485 : decode cL_law 1485 = .ok (.iconst 0, 1) := by decide +kernel
theorem dL_law_1486 : decode cL_law 1486 = .ok (.ireturn, 1) := by decide +kernel
theorem dL_law_1487 : decode cL_law 1487 = .ok (.iinc 3 7, 3) := by decide +kernel
theorem dL_law_1490 : decode cL_law 1490 = .ok (.goto (-1472), 3) := by decide +kernel
theorem dL_law_1493 : decode cL_law 1493 = .ok (.iconst 1, 1) := by decide +kernel
theorem dL_law_1494 : decode cL_law 1494 = .ok (.ireturn, 1) := by decide +kernel
