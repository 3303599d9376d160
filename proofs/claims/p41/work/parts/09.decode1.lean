theorem dX0_init_0 : decode cX0_init 0 = .ok (.aload_n 0, 1) := by decide +kernel
theorem dX0_init_1 : decode cX0_init 1 = .ok (.invokespecial 3, 3) := by decide +kernel
theorem dX0_init_4 : decode cX0_init 4 = .ok (.aload_n 0, 1) := by decide +kernel
theorem dX0_init_5 : decode cX0_init 5 = .ok (.bipush 9, 2) := by decide +kernel
theorem dX0_init_7 : decode cX0_init 7 = .ok (.anewarray 9, 3) := by decide +kernel
theorem dX0_init_10 : decode cX0_init 10 = .ok (.putfield 11, 3) := by decide +kernel
theorem dX0_init_13 : decode cX0_init 13 = .ok (.aload_n 0, 1) := by decide +kernel
theorem dX0_init_14 : decode cX0_init 14 = .ok (.iconst 5, 1) := by decide +kernel
theorem dX0_init_15 : decode cX0_init 15 = .ok (.anewarray 17, 3) := by decide +kernel
theorem dX0_init_18 : decode cX0_init 18 = .ok (.putfield 19, 3) := by decide +kernel
theorem dX0_init_21 : decode cX0_init 21 = .ok (.aload_n 0, 1) := by decide +kernel
theorem dX0_init_22 : decode cX0_init 22 = .ok (.bipush 40, 2) := by decide +kernel
theorem dX0_init_24 : decode cX0_init 24 = .ok (.newarray .int, 2) := by decide +kernel
theorem dX0_init_26 : decode cX0_init 26 = .ok (.putfield 23, 3) := by decide +kernel
theorem dX0_init_29 : decode cX0_init 29 = .ok (.iconst 0, 1) := by decide +kernel
theorem dX0_init_30 : decode cX0_init 30 = .ok (.istore_n 1, 1) := by decide +kernel
theorem dX0_init_31 : decode cX0_init 31 = .ok (.iload_n 1, 1) := by decide +kernel
theorem dX0_init_32 : decode cX0_init 32 = .ok (.bipush 9, 2) := by decide +kernel
theorem dX0_init_34 : decode cX0_init 34 = .ok (.if_icmp .ge 23, 3) := by decide +kernel
theorem dX0_init_37 : decode cX0_init 37 = .ok (.aload_n 0, 1) := by decide +kernel
theorem dX0_init_38 : decode cX0_init 38 = .ok (.getfield 11, 3) := by decide +kernel
theorem dX0_init_41 : decode cX0_init 41 = .ok (.iload_n 1, 1) := by decide +kernel
theorem dX0_init_42 : decode cX0_init 42 = .ok (.new 9, 3) := by decide +kernel
theorem dX0_init_45 : decode cX0_init 45 = .ok (.dup, 1) := by decide +kernel
theorem dX0_init_46 : decode cX0_init 46 = .ok (.iload_n 1, 1) := by decide +kernel
theorem dX0_init_47 : decode cX0_init 47 = .ok (.invokespecial 27, 3) := by decide +kernel
theorem dX0_init_50 : decode cX0_init 50 = .ok (.aastore, 1) := by decide +kernel
theorem dX0_init_51 : decode cX0_init 51 = .ok (.iinc 1 1, 3) := by decide +kernel
theorem dX0_init_54 : decode cX0_init 54 = .ok (.goto (-23), 3) := by decide +kernel
theorem dX0_init_57 : decode cX0_init 57 = .ok (.return_, 1) := by decide +kernel
theorem dX0_lay_0 : decode cX0_lay 0 = .ok (.iconst 0, 1) := by decide +kernel
theorem dX0_lay_1 : decode cX0_lay 1 = .ok (.istore 6, 2) := by decide +kernel
theorem dX0_lay_3 : decode cX0_lay 3 = .ok (.iload 6, 2) := by decide +kernel
theorem dX0_lay_5 : decode cX0_lay 5 = .ok (.bipush 9, 2) := by decide +kernel
theorem dX0_lay_7 : decode cX0_lay 7 = .ok (.if_icmp .ge 41, 3) := by decide +kernel
theorem dX0_lay_10 : decode cX0_lay 10 = .ok (.iload 6, 2) := by decide +kernel
theorem dX0_lay_12 : decode cX0_lay 12 = .ok (.aload_n 1, 1) := by decide +kernel
theorem dX0_lay_13 : decode cX0_lay 13 = .ok (.arraylength, 1) := by decide +kernel
theorem dX0_lay_14 : decode cX0_lay 14 = .ok (.if_icmp .ge 34, 3) := by decide +kernel
theorem dX0_lay_17 : decode cX0_lay 17 = .ok (.iload 6, 2) := by decide +kernel
theorem dX0_lay_19 : decode cX0_lay 19 = .ok (.aload_n 2, 1) := by decide +kernel
theorem dX0_lay_20 : decode cX0_lay 20 = .ok (.arraylength, 1) := by decide +kernel
theorem dX0_lay_21 : decode cX0_lay 21 = .ok (.if_icmp .ge 27, 3) := by decide +kernel
theorem dX0_lay_24 : decode cX0_lay 24 = .ok (.aload_n 0, 1) := by decide +kernel
theorem dX0_lay_25 : decode cX0_lay 25 = .ok (.getfield 11, 3) := by decide +kernel
theorem dX0_lay_28 : decode cX0_lay 28 = .ok (.iload 6, 2) := by decide +kernel
theorem dX0_lay_30 : decode cX0_lay 30 = .ok (.aaload, 1) := by decide +kernel
theorem dX0_lay_31 : decode cX0_lay 31 = .ok (.aload_n 1, 1) := by decide +kernel
theorem dX0_lay_32 : decode cX0_lay 32 = .ok (.iload 6, 2) := by decide +kernel
theorem dX0_lay_34 : decode cX0_lay 34 = .ok (.iaload, 1) := by decide +kernel
theorem dX0_lay_35 : decode cX0_lay 35 = .ok (.aload_n 2, 1) := by decide +kernel
theorem dX0_lay_36 : decode cX0_lay 36 = .ok (.iload 6, 2) := by decide +kernel
theorem dX0_lay_38 : decode cX0_lay 38 = .ok (.iaload, 1) := by decide +kernel
theorem dX0_lay_39 : decode cX0_lay 39 = .ok (.invokevirtual 30, 3) := by decide +kernel
theorem dX0_lay_42 : decode cX0_lay 42 = .ok (.iinc 6 1, 3) := by decide +kernel
theorem dX0_lay_45 : decode cX0_lay 45 = .ok (.goto (-42), 3) := by decide +kernel
theorem dX0_lay_48 : decode cX0_lay 48 = .ok (.aload_n 0, 1) := by decide +kernel
theorem dX0_lay_49 : decode cX0_lay 49 = .ok (.aload_n 3, 1) := by decide +kernel
theorem dX0_lay_50 : decode cX0_lay 50 = .ok (.putfield 34, 3) := by decide +kernel
theorem dX0_lay_53 : decode cX0_lay 53 = .ok (.aload_n 0, 1) := by decide +kernel
theorem dX0_lay_54 : decode cX0_lay 54 = .ok (.iload 4, 2) := by decide +kernel
theorem dX0_lay_56 : decode cX0_lay 56 = .ok (.putfield 38, 3) := by decide +kernel
theorem dX0_lay_59 : decode cX0_lay 59 = .ok (.aload_n 0, 1) := by decide +kernel
theorem dX0_lay_60 : decode cX0_lay 60 = .ok (.iload 5, 2) := by decide +kernel
theorem dX0_lay_62 : decode cX0_lay 62 = .ok (.putfield 42, 3) := by decide +kernel
theorem dX0_lay_65 : decode cX0_lay 65 = .ok (.aload_n 0, 1) := by decide +kernel
theorem dX0_lay_66 : decode cX0_lay 66 = .ok (.iconst 0, 1) := by decide +kernel
theorem dX0_lay_67 : decode cX0_lay 67 = .ok (.putfield 45, 3) := by decide +kernel
theorem dX0_lay_70 : decode cX0_lay 70 = .ok (.aload_n 0, 1) := by decide +kernel
theorem dX0_lay_71 : decode cX0_lay 71 = .ok (.iconst 0, 1) := by decide +kernel
theorem dX0_lay_72 : decode cX0_lay 72 = .ok (.putfield 48, 3) := by decide +kernel
theorem dX0_lay_75 : decode cX0_lay 75 = .ok (.aload_n 0, 1) := by decide +kernel
theorem dX0_lay_76 : decode cX0_lay 76 = .ok (.iconst 0, 1) := by decide +kernel
theorem dX0_lay_77 : decode cX0_lay 77 = .ok (.putfield 51, 3) := by decide +kernel
theorem dX0_lay_80 : decode cX0_lay 80 = .ok (.aload_n 0, 1) := by decide +kernel
theorem dX0_lay_81 : decode cX0_lay 81 = .ok (.iconst 0, 1) := by decide +kernel
theorem dX0_lay_82 : decode cX0_lay 82 = .ok (.putfield 54, 3) := by decide +kernel
theorem dX0_lay_85 : decode cX0_lay 85 = .ok (.aload_n 0, 1) := by decide +kernel
theorem dX0_lay_86 : decode cX0_lay 86 = .ok (.iconst 0, 1) := by decide +kernel
theorem dX0_lay_87 : decode cX0_lay 87 = .ok (.putfield 57, 3) := by decide +kernel
theorem dX0_lay_90 : decode cX0_lay 90 = .ok (.aload_n 0, 1) := by decide +kernel
theorem dX0_lay_91 : decode cX0_lay 91 = .ok (.iconst 0, 1) := by decide +kernel
theorem dX0_lay_92 : decode cX0_lay 92 = .ok (.putfield 60, 3) := by decide +kernel
theorem dX0_lay_95 : decode cX0_lay 95 = .ok (.aload_n 0, 1) := by decide +kernel
theorem dX0_lay_96 : decode cX0_lay 96 = .ok (.iconst (-1), 1) := by decide +kernel
theorem dX0_lay_97 : decode cX0_lay 97 = .ok (.putfield 63, 3) := by decide +kernel
theorem dX0_lay_100 : decode cX0_lay 100 = .ok (.return_, 1) := by decide +kernel
theorem dX0_join_0 : decode cX0_join 0 = .ok (.aload_n 1, 1) := by decide +kernel
theorem dX0_join_1 : decode cX0_join 1 = .ok (.ifnull 42, 3) := by decide +kernel
theorem dX0_join_4 : decode cX0_join 4 = .ok (.aload_n 0, 1) := by decide +kernel
theorem dX0_join_5 : decode cX0_join 5 = .ok (.getfield 45, 3) := by decide +kernel
theorem dX0_join_8 : decode cX0_join 8 = .ok (.ifCond .lt 35, 3) := by decide +kernel
theorem dX0_join_11 : decode cX0_join 11 = .ok (.aload_n 0, 1) := by decide +kernel
theorem dX0_join_12 : decode cX0_join 12 = .ok (.getfield 45, 3) := by decide +kernel
theorem dX0_join_15 : decode cX0_join 15 = .ok (.iconst 5, 1) := by decide +kernel
theorem dX0_join_16 : decode cX0_join 16 = .ok (.if_icmp .ge 27, 3) := by decide +kernel
theorem dX0_join_19 : decode cX0_join 19 = .ok (.aload_n 1, 1) := by decide +kernel
theorem dX0_join_20 : decode cX0_join 20 = .ok (.invokevirtual 66, 3) := by decide +kernel
theorem dX0_join_23 : decode cX0_join 23 = .ok (.aload_n 0, 1) := by decide +kernel
theorem dX0_join_24 : decode cX0_join 24 = .ok (.getfield 19, 3) := by decide +kernel
theorem dX0_join_27 : decode cX0_join 27 = .ok (.aload_n 0, 1) := by decide +kernel
theorem dX0_join_28 : decode cX0_join 28 = .ok (.getfield 45, 3) := by decide +kernel
theorem dX0_join_31 : decode cX0_join 31 = .ok (.aload_n 1, 1) := by decide +kernel
theorem dX0_join_32 : decode cX0_join 32 = .ok (.aastore, 1) := by decide +kernel
theorem dX0_join_33 : decode cX0_join 33 = .ok (.aload_n 0, 1) := by decide +kernel
theorem dX0_join_34 : decode cX0_join 34 = .ok (.dup, 1) := by decide +kernel
theorem dX0_join_35 : decode cX0_join 35 = .ok (.getfield 45, 3) := by decide +kernel
theorem dX0_join_38 : decode cX0_join 38 = .ok (.iconst 1, 1) := by decide +kernel
theorem dX0_join_39 : decode cX0_join 39 = .ok (.iadd, 1) := by decide +kernel
theorem dX0_join_40 : decode cX0_join 40 = .ok (.putfield 45, 3) := by decide +kernel
theorem dX0_join_43 : decode cX0_join 43 = .ok (.return_, 1) := by decide +kernel
theorem dX0_heapAt_0 : decode cX0_heapAt 0 = .ok (.aload_n 0, 1) := by decide +kernel
theorem dX0_heapAt_1 : decode cX0_heapAt 1 = .ok (.getfield 11, 3) := by decide +kernel
theorem dX0_heapAt_4 : decode cX0_heapAt 4 = .ok (.iload_n 1, 1) := by decide +kernel
theorem dX0_heapAt_5 : decode cX0_heapAt 5 = .ok (.bipush 9, 2) := by decide +kernel
theorem dX0_heapAt_7 : decode cX0_heapAt 7 = .ok (.invokestatic 68, 3) := by decide +kernel
theorem dX0_heapAt_10 : decode cX0_heapAt 10 = .ok (.aaload, 1) := by decide +kernel
theorem dX0_heapAt_11 : decode cX0_heapAt 11 = .ok (.areturn, 1) := by decide +kernel
theorem dX0_badness_0 : decode cX0_badness 0 = .ok (.iconst 0, 1) := by decide +kernel
theorem dX0_badness_1 : decode cX0_badness 1 = .ok (.istore_n 1, 1) := by decide +kernel
theorem dX0_badness_2 : decode cX0_badness 2 = .ok (.iconst 0, 1) := by decide +kernel
theorem dX0_badness_3 : decode cX0_badness 3 = .ok (.istore_n 2, 1) := by decide +kernel
theorem dX0_badness_4 : decode cX0_badness 4 = .ok (.iload_n 2, 1) := by decide +kernel
theorem dX0_badness_5 : decode cX0_badness 5 = .ok (.aload_n 0, 1) := by decide +kernel
theorem dX0_badness_6 : decode cX0_badness 6 = .ok (.getfield 45, 3) := by decide +kernel
theorem dX0_badness_9 : decode cX0_badness 9 = .ok (.if_icmp .ge 59, 3) := by decide +kernel
theorem dX0_badness_12 : decode cX0_badness 12 = .ok (.iload_n 2, 1) := by decide +kernel
theorem dX0_badness_13 : decode cX0_badness 13 = .ok (.iconst 5, 1) := by decide +kernel
theorem dX0_badness_14 : decode cX0_badness 14 = .ok (.if_icmp .ge 54, 3) := by decide +kernel
theorem dX0_badness_17 : decode cX0_badness 17 = .ok (.aload_n 0, 1) := by decide +kernel
theorem dX0_badness_18 : decode cX0_badness 18 = .ok (.getfield 19, 3) := by decide +kernel
theorem dX0_badness_21 : decode cX0_badness 21 = .ok (.iload_n 2, 1) := by decide +kernel
theorem dX0_badness_22 : decode cX0_badness 22 = .ok (.aaload, 1) := by decide +kernel
theorem dX0_badness_23 : decode cX0_badness 23 = .ok (.astore_n 3, 1) := by decide +kernel
theorem dX0_badness_24 : decode cX0_badness 24 = .ok (.aload_n 3, 1) := by decide +kernel
theorem dX0_badness_25 : decode cX0_badness 25 = .ok (.ifnull 37, 3) := by decide +kernel
theorem dX0_badness_28 : decode cX0_badness 28 = .ok (.aload_n 0, 1) := by decide +kernel
theorem dX0_badness_29 : decode cX0_badness 29 = .ok (.getfield 34, 3) := by decide +kernel
theorem dX0_badness_32 : decode cX0_badness 32 = .ok (.ifnull 30, 3) := by decide +kernel
theorem dX0_badness_35 : decode cX0_badness 35 = .ok (.iload_n 1, 1) := by decide +kernel
theorem dX0_badness_36 : decode cX0_badness 36 = .ok (.aload_n 3, 1) := by decide +kernel
theorem dX0_badness_37 : decode cX0_badness 37 = .ok (.getfield 83, 3) := by decide +kernel
theorem dX0_badness_40 : decode cX0_badness 40 = .ok (.aload_n 0, 1) := by decide +kernel
theorem dX0_badness_41 : decode cX0_badness 41 = .ok (.getfield 34, 3) := by decide +kernel
theorem dX0_badness_44 : decode cX0_badness 44 = .ok (.iconst 2, 1) := by decide +kernel
theorem dX0_badness_45 : decode cX0_badness 45 = .ok (.aload_n 3, 1) := by decide +kernel
theorem dX0_badness_46 : decode cX0_badness 46 = .ok (.iconst 0, 1) := by decide +kernel
theorem dX0_badness_47 : decode cX0_badness 47 = .ok (.iconst 0, 1) := by decide +kernel
theorem dX0_badness_48 : decode cX0_badness 48 = .ok (.aload_n 3, 1) := by decide +kernel
theorem dX0_badness_49 : decode cX0_badness 49 = .ok (.getfield 88, 3) := by decide +kernel
theorem dX0_badness_52 : decode cX0_badness 52 = .ok (.aload_n 0, 1) := by decide +kernel
theorem dX0_badness_53 : decode cX0_badness 53 = .ok (.getfield 42, 3) := by decide +kernel
theorem dX0_badness_56 : decode cX0_badness 56 = .ok (.invokevirtual 91, 3) := by decide +kernel
theorem dX0_badness_59 : decode cX0_badness 59 = .ok (.imul, 1) := by decide +kernel
theorem dX0_badness_60 : decode cX0_badness 60 = .ok (.iadd, 1) := by decide +kernel
theorem dX0_badness_61 : decode cX0_badness 61 = .ok (.istore_n 1, 1) := by decide +kernel
theorem dX0_badness_62 : decode cX0_badness 62 = .ok (.iinc 2 1, 3) := by decide +kernel
theorem dX0_badness_65 : decode cX0_badness 65 = .ok (.goto (-61), 3) := by decide +kernel
theorem dX0_badness_68 : decode cX0_badness 68 = .ok (.iload_n 1, 1) := by decide +kernel
theorem dX0_badness_69 : decode cX0_badness 69 = .ok (.ireturn, 1) := by decide +kernel
theorem dX0_pass_0 : decode cX0_pass 0 = .ok (.iconst 0, 1) := by decide +kernel
theorem dX0_pass_1 : decode cX0_pass 1 = .ok (.istore_n 2, 1) := by decide +kernel
theorem dX0_pass_2 : decode cX0_pass 2 = .ok (.iload_n 2, 1) := by decide +kernel
theorem dX0_pass_3 : decode cX0_pass 3 = .ok (.iload_n 1, 1) := by decide +kernel
theorem dX0_pass_4 : decode cX0_pass 4 = .ok (.if_icmp .ge 87, 3) := by decide +kernel
theorem dX0_pass_7 : decode cX0_pass 7 = .ok (.iconst 0, 1) := by decide +kernel
theorem dX0_pass_8 : decode cX0_pass 8 = .ok (.istore_n 3, 1) := by decide +kernel
theorem dX0_pass_9 : decode cX0_pass 9 = .ok (.iload_n 3, 1) := by decide +kernel
theorem dX0_pass_10 : decode cX0_pass 10 = .ok (.aload_n 0, 1) := by decide +kernel
theorem dX0_pass_11 : decode cX0_pass 11 = .ok (.getfield 45, 3) := by decide +kernel
theorem dX0_pass_14 : decode cX0_pass 14 = .ok (.if_icmp .ge 61, 3) := by decide +kernel
theorem dX0_pass_17 : decode cX0_pass 17 = .ok (.iload_n 3, 1) := by decide +kernel
theorem dX0_pass_18 : decode cX0_pass 18 = .ok (.iconst 5, 1) := by decide +kernel
theorem dX0_pass_19 : decode cX0_pass 19 = .ok (.if_icmp .ge 56, 3) := by decide +kernel
theorem dX0_pass_22 : decode cX0_pass 22 = .ok (.aload_n 0, 1) := by decide +kernel
theorem dX0_pass_23 : decode cX0_pass 23 = .ok (.getfield 19, 3) := by decide +kernel
theorem dX0_pass_26 : decode cX0_pass 26 = .ok (.iload_n 3, 1) := by decide +kernel
theorem dX0_pass_27 : decode cX0_pass 27 = .ok (.aaload, 1) := by decide +kernel
theorem dX0_pass_28 : decode cX0_pass 28 = .ok (.astore 4, 2) := by decide +kernel
theorem dX0_pass_30 : decode cX0_pass 30 = .ok (.aload 4, 2) := by decide +kernel
theorem dX0_pass_32 : decode cX0_pass 32 = .ok (.ifnull 26, 3) := by decide +kernel
theorem dX0_pass_35 : decode cX0_pass 35 = .ok (.aload 4, 2) := by decide +kernel
theorem dX0_pass_37 : decode cX0_pass 37 = .ok (.getfield 95, 3) := by decide +kernel
theorem dX0_pass_40 : decode cX0_pass 40 = .ok (.iconst 1, 1) := by decide +kernel
theorem dX0_pass_41 : decode cX0_pass 41 = .ok (.if_icmp .le 17, 3) := by decide +kernel
theorem dX0_pass_44 : decode cX0_pass 44 = .ok (.aload 4, 2) := by decide +kernel
theorem dX0_pass_46 : decode cX0_pass 46 = .ok (.dup, 1) := by decide +kernel
theorem dX0_pass_47 : decode cX0_pass 47 = .ok (.getfield 95, 3) := by decide +kernel
theorem dX0_pass_50 : decode cX0_pass 50 = .ok (.iconst 1, 1) := by decide +kernel
theorem dX0_pass_51 : decode cX0_pass 51 = .ok (.isub, 1) := by decide +kernel
theorem dX0_pass_52 : decode cX0_pass 52 = .ok (.putfield 95, 3) := by decide +kernel
theorem dX0_pass_55 : decode cX0_pass 55 = .ok (.goto 14, 3) := by decide +kernel
theorem dX0_pass_58 : decode cX0_pass 58 = .ok (.aload 4, 2) := by decide +kernel
theorem dX0_pass_60 : decode cX0_pass 60 = .ok (.ifnull 9, 3) := by decide +kernel
theorem dX0_pass_63 : decode cX0_pass 63 = .ok (.aload_n 0, 1) := by decide +kernel
theorem dX0_pass_64 : decode cX0_pass 64 = .ok (.aload 4, 2) := by decide +kernel
theorem dX0_pass_66 : decode cX0_pass 66 = .ok (.invokevirtual 98, 3) := by decide +kernel
theorem dX0_pass_69 : decode cX0_pass 69 = .ok (.iinc 3 1, 3) := by decide +kernel
theorem dX0_pass_72 : decode cX0_pass 72 = .ok (.goto (-63), 3) := by decide +kernel
theorem dX0_pass_75 : decode cX0_pass 75 = .ok (.aload_n 0, 1) := by decide +kernel
theorem dX0_pass_76 : decode cX0_pass 76 = .ok (.dup, 1) := by decide +kernel
theorem dX0_pass_77 : decode cX0_pass 77 = .ok (.getfield 48, 3) := by decide +kernel
theorem dX0_pass_80 : decode cX0_pass 80 = .ok (.iconst 1, 1) := by decide +kernel
theorem dX0_pass_81 : decode cX0_pass 81 = .ok (.iadd, 1) := by decide +kernel
theorem dX0_pass_82 : decode cX0_pass 82 = .ok (.putfield 48, 3) := by decide +kernel
theorem dX0_pass_85 : decode cX0_pass 85 = .ok (.iinc 2 1, 3) := by decide +kernel
theorem dX0_pass_88 : decode cX0_pass 88 = .ok (.goto (-86), 3) := by decide +kernel
theorem dX0_pass_91 : decode cX0_pass 91 = .ok (.return_, 1) := by decide +kernel
theorem dX0_moveOn_0 : decode cX0_moveOn 0 = .ok (.aload_n 0, 1) := by decide +kernel
theorem dX0_moveOn_1 : decode cX0_moveOn 1 = .ok (.aload_n 1, 1) := by decide +kernel
theorem dX0_moveOn_2 : decode cX0_moveOn 2 = .ok (.getfield 102, 3) := by decide +kernel
theorem dX0_moveOn_5 : decode cX0_moveOn 5 = .ok (.invokevirtual 105, 3) := by decide +kernel
theorem dX0_moveOn_8 : decode cX0_moveOn 8 = .ok (.astore_n 2, 1) := by decide +kernel
theorem dX0_moveOn_9 : decode cX0_moveOn 9 = .ok (.aload_n 1, 1) := by decide +kernel
theorem dX0_moveOn_10 : decode cX0_moveOn 10 = .ok (.iconst 0, 1) := by decide +kernel
theorem dX0_moveOn_11 : decode cX0_moveOn 11 = .ok (.putfield 95, 3) := by decide +kernel
theorem dX0_moveOn_14 : decode cX0_moveOn 14 = .ok (.aload_n 1, 1) := by decide +kernel
theorem dX0_moveOn_15 : decode cX0_moveOn 15 = .ok (.getfield 109, 3) := by decide +kernel
theorem dX0_moveOn_18 : decode cX0_moveOn 18 = .ok (.iconst 2, 1) := by decide +kernel
theorem dX0_moveOn_19 : decode cX0_moveOn 19 = .ok (.if_icmp .ne 12, 3) := by decide +kernel
theorem dX0_moveOn_22 : decode cX0_moveOn 22 = .ok (.aload_n 0, 1) := by decide +kernel
theorem dX0_moveOn_23 : decode cX0_moveOn 23 = .ok (.aload_n 1, 1) := by decide +kernel
theorem dX0_moveOn_24 : decode cX0_moveOn 24 = .ok (.aload_n 2, 1) := by decide +kernel
theorem dX0_moveOn_25 : decode cX0_moveOn 25 = .ok (.invokevirtual 112, 3) := by decide +kernel
theorem dX0_moveOn_28 : decode cX0_moveOn 28 = .ok (.goto 64, 3) := by decide +kernel
theorem dX0_moveOn_31 : decode cX0_moveOn 31 = .ok (.aload_n 2, 1) := by decide +kernel
theorem dX0_moveOn_32 : decode cX0_moveOn 32 = .ok (.getfield 116, 3) := by decide +kernel
theorem dX0_moveOn_35 : decode cX0_moveOn 35 = .ok (.ifCond .le 28, 3) := by decide +kernel
theorem dX0_moveOn_38 : decode cX0_moveOn 38 = .ok (.aload_n 1, 1) := by decide +kernel
theorem dX0_moveOn_39 : decode cX0_moveOn 39 = .ok (.invokevirtual 119, 3) := by decide +kernel
theorem dX0_moveOn_42 : decode cX0_moveOn 42 = .ok (.ifCond .eq 21, 3) := by decide +kernel
theorem dX0_moveOn_45 : decode cX0_moveOn 45 = .ok (.aload_n 1, 1) := by decide +kernel
theorem dX0_moveOn_46 : decode cX0_moveOn 46 = .ok (.iconst 1, 1) := by decide +kernel
theorem dX0_moveOn_47 : decode cX0_moveOn 47 = .ok (.putfield 109, 3) := by decide +kernel
theorem dX0_moveOn_50 : decode cX0_moveOn 50 = .ok (.aload_n 1, 1) := by decide +kernel
theorem dX0_moveOn_51 : decode cX0_moveOn 51 = .ok (.dup, 1) := by decide +kernel
theorem dX0_moveOn_52 : decode cX0_moveOn 52 = .ok (.getfield 83, 3) := by decide +kernel
theorem dX0_moveOn_55 : decode cX0_moveOn 55 = .ok (.iconst 1, 1) := by decide +kernel
theorem dX0_moveOn_56 : decode cX0_moveOn 56 = .ok (.iadd, 1) := by decide +kernel
theorem dX0_moveOn_57 : decode cX0_moveOn 57 = .ok (.putfield 83, 3) := by decide +kernel
theorem dX0_moveOn_60 : decode cX0_moveOn 60 = .ok (.goto 32, 3) := by decide +kernel
theorem dX0_moveOn_63 : decode cX0_moveOn 63 = .ok (.aload_n 1, 1) := by decide +kernel
theorem dX0_moveOn_64 : decode cX0_moveOn 64 = .ok (.iconst 2, 1) := by decide +kernel
theorem dX0_moveOn_65 : decode cX0_moveOn 65 = .ok (.putfield 109, 3) := by decide +kernel
theorem dX0_moveOn_68 : decode cX0_moveOn 68 = .ok (.aload_n 1, 1) := by decide +kernel
theorem dX0_moveOn_69 : decode cX0_moveOn 69 = .ok (.aload_n 0, 1) := by decide +kernel
theorem dX0_moveOn_70 : decode cX0_moveOn 70 = .ok (.aload_n 1, 1) := by decide +kernel
theorem dX0_moveOn_71 : decode cX0_moveOn 71 = .ok (.aload_n 2, 1) := by decide +kernel
theorem dX0_moveOn_72 : decode cX0_moveOn 72 = .ok (.aload_n 1, 1) := by decide +kernel
theorem dX0_moveOn_73 : decode cX0_moveOn 73 = .ok (.getfield 88, 3) := by decide +kernel
theorem dX0_moveOn_76 : decode cX0_moveOn 76 = .ok (.invokevirtual 123, 3) := by decide +kernel
theorem dX0_moveOn_79 : decode cX0_moveOn 79 = .ok (.putfield 95, 3) := by decide +kernel
theorem dX0_moveOn_82 : decode cX0_moveOn 82 = .ok (.aload_n 2, 1) := by decide +kernel
theorem dX0_moveOn_83 : decode cX0_moveOn 83 = .ok (.dup, 1) := by decide +kernel
theorem dX0_moveOn_84 : decode cX0_moveOn 84 = .ok (.getfield 116, 3) := by decide +kernel
theorem dX0_moveOn_87 : decode cX0_moveOn 87 = .ok (.iconst 1, 1) := by decide +kernel
theorem dX0_moveOn_88 : decode cX0_moveOn 88 = .ok (.iadd, 1) := by decide +kernel
theorem dX0_moveOn_89 : decode cX0_moveOn 89 = .ok (.putfield 116, 3) := by decide +kernel
theorem dX0_moveOn_92 : decode cX0_moveOn 92 = .ok (.return_, 1) := by decide +kernel
theorem dX0_endTaking_0 : decode cX0_endTaking 0 = .ok (.aload_n 2, 1) := by decide +kernel
theorem dX0_endTaking_1 : decode cX0_endTaking 1 = .ok (.dup, 1) := by decide +kernel
theorem dX0_endTaking_2 : decode cX0_endTaking 2 = .ok (.getfield 116, 3) := by decide +kernel
theorem dX0_endTaking_5 : decode cX0_endTaking 5 = .ok (.iconst 1, 1) := by decide +kernel
theorem dX0_endTaking_6 : decode cX0_endTaking 6 = .ok (.isub, 1) := by decide +kernel
theorem dX0_endTaking_7 : decode cX0_endTaking 7 = .ok (.putfield 116, 3) := by decide +kernel
theorem dX0_endTaking_10 : decode cX0_endTaking 10 = .ok (.aload_n 2, 1) := by decide +kernel
theorem dX0_endTaking_11 : decode cX0_endTaking 11 = .ok (.aload_n 0, 1) := by decide +kernel
theorem dX0_endTaking_12 : decode cX0_endTaking 12 = .ok (.getfield 48, 3) := by decide +kernel
theorem dX0_endTaking_15 : decode cX0_endTaking 15 = .ok (.invokevirtual 127, 3) := by decide +kernel
theorem dX0_endTaking_18 : decode cX0_endTaking 18 = .ok (.istore_n 3, 1) := by decide +kernel
theorem dX0_endTaking_19 : decode cX0_endTaking 19 = .ok (.iload_n 3, 1) := by decide +kernel
theorem dX0_endTaking_20 : decode cX0_endTaking 20 = .ok (.iconst 1, 1) := by decide +kernel
theorem dX0_endTaking_21 : decode cX0_endTaking 21 = .ok (.if_icmp .ne 11, 3) := by decide +kernel
theorem dX0_endTaking_24 : decode cX0_endTaking 24 = .ok (.aload_n 1, 1) := by decide +kernel
theorem dX0_endTaking_25 : decode cX0_endTaking 25 = .ok (.iconst 1, 1) := by decide +kernel
theorem dX0_endTaking_26 : decode cX0_endTaking 26 = .ok (.putfield 131, 3) := by decide +kernel
theorem dX0_endTaking_29 : decode cX0_endTaking 29 = .ok (.goto 13, 3) := by decide +kernel
theorem dX0_endTaking_32 : decode cX0_endTaking 32 = .ok (.iload_n 3, 1) := by decide +kernel
theorem dX0_endTaking_33 : decode cX0_endTaking 33 = .ok (.iconst 2, 1) := by decide +kernel
theorem dX0_endTaking_34 : decode cX0_endTaking 34 = .ok (.if_icmp .ne 8, 3) := by decide +kernel
theorem dX0_endTaking_37 : decode cX0_endTaking 37 = .ok (.aload_n 1, 1) := by decide +kernel
theorem dX0_endTaking_38 : decode cX0_endTaking 38 = .ok (.iconst 1, 1) := by decide +kernel
theorem dX0_endTaking_39 : decode cX0_endTaking 39 = .ok (.putfield 135, 3) := by decide +kernel
theorem dX0_endTaking_42 : decode cX0_endTaking 42 = .ok (.aload_n 1, 1) := by decide +kernel
theorem dX0_endTaking_43 : decode cX0_endTaking 43 = .ok (.dup, 1) := by decide +kernel
theorem dX0_endTaking_44 : decode cX0_endTaking 44 = .ok (.getfield 138, 3) := by decide +kernel
theorem dX0_endTaking_47 : decode cX0_endTaking 47 = .ok (.iconst 1, 1) := by decide +kernel
theorem dX0_endTaking_48 : decode cX0_endTaking 48 = .ok (.iadd, 1) := by decide +kernel
theorem dX0_endTaking_49 : decode cX0_endTaking 49 = .ok (.putfield 138, 3) := by decide +kernel
theorem dX0_endTaking_52 : decode cX0_endTaking 52 = .ok (.aload_n 1, 1) := by decide +kernel
theorem dX0_endTaking_53 : decode cX0_endTaking 53 = .ok (.getfield 138, 3) := by decide +kernel
theorem dX0_endTaking_56 : decode cX0_endTaking 56 = .ok (.bipush 9, 2) := by decide +kernel
theorem dX0_endTaking_58 : decode cX0_endTaking 58 = .ok (.if_icmp .ne 8, 3) := by decide +kernel
theorem dX0_endTaking_61 : decode cX0_endTaking 61 = .ok (.aload_n 0, 1) := by decide +kernel
theorem dX0_endTaking_62 : decode cX0_endTaking 62 = .ok (.aload_n 1, 1) := by decide +kernel
theorem dX0_endTaking_63 : decode cX0_endTaking 63 = .ok (.invokevirtual 141, 3) := by decide +kernel
theorem dX0_endTaking_66 : decode cX0_endTaking 66 = .ok (.aload_n 1, 1) := by decide +kernel
theorem dX0_endTaking_67 : decode cX0_endTaking 67 = .ok (.iconst 0, 1) := by decide +kernel
theorem dX0_endTaking_68 : decode cX0_endTaking 68 = .ok (.putfield 109, 3) := by decide +kernel
theorem dX0_endTaking_71 : decode cX0_endTaking 71 = .ok (.aload_n 1, 1) := by decide +kernel
theorem dX0_endTaking_72 : decode cX0_endTaking 72 = .ok (.aload_n 0, 1) := by decide +kernel
theorem dX0_endTaking_73 : decode cX0_endTaking 73 = .ok (.aload_n 1, 1) := by decide +kernel
theorem dX0_endTaking_74 : decode cX0_endTaking 74 = .ok (.aload_n 2, 1) := by decide +kernel
theorem dX0_endTaking_75 : decode cX0_endTaking 75 = .ok (.aload_n 1, 1) := by decide +kernel
theorem dX0_endTaking_76 : decode cX0_endTaking 76 = .ok (.getfield 88, 3) := by decide +kernel
theorem dX0_endTaking_79 : decode cX0_endTaking 79 = .ok (.invokevirtual 144, 3) := by decide +kernel
theorem dX0_endTaking_82 : decode cX0_endTaking 82 = .ok (.putfield 95, 3) := by decide +kernel
theorem dX0_endTaking_85 : decode cX0_endTaking 85 = .ok (.aload_n 1, 1) := by decide +kernel
theorem dX0_endTaking_86 : decode cX0_endTaking 86 = .ok (.aload_n 1, 1) := by decide +kernel
theorem dX0_endTaking_87 : decode cX0_endTaking 87 = .ok (.getfield 102, 3) := by decide +kernel
theorem dX0_endTaking_90 : decode cX0_endTaking 90 = .ok (.iconst 1, 1) := by decide +kernel
theorem dX0_endTaking_91 : decode cX0_endTaking 91 = .ok (.iadd, 1) := by decide +kernel
theorem dX0_endTaking_92 : decode cX0_endTaking 92 = .ok (.bipush 9, 2) := by decide +kernel
theorem dX0_endTaking_94 : decode cX0_endTaking 94 = .ok (.irem, 1) := by decide +kernel
theorem dX0_endTaking_95 : decode cX0_endTaking 95 = .ok (.putfield 102, 3) := by decide +kernel
theorem dX0_endTaking_98 : decode cX0_endTaking 98 = .ok (.return_, 1) := by decide +kernel
theorem dX0_endProgramme_0 : decode cX0_endProgramme 0 = .ok (.aload_n 1, 1) := by decide +kernel
theorem dX0_endProgramme_1 : decode cX0_endProgramme 1 = .ok (.getfield 135, 3) := by decide +kernel
theorem dX0_endProgramme_4 : decode cX0_endProgramme 4 = .ok (.ifCond .eq 16, 3) := by decide +kernel
theorem dX0_endProgramme_7 : decode cX0_endProgramme 7 = .ok (.aload_n 0, 1) := by decide +kernel
theorem dX0_endProgramme_8 : decode cX0_endProgramme 8 = .ok (.dup, 1) := by decide +kernel
theorem dX0_endProgramme_9 : decode cX0_endProgramme 9 = .ok (.getfield 60, 3) := by decide +kernel
theorem dX0_endProgramme_12 : decode cX0_endProgramme 12 = .ok (.iconst 1, 1) := by decide +kernel
theorem dX0_endProgramme_13 : decode cX0_endProgramme 13 = .ok (.iadd, 1) := by decide +kernel
theorem dX0_endProgramme_14 : decode cX0_endProgramme 14 = .ok (.putfield 60, 3) := by decide +kernel
theorem dX0_endProgramme_17 : decode cX0_endProgramme 17 = .ok (.goto 20, 3) := by decide +kernel
theorem dX0_endProgramme_20 : decode cX0_endProgramme 20 = .ok (.aload_n 1, 1) := by decide +kernel
theorem dX0_endProgramme_21 : decode cX0_endProgramme 21 = .ok (.getfield 131, 3) := by decide +kernel
theorem dX0_endProgramme_24 : decode cX0_endProgramme 24 = .ok (.ifCond .eq 13, 3) := by decide +kernel
theorem dX0_endProgramme_27 : decode cX0_endProgramme 27 = .ok (.aload_n 0, 1) := by decide +kernel
theorem dX0_endProgramme_28 : decode cX0_endProgramme 28 = .ok (.dup, 1) := by decide +kernel
theorem dX0_endProgramme_29 : decode cX0_endProgramme 29 = .ok (.getfield 57, 3) := by decide +kernel
theorem dX0_endProgramme_32 : decode cX0_endProgramme 32 = .ok (.iconst 1, 1) := by decide +kernel
theorem dX0_endProgramme_33 : decode cX0_endProgramme 33 = .ok (.iadd, 1) := by decide +kernel
theorem dX0_endProgramme_34 : decode cX0_endProgramme 34 = .ok (.putfield 57, 3) := by decide +kernel
theorem dX0_endProgramme_37 : decode cX0_endProgramme 37 = .ok (.aload_n 1, 1) := by decide +kernel
theorem dX0_endProgramme_38 : decode cX0_endProgramme 38 = .ok (.getfield 135, 3) := by decide +kernel
theorem dX0_endProgramme_41 : decode cX0_endProgramme 41 = .ok (.ifCond .ne 10, 3) := by decide +kernel
theorem dX0_endProgramme_44 : decode cX0_endProgramme 44 = .ok (.aload_n 1, 1) := by decide +kernel
theorem dX0_endProgramme_45 : decode cX0_endProgramme 45 = .ok (.getfield 131, 3) := by decide +kernel
theorem dX0_endProgramme_48 : decode cX0_endProgramme 48 = .ok (.ifCond .eq 42, 3) := by decide +kernel
theorem dX0_endProgramme_51 : decode cX0_endProgramme 51 = .ok (.aload_n 0, 1) := by decide +kernel
theorem dX0_endProgramme_52 : decode cX0_endProgramme 52 = .ok (.getfield 51, 3) := by decide +kernel
theorem dX0_endProgramme_55 : decode cX0_endProgramme 55 = .ok (.ifCond .lt 35, 3) := by decide +kernel
theorem dX0_endProgramme_58 : decode cX0_endProgramme 58 = .ok (.aload_n 0, 1) := by decide +kernel
theorem dX0_endProgramme_59 : decode cX0_endProgramme 59 = .ok (.getfield 51, 3) := by decide +kernel
theorem dX0_endProgramme_62 : decode cX0_endProgramme 62 = .ok (.bipush 40, 2) := by decide +kernel
theorem dX0_endProgramme_64 : decode cX0_endProgramme 64 = .ok (.if_icmp .ge 26, 3) := by decide +kernel
theorem dX0_endProgramme_67 : decode cX0_endProgramme 67 = .ok (.aload_n 0, 1) := by decide +kernel
theorem dX0_endProgramme_68 : decode cX0_endProgramme 68 = .ok (.getfield 23, 3) := by decide +kernel
theorem dX0_endProgramme_71 : decode cX0_endProgramme 71 = .ok (.aload_n 0, 1) := by decide +kernel
theorem dX0_endProgramme_72 : decode cX0_endProgramme 72 = .ok (.getfield 51, 3) := by decide +kernel
theorem dX0_endProgramme_75 : decode cX0_endProgramme 75 = .ok (.aload_n 0, 1) := by decide +kernel
theorem dX0_endProgramme_76 : decode cX0_endProgramme 76 = .ok (.getfield 54, 3) := by decide +kernel
theorem dX0_endProgramme_79 : decode cX0_endProgramme 79 = .ok (.iastore, 1) := by decide +kernel
theorem dX0_endProgramme_80 : decode cX0_endProgramme 80 = .ok (.aload_n 0, 1) := by decide +kernel
theorem dX0_endProgramme_81 : decode cX0_endProgramme 81 = .ok (.dup, 1) := by decide +kernel
theorem dX0_endProgramme_82 : decode cX0_endProgramme 82 = .ok (.getfield 51, 3) := by decide +kernel
theorem dX0_endProgramme_85 : decode cX0_endProgramme 85 = .ok (.iconst 1, 1) := by decide +kernel
theorem dX0_endProgramme_86 : decode cX0_endProgramme 86 = .ok (.iadd, 1) := by decide +kernel
theorem dX0_endProgramme_87 : decode cX0_endProgramme 87 = .ok (.putfield 51, 3) := by decide +kernel
theorem dX0_endProgramme_90 : decode cX0_endProgramme 90 = .ok (.aload_n 0, 1) := by decide +kernel
theorem dX0_endProgramme_91 : decode cX0_endProgramme 91 = .ok (.dup, 1) := by decide +kernel
theorem dX0_endProgramme_92 : decode cX0_endProgramme 92 = .ok (.getfield 54, 3) := by decide +kernel
theorem dX0_endProgramme_95 : decode cX0_endProgramme 95 = .ok (.iconst 1, 1) := by decide +kernel
theorem dX0_endProgramme_96 : decode cX0_endProgramme 96 = .ok (.iadd, 1) := by decide +kernel
theorem dX0_endProgramme_97 : decode cX0_endProgramme 97 = .ok (.putfield 54, 3) := by decide +kernel
theorem dX0_endProgramme_100 : decode cX0_endProgramme 100 = .ok (.aload_n 0, 1) := by decide +kernel
theorem dX0_endProgramme_101 : decode cX0_endProgramme 101 = .ok (.getfield 54, 3) := by decide +kernel
theorem dX0_endProgramme_104 : decode cX0_endProgramme 104 = .ok (.aload_n 0, 1) := by decide +kernel
theorem dX0_endProgramme_105 : decode cX0_endProgramme 105 = .ok (.getfield 38, 3) := by decide +kernel
theorem dX0_endProgramme_108 : decode cX0_endProgramme 108 = .ok (.if_icmp .ne 11, 3) := by decide +kernel
theorem dX0_endProgramme_111 : decode cX0_endProgramme 111 = .ok (.aload_n 0, 1) := by decide +kernel
theorem dX0_endProgramme_112 : decode cX0_endProgramme 112 = .ok (.aload_n 0, 1) := by decide +kernel
theorem dX0_endProgramme_113 : decode cX0_endProgramme 113 = .ok (.getfield 48, 3) := by decide +kernel
theorem dX0_endProgramme_116 : decode cX0_endProgramme 116 = .ok (.putfield 63, 3) := by decide +kernel
theorem dX0_endProgramme_119 : decode cX0_endProgramme 119 = .ok (.aload_n 1, 1) := by decide +kernel
theorem dX0_endProgramme_120 : decode cX0_endProgramme 120 = .ok (.dup, 1) := by decide +kernel
theorem dX0_endProgramme_121 : decode cX0_endProgramme 121 = .ok (.getfield 88, 3) := by decide +kernel
theorem dX0_endProgramme_124 : decode cX0_endProgramme 124 = .ok (.iconst 1, 1) := by decide +kernel
theorem dX0_endProgramme_125 : decode cX0_endProgramme 125 = .ok (.iadd, 1) := by decide +kernel
theorem dX0_endProgramme_126 : decode cX0_endProgramme 126 = .ok (.putfield 88, 3) := by decide +kernel
theorem dX0_endProgramme_129 : decode cX0_endProgramme 129 = .ok (.aload_n 1, 1) := by decide +kernel
theorem dX0_endProgramme_130 : decode cX0_endProgramme 130 = .ok (.iconst 0, 1) := by decide +kernel
theorem dX0_endProgramme_131 : decode cX0_endProgramme 131 = .ok (.putfield 138, 3) := by decide +kernel
theorem dX0_endProgramme_134 : decode cX0_endProgramme 134 = .ok (.aload_n 1, 1) := by decide +kernel
theorem dX0_endProgramme_135 : decode cX0_endProgramme 135 = .ok (.iconst 0, 1) := by decide +kernel
theorem dX0_endProgramme_136 : decode cX0_endProgramme 136 = .ok (.putfield 131, 3) := by decide +kernel
theorem dX0_endProgramme_139 : decode cX0_endProgramme 139 = .ok (.aload_n 1, 1) := by decide +kernel
theorem dX0_endProgramme_140 : decode cX0_endProgramme 140 = .ok (.iconst 0, 1) := by decide +kernel
theorem dX0_endProgramme_141 : decode cX0_endProgramme 141 = .ok (.putfield 135, 3) := by decide +kernel
theorem dX0_endProgramme_144 : decode cX0_endProgramme 144 = .ok (.return_, 1) := by decide +kernel
theorem dX0_takesOf_0 : decode cX0_takesOf 0 = .ok (.aload_n 0, 1) := by decide +kernel
theorem dX0_takesOf_1 : decode cX0_takesOf 1 = .ok (.getfield 34, 3) := by decide +kernel
theorem dX0_takesOf_4 : decode cX0_takesOf 4 = .ok (.ifnonnull 7, 3) := by decide +kernel
theorem dX0_takesOf_7 : decode cX0_takesOf 7 = .ok (.iconst 1, 1) := by decide +kernel
theorem dX0_takesOf_8 : decode cX0_takesOf 8 = .ok (.goto 25, 3) := by decide +kernel
theorem dX0_takesOf_11 : decode cX0_takesOf 11 = .ok (.aload_n 0, 1) := by decide +kernel
theorem dX0_takesOf_12 : decode cX0_takesOf 12 = .ok (.getfield 34, 3) := by decide +kernel
theorem dX0_takesOf_15 : decode cX0_takesOf 15 = .ok (.iconst 0, 1) := by decide +kernel
theorem dX0_takesOf_16 : decode cX0_takesOf 16 = .ok (.aload_n 1, 1) := by decide +kernel
theorem dX0_takesOf_17 : decode cX0_takesOf 17 = .ok (.aload_n 2, 1) := by decide +kernel
theorem dX0_takesOf_18 : decode cX0_takesOf 18 = .ok (.getfield 147, 3) := by decide +kernel
theorem dX0_takesOf_21 : decode cX0_takesOf 21 = .ok (.aload_n 2, 1) := by decide +kernel
theorem dX0_takesOf_22 : decode cX0_takesOf 22 = .ok (.getfield 150, 3) := by decide +kernel
theorem dX0_takesOf_25 : decode cX0_takesOf 25 = .ok (.iload_n 3, 1) := by decide +kernel
theorem dX0_takesOf_26 : decode cX0_takesOf 26 = .ok (.aload_n 0, 1) := by decide +kernel
theorem dX0_takesOf_27 : decode cX0_takesOf 27 = .ok (.getfield 42, 3) := by decide +kernel
theorem dX0_takesOf_30 : decode cX0_takesOf 30 = .ok (.invokevirtual 91, 3) := by decide +kernel
theorem dX0_takesOf_33 : decode cX0_takesOf 33 = .ok (.istore 4, 2) := by decide +kernel
theorem dX0_takesOf_35 : decode cX0_takesOf 35 = .ok (.iconst 1, 1) := by decide +kernel
theorem dX0_takesOf_36 : decode cX0_takesOf 36 = .ok (.aload_n 1, 1) := by decide +kernel
theorem dX0_takesOf_37 : decode cX0_takesOf 37 = .ok (.iload 4, 2) := by decide +kernel
theorem dX0_takesOf_39 : decode cX0_takesOf 39 = .ok (.iload_n 3, 1) := by decide +kernel
theorem dX0_takesOf_40 : decode cX0_takesOf 40 = .ok (.invokevirtual 153, 3) := by decide +kernel
theorem dX0_takesOf_43 : decode cX0_takesOf 43 = .ok (.invokestatic 156, 3) := by decide +kernel
theorem dX0_takesOf_46 : decode cX0_takesOf 46 = .ok (.ireturn, 1) := by decide +kernel
theorem dX0_stepOf_0 : decode cX0_stepOf 0 = .ok (.aload_n 0, 1) := by decide +kernel
theorem dX0_stepOf_1 : decode cX0_stepOf 1 = .ok (.getfield 34, 3) := by decide +kernel
theorem dX0_stepOf_4 : decode cX0_stepOf 4 = .ok (.ifnonnull 7, 3) := by decide +kernel
theorem dX0_stepOf_7 : decode cX0_stepOf 7 = .ok (.iconst 1, 1) := by decide +kernel
theorem dX0_stepOf_8 : decode cX0_stepOf 8 = .ok (.goto 25, 3) := by decide +kernel
theorem dX0_stepOf_11 : decode cX0_stepOf 11 = .ok (.aload_n 0, 1) := by decide +kernel
theorem dX0_stepOf_12 : decode cX0_stepOf 12 = .ok (.getfield 34, 3) := by decide +kernel
theorem dX0_stepOf_15 : decode cX0_stepOf 15 = .ok (.iconst 1, 1) := by decide +kernel
theorem dX0_stepOf_16 : decode cX0_stepOf 16 = .ok (.aload_n 1, 1) := by decide +kernel
theorem dX0_stepOf_17 : decode cX0_stepOf 17 = .ok (.aload_n 2, 1) := by decide +kernel
theorem dX0_stepOf_18 : decode cX0_stepOf 18 = .ok (.getfield 147, 3) := by decide +kernel
theorem dX0_stepOf_21 : decode cX0_stepOf 21 = .ok (.aload_n 2, 1) := by decide +kernel
theorem dX0_stepOf_22 : decode cX0_stepOf 22 = .ok (.getfield 150, 3) := by decide +kernel
theorem dX0_stepOf_25 : decode cX0_stepOf 25 = .ok (.iload_n 3, 1) := by decide +kernel
theorem dX0_stepOf_26 : decode cX0_stepOf 26 = .ok (.aload_n 0, 1) := by decide +kernel
theorem dX0_stepOf_27 : decode cX0_stepOf 27 = .ok (.getfield 42, 3) := by decide +kernel
theorem dX0_stepOf_30 : decode cX0_stepOf 30 = .ok (.invokevirtual 91, 3) := by decide +kernel
theorem dX0_stepOf_33 : decode cX0_stepOf 33 = .ok (.istore 4, 2) := by decide +kernel
theorem dX0_stepOf_35 : decode cX0_stepOf 35 = .ok (.iconst 1, 1) := by decide +kernel
theorem dX0_stepOf_36 : decode cX0_stepOf 36 = .ok (.aload_n 1, 1) := by decide +kernel
theorem dX0_stepOf_37 : decode cX0_stepOf 37 = .ok (.iload 4, 2) := by decide +kernel
theorem dX0_stepOf_39 : decode cX0_stepOf 39 = .ok (.invokevirtual 159, 3) := by decide +kernel
theorem dX0_stepOf_42 : decode cX0_stepOf 42 = .ok (.invokestatic 156, 3) := by decide +kernel
theorem dX0_stepOf_45 : decode cX0_stepOf 45 = .ok (.ireturn, 1) := by decide +kernel
theorem dX1_init_0 : decode cX1_init 0 = .ok (.aload_n 0, 1) := by decide +kernel
theorem dX1_init_1 : decode cX1_init 1 = .ok (.iload_n 1, 1) := by decide +kernel
theorem dX1_init_2 : decode cX1_init 2 = .ok (.iload_n 2, 1) := by decide +kernel
theorem dX1_init_3 : decode cX1_init 3 = .ok (.iload_n 3, 1) := by decide +kernel
theorem dX1_init_4 : decode cX1_init 4 = .ok (.invokespecial 1, 3) := by decide +kernel
theorem dX1_init_7 : decode cX1_init 7 = .ok (.return_, 1) := by decide +kernel
theorem dX1_kind_0 : decode cX1_kind 0 = .ok (.iconst 4, 1) := by decide +kernel
theorem dX1_kind_1 : decode cX1_kind 1 = .ok (.ireturn, 1) := by decide +kernel
theorem dX1_takesFor_0 : decode cX1_takesFor 0 = .ok (.aload_n 0, 1) := by decide +kernel
theorem dX1_takesFor_1 : decode cX1_takesFor 1 = .ok (.iload_n 1, 1) := by decide +kernel
theorem dX1_takesFor_2 : decode cX1_takesFor 2 = .ok (.iload_n 2, 1) := by decide +kernel
theorem dX1_takesFor_3 : decode cX1_takesFor 3 = .ok (.invokespecial 11, 3) := by decide +kernel
theorem dX1_takesFor_6 : decode cX1_takesFor 6 = .ok (.iload_n 2, 1) := by decide +kernel
theorem dX1_takesFor_7 : decode cX1_takesFor 7 = .ok (.aload_n 0, 1) := by decide +kernel
theorem dX1_takesFor_8 : decode cX1_takesFor 8 = .ok (.getfield 15, 3) := by decide +kernel
theorem dX1_takesFor_11 : decode cX1_takesFor 11 = .ok (.if_icmp .le 7, 3) := by decide +kernel
theorem dX1_takesFor_14 : decode cX1_takesFor 14 = .ok (.iconst 2, 1) := by decide +kernel
theorem dX1_takesFor_15 : decode cX1_takesFor 15 = .ok (.goto 4, 3) := by decide +kernel
theorem dX1_takesFor_18 : decode cX1_takesFor 18 = .ok (.iconst 1, 1) := by decide +kernel
theorem dX1_takesFor_19 : decode cX1_takesFor 19 = .ok (.iadd, 1) := by decide +kernel
theorem dX1_takesFor_20 : decode cX1_takesFor 20 = .ok (.ireturn, 1) := by decide +kernel
theorem dX1_stepFor_0 : decode cX1_stepFor 0 = .ok (.iload_n 1, 1) := by decide +kernel
theorem dX1_stepFor_1 : decode cX1_stepFor 1 = .ok (.iconst 2, 1) := by decide +kernel
theorem dX1_stepFor_2 : decode cX1_stepFor 2 = .ok (.imul, 1) := by decide +kernel
theorem dX1_stepFor_3 : decode cX1_stepFor 3 = .ok (.ireturn, 1) := by decide +kernel
theorem dX2_init_0 : decode cX2_init 0 = .ok (.aload_n 0, 1) := by decide +kernel
theorem dX2_init_1 : decode cX2_init 1 = .ok (.invokespecial 3, 3) := by decide +kernel
theorem dX2_init_4 : decode cX2_init 4 = .ok (.aload_n 0, 1) := by decide +kernel
theorem dX2_init_5 : decode cX2_init 5 = .ok (.iload_n 1, 1) := by decide +kernel
theorem dX2_init_6 : decode cX2_init 6 = .ok (.putfield 9, 3) := by decide +kernel
theorem dX2_init_9 : decode cX2_init 9 = .ok (.return_, 1) := by decide +kernel
theorem dX2_beginGoing_0 : decode cX2_beginGoing 0 = .ok (.aload_n 0, 1) := by decide +kernel
theorem dX2_beginGoing_1 : decode cX2_beginGoing 1 = .ok (.iload_n 1, 1) := by decide +kernel
theorem dX2_beginGoing_2 : decode cX2_beginGoing 2 = .ok (.putfield 15, 3) := by decide +kernel
theorem dX2_beginGoing_5 : decode cX2_beginGoing 5 = .ok (.aload_n 0, 1) := by decide +kernel
theorem dX2_beginGoing_6 : decode cX2_beginGoing 6 = .ok (.iload_n 2, 1) := by decide +kernel
theorem dX2_beginGoing_7 : decode cX2_beginGoing 7 = .ok (.putfield 18, 3) := by decide +kernel
theorem dX2_beginGoing_10 : decode cX2_beginGoing 10 = .ok (.aload_n 0, 1) := by decide +kernel
theorem dX2_beginGoing_11 : decode cX2_beginGoing 11 = .ok (.iconst 0, 1) := by decide +kernel
theorem dX2_beginGoing_12 : decode cX2_beginGoing 12 = .ok (.putfield 21, 3) := by decide +kernel
theorem dX2_beginGoing_15 : decode cX2_beginGoing 15 = .ok (.aload_n 0, 1) := by decide +kernel
theorem dX2_beginGoing_16 : decode cX2_beginGoing 16 = .ok (.iconst 0, 1) := by decide +kernel
theorem dX2_beginGoing_17 : decode cX2_beginGoing 17 = .ok (.putfield 24, 3) := by decide +kernel
theorem dX2_beginGoing_20 : decode cX2_beginGoing 20 = .ok (.aload_n 0, 1) := by decide +kernel
theorem dX2_beginGoing_21 : decode cX2_beginGoing 21 = .ok (.iconst (-1), 1) := by decide +kernel
theorem dX2_beginGoing_22 : decode cX2_beginGoing 22 = .ok (.putfield 27, 3) := by decide +kernel
theorem dX2_beginGoing_25 : decode cX2_beginGoing 25 = .ok (.aload_n 0, 1) := by decide +kernel
theorem dX2_beginGoing_26 : decode cX2_beginGoing 26 = .ok (.iconst 0, 1) := by decide +kernel
theorem dX2_beginGoing_27 : decode cX2_beginGoing 27 = .ok (.putfield 30, 3) := by decide +kernel
theorem dX2_beginGoing_30 : decode cX2_beginGoing 30 = .ok (.return_, 1) := by decide +kernel
theorem dX2_lift_0 : decode cX2_lift 0 = .ok (.aload_n 0, 1) := by decide +kernel
theorem dX2_lift_1 : decode cX2_lift 1 = .ok (.getfield 15, 3) := by decide +kernel
theorem dX2_lift_4 : decode cX2_lift 4 = .ok (.ifCond .gt 10, 3) := by decide +kernel
theorem dX2_lift_7 : decode cX2_lift 7 = .ok (.aload_n 0, 1) := by decide +kernel
theorem dX2_lift_8 : decode cX2_lift 8 = .ok (.iconst 1, 1) := by decide +kernel
theorem dX2_lift_9 : decode cX2_lift 9 = .ok (.putfield 30, 3) := by decide +kernel
theorem dX2_lift_12 : decode cX2_lift 12 = .ok (.iconst 2, 1) := by decide +kernel
theorem dX2_lift_13 : decode cX2_lift 13 = .ok (.ireturn, 1) := by decide +kernel
theorem dX2_lift_14 : decode cX2_lift 14 = .ok (.aload_n 0, 1) := by decide +kernel
theorem dX2_lift_15 : decode cX2_lift 15 = .ok (.dup, 1) := by decide +kernel
theorem dX2_lift_16 : decode cX2_lift 16 = .ok (.getfield 21, 3) := by decide +kernel
theorem dX2_lift_19 : decode cX2_lift 19 = .ok (.iconst 1, 1) := by decide +kernel
theorem dX2_lift_20 : decode cX2_lift 20 = .ok (.iadd, 1) := by decide +kernel
theorem dX2_lift_21 : decode cX2_lift 21 = .ok (.putfield 21, 3) := by decide +kernel
theorem dX2_lift_24 : decode cX2_lift 24 = .ok (.aload_n 0, 1) := by decide +kernel
theorem dX2_lift_25 : decode cX2_lift 25 = .ok (.getfield 18, 3) := by decide +kernel
theorem dX2_lift_28 : decode cX2_lift 28 = .ok (.ifCond .eq 27, 3) := by decide +kernel
theorem dX2_lift_31 : decode cX2_lift 31 = .ok (.aload_n 0, 1) := by decide +kernel
theorem dX2_lift_32 : decode cX2_lift 32 = .ok (.getfield 21, 3) := by decide +kernel
theorem dX2_lift_35 : decode cX2_lift 35 = .ok (.aload_n 0, 1) := by decide +kernel
theorem dX2_lift_36 : decode cX2_lift 36 = .ok (.getfield 18, 3) := by decide +kernel
theorem dX2_lift_39 : decode cX2_lift 39 = .ok (.irem, 1) := by decide +kernel
theorem dX2_lift_40 : decode cX2_lift 40 = .ok (.ifCond .ne 15, 3) := by decide +kernel
theorem dX2_lift_43 : decode cX2_lift 43 = .ok (.aload_n 0, 1) := by decide +kernel
theorem dX2_lift_44 : decode cX2_lift 44 = .ok (.getfield 15, 3) := by decide +kernel
theorem dX2_lift_47 : decode cX2_lift 47 = .ok (.iconst 2, 1) := by decide +kernel
theorem dX2_lift_48 : decode cX2_lift 48 = .ok (.if_icmp .lt 7, 3) := by decide +kernel
theorem dX2_lift_51 : decode cX2_lift 51 = .ok (.iconst 1, 1) := by decide +kernel
theorem dX2_lift_52 : decode cX2_lift 52 = .ok (.goto 4, 3) := by decide +kernel
theorem dX2_lift_55 : decode cX2_lift 55 = .ok (.iconst 0, 1) := by decide +kernel
theorem dX2_lift_56 : decode cX2_lift 56 = .ok (.istore_n 2, 1) := by decide +kernel
theorem dX2_lift_57 : decode cX2_lift 57 = .ok (.aload_n 0, 1) := by decide +kernel
theorem dX2_lift_58 : decode cX2_lift 58 = .ok (.dup, 1) := by decide +kernel
theorem dX2_lift_59 : decode cX2_lift 59 = .ok (.getfield 15, 3) := by decide +kernel
theorem dX2_lift_62 : decode cX2_lift 62 = .ok (.iload_n 2, 1) := by decide +kernel
theorem dX2_lift_63 : decode cX2_lift 63 = .ok (.ifCond .eq 7, 3) := by decide +kernel
theorem dX2_lift_66 : decode cX2_lift 66 = .ok (.iconst 2, 1) := by decide +kernel
theorem dX2_lift_67 : decode cX2_lift 67 = .ok (.goto 4, 3) := by decide +kernel
theorem dX2_lift_70 : decode cX2_lift 70 = .ok (.iconst 1, 1) := by decide +kernel
theorem dX2_lift_71 : decode cX2_lift 71 = .ok (.isub, 1) := by decide +kernel
theorem dX2_lift_72 : decode cX2_lift 72 = .ok (.putfield 15, 3) := by decide +kernel
theorem dX2_lift_75 : decode cX2_lift 75 = .ok (.aload_n 0, 1) := by decide +kernel
theorem dX2_lift_76 : decode cX2_lift 76 = .ok (.getfield 15, 3) := by decide +kernel
theorem dX2_lift_79 : decode cX2_lift 79 = .ok (.ifCond .ne 8, 3) := by decide +kernel
theorem dX2_lift_82 : decode cX2_lift 82 = .ok (.aload_n 0, 1) := by decide +kernel
theorem dX2_lift_83 : decode cX2_lift 83 = .ok (.iload_n 1, 1) := by decide +kernel
theorem dX2_lift_84 : decode cX2_lift 84 = .ok (.putfield 27, 3) := by decide +kernel
theorem dX2_lift_87 : decode cX2_lift 87 = .ok (.iload_n 2, 1) := by decide +kernel
theorem dX2_lift_88 : decode cX2_lift 88 = .ok (.ifCond .eq 7, 3) := by decide +kernel
theorem dX2_lift_91 : decode cX2_lift 91 = .ok (.iconst 1, 1) := by decide +kernel
theorem dX2_lift_92 : decode cX2_lift 92 = .ok (.goto 4, 3) := by decide +kernel
theorem dX2_lift_95 : decode cX2_lift 95 = .ok (.iconst 0, 1) := by decide +kernel
theorem dX2_lift_96 : decode cX2_lift 96 = .ok (.ireturn, 1) := by decide +kernel
theorem dX3_init_0 : decode cX3_init 0 = .ok (.aload_n 0, 1) := by decide +kernel
theorem dX3_init_1 : decode cX3_init 1 = .ok (.invokespecial 3, 3) := by decide +kernel
theorem dX3_init_4 : decode cX3_init 4 = .ok (.aload_n 0, 1) := by decide +kernel
theorem dX3_init_5 : decode cX3_init 5 = .ok (.bipush 40, 2) := by decide +kernel
theorem dX3_init_7 : decode cX3_init 7 = .ok (.newarray .int, 2) := by decide +kernel
theorem dX3_init_9 : decode cX3_init 9 = .ok (.putfield 11, 3) := by decide +kernel
theorem dX3_init_12 : decode cX3_init 12 = .ok (.aload_n 0, 1) := by decide +kernel
theorem dX3_init_13 : decode cX3_init 13 = .ok (.bipush 6, 2) := by decide +kernel
theorem dX3_init_15 : decode cX3_init 15 = .ok (.newarray .int, 2) := by decide +kernel
theorem dX3_init_17 : decode cX3_init 17 = .ok (.putfield 15, 3) := by decide +kernel
theorem dX3_init_20 : decode cX3_init 20 = .ok (.aload_n 0, 1) := by decide +kernel
theorem dX3_init_21 : decode cX3_init 21 = .ok (.iconst 3, 1) := by decide +kernel
theorem dX3_init_22 : decode cX3_init 22 = .ok (.newarray .int, 2) := by decide +kernel
theorem dX3_init_24 : decode cX3_init 24 = .ok (.putfield 18, 3) := by decide +kernel
theorem dX3_init_27 : decode cX3_init 27 = .ok (.aload_n 0, 1) := by decide +kernel
theorem dX3_init_28 : decode cX3_init 28 = .ok (.aload_n 1, 1) := by decide +kernel
theorem dX3_init_29 : decode cX3_init 29 = .ok (.invokevirtual 21, 3) := by decide +kernel
theorem dX3_init_32 : decode cX3_init 32 = .ok (.checkcast 22, 3) := by decide +kernel
theorem dX3_init_35 : decode cX3_init 35 = .ok (.putfield 26, 3) := by decide +kernel
theorem dX3_init_38 : decode cX3_init 38 = .ok (.aload_n 0, 1) := by decide +kernel
theorem dX3_init_39 : decode cX3_init 39 = .ok (.aload_n 2, 1) := by decide +kernel
theorem dX3_init_40 : decode cX3_init 40 = .ok (.invokevirtual 21, 3) := by decide +kernel
theorem dX3_init_43 : decode cX3_init 43 = .ok (.checkcast 22, 3) := by decide +kernel
theorem dX3_init_46 : decode cX3_init 46 = .ok (.putfield 29, 3) := by decide +kernel
theorem dX3_init_49 : decode cX3_init 49 = .ok (.iconst 0, 1) := by decide +kernel
theorem dX3_init_50 : decode cX3_init 50 = .ok (.istore_n 3, 1) := by decide +kernel
theorem dX3_init_51 : decode cX3_init 51 = .ok (.iload_n 3, 1) := by decide +kernel
theorem dX3_init_52 : decode cX3_init 52 = .ok (.iconst 3, 1) := by decide +kernel
theorem dX3_init_53 : decode cX3_init 53 = .ok (.if_icmp .ge 79, 3) := by decide +kernel
theorem dX3_init_56 : decode cX3_init 56 = .ok (.aload_n 0, 1) := by decide +kernel
theorem dX3_init_57 : decode cX3_init 57 = .ok (.getfield 18, 3) := by decide +kernel
theorem dX3_init_60 : decode cX3_init 60 = .ok (.iload_n 3, 1) := by decide +kernel
theorem dX3_init_61 : decode cX3_init 61 = .ok (.iconst (-1), 1) := by decide +kernel
theorem dX3_init_62 : decode cX3_init 62 = .ok (.iastore, 1) := by decide +kernel
theorem dX3_init_63 : decode cX3_init 63 = .ok (.iload_n 3, 1) := by decide +kernel
theorem dX3_init_64 : decode cX3_init 64 = .ok (.iconst 1, 1) := by decide +kernel
theorem dX3_init_65 : decode cX3_init 65 = .ok (.iadd, 1) := by decide +kernel
theorem dX3_init_66 : decode cX3_init 66 = .ok (.aload_n 2, 1) := by decide +kernel
theorem dX3_init_67 : decode cX3_init 67 = .ok (.arraylength, 1) := by decide +kernel
theorem dX3_init_68 : decode cX3_init 68 = .ok (.if_icmp .ge 58, 3) := by decide +kernel
theorem dX3_init_71 : decode cX3_init 71 = .ok (.aload_n 2, 1) := by decide +kernel
theorem dX3_init_72 : decode cX3_init 72 = .ok (.iload_n 3, 1) := by decide +kernel
theorem dX3_init_73 : decode cX3_init 73 = .ok (.iconst 1, 1) := by decide +kernel
theorem dX3_init_74 : decode cX3_init 74 = .ok (.iadd, 1) := by decide +kernel
theorem dX3_init_75 : decode cX3_init 75 = .ok (.iaload, 1) := by decide +kernel
theorem dX3_init_76 : decode cX3_init 76 = .ok (.aload_n 2, 1) := by decide +kernel
theorem dX3_init_77 : decode cX3_init 77 = .ok (.iload_n 3, 1) := by decide +kernel
theorem dX3_init_78 : decode cX3_init 78 = .ok (.iaload, 1) := by decide +kernel
theorem dX3_init_79 : decode cX3_init 79 = .ok (.iconst 1, 1) := by decide +kernel
theorem dX3_init_80 : decode cX3_init 80 = .ok (.iadd, 1) := by decide +kernel
theorem dX3_init_81 : decode cX3_init 81 = .ok (.if_icmp .ne 45, 3) := by decide +kernel
theorem dX3_init_84 : decode cX3_init 84 = .ok (.aload_n 2, 1) := by decide +kernel
theorem dX3_init_85 : decode cX3_init 85 = .ok (.iload_n 3, 1) := by decide +kernel
theorem dX3_init_86 : decode cX3_init 86 = .ok (.iaload, 1) := by decide +kernel
theorem dX3_init_87 : decode cX3_init 87 = .ok (.istore 4, 2) := by decide +kernel
theorem dX3_init_89 : decode cX3_init 89 = .ok (.aload_n 0, 1) := by decide +kernel
theorem dX3_init_90 : decode cX3_init 90 = .ok (.getfield 18, 3) := by decide +kernel
theorem dX3_init_93 : decode cX3_init 93 = .ok (.iload_n 3, 1) := by decide +kernel
theorem dX3_init_94 : decode cX3_init 94 = .ok (.iload 4, 2) := by decide +kernel
theorem dX3_init_96 : decode cX3_init 96 = .ok (.ifCond .lt 28, 3) := by decide +kernel
theorem dX3_init_99 : decode cX3_init 99 = .ok (.iload 4, 2) := by decide +kernel
theorem dX3_init_101 : decode cX3_init 101 = .ok (.aload_n 1, 1) := by decide +kernel
theorem dX3_init_102 : decode cX3_init 102 = .ok (.arraylength, 1) := by decide +kernel
theorem dX3_init_103 : decode cX3_init 103 = .ok (.if_icmp .ge 21, 3) := by decide +kernel
theorem dX3_init_106 : decode cX3_init 106 = .ok (.aload_n 1, 1) := by decide +kernel
theorem dX3_init_107 : decode cX3_init 107 = .ok (.iload 4, 2) := by decide +kernel
theorem dX3_init_109 : decode cX3_init 109 = .ok (.iaload, 1) := by decide +kernel
theorem dX3_init_110 : decode cX3_init 110 = .ok (.ifCond .lt 14, 3) := by decide +kernel
theorem dX3_init_113 : decode cX3_init 113 = .ok (.iload_n 3, 1) := by decide +kernel
theorem dX3_init_114 : decode cX3_init 114 = .ok (.aload_n 1, 1) := by decide +kernel
theorem dX3_init_115 : decode cX3_init 115 = .ok (.iload 4, 2) := by decide +kernel
theorem dX3_init_117 : decode cX3_init 117 = .ok (.iaload, 1) := by decide +kernel
theorem dX3_init_118 : decode cX3_init 118 = .ok (.invokestatic 32, 3) := by decide +kernel
theorem dX3_init_121 : decode cX3_init 121 = .ok (.goto 4, 3) := by decide +kernel
theorem dX3_init_124 : decode cX3_init 124 = .ok (.iconst (-1), 1) := by decide +kernel
theorem dX3_init_125 : decode cX3_init 125 = .ok (.iastore, 1) := by decide +kernel
theorem dX3_init_126 : decode cX3_init 126 = .ok (.iinc 3 1, 3) := by decide +kernel
theorem dX3_init_129 : decode cX3_init 129 = .ok (.goto (-78), 3) := by decide +kernel
theorem dX3_init_132 : decode cX3_init 132 = .ok (.return_, 1) := by decide +kernel
theorem dX3_says_0 : decode cX3_says 0 = .ok (.iload_n 1, 1) := by decide +kernel
theorem dX3_says_1 : decode cX3_says 1 = .ok (.ifCond .lt 23, 3) := by decide +kernel
theorem dX3_says_4 : decode cX3_says 4 = .ok (.iload_n 1, 1) := by decide +kernel
theorem dX3_says_5 : decode cX3_says 5 = .ok (.iconst 3, 1) := by decide +kernel
theorem dX3_says_6 : decode cX3_says 6 = .ok (.if_icmp .ge 18, 3) := by decide +kernel
theorem dX3_says_9 : decode cX3_says 9 = .ok (.iload_n 1, 1) := by decide +kernel
theorem dX3_says_10 : decode cX3_says 10 = .ok (.iconst 1, 1) := by decide +kernel
theorem dX3_says_11 : decode cX3_says 11 = .ok (.iadd, 1) := by decide +kernel
theorem dX3_says_12 : decode cX3_says 12 = .ok (.aload_n 0, 1) := by decide +kernel
theorem dX3_says_13 : decode cX3_says 13 = .ok (.getfield 29, 3) := by decide +kernel
theorem dX3_says_16 : decode cX3_says 16 = .ok (.arraylength, 1) := by decide +kernel
theorem dX3_says_17 : decode cX3_says 17 = .ok (.if_icmp .ge 7, 3) := by decide +kernel
theorem dX3_says_20 : decode cX3_says 20 = .ok (.aload_n 2, 1) := by decide +kernel
theorem dX3_says_21 : decode cX3_says 21 = .ok (.ifnonnull 5, 3) := by decide +kernel
theorem dX3_says_24 : decode cX3_says 24 = .ok (.iconst 0, 1) := by decide +kernel
theorem dX3_says_25 : decode cX3_says 25 = .ok (.ireturn, 1) := by decide +kernel
theorem dX3_says_26 : decode cX3_says 26 = .ok (.aload_n 0, 1) := by decide +kernel
theorem dX3_says_27 : decode cX3_says 27 = .ok (.getfield 18, 3) := by decide +kernel
theorem dX3_says_30 : decode cX3_says 30 = .ok (.iload_n 1, 1) := by decide +kernel
theorem dX3_says_31 : decode cX3_says 31 = .ok (.iaload, 1) := by decide +kernel
theorem dX3_says_32 : decode cX3_says 32 = .ok (.iconst (-1), 1) := by decide +kernel
theorem dX3_says_33 : decode cX3_says 33 = .ok (.if_icmp .eq 10, 3) := by decide +kernel
theorem dX3_says_36 : decode cX3_says 36 = .ok (.aload_n 0, 1) := by decide +kernel
theorem dX3_says_37 : decode cX3_says 37 = .ok (.getfield 18, 3) := by decide +kernel
theorem dX3_says_40 : decode cX3_says 40 = .ok (.iload_n 1, 1) := by decide +kernel
theorem dX3_says_41 : decode cX3_says 41 = .ok (.iaload, 1) := by decide +kernel
theorem dX3_says_42 : decode cX3_says 42 = .ok (.ireturn, 1) := by decide +kernel
theorem dX3_says_43 : decode cX3_says 43 = .ok (.aload_n 0, 1) := by decide +kernel
theorem dX3_says_44 : decode cX3_says 44 = .ok (.getfield 15, 3) := by decide +kernel
theorem dX3_says_47 : decode cX3_says 47 = .ok (.iconst 0, 1) := by decide +kernel
theorem dX3_says_48 : decode cX3_says 48 = .ok (.iload_n 3, 1) := by decide +kernel
theorem dX3_says_49 : decode cX3_says 49 = .ok (.iastore, 1) := by decide +kernel
theorem dX3_says_50 : decode cX3_says 50 = .ok (.aload_n 0, 1) := by decide +kernel
theorem dX3_says_51 : decode cX3_says 51 = .ok (.getfield 15, 3) := by decide +kernel
theorem dX3_says_54 : decode cX3_says 54 = .ok (.iconst 1, 1) := by decide +kernel
theorem dX3_says_55 : decode cX3_says 55 = .ok (.aload_n 2, 1) := by decide +kernel
theorem dX3_says_56 : decode cX3_says 56 = .ok (.getfield 36, 3) := by decide +kernel
theorem dX3_says_59 : decode cX3_says 59 = .ok (.iastore, 1) := by decide +kernel
theorem dX3_says_60 : decode cX3_says 60 = .ok (.aload_n 0, 1) := by decide +kernel
theorem dX3_says_61 : decode cX3_says 61 = .ok (.getfield 15, 3) := by decide +kernel
theorem dX3_says_64 : decode cX3_says 64 = .ok (.iconst 2, 1) := by decide +kernel
theorem dX3_says_65 : decode cX3_says 65 = .ok (.aload_n 2, 1) := by decide +kernel
theorem dX3_says_66 : decode cX3_says 66 = .ok (.getfield 42, 3) := by decide +kernel
theorem dX3_says_69 : decode cX3_says 69 = .ok (.iastore, 1) := by decide +kernel
theorem dX3_says_70 : decode cX3_says 70 = .ok (.aload_n 0, 1) := by decide +kernel
theorem dX3_says_71 : decode cX3_says 71 = .ok (.getfield 15, 3) := by decide +kernel
theorem dX3_says_74 : decode cX3_says 74 = .ok (.iconst 3, 1) := by decide +kernel
theorem dX3_says_75 : decode cX3_says 75 = .ok (.iload 4, 2) := by decide +kernel
theorem dX3_says_77 : decode cX3_says 77 = .ok (.iastore, 1) := by decide +kernel
theorem dX3_says_78 : decode cX3_says 78 = .ok (.aload_n 0, 1) := by decide +kernel
theorem dX3_says_79 : decode cX3_says 79 = .ok (.getfield 15, 3) := by decide +kernel
theorem dX3_says_82 : decode cX3_says 82 = .ok (.iconst 4, 1) := by decide +kernel
theorem dX3_says_83 : decode cX3_says 83 = .ok (.iload 5, 2) := by decide +kernel
theorem dX3_says_85 : decode cX3_says 85 = .ok (.iastore, 1) := by decide +kernel
theorem dX3_says_86 : decode cX3_says 86 = .ok (.aload_n 0, 1) := by decide +kernel
theorem dX3_says_87 : decode cX3_says 87 = .ok (.getfield 15, 3) := by decide +kernel
theorem dX3_says_90 : decode cX3_says 90 = .ok (.iconst 5, 1) := by decide +kernel
theorem dX3_says_91 : decode cX3_says 91 = .ok (.iload 6, 2) := by decide +kernel
theorem dX3_says_93 : decode cX3_says 93 = .ok (.iastore, 1) := by decide +kernel
theorem dX3_says_94 : decode cX3_says 94 = .ok (.iconst 0, 1) := by decide +kernel
theorem dX3_says_95 : decode cX3_says 95 = .ok (.istore 7, 2) := by decide +kernel
theorem dX3_says_97 : decode cX3_says 97 = .ok (.iconst 0, 1) := by decide +kernel
theorem dX3_says_98 : decode cX3_says 98 = .ok (.aload_n 0, 1) := by decide +kernel
theorem dX3_says_99 : decode cX3_says 99 = .ok (.getfield 29, 3) := by decide +kernel
theorem dX3_says_102 : decode cX3_says 102 = .ok (.iload_n 1, 1) := by decide +kernel
theorem dX3_says_103 : decode cX3_says 103 = .ok (.iaload, 1) := by decide +kernel
theorem dX3_says_104 : decode cX3_says 104 = .ok (.invokestatic 45, 3) := by decide +kernel
theorem dX3_says_107 : decode cX3_says 107 = .ok (.istore 8, 2) := by decide +kernel
theorem dX3_says_109 : decode cX3_says 109 = .ok (.iload 8, 2) := by decide +kernel
theorem dX3_says_111 : decode cX3_says 111 = .ok (.aload_n 0, 1) := by decide +kernel
theorem dX3_says_112 : decode cX3_says 112 = .ok (.getfield 29, 3) := by decide +kernel
theorem dX3_says_115 : decode cX3_says 115 = .ok (.iload_n 1, 1) := by decide +kernel
theorem dX3_says_116 : decode cX3_says 116 = .ok (.iconst 1, 1) := by decide +kernel
theorem dX3_says_117 : decode cX3_says 117 = .ok (.iadd, 1) := by decide +kernel
theorem dX3_says_118 : decode cX3_says 118 = .ok (.iaload, 1) := by decide +kernel
theorem dX3_says_119 : decode cX3_says 119 = .ok (.if_icmp .ge 122, 3) := by decide +kernel
theorem dX3_says_122 : decode cX3_says 122 = .ok (.iload 8, 2) := by decide +kernel
theorem dX3_says_124 : decode cX3_says 124 = .ok (.aload_n 0, 1) := by decide +kernel
theorem dX3_says_125 : decode cX3_says 125 = .ok (.getfield 26, 3) := by decide +kernel
theorem dX3_says_128 : decode cX3_says 128 = .ok (.arraylength, 1) := by decide +kernel
theorem dX3_says_129 : decode cX3_says 129 = .ok (.if_icmp .ge 112, 3) := by decide +kernel
theorem dX3_says_132 : decode cX3_says 132 = .ok (.aload_n 0, 1) := by decide +kernel
theorem dX3_says_133 : decode cX3_says 133 = .ok (.getfield 26, 3) := by decide +kernel
theorem dX3_says_136 : decode cX3_says 136 = .ok (.iload 8, 2) := by decide +kernel
theorem dX3_says_138 : decode cX3_says 138 = .ok (.iaload, 1) := by decide +kernel
theorem dX3_says_139 : decode cX3_says 139 = .ok (.istore 9, 2) := by decide +kernel
theorem dX3_says_141 : decode cX3_says 141 = .ok (.iload 9, 2) := by decide +kernel
theorem dX3_says_143 : decode cX3_says 143 = .ok (.bipush (-6), 2) := by decide +kernel
theorem dX3_says_145 : decode cX3_says 145 = .ok (.if_icmp .lt 7, 3) := by decide +kernel
theorem dX3_says_148 : decode cX3_says 148 = .ok (.iconst 0, 1) := by decide +kernel
theorem dX3_says_149 : decode cX3_says 149 = .ok (.goto 15, 3) := by decide +kernel
theorem dX3_says_152 : decode cX3_says 152 = .ok (.iload 9, 2) := by decide +kernel
theorem dX3_says_154 : decode cX3_says 154 = .ok (.bipush (-19), 2) := by decide +kernel
theorem dX3_says_156 : decode cX3_says 156 = .ok (.if_icmp .lt 7, 3) := by decide +kernel
theorem dX3_says_159 : decode cX3_says 159 = .ok (.iconst 2, 1) := by decide +kernel
theorem dX3_says_160 : decode cX3_says 160 = .ok (.goto 4, 3) := by decide +kernel
theorem dX3_says_163 : decode cX3_says 163 = .ok (.iconst 1, 1) := by decide +kernel
theorem dX3_says_164 : decode cX3_says 164 = .ok (.istore 10, 2) := by decide +kernel
theorem dX3_says_166 : decode cX3_says 166 = .ok (.iload 7, 2) := by decide +kernel
theorem dX3_says_168 : decode cX3_says 168 = .ok (.iload 10, 2) := by decide +kernel
theorem dX3_says_170 : decode cX3_says 170 = .ok (.isub, 1) := by decide +kernel
theorem dX3_says_171 : decode cX3_says 171 = .ok (.istore 11, 2) := by decide +kernel
theorem dX3_says_173 : decode cX3_says 173 = .ok (.iload 11, 2) := by decide +kernel
theorem dX3_says_175 : decode cX3_says 175 = .ok (.ifCond .lt 10, 3) := by decide +kernel
theorem dX3_says_178 : decode cX3_says 178 = .ok (.iload 7, 2) := by decide +kernel
theorem dX3_says_180 : decode cX3_says 180 = .ok (.bipush 40, 2) := by decide +kernel
theorem dX3_says_182 : decode cX3_says 182 = .ok (.if_icmp .lt 5, 3) := by decide +kernel
theorem dX3_says_185 : decode cX3_says 185 = .ok (.iconst 0, 1) := by decide +kernel
theorem dX3_says_186 : decode cX3_says 186 = .ok (.ireturn, 1) := by decide +kernel
theorem dX3_says_187 : decode cX3_says 187 = .ok (.aload_n 0, 1) := by decide +kernel
theorem dX3_says_188 : decode cX3_says 188 = .ok (.getfield 11, 3) := by decide +kernel
theorem dX3_says_191 : decode cX3_says 191 = .ok (.iload 11, 2) := by decide +kernel
theorem dX3_says_193 : decode cX3_says 193 = .ok (.iload 10, 2) := by decide +kernel
theorem dX3_says_195 : decode cX3_says 195 = .ok (.ifCond .ne 12, 3) := by decide +kernel
theorem dX3_says_198 : decode cX3_says 198 = .ok (.aload_n 0, 1) := by decide +kernel
theorem dX3_says_199 : decode cX3_says 199 = .ok (.iload 9, 2) := by decide +kernel
theorem dX3_says_201 : decode cX3_says 201 = .ok (.invokevirtual 50, 3) := by decide +kernel
theorem dX3_says_204 : decode cX3_says 204 = .ok (.goto 24, 3) := by decide +kernel
theorem dX3_says_207 : decode cX3_says 207 = .ok (.iload 9, 2) := by decide +kernel
theorem dX3_says_209 : decode cX3_says 209 = .ok (.aload_n 0, 1) := by decide +kernel
theorem dX3_says_210 : decode cX3_says 210 = .ok (.getfield 11, 3) := by decide +kernel
theorem dX3_says_213 : decode cX3_says 213 = .ok (.iload 11, 2) := by decide +kernel
theorem dX3_says_215 : decode cX3_says 215 = .ok (.iaload, 1) := by decide +kernel
theorem dX3_says_216 : decode cX3_says 216 = .ok (.aload_n 0, 1) := by decide +kernel
theorem dX3_says_217 : decode cX3_says 217 = .ok (.getfield 11, 3) := by decide +kernel
theorem dX3_says_220 : decode cX3_says 220 = .ok (.iload 7, 2) := by decide +kernel
theorem dX3_says_222 : decode cX3_says 222 = .ok (.iconst 1, 1) := by decide +kernel
theorem dX3_says_223 : decode cX3_says 223 = .ok (.isub, 1) := by decide +kernel
theorem dX3_says_224 : decode cX3_says 224 = .ok (.iaload, 1) := by decide +kernel
theorem dX3_says_225 : decode cX3_says 225 = .ok (.invokestatic 54, 3) := by decide +kernel
theorem dX3_says_228 : decode cX3_says 228 = .ok (.iastore, 1) := by decide +kernel
theorem dX3_says_229 : decode cX3_says 229 = .ok (.iload 11, 2) := by decide +kernel
theorem dX3_says_231 : decode cX3_says 231 = .ok (.iconst 1, 1) := by decide +kernel
theorem dX3_says_232 : decode cX3_says 232 = .ok (.iadd, 1) := by decide +kernel
theorem dX3_says_233 : decode cX3_says 233 = .ok (.istore 7, 2) := by decide +kernel
theorem dX3_says_235 : decode cX3_says 235 = .ok (.iinc 8 1, 3) := by decide +kernel
theorem dX3_says_238 : decode cX3_says 238 = .ok (.goto (-129), 3) := by decide +kernel
theorem dX3_says_241 : decode cX3_says 241 = .ok (.iload_n 1, 1) := by decide +kernel
theorem dX3_says_242 : decode cX3_says 242 = .ok (.iload 7, 2) := by decide +kernel
theorem dX3_says_244 : decode cX3_says 244 = .ok (.iconst 1, 1) := by decide +kernel
theorem dX3_says_245 : decode cX3_says 245 = .ok (.if_icmp .ne 12, 3) := by decide +kernel
theorem dX3_says_248 : decode cX3_says 248 = .ok (.aload_n 0, 1) := by decide +kernel
theorem dX3_says_249 : decode cX3_says 249 = .ok (.getfield 11, 3) := by decide +kernel
theorem dX3_says_252 : decode cX3_says 252 = .ok (.iconst 0, 1) := by decide +kernel
theorem dX3_says_253 : decode cX3_says 253 = .ok (.iaload, 1) := by decide +kernel
theorem dX3_says_254 : decode cX3_says 254 = .ok (.goto 4, 3) := by decide +kernel
theorem dX3_says_257 : decode cX3_says 257 = .ok (.iconst 0, 1) := by decide +kernel
theorem dX3_says_258 : decode cX3_says 258 = .ok (.invokestatic 32, 3) := by decide +kernel
theorem dX3_says_261 : decode cX3_says 261 = .ok (.ireturn, 1) := by decide +kernel
theorem dX3_bounded_0 : decode cX3_bounded 0 = .ok (.iload_n 0, 1) := by decide +kernel
theorem dX3_bounded_1 : decode cX3_bounded 1 = .ok (.iconst 2, 1) := by decide +kernel
theorem dX3_bounded_2 : decode cX3_bounded 2 = .ok (.if_icmp .ne 16, 3) := by decide +kernel
theorem dX3_bounded_5 : decode cX3_bounded 5 = .ok (.bipush 99, 2) := by decide +kernel
theorem dX3_bounded_7 : decode cX3_bounded 7 = .ok (.iconst 0, 1) := by decide +kernel
theorem dX3_bounded_8 : decode cX3_bounded 8 = .ok (.iload_n 1, 1) := by decide +kernel
theorem dX3_bounded_9 : decode cX3_bounded 9 = .ok (.invokestatic 45, 3) := by decide +kernel
theorem dX3_bounded_12 : decode cX3_bounded 12 = .ok (.invokestatic 58, 3) := by decide +kernel
theorem dX3_bounded_15 : decode cX3_bounded 15 = .ok (.goto 13, 3) := by decide +kernel
theorem dX3_bounded_18 : decode cX3_bounded 18 = .ok (.bipush 20, 2) := by decide +kernel
theorem dX3_bounded_20 : decode cX3_bounded 20 = .ok (.iconst 1, 1) := by decide +kernel
theorem dX3_bounded_21 : decode cX3_bounded 21 = .ok (.iload_n 1, 1) := by decide +kernel
theorem dX3_bounded_22 : decode cX3_bounded 22 = .ok (.invokestatic 45, 3) := by decide +kernel
theorem dX3_bounded_25 : decode cX3_bounded 25 = .ok (.invokestatic 58, 3) := by decide +kernel
theorem dX3_bounded_28 : decode cX3_bounded 28 = .ok (.ireturn, 1) := by decide +kernel
theorem dX3_read_0 : decode cX3_read 0 = .ok (.iconst (-1), 1) := by decide +kernel
theorem dX3_read_1 : decode cX3_read 1 = .ok (.iload_n 1, 1) := by decide +kernel
theorem dX3_read_2 : decode cX3_read 2 = .ok (.isub, 1) := by decide +kernel
theorem dX3_read_3 : decode cX3_read 3 = .ok (.istore_n 2, 1) := by decide +kernel
theorem dX3_read_4 : decode cX3_read 4 = .ok (.iload_n 2, 1) := by decide +kernel
theorem dX3_read_5 : decode cX3_read 5 = .ok (.ifCond .lt 18, 3) := by decide +kernel
theorem dX3_read_8 : decode cX3_read 8 = .ok (.iload_n 2, 1) := by decide +kernel
theorem dX3_read_9 : decode cX3_read 9 = .ok (.bipush 6, 2) := by decide +kernel
theorem dX3_read_11 : decode cX3_read 11 = .ok (.if_icmp .ge 12, 3) := by decide +kernel
theorem dX3_read_14 : decode cX3_read 14 = .ok (.aload_n 0, 1) := by decide +kernel
theorem dX3_read_15 : decode cX3_read 15 = .ok (.getfield 15, 3) := by decide +kernel
theorem dX3_read_18 : decode cX3_read 18 = .ok (.iload_n 2, 1) := by decide +kernel
theorem dX3_read_19 : decode cX3_read 19 = .ok (.iaload, 1) := by decide +kernel
theorem dX3_read_20 : decode cX3_read 20 = .ok (.goto 4, 3) := by decide +kernel
theorem dX3_read_23 : decode cX3_read 23 = .ok (.iload_n 1, 1) := by decide +kernel
theorem dX3_read_24 : decode cX3_read 24 = .ok (.ireturn, 1) := by decide +kernel
theorem dX3_worked_0 : decode cX3_worked 0 = .ok (.iload_n 0, 1) := by decide +kernel
theorem dX3_worked_1 : decode cX3_worked 1 = .ok (.tableswitch 131 (-21) (-11) #[121, 131, 131, 131, 117, 113, 109, 98, 87, 73, 59], 59) := by decide +kernel
theorem dX3_worked_60 : decode cX3_worked 60 = .ok (.iload_n 1, 1) := by decide +kernel
theorem dX3_worked_61 : decode cX3_worked 61 = .ok (.ifCond .ne 7, 3) := by decide +kernel
theorem dX3_worked_64 : decode cX3_worked 64 = .ok (.iload_n 2, 1) := by decide +kernel
theorem dX3_worked_65 : decode cX3_worked 65 = .ok (.ifCond .eq 7, 3) := by decide +kernel
theorem dX3_worked_68 : decode cX3_worked 68 = .ok (.iconst 1, 1) := by decide +kernel
theorem dX3_worked_69 : decode cX3_worked 69 = .ok (.goto 4, 3) := by decide +kernel
theorem dX3_worked_72 : decode cX3_worked 72 = .ok (.iconst 0, 1) := by decide +kernel
theorem dX3_worked_73 : decode cX3_worked 73 = .ok (.ireturn, 1) := by decide +kernel
theorem dX3_worked_74 : decode cX3_worked 74 = .ok (.iload_n 1, 1) := by decide +kernel
theorem dX3_worked_75 : decode cX3_worked 75 = .ok (.ifCond .eq 11, 3) := by decide +kernel
theorem dX3_worked_78 : decode cX3_worked 78 = .ok (.iload_n 2, 1) := by decide +kernel
theorem dX3_worked_79 : decode cX3_worked 79 = .ok (.ifCond .eq 7, 3) := by decide +kernel
theorem dX3_worked_82 : decode cX3_worked 82 = .ok (.iconst 1, 1) := by decide +kernel
theorem dX3_worked_83 : decode cX3_worked 83 = .ok (.goto 4, 3) := by decide +kernel
theorem dX3_worked_86 : decode cX3_worked 86 = .ok (.iconst 0, 1) := by decide +kernel
theorem dX3_worked_87 : decode cX3_worked 87 = .ok (.ireturn, 1) := by decide +kernel
theorem dX3_worked_88 : decode cX3_worked 88 = .ok (.iload_n 1, 1) := by decide +kernel
theorem dX3_worked_89 : decode cX3_worked 89 = .ok (.iload_n 2, 1) := by decide +kernel
theorem dX3_worked_90 : decode cX3_worked 90 = .ok (.if_icmp .ge 7, 3) := by decide +kernel
theorem dX3_worked_93 : decode cX3_worked 93 = .ok (.iconst 1, 1) := by decide +kernel
theorem dX3_worked_94 : decode cX3_worked 94 = .ok (.goto 4, 3) := by decide +kernel
theorem dX3_worked_97 : decode cX3_worked 97 = .ok (.iconst 0, 1) := by decide +kernel
theorem dX3_worked_98 : decode cX3_worked 98 = .ok (.ireturn, 1) := by decide +kernel
theorem dX3_worked_99 : decode cX3_worked 99 = .ok (.iload_n 1, 1) := by decide +kernel
theorem dX3_worked_100 : decode cX3_worked 100 = .ok (.iload_n 2, 1) := by decide +kernel
theorem dX3_worked_101 : decode cX3_worked 101 = .ok (.if_icmp .ne 7, 3) := by decide +kernel
theorem dX3_worked_104 : decode cX3_worked 104 = .ok (.iconst 1, 1) := by decide +kernel
theorem dX3_worked_105 : decode cX3_worked 105 = .ok (.goto 4, 3) := by decide +kernel
theorem dX3_worked_108 : decode cX3_worked 108 = .ok (.iconst 0, 1) := by decide +kernel
theorem dX3_worked_109 : decode cX3_worked 109 = .ok (.ireturn, 1) := by decide +kernel
theorem dX3_worked_110 : decode cX3_worked 110 = .ok (.iload_n 1, 1) := by decide +kernel
theorem dX3_worked_111 : decode cX3_worked 111 = .ok (.iload_n 2, 1) := by decide +kernel
theorem dX3_worked_112 : decode cX3_worked 112 = .ok (.iadd, 1) := by decide +kernel
theorem dX3_worked_113 : decode cX3_worked 113 = .ok (.ireturn, 1) := by decide +kernel
theorem dX3_worked_114 : decode cX3_worked 114 = .ok (.iload_n 1, 1) := by decide +kernel
theorem dX3_worked_115 : decode cX3_worked 115 = .ok (.iload_n 2, 1) := by decide +kernel
theorem dX3_worked_116 : decode cX3_worked 116 = .ok (.isub, 1) := by decide +kernel
theorem dX3_worked_117 : decode cX3_worked 117 = .ok (.ireturn, 1) := by decide +kernel
theorem dX3_worked_118 : decode cX3_worked 118 = .ok (.iload_n 1, 1) := by decide +kernel
theorem dX3_worked_119 : decode cX3_worked 119 = .ok (.iload_n 2, 1) := by decide +kernel
theorem dX3_worked_120 : decode cX3_worked 120 = .ok (.imul, 1) := by decide +kernel
theorem dX3_worked_121 : decode cX3_worked 121 = .ok (.ireturn, 1) := by decide +kernel
theorem dX3_worked_122 : decode cX3_worked 122 = .ok (.iload_n 2, 1) := by decide +kernel
theorem dX3_worked_123 : decode cX3_worked 123 = .ok (.ifCond .ne 7, 3) := by decide +kernel
theorem dX3_worked_126 : decode cX3_worked 126 = .ok (.iconst 1, 1) := by decide +kernel
theorem dX3_worked_127 : decode cX3_worked 127 = .ok (.goto 4, 3) := by decide +kernel
theorem dX3_worked_130 : decode cX3_worked 130 = .ok (.iconst 0, 1) := by decide +kernel
theorem dX3_worked_131 : decode cX3_worked 131 = .ok (.ireturn, 1) := by decide +kernel
theorem dX3_worked_132 : decode cX3_worked 132 = .ok (.iload_n 2, 1) := by decide +kernel
theorem dX3_worked_133 : decode cX3_worked 133 = .ok (.ineg, 1) := by decide +kernel
theorem dX3_worked_134 : decode cX3_worked 134 = .ok (.ireturn, 1) := by decide +kernel
theorem dX4_init_0 : decode cX4_init 0 = .ok (.aload_n 0, 1) := by decide +kernel
theorem dX4_init_1 : decode cX4_init 1 = .ok (.iload_n 1, 1) := by decide +kernel
theorem dX4_init_2 : decode cX4_init 2 = .ok (.iload_n 2, 1) := by decide +kernel
theorem dX4_init_3 : decode cX4_init 3 = .ok (.iload_n 3, 1) := by decide +kernel
theorem dX4_init_4 : decode cX4_init 4 = .ok (.invokespecial 1, 3) := by decide +kernel
theorem dX4_init_7 : decode cX4_init 7 = .ok (.return_, 1) := by decide +kernel
theorem dX4_kind_0 : decode cX4_kind 0 = .ok (.iconst 3, 1) := by decide +kernel
theorem dX4_kind_1 : decode cX4_kind 1 = .ok (.ireturn, 1) := by decide +kernel
theorem dX4_takesFor_0 : decode cX4_takesFor 0 = .ok (.aload_n 0, 1) := by decide +kernel
theorem dX4_takesFor_1 : decode cX4_takesFor 1 = .ok (.iload_n 1, 1) := by decide +kernel
theorem dX4_takesFor_2 : decode cX4_takesFor 2 = .ok (.iload_n 2, 1) := by decide +kernel
theorem dX4_takesFor_3 : decode cX4_takesFor 3 = .ok (.invokespecial 11, 3) := by decide +kernel
theorem dX4_takesFor_6 : decode cX4_takesFor 6 = .ok (.iconst 1, 1) := by decide +kernel
theorem dX4_takesFor_7 : decode cX4_takesFor 7 = .ok (.iadd, 1) := by decide +kernel
theorem dX4_takesFor_8 : decode cX4_takesFor 8 = .ok (.ireturn, 1) := by decide +kernel
theorem dX4_waits_0 : decode cX4_waits 0 = .ok (.iconst 0, 1) := by decide +kernel
theorem dX4_waits_1 : decode cX4_waits 1 = .ok (.ireturn, 1) := by decide +kernel
theorem dX5_init_0 : decode cX5_init 0 = .ok (.aload_n 0, 1) := by decide +kernel
theorem dX5_init_1 : decode cX5_init 1 = .ok (.iload_n 1, 1) := by decide +kernel
theorem dX5_init_2 : decode cX5_init 2 = .ok (.iload_n 2, 1) := by decide +kernel
theorem dX5_init_3 : decode cX5_init 3 = .ok (.iload_n 3, 1) := by decide +kernel
theorem dX5_init_4 : decode cX5_init 4 = .ok (.invokespecial 1, 3) := by decide +kernel
theorem dX5_init_7 : decode cX5_init 7 = .ok (.return_, 1) := by decide +kernel
theorem dX5_kind_0 : decode cX5_kind 0 = .ok (.iconst 1, 1) := by decide +kernel
theorem dX5_kind_1 : decode cX5_kind 1 = .ok (.ireturn, 1) := by decide +kernel
theorem dX5_stepFor_0 : decode cX5_stepFor 0 = .ok (.iload_n 1, 1) := by decide +kernel
theorem dX5_stepFor_1 : decode cX5_stepFor 1 = .ok (.aload_n 0, 1) := by decide +kernel
theorem dX5_stepFor_2 : decode cX5_stepFor 2 = .ok (.getfield 11, 3) := by decide +kernel
theorem dX5_stepFor_5 : decode cX5_stepFor 5 = .ok (.iconst 3, 1) := by decide +kernel
theorem dX5_stepFor_6 : decode cX5_stepFor 6 = .ok (.idiv, 1) := by decide +kernel
theorem dX5_stepFor_7 : decode cX5_stepFor 7 = .ok (.isub, 1) := by decide +kernel
theorem dX5_stepFor_8 : decode cX5_stepFor 8 = .ok (.ireturn, 1) := by decide +kernel
theorem dX6_init_0 : decode cX6_init 0 = .ok (.aload_n 0, 1) := by decide +kernel
theorem dX6_init_1 : decode cX6_init 1 = .ok (.invokespecial 3, 3) := by decide +kernel
theorem dX6_init_4 : decode cX6_init 4 = .ok (.aload_n 0, 1) := by decide +kernel
theorem dX6_init_5 : decode cX6_init 5 = .ok (.iconst (-1), 1) := by decide +kernel
theorem dX6_init_6 : decode cX6_init 6 = .ok (.putfield 9, 3) := by decide +kernel
theorem dX6_init_9 : decode cX6_init 9 = .ok (.aload_n 0, 1) := by decide +kernel
theorem dX6_init_10 : decode cX6_init 10 = .ok (.bipush 40, 2) := by decide +kernel
theorem dX6_init_12 : decode cX6_init 12 = .ok (.newarray .int, 2) := by decide +kernel
theorem dX6_init_14 : decode cX6_init 14 = .ok (.putfield 15, 3) := by decide +kernel
theorem dX6_init_17 : decode cX6_init 17 = .ok (.return_, 1) := by decide +kernel
theorem dX6_become_0 : decode cX6_become 0 = .ok (.aload_n 0, 1) := by decide +kernel
theorem dX6_become_1 : decode cX6_become 1 = .ok (.iload_n 1, 1) := by decide +kernel
theorem dX6_become_2 : decode cX6_become 2 = .ok (.putfield 9, 3) := by decide +kernel
theorem dX6_become_5 : decode cX6_become 5 = .ok (.aload_n 0, 1) := by decide +kernel
theorem dX6_become_6 : decode cX6_become 6 = .ok (.iconst 0, 1) := by decide +kernel
theorem dX6_become_7 : decode cX6_become 7 = .ok (.iload_n 2, 1) := by decide +kernel
theorem dX6_become_8 : decode cX6_become 8 = .ok (.bipush 40, 2) := by decide +kernel
theorem dX6_become_10 : decode cX6_become 10 = .ok (.invokestatic 19, 3) := by decide +kernel
theorem dX6_become_13 : decode cX6_become 13 = .ok (.invokestatic 25, 3) := by decide +kernel
theorem dX6_become_16 : decode cX6_become 16 = .ok (.putfield 28, 3) := by decide +kernel
theorem dX6_become_19 : decode cX6_become 19 = .ok (.aload_n 0, 1) := by decide +kernel
theorem dX6_become_20 : decode cX6_become 20 = .ok (.getfield 15, 3) := by decide +kernel
theorem dX6_become_23 : decode cX6_become 23 = .ok (.iconst 0, 1) := by decide +kernel
theorem dX6_become_24 : decode cX6_become 24 = .ok (.invokestatic 31, 3) := by decide +kernel
theorem dX6_become_27 : decode cX6_become 27 = .ok (.return_, 1) := by decide +kernel
theorem dX6_missing_0 : decode cX6_missing 0 = .ok (.aload_n 0, 1) := by decide +kernel
theorem dX6_missing_1 : decode cX6_missing 1 = .ok (.getfield 9, 3) := by decide +kernel
theorem dX6_missing_4 : decode cX6_missing 4 = .ok (.iconst (-1), 1) := by decide +kernel
theorem dX6_missing_5 : decode cX6_missing 5 = .ok (.if_icmp .ne 7, 3) := by decide +kernel
theorem dX6_missing_8 : decode cX6_missing 8 = .ok (.iconst 1, 1) := by decide +kernel
theorem dX6_missing_9 : decode cX6_missing 9 = .ok (.goto 4, 3) := by decide +kernel
theorem dX6_missing_12 : decode cX6_missing 12 = .ok (.iconst 0, 1) := by decide +kernel
theorem dX6_missing_13 : decode cX6_missing 13 = .ok (.ireturn, 1) := by decide +kernel
theorem dX6_holds_0 : decode cX6_holds 0 = .ok (.iload_n 1, 1) := by decide +kernel
theorem dX6_holds_1 : decode cX6_holds 1 = .ok (.ifCond .lt 21, 3) := by decide +kernel
theorem dX6_holds_4 : decode cX6_holds 4 = .ok (.iload_n 2, 1) := by decide +kernel
theorem dX6_holds_5 : decode cX6_holds 5 = .ok (.ifCond .lt 17, 3) := by decide +kernel
theorem dX6_holds_8 : decode cX6_holds 8 = .ok (.iload_n 1, 1) := by decide +kernel
theorem dX6_holds_9 : decode cX6_holds 9 = .ok (.aload_n 0, 1) := by decide +kernel
theorem dX6_holds_10 : decode cX6_holds 10 = .ok (.getfield 28, 3) := by decide +kernel
theorem dX6_holds_13 : decode cX6_holds 13 = .ok (.iload_n 2, 1) := by decide +kernel
theorem dX6_holds_14 : decode cX6_holds 14 = .ok (.isub, 1) := by decide +kernel
theorem dX6_holds_15 : decode cX6_holds 15 = .ok (.if_icmp .gt 7, 3) := by decide +kernel
theorem dX6_holds_18 : decode cX6_holds 18 = .ok (.iconst 1, 1) := by decide +kernel
theorem dX6_holds_19 : decode cX6_holds 19 = .ok (.goto 4, 3) := by decide +kernel
theorem dX6_holds_22 : decode cX6_holds 22 = .ok (.iconst 0, 1) := by decide +kernel
theorem dX6_holds_23 : decode cX6_holds 23 = .ok (.ireturn, 1) := by decide +kernel
theorem dX6_put_0 : decode cX6_put 0 = .ok (.aload_n 0, 1) := by decide +kernel
theorem dX6_put_1 : decode cX6_put 1 = .ok (.iload_n 1, 1) := by decide +kernel
theorem dX6_put_2 : decode cX6_put 2 = .ok (.iconst 1, 1) := by decide +kernel
theorem dX6_put_3 : decode cX6_put 3 = .ok (.invokevirtual 37, 3) := by decide +kernel
theorem dX6_put_6 : decode cX6_put 6 = .ok (.ifCond .eq 35, 3) := by decide +kernel
theorem dX6_put_9 : decode cX6_put 9 = .ok (.aload_n 0, 1) := by decide +kernel
theorem dX6_put_10 : decode cX6_put 10 = .ok (.getfield 15, 3) := by decide +kernel
theorem dX6_put_13 : decode cX6_put 13 = .ok (.iload_n 1, 1) := by decide +kernel
theorem dX6_put_14 : decode cX6_put 14 = .ok (.aload_n 0, 1) := by decide +kernel
theorem dX6_put_15 : decode cX6_put 15 = .ok (.getfield 9, 3) := by decide +kernel
theorem dX6_put_18 : decode cX6_put 18 = .ok (.ifCond .ne 8, 3) := by decide +kernel
theorem dX6_put_21 : decode cX6_put 21 = .ok (.iload_n 2, 1) := by decide +kernel
theorem dX6_put_22 : decode cX6_put 22 = .ok (.i2b, 1) := by decide +kernel
theorem dX6_put_23 : decode cX6_put 23 = .ok (.goto 17, 3) := by decide +kernel
theorem dX6_put_26 : decode cX6_put 26 = .ok (.aload_n 0, 1) := by decide +kernel
theorem dX6_put_27 : decode cX6_put 27 = .ok (.getfield 9, 3) := by decide +kernel
theorem dX6_put_30 : decode cX6_put 30 = .ok (.iconst 1, 1) := by decide +kernel
theorem dX6_put_31 : decode cX6_put 31 = .ok (.if_icmp .ne 8, 3) := by decide +kernel
theorem dX6_put_34 : decode cX6_put 34 = .ok (.iload_n 2, 1) := by decide +kernel
theorem dX6_put_35 : decode cX6_put 35 = .ok (.i2s, 1) := by decide +kernel
theorem dX6_put_36 : decode cX6_put 36 = .ok (.goto 4, 3) := by decide +kernel
theorem dX6_put_39 : decode cX6_put 39 = .ok (.iload_n 2, 1) := by decide +kernel
theorem dX6_put_40 : decode cX6_put 40 = .ok (.iastore, 1) := by decide +kernel
theorem dX6_put_41 : decode cX6_put 41 = .ok (.return_, 1) := by decide +kernel
theorem dX7_init_0 : decode cX7_init 0 = .ok (.aload_n 0, 1) := by decide +kernel
theorem dX7_init_1 : decode cX7_init 1 = .ok (.invokespecial 3, 3) := by decide +kernel
theorem dX7_init_4 : decode cX7_init 4 = .ok (.aload_n 0, 1) := by decide +kernel
theorem dX7_init_5 : decode cX7_init 5 = .ok (.sipush 160, 3) := by decide +kernel
theorem dX7_init_8 : decode cX7_init 8 = .ok (.newarray .int, 2) := by decide +kernel
theorem dX7_init_10 : decode cX7_init 10 = .ok (.putfield 9, 3) := by decide +kernel
theorem dX7_init_13 : decode cX7_init 13 = .ok (.aload_n 0, 1) := by decide +kernel
theorem dX7_init_14 : decode cX7_init 14 = .ok (.sipush 160, 3) := by decide +kernel
theorem dX7_init_17 : decode cX7_init 17 = .ok (.newarray .int, 2) := by decide +kernel
theorem dX7_init_19 : decode cX7_init 19 = .ok (.putfield 15, 3) := by decide +kernel
theorem dX7_init_22 : decode cX7_init 22 = .ok (.aload_n 0, 1) := by decide +kernel
theorem dX7_init_23 : decode cX7_init 23 = .ok (.iconst 4, 1) := by decide +kernel
theorem dX7_init_24 : decode cX7_init 24 = .ok (.newarray .int, 2) := by decide +kernel
theorem dX7_init_26 : decode cX7_init 26 = .ok (.putfield 20, 3) := by decide +kernel
theorem dX7_init_29 : decode cX7_init 29 = .ok (.return_, 1) := by decide +kernel
theorem dX7_add_0 : decode cX7_add 0 = .ok (.aload_n 0, 1) := by decide +kernel
theorem dX7_add_1 : decode cX7_add 1 = .ok (.getfield 23, 3) := by decide +kernel
theorem dX7_add_4 : decode cX7_add 4 = .ok (.ifCond .lt 33, 3) := by decide +kernel
theorem dX7_add_7 : decode cX7_add 7 = .ok (.aload_n 0, 1) := by decide +kernel
theorem dX7_add_8 : decode cX7_add 8 = .ok (.getfield 23, 3) := by decide +kernel
theorem dX7_add_11 : decode cX7_add 11 = .ok (.sipush 160, 3) := by decide +kernel
theorem dX7_add_14 : decode cX7_add 14 = .ok (.if_icmp .ge 23, 3) := by decide +kernel
theorem dX7_add_17 : decode cX7_add 17 = .ok (.aload_n 0, 1) := by decide +kernel
theorem dX7_add_18 : decode cX7_add 18 = .ok (.getfield 9, 3) := by decide +kernel
theorem dX7_add_21 : decode cX7_add 21 = .ok (.aload_n 0, 1) := by decide +kernel
theorem dX7_add_22 : decode cX7_add 22 = .ok (.getfield 23, 3) := by decide +kernel
theorem dX7_add_25 : decode cX7_add 25 = .ok (.iload_n 1, 1) := by decide +kernel
theorem dX7_add_26 : decode cX7_add 26 = .ok (.iastore, 1) := by decide +kernel
theorem dX7_add_27 : decode cX7_add 27 = .ok (.aload_n 0, 1) := by decide +kernel
theorem dX7_add_28 : decode cX7_add 28 = .ok (.dup, 1) := by decide +kernel
theorem dX7_add_29 : decode cX7_add 29 = .ok (.getfield 23, 3) := by decide +kernel
theorem dX7_add_32 : decode cX7_add 32 = .ok (.iconst 1, 1) := by decide +kernel
theorem dX7_add_33 : decode cX7_add 33 = .ok (.iadd, 1) := by decide +kernel
theorem dX7_add_34 : decode cX7_add 34 = .ok (.putfield 23, 3) := by decide +kernel
theorem dX7_add_37 : decode cX7_add 37 = .ok (.return_, 1) := by decide +kernel
theorem dX7_read_0 : decode cX7_read 0 = .ok (.aload_n 0, 1) := by decide +kernel
theorem dX7_read_1 : decode cX7_read 1 = .ok (.iconst 0, 1) := by decide +kernel
theorem dX7_read_2 : decode cX7_read 2 = .ok (.putfield 27, 3) := by decide +kernel
theorem dX7_read_5 : decode cX7_read 5 = .ok (.aload_n 0, 1) := by decide +kernel
theorem dX7_read_6 : decode cX7_read 6 = .ok (.iconst (-1), 1) := by decide +kernel
theorem dX7_read_7 : decode cX7_read 7 = .ok (.putfield 30, 3) := by decide +kernel
theorem dX7_read_10 : decode cX7_read 10 = .ok (.aload_n 0, 1) := by decide +kernel
theorem dX7_read_11 : decode cX7_read 11 = .ok (.iconst 0, 1) := by decide +kernel
theorem dX7_read_12 : decode cX7_read 12 = .ok (.putfield 33, 3) := by decide +kernel
theorem dX7_read_15 : decode cX7_read 15 = .ok (.aload_n 0, 1) := by decide +kernel
theorem dX7_read_16 : decode cX7_read 16 = .ok (.invokevirtual 36, 3) := by decide +kernel
theorem dX7_read_19 : decode cX7_read 19 = .ok (.aload_n 0, 1) := by decide +kernel
theorem dX7_read_20 : decode cX7_read 20 = .ok (.iconst 0, 1) := by decide +kernel
theorem dX7_read_21 : decode cX7_read 21 = .ok (.iconst 4, 1) := by decide +kernel
theorem dX7_read_22 : decode cX7_read 22 = .ok (.invokevirtual 39, 3) := by decide +kernel
theorem dX7_read_25 : decode cX7_read 25 = .ok (.aload_n 0, 1) := by decide +kernel
theorem dX7_read_26 : decode cX7_read 26 = .ok (.iconst 1, 1) := by decide +kernel
theorem dX7_read_27 : decode cX7_read 27 = .ok (.iconst 5, 1) := by decide +kernel
theorem dX7_read_28 : decode cX7_read 28 = .ok (.invokevirtual 39, 3) := by decide +kernel
theorem dX7_read_31 : decode cX7_read 31 = .ok (.aload_n 0, 1) := by decide +kernel
theorem dX7_read_32 : decode cX7_read 32 = .ok (.iconst 2, 1) := by decide +kernel
theorem dX7_read_33 : decode cX7_read 33 = .ok (.bipush 6, 2) := by decide +kernel
theorem dX7_read_35 : decode cX7_read 35 = .ok (.invokevirtual 39, 3) := by decide +kernel
theorem dX7_read_38 : decode cX7_read 38 = .ok (.aload_n 0, 1) := by decide +kernel
theorem dX7_read_39 : decode cX7_read 39 = .ok (.getfield 20, 3) := by decide +kernel
theorem dX7_read_42 : decode cX7_read 42 = .ok (.iconst 3, 1) := by decide +kernel
theorem dX7_read_43 : decode cX7_read 43 = .ok (.aload_n 0, 1) := by decide +kernel
theorem dX7_read_44 : decode cX7_read 44 = .ok (.getfield 33, 3) := by decide +kernel
theorem dX7_read_47 : decode cX7_read 47 = .ok (.iastore, 1) := by decide +kernel
theorem dX7_read_48 : decode cX7_read 48 = .ok (.aload_n 0, 1) := by decide +kernel
theorem dX7_read_49 : decode cX7_read 49 = .ok (.getfield 43, 3) := by decide +kernel
theorem dX7_read_52 : decode cX7_read 52 = .ok (.ifCond .eq 7, 3) := by decide +kernel
theorem dX7_read_55 : decode cX7_read 55 = .ok (.aload_n 0, 1) := by decide +kernel
theorem dX7_read_56 : decode cX7_read 56 = .ok (.invokevirtual 46, 3) := by decide +kernel
theorem dX7_read_59 : decode cX7_read 59 = .ok (.aload_n 0, 1) := by decide +kernel
theorem dX7_read_60 : decode cX7_read 60 = .ok (.getfield 30, 3) := by decide +kernel
theorem dX7_read_63 : decode cX7_read 63 = .ok (.ireturn, 1) := by decide +kernel
theorem dX7_lastRead_0 : decode cX7_lastRead 0 = .ok (.iconst 0, 1) := by decide +kernel
theorem dX7_lastRead_1 : decode cX7_lastRead 1 = .ok (.aload_n 0, 1) := by decide +kernel
theorem dX7_lastRead_2 : decode cX7_lastRead 2 = .ok (.getfield 33, 3) := by decide +kernel
theorem dX7_lastRead_5 : decode cX7_lastRead 5 = .ok (.sipush 160, 3) := by decide +kernel
theorem dX7_lastRead_8 : decode cX7_lastRead 8 = .ok (.invokestatic 49, 3) := by decide +kernel
theorem dX7_lastRead_11 : decode cX7_lastRead 11 = .ok (.invokestatic 55, 3) := by decide +kernel
theorem dX7_lastRead_14 : decode cX7_lastRead 14 = .ok (.istore_n 1, 1) := by decide +kernel
theorem dX7_lastRead_15 : decode cX7_lastRead 15 = .ok (.new 18, 3) := by decide +kernel
theorem dX7_lastRead_18 : decode cX7_lastRead 18 = .ok (.dup, 1) := by decide +kernel
theorem dX7_lastRead_19 : decode cX7_lastRead 19 = .ok (.aload_n 0, 1) := by decide +kernel
theorem dX7_lastRead_20 : decode cX7_lastRead 20 = .ok (.getfield 15, 3) := by decide +kernel
theorem dX7_lastRead_23 : decode cX7_lastRead 23 = .ok (.iload_n 1, 1) := by decide +kernel
theorem dX7_lastRead_24 : decode cX7_lastRead 24 = .ok (.invokestatic 58, 3) := by decide +kernel
theorem dX7_lastRead_27 : decode cX7_lastRead 27 = .ok (.aload_n 0, 1) := by decide +kernel
theorem dX7_lastRead_28 : decode cX7_lastRead 28 = .ok (.getfield 20, 3) := by decide +kernel
theorem dX7_lastRead_31 : decode cX7_lastRead 31 = .ok (.invokespecial 64, 3) := by decide +kernel
theorem dX7_lastRead_34 : decode cX7_lastRead 34 = .ok (.areturn, 1) := by decide +kernel
theorem dX7_readPart_0 : decode cX7_readPart 0 = .ok (.iload_n 1, 1) := by decide +kernel
theorem dX7_readPart_1 : decode cX7_readPart 1 = .ok (.ifCond .lt 18, 3) := by decide +kernel
theorem dX7_readPart_4 : decode cX7_readPart 4 = .ok (.iload_n 1, 1) := by decide +kernel
theorem dX7_readPart_5 : decode cX7_readPart 5 = .ok (.iconst 3, 1) := by decide +kernel
theorem dX7_readPart_6 : decode cX7_readPart 6 = .ok (.if_icmp .ge 13, 3) := by decide +kernel
theorem dX7_readPart_9 : decode cX7_readPart 9 = .ok (.aload_n 0, 1) := by decide +kernel
theorem dX7_readPart_10 : decode cX7_readPart 10 = .ok (.getfield 20, 3) := by decide +kernel
theorem dX7_readPart_13 : decode cX7_readPart 13 = .ok (.iload_n 1, 1) := by decide +kernel
theorem dX7_readPart_14 : decode cX7_readPart 14 = .ok (.aload_n 0, 1) := by decide +kernel
theorem dX7_readPart_15 : decode cX7_readPart 15 = .ok (.getfield 33, 3) := by decide +kernel
theorem dX7_readPart_18 : decode cX7_readPart 18 = .ok (.iastore, 1) := by decide +kernel
theorem dX7_readPart_19 : decode cX7_readPart 19 = .ok (.aload_n 0, 1) := by decide +kernel
theorem dX7_readPart_20 : decode cX7_readPart 20 = .ok (.iload_n 2, 1) := by decide +kernel
theorem dX7_readPart_21 : decode cX7_readPart 21 = .ok (.invokevirtual 67, 3) := by decide +kernel
theorem dX7_readPart_24 : decode cX7_readPart 24 = .ok (.aload_n 0, 1) := by decide +kernel
theorem dX7_readPart_25 : decode cX7_readPart 25 = .ok (.iconst 0, 1) := by decide +kernel
theorem dX7_readPart_26 : decode cX7_readPart 26 = .ok (.invokevirtual 71, 3) := by decide +kernel
theorem dX7_readPart_29 : decode cX7_readPart 29 = .ok (.aload_n 0, 1) := by decide +kernel
theorem dX7_readPart_30 : decode cX7_readPart 30 = .ok (.bipush 59, 2) := by decide +kernel
theorem dX7_readPart_32 : decode cX7_readPart 32 = .ok (.invokevirtual 67, 3) := by decide +kernel
theorem dX7_readPart_35 : decode cX7_readPart 35 = .ok (.return_, 1) := by decide +kernel
theorem dX7_readOr_0 : decode cX7_readOr 0 = .ok (.aload_n 0, 1) := by decide +kernel
theorem dX7_readOr_1 : decode cX7_readOr 1 = .ok (.iload_n 1, 1) := by decide +kernel
theorem dX7_readOr_2 : decode cX7_readOr 2 = .ok (.invokevirtual 74, 3) := by decide +kernel
theorem dX7_readOr_5 : decode cX7_readOr 5 = .ok (.iconst 0, 1) := by decide +kernel
theorem dX7_readOr_6 : decode cX7_readOr 6 = .ok (.istore_n 2, 1) := by decide +kernel
theorem dX7_readOr_7 : decode cX7_readOr 7 = .ok (.iload_n 2, 1) := by decide +kernel
theorem dX7_readOr_8 : decode cX7_readOr 8 = .ok (.sipush 160, 3) := by decide +kernel
theorem dX7_readOr_11 : decode cX7_readOr 11 = .ok (.if_icmp .ge 41, 3) := by decide +kernel
theorem dX7_readOr_14 : decode cX7_readOr 14 = .ok (.aload_n 0, 1) := by decide +kernel
theorem dX7_readOr_15 : decode cX7_readOr 15 = .ok (.getfield 43, 3) := by decide +kernel
theorem dX7_readOr_18 : decode cX7_readOr 18 = .ok (.bipush 7, 2) := by decide +kernel
theorem dX7_readOr_20 : decode cX7_readOr 20 = .ok (.if_icmp .ne 32, 3) := by decide +kernel
theorem dX7_readOr_23 : decode cX7_readOr 23 = .ok (.aload_n 0, 1) := by decide +kernel
theorem dX7_readOr_24 : decode cX7_readOr 24 = .ok (.getfield 30, 3) := by decide +kernel
theorem dX7_readOr_27 : decode cX7_readOr 27 = .ok (.iconst (-1), 1) := by decide +kernel
theorem dX7_readOr_28 : decode cX7_readOr 28 = .ok (.if_icmp .ne 24, 3) := by decide +kernel
theorem dX7_readOr_31 : decode cX7_readOr 31 = .ok (.aload_n 0, 1) := by decide +kernel
theorem dX7_readOr_32 : decode cX7_readOr 32 = .ok (.invokevirtual 36, 3) := by decide +kernel
theorem dX7_readOr_35 : decode cX7_readOr 35 = .ok (.aload_n 0, 1) := by decide +kernel
theorem dX7_readOr_36 : decode cX7_readOr 36 = .ok (.iload_n 1, 1) := by decide +kernel
theorem dX7_readOr_37 : decode cX7_readOr 37 = .ok (.invokevirtual 74, 3) := by decide +kernel
theorem dX7_readOr_40 : decode cX7_readOr 40 = .ok (.aload_n 0, 1) := by decide +kernel
theorem dX7_readOr_41 : decode cX7_readOr 41 = .ok (.bipush (-11), 2) := by decide +kernel
theorem dX7_readOr_43 : decode cX7_readOr 43 = .ok (.invokevirtual 77, 3) := by decide +kernel
theorem dX7_readOr_46 : decode cX7_readOr 46 = .ok (.iinc 2 1, 3) := by decide +kernel
theorem dX7_readOr_49 : decode cX7_readOr 49 = .ok (.goto (-42), 3) := by decide +kernel
theorem dX7_readOr_52 : decode cX7_readOr 52 = .ok (.return_, 1) := by decide +kernel
theorem dX7_readAnd_0 : decode cX7_readAnd 0 = .ok (.aload_n 0, 1) := by decide +kernel
theorem dX7_readAnd_1 : decode cX7_readAnd 1 = .ok (.iload_n 1, 1) := by decide +kernel
theorem dX7_readAnd_2 : decode cX7_readAnd 2 = .ok (.invokevirtual 80, 3) := by decide +kernel
theorem dX7_readAnd_5 : decode cX7_readAnd 5 = .ok (.iconst 0, 1) := by decide +kernel
theorem dX7_readAnd_6 : decode cX7_readAnd 6 = .ok (.istore_n 2, 1) := by decide +kernel
theorem dX7_readAnd_7 : decode cX7_readAnd 7 = .ok (.iload_n 2, 1) := by decide +kernel
theorem dX7_readAnd_8 : decode cX7_readAnd 8 = .ok (.sipush 160, 3) := by decide +kernel
theorem dX7_readAnd_11 : decode cX7_readAnd 11 = .ok (.if_icmp .ge 41, 3) := by decide +kernel
theorem dX7_readAnd_14 : decode cX7_readAnd 14 = .ok (.aload_n 0, 1) := by decide +kernel
theorem dX7_readAnd_15 : decode cX7_readAnd 15 = .ok (.getfield 43, 3) := by decide +kernel
theorem dX7_readAnd_18 : decode cX7_readAnd 18 = .ok (.bipush 8, 2) := by decide +kernel
theorem dX7_readAnd_20 : decode cX7_readAnd 20 = .ok (.if_icmp .ne 32, 3) := by decide +kernel
theorem dX7_readAnd_23 : decode cX7_readAnd 23 = .ok (.aload_n 0, 1) := by decide +kernel
theorem dX7_readAnd_24 : decode cX7_readAnd 24 = .ok (.getfield 30, 3) := by decide +kernel
theorem dX7_readAnd_27 : decode cX7_readAnd 27 = .ok (.iconst (-1), 1) := by decide +kernel
theorem dX7_readAnd_28 : decode cX7_readAnd 28 = .ok (.if_icmp .ne 24, 3) := by decide +kernel
theorem dX7_readAnd_31 : decode cX7_readAnd 31 = .ok (.aload_n 0, 1) := by decide +kernel
theorem dX7_readAnd_32 : decode cX7_readAnd 32 = .ok (.invokevirtual 36, 3) := by decide +kernel
theorem dX7_readAnd_35 : decode cX7_readAnd 35 = .ok (.aload_n 0, 1) := by decide +kernel
theorem dX7_readAnd_36 : decode cX7_readAnd 36 = .ok (.iload_n 1, 1) := by decide +kernel
theorem dX7_readAnd_37 : decode cX7_readAnd 37 = .ok (.invokevirtual 80, 3) := by decide +kernel
theorem dX7_readAnd_40 : decode cX7_readAnd 40 = .ok (.aload_n 0, 1) := by decide +kernel
theorem dX7_readAnd_41 : decode cX7_readAnd 41 = .ok (.bipush (-12), 2) := by decide +kernel
theorem dX7_readAnd_43 : decode cX7_readAnd 43 = .ok (.invokevirtual 77, 3) := by decide +kernel
theorem dX7_readAnd_46 : decode cX7_readAnd 46 = .ok (.iinc 2 1, 3) := by decide +kernel
theorem dX7_readAnd_49 : decode cX7_readAnd 49 = .ok (.goto (-42), 3) := by decide +kernel
theorem dX7_readAnd_52 : decode cX7_readAnd 52 = .ok (.return_, 1) := by decide +kernel
theorem dX7_readNot_0 : decode cX7_readNot 0 = .ok (.aload_n 0, 1) := by decide +kernel
theorem dX7_readNot_1 : decode cX7_readNot 1 = .ok (.getfield 43, 3) := by decide +kernel
theorem dX7_readNot_4 : decode cX7_readNot 4 = .ok (.bipush 9, 2) := by decide +kernel
theorem dX7_readNot_6 : decode cX7_readNot 6 = .ok (.if_icmp .ne 29, 3) := by decide +kernel
theorem dX7_readNot_9 : decode cX7_readNot 9 = .ok (.aload_n 0, 1) := by decide +kernel
theorem dX7_readNot_10 : decode cX7_readNot 10 = .ok (.iload_n 1, 1) := by decide +kernel
theorem dX7_readNot_11 : decode cX7_readNot 11 = .ok (.invokevirtual 83, 3) := by decide +kernel
theorem dX7_readNot_14 : decode cX7_readNot 14 = .ok (.ifCond .eq 20, 3) := by decide +kernel
theorem dX7_readNot_17 : decode cX7_readNot 17 = .ok (.aload_n 0, 1) := by decide +kernel
theorem dX7_readNot_18 : decode cX7_readNot 18 = .ok (.invokevirtual 36, 3) := by decide +kernel
theorem dX7_readNot_21 : decode cX7_readNot 21 = .ok (.aload_n 0, 1) := by decide +kernel
theorem dX7_readNot_22 : decode cX7_readNot 22 = .ok (.iload_n 1, 1) := by decide +kernel
theorem dX7_readNot_23 : decode cX7_readNot 23 = .ok (.iconst 1, 1) := by decide +kernel
theorem dX7_readNot_24 : decode cX7_readNot 24 = .ok (.iadd, 1) := by decide +kernel
theorem dX7_readNot_25 : decode cX7_readNot 25 = .ok (.invokevirtual 80, 3) := by decide +kernel
theorem dX7_readNot_28 : decode cX7_readNot 28 = .ok (.aload_n 0, 1) := by decide +kernel
theorem dX7_readNot_29 : decode cX7_readNot 29 = .ok (.bipush (-21), 2) := by decide +kernel
theorem dX7_readNot_31 : decode cX7_readNot 31 = .ok (.invokevirtual 77, 3) := by decide +kernel
theorem dX7_readNot_34 : decode cX7_readNot 34 = .ok (.return_, 1) := by decide +kernel
theorem dX7_readNot_35 : decode cX7_readNot 35 = .ok (.aload_n 0, 1) := by decide +kernel
theorem dX7_readNot_36 : decode cX7_readNot 36 = .ok (.iload_n 1, 1) := by decide +kernel
theorem dX7_readNot_37 : decode cX7_readNot 37 = .ok (.invokevirtual 87, 3) := by decide +kernel
theorem dX7_readNot_40 : decode cX7_readNot 40 = .ok (.aload_n 0, 1) := by decide +kernel
theorem dX7_readNot_41 : decode cX7_readNot 41 = .ok (.getfield 43, 3) := by decide +kernel
theorem dX7_readNot_44 : decode cX7_readNot 44 = .ok (.bipush 60, 2) := by decide +kernel
theorem dX7_readNot_46 : decode cX7_readNot 46 = .ok (.if_icmp .eq 12, 3) := by decide +kernel
theorem dX7_readNot_49 : decode cX7_readNot 49 = .ok (.aload_n 0, 1) := by decide +kernel
theorem dX7_readNot_50 : decode cX7_readNot 50 = .ok (.getfield 43, 3) := by decide +kernel
theorem dX7_readNot_53 : decode cX7_readNot 53 = .ok (.bipush 61, 2) := by decide +kernel
theorem dX7_readNot_55 : decode cX7_readNot 55 = .ok (.if_icmp .ne 34, 3) := by decide +kernel
theorem dX7_readNot_58 : decode cX7_readNot 58 = .ok (.aload_n 0, 1) := by decide +kernel
theorem dX7_readNot_59 : decode cX7_readNot 59 = .ok (.getfield 43, 3) := by decide +kernel
theorem dX7_readNot_62 : decode cX7_readNot 62 = .ok (.bipush 60, 2) := by decide +kernel
theorem dX7_readNot_64 : decode cX7_readNot 64 = .ok (.if_icmp .ne 8, 3) := by decide +kernel
theorem dX7_readNot_67 : decode cX7_readNot 67 = .ok (.bipush (-13), 2) := by decide +kernel
theorem dX7_readNot_69 : decode cX7_readNot 69 = .ok (.goto 5, 3) := by decide +kernel
theorem dX7_readNot_72 : decode cX7_readNot 72 = .ok (.bipush (-14), 2) := by decide +kernel
theorem dX7_readNot_74 : decode cX7_readNot 74 = .ok (.istore_n 2, 1) := by decide +kernel
theorem dX7_readNot_75 : decode cX7_readNot 75 = .ok (.aload_n 0, 1) := by decide +kernel
theorem dX7_readNot_76 : decode cX7_readNot 76 = .ok (.invokevirtual 36, 3) := by decide +kernel
theorem dX7_readNot_79 : decode cX7_readNot 79 = .ok (.aload_n 0, 1) := by decide +kernel
theorem dX7_readNot_80 : decode cX7_readNot 80 = .ok (.iload_n 1, 1) := by decide +kernel
theorem dX7_readNot_81 : decode cX7_readNot 81 = .ok (.invokevirtual 87, 3) := by decide +kernel
theorem dX7_readNot_84 : decode cX7_readNot 84 = .ok (.aload_n 0, 1) := by decide +kernel
theorem dX7_readNot_85 : decode cX7_readNot 85 = .ok (.iload_n 2, 1) := by decide +kernel
theorem dX7_readNot_86 : decode cX7_readNot 86 = .ok (.invokevirtual 77, 3) := by decide +kernel
theorem dX7_readNot_89 : decode cX7_readNot 89 = .ok (.return_, 1) := by decide +kernel
theorem dX7_readSum_0 : decode cX7_readSum 0 = .ok (.aload_n 0, 1) := by decide +kernel
theorem dX7_readSum_1 : decode cX7_readSum 1 = .ok (.iload_n 1, 1) := by decide +kernel
theorem dX7_readSum_2 : decode cX7_readSum 2 = .ok (.invokevirtual 90, 3) := by decide +kernel
theorem dX7_readSum_5 : decode cX7_readSum 5 = .ok (.iconst 0, 1) := by decide +kernel
theorem dX7_readSum_6 : decode cX7_readSum 6 = .ok (.istore_n 2, 1) := by decide +kernel
theorem dX7_readSum_7 : decode cX7_readSum 7 = .ok (.iload_n 2, 1) := by decide +kernel
theorem dX7_readSum_8 : decode cX7_readSum 8 = .ok (.sipush 160, 3) := by decide +kernel
theorem dX7_readSum_11 : decode cX7_readSum 11 = .ok (.if_icmp .ge 66, 3) := by decide +kernel
theorem dX7_readSum_14 : decode cX7_readSum 14 = .ok (.aload_n 0, 1) := by decide +kernel
theorem dX7_readSum_15 : decode cX7_readSum 15 = .ok (.getfield 43, 3) := by decide +kernel
theorem dX7_readSum_18 : decode cX7_readSum 18 = .ok (.bipush 43, 2) := by decide +kernel
theorem dX7_readSum_20 : decode cX7_readSum 20 = .ok (.if_icmp .eq 12, 3) := by decide +kernel
theorem dX7_readSum_23 : decode cX7_readSum 23 = .ok (.aload_n 0, 1) := by decide +kernel
theorem dX7_readSum_24 : decode cX7_readSum 24 = .ok (.getfield 43, 3) := by decide +kernel
theorem dX7_readSum_27 : decode cX7_readSum 27 = .ok (.bipush 45, 2) := by decide +kernel
theorem dX7_readSum_29 : decode cX7_readSum 29 = .ok (.if_icmp .ne 48, 3) := by decide +kernel
theorem dX7_readSum_32 : decode cX7_readSum 32 = .ok (.aload_n 0, 1) := by decide +kernel
theorem dX7_readSum_33 : decode cX7_readSum 33 = .ok (.getfield 30, 3) := by decide +kernel
theorem dX7_readSum_36 : decode cX7_readSum 36 = .ok (.iconst (-1), 1) := by decide +kernel
theorem dX7_readSum_37 : decode cX7_readSum 37 = .ok (.if_icmp .ne 40, 3) := by decide +kernel
theorem dX7_readSum_40 : decode cX7_readSum 40 = .ok (.aload_n 0, 1) := by decide +kernel
theorem dX7_readSum_41 : decode cX7_readSum 41 = .ok (.getfield 43, 3) := by decide +kernel
theorem dX7_readSum_44 : decode cX7_readSum 44 = .ok (.bipush 43, 2) := by decide +kernel
theorem dX7_readSum_46 : decode cX7_readSum 46 = .ok (.if_icmp .ne 8, 3) := by decide +kernel
theorem dX7_readSum_49 : decode cX7_readSum 49 = .ok (.bipush (-15), 2) := by decide +kernel
theorem dX7_readSum_51 : decode cX7_readSum 51 = .ok (.goto 5, 3) := by decide +kernel
theorem dX7_readSum_54 : decode cX7_readSum 54 = .ok (.bipush (-16), 2) := by decide +kernel
theorem dX7_readSum_56 : decode cX7_readSum 56 = .ok (.istore_n 3, 1) := by decide +kernel
theorem dX7_readSum_57 : decode cX7_readSum 57 = .ok (.aload_n 0, 1) := by decide +kernel
theorem dX7_readSum_58 : decode cX7_readSum 58 = .ok (.invokevirtual 36, 3) := by decide +kernel
theorem dX7_readSum_61 : decode cX7_readSum 61 = .ok (.aload_n 0, 1) := by decide +kernel
theorem dX7_readSum_62 : decode cX7_readSum 62 = .ok (.iload_n 1, 1) := by decide +kernel
theorem dX7_readSum_63 : decode cX7_readSum 63 = .ok (.invokevirtual 90, 3) := by decide +kernel
theorem dX7_readSum_66 : decode cX7_readSum 66 = .ok (.aload_n 0, 1) := by decide +kernel
theorem dX7_readSum_67 : decode cX7_readSum 67 = .ok (.iload_n 3, 1) := by decide +kernel
theorem dX7_readSum_68 : decode cX7_readSum 68 = .ok (.invokevirtual 77, 3) := by decide +kernel
theorem dX7_readSum_71 : decode cX7_readSum 71 = .ok (.iinc 2 1, 3) := by decide +kernel
theorem dX7_readSum_74 : decode cX7_readSum 74 = .ok (.goto (-67), 3) := by decide +kernel
theorem dX7_readSum_77 : decode cX7_readSum 77 = .ok (.return_, 1) := by decide +kernel
theorem dX7_readTerm_0 : decode cX7_readTerm 0 = .ok (.aload_n 0, 1) := by decide +kernel
theorem dX7_readTerm_1 : decode cX7_readTerm 1 = .ok (.iload_n 1, 1) := by decide +kernel
theorem dX7_readTerm_2 : decode cX7_readTerm 2 = .ok (.invokevirtual 93, 3) := by decide +kernel
theorem dX7_readTerm_5 : decode cX7_readTerm 5 = .ok (.iconst 0, 1) := by decide +kernel
theorem dX7_readTerm_6 : decode cX7_readTerm 6 = .ok (.istore_n 2, 1) := by decide +kernel
theorem dX7_readTerm_7 : decode cX7_readTerm 7 = .ok (.iload_n 2, 1) := by decide +kernel
theorem dX7_readTerm_8 : decode cX7_readTerm 8 = .ok (.sipush 160, 3) := by decide +kernel
theorem dX7_readTerm_11 : decode cX7_readTerm 11 = .ok (.if_icmp .ge 41, 3) := by decide +kernel
theorem dX7_readTerm_14 : decode cX7_readTerm 14 = .ok (.aload_n 0, 1) := by decide +kernel
theorem dX7_readTerm_15 : decode cX7_readTerm 15 = .ok (.getfield 43, 3) := by decide +kernel
theorem dX7_readTerm_18 : decode cX7_readTerm 18 = .ok (.bipush 42, 2) := by decide +kernel
theorem dX7_readTerm_20 : decode cX7_readTerm 20 = .ok (.if_icmp .ne 32, 3) := by decide +kernel
theorem dX7_readTerm_23 : decode cX7_readTerm 23 = .ok (.aload_n 0, 1) := by decide +kernel
theorem dX7_readTerm_24 : decode cX7_readTerm 24 = .ok (.getfield 30, 3) := by decide +kernel
theorem dX7_readTerm_27 : decode cX7_readTerm 27 = .ok (.iconst (-1), 1) := by decide +kernel
theorem dX7_readTerm_28 : decode cX7_readTerm 28 = .ok (.if_icmp .ne 24, 3) := by decide +kernel
theorem dX7_readTerm_31 : decode cX7_readTerm 31 = .ok (.aload_n 0, 1) := by decide +kernel
theorem dX7_readTerm_32 : decode cX7_readTerm 32 = .ok (.invokevirtual 36, 3) := by decide +kernel
theorem dX7_readTerm_35 : decode cX7_readTerm 35 = .ok (.aload_n 0, 1) := by decide +kernel
theorem dX7_readTerm_36 : decode cX7_readTerm 36 = .ok (.iload_n 1, 1) := by decide +kernel
theorem dX7_readTerm_37 : decode cX7_readTerm 37 = .ok (.invokevirtual 93, 3) := by decide +kernel
theorem dX7_readTerm_40 : decode cX7_readTerm 40 = .ok (.aload_n 0, 1) := by decide +kernel
theorem dX7_readTerm_41 : decode cX7_readTerm 41 = .ok (.bipush (-17), 2) := by decide +kernel
theorem dX7_readTerm_43 : decode cX7_readTerm 43 = .ok (.invokevirtual 77, 3) := by decide +kernel
theorem dX7_readTerm_46 : decode cX7_readTerm 46 = .ok (.iinc 2 1, 3) := by decide +kernel
theorem dX7_readTerm_49 : decode cX7_readTerm 49 = .ok (.goto (-42), 3) := by decide +kernel
theorem dX7_readTerm_52 : decode cX7_readTerm 52 = .ok (.return_, 1) := by decide +kernel
theorem dX7_readOne_0 : decode cX7_readOne 0 = .ok (.aload_n 0, 1) := by decide +kernel
theorem dX7_readOne_1 : decode cX7_readOne 1 = .ok (.getfield 43, 3) := by decide +kernel
theorem dX7_readOne_4 : decode cX7_readOne 4 = .ok (.iconst 2, 1) := by decide +kernel
theorem dX7_readOne_5 : decode cX7_readOne 5 = .ok (.if_icmp .eq 11, 3) := by decide +kernel
theorem dX7_readOne_8 : decode cX7_readOne 8 = .ok (.aload_n 0, 1) := by decide +kernel
theorem dX7_readOne_9 : decode cX7_readOne 9 = .ok (.getfield 43, 3) := by decide +kernel
theorem dX7_readOne_12 : decode cX7_readOne 12 = .ok (.iconst 3, 1) := by decide +kernel
theorem dX7_readOne_13 : decode cX7_readOne 13 = .ok (.if_icmp .ne 18, 3) := by decide +kernel
theorem dX7_readOne_16 : decode cX7_readOne 16 = .ok (.aload_n 0, 1) := by decide +kernel
theorem dX7_readOne_17 : decode cX7_readOne 17 = .ok (.aload_n 0, 1) := by decide +kernel
theorem dX7_readOne_18 : decode cX7_readOne 18 = .ok (.getfield 96, 3) := by decide +kernel
theorem dX7_readOne_21 : decode cX7_readOne 21 = .ok (.invokevirtual 77, 3) := by decide +kernel
theorem dX7_readOne_24 : decode cX7_readOne 24 = .ok (.aload_n 0, 1) := by decide +kernel
theorem dX7_readOne_25 : decode cX7_readOne 25 = .ok (.invokevirtual 36, 3) := by decide +kernel
theorem dX7_readOne_28 : decode cX7_readOne 28 = .ok (.goto 81, 3) := by decide +kernel
theorem dX7_readOne_31 : decode cX7_readOne 31 = .ok (.aload_n 0, 1) := by decide +kernel
theorem dX7_readOne_32 : decode cX7_readOne 32 = .ok (.getfield 43, 3) := by decide +kernel
theorem dX7_readOne_35 : decode cX7_readOne 35 = .ok (.bipush 45, 2) := by decide +kernel
theorem dX7_readOne_37 : decode cX7_readOne 37 = .ok (.if_icmp .ne 31, 3) := by decide +kernel
theorem dX7_readOne_40 : decode cX7_readOne 40 = .ok (.aload_n 0, 1) := by decide +kernel
theorem dX7_readOne_41 : decode cX7_readOne 41 = .ok (.iload_n 1, 1) := by decide +kernel
theorem dX7_readOne_42 : decode cX7_readOne 42 = .ok (.invokevirtual 83, 3) := by decide +kernel
theorem dX7_readOne_45 : decode cX7_readOne 45 = .ok (.ifCond .eq 23, 3) := by decide +kernel
theorem dX7_readOne_48 : decode cX7_readOne 48 = .ok (.aload_n 0, 1) := by decide +kernel
theorem dX7_readOne_49 : decode cX7_readOne 49 = .ok (.invokevirtual 36, 3) := by decide +kernel
theorem dX7_readOne_52 : decode cX7_readOne 52 = .ok (.aload_n 0, 1) := by decide +kernel
theorem dX7_readOne_53 : decode cX7_readOne 53 = .ok (.iload_n 1, 1) := by decide +kernel
theorem dX7_readOne_54 : decode cX7_readOne 54 = .ok (.iconst 1, 1) := by decide +kernel
theorem dX7_readOne_55 : decode cX7_readOne 55 = .ok (.iadd, 1) := by decide +kernel
theorem dX7_readOne_56 : decode cX7_readOne 56 = .ok (.invokevirtual 93, 3) := by decide +kernel
theorem dX7_readOne_59 : decode cX7_readOne 59 = .ok (.aload_n 0, 1) := by decide +kernel
theorem dX7_readOne_60 : decode cX7_readOne 60 = .ok (.bipush (-22), 2) := by decide +kernel
theorem dX7_readOne_62 : decode cX7_readOne 62 = .ok (.invokevirtual 77, 3) := by decide +kernel
theorem dX7_readOne_65 : decode cX7_readOne 65 = .ok (.goto 44, 3) := by decide +kernel
theorem dX7_readOne_68 : decode cX7_readOne 68 = .ok (.aload_n 0, 1) := by decide +kernel
theorem dX7_readOne_69 : decode cX7_readOne 69 = .ok (.getfield 43, 3) := by decide +kernel
theorem dX7_readOne_72 : decode cX7_readOne 72 = .ok (.bipush 40, 2) := by decide +kernel
theorem dX7_readOne_74 : decode cX7_readOne 74 = .ok (.if_icmp .ne 31, 3) := by decide +kernel
theorem dX7_readOne_77 : decode cX7_readOne 77 = .ok (.aload_n 0, 1) := by decide +kernel
theorem dX7_readOne_78 : decode cX7_readOne 78 = .ok (.iload_n 1, 1) := by decide +kernel
theorem dX7_readOne_79 : decode cX7_readOne 79 = .ok (.invokevirtual 83, 3) := by decide +kernel
theorem dX7_readOne_82 : decode cX7_readOne 82 = .ok (.ifCond .eq 23, 3) := by decide +kernel
theorem dX7_readOne_85 : decode cX7_readOne 85 = .ok (.aload_n 0, 1) := by decide +kernel
theorem dX7_readOne_86 : decode cX7_readOne 86 = .ok (.invokevirtual 36, 3) := by decide +kernel
theorem dX7_readOne_89 : decode cX7_readOne 89 = .ok (.aload_n 0, 1) := by decide +kernel
theorem dX7_readOne_90 : decode cX7_readOne 90 = .ok (.iload_n 1, 1) := by decide +kernel
theorem dX7_readOne_91 : decode cX7_readOne 91 = .ok (.iconst 1, 1) := by decide +kernel
theorem dX7_readOne_92 : decode cX7_readOne 92 = .ok (.iadd, 1) := by decide +kernel
theorem dX7_readOne_93 : decode cX7_readOne 93 = .ok (.invokevirtual 71, 3) := by decide +kernel
theorem dX7_readOne_96 : decode cX7_readOne 96 = .ok (.aload_n 0, 1) := by decide +kernel
theorem dX7_readOne_97 : decode cX7_readOne 97 = .ok (.bipush 41, 2) := by decide +kernel
theorem dX7_readOne_99 : decode cX7_readOne 99 = .ok (.invokevirtual 67, 3) := by decide +kernel
theorem dX7_readOne_102 : decode cX7_readOne 102 = .ok (.goto 7, 3) := by decide +kernel
theorem dX7_readOne_105 : decode cX7_readOne 105 = .ok (.aload_n 0, 1) := by decide +kernel
theorem dX7_readOne_106 : decode cX7_readOne 106 = .ok (.invokevirtual 46, 3) := by decide +kernel
theorem dX7_readOne_109 : decode cX7_readOne 109 = .ok (.return_, 1) := by decide +kernel
theorem dX7_mayOpen_0 : decode cX7_mayOpen 0 = .ok (.iload_n 1, 1) := by decide +kernel
theorem dX7_mayOpen_1 : decode cX7_mayOpen 1 = .ok (.iconst 5, 1) := by decide +kernel
theorem dX7_mayOpen_2 : decode cX7_mayOpen 2 = .ok (.if_icmp .lt 7, 3) := by decide +kernel
theorem dX7_mayOpen_5 : decode cX7_mayOpen 5 = .ok (.aload_n 0, 1) := by decide +kernel
theorem dX7_mayOpen_6 : decode cX7_mayOpen 6 = .ok (.invokevirtual 46, 3) := by decide +kernel
theorem dX7_mayOpen_9 : decode cX7_mayOpen 9 = .ok (.aload_n 0, 1) := by decide +kernel
theorem dX7_mayOpen_10 : decode cX7_mayOpen 10 = .ok (.getfield 30, 3) := by decide +kernel
theorem dX7_mayOpen_13 : decode cX7_mayOpen 13 = .ok (.iconst (-1), 1) := by decide +kernel
theorem dX7_mayOpen_14 : decode cX7_mayOpen 14 = .ok (.if_icmp .ne 7, 3) := by decide +kernel
theorem dX7_mayOpen_17 : decode cX7_mayOpen 17 = .ok (.iconst 1, 1) := by decide +kernel
theorem dX7_mayOpen_18 : decode cX7_mayOpen 18 = .ok (.goto 4, 3) := by decide +kernel
theorem dX7_mayOpen_21 : decode cX7_mayOpen 21 = .ok (.iconst 0, 1) := by decide +kernel
theorem dX7_mayOpen_22 : decode cX7_mayOpen 22 = .ok (.ireturn, 1) := by decide +kernel
theorem dX7_expect_0 : decode cX7_expect 0 = .ok (.aload_n 0, 1) := by decide +kernel
theorem dX7_expect_1 : decode cX7_expect 1 = .ok (.getfield 43, 3) := by decide +kernel
theorem dX7_expect_4 : decode cX7_expect 4 = .ok (.iload_n 1, 1) := by decide +kernel
theorem dX7_expect_5 : decode cX7_expect 5 = .ok (.if_icmp .ne 10, 3) := by decide +kernel
theorem dX7_expect_8 : decode cX7_expect 8 = .ok (.aload_n 0, 1) := by decide +kernel
theorem dX7_expect_9 : decode cX7_expect 9 = .ok (.invokevirtual 36, 3) := by decide +kernel
theorem dX7_expect_12 : decode cX7_expect 12 = .ok (.goto 7, 3) := by decide +kernel
theorem dX7_expect_15 : decode cX7_expect 15 = .ok (.aload_n 0, 1) := by decide +kernel
theorem dX7_expect_16 : decode cX7_expect 16 = .ok (.invokevirtual 46, 3) := by decide +kernel
theorem dX7_expect_19 : decode cX7_expect 19 = .ok (.return_, 1) := by decide +kernel
theorem dX7_fail_0 : decode cX7_fail 0 = .ok (.aload_n 0, 1) := by decide +kernel
theorem dX7_fail_1 : decode cX7_fail 1 = .ok (.getfield 30, 3) := by decide +kernel
theorem dX7_fail_4 : decode cX7_fail 4 = .ok (.iconst (-1), 1) := by decide +kernel
theorem dX7_fail_5 : decode cX7_fail 5 = .ok (.if_icmp .ne 11, 3) := by decide +kernel
theorem dX7_fail_8 : decode cX7_fail 8 = .ok (.aload_n 0, 1) := by decide +kernel
theorem dX7_fail_9 : decode cX7_fail 9 = .ok (.aload_n 0, 1) := by decide +kernel
theorem dX7_fail_10 : decode cX7_fail 10 = .ok (.getfield 99, 3) := by decide +kernel
theorem dX7_fail_13 : decode cX7_fail 13 = .ok (.putfield 30, 3) := by decide +kernel
theorem dX7_fail_16 : decode cX7_fail 16 = .ok (.return_, 1) := by decide +kernel
theorem dX7_put_0 : decode cX7_put 0 = .ok (.aload_n 0, 1) := by decide +kernel
theorem dX7_put_1 : decode cX7_put 1 = .ok (.getfield 33, 3) := by decide +kernel
theorem dX7_put_4 : decode cX7_put 4 = .ok (.ifCond .lt 33, 3) := by decide +kernel
theorem dX7_put_7 : decode cX7_put 7 = .ok (.aload_n 0, 1) := by decide +kernel
theorem dX7_put_8 : decode cX7_put 8 = .ok (.getfield 33, 3) := by decide +kernel
theorem dX7_put_11 : decode cX7_put 11 = .ok (.sipush 160, 3) := by decide +kernel
theorem dX7_put_14 : decode cX7_put 14 = .ok (.if_icmp .ge 23, 3) := by decide +kernel
theorem dX7_put_17 : decode cX7_put 17 = .ok (.aload_n 0, 1) := by decide +kernel
theorem dX7_put_18 : decode cX7_put 18 = .ok (.getfield 15, 3) := by decide +kernel
theorem dX7_put_21 : decode cX7_put 21 = .ok (.aload_n 0, 1) := by decide +kernel
theorem dX7_put_22 : decode cX7_put 22 = .ok (.getfield 33, 3) := by decide +kernel
theorem dX7_put_25 : decode cX7_put 25 = .ok (.iload_n 1, 1) := by decide +kernel
theorem dX7_put_26 : decode cX7_put 26 = .ok (.iastore, 1) := by decide +kernel
theorem dX7_put_27 : decode cX7_put 27 = .ok (.aload_n 0, 1) := by decide +kernel
theorem dX7_put_28 : decode cX7_put 28 = .ok (.dup, 1) := by decide +kernel
theorem dX7_put_29 : decode cX7_put 29 = .ok (.getfield 33, 3) := by decide +kernel
theorem dX7_put_32 : decode cX7_put 32 = .ok (.iconst 1, 1) := by decide +kernel
theorem dX7_put_33 : decode cX7_put 33 = .ok (.iadd, 1) := by decide +kernel
theorem dX7_put_34 : decode cX7_put 34 = .ok (.putfield 33, 3) := by decide +kernel
theorem dX7_put_37 : decode cX7_put 37 = .ok (.return_, 1) := by decide +kernel
theorem dX7_nextToken_0 : decode cX7_nextToken 0 = .ok (.iconst 0, 1) := by decide +kernel
theorem dX7_nextToken_1 : decode cX7_nextToken 1 = .ok (.istore_n 1, 1) := by decide +kernel
theorem dX7_nextToken_2 : decode cX7_nextToken 2 = .ok (.iload_n 1, 1) := by decide +kernel
theorem dX7_nextToken_3 : decode cX7_nextToken 3 = .ok (.sipush 160, 3) := by decide +kernel
theorem dX7_nextToken_6 : decode cX7_nextToken 6 = .ok (.if_icmp .ge 45, 3) := by decide +kernel
theorem dX7_nextToken_9 : decode cX7_nextToken 9 = .ok (.aload_n 0, 1) := by decide +kernel
theorem dX7_nextToken_10 : decode cX7_nextToken 10 = .ok (.aload_n 0, 1) := by decide +kernel
theorem dX7_nextToken_11 : decode cX7_nextToken 11 = .ok (.getfield 27, 3) := by decide +kernel
theorem dX7_nextToken_14 : decode cX7_nextToken 14 = .ok (.invokevirtual 102, 3) := by decide +kernel
theorem dX7_nextToken_17 : decode cX7_nextToken 17 = .ok (.bipush 32, 2) := by decide +kernel
theorem dX7_nextToken_19 : decode cX7_nextToken 19 = .ok (.if_icmp .eq 16, 3) := by decide +kernel
theorem dX7_nextToken_22 : decode cX7_nextToken 22 = .ok (.aload_n 0, 1) := by decide +kernel
theorem dX7_nextToken_23 : decode cX7_nextToken 23 = .ok (.aload_n 0, 1) := by decide +kernel
theorem dX7_nextToken_24 : decode cX7_nextToken 24 = .ok (.getfield 27, 3) := by decide +kernel
theorem dX7_nextToken_27 : decode cX7_nextToken 27 = .ok (.invokevirtual 102, 3) := by decide +kernel
theorem dX7_nextToken_30 : decode cX7_nextToken 30 = .ok (.bipush 10, 2) := by decide +kernel
theorem dX7_nextToken_32 : decode cX7_nextToken 32 = .ok (.if_icmp .ne 19, 3) := by decide +kernel
theorem dX7_nextToken_35 : decode cX7_nextToken 35 = .ok (.aload_n 0, 1) := by decide +kernel
theorem dX7_nextToken_36 : decode cX7_nextToken 36 = .ok (.dup, 1) := by decide +kernel
theorem dX7_nextToken_37 : decode cX7_nextToken 37 = .ok (.getfield 27, 3) := by decide +kernel
theorem dX7_nextToken_40 : decode cX7_nextToken 40 = .ok (.iconst 1, 1) := by decide +kernel
theorem dX7_nextToken_41 : decode cX7_nextToken 41 = .ok (.iadd, 1) := by decide +kernel
theorem dX7_nextToken_42 : decode cX7_nextToken 42 = .ok (.putfield 27, 3) := by decide +kernel
theorem dX7_nextToken_45 : decode cX7_nextToken 45 = .ok (.iinc 1 1, 3) := by decide +kernel
theorem dX7_nextToken_48 : decode cX7_nextToken 48 = .ok (.goto (-46), 3) := by decide +kernel
theorem dX7_nextToken_51 : decode cX7_nextToken 51 = .ok (.aload_n 0, 1) := by decide +kernel
theorem dX7_nextToken_52 : decode cX7_nextToken 52 = .ok (.aload_n 0, 1) := by decide +kernel
theorem dX7_nextToken_53 : decode cX7_nextToken 53 = .ok (.getfield 27, 3) := by decide +kernel
theorem dX7_nextToken_56 : decode cX7_nextToken 56 = .ok (.putfield 99, 3) := by decide +kernel
theorem dX7_nextToken_59 : decode cX7_nextToken 59 = .ok (.aload_n 0, 1) := by decide +kernel
theorem dX7_nextToken_60 : decode cX7_nextToken 60 = .ok (.aload_n 0, 1) := by decide +kernel
theorem dX7_nextToken_61 : decode cX7_nextToken 61 = .ok (.getfield 27, 3) := by decide +kernel
theorem dX7_nextToken_64 : decode cX7_nextToken 64 = .ok (.invokevirtual 102, 3) := by decide +kernel
theorem dX7_nextToken_67 : decode cX7_nextToken 67 = .ok (.istore_n 1, 1) := by decide +kernel
theorem dX7_nextToken_68 : decode cX7_nextToken 68 = .ok (.iload_n 1, 1) := by decide +kernel
theorem dX7_nextToken_69 : decode cX7_nextToken 69 = .ok (.iconst (-1), 1) := by decide +kernel
theorem dX7_nextToken_70 : decode cX7_nextToken 70 = .ok (.if_icmp .ne 11, 3) := by decide +kernel
theorem dX7_nextToken_73 : decode cX7_nextToken 73 = .ok (.aload_n 0, 1) := by decide +kernel
theorem dX7_nextToken_74 : decode cX7_nextToken 74 = .ok (.iconst 0, 1) := by decide +kernel
theorem dX7_nextToken_75 : decode cX7_nextToken 75 = .ok (.putfield 43, 3) := by decide +kernel
theorem dX7_nextToken_78 : decode cX7_nextToken 78 = .ok (.goto 57, 3) := by decide +kernel
theorem dX7_nextToken_81 : decode cX7_nextToken 81 = .ok (.iload_n 1, 1) := by decide +kernel
theorem dX7_nextToken_82 : decode cX7_nextToken 82 = .ok (.invokestatic 106, 3) := by decide +kernel
theorem dX7_nextToken_85 : decode cX7_nextToken 85 = .ok (.ifCond .eq 10, 3) := by decide +kernel
theorem dX7_nextToken_88 : decode cX7_nextToken 88 = .ok (.aload_n 0, 1) := by decide +kernel
theorem dX7_nextToken_89 : decode cX7_nextToken 89 = .ok (.invokevirtual 109, 3) := by decide +kernel
theorem dX7_nextToken_92 : decode cX7_nextToken 92 = .ok (.goto 43, 3) := by decide +kernel
theorem dX7_nextToken_95 : decode cX7_nextToken 95 = .ok (.iload_n 1, 1) := by decide +kernel
theorem dX7_nextToken_96 : decode cX7_nextToken 96 = .ok (.invokestatic 112, 3) := by decide +kernel
theorem dX7_nextToken_99 : decode cX7_nextToken 99 = .ok (.ifCond .eq 10, 3) := by decide +kernel
theorem dX7_nextToken_102 : decode cX7_nextToken 102 = .ok (.aload_n 0, 1) := by decide +kernel
theorem dX7_nextToken_103 : decode cX7_nextToken 103 = .ok (.invokevirtual 115, 3) := by decide +kernel
theorem dX7_nextToken_106 : decode cX7_nextToken 106 = .ok (.goto 29, 3) := by decide +kernel
theorem dX7_nextToken_109 : decode cX7_nextToken 109 = .ok (.aload_n 0, 1) := by decide +kernel
theorem dX7_nextToken_110 : decode cX7_nextToken 110 = .ok (.dup, 1) := by decide +kernel
theorem dX7_nextToken_111 : decode cX7_nextToken 111 = .ok (.getfield 27, 3) := by decide +kernel
theorem dX7_nextToken_114 : decode cX7_nextToken 114 = .ok (.iconst 1, 1) := by decide +kernel
theorem dX7_nextToken_115 : decode cX7_nextToken 115 = .ok (.iadd, 1) := by decide +kernel
theorem dX7_nextToken_116 : decode cX7_nextToken 116 = .ok (.putfield 27, 3) := by decide +kernel
theorem dX7_nextToken_119 : decode cX7_nextToken 119 = .ok (.aload_n 0, 1) := by decide +kernel
theorem dX7_nextToken_120 : decode cX7_nextToken 120 = .ok (.iload_n 1, 1) := by decide +kernel
theorem dX7_nextToken_121 : decode cX7_nextToken 121 = .ok (.invokestatic 118, 3) := by decide +kernel
theorem dX7_nextToken_124 : decode cX7_nextToken 124 = .ok (.ifCond .eq 7, 3) := by decide +kernel
theorem dX7_nextToken_127 : decode cX7_nextToken 127 = .ok (.iload_n 1, 1) := by decide +kernel
theorem dX7_nextToken_128 : decode cX7_nextToken 128 = .ok (.goto 4, 3) := by decide +kernel
theorem dX7_nextToken_131 : decode cX7_nextToken 131 = .ok (.iconst 1, 1) := by decide +kernel
theorem dX7_nextToken_132 : decode cX7_nextToken 132 = .ok (.putfield 43, 3) := by decide +kernel
theorem dX7_nextToken_135 : decode cX7_nextToken 135 = .ok (.return_, 1) := by decide +kernel
theorem dX7_takeWord_0 : decode cX7_takeWord 0 = .ok (.iconst 0, 1) := by decide +kernel
theorem dX7_takeWord_1 : decode cX7_takeWord 1 = .ok (.istore_n 1, 1) := by decide +kernel
theorem dX7_takeWord_2 : decode cX7_takeWord 2 = .ok (.iload_n 1, 1) := by decide +kernel
theorem dX7_takeWord_3 : decode cX7_takeWord 3 = .ok (.sipush 160, 3) := by decide +kernel
theorem dX7_takeWord_6 : decode cX7_takeWord 6 = .ok (.if_icmp .ge 33, 3) := by decide +kernel
theorem dX7_takeWord_9 : decode cX7_takeWord 9 = .ok (.aload_n 0, 1) := by decide +kernel
theorem dX7_takeWord_10 : decode cX7_takeWord 10 = .ok (.aload_n 0, 1) := by decide +kernel
theorem dX7_takeWord_11 : decode cX7_takeWord 11 = .ok (.getfield 27, 3) := by decide +kernel
theorem dX7_takeWord_14 : decode cX7_takeWord 14 = .ok (.invokevirtual 102, 3) := by decide +kernel
theorem dX7_takeWord_17 : decode cX7_takeWord 17 = .ok (.invokestatic 106, 3) := by decide +kernel
theorem dX7_takeWord_20 : decode cX7_takeWord 20 = .ok (.ifCond .eq 19, 3) := by decide +kernel
theorem dX7_takeWord_23 : decode cX7_takeWord 23 = .ok (.aload_n 0, 1) := by decide +kernel
theorem dX7_takeWord_24 : decode cX7_takeWord 24 = .ok (.dup, 1) := by decide +kernel
theorem dX7_takeWord_25 : decode cX7_takeWord 25 = .ok (.getfield 27, 3) := by decide +kernel
theorem dX7_takeWord_28 : decode cX7_takeWord 28 = .ok (.iconst 1, 1) := by decide +kernel
theorem dX7_takeWord_29 : decode cX7_takeWord 29 = .ok (.iadd, 1) := by decide +kernel
theorem dX7_takeWord_30 : decode cX7_takeWord 30 = .ok (.putfield 27, 3) := by decide +kernel
theorem dX7_takeWord_33 : decode cX7_takeWord 33 = .ok (.iinc 1 1, 3) := by decide +kernel
theorem dX7_takeWord_36 : decode cX7_takeWord 36 = .ok (.goto (-34), 3) := by decide +kernel
theorem dX7_takeWord_39 : decode cX7_takeWord 39 = .ok (.aload_n 0, 1) := by decide +kernel
theorem dX7_takeWord_40 : decode cX7_takeWord 40 = .ok (.aload_n 0, 1) := by decide +kernel
theorem dX7_takeWord_41 : decode cX7_takeWord 41 = .ok (.ldc 121, 2) := by decide +kernel
theorem dX7_takeWord_43 : decode cX7_takeWord 43 = .ok (.invokevirtual 123, 3) := by decide +kernel
theorem dX7_takeWord_46 : decode cX7_takeWord 46 = .ok (.ifCond .eq 7, 3) := by decide +kernel
theorem dX7_takeWord_49 : decode cX7_takeWord 49 = .ok (.iconst 4, 1) := by decide +kernel
theorem dX7_takeWord_50 : decode cX7_takeWord 50 = .ok (.goto 73, 3) := by decide +kernel
theorem dX7_takeWord_53 : decode cX7_takeWord 53 = .ok (.aload_n 0, 1) := by decide +kernel
theorem dX7_takeWord_54 : decode cX7_takeWord 54 = .ok (.ldc 127, 2) := by decide +kernel
theorem dX7_takeWord_56 : decode cX7_takeWord 56 = .ok (.invokevirtual 123, 3) := by decide +kernel
theorem dX7_takeWord_59 : decode cX7_takeWord 59 = .ok (.ifCond .eq 7, 3) := by decide +kernel
theorem dX7_takeWord_62 : decode cX7_takeWord 62 = .ok (.iconst 5, 1) := by decide +kernel
theorem dX7_takeWord_63 : decode cX7_takeWord 63 = .ok (.goto 60, 3) := by decide +kernel
theorem dX7_takeWord_66 : decode cX7_takeWord 66 = .ok (.aload_n 0, 1) := by decide +kernel
theorem dX7_takeWord_67 : decode cX7_takeWord 67 = .ok (.ldc 129, 2) := by decide +kernel
theorem dX7_takeWord_69 : decode cX7_takeWord 69 = .ok (.invokevirtual 123, 3) := by decide +kernel
theorem dX7_takeWord_72 : decode cX7_takeWord 72 = .ok (.ifCond .eq 8, 3) := by decide +kernel
theorem dX7_takeWord_75 : decode cX7_takeWord 75 = .ok (.bipush 6, 2) := by decide +kernel
theorem dX7_takeWord_77 : decode cX7_takeWord 77 = .ok (.goto 46, 3) := by decide +kernel
theorem dX7_takeWord_80 : decode cX7_takeWord 80 = .ok (.aload_n 0, 1) := by decide +kernel
theorem dX7_takeWord_81 : decode cX7_takeWord 81 = .ok (.ldc 131, 2) := by decide +kernel
theorem dX7_takeWord_83 : decode cX7_takeWord 83 = .ok (.invokevirtual 123, 3) := by decide +kernel
theorem dX7_takeWord_86 : decode cX7_takeWord 86 = .ok (.ifCond .eq 8, 3) := by decide +kernel
theorem dX7_takeWord_89 : decode cX7_takeWord 89 = .ok (.bipush 7, 2) := by decide +kernel
theorem dX7_takeWord_91 : decode cX7_takeWord 91 = .ok (.goto 32, 3) := by decide +kernel
theorem dX7_takeWord_94 : decode cX7_takeWord 94 = .ok (.aload_n 0, 1) := by decide +kernel
theorem dX7_takeWord_95 : decode cX7_takeWord 95 = .ok (.ldc 133, 2) := by decide +kernel
theorem dX7_takeWord_97 : decode cX7_takeWord 97 = .ok (.invokevirtual 123, 3) := by decide +kernel
theorem dX7_takeWord_100 : decode cX7_takeWord 100 = .ok (.ifCond .eq 8, 3) := by decide +kernel
theorem dX7_takeWord_103 : decode cX7_takeWord 103 = .ok (.bipush 8, 2) := by decide +kernel
theorem dX7_takeWord_105 : decode cX7_takeWord 105 = .ok (.goto 18, 3) := by decide +kernel
theorem dX7_takeWord_108 : decode cX7_takeWord 108 = .ok (.aload_n 0, 1) := by decide +kernel
theorem dX7_takeWord_109 : decode cX7_takeWord 109 = .ok (.ldc 135, 2) := by decide +kernel
theorem dX7_takeWord_111 : decode cX7_takeWord 111 = .ok (.invokevirtual 123, 3) := by decide +kernel
theorem dX7_takeWord_114 : decode cX7_takeWord 114 = .ok (.ifCond .eq 8, 3) := by decide +kernel
theorem dX7_takeWord_117 : decode cX7_takeWord 117 = .ok (.bipush 9, 2) := by decide +kernel
theorem dX7_takeWord_119 : decode cX7_takeWord 119 = .ok (.goto 4, 3) := by decide +kernel
theorem dX7_takeWord_122 : decode cX7_takeWord 122 = .ok (.iconst 1, 1) := by decide +kernel
theorem dX7_takeWord_123 : decode cX7_takeWord 123 = .ok (.putfield 43, 3) := by decide +kernel
theorem dX7_takeWord_126 : decode cX7_takeWord 126 = .ok (.aload_n 0, 1) := by decide +kernel
theorem dX7_takeWord_127 : decode cX7_takeWord 127 = .ok (.ldc 137, 2) := by decide +kernel
theorem dX7_takeWord_129 : decode cX7_takeWord 129 = .ok (.invokevirtual 123, 3) := by decide +kernel
theorem dX7_takeWord_132 : decode cX7_takeWord 132 = .ok (.ifCond .eq 7, 3) := by decide +kernel
theorem dX7_takeWord_135 : decode cX7_takeWord 135 = .ok (.iconst 0, 1) := by decide +kernel
theorem dX7_takeWord_136 : decode cX7_takeWord 136 = .ok (.goto 69, 3) := by decide +kernel
theorem dX7_takeWord_139 : decode cX7_takeWord 139 = .ok (.aload_n 0, 1) := by decide +kernel
theorem dX7_takeWord_140 : decode cX7_takeWord 140 = .ok (.ldc 139, 2) := by decide +kernel
theorem dX7_takeWord_142 : decode cX7_takeWord 142 = .ok (.invokevirtual 123, 3) := by decide +kernel
theorem dX7_takeWord_145 : decode cX7_takeWord 145 = .ok (.ifCond .eq 7, 3) := by decide +kernel
theorem dX7_takeWord_148 : decode cX7_takeWord 148 = .ok (.iconst 1, 1) := by decide +kernel
theorem dX7_takeWord_149 : decode cX7_takeWord 149 = .ok (.goto 56, 3) := by decide +kernel
theorem dX7_takeWord_152 : decode cX7_takeWord 152 = .ok (.aload_n 0, 1) := by decide +kernel
theorem dX7_takeWord_153 : decode cX7_takeWord 153 = .ok (.ldc 141, 2) := by decide +kernel
theorem dX7_takeWord_155 : decode cX7_takeWord 155 = .ok (.invokevirtual 123, 3) := by decide +kernel
theorem dX7_takeWord_158 : decode cX7_takeWord 158 = .ok (.ifCond .eq 7, 3) := by decide +kernel
theorem dX7_takeWord_161 : decode cX7_takeWord 161 = .ok (.iconst 2, 1) := by decide +kernel
theorem dX7_takeWord_162 : decode cX7_takeWord 162 = .ok (.goto 43, 3) := by decide +kernel
theorem dX7_takeWord_165 : decode cX7_takeWord 165 = .ok (.aload_n 0, 1) := by decide +kernel
theorem dX7_takeWord_166 : decode cX7_takeWord 166 = .ok (.ldc 143, 2) := by decide +kernel
theorem dX7_takeWord_168 : decode cX7_takeWord 168 = .ok (.invokevirtual 123, 3) := by decide +kernel
theorem dX7_takeWord_171 : decode cX7_takeWord 171 = .ok (.ifCond .eq 7, 3) := by decide +kernel
theorem dX7_takeWord_174 : decode cX7_takeWord 174 = .ok (.iconst 3, 1) := by decide +kernel
theorem dX7_takeWord_175 : decode cX7_takeWord 175 = .ok (.goto 30, 3) := by decide +kernel
theorem dX7_takeWord_178 : decode cX7_takeWord 178 = .ok (.aload_n 0, 1) := by decide +kernel
theorem dX7_takeWord_179 : decode cX7_takeWord 179 = .ok (.ldc 145, 2) := by decide +kernel
theorem dX7_takeWord_181 : decode cX7_takeWord 181 = .ok (.invokevirtual 123, 3) := by decide +kernel
theorem dX7_takeWord_184 : decode cX7_takeWord 184 = .ok (.ifCond .eq 7, 3) := by decide +kernel
theorem dX7_takeWord_187 : decode cX7_takeWord 187 = .ok (.iconst 4, 1) := by decide +kernel
theorem dX7_takeWord_188 : decode cX7_takeWord 188 = .ok (.goto 17, 3) := by decide +kernel
theorem dX7_takeWord_191 : decode cX7_takeWord 191 = .ok (.aload_n 0, 1) := by decide +kernel
theorem dX7_takeWord_192 : decode cX7_takeWord 192 = .ok (.ldc 147, 2) := by decide +kernel
theorem dX7_takeWord_194 : decode cX7_takeWord 194 = .ok (.invokevirtual 123, 3) := by decide +kernel
theorem dX7_takeWord_197 : decode cX7_takeWord 197 = .ok (.ifCond .eq 7, 3) := by decide +kernel
theorem dX7_takeWord_200 : decode cX7_takeWord 200 = .ok (.iconst 5, 1) := by decide +kernel
theorem dX7_takeWord_201 : decode cX7_takeWord 201 = .ok (.goto 4, 3) := by decide +kernel
theorem dX7_takeWord_204 : decode cX7_takeWord 204 = .ok (.iconst (-1), 1) := by decide +kernel
theorem dX7_takeWord_205 : decode cX7_takeWord 205 = .ok (.istore_n 1, 1) := by decide +kernel
theorem dX7_takeWord_206 : decode cX7_takeWord 206 = .ok (.iload_n 1, 1) := by decide +kernel
theorem dX7_takeWord_207 : decode cX7_takeWord 207 = .ok (.iconst (-1), 1) := by decide +kernel
theorem dX7_takeWord_208 : decode cX7_takeWord 208 = .ok (.if_icmp .eq 15, 3) := by decide +kernel
theorem dX7_takeWord_211 : decode cX7_takeWord 211 = .ok (.aload_n 0, 1) := by decide +kernel
theorem dX7_takeWord_212 : decode cX7_takeWord 212 = .ok (.iconst 3, 1) := by decide +kernel
theorem dX7_takeWord_213 : decode cX7_takeWord 213 = .ok (.putfield 43, 3) := by decide +kernel
theorem dX7_takeWord_216 : decode cX7_takeWord 216 = .ok (.aload_n 0, 1) := by decide +kernel
theorem dX7_takeWord_217 : decode cX7_takeWord 217 = .ok (.iconst (-1), 1) := by decide +kernel
theorem dX7_takeWord_218 : decode cX7_takeWord 218 = .ok (.iload_n 1, 1) := by decide +kernel
theorem dX7_takeWord_219 : decode cX7_takeWord 219 = .ok (.isub, 1) := by decide +kernel
theorem dX7_takeWord_220 : decode cX7_takeWord 220 = .ok (.putfield 96, 3) := by decide +kernel
theorem dX7_takeWord_223 : decode cX7_takeWord 223 = .ok (.return_, 1) := by decide +kernel
theorem dX7_takeNumber_0 : decode cX7_takeNumber 0 = .ok (.iconst 0, 1) := by decide +kernel
theorem dX7_takeNumber_1 : decode cX7_takeNumber 1 = .ok (.istore_n 1, 1) := by decide +kernel
theorem dX7_takeNumber_2 : decode cX7_takeNumber 2 = .ok (.iconst 0, 1) := by decide +kernel
theorem dX7_takeNumber_3 : decode cX7_takeNumber 3 = .ok (.istore_n 2, 1) := by decide +kernel
theorem dX7_takeNumber_4 : decode cX7_takeNumber 4 = .ok (.iload_n 2, 1) := by decide +kernel
theorem dX7_takeNumber_5 : decode cX7_takeNumber 5 = .ok (.sipush 160, 3) := by decide +kernel
theorem dX7_takeNumber_8 : decode cX7_takeNumber 8 = .ok (.if_icmp .ge 50, 3) := by decide +kernel
theorem dX7_takeNumber_11 : decode cX7_takeNumber 11 = .ok (.aload_n 0, 1) := by decide +kernel
theorem dX7_takeNumber_12 : decode cX7_takeNumber 12 = .ok (.aload_n 0, 1) := by decide +kernel
theorem dX7_takeNumber_13 : decode cX7_takeNumber 13 = .ok (.getfield 27, 3) := by decide +kernel
theorem dX7_takeNumber_16 : decode cX7_takeNumber 16 = .ok (.invokevirtual 102, 3) := by decide +kernel
theorem dX7_takeNumber_19 : decode cX7_takeNumber 19 = .ok (.invokestatic 112, 3) := by decide +kernel
theorem dX7_takeNumber_22 : decode cX7_takeNumber 22 = .ok (.ifCond .eq 36, 3) := by decide +kernel
theorem dX7_takeNumber_25 : decode cX7_takeNumber 25 = .ok (.iload_n 1, 1) := by decide +kernel
theorem dX7_takeNumber_26 : decode cX7_takeNumber 26 = .ok (.bipush 10, 2) := by decide +kernel
theorem dX7_takeNumber_28 : decode cX7_takeNumber 28 = .ok (.imul, 1) := by decide +kernel
theorem dX7_takeNumber_29 : decode cX7_takeNumber 29 = .ok (.aload_n 0, 1) := by decide +kernel
theorem dX7_takeNumber_30 : decode cX7_takeNumber 30 = .ok (.aload_n 0, 1) := by decide +kernel
theorem dX7_takeNumber_31 : decode cX7_takeNumber 31 = .ok (.getfield 27, 3) := by decide +kernel
theorem dX7_takeNumber_34 : decode cX7_takeNumber 34 = .ok (.invokevirtual 102, 3) := by decide +kernel
theorem dX7_takeNumber_37 : decode cX7_takeNumber 37 = .ok (.iadd, 1) := by decide +kernel
theorem dX7_takeNumber_38 : decode cX7_takeNumber 38 = .ok (.bipush 48, 2) := by decide +kernel
theorem dX7_takeNumber_40 : decode cX7_takeNumber 40 = .ok (.isub, 1) := by decide +kernel
theorem dX7_takeNumber_41 : decode cX7_takeNumber 41 = .ok (.istore_n 1, 1) := by decide +kernel
theorem dX7_takeNumber_42 : decode cX7_takeNumber 42 = .ok (.aload_n 0, 1) := by decide +kernel
theorem dX7_takeNumber_43 : decode cX7_takeNumber 43 = .ok (.dup, 1) := by decide +kernel
theorem dX7_takeNumber_44 : decode cX7_takeNumber 44 = .ok (.getfield 27, 3) := by decide +kernel
theorem dX7_takeNumber_47 : decode cX7_takeNumber 47 = .ok (.iconst 1, 1) := by decide +kernel
theorem dX7_takeNumber_48 : decode cX7_takeNumber 48 = .ok (.iadd, 1) := by decide +kernel
theorem dX7_takeNumber_49 : decode cX7_takeNumber 49 = .ok (.putfield 27, 3) := by decide +kernel
theorem dX7_takeNumber_52 : decode cX7_takeNumber 52 = .ok (.iinc 2 1, 3) := by decide +kernel
theorem dX7_takeNumber_55 : decode cX7_takeNumber 55 = .ok (.goto (-51), 3) := by decide +kernel
theorem dX7_takeNumber_58 : decode cX7_takeNumber 58 = .ok (.aload_n 0, 1) := by decide +kernel
theorem dX7_takeNumber_59 : decode cX7_takeNumber 59 = .ok (.aload_n 0, 1) := by decide +kernel
theorem dX7_takeNumber_60 : decode cX7_takeNumber 60 = .ok (.getfield 27, 3) := by decide +kernel
theorem dX7_takeNumber_63 : decode cX7_takeNumber 63 = .ok (.aload_n 0, 1) := by decide +kernel
theorem dX7_takeNumber_64 : decode cX7_takeNumber 64 = .ok (.getfield 99, 3) := by decide +kernel
theorem dX7_takeNumber_67 : decode cX7_takeNumber 67 = .ok (.isub, 1) := by decide +kernel
theorem dX7_takeNumber_68 : decode cX7_takeNumber 68 = .ok (.iconst 4, 1) := by decide +kernel
theorem dX7_takeNumber_69 : decode cX7_takeNumber 69 = .ok (.if_icmp .le 7, 3) := by decide +kernel
theorem dX7_takeNumber_72 : decode cX7_takeNumber 72 = .ok (.iconst 1, 1) := by decide +kernel
theorem dX7_takeNumber_73 : decode cX7_takeNumber 73 = .ok (.goto 4, 3) := by decide +kernel
theorem dX7_takeNumber_76 : decode cX7_takeNumber 76 = .ok (.iconst 2, 1) := by decide +kernel
theorem dX7_takeNumber_77 : decode cX7_takeNumber 77 = .ok (.putfield 43, 3) := by decide +kernel
theorem dX7_takeNumber_80 : decode cX7_takeNumber 80 = .ok (.aload_n 0, 1) := by decide +kernel
theorem dX7_takeNumber_81 : decode cX7_takeNumber 81 = .ok (.iload_n 1, 1) := by decide +kernel
theorem dX7_takeNumber_82 : decode cX7_takeNumber 82 = .ok (.putfield 96, 3) := by decide +kernel
theorem dX7_takeNumber_85 : decode cX7_takeNumber 85 = .ok (.return_, 1) := by decide +kernel
theorem dX7_spells_0 : decode cX7_spells 0 = .ok (.aload_n 1, 1) := by decide +kernel
theorem dX7_spells_1 : decode cX7_spells 1 = .ok (.invokevirtual 149, 3) := by decide +kernel
theorem dX7_spells_4 : decode cX7_spells 4 = .ok (.aload_n 0, 1) := by decide +kernel
theorem dX7_spells_5 : decode cX7_spells 5 = .ok (.getfield 27, 3) := by decide +kernel
theorem dX7_spells_8 : decode cX7_spells 8 = .ok (.aload_n 0, 1) := by decide +kernel
theorem dX7_spells_9 : decode cX7_spells 9 = .ok (.getfield 99, 3) := by decide +kernel
theorem dX7_spells_12 : decode cX7_spells 12 = .ok (.isub, 1) := by decide +kernel
theorem dX7_spells_13 : decode cX7_spells 13 = .ok (.if_icmp .eq 5, 3) := by decide +kernel
theorem dX7_spells_16 : decode cX7_spells 16 = .ok (.iconst 0, 1) := by decide +kernel
theorem dX7_spells_17 : decode cX7_spells 17 = .ok (.ireturn, 1) := by decide +kernel
theorem dX7_spells_18 : decode cX7_spells 18 = .ok (.iconst 0, 1) := by decide +kernel
theorem dX7_spells_19 : decode cX7_spells 19 = .ok (.istore_n 2, 1) := by decide +kernel
theorem dX7_spells_20 : decode cX7_spells 20 = .ok (.iload_n 2, 1) := by decide +kernel
theorem dX7_spells_21 : decode cX7_spells 21 = .ok (.aload_n 1, 1) := by decide +kernel
theorem dX7_spells_22 : decode cX7_spells 22 = .ok (.invokevirtual 149, 3) := by decide +kernel
theorem dX7_spells_25 : decode cX7_spells 25 = .ok (.if_icmp .ge 43, 3) := by decide +kernel
theorem dX7_spells_28 : decode cX7_spells 28 = .ok (.aload_n 0, 1) := by decide +kernel
theorem dX7_spells_29 : decode cX7_spells 29 = .ok (.getfield 99, 3) := by decide +kernel
theorem dX7_spells_32 : decode cX7_spells 32 = .ok (.iload_n 2, 1) := by decide +kernel
theorem dX7_spells_33 : decode cX7_spells 33 = .ok (.iadd, 1) := by decide +kernel
theorem dX7_spells_34 : decode cX7_spells 34 = .ok (.istore_n 3, 1) := by decide +kernel
theorem dX7_spells_35 : decode cX7_spells 35 = .ok (.iload_n 3, 1) := by decide +kernel
theorem dX7_spells_36 : decode cX7_spells 36 = .ok (.ifCond .lt 24, 3) := by decide +kernel
theorem dX7_spells_39 : decode cX7_spells 39 = .ok (.iload_n 3, 1) := by decide +kernel
theorem dX7_spells_40 : decode cX7_spells 40 = .ok (.sipush 160, 3) := by decide +kernel
theorem dX7_spells_43 : decode cX7_spells 43 = .ok (.if_icmp .ge 17, 3) := by decide +kernel
theorem dX7_spells_46 : decode cX7_spells 46 = .ok (.aload_n 0, 1) := by decide +kernel
theorem dX7_spells_47 : decode cX7_spells 47 = .ok (.getfield 9, 3) := by decide +kernel
theorem dX7_spells_50 : decode cX7_spells 50 = .ok (.iload_n 3, 1) := by decide +kernel
theorem dX7_spells_51 : decode cX7_spells 51 = .ok (.iaload, 1) := by decide +kernel
theorem dX7_spells_52 : decode cX7_spells 52 = .ok (.aload_n 1, 1) := by decide +kernel
theorem dX7_spells_53 : decode cX7_spells 53 = .ok (.iload_n 2, 1) := by decide +kernel
theorem dX7_spells_54 : decode cX7_spells 54 = .ok (.invokevirtual 155, 3) := by decide +kernel
theorem dX7_spells_57 : decode cX7_spells 57 = .ok (.if_icmp .eq 5, 3) := by decide +kernel
theorem dX7_spells_60 : decode cX7_spells 60 = .ok (.iconst 0, 1) := by decide +kernel
theorem dX7_spells_61 : decode cX7_spells 61 = .ok (.ireturn, 1) := by decide +kernel
theorem dX7_spells_62 : decode cX7_spells 62 = .ok (.iinc 2 1, 3) := by decide +kernel
theorem dX7_spells_65 : decode cX7_spells 65 = .ok (.goto (-45), 3) := by decide +kernel
theorem dX7_spells_68 : decode cX7_spells 68 = .ok (.iconst 1, 1) := by decide +kernel
theorem dX7_spells_69 : decode cX7_spells 69 = .ok (.ireturn, 1) := by decide +kernel
theorem dX7_byteAt_0 : decode cX7_byteAt 0 = .ok (.iload_n 1, 1) := by decide +kernel
theorem dX7_byteAt_1 : decode cX7_byteAt 1 = .ok (.ifCond .lt 27, 3) := by decide +kernel
theorem dX7_byteAt_4 : decode cX7_byteAt 4 = .ok (.iload_n 1, 1) := by decide +kernel
theorem dX7_byteAt_5 : decode cX7_byteAt 5 = .ok (.aload_n 0, 1) := by decide +kernel
theorem dX7_byteAt_6 : decode cX7_byteAt 6 = .ok (.getfield 23, 3) := by decide +kernel
theorem dX7_byteAt_9 : decode cX7_byteAt 9 = .ok (.if_icmp .ge 19, 3) := by decide +kernel
theorem dX7_byteAt_12 : decode cX7_byteAt 12 = .ok (.iload_n 1, 1) := by decide +kernel
theorem dX7_byteAt_13 : decode cX7_byteAt 13 = .ok (.sipush 160, 3) := by decide +kernel
theorem dX7_byteAt_16 : decode cX7_byteAt 16 = .ok (.if_icmp .ge 12, 3) := by decide +kernel
theorem dX7_byteAt_19 : decode cX7_byteAt 19 = .ok (.aload_n 0, 1) := by decide +kernel
theorem dX7_byteAt_20 : decode cX7_byteAt 20 = .ok (.getfield 9, 3) := by decide +kernel
theorem dX7_byteAt_23 : decode cX7_byteAt 23 = .ok (.iload_n 1, 1) := by decide +kernel
theorem dX7_byteAt_24 : decode cX7_byteAt 24 = .ok (.iaload, 1) := by decide +kernel
theorem dX7_byteAt_25 : decode cX7_byteAt 25 = .ok (.goto 4, 3) := by decide +kernel
theorem dX7_byteAt_28 : decode cX7_byteAt 28 = .ok (.iconst (-1), 1) := by decide +kernel
theorem dX7_byteAt_29 : decode cX7_byteAt 29 = .ok (.ireturn, 1) := by decide +kernel
theorem dX7_isLetter_0 : decode cX7_isLetter 0 = .ok (.iload_n 0, 1) := by decide +kernel
theorem dX7_isLetter_1 : decode cX7_isLetter 1 = .ok (.bipush 97, 2) := by decide +kernel
theorem dX7_isLetter_3 : decode cX7_isLetter 3 = .ok (.if_icmp .lt 13, 3) := by decide +kernel
theorem dX7_isLetter_6 : decode cX7_isLetter 6 = .ok (.iload_n 0, 1) := by decide +kernel
theorem dX7_isLetter_7 : decode cX7_isLetter 7 = .ok (.bipush 122, 2) := by decide +kernel
theorem dX7_isLetter_9 : decode cX7_isLetter 9 = .ok (.if_icmp .gt 7, 3) := by decide +kernel
theorem dX7_isLetter_12 : decode cX7_isLetter 12 = .ok (.iconst 1, 1) := by decide +kernel
theorem dX7_isLetter_13 : decode cX7_isLetter 13 = .ok (.goto 4, 3) := by decide +kernel
theorem dX7_isLetter_16 : decode cX7_isLetter 16 = .ok (.iconst 0, 1) := by decide +kernel
theorem dX7_isLetter_17 : decode cX7_isLetter 17 = .ok (.ireturn, 1) := by decide +kernel
theorem dX7_isDigit_0 : decode cX7_isDigit 0 = .ok (.iload_n 0, 1) := by decide +kernel
theorem dX7_isDigit_1 : decode cX7_isDigit 1 = .ok (.bipush 48, 2) := by decide +kernel
theorem dX7_isDigit_3 : decode cX7_isDigit 3 = .ok (.if_icmp .lt 13, 3) := by decide +kernel
theorem dX7_isDigit_6 : decode cX7_isDigit 6 = .ok (.iload_n 0, 1) := by decide +kernel
theorem dX7_isDigit_7 : decode cX7_isDigit 7 = .ok (.bipush 57, 2) := by decide +kernel
theorem dX7_isDigit_9 : decode cX7_isDigit 9 = .ok (.if_icmp .gt 7, 3) := by decide +kernel
theorem dX7_isDigit_12 : decode cX7_isDigit 12 = .ok (.iconst 1, 1) := by decide +kernel
theorem dX7_isDigit_13 : decode cX7_isDigit 13 = .ok (.goto 4, 3) := by decide +kernel
theorem dX7_isDigit_16 : decode cX7_isDigit 16 = .ok (.iconst 0, 1) := by decide +kernel
theorem dX7_isDigit_17 : decode cX7_isDigit 17 = .ok (.ireturn, 1) := by decide +kernel
theorem dX7_isSign_0 : decode cX7_isSign 0 = .ok (.iload_n 0, 1) := by decide +kernel
theorem dX7_isSign_1 : decode cX7_isSign 1 = .ok (.bipush 40, 2) := by decide +kernel
theorem dX7_isSign_3 : decode cX7_isSign 3 = .ok (.if_icmp .eq 45, 3) := by decide +kernel
theorem dX7_isSign_6 : decode cX7_isSign 6 = .ok (.iload_n 0, 1) := by decide +kernel
theorem dX7_isSign_7 : decode cX7_isSign 7 = .ok (.bipush 41, 2) := by decide +kernel
theorem dX7_isSign_9 : decode cX7_isSign 9 = .ok (.if_icmp .eq 39, 3) := by decide +kernel
theorem dX7_isSign_12 : decode cX7_isSign 12 = .ok (.iload_n 0, 1) := by decide +kernel
theorem dX7_isSign_13 : decode cX7_isSign 13 = .ok (.bipush 59, 2) := by decide +kernel
theorem dX7_isSign_15 : decode cX7_isSign 15 = .ok (.if_icmp .eq 33, 3) := by decide +kernel
theorem dX7_isSign_18 : decode cX7_isSign 18 = .ok (.iload_n 0, 1) := by decide +kernel
theorem dX7_isSign_19 : decode cX7_isSign 19 = .ok (.bipush 43, 2) := by decide +kernel
theorem dX7_isSign_21 : decode cX7_isSign 21 = .ok (.if_icmp .eq 27, 3) := by decide +kernel
theorem dX7_isSign_24 : decode cX7_isSign 24 = .ok (.iload_n 0, 1) := by decide +kernel
theorem dX7_isSign_25 : decode cX7_isSign 25 = .ok (.bipush 45, 2) := by decide +kernel
theorem dX7_isSign_27 : decode cX7_isSign 27 = .ok (.if_icmp .eq 21, 3) := by decide +kernel
theorem dX7_isSign_30 : decode cX7_isSign 30 = .ok (.iload_n 0, 1) := by decide +kernel
theorem dX7_isSign_31 : decode cX7_isSign 31 = .ok (.bipush 42, 2) := by decide +kernel
theorem dX7_isSign_33 : decode cX7_isSign 33 = .ok (.if_icmp .eq 15, 3) := by decide +kernel
theorem dX7_isSign_36 : decode cX7_isSign 36 = .ok (.iload_n 0, 1) := by decide +kernel
theorem dX7_isSign_37 : decode cX7_isSign 37 = .ok (.bipush 60, 2) := by decide +kernel
theorem dX7_isSign_39 : decode cX7_isSign 39 = .ok (.if_icmp .eq 9, 3) := by decide +kernel
theorem dX7_isSign_42 : decode cX7_isSign 42 = .ok (.iload_n 0, 1) := by decide +kernel
theorem dX7_isSign_43 : decode cX7_isSign 43 = .ok (.bipush 61, 2) := by decide +kernel
theorem dX7_isSign_45 : decode cX7_isSign 45 = .ok (.if_icmp .ne 7, 3) := by decide +kernel
theorem dX7_isSign_48 : decode cX7_isSign 48 = .ok (.iconst 1, 1) := by decide +kernel
theorem dX7_isSign_49 : decode cX7_isSign 49 = .ok (.goto 4, 3) := by decide +kernel
theorem dX7_isSign_52 : decode cX7_isSign 52 = .ok (.iconst 0, 1) := by decide +kernel
theorem dX7_isSign_53 : decode cX7_isSign 53 = .ok (.ireturn, 1) := by decide +kernel
theorem dX8_init_0 : decode cX8_init 0 = .ok (.aload_n 0, 1) := by decide +kernel
theorem dX8_init_1 : decode cX8_init 1 = .ok (.iload_n 1, 1) := by decide +kernel
theorem dX8_init_2 : decode cX8_init 2 = .ok (.iload_n 2, 1) := by decide +kernel
theorem dX8_init_3 : decode cX8_init 3 = .ok (.iload_n 3, 1) := by decide +kernel
theorem dX8_init_4 : decode cX8_init 4 = .ok (.invokespecial 1, 3) := by decide +kernel
theorem dX8_init_7 : decode cX8_init 7 = .ok (.return_, 1) := by decide +kernel
theorem dX8_kind_0 : decode cX8_kind 0 = .ok (.iconst 2, 1) := by decide +kernel
theorem dX8_kind_1 : decode cX8_kind 1 = .ok (.ireturn, 1) := by decide +kernel
theorem dX8_takesFor_0 : decode cX8_takesFor 0 = .ok (.iload_n 1, 1) := by decide +kernel
theorem dX8_takesFor_1 : decode cX8_takesFor 1 = .ok (.aload_n 0, 1) := by decide +kernel
theorem dX8_takesFor_2 : decode cX8_takesFor 2 = .ok (.getfield 11, 3) := by decide +kernel
theorem dX8_takesFor_5 : decode cX8_takesFor 5 = .ok (.iconst 2, 1) := by decide +kernel
theorem dX8_takesFor_6 : decode cX8_takesFor 6 = .ok (.idiv, 1) := by decide +kernel
theorem dX8_takesFor_7 : decode cX8_takesFor 7 = .ok (.iadd, 1) := by decide +kernel
theorem dX8_takesFor_8 : decode cX8_takesFor 8 = .ok (.ireturn, 1) := by decide +kernel
theorem dX9_init_0 : decode cX9_init 0 = .ok (.aload_n 0, 1) := by decide +kernel
theorem dX9_init_1 : decode cX9_init 1 = .ok (.iload_n 1, 1) := by decide +kernel
theorem dX9_init_2 : decode cX9_init 2 = .ok (.iload_n 2, 1) := by decide +kernel
theorem dX9_init_3 : decode cX9_init 3 = .ok (.iload_n 3, 1) := by decide +kernel
theorem dX9_init_4 : decode cX9_init 4 = .ok (.invokespecial 1, 3) := by decide +kernel
theorem dX9_init_7 : decode cX9_init 7 = .ok (.return_, 1) := by decide +kernel
theorem dX9_kind_0 : decode cX9_kind 0 = .ok (.iconst 5, 1) := by decide +kernel
theorem dX9_kind_1 : decode cX9_kind 1 = .ok (.ireturn, 1) := by decide +kernel
theorem dX9_takesFor_0 : decode cX9_takesFor 0 = .ok (.iload_n 2, 1) := by decide +kernel
theorem dX9_takesFor_1 : decode cX9_takesFor 1 = .ok (.aload_n 0, 1) := by decide +kernel
theorem dX9_takesFor_2 : decode cX9_takesFor 2 = .ok (.getfield 11, 3) := by decide +kernel
theorem dX9_takesFor_5 : decode cX9_takesFor 5 = .ok (.if_icmp .lt 9, 3) := by decide +kernel
theorem dX9_takesFor_8 : decode cX9_takesFor 8 = .ok (.iload_n 1, 1) := by decide +kernel
theorem dX9_takesFor_9 : decode cX9_takesFor 9 = .ok (.iconst 2, 1) := by decide +kernel
theorem dX9_takesFor_10 : decode cX9_takesFor 10 = .ok (.idiv, 1) := by decide +kernel
theorem dX9_takesFor_11 : decode cX9_takesFor 11 = .ok (.goto 4, 3) := by decide +kernel
theorem dX9_takesFor_14 : decode cX9_takesFor 14 = .ok (.iload_n 1, 1) := by decide +kernel
theorem dX9_takesFor_15 : decode cX9_takesFor 15 = .ok (.ireturn, 1) := by decide +kernel
theorem dX10_init_0 : decode cX10_init 0 = .ok (.aload_n 0, 1) := by decide +kernel
theorem dX10_init_1 : decode cX10_init 1 = .ok (.invokespecial 1, 3) := by decide +kernel
theorem dX10_init_4 : decode cX10_init 4 = .ok (.aload_n 0, 1) := by decide +kernel
theorem dX10_init_5 : decode cX10_init 5 = .ok (.iload_n 1, 1) := by decide +kernel
theorem dX10_init_6 : decode cX10_init 6 = .ok (.putfield 7, 3) := by decide +kernel
theorem dX10_init_9 : decode cX10_init 9 = .ok (.aload_n 0, 1) := by decide +kernel
theorem dX10_init_10 : decode cX10_init 10 = .ok (.iload_n 2, 1) := by decide +kernel
theorem dX10_init_11 : decode cX10_init 11 = .ok (.putfield 13, 3) := by decide +kernel
theorem dX10_init_14 : decode cX10_init 14 = .ok (.aload_n 0, 1) := by decide +kernel
theorem dX10_init_15 : decode cX10_init 15 = .ok (.iload_n 3, 1) := by decide +kernel
theorem dX10_init_16 : decode cX10_init 16 = .ok (.putfield 16, 3) := by decide +kernel
theorem dX10_init_19 : decode cX10_init 19 = .ok (.return_, 1) := by decide +kernel
theorem dX10_kind_0 : decode cX10_kind 0 = .ok (.iconst 0, 1) := by decide +kernel
theorem dX10_kind_1 : decode cX10_kind 1 = .ok (.ireturn, 1) := by decide +kernel
theorem dX10_takesFor_0 : decode cX10_takesFor 0 = .ok (.iload_n 1, 1) := by decide +kernel
theorem dX10_takesFor_1 : decode cX10_takesFor 1 = .ok (.ireturn, 1) := by decide +kernel
theorem dX10_stepFor_0 : decode cX10_stepFor 0 = .ok (.iload_n 1, 1) := by decide +kernel
theorem dX10_stepFor_1 : decode cX10_stepFor 1 = .ok (.ireturn, 1) := by decide +kernel
theorem dX10_waits_0 : decode cX10_waits 0 = .ok (.iconst 1, 1) := by decide +kernel
theorem dX10_waits_1 : decode cX10_waits 1 = .ok (.ireturn, 1) := by decide +kernel
theorem dX10_beginGoing_0 : decode cX10_beginGoing 0 = .ok (.aload_n 0, 1) := by decide +kernel
theorem dX10_beginGoing_1 : decode cX10_beginGoing 1 = .ok (.aload_n 0, 1) := by decide +kernel
theorem dX10_beginGoing_2 : decode cX10_beginGoing 2 = .ok (.getfield 16, 3) := by decide +kernel
theorem dX10_beginGoing_5 : decode cX10_beginGoing 5 = .ok (.putfield 19, 3) := by decide +kernel
theorem dX10_beginGoing_8 : decode cX10_beginGoing 8 = .ok (.aload_n 0, 1) := by decide +kernel
theorem dX10_beginGoing_9 : decode cX10_beginGoing 9 = .ok (.iconst 1, 1) := by decide +kernel
theorem dX10_beginGoing_10 : decode cX10_beginGoing 10 = .ok (.putfield 22, 3) := by decide +kernel
theorem dX10_beginGoing_13 : decode cX10_beginGoing 13 = .ok (.aload_n 0, 1) := by decide +kernel
theorem dX10_beginGoing_14 : decode cX10_beginGoing 14 = .ok (.iconst 0, 1) := by decide +kernel
theorem dX10_beginGoing_15 : decode cX10_beginGoing 15 = .ok (.putfield 25, 3) := by decide +kernel
theorem dX10_beginGoing_18 : decode cX10_beginGoing 18 = .ok (.aload_n 0, 1) := by decide +kernel
theorem dX10_beginGoing_19 : decode cX10_beginGoing 19 = .ok (.iconst 0, 1) := by decide +kernel
theorem dX10_beginGoing_20 : decode cX10_beginGoing 20 = .ok (.putfield 28, 3) := by decide +kernel
theorem dX10_beginGoing_23 : decode cX10_beginGoing 23 = .ok (.aload_n 0, 1) := by decide +kernel
theorem dX10_beginGoing_24 : decode cX10_beginGoing 24 = .ok (.iconst 0, 1) := by decide +kernel
theorem dX10_beginGoing_25 : decode cX10_beginGoing 25 = .ok (.putfield 31, 3) := by decide +kernel
theorem dX10_beginGoing_28 : decode cX10_beginGoing 28 = .ok (.aload_n 0, 1) := by decide +kernel
theorem dX10_beginGoing_29 : decode cX10_beginGoing 29 = .ok (.iconst 0, 1) := by decide +kernel
theorem dX10_beginGoing_30 : decode cX10_beginGoing 30 = .ok (.putfield 34, 3) := by decide +kernel
theorem dX10_beginGoing_33 : decode cX10_beginGoing 33 = .ok (.aload_n 0, 1) := by decide +kernel
theorem dX10_beginGoing_34 : decode cX10_beginGoing 34 = .ok (.iconst 0, 1) := by decide +kernel
theorem dX10_beginGoing_35 : decode cX10_beginGoing 35 = .ok (.putfield 37, 3) := by decide +kernel
theorem dX10_beginGoing_38 : decode cX10_beginGoing 38 = .ok (.aload_n 0, 1) := by decide +kernel
theorem dX10_beginGoing_39 : decode cX10_beginGoing 39 = .ok (.iconst 0, 1) := by decide +kernel
theorem dX10_beginGoing_40 : decode cX10_beginGoing 40 = .ok (.putfield 41, 3) := by decide +kernel
theorem dX10_beginGoing_43 : decode cX10_beginGoing 43 = .ok (.return_, 1) := by decide +kernel
theorem dX11_init_0 : decode cX11_init 0 = .ok (.aload_n 0, 1) := by decide +kernel
theorem dX11_init_1 : decode cX11_init 1 = .ok (.invokespecial 1, 3) := by decide +kernel
theorem dX11_init_4 : decode cX11_init 4 = .ok (.aload_n 0, 1) := by decide +kernel
theorem dX11_init_5 : decode cX11_init 5 = .ok (.bipush 9, 2) := by decide +kernel
theorem dX11_init_7 : decode cX11_init 7 = .ok (.newarray .int, 2) := by decide +kernel
theorem dX11_init_9 : decode cX11_init 9 = .ok (.putfield 9, 3) := by decide +kernel
theorem dX11_init_12 : decode cX11_init 12 = .ok (.aload_n 0, 1) := by decide +kernel
theorem dX11_init_13 : decode cX11_init 13 = .ok (.bipush 9, 2) := by decide +kernel
theorem dX11_init_15 : decode cX11_init 15 = .ok (.newarray .int, 2) := by decide +kernel
theorem dX11_init_17 : decode cX11_init 17 = .ok (.putfield 13, 3) := by decide +kernel
theorem dX11_init_20 : decode cX11_init 20 = .ok (.aload_n 0, 1) := by decide +kernel
theorem dX11_init_21 : decode cX11_init 21 = .ok (.bipush 20, 2) := by decide +kernel
theorem dX11_init_23 : decode cX11_init 23 = .ok (.putfield 16, 3) := by decide +kernel
theorem dX11_init_26 : decode cX11_init 26 = .ok (.aload_n 0, 1) := by decide +kernel
theorem dX11_init_27 : decode cX11_init 27 = .ok (.iconst 5, 1) := by decide +kernel
theorem dX11_init_28 : decode cX11_init 28 = .ok (.anewarray 20, 3) := by decide +kernel
theorem dX11_init_31 : decode cX11_init 31 = .ok (.putfield 22, 3) := by decide +kernel
theorem dX11_init_34 : decode cX11_init 34 = .ok (.aload_n 0, 1) := by decide +kernel
theorem dX11_init_35 : decode cX11_init 35 = .ok (.bipush 6, 2) := by decide +kernel
theorem dX11_init_37 : decode cX11_init 37 = .ok (.anewarray 26, 3) := by decide +kernel
theorem dX11_init_40 : decode cX11_init 40 = .ok (.putfield 28, 3) := by decide +kernel
theorem dX11_init_43 : decode cX11_init 43 = .ok (.aload_n 0, 1) := by decide +kernel
theorem dX11_init_44 : decode cX11_init 44 = .ok (.new 32, 3) := by decide +kernel
theorem dX11_init_47 : decode cX11_init 47 = .ok (.dup, 1) := by decide +kernel
theorem dX11_init_48 : decode cX11_init 48 = .ok (.invokespecial 34, 3) := by decide +kernel
theorem dX11_init_51 : decode cX11_init 51 = .ok (.putfield 35, 3) := by decide +kernel
theorem dX11_init_54 : decode cX11_init 54 = .ok (.aload_n 0, 1) := by decide +kernel
theorem dX11_init_55 : decode cX11_init 55 = .ok (.iconst 4, 1) := by decide +kernel
theorem dX11_init_56 : decode cX11_init 56 = .ok (.anewarray 39, 3) := by decide +kernel
theorem dX11_init_59 : decode cX11_init 59 = .ok (.putfield 41, 3) := by decide +kernel
theorem dX11_init_62 : decode cX11_init 62 = .ok (.aload_n 0, 1) := by decide +kernel
theorem dX11_init_63 : decode cX11_init 63 = .ok (.new 45, 3) := by decide +kernel
theorem dX11_init_66 : decode cX11_init 66 = .ok (.dup, 1) := by decide +kernel
theorem dX11_init_67 : decode cX11_init 67 = .ok (.invokespecial 47, 3) := by decide +kernel
theorem dX11_init_70 : decode cX11_init 70 = .ok (.putfield 48, 3) := by decide +kernel
theorem dX11_init_73 : decode cX11_init 73 = .ok (.aload_n 0, 1) := by decide +kernel
theorem dX11_init_74 : decode cX11_init 74 = .ok (.iconst 5, 1) := by decide +kernel
theorem dX11_init_75 : decode cX11_init 75 = .ok (.newarray .int, 2) := by decide +kernel
theorem dX11_init_77 : decode cX11_init 77 = .ok (.putfield 52, 3) := by decide +kernel
theorem dX11_init_80 : decode cX11_init 80 = .ok (.aload_n 0, 1) := by decide +kernel
theorem dX11_init_81 : decode cX11_init 81 = .ok (.bipush 6, 2) := by decide +kernel
theorem dX11_init_83 : decode cX11_init 83 = .ok (.bipush 10, 2) := by decide +kernel
theorem dX11_init_85 : decode cX11_init 85 = .ok (.multianewarray 55 2, 4) := by decide +kernel
theorem dX11_init_89 : decode cX11_init 89 = .ok (.putfield 57, 3) := by decide +kernel
theorem dX11_init_92 : decode cX11_init 92 = .ok (.aload_n 0, 1) := by decide +kernel
theorem dX11_init_93 : decode cX11_init 93 = .ok (.iconst 5, 1) := by decide +kernel
theorem dX11_init_94 : decode cX11_init 94 = .ok (.newarray .int, 2) := by decide +kernel
theorem dX11_init_96 : decode cX11_init 96 = .ok (.putfield 60, 3) := by decide +kernel
theorem dX11_init_99 : decode cX11_init 99 = .ok (.aload_n 0, 1) := by decide +kernel
theorem dX11_init_100 : decode cX11_init 100 = .ok (.bipush 9, 2) := by decide +kernel
theorem dX11_init_102 : decode cX11_init 102 = .ok (.newarray .int, 2) := by decide +kernel
theorem dX11_init_104 : decode cX11_init 104 = .ok (.putfield 63, 3) := by decide +kernel
theorem dX11_init_107 : decode cX11_init 107 = .ok (.aload_n 0, 1) := by decide +kernel
theorem dX11_init_108 : decode cX11_init 108 = .ok (.bipush 9, 2) := by decide +kernel
theorem dX11_init_110 : decode cX11_init 110 = .ok (.newarray .int, 2) := by decide +kernel
theorem dX11_init_112 : decode cX11_init 112 = .ok (.putfield 66, 3) := by decide +kernel
theorem dX11_init_115 : decode cX11_init 115 = .ok (.aload_n 0, 1) := by decide +kernel
theorem dX11_init_116 : decode cX11_init 116 = .ok (.iconst 5, 1) := by decide +kernel
theorem dX11_init_117 : decode cX11_init 117 = .ok (.newarray .int, 2) := by decide +kernel
theorem dX11_init_119 : decode cX11_init 119 = .ok (.putfield 69, 3) := by decide +kernel
theorem dX11_init_122 : decode cX11_init 122 = .ok (.aload_n 0, 1) := by decide +kernel
theorem dX11_init_123 : decode cX11_init 123 = .ok (.iconst (-1), 1) := by decide +kernel
theorem dX11_init_124 : decode cX11_init 124 = .ok (.putfield 72, 3) := by decide +kernel
theorem dX11_init_127 : decode cX11_init 127 = .ok (.aload_n 0, 1) := by decide +kernel
theorem dX11_init_128 : decode cX11_init 128 = .ok (.getfield 9, 3) := by decide +kernel
theorem dX11_init_131 : decode cX11_init 131 = .ok (.bipush 50, 2) := by decide +kernel
theorem dX11_init_133 : decode cX11_init 133 = .ok (.invokestatic 75, 3) := by decide +kernel
theorem dX11_init_136 : decode cX11_init 136 = .ok (.aload_n 0, 1) := by decide +kernel
theorem dX11_init_137 : decode cX11_init 137 = .ok (.getfield 28, 3) := by decide +kernel
theorem dX11_init_140 : decode cX11_init 140 = .ok (.iconst 0, 1) := by decide +kernel
theorem dX11_init_141 : decode cX11_init 141 = .ok (.new 26, 3) := by decide +kernel
theorem dX11_init_144 : decode cX11_init 144 = .ok (.dup, 1) := by decide +kernel
theorem dX11_init_145 : decode cX11_init 145 = .ok (.getstatic 81, 3) := by decide +kernel
theorem dX11_init_148 : decode cX11_init 148 = .ok (.getstatic 84, 3) := by decide +kernel
theorem dX11_init_151 : decode cX11_init 151 = .ok (.invokespecial 87, 3) := by decide +kernel
theorem dX11_init_154 : decode cX11_init 154 = .ok (.aastore, 1) := by decide +kernel
theorem dX11_init_155 : decode cX11_init 155 = .ok (.aload_n 0, 1) := by decide +kernel
theorem dX11_init_156 : decode cX11_init 156 = .ok (.iconst 1, 1) := by decide +kernel
theorem dX11_init_157 : decode cX11_init 157 = .ok (.putfield 90, 3) := by decide +kernel
theorem dX11_init_160 : decode cX11_init 160 = .ok (.iconst 0, 1) := by decide +kernel
theorem dX11_init_161 : decode cX11_init 161 = .ok (.istore_n 1, 1) := by decide +kernel
theorem dX11_init_162 : decode cX11_init 162 = .ok (.iload_n 1, 1) := by decide +kernel
theorem dX11_init_163 : decode cX11_init 163 = .ok (.iconst 4, 1) := by decide +kernel
theorem dX11_init_164 : decode cX11_init 164 = .ok (.if_icmp .ge 22, 3) := by decide +kernel
theorem dX11_init_167 : decode cX11_init 167 = .ok (.aload_n 0, 1) := by decide +kernel
theorem dX11_init_168 : decode cX11_init 168 = .ok (.getfield 41, 3) := by decide +kernel
theorem dX11_init_171 : decode cX11_init 171 = .ok (.iload_n 1, 1) := by decide +kernel
theorem dX11_init_172 : decode cX11_init 172 = .ok (.new 39, 3) := by decide +kernel
theorem dX11_init_175 : decode cX11_init 175 = .ok (.dup, 1) := by decide +kernel
theorem dX11_init_176 : decode cX11_init 176 = .ok (.invokespecial 93, 3) := by decide +kernel
theorem dX11_init_179 : decode cX11_init 179 = .ok (.aastore, 1) := by decide +kernel
theorem dX11_init_180 : decode cX11_init 180 = .ok (.iinc 1 1, 3) := by decide +kernel
theorem dX11_init_183 : decode cX11_init 183 = .ok (.goto (-21), 3) := by decide +kernel
theorem dX11_init_186 : decode cX11_init 186 = .ok (.return_, 1) := by decide +kernel
theorem dX11_set_0 : decode cX11_set 0 = .ok (.iload_n 1, 1) := by decide +kernel
theorem dX11_set_1 : decode cX11_set 1 = .ok (.ifCond .lt 8, 3) := by decide +kernel
theorem dX11_set_4 : decode cX11_set 4 = .ok (.iload_n 1, 1) := by decide +kernel
theorem dX11_set_5 : decode cX11_set 5 = .ok (.iconst 2, 1) := by decide +kernel
theorem dX11_set_6 : decode cX11_set 6 = .ok (.if_icmp .le 6, 3) := by decide +kernel
theorem dX11_set_9 : decode cX11_set 9 = .ok (.bipush (-5), 2) := by decide +kernel
theorem dX11_set_11 : decode cX11_set 11 = .ok (.ireturn, 1) := by decide +kernel
theorem dX11_set_12 : decode cX11_set 12 = .ok (.iload_n 1, 1) := by decide +kernel
theorem dX11_set_13 : decode cX11_set 13 = .ok (.iconst 2, 1) := by decide +kernel
theorem dX11_set_14 : decode cX11_set 14 = .ok (.if_icmp .ne 9, 3) := by decide +kernel
theorem dX11_set_17 : decode cX11_set 17 = .ok (.aload_n 0, 1) := by decide +kernel
theorem dX11_set_18 : decode cX11_set 18 = .ok (.iload_n 3, 1) := by decide +kernel
theorem dX11_set_19 : decode cX11_set 19 = .ok (.invokevirtual 103, 3) := by decide +kernel
theorem dX11_set_22 : decode cX11_set 22 = .ok (.ireturn, 1) := by decide +kernel
theorem dX11_set_23 : decode cX11_set 23 = .ok (.iload_n 2, 1) := by decide +kernel
theorem dX11_set_24 : decode cX11_set 24 = .ok (.invokestatic 107, 3) := by decide +kernel
theorem dX11_set_27 : decode cX11_set 27 = .ok (.ifCond .eq 6, 3) := by decide +kernel
theorem dX11_set_30 : decode cX11_set 30 = .ok (.bipush (-6), 2) := by decide +kernel
theorem dX11_set_32 : decode cX11_set 32 = .ok (.ireturn, 1) := by decide +kernel
theorem dX11_set_33 : decode cX11_set 33 = .ok (.iload_n 3, 1) := by decide +kernel
theorem dX11_set_34 : decode cX11_set 34 = .ok (.ifCond .lt 19, 3) := by decide +kernel
theorem dX11_set_37 : decode cX11_set 37 = .ok (.iload_n 3, 1) := by decide +kernel
theorem dX11_set_38 : decode cX11_set 38 = .ok (.iload_n 1, 1) := by decide +kernel
theorem dX11_set_39 : decode cX11_set 39 = .ok (.ifCond .ne 9, 3) := by decide +kernel
theorem dX11_set_42 : decode cX11_set 42 = .ok (.sipush 200, 3) := by decide +kernel
theorem dX11_set_45 : decode cX11_set 45 = .ok (.goto 5, 3) := by decide +kernel
theorem dX11_set_48 : decode cX11_set 48 = .ok (.bipush 9, 2) := by decide +kernel
theorem dX11_set_50 : decode cX11_set 50 = .ok (.if_icmp .le 6, 3) := by decide +kernel
theorem dX11_set_53 : decode cX11_set 53 = .ok (.bipush (-7), 2) := by decide +kernel
theorem dX11_set_55 : decode cX11_set 55 = .ok (.ireturn, 1) := by decide +kernel
theorem dX11_set_56 : decode cX11_set 56 = .ok (.iload_n 1, 1) := by decide +kernel
theorem dX11_set_57 : decode cX11_set 57 = .ok (.ifCond .ne 10, 3) := by decide +kernel
theorem dX11_set_60 : decode cX11_set 60 = .ok (.aload_n 0, 1) := by decide +kernel
theorem dX11_set_61 : decode cX11_set 61 = .ok (.getfield 9, 3) := by decide +kernel
theorem dX11_set_64 : decode cX11_set 64 = .ok (.goto 7, 3) := by decide +kernel
theorem dX11_set_67 : decode cX11_set 67 = .ok (.aload_n 0, 1) := by decide +kernel
theorem dX11_set_68 : decode cX11_set 68 = .ok (.getfield 13, 3) := by decide +kernel
theorem dX11_set_71 : decode cX11_set 71 = .ok (.astore 4, 2) := by decide +kernel
theorem dX11_set_73 : decode cX11_set 73 = .ok (.aload 4, 2) := by decide +kernel
theorem dX11_set_75 : decode cX11_set 75 = .ok (.iload_n 2, 1) := by decide +kernel
theorem dX11_set_76 : decode cX11_set 76 = .ok (.iaload, 1) := by decide +kernel
theorem dX11_set_77 : decode cX11_set 77 = .ok (.istore 5, 2) := by decide +kernel
theorem dX11_set_79 : decode cX11_set 79 = .ok (.aload 4, 2) := by decide +kernel
theorem dX11_set_81 : decode cX11_set 81 = .ok (.iload_n 2, 1) := by decide +kernel
theorem dX11_set_82 : decode cX11_set 82 = .ok (.iload_n 3, 1) := by decide +kernel
theorem dX11_set_83 : decode cX11_set 83 = .ok (.iastore, 1) := by decide +kernel
theorem dX11_set_84 : decode cX11_set 84 = .ok (.iload 5, 2) := by decide +kernel
theorem dX11_set_86 : decode cX11_set 86 = .ok (.ireturn, 1) := by decide +kernel
theorem dX11_changeWant_0 : decode cX11_changeWant 0 = .ok (.iload_n 1, 1) := by decide +kernel
theorem dX11_changeWant_1 : decode cX11_changeWant 1 = .ok (.iconst 1, 1) := by decide +kernel
theorem dX11_changeWant_2 : decode cX11_changeWant 2 = .ok (.if_icmp .lt 10, 3) := by decide +kernel
theorem dX11_changeWant_5 : decode cX11_changeWant 5 = .ok (.iload_n 1, 1) := by decide +kernel
theorem dX11_changeWant_6 : decode cX11_changeWant 6 = .ok (.sipush 200, 3) := by decide +kernel
theorem dX11_changeWant_9 : decode cX11_changeWant 9 = .ok (.if_icmp .le 6, 3) := by decide +kernel
theorem dX11_changeWant_12 : decode cX11_changeWant 12 = .ok (.bipush (-7), 2) := by decide +kernel
theorem dX11_changeWant_14 : decode cX11_changeWant 14 = .ok (.ireturn, 1) := by decide +kernel
theorem dX11_changeWant_15 : decode cX11_changeWant 15 = .ok (.aload_n 0, 1) := by decide +kernel
theorem dX11_changeWant_16 : decode cX11_changeWant 16 = .ok (.getfield 16, 3) := by decide +kernel
theorem dX11_changeWant_19 : decode cX11_changeWant 19 = .ok (.istore_n 2, 1) := by decide +kernel
theorem dX11_changeWant_20 : decode cX11_changeWant 20 = .ok (.aload_n 0, 1) := by decide +kernel
theorem dX11_changeWant_21 : decode cX11_changeWant 21 = .ok (.iload_n 1, 1) := by decide +kernel
theorem dX11_changeWant_22 : decode cX11_changeWant 22 = .ok (.putfield 16, 3) := by decide +kernel
theorem dX11_changeWant_25 : decode cX11_changeWant 25 = .ok (.iload_n 2, 1) := by decide +kernel
theorem dX11_changeWant_26 : decode cX11_changeWant 26 = .ok (.ireturn, 1) := by decide +kernel
theorem dX11_heap_0 : decode cX11_heap 0 = .ok (.iload_n 1, 1) := by decide +kernel
theorem dX11_heap_1 : decode cX11_heap 1 = .ok (.invokestatic 107, 3) := by decide +kernel
theorem dX11_heap_4 : decode cX11_heap 4 = .ok (.ifCond .eq 6, 3) := by decide +kernel
theorem dX11_heap_7 : decode cX11_heap 7 = .ok (.bipush (-6), 2) := by decide +kernel
theorem dX11_heap_9 : decode cX11_heap 9 = .ok (.ireturn, 1) := by decide +kernel
theorem dX11_heap_10 : decode cX11_heap 10 = .ok (.iload_n 2, 1) := by decide +kernel
theorem dX11_heap_11 : decode cX11_heap 11 = .ok (.ifCond .lt 8, 3) := by decide +kernel
theorem dX11_heap_14 : decode cX11_heap 14 = .ok (.iload_n 2, 1) := by decide +kernel
theorem dX11_heap_15 : decode cX11_heap 15 = .ok (.iconst 1, 1) := by decide +kernel
theorem dX11_heap_16 : decode cX11_heap 16 = .ok (.if_icmp .le 6, 3) := by decide +kernel
theorem dX11_heap_19 : decode cX11_heap 19 = .ok (.bipush (-7), 2) := by decide +kernel
theorem dX11_heap_21 : decode cX11_heap 21 = .ok (.ireturn, 1) := by decide +kernel
theorem dX11_heap_22 : decode cX11_heap 22 = .ok (.iload_n 2, 1) := by decide +kernel
theorem dX11_heap_23 : decode cX11_heap 23 = .ok (.ifCond .ne 12, 3) := by decide +kernel
theorem dX11_heap_26 : decode cX11_heap 26 = .ok (.aload_n 0, 1) := by decide +kernel
theorem dX11_heap_27 : decode cX11_heap 27 = .ok (.getfield 9, 3) := by decide +kernel
theorem dX11_heap_30 : decode cX11_heap 30 = .ok (.iload_n 1, 1) := by decide +kernel
theorem dX11_heap_31 : decode cX11_heap 31 = .ok (.iaload, 1) := by decide +kernel
theorem dX11_heap_32 : decode cX11_heap 32 = .ok (.goto 9, 3) := by decide +kernel
theorem dX11_heap_35 : decode cX11_heap 35 = .ok (.aload_n 0, 1) := by decide +kernel
theorem dX11_heap_36 : decode cX11_heap 36 = .ok (.getfield 13, 3) := by decide +kernel
theorem dX11_heap_39 : decode cX11_heap 39 = .ok (.iload_n 1, 1) := by decide +kernel
theorem dX11_heap_40 : decode cX11_heap 40 = .ok (.iaload, 1) := by decide +kernel
theorem dX11_heap_41 : decode cX11_heap 41 = .ok (.ireturn, 1) := by decide +kernel
theorem dX11_feed_0 : decode cX11_feed 0 = .ok (.iload_n 1, 1) := by decide +kernel
theorem dX11_feed_1 : decode cX11_feed 1 = .ok (.iconst 1, 1) := by decide +kernel
theorem dX11_feed_2 : decode cX11_feed 2 = .ok (.if_icmp .lt 46, 3) := by decide +kernel
theorem dX11_feed_5 : decode cX11_feed 5 = .ok (.iload_n 1, 1) := by decide +kernel
theorem dX11_feed_6 : decode cX11_feed 6 = .ok (.iconst 5, 1) := by decide +kernel
theorem dX11_feed_7 : decode cX11_feed 7 = .ok (.if_icmp .gt 41, 3) := by decide +kernel
theorem dX11_feed_10 : decode cX11_feed 10 = .ok (.iload_n 2, 1) := by decide +kernel
theorem dX11_feed_11 : decode cX11_feed 11 = .ok (.invokestatic 111, 3) := by decide +kernel
theorem dX11_feed_14 : decode cX11_feed 14 = .ok (.ifCond .ne 34, 3) := by decide +kernel
theorem dX11_feed_17 : decode cX11_feed 17 = .ok (.iload_n 3, 1) := by decide +kernel
theorem dX11_feed_18 : decode cX11_feed 18 = .ok (.invokestatic 111, 3) := by decide +kernel
theorem dX11_feed_21 : decode cX11_feed 21 = .ok (.ifCond .ne 27, 3) := by decide +kernel
theorem dX11_feed_24 : decode cX11_feed 24 = .ok (.iload 4, 2) := by decide +kernel
theorem dX11_feed_26 : decode cX11_feed 26 = .ok (.invokestatic 111, 3) := by decide +kernel
theorem dX11_feed_29 : decode cX11_feed 29 = .ok (.ifCond .ne 19, 3) := by decide +kernel
theorem dX11_feed_32 : decode cX11_feed 32 = .ok (.iload 5, 2) := by decide +kernel
theorem dX11_feed_34 : decode cX11_feed 34 = .ok (.invokestatic 111, 3) := by decide +kernel
theorem dX11_feed_37 : decode cX11_feed 37 = .ok (.ifCond .ne 11, 3) := by decide +kernel
theorem dX11_feed_40 : decode cX11_feed 40 = .ok (.iload 6, 2) := by decide +kernel
theorem dX11_feed_42 : decode cX11_feed 42 = .ok (.invokestatic 111, 3) := by decide +kernel
theorem dX11_feed_45 : decode cX11_feed 45 = .ok (.ifCond .eq 6, 3) := by decide +kernel
theorem dX11_feed_48 : decode cX11_feed 48 = .ok (.bipush (-2), 2) := by decide +kernel
theorem dX11_feed_50 : decode cX11_feed 50 = .ok (.ireturn, 1) := by decide +kernel
theorem dX11_feed_51 : decode cX11_feed 51 = .ok (.iload_n 1, 1) := by decide +kernel
theorem dX11_feed_52 : decode cX11_feed 52 = .ok (.sipush 160, 3) := by decide +kernel
theorem dX11_feed_55 : decode cX11_feed 55 = .ok (.aload_n 0, 1) := by decide +kernel
theorem dX11_feed_56 : decode cX11_feed 56 = .ok (.getfield 35, 3) := by decide +kernel
theorem dX11_feed_59 : decode cX11_feed 59 = .ok (.getfield 100, 3) := by decide +kernel
theorem dX11_feed_62 : decode cX11_feed 62 = .ok (.isub, 1) := by decide +kernel
theorem dX11_feed_63 : decode cX11_feed 63 = .ok (.if_icmp .le 6, 3) := by decide +kernel
theorem dX11_feed_66 : decode cX11_feed 66 = .ok (.bipush (-4), 2) := by decide +kernel
theorem dX11_feed_68 : decode cX11_feed 68 = .ok (.ireturn, 1) := by decide +kernel
theorem dX11_feed_69 : decode cX11_feed 69 = .ok (.aload_n 0, 1) := by decide +kernel
theorem dX11_feed_70 : decode cX11_feed 70 = .ok (.getfield 35, 3) := by decide +kernel
theorem dX11_feed_73 : decode cX11_feed 73 = .ok (.iload_n 2, 1) := by decide +kernel
theorem dX11_feed_74 : decode cX11_feed 74 = .ok (.invokevirtual 114, 3) := by decide +kernel
theorem dX11_feed_77 : decode cX11_feed 77 = .ok (.iload_n 1, 1) := by decide +kernel
theorem dX11_feed_78 : decode cX11_feed 78 = .ok (.iconst 1, 1) := by decide +kernel
theorem dX11_feed_79 : decode cX11_feed 79 = .ok (.if_icmp .le 11, 3) := by decide +kernel
theorem dX11_feed_82 : decode cX11_feed 82 = .ok (.aload_n 0, 1) := by decide +kernel
theorem dX11_feed_83 : decode cX11_feed 83 = .ok (.getfield 35, 3) := by decide +kernel
theorem dX11_feed_86 : decode cX11_feed 86 = .ok (.iload_n 3, 1) := by decide +kernel
theorem dX11_feed_87 : decode cX11_feed 87 = .ok (.invokevirtual 114, 3) := by decide +kernel
theorem dX11_feed_90 : decode cX11_feed 90 = .ok (.iload_n 1, 1) := by decide +kernel
theorem dX11_feed_91 : decode cX11_feed 91 = .ok (.iconst 2, 1) := by decide +kernel
theorem dX11_feed_92 : decode cX11_feed 92 = .ok (.if_icmp .le 12, 3) := by decide +kernel
theorem dX11_feed_95 : decode cX11_feed 95 = .ok (.aload_n 0, 1) := by decide +kernel
theorem dX11_feed_96 : decode cX11_feed 96 = .ok (.getfield 35, 3) := by decide +kernel
theorem dX11_feed_99 : decode cX11_feed 99 = .ok (.iload 4, 2) := by decide +kernel
theorem dX11_feed_101 : decode cX11_feed 101 = .ok (.invokevirtual 114, 3) := by decide +kernel
theorem dX11_feed_104 : decode cX11_feed 104 = .ok (.iload_n 1, 1) := by decide +kernel
theorem dX11_feed_105 : decode cX11_feed 105 = .ok (.iconst 3, 1) := by decide +kernel
theorem dX11_feed_106 : decode cX11_feed 106 = .ok (.if_icmp .le 12, 3) := by decide +kernel
theorem dX11_feed_109 : decode cX11_feed 109 = .ok (.aload_n 0, 1) := by decide +kernel
theorem dX11_feed_110 : decode cX11_feed 110 = .ok (.getfield 35, 3) := by decide +kernel
theorem dX11_feed_113 : decode cX11_feed 113 = .ok (.iload 5, 2) := by decide +kernel
theorem dX11_feed_115 : decode cX11_feed 115 = .ok (.invokevirtual 114, 3) := by decide +kernel
theorem dX11_feed_118 : decode cX11_feed 118 = .ok (.iload_n 1, 1) := by decide +kernel
theorem dX11_feed_119 : decode cX11_feed 119 = .ok (.iconst 4, 1) := by decide +kernel
theorem dX11_feed_120 : decode cX11_feed 120 = .ok (.if_icmp .le 12, 3) := by decide +kernel
theorem dX11_feed_123 : decode cX11_feed 123 = .ok (.aload_n 0, 1) := by decide +kernel
theorem dX11_feed_124 : decode cX11_feed 124 = .ok (.getfield 35, 3) := by decide +kernel
theorem dX11_feed_127 : decode cX11_feed 127 = .ok (.iload 6, 2) := by decide +kernel
theorem dX11_feed_129 : decode cX11_feed 129 = .ok (.invokevirtual 114, 3) := by decide +kernel
theorem dX11_feed_132 : decode cX11_feed 132 = .ok (.aload_n 0, 1) := by decide +kernel
theorem dX11_feed_133 : decode cX11_feed 133 = .ok (.getfield 35, 3) := by decide +kernel
theorem dX11_feed_136 : decode cX11_feed 136 = .ok (.getfield 100, 3) := by decide +kernel
theorem dX11_feed_139 : decode cX11_feed 139 = .ok (.ireturn, 1) := by decide +kernel
theorem dX11_text_0 : decode cX11_text 0 = .ok (.aload_n 0, 1) := by decide +kernel
theorem dX11_text_1 : decode cX11_text 1 = .ok (.getfield 90, 3) := by decide +kernel
theorem dX11_text_4 : decode cX11_text 4 = .ok (.ifCond .lt 12, 3) := by decide +kernel
theorem dX11_text_7 : decode cX11_text 7 = .ok (.aload_n 0, 1) := by decide +kernel
theorem dX11_text_8 : decode cX11_text 8 = .ok (.getfield 90, 3) := by decide +kernel
theorem dX11_text_11 : decode cX11_text 11 = .ok (.bipush 6, 2) := by decide +kernel
theorem dX11_text_13 : decode cX11_text 13 = .ok (.if_icmp .lt 6, 3) := by decide +kernel
theorem dX11_text_16 : decode cX11_text 16 = .ok (.bipush (-4), 2) := by decide +kernel
theorem dX11_text_18 : decode cX11_text 18 = .ok (.ireturn, 1) := by decide +kernel
theorem dX11_text_19 : decode cX11_text 19 = .ok (.aload_n 0, 1) := by decide +kernel
theorem dX11_text_20 : decode cX11_text 20 = .ok (.getfield 35, 3) := by decide +kernel
theorem dX11_text_23 : decode cX11_text 23 = .ok (.invokevirtual 118, 3) := by decide +kernel
theorem dX11_text_26 : decode cX11_text 26 = .ok (.istore_n 1, 1) := by decide +kernel
theorem dX11_text_27 : decode cX11_text 27 = .ok (.aload_n 0, 1) := by decide +kernel
theorem dX11_text_28 : decode cX11_text 28 = .ok (.getfield 35, 3) := by decide +kernel
theorem dX11_text_31 : decode cX11_text 31 = .ok (.iconst 0, 1) := by decide +kernel
theorem dX11_text_32 : decode cX11_text 32 = .ok (.putfield 100, 3) := by decide +kernel
theorem dX11_text_35 : decode cX11_text 35 = .ok (.iload_n 1, 1) := by decide +kernel
theorem dX11_text_36 : decode cX11_text 36 = .ok (.iconst (-1), 1) := by decide +kernel
theorem dX11_text_37 : decode cX11_text 37 = .ok (.if_icmp .eq 8, 3) := by decide +kernel
theorem dX11_text_40 : decode cX11_text 40 = .ok (.bipush (-100), 2) := by decide +kernel
theorem dX11_text_42 : decode cX11_text 42 = .ok (.iload_n 1, 1) := by decide +kernel
theorem dX11_text_43 : decode cX11_text 43 = .ok (.isub, 1) := by decide +kernel
theorem dX11_text_44 : decode cX11_text 44 = .ok (.ireturn, 1) := by decide +kernel
theorem dX11_text_45 : decode cX11_text 45 = .ok (.aload_n 0, 1) := by decide +kernel
theorem dX11_text_46 : decode cX11_text 46 = .ok (.getfield 28, 3) := by decide +kernel
theorem dX11_text_49 : decode cX11_text 49 = .ok (.aload_n 0, 1) := by decide +kernel
theorem dX11_text_50 : decode cX11_text 50 = .ok (.getfield 90, 3) := by decide +kernel
theorem dX11_text_53 : decode cX11_text 53 = .ok (.aload_n 0, 1) := by decide +kernel
theorem dX11_text_54 : decode cX11_text 54 = .ok (.getfield 35, 3) := by decide +kernel
theorem dX11_text_57 : decode cX11_text 57 = .ok (.invokevirtual 122, 3) := by decide +kernel
theorem dX11_text_60 : decode cX11_text 60 = .ok (.aastore, 1) := by decide +kernel
theorem dX11_text_61 : decode cX11_text 61 = .ok (.aload_n 0, 1) := by decide +kernel
theorem dX11_text_62 : decode cX11_text 62 = .ok (.dup, 1) := by decide +kernel
theorem dX11_text_63 : decode cX11_text 63 = .ok (.getfield 90, 3) := by decide +kernel
theorem dX11_text_66 : decode cX11_text 66 = .ok (.iconst 1, 1) := by decide +kernel
theorem dX11_text_67 : decode cX11_text 67 = .ok (.iadd, 1) := by decide +kernel
theorem dX11_text_68 : decode cX11_text 68 = .ok (.putfield 90, 3) := by decide +kernel
theorem dX11_text_71 : decode cX11_text 71 = .ok (.aload_n 0, 1) := by decide +kernel
theorem dX11_text_72 : decode cX11_text 72 = .ok (.getfield 90, 3) := by decide +kernel
theorem dX11_text_75 : decode cX11_text 75 = .ok (.iconst 1, 1) := by decide +kernel
theorem dX11_text_76 : decode cX11_text 76 = .ok (.isub, 1) := by decide +kernel
theorem dX11_text_77 : decode cX11_text 77 = .ok (.ireturn, 1) := by decide +kernel
theorem dX11_force_0 : decode cX11_force 0 = .ok (.iload_n 1, 1) := by decide +kernel
theorem dX11_force_1 : decode cX11_force 1 = .ok (.ifCond .lt 11, 3) := by decide +kernel
theorem dX11_force_4 : decode cX11_force 4 = .ok (.iload_n 1, 1) := by decide +kernel
theorem dX11_force_5 : decode cX11_force 5 = .ok (.aload_n 0, 1) := by decide +kernel
theorem dX11_force_6 : decode cX11_force 6 = .ok (.getfield 90, 3) := by decide +kernel
theorem dX11_force_9 : decode cX11_force 9 = .ok (.if_icmp .lt 6, 3) := by decide +kernel
theorem dX11_force_12 : decode cX11_force 12 = .ok (.bipush (-2), 2) := by decide +kernel
theorem dX11_force_14 : decode cX11_force 14 = .ok (.ireturn, 1) := by decide +kernel
theorem dX11_force_15 : decode cX11_force 15 = .ok (.aload_n 0, 1) := by decide +kernel
theorem dX11_force_16 : decode cX11_force 16 = .ok (.getfield 97, 3) := by decide +kernel
theorem dX11_force_19 : decode cX11_force 19 = .ok (.istore_n 2, 1) := by decide +kernel
theorem dX11_force_20 : decode cX11_force 20 = .ok (.aload_n 0, 1) := by decide +kernel
theorem dX11_force_21 : decode cX11_force 21 = .ok (.iload_n 1, 1) := by decide +kernel
theorem dX11_force_22 : decode cX11_force 22 = .ok (.putfield 97, 3) := by decide +kernel
theorem dX11_force_25 : decode cX11_force 25 = .ok (.iload_n 2, 1) := by decide +kernel
theorem dX11_force_26 : decode cX11_force 26 = .ok (.ireturn, 1) := by decide +kernel
theorem dX11_walker_0 : decode cX11_walker 0 = .ok (.iload_n 1, 1) := by decide +kernel
theorem dX11_walker_1 : decode cX11_walker 1 = .ok (.ifCond .lt 26, 3) := by decide +kernel
theorem dX11_walker_4 : decode cX11_walker 4 = .ok (.iload_n 1, 1) := by decide +kernel
theorem dX11_walker_5 : decode cX11_walker 5 = .ok (.bipush 6, 2) := by decide +kernel
theorem dX11_walker_7 : decode cX11_walker 7 = .ok (.if_icmp .ge 20, 3) := by decide +kernel
theorem dX11_walker_10 : decode cX11_walker 10 = .ok (.iload_n 2, 1) := by decide +kernel
theorem dX11_walker_11 : decode cX11_walker 11 = .ok (.ifCond .lt 16, 3) := by decide +kernel
theorem dX11_walker_14 : decode cX11_walker 14 = .ok (.iload_n 2, 1) := by decide +kernel
theorem dX11_walker_15 : decode cX11_walker 15 = .ok (.bipush 9, 2) := by decide +kernel
theorem dX11_walker_17 : decode cX11_walker 17 = .ok (.if_icmp .gt 10, 3) := by decide +kernel
theorem dX11_walker_20 : decode cX11_walker 20 = .ok (.iload_n 3, 1) := by decide +kernel
theorem dX11_walker_21 : decode cX11_walker 21 = .ok (.invokestatic 107, 3) := by decide +kernel
theorem dX11_walker_24 : decode cX11_walker 24 = .ok (.ifCond .eq 6, 3) := by decide +kernel
theorem dX11_walker_27 : decode cX11_walker 27 = .ok (.bipush (-2), 2) := by decide +kernel
theorem dX11_walker_29 : decode cX11_walker 29 = .ok (.ireturn, 1) := by decide +kernel
theorem dX11_walker_30 : decode cX11_walker 30 = .ok (.aload_n 0, 1) := by decide +kernel
theorem dX11_walker_31 : decode cX11_walker 31 = .ok (.getfield 94, 3) := by decide +kernel
theorem dX11_walker_34 : decode cX11_walker 34 = .ok (.ifCond .lt 11, 3) := by decide +kernel
theorem dX11_walker_37 : decode cX11_walker 37 = .ok (.aload_n 0, 1) := by decide +kernel
theorem dX11_walker_38 : decode cX11_walker 38 = .ok (.getfield 94, 3) := by decide +kernel
theorem dX11_walker_41 : decode cX11_walker 41 = .ok (.iconst 5, 1) := by decide +kernel
theorem dX11_walker_42 : decode cX11_walker 42 = .ok (.if_icmp .lt 6, 3) := by decide +kernel
theorem dX11_walker_45 : decode cX11_walker 45 = .ok (.bipush (-4), 2) := by decide +kernel
theorem dX11_walker_47 : decode cX11_walker 47 = .ok (.ireturn, 1) := by decide +kernel
theorem dX11_walker_48 : decode cX11_walker 48 = .ok (.aload_n 0, 1) := by decide +kernel
theorem dX11_walker_49 : decode cX11_walker 49 = .ok (.getfield 22, 3) := by decide +kernel
theorem dX11_walker_52 : decode cX11_walker 52 = .ok (.aload_n 0, 1) := by decide +kernel
theorem dX11_walker_53 : decode cX11_walker 53 = .ok (.getfield 94, 3) := by decide +kernel
theorem dX11_walker_56 : decode cX11_walker 56 = .ok (.iload_n 1, 1) := by decide +kernel
theorem dX11_walker_57 : decode cX11_walker 57 = .ok (.aload_n 0, 1) := by decide +kernel
theorem dX11_walker_58 : decode cX11_walker 58 = .ok (.getfield 94, 3) := by decide +kernel
theorem dX11_walker_61 : decode cX11_walker 61 = .ok (.iload_n 2, 1) := by decide +kernel
theorem dX11_walker_62 : decode cX11_walker 62 = .ok (.iload_n 3, 1) := by decide +kernel
theorem dX11_walker_63 : decode cX11_walker 63 = .ok (.invokestatic 147, 3) := by decide +kernel
theorem dX11_walker_66 : decode cX11_walker 66 = .ok (.aastore, 1) := by decide +kernel
theorem dX11_walker_67 : decode cX11_walker 67 = .ok (.aload_n 0, 1) := by decide +kernel
theorem dX11_walker_68 : decode cX11_walker 68 = .ok (.dup, 1) := by decide +kernel
theorem dX11_walker_69 : decode cX11_walker 69 = .ok (.getfield 94, 3) := by decide +kernel
theorem dX11_walker_72 : decode cX11_walker 72 = .ok (.iconst 1, 1) := by decide +kernel
theorem dX11_walker_73 : decode cX11_walker 73 = .ok (.iadd, 1) := by decide +kernel
theorem dX11_walker_74 : decode cX11_walker 74 = .ok (.putfield 94, 3) := by decide +kernel
theorem dX11_walker_77 : decode cX11_walker 77 = .ok (.aload_n 0, 1) := by decide +kernel
theorem dX11_walker_78 : decode cX11_walker 78 = .ok (.getfield 94, 3) := by decide +kernel
theorem dX11_walker_81 : decode cX11_walker 81 = .ok (.iconst 1, 1) := by decide +kernel
theorem dX11_walker_82 : decode cX11_walker 82 = .ok (.isub, 1) := by decide +kernel
theorem dX11_walker_83 : decode cX11_walker 83 = .ok (.ireturn, 1) := by decide +kernel
theorem dX11_told_0 : decode cX11_told 0 = .ok (.aload_n 0, 1) := by decide +kernel
theorem dX11_told_1 : decode cX11_told 1 = .ok (.iload_n 1, 1) := by decide +kernel
theorem dX11_told_2 : decode cX11_told 2 = .ok (.invokevirtual 135, 3) := by decide +kernel
theorem dX11_told_5 : decode cX11_told 5 = .ok (.astore_n 3, 1) := by decide +kernel
theorem dX11_told_6 : decode cX11_told 6 = .ok (.aload_n 3, 1) := by decide +kernel
theorem dX11_told_7 : decode cX11_told 7 = .ok (.ifnonnull 6, 3) := by decide +kernel
theorem dX11_told_10 : decode cX11_told 10 = .ok (.bipush (-5), 2) := by decide +kernel
theorem dX11_told_12 : decode cX11_told 12 = .ok (.ireturn, 1) := by decide +kernel
theorem dX11_told_13 : decode cX11_told 13 = .ok (.iload_n 2, 1) := by decide +kernel
theorem dX11_told_14 : decode cX11_told 14 = .ok (.tableswitch 58 0 3 #[30, 35, 40, 45], 30) := by decide +kernel
theorem dX11_told_44 : decode cX11_told 44 = .ok (.aload_n 3, 1) := by decide +kernel
theorem dX11_told_45 : decode cX11_told 45 = .ok (.invokevirtual 154, 3) := by decide +kernel
theorem dX11_told_48 : decode cX11_told 48 = .ok (.ireturn, 1) := by decide +kernel
theorem dX11_told_49 : decode cX11_told 49 = .ok (.aload_n 3, 1) := by decide +kernel
theorem dX11_told_50 : decode cX11_told 50 = .ok (.getfield 157, 3) := by decide +kernel
theorem dX11_told_53 : decode cX11_told 53 = .ok (.ireturn, 1) := by decide +kernel
theorem dX11_told_54 : decode cX11_told 54 = .ok (.aload_n 3, 1) := by decide +kernel
theorem dX11_told_55 : decode cX11_told 55 = .ok (.getfield 151, 3) := by decide +kernel
theorem dX11_told_58 : decode cX11_told 58 = .ok (.ireturn, 1) := by decide +kernel
theorem dX11_told_59 : decode cX11_told 59 = .ok (.aload_n 3, 1) := by decide +kernel
theorem dX11_told_60 : decode cX11_told 60 = .ok (.invokevirtual 160, 3) := by decide +kernel
theorem dX11_told_63 : decode cX11_told 63 = .ok (.ifCond .eq 7, 3) := by decide +kernel
theorem dX11_told_66 : decode cX11_told 66 = .ok (.iconst 1, 1) := by decide +kernel
theorem dX11_told_67 : decode cX11_told 67 = .ok (.goto 4, 3) := by decide +kernel
theorem dX11_told_70 : decode cX11_told 70 = .ok (.iconst 0, 1) := by decide +kernel
theorem dX11_told_71 : decode cX11_told 71 = .ok (.ireturn, 1) := by decide +kernel
theorem dX11_told_72 : decode cX11_told 72 = .ok (.bipush (-7), 2) := by decide +kernel
theorem dX11_told_74 : decode cX11_told 74 = .ok (.ireturn, 1) := by decide +kernel
theorem dX11_run_0 : decode cX11_run 0 = .ok (.iload_n 1, 1) := by decide +kernel
theorem dX11_run_1 : decode cX11_run 1 = .ok (.invokestatic 164, 3) := by decide +kernel
theorem dX11_run_4 : decode cX11_run 4 = .ok (.ifCond .ne 12, 3) := by decide +kernel
theorem dX11_run_7 : decode cX11_run 7 = .ok (.iload_n 2, 1) := by decide +kernel
theorem dX11_run_8 : decode cX11_run 8 = .ok (.ifCond .lt 8, 3) := by decide +kernel
theorem dX11_run_11 : decode cX11_run 11 = .ok (.iload_n 2, 1) := by decide +kernel
theorem dX11_run_12 : decode cX11_run 12 = .ok (.iconst 4, 1) := by decide +kernel
theorem dX11_run_13 : decode cX11_run 13 = .ok (.if_icmp .le 6, 3) := by decide +kernel
theorem dX11_run_16 : decode cX11_run 16 = .ok (.bipush (-2), 2) := by decide +kernel
theorem dX11_run_18 : decode cX11_run 18 = .ok (.ireturn, 1) := by decide +kernel
theorem dX11_run_19 : decode cX11_run 19 = .ok (.aload_n 0, 1) := by decide +kernel
theorem dX11_run_20 : decode cX11_run 20 = .ok (.invokevirtual 167, 3) := by decide +kernel
theorem dX11_run_23 : decode cX11_run 23 = .ok (.aload_n 0, 1) := by decide +kernel
theorem dX11_run_24 : decode cX11_run 24 = .ok (.getfield 48, 3) := by decide +kernel
theorem dX11_run_27 : decode cX11_run 27 = .ok (.iload_n 1, 1) := by decide +kernel
theorem dX11_run_28 : decode cX11_run 28 = .ok (.invokevirtual 170, 3) := by decide +kernel
theorem dX11_run_31 : decode cX11_run 31 = .ok (.iload_n 2, 1) := by decide +kernel
theorem dX11_run_32 : decode cX11_run 32 = .ok (.tableswitch 64 0 3 #[32, 40, 48, 56], 32) := by decide +kernel
theorem dX11_run_64 : decode cX11_run 64 = .ok (.aload_n 0, 1) := by decide +kernel
theorem dX11_run_65 : decode cX11_run 65 = .ok (.getfield 48, 3) := by decide +kernel
theorem dX11_run_68 : decode cX11_run 68 = .ok (.getfield 173, 3) := by decide +kernel
theorem dX11_run_71 : decode cX11_run 71 = .ok (.ireturn, 1) := by decide +kernel
theorem dX11_run_72 : decode cX11_run 72 = .ok (.aload_n 0, 1) := by decide +kernel
theorem dX11_run_73 : decode cX11_run 73 = .ok (.getfield 48, 3) := by decide +kernel
theorem dX11_run_76 : decode cX11_run 76 = .ok (.getfield 176, 3) := by decide +kernel
theorem dX11_run_79 : decode cX11_run 79 = .ok (.ireturn, 1) := by decide +kernel
theorem dX11_run_80 : decode cX11_run 80 = .ok (.aload_n 0, 1) := by decide +kernel
theorem dX11_run_81 : decode cX11_run 81 = .ok (.getfield 48, 3) := by decide +kernel
theorem dX11_run_84 : decode cX11_run 84 = .ok (.getfield 179, 3) := by decide +kernel
theorem dX11_run_87 : decode cX11_run 87 = .ok (.ireturn, 1) := by decide +kernel
theorem dX11_run_88 : decode cX11_run 88 = .ok (.aload_n 0, 1) := by decide +kernel
theorem dX11_run_89 : decode cX11_run 89 = .ok (.getfield 48, 3) := by decide +kernel
theorem dX11_run_92 : decode cX11_run 92 = .ok (.invokevirtual 182, 3) := by decide +kernel
theorem dX11_run_95 : decode cX11_run 95 = .ok (.ireturn, 1) := by decide +kernel
theorem dX11_run_96 : decode cX11_run 96 = .ok (.aload_n 0, 1) := by decide +kernel
theorem dX11_run_97 : decode cX11_run 97 = .ok (.getfield 48, 3) := by decide +kernel
theorem dX11_run_100 : decode cX11_run 100 = .ok (.getfield 185, 3) := by decide +kernel
theorem dX11_run_103 : decode cX11_run 103 = .ok (.ireturn, 1) := by decide +kernel
theorem dX11_one_0 : decode cX11_one 0 = .ok (.aload_n 0, 1) := by decide +kernel
theorem dX11_one_1 : decode cX11_one 1 = .ok (.iload_n 1, 1) := by decide +kernel
theorem dX11_one_2 : decode cX11_one 2 = .ok (.invokevirtual 135, 3) := by decide +kernel
theorem dX11_one_5 : decode cX11_one 5 = .ok (.astore 4, 2) := by decide +kernel
theorem dX11_one_7 : decode cX11_one 7 = .ok (.aload 4, 2) := by decide +kernel
theorem dX11_one_9 : decode cX11_one 9 = .ok (.ifnonnull 6, 3) := by decide +kernel
theorem dX11_one_12 : decode cX11_one 12 = .ok (.bipush (-5), 2) := by decide +kernel
theorem dX11_one_14 : decode cX11_one 14 = .ok (.ireturn, 1) := by decide +kernel
theorem dX11_one_15 : decode cX11_one 15 = .ok (.iload_n 2, 1) := by decide +kernel
theorem dX11_one_16 : decode cX11_one 16 = .ok (.invokestatic 164, 3) := by decide +kernel
theorem dX11_one_19 : decode cX11_one 19 = .ok (.ifCond .ne 12, 3) := by decide +kernel
theorem dX11_one_22 : decode cX11_one 22 = .ok (.iload_n 3, 1) := by decide +kernel
theorem dX11_one_23 : decode cX11_one 23 = .ok (.ifCond .lt 8, 3) := by decide +kernel
theorem dX11_one_26 : decode cX11_one 26 = .ok (.iload_n 3, 1) := by decide +kernel
theorem dX11_one_27 : decode cX11_one 27 = .ok (.iconst 4, 1) := by decide +kernel
theorem dX11_one_28 : decode cX11_one 28 = .ok (.if_icmp .le 6, 3) := by decide +kernel
theorem dX11_one_31 : decode cX11_one 31 = .ok (.bipush (-7), 2) := by decide +kernel
theorem dX11_one_33 : decode cX11_one 33 = .ok (.ireturn, 1) := by decide +kernel
theorem dX11_one_34 : decode cX11_one 34 = .ok (.aload_n 0, 1) := by decide +kernel
theorem dX11_one_35 : decode cX11_one 35 = .ok (.invokevirtual 167, 3) := by decide +kernel
theorem dX11_one_38 : decode cX11_one 38 = .ok (.aload_n 0, 1) := by decide +kernel
theorem dX11_one_39 : decode cX11_one 39 = .ok (.getfield 48, 3) := by decide +kernel
theorem dX11_one_42 : decode cX11_one 42 = .ok (.iload_n 2, 1) := by decide +kernel
theorem dX11_one_43 : decode cX11_one 43 = .ok (.invokevirtual 170, 3) := by decide +kernel
theorem dX11_one_46 : decode cX11_one 46 = .ok (.iload_n 3, 1) := by decide +kernel
theorem dX11_one_47 : decode cX11_one 47 = .ok (.tableswitch 53 0 3 #[29, 35, 41, 47], 29) := by decide +kernel
theorem dX11_one_76 : decode cX11_one 76 = .ok (.aload 4, 2) := by decide +kernel
theorem dX11_one_78 : decode cX11_one 78 = .ok (.getfield 188, 3) := by decide +kernel
theorem dX11_one_81 : decode cX11_one 81 = .ok (.ireturn, 1) := by decide +kernel
theorem dX11_one_82 : decode cX11_one 82 = .ok (.aload 4, 2) := by decide +kernel
theorem dX11_one_84 : decode cX11_one 84 = .ok (.getfield 191, 3) := by decide +kernel
theorem dX11_one_87 : decode cX11_one 87 = .ok (.ireturn, 1) := by decide +kernel
theorem dX11_one_88 : decode cX11_one 88 = .ok (.aload 4, 2) := by decide +kernel
theorem dX11_one_90 : decode cX11_one 90 = .ok (.getfield 194, 3) := by decide +kernel
theorem dX11_one_93 : decode cX11_one 93 = .ok (.ireturn, 1) := by decide +kernel
theorem dX11_one_94 : decode cX11_one 94 = .ok (.aload 4, 2) := by decide +kernel
theorem dX11_one_96 : decode cX11_one 96 = .ok (.getfield 197, 3) := by decide +kernel
theorem dX11_one_99 : decode cX11_one 99 = .ok (.ireturn, 1) := by decide +kernel
theorem dX11_one_100 : decode cX11_one 100 = .ok (.aload 4, 2) := by decide +kernel
theorem dX11_one_102 : decode cX11_one 102 = .ok (.getfield 200, 3) := by decide +kernel
theorem dX11_one_105 : decode cX11_one 105 = .ok (.ireturn, 1) := by decide +kernel
theorem dX11_height_0 : decode cX11_height 0 = .ok (.iload_n 1, 1) := by decide +kernel
theorem dX11_height_1 : decode cX11_height 1 = .ok (.invokestatic 107, 3) := by decide +kernel
theorem dX11_height_4 : decode cX11_height 4 = .ok (.ifCond .eq 6, 3) := by decide +kernel
theorem dX11_height_7 : decode cX11_height 7 = .ok (.bipush (-6), 2) := by decide +kernel
theorem dX11_height_9 : decode cX11_height 9 = .ok (.ireturn, 1) := by decide +kernel
theorem dX11_height_10 : decode cX11_height 10 = .ok (.iload_n 2, 1) := by decide +kernel
theorem dX11_height_11 : decode cX11_height 11 = .ok (.invokestatic 164, 3) := by decide +kernel
theorem dX11_height_14 : decode cX11_height 14 = .ok (.ifCond .ne 12, 3) := by decide +kernel
theorem dX11_height_17 : decode cX11_height 17 = .ok (.iload_n 3, 1) := by decide +kernel
theorem dX11_height_18 : decode cX11_height 18 = .ok (.ifCond .lt 8, 3) := by decide +kernel
theorem dX11_height_21 : decode cX11_height 21 = .ok (.iload_n 3, 1) := by decide +kernel
theorem dX11_height_22 : decode cX11_height 22 = .ok (.iconst 1, 1) := by decide +kernel
theorem dX11_height_23 : decode cX11_height 23 = .ok (.if_icmp .le 6, 3) := by decide +kernel
theorem dX11_height_26 : decode cX11_height 26 = .ok (.bipush (-7), 2) := by decide +kernel
theorem dX11_height_28 : decode cX11_height 28 = .ok (.ireturn, 1) := by decide +kernel
theorem dX11_height_29 : decode cX11_height 29 = .ok (.aload_n 0, 1) := by decide +kernel
theorem dX11_height_30 : decode cX11_height 30 = .ok (.invokevirtual 167, 3) := by decide +kernel
theorem dX11_height_33 : decode cX11_height 33 = .ok (.aload_n 0, 1) := by decide +kernel
theorem dX11_height_34 : decode cX11_height 34 = .ok (.getfield 48, 3) := by decide +kernel
theorem dX11_height_37 : decode cX11_height 37 = .ok (.iload_n 2, 1) := by decide +kernel
theorem dX11_height_38 : decode cX11_height 38 = .ok (.invokevirtual 170, 3) := by decide +kernel
theorem dX11_height_41 : decode cX11_height 41 = .ok (.iload_n 3, 1) := by decide +kernel
theorem dX11_height_42 : decode cX11_height 42 = .ok (.ifCond .ne 17, 3) := by decide +kernel
theorem dX11_height_45 : decode cX11_height 45 = .ok (.aload_n 0, 1) := by decide +kernel
theorem dX11_height_46 : decode cX11_height 46 = .ok (.getfield 48, 3) := by decide +kernel
theorem dX11_height_49 : decode cX11_height 49 = .ok (.iload_n 1, 1) := by decide +kernel
theorem dX11_height_50 : decode cX11_height 50 = .ok (.invokevirtual 203, 3) := by decide +kernel
theorem dX11_height_53 : decode cX11_height 53 = .ok (.getfield 207, 3) := by decide +kernel
theorem dX11_height_56 : decode cX11_height 56 = .ok (.goto 14, 3) := by decide +kernel
theorem dX11_height_59 : decode cX11_height 59 = .ok (.aload_n 0, 1) := by decide +kernel
theorem dX11_height_60 : decode cX11_height 60 = .ok (.getfield 48, 3) := by decide +kernel
theorem dX11_height_63 : decode cX11_height 63 = .ok (.iload_n 1, 1) := by decide +kernel
theorem dX11_height_64 : decode cX11_height 64 = .ok (.invokevirtual 203, 3) := by decide +kernel
theorem dX11_height_67 : decode cX11_height 67 = .ok (.getfield 211, 3) := by decide +kernel
theorem dX11_height_70 : decode cX11_height 70 = .ok (.ireturn, 1) := by decide +kernel
theorem dX11_go_0 : decode cX11_go 0 = .ok (.iload_n 1, 1) := by decide +kernel
theorem dX11_go_1 : decode cX11_go 1 = .ok (.invokestatic 164, 3) := by decide +kernel
theorem dX11_go_4 : decode cX11_go 4 = .ok (.ifCond .eq 6, 3) := by decide +kernel
theorem dX11_go_7 : decode cX11_go 7 = .ok (.bipush (-2), 2) := by decide +kernel
theorem dX11_go_9 : decode cX11_go 9 = .ok (.ireturn, 1) := by decide +kernel
theorem dX11_go_10 : decode cX11_go 10 = .ok (.aload_n 0, 1) := by decide +kernel
theorem dX11_go_11 : decode cX11_go 11 = .ok (.invokevirtual 167, 3) := by decide +kernel
theorem dX11_go_14 : decode cX11_go 14 = .ok (.aload_n 0, 1) := by decide +kernel
theorem dX11_go_15 : decode cX11_go 15 = .ok (.getfield 48, 3) := by decide +kernel
theorem dX11_go_18 : decode cX11_go 18 = .ok (.iload_n 1, 1) := by decide +kernel
theorem dX11_go_19 : decode cX11_go 19 = .ok (.invokevirtual 170, 3) := by decide +kernel
theorem dX11_go_22 : decode cX11_go 22 = .ok (.iconst 0, 1) := by decide +kernel
theorem dX11_go_23 : decode cX11_go 23 = .ok (.istore_n 2, 1) := by decide +kernel
theorem dX11_go_24 : decode cX11_go 24 = .ok (.iload_n 2, 1) := by decide +kernel
theorem dX11_go_25 : decode cX11_go 25 = .ok (.bipush 9, 2) := by decide +kernel
theorem dX11_go_27 : decode cX11_go 27 = .ok (.if_icmp .ge 26, 3) := by decide +kernel
theorem dX11_go_30 : decode cX11_go 30 = .ok (.aload_n 0, 1) := by decide +kernel
theorem dX11_go_31 : decode cX11_go 31 = .ok (.getfield 9, 3) := by decide +kernel
theorem dX11_go_34 : decode cX11_go 34 = .ok (.iload_n 2, 1) := by decide +kernel
theorem dX11_go_35 : decode cX11_go 35 = .ok (.aload_n 0, 1) := by decide +kernel
theorem dX11_go_36 : decode cX11_go 36 = .ok (.getfield 48, 3) := by decide +kernel
theorem dX11_go_39 : decode cX11_go 39 = .ok (.iload_n 2, 1) := by decide +kernel
theorem dX11_go_40 : decode cX11_go 40 = .ok (.invokevirtual 203, 3) := by decide +kernel
theorem dX11_go_43 : decode cX11_go 43 = .ok (.getfield 207, 3) := by decide +kernel
theorem dX11_go_46 : decode cX11_go 46 = .ok (.iastore, 1) := by decide +kernel
theorem dX11_go_47 : decode cX11_go 47 = .ok (.iinc 2 1, 3) := by decide +kernel
theorem dX11_go_50 : decode cX11_go 50 = .ok (.goto (-26), 3) := by decide +kernel
theorem dX11_go_53 : decode cX11_go 53 = .ok (.aload_n 0, 1) := by decide +kernel
theorem dX11_go_54 : decode cX11_go 54 = .ok (.getfield 48, 3) := by decide +kernel
theorem dX11_go_57 : decode cX11_go 57 = .ok (.getfield 173, 3) := by decide +kernel
theorem dX11_go_60 : decode cX11_go 60 = .ok (.ireturn, 1) := by decide +kernel
theorem dX11_best_0 : decode cX11_best 0 = .ok (.iload_n 1, 1) := by decide +kernel
theorem dX11_best_1 : decode cX11_best 1 = .ok (.ifCond .lt 8, 3) := by decide +kernel
theorem dX11_best_4 : decode cX11_best 4 = .ok (.iload_n 1, 1) := by decide +kernel
theorem dX11_best_5 : decode cX11_best 5 = .ok (.iconst 2, 1) := by decide +kernel
theorem dX11_best_6 : decode cX11_best 6 = .ok (.if_icmp .le 6, 3) := by decide +kernel
theorem dX11_best_9 : decode cX11_best 9 = .ok (.bipush (-2), 2) := by decide +kernel
theorem dX11_best_11 : decode cX11_best 11 = .ok (.ireturn, 1) := by decide +kernel
theorem dX11_best_12 : decode cX11_best 12 = .ok (.ldc 220, 2) := by decide +kernel
theorem dX11_best_14 : decode cX11_best 14 = .ok (.istore_n 2, 1) := by decide +kernel
theorem dX11_best_15 : decode cX11_best 15 = .ok (.iconst (-1), 1) := by decide +kernel
theorem dX11_best_16 : decode cX11_best 16 = .ok (.istore_n 3, 1) := by decide +kernel
theorem dX11_best_17 : decode cX11_best 17 = .ok (.iconst 0, 1) := by decide +kernel
theorem dX11_best_18 : decode cX11_best 18 = .ok (.istore 4, 2) := by decide +kernel
theorem dX11_best_20 : decode cX11_best 20 = .ok (.iconst 1, 1) := by decide +kernel
theorem dX11_best_21 : decode cX11_best 21 = .ok (.istore 5, 2) := by decide +kernel
theorem dX11_best_23 : decode cX11_best 23 = .ok (.aload_n 0, 1) := by decide +kernel
theorem dX11_best_24 : decode cX11_best 24 = .ok (.invokevirtual 221, 3) := by decide +kernel
theorem dX11_best_27 : decode cX11_best 27 = .ok (.iconst 0, 1) := by decide +kernel
theorem dX11_best_28 : decode cX11_best 28 = .ok (.istore 6, 2) := by decide +kernel
theorem dX11_best_30 : decode cX11_best 30 = .ok (.iload 6, 2) := by decide +kernel
theorem dX11_best_32 : decode cX11_best 32 = .ok (.bipush 120, 2) := by decide +kernel
theorem dX11_best_34 : decode cX11_best 34 = .ok (.if_icmp .ge 147, 3) := by decide +kernel
theorem dX11_best_37 : decode cX11_best 37 = .ok (.iload 5, 2) := by decide +kernel
theorem dX11_best_39 : decode cX11_best 39 = .ok (.ifCond .eq 142, 3) := by decide +kernel
theorem dX11_best_42 : decode cX11_best 42 = .ok (.aload_n 0, 1) := by decide +kernel
theorem dX11_best_43 : decode cX11_best 43 = .ok (.invokevirtual 224, 3) := by decide +kernel
theorem dX11_best_46 : decode cX11_best 46 = .ok (.iload_n 2, 1) := by decide +kernel
theorem dX11_best_47 : decode cX11_best 47 = .ok (.iconst 1, 1) := by decide +kernel
theorem dX11_best_48 : decode cX11_best 48 = .ok (.iadd, 1) := by decide +kernel
theorem dX11_best_49 : decode cX11_best 49 = .ok (.sipush 600, 3) := by decide +kernel
theorem dX11_best_52 : decode cX11_best 52 = .ok (.invokestatic 227, 3) := by decide +kernel
theorem dX11_best_55 : decode cX11_best 55 = .ok (.istore 7, 2) := by decide +kernel
theorem dX11_best_57 : decode cX11_best 57 = .ok (.aload_n 0, 1) := by decide +kernel
theorem dX11_best_58 : decode cX11_best 58 = .ok (.getfield 48, 3) := by decide +kernel
theorem dX11_best_61 : decode cX11_best 61 = .ok (.iload 7, 2) := by decide +kernel
theorem dX11_best_63 : decode cX11_best 63 = .ok (.invokevirtual 170, 3) := by decide +kernel
theorem dX11_best_66 : decode cX11_best 66 = .ok (.aload_n 0, 1) := by decide +kernel
theorem dX11_best_67 : decode cX11_best 67 = .ok (.getfield 48, 3) := by decide +kernel
theorem dX11_best_70 : decode cX11_best 70 = .ok (.getfield 185, 3) := by decide +kernel
theorem dX11_best_73 : decode cX11_best 73 = .ok (.iconst (-1), 1) := by decide +kernel
theorem dX11_best_74 : decode cX11_best 74 = .ok (.if_icmp .ne 8, 3) := by decide +kernel
theorem dX11_best_77 : decode cX11_best 77 = .ok (.ldc 220, 2) := by decide +kernel
theorem dX11_best_79 : decode cX11_best 79 = .ok (.goto 10, 3) := by decide +kernel
theorem dX11_best_82 : decode cX11_best 82 = .ok (.aload_n 0, 1) := by decide +kernel
theorem dX11_best_83 : decode cX11_best 83 = .ok (.getfield 48, 3) := by decide +kernel
theorem dX11_best_86 : decode cX11_best 86 = .ok (.getfield 185, 3) := by decide +kernel
theorem dX11_best_89 : decode cX11_best 89 = .ok (.istore 8, 2) := by decide +kernel
theorem dX11_best_91 : decode cX11_best 91 = .ok (.iload 8, 2) := by decide +kernel
theorem dX11_best_93 : decode cX11_best 93 = .ok (.iload_n 2, 1) := by decide +kernel
theorem dX11_best_94 : decode cX11_best 94 = .ok (.if_icmp .gt 75, 3) := by decide +kernel
theorem dX11_best_97 : decode cX11_best 97 = .ok (.aload_n 0, 1) := by decide +kernel
theorem dX11_best_98 : decode cX11_best 98 = .ok (.getfield 48, 3) := by decide +kernel
theorem dX11_best_101 : decode cX11_best 101 = .ok (.sipush 600, 3) := by decide +kernel
theorem dX11_best_104 : decode cX11_best 104 = .ok (.iload 7, 2) := by decide +kernel
theorem dX11_best_106 : decode cX11_best 106 = .ok (.isub, 1) := by decide +kernel
theorem dX11_best_107 : decode cX11_best 107 = .ok (.invokevirtual 170, 3) := by decide +kernel
theorem dX11_best_110 : decode cX11_best 110 = .ok (.aload_n 0, 1) := by decide +kernel
theorem dX11_best_111 : decode cX11_best 111 = .ok (.getfield 48, 3) := by decide +kernel
theorem dX11_best_114 : decode cX11_best 114 = .ok (.getfield 185, 3) := by decide +kernel
theorem dX11_best_117 : decode cX11_best 117 = .ok (.iconst (-1), 1) := by decide +kernel
theorem dX11_best_118 : decode cX11_best 118 = .ok (.if_icmp .ne 8, 3) := by decide +kernel
theorem dX11_best_121 : decode cX11_best 121 = .ok (.ldc 220, 2) := by decide +kernel
theorem dX11_best_123 : decode cX11_best 123 = .ok (.goto 10, 3) := by decide +kernel
theorem dX11_best_126 : decode cX11_best 126 = .ok (.aload_n 0, 1) := by decide +kernel
theorem dX11_best_127 : decode cX11_best 127 = .ok (.getfield 48, 3) := by decide +kernel
theorem dX11_best_130 : decode cX11_best 130 = .ok (.getfield 185, 3) := by decide +kernel
theorem dX11_best_133 : decode cX11_best 133 = .ok (.istore 8, 2) := by decide +kernel
theorem dX11_best_135 : decode cX11_best 135 = .ok (.iload 8, 2) := by decide +kernel
theorem dX11_best_137 : decode cX11_best 137 = .ok (.iload_n 2, 1) := by decide +kernel
theorem dX11_best_138 : decode cX11_best 138 = .ok (.if_icmp .lt 14, 3) := by decide +kernel
theorem dX11_best_141 : decode cX11_best 141 = .ok (.aload_n 0, 1) := by decide +kernel
theorem dX11_best_142 : decode cX11_best 142 = .ok (.getfield 48, 3) := by decide +kernel
theorem dX11_best_145 : decode cX11_best 145 = .ok (.getfield 173, 3) := by decide +kernel
theorem dX11_best_148 : decode cX11_best 148 = .ok (.iload_n 3, 1) := by decide +kernel
theorem dX11_best_149 : decode cX11_best 149 = .ok (.if_icmp .le 20, 3) := by decide +kernel
theorem dX11_best_152 : decode cX11_best 152 = .ok (.iload 8, 2) := by decide +kernel
theorem dX11_best_154 : decode cX11_best 154 = .ok (.istore_n 2, 1) := by decide +kernel
theorem dX11_best_155 : decode cX11_best 155 = .ok (.aload_n 0, 1) := by decide +kernel
theorem dX11_best_156 : decode cX11_best 156 = .ok (.getfield 48, 3) := by decide +kernel
theorem dX11_best_159 : decode cX11_best 159 = .ok (.getfield 173, 3) := by decide +kernel
theorem dX11_best_162 : decode cX11_best 162 = .ok (.istore_n 3, 1) := by decide +kernel
theorem dX11_best_163 : decode cX11_best 163 = .ok (.aload_n 0, 1) := by decide +kernel
theorem dX11_best_164 : decode cX11_best 164 = .ok (.invokevirtual 230, 3) := by decide +kernel
theorem dX11_best_167 : decode cX11_best 167 = .ok (.istore 4, 2) := by decide +kernel
theorem dX11_best_169 : decode cX11_best 169 = .ok (.aload_n 0, 1) := by decide +kernel
theorem dX11_best_170 : decode cX11_best 170 = .ok (.invokevirtual 233, 3) := by decide +kernel
theorem dX11_best_173 : decode cX11_best 173 = .ok (.istore 5, 2) := by decide +kernel
theorem dX11_best_175 : decode cX11_best 175 = .ok (.iinc 6 1, 3) := by decide +kernel
theorem dX11_best_178 : decode cX11_best 178 = .ok (.goto (-148), 3) := by decide +kernel
theorem dX11_best_181 : decode cX11_best 181 = .ok (.iload_n 1, 1) := by decide +kernel
theorem dX11_best_182 : decode cX11_best 182 = .ok (.ifCond .ne 15, 3) := by decide +kernel
theorem dX11_best_185 : decode cX11_best 185 = .ok (.iload_n 2, 1) := by decide +kernel
theorem dX11_best_186 : decode cX11_best 186 = .ok (.ldc 220, 2) := by decide +kernel
theorem dX11_best_188 : decode cX11_best 188 = .ok (.if_icmp .ne 7, 3) := by decide +kernel
theorem dX11_best_191 : decode cX11_best 191 = .ok (.iconst (-1), 1) := by decide +kernel
theorem dX11_best_192 : decode cX11_best 192 = .ok (.goto 4, 3) := by decide +kernel
theorem dX11_best_195 : decode cX11_best 195 = .ok (.iload_n 2, 1) := by decide +kernel
theorem dX11_best_196 : decode cX11_best 196 = .ok (.ireturn, 1) := by decide +kernel
theorem dX11_best_197 : decode cX11_best 197 = .ok (.iload_n 1, 1) := by decide +kernel
theorem dX11_best_198 : decode cX11_best 198 = .ok (.iconst 1, 1) := by decide +kernel
theorem dX11_best_199 : decode cX11_best 199 = .ok (.if_icmp .ne 7, 3) := by decide +kernel
theorem dX11_best_202 : decode cX11_best 202 = .ok (.iload_n 3, 1) := by decide +kernel
theorem dX11_best_203 : decode cX11_best 203 = .ok (.goto 5, 3) := by decide +kernel
theorem dX11_best_206 : decode cX11_best 206 = .ok (.iload 4, 2) := by decide +kernel
theorem dX11_best_208 : decode cX11_best 208 = .ok (.ireturn, 1) := by decide +kernel
theorem dX11_start_0 : decode cX11_start 0 = .ok (.aload_n 0, 1) := by decide +kernel
theorem dX11_start_1 : decode cX11_start 1 = .ok (.iload_n 1, 1) := by decide +kernel
theorem dX11_start_2 : decode cX11_start 2 = .ok (.invokevirtual 135, 3) := by decide +kernel
theorem dX11_start_5 : decode cX11_start 5 = .ok (.astore_n 3, 1) := by decide +kernel
theorem dX11_start_6 : decode cX11_start 6 = .ok (.aload_n 3, 1) := by decide +kernel
theorem dX11_start_7 : decode cX11_start 7 = .ok (.ifnonnull 6, 3) := by decide +kernel
theorem dX11_start_10 : decode cX11_start 10 = .ok (.bipush (-5), 2) := by decide +kernel
theorem dX11_start_12 : decode cX11_start 12 = .ok (.ireturn, 1) := by decide +kernel
theorem dX11_start_13 : decode cX11_start 13 = .ok (.iload_n 2, 1) := by decide +kernel
theorem dX11_start_14 : decode cX11_start 14 = .ok (.ifCond .lt 8, 3) := by decide +kernel
theorem dX11_start_17 : decode cX11_start 17 = .ok (.iload_n 2, 1) := by decide +kernel
theorem dX11_start_18 : decode cX11_start 18 = .ok (.iconst 1, 1) := by decide +kernel
theorem dX11_start_19 : decode cX11_start 19 = .ok (.if_icmp .le 6, 3) := by decide +kernel
theorem dX11_start_22 : decode cX11_start 22 = .ok (.bipush (-7), 2) := by decide +kernel
theorem dX11_start_24 : decode cX11_start 24 = .ok (.ireturn, 1) := by decide +kernel
theorem dX11_start_25 : decode cX11_start 25 = .ok (.iconst (-1), 1) := by decide +kernel
theorem dX11_start_26 : decode cX11_start 26 = .ok (.istore 4, 2) := by decide +kernel
theorem dX11_start_28 : decode cX11_start 28 = .ok (.iconst (-1), 1) := by decide +kernel
theorem dX11_start_29 : decode cX11_start 29 = .ok (.istore 5, 2) := by decide +kernel
theorem dX11_start_31 : decode cX11_start 31 = .ok (.iconst 0, 1) := by decide +kernel
theorem dX11_start_32 : decode cX11_start 32 = .ok (.istore 6, 2) := by decide +kernel
theorem dX11_start_34 : decode cX11_start 34 = .ok (.iload 6, 2) := by decide +kernel
theorem dX11_start_36 : decode cX11_start 36 = .ok (.bipush 9, 2) := by decide +kernel
theorem dX11_start_38 : decode cX11_start 38 = .ok (.if_icmp .ge 54, 3) := by decide +kernel
theorem dX11_start_41 : decode cX11_start 41 = .ok (.aload_n 0, 1) := by decide +kernel
theorem dX11_start_42 : decode cX11_start 42 = .ok (.invokevirtual 167, 3) := by decide +kernel
theorem dX11_start_45 : decode cX11_start 45 = .ok (.aload_n 3, 1) := by decide +kernel
theorem dX11_start_46 : decode cX11_start 46 = .ok (.iload 6, 2) := by decide +kernel
theorem dX11_start_48 : decode cX11_start 48 = .ok (.putfield 188, 3) := by decide +kernel
theorem dX11_start_51 : decode cX11_start 51 = .ok (.aload_n 0, 1) := by decide +kernel
theorem dX11_start_52 : decode cX11_start 52 = .ok (.getfield 48, 3) := by decide +kernel
theorem dX11_start_55 : decode cX11_start 55 = .ok (.sipush 600, 3) := by decide +kernel
theorem dX11_start_58 : decode cX11_start 58 = .ok (.invokevirtual 170, 3) := by decide +kernel
theorem dX11_start_61 : decode cX11_start 61 = .ok (.aload_n 0, 1) := by decide +kernel
theorem dX11_start_62 : decode cX11_start 62 = .ok (.getfield 48, 3) := by decide +kernel
theorem dX11_start_65 : decode cX11_start 65 = .ok (.getfield 173, 3) := by decide +kernel
theorem dX11_start_68 : decode cX11_start 68 = .ok (.iload 5, 2) := by decide +kernel
theorem dX11_start_70 : decode cX11_start 70 = .ok (.if_icmp .le 16, 3) := by decide +kernel
theorem dX11_start_73 : decode cX11_start 73 = .ok (.iload 6, 2) := by decide +kernel
theorem dX11_start_75 : decode cX11_start 75 = .ok (.istore 4, 2) := by decide +kernel
theorem dX11_start_77 : decode cX11_start 77 = .ok (.aload_n 0, 1) := by decide +kernel
theorem dX11_start_78 : decode cX11_start 78 = .ok (.getfield 48, 3) := by decide +kernel
theorem dX11_start_81 : decode cX11_start 81 = .ok (.getfield 173, 3) := by decide +kernel
theorem dX11_start_84 : decode cX11_start 84 = .ok (.istore 5, 2) := by decide +kernel
theorem dX11_start_86 : decode cX11_start 86 = .ok (.iinc 6 1, 3) := by decide +kernel
theorem dX11_start_89 : decode cX11_start 89 = .ok (.goto (-55), 3) := by decide +kernel
theorem dX11_start_92 : decode cX11_start 92 = .ok (.iload_n 2, 1) := by decide +kernel
theorem dX11_start_93 : decode cX11_start 93 = .ok (.ifCond .ne 8, 3) := by decide +kernel
theorem dX11_start_96 : decode cX11_start 96 = .ok (.iload 4, 2) := by decide +kernel
theorem dX11_start_98 : decode cX11_start 98 = .ok (.goto 5, 3) := by decide +kernel
theorem dX11_start_101 : decode cX11_start 101 = .ok (.iload 5, 2) := by decide +kernel
theorem dX11_start_103 : decode cX11_start 103 = .ok (.ireturn, 1) := by decide +kernel
theorem dX11_layByOrder_0 : decode cX11_layByOrder 0 = .ok (.aload_n 0, 1) := by decide +kernel
theorem dX11_layByOrder_1 : decode cX11_layByOrder 1 = .ok (.invokevirtual 243, 3) := by decide +kernel
theorem dX11_layByOrder_4 : decode cX11_layByOrder 4 = .ok (.iconst 0, 1) := by decide +kernel
theorem dX11_layByOrder_5 : decode cX11_layByOrder 5 = .ok (.istore_n 1, 1) := by decide +kernel
theorem dX11_layByOrder_6 : decode cX11_layByOrder 6 = .ok (.iload_n 1, 1) := by decide +kernel
theorem dX11_layByOrder_7 : decode cX11_layByOrder 7 = .ok (.aload_n 0, 1) := by decide +kernel
theorem dX11_layByOrder_8 : decode cX11_layByOrder 8 = .ok (.getfield 94, 3) := by decide +kernel
theorem dX11_layByOrder_11 : decode cX11_layByOrder 11 = .ok (.if_icmp .ge 31, 3) := by decide +kernel
theorem dX11_layByOrder_14 : decode cX11_layByOrder 14 = .ok (.iload_n 1, 1) := by decide +kernel
theorem dX11_layByOrder_15 : decode cX11_layByOrder 15 = .ok (.iconst 5, 1) := by decide +kernel
theorem dX11_layByOrder_16 : decode cX11_layByOrder 16 = .ok (.if_icmp .ge 26, 3) := by decide +kernel
theorem dX11_layByOrder_19 : decode cX11_layByOrder 19 = .ok (.aload_n 0, 1) := by decide +kernel
theorem dX11_layByOrder_20 : decode cX11_layByOrder 20 = .ok (.getfield 48, 3) := by decide +kernel
theorem dX11_layByOrder_23 : decode cX11_layByOrder 23 = .ok (.aload_n 0, 1) := by decide +kernel
theorem dX11_layByOrder_24 : decode cX11_layByOrder 24 = .ok (.aload_n 0, 1) := by decide +kernel
theorem dX11_layByOrder_25 : decode cX11_layByOrder 25 = .ok (.getfield 52, 3) := by decide +kernel
theorem dX11_layByOrder_28 : decode cX11_layByOrder 28 = .ok (.iload_n 1, 1) := by decide +kernel
theorem dX11_layByOrder_29 : decode cX11_layByOrder 29 = .ok (.iaload, 1) := by decide +kernel
theorem dX11_layByOrder_30 : decode cX11_layByOrder 30 = .ok (.invokevirtual 135, 3) := by decide +kernel
theorem dX11_layByOrder_33 : decode cX11_layByOrder 33 = .ok (.invokevirtual 246, 3) := by decide +kernel
theorem dX11_layByOrder_36 : decode cX11_layByOrder 36 = .ok (.iinc 1 1, 3) := by decide +kernel
theorem dX11_layByOrder_39 : decode cX11_layByOrder 39 = .ok (.goto (-33), 3) := by decide +kernel
theorem dX11_layByOrder_42 : decode cX11_layByOrder 42 = .ok (.return_, 1) := by decide +kernel
theorem dX11_orderByNumbers_0 : decode cX11_orderByNumbers 0 = .ok (.iconst 0, 1) := by decide +kernel
theorem dX11_orderByNumbers_1 : decode cX11_orderByNumbers 1 = .ok (.istore_n 1, 1) := by decide +kernel
theorem dX11_orderByNumbers_2 : decode cX11_orderByNumbers 2 = .ok (.iload_n 1, 1) := by decide +kernel
theorem dX11_orderByNumbers_3 : decode cX11_orderByNumbers 3 = .ok (.iconst 5, 1) := by decide +kernel
theorem dX11_orderByNumbers_4 : decode cX11_orderByNumbers 4 = .ok (.if_icmp .ge 16, 3) := by decide +kernel
theorem dX11_orderByNumbers_7 : decode cX11_orderByNumbers 7 = .ok (.aload_n 0, 1) := by decide +kernel
theorem dX11_orderByNumbers_8 : decode cX11_orderByNumbers 8 = .ok (.getfield 52, 3) := by decide +kernel
theorem dX11_orderByNumbers_11 : decode cX11_orderByNumbers 11 = .ok (.iload_n 1, 1) := by decide +kernel
theorem dX11_orderByNumbers_12 : decode cX11_orderByNumbers 12 = .ok (.iload_n 1, 1) := by decide +kernel
theorem dX11_orderByNumbers_13 : decode cX11_orderByNumbers 13 = .ok (.iastore, 1) := by decide +kernel
theorem dX11_orderByNumbers_14 : decode cX11_orderByNumbers 14 = .ok (.iinc 1 1, 3) := by decide +kernel
theorem dX11_orderByNumbers_17 : decode cX11_orderByNumbers 17 = .ok (.goto (-15), 3) := by decide +kernel
theorem dX11_orderByNumbers_20 : decode cX11_orderByNumbers 20 = .ok (.return_, 1) := by decide +kernel
theorem dX11_orderAsDigits_0 : decode cX11_orderAsDigits 0 = .ok (.iconst 0, 1) := by decide +kernel
theorem dX11_orderAsDigits_1 : decode cX11_orderAsDigits 1 = .ok (.istore_n 1, 1) := by decide +kernel
theorem dX11_orderAsDigits_2 : decode cX11_orderAsDigits 2 = .ok (.iconst 0, 1) := by decide +kernel
theorem dX11_orderAsDigits_3 : decode cX11_orderAsDigits 3 = .ok (.istore_n 2, 1) := by decide +kernel
theorem dX11_orderAsDigits_4 : decode cX11_orderAsDigits 4 = .ok (.iload_n 2, 1) := by decide +kernel
theorem dX11_orderAsDigits_5 : decode cX11_orderAsDigits 5 = .ok (.aload_n 0, 1) := by decide +kernel
theorem dX11_orderAsDigits_6 : decode cX11_orderAsDigits 6 = .ok (.getfield 94, 3) := by decide +kernel
theorem dX11_orderAsDigits_9 : decode cX11_orderAsDigits 9 = .ok (.if_icmp .ge 28, 3) := by decide +kernel
theorem dX11_orderAsDigits_12 : decode cX11_orderAsDigits 12 = .ok (.iload_n 2, 1) := by decide +kernel
theorem dX11_orderAsDigits_13 : decode cX11_orderAsDigits 13 = .ok (.iconst 5, 1) := by decide +kernel
theorem dX11_orderAsDigits_14 : decode cX11_orderAsDigits 14 = .ok (.if_icmp .ge 23, 3) := by decide +kernel
theorem dX11_orderAsDigits_17 : decode cX11_orderAsDigits 17 = .ok (.iload_n 1, 1) := by decide +kernel
theorem dX11_orderAsDigits_18 : decode cX11_orderAsDigits 18 = .ok (.bipush 10, 2) := by decide +kernel
theorem dX11_orderAsDigits_20 : decode cX11_orderAsDigits 20 = .ok (.imul, 1) := by decide +kernel
theorem dX11_orderAsDigits_21 : decode cX11_orderAsDigits 21 = .ok (.aload_n 0, 1) := by decide +kernel
theorem dX11_orderAsDigits_22 : decode cX11_orderAsDigits 22 = .ok (.getfield 52, 3) := by decide +kernel
theorem dX11_orderAsDigits_25 : decode cX11_orderAsDigits 25 = .ok (.iload_n 2, 1) := by decide +kernel
theorem dX11_orderAsDigits_26 : decode cX11_orderAsDigits 26 = .ok (.iaload, 1) := by decide +kernel
theorem dX11_orderAsDigits_27 : decode cX11_orderAsDigits 27 = .ok (.iadd, 1) := by decide +kernel
theorem dX11_orderAsDigits_28 : decode cX11_orderAsDigits 28 = .ok (.iconst 1, 1) := by decide +kernel
theorem dX11_orderAsDigits_29 : decode cX11_orderAsDigits 29 = .ok (.iadd, 1) := by decide +kernel
theorem dX11_orderAsDigits_30 : decode cX11_orderAsDigits 30 = .ok (.istore_n 1, 1) := by decide +kernel
theorem dX11_orderAsDigits_31 : decode cX11_orderAsDigits 31 = .ok (.iinc 2 1, 3) := by decide +kernel
theorem dX11_orderAsDigits_34 : decode cX11_orderAsDigits 34 = .ok (.goto (-30), 3) := by decide +kernel
theorem dX11_orderAsDigits_37 : decode cX11_orderAsDigits 37 = .ok (.iload_n 1, 1) := by decide +kernel
theorem dX11_orderAsDigits_38 : decode cX11_orderAsDigits 38 = .ok (.ireturn, 1) := by decide +kernel
theorem dX11_nextOrder_0 : decode cX11_nextOrder 0 = .ok (.aload_n 0, 1) := by decide +kernel
theorem dX11_nextOrder_1 : decode cX11_nextOrder 1 = .ok (.getfield 94, 3) := by decide +kernel
theorem dX11_nextOrder_4 : decode cX11_nextOrder 4 = .ok (.iconst 5, 1) := by decide +kernel
theorem dX11_nextOrder_5 : decode cX11_nextOrder 5 = .ok (.invokestatic 227, 3) := by decide +kernel
theorem dX11_nextOrder_8 : decode cX11_nextOrder 8 = .ok (.iconst 1, 1) := by decide +kernel
theorem dX11_nextOrder_9 : decode cX11_nextOrder 9 = .ok (.isub, 1) := by decide +kernel
theorem dX11_nextOrder_10 : decode cX11_nextOrder 10 = .ok (.istore_n 1, 1) := by decide +kernel
theorem dX11_nextOrder_11 : decode cX11_nextOrder 11 = .ok (.iload_n 1, 1) := by decide +kernel
theorem dX11_nextOrder_12 : decode cX11_nextOrder 12 = .ok (.iconst 1, 1) := by decide +kernel
theorem dX11_nextOrder_13 : decode cX11_nextOrder 13 = .ok (.isub, 1) := by decide +kernel
theorem dX11_nextOrder_14 : decode cX11_nextOrder 14 = .ok (.istore_n 2, 1) := by decide +kernel
theorem dX11_nextOrder_15 : decode cX11_nextOrder 15 = .ok (.iload_n 2, 1) := by decide +kernel
theorem dX11_nextOrder_16 : decode cX11_nextOrder 16 = .ok (.ifCond .lt 29, 3) := by decide +kernel
theorem dX11_nextOrder_19 : decode cX11_nextOrder 19 = .ok (.aload_n 0, 1) := by decide +kernel
theorem dX11_nextOrder_20 : decode cX11_nextOrder 20 = .ok (.getfield 52, 3) := by decide +kernel
theorem dX11_nextOrder_23 : decode cX11_nextOrder 23 = .ok (.iload_n 2, 1) := by decide +kernel
theorem dX11_nextOrder_24 : decode cX11_nextOrder 24 = .ok (.iaload, 1) := by decide +kernel
theorem dX11_nextOrder_25 : decode cX11_nextOrder 25 = .ok (.aload_n 0, 1) := by decide +kernel
theorem dX11_nextOrder_26 : decode cX11_nextOrder 26 = .ok (.getfield 52, 3) := by decide +kernel
theorem dX11_nextOrder_29 : decode cX11_nextOrder 29 = .ok (.iload_n 2, 1) := by decide +kernel
theorem dX11_nextOrder_30 : decode cX11_nextOrder 30 = .ok (.iconst 1, 1) := by decide +kernel
theorem dX11_nextOrder_31 : decode cX11_nextOrder 31 = .ok (.iadd, 1) := by decide +kernel
theorem dX11_nextOrder_32 : decode cX11_nextOrder 32 = .ok (.iaload, 1) := by decide +kernel
theorem dX11_nextOrder_33 : decode cX11_nextOrder 33 = .ok (.if_icmp .ge 6, 3) := by decide +kernel
theorem dX11_nextOrder_36 : decode cX11_nextOrder 36 = .ok (.goto 9, 3) := by decide +kernel
theorem dX11_nextOrder_39 : decode cX11_nextOrder 39 = .ok (.iinc 2 (-1), 3) := by decide +kernel
theorem dX11_nextOrder_42 : decode cX11_nextOrder 42 = .ok (.goto (-27), 3) := by decide +kernel
theorem dX11_nextOrder_45 : decode cX11_nextOrder 45 = .ok (.iload_n 2, 1) := by decide +kernel
theorem dX11_nextOrder_46 : decode cX11_nextOrder 46 = .ok (.ifCond .ge 5, 3) := by decide +kernel
theorem dX11_nextOrder_49 : decode cX11_nextOrder 49 = .ok (.iconst 0, 1) := by decide +kernel
theorem dX11_nextOrder_50 : decode cX11_nextOrder 50 = .ok (.ireturn, 1) := by decide +kernel
theorem dX11_nextOrder_51 : decode cX11_nextOrder 51 = .ok (.iload_n 1, 1) := by decide +kernel
theorem dX11_nextOrder_52 : decode cX11_nextOrder 52 = .ok (.istore_n 3, 1) := by decide +kernel
theorem dX11_nextOrder_53 : decode cX11_nextOrder 53 = .ok (.iload_n 3, 1) := by decide +kernel
theorem dX11_nextOrder_54 : decode cX11_nextOrder 54 = .ok (.iload_n 2, 1) := by decide +kernel
theorem dX11_nextOrder_55 : decode cX11_nextOrder 55 = .ok (.iconst 1, 1) := by decide +kernel
theorem dX11_nextOrder_56 : decode cX11_nextOrder 56 = .ok (.iadd, 1) := by decide +kernel
theorem dX11_nextOrder_57 : decode cX11_nextOrder 57 = .ok (.if_icmp .le 27, 3) := by decide +kernel
theorem dX11_nextOrder_60 : decode cX11_nextOrder 60 = .ok (.aload_n 0, 1) := by decide +kernel
theorem dX11_nextOrder_61 : decode cX11_nextOrder 61 = .ok (.getfield 52, 3) := by decide +kernel
theorem dX11_nextOrder_64 : decode cX11_nextOrder 64 = .ok (.iload_n 3, 1) := by decide +kernel
theorem dX11_nextOrder_65 : decode cX11_nextOrder 65 = .ok (.iaload, 1) := by decide +kernel
theorem dX11_nextOrder_66 : decode cX11_nextOrder 66 = .ok (.aload_n 0, 1) := by decide +kernel
theorem dX11_nextOrder_67 : decode cX11_nextOrder 67 = .ok (.getfield 52, 3) := by decide +kernel
theorem dX11_nextOrder_70 : decode cX11_nextOrder 70 = .ok (.iload_n 2, 1) := by decide +kernel
theorem dX11_nextOrder_71 : decode cX11_nextOrder 71 = .ok (.iaload, 1) := by decide +kernel
theorem dX11_nextOrder_72 : decode cX11_nextOrder 72 = .ok (.if_icmp .le 6, 3) := by decide +kernel
theorem dX11_nextOrder_75 : decode cX11_nextOrder 75 = .ok (.goto 9, 3) := by decide +kernel
theorem dX11_nextOrder_78 : decode cX11_nextOrder 78 = .ok (.iinc 3 (-1), 3) := by decide +kernel
theorem dX11_nextOrder_81 : decode cX11_nextOrder 81 = .ok (.goto (-28), 3) := by decide +kernel
theorem dX11_nextOrder_84 : decode cX11_nextOrder 84 = .ok (.aload_n 0, 1) := by decide +kernel
theorem dX11_nextOrder_85 : decode cX11_nextOrder 85 = .ok (.iload_n 2, 1) := by decide +kernel
theorem dX11_nextOrder_86 : decode cX11_nextOrder 86 = .ok (.iload_n 3, 1) := by decide +kernel
theorem dX11_nextOrder_87 : decode cX11_nextOrder 87 = .ok (.invokevirtual 250, 3) := by decide +kernel
theorem dX11_nextOrder_90 : decode cX11_nextOrder 90 = .ok (.iload_n 2, 1) := by decide +kernel
theorem dX11_nextOrder_91 : decode cX11_nextOrder 91 = .ok (.iconst 1, 1) := by decide +kernel
theorem dX11_nextOrder_92 : decode cX11_nextOrder 92 = .ok (.iadd, 1) := by decide +kernel
theorem dX11_nextOrder_93 : decode cX11_nextOrder 93 = .ok (.istore 4, 2) := by decide +kernel
theorem dX11_nextOrder_95 : decode cX11_nextOrder 95 = .ok (.iload_n 1, 1) := by decide +kernel
theorem dX11_nextOrder_96 : decode cX11_nextOrder 96 = .ok (.istore 5, 2) := by decide +kernel
theorem dX11_nextOrder_98 : decode cX11_nextOrder 98 = .ok (.iload 4, 2) := by decide +kernel
theorem dX11_nextOrder_100 : decode cX11_nextOrder 100 = .ok (.iload 5, 2) := by decide +kernel
theorem dX11_nextOrder_102 : decode cX11_nextOrder 102 = .ok (.if_icmp .ge 20, 3) := by decide +kernel
theorem dX11_nextOrder_105 : decode cX11_nextOrder 105 = .ok (.aload_n 0, 1) := by decide +kernel
theorem dX11_nextOrder_106 : decode cX11_nextOrder 106 = .ok (.iload 4, 2) := by decide +kernel
theorem dX11_nextOrder_108 : decode cX11_nextOrder 108 = .ok (.iload 5, 2) := by decide +kernel
theorem dX11_nextOrder_110 : decode cX11_nextOrder 110 = .ok (.invokevirtual 250, 3) := by decide +kernel
theorem dX11_nextOrder_113 : decode cX11_nextOrder 113 = .ok (.iinc 4 1, 3) := by decide +kernel
theorem dX11_nextOrder_116 : decode cX11_nextOrder 116 = .ok (.iinc 5 (-1), 3) := by decide +kernel
theorem dX11_nextOrder_119 : decode cX11_nextOrder 119 = .ok (.goto (-21), 3) := by decide +kernel
theorem dX11_nextOrder_122 : decode cX11_nextOrder 122 = .ok (.iconst 1, 1) := by decide +kernel
theorem dX11_nextOrder_123 : decode cX11_nextOrder 123 = .ok (.ireturn, 1) := by decide +kernel
theorem dX11_swapInOrder_0 : decode cX11_swapInOrder 0 = .ok (.iload_n 1, 1) := by decide +kernel
theorem dX11_swapInOrder_1 : decode cX11_swapInOrder 1 = .ok (.ifCond .lt 43, 3) := by decide +kernel
theorem dX11_swapInOrder_4 : decode cX11_swapInOrder 4 = .ok (.iload_n 1, 1) := by decide +kernel
theorem dX11_swapInOrder_5 : decode cX11_swapInOrder 5 = .ok (.iconst 5, 1) := by decide +kernel
theorem dX11_swapInOrder_6 : decode cX11_swapInOrder 6 = .ok (.if_icmp .ge 38, 3) := by decide +kernel
theorem dX11_swapInOrder_9 : decode cX11_swapInOrder 9 = .ok (.iload_n 2, 1) := by decide +kernel
theorem dX11_swapInOrder_10 : decode cX11_swapInOrder 10 = .ok (.ifCond .lt 34, 3) := by decide +kernel
theorem dX11_swapInOrder_13 : decode cX11_swapInOrder 13 = .ok (.iload_n 2, 1) := by decide +kernel
theorem dX11_swapInOrder_14 : decode cX11_swapInOrder 14 = .ok (.iconst 5, 1) := by decide +kernel
theorem dX11_swapInOrder_15 : decode cX11_swapInOrder 15 = .ok (.if_icmp .ge 29, 3) := by decide +kernel
theorem dX11_swapInOrder_18 : decode cX11_swapInOrder 18 = .ok (.aload_n 0, 1) := by decide +kernel
theorem dX11_swapInOrder_19 : decode cX11_swapInOrder 19 = .ok (.getfield 52, 3) := by decide +kernel
theorem dX11_swapInOrder_22 : decode cX11_swapInOrder 22 = .ok (.iload_n 1, 1) := by decide +kernel
theorem dX11_swapInOrder_23 : decode cX11_swapInOrder 23 = .ok (.iaload, 1) := by decide +kernel
theorem dX11_swapInOrder_24 : decode cX11_swapInOrder 24 = .ok (.istore_n 3, 1) := by decide +kernel
theorem dX11_swapInOrder_25 : decode cX11_swapInOrder 25 = .ok (.aload_n 0, 1) := by decide +kernel
theorem dX11_swapInOrder_26 : decode cX11_swapInOrder 26 = .ok (.getfield 52, 3) := by decide +kernel
theorem dX11_swapInOrder_29 : decode cX11_swapInOrder 29 = .ok (.iload_n 1, 1) := by decide +kernel
theorem dX11_swapInOrder_30 : decode cX11_swapInOrder 30 = .ok (.aload_n 0, 1) := by decide +kernel
theorem dX11_swapInOrder_31 : decode cX11_swapInOrder 31 = .ok (.getfield 52, 3) := by decide +kernel
theorem dX11_swapInOrder_34 : decode cX11_swapInOrder 34 = .ok (.iload_n 2, 1) := by decide +kernel
theorem dX11_swapInOrder_35 : decode cX11_swapInOrder 35 = .ok (.iaload, 1) := by decide +kernel
theorem dX11_swapInOrder_36 : decode cX11_swapInOrder 36 = .ok (.iastore, 1) := by decide +kernel
theorem dX11_swapInOrder_37 : decode cX11_swapInOrder 37 = .ok (.aload_n 0, 1) := by decide +kernel
theorem dX11_swapInOrder_38 : decode cX11_swapInOrder 38 = .ok (.getfield 52, 3) := by decide +kernel
theorem dX11_swapInOrder_41 : decode cX11_swapInOrder 41 = .ok (.iload_n 2, 1) := by decide +kernel
theorem dX11_swapInOrder_42 : decode cX11_swapInOrder 42 = .ok (.iload_n 3, 1) := by decide +kernel
theorem dX11_swapInOrder_43 : decode cX11_swapInOrder 43 = .ok (.iastore, 1) := by decide +kernel
theorem dX11_swapInOrder_44 : decode cX11_swapInOrder 44 = .ok (.return_, 1) := by decide +kernel
theorem dX11_judge_0 : decode cX11_judge 0 = .ok (.aload_n 0, 1) := by decide +kernel
