theorem dX12_heap_1 : decode cX12_heap 1 = .ok (.invokestatic 130, 3) := by decide +kernel
theorem dX12_heap_4 : decode cX12_heap 4 = .ok (.ifCond .ne 6, 3) := by decide +kernel
theorem dX12_heap_7 : decode cX12_heap 7 = .ok (.bipush (-6), 2) := by decide +kernel
theorem dX12_heap_9 : decode cX12_heap 9 = .ok (.ireturn, 1) := by decide +kernel
theorem dX12_heap_10 : decode cX12_heap 10 = .ok (.iload_n 2, 1) := by decide +kernel
theorem dX12_heap_11 : decode cX12_heap 11 = .ok (.ifCond .ne 12, 3) := by decide +kernel
theorem dX12_heap_14 : decode cX12_heap 14 = .ok (.aload_n 0, 1) := by decide +kernel
theorem dX12_heap_15 : decode cX12_heap 15 = .ok (.getfield 7, 3) := by decide +kernel
theorem dX12_heap_18 : decode cX12_heap 18 = .ok (.iload_n 1, 1) := by decide +kernel
theorem dX12_heap_19 : decode cX12_heap 19 = .ok (.iaload, 1) := by decide +kernel
theorem dX12_heap_20 : decode cX12_heap 20 = .ok (.goto 19, 3) := by decide +kernel
theorem dX12_heap_23 : decode cX12_heap 23 = .ok (.iload_n 2, 1) := by decide +kernel
theorem dX12_heap_24 : decode cX12_heap 24 = .ok (.iconst 1, 1) := by decide +kernel
theorem dX12_heap_25 : decode cX12_heap 25 = .ok (.if_icmp .ne 12, 3) := by decide +kernel
theorem dX12_heap_28 : decode cX12_heap 28 = .ok (.aload_n 0, 1) := by decide +kernel
theorem dX12_heap_29 : decode cX12_heap 29 = .ok (.getfield 13, 3) := by decide +kernel
theorem dX12_heap_32 : decode cX12_heap 32 = .ok (.iload_n 1, 1) := by decide +kernel
theorem dX12_heap_33 : decode cX12_heap 33 = .ok (.iaload, 1) := by decide +kernel
theorem dX12_heap_34 : decode cX12_heap 34 = .ok (.goto 5, 3) := by decide +kernel
theorem dX12_heap_37 : decode cX12_heap 37 = .ok (.bipush (-7), 2) := by decide +kernel
theorem dX12_heap_39 : decode cX12_heap 39 = .ok (.ireturn, 1) := by decide +kernel
theorem dX12_isByte_0 : decode cX12_isByte 0 = .ok (.iload_n 0, 1) := by decide +kernel
theorem dX12_isByte_1 : decode cX12_isByte 1 = .ok (.iconst 0, 1) := by decide +kernel
theorem dX12_isByte_2 : decode cX12_isByte 2 = .ok (.sipush 255, 3) := by decide +kernel
theorem dX12_isByte_5 : decode cX12_isByte 5 = .ok (.invokestatic 120, 3) := by decide +kernel
theorem dX12_isByte_8 : decode cX12_isByte 8 = .ok (.ireturn, 1) := by decide +kernel
theorem dX12_feed_0 : decode cX12_feed 0 = .ok (.iload_n 1, 1) := by decide +kernel
theorem dX12_feed_1 : decode cX12_feed 1 = .ok (.iconst 1, 1) := by decide +kernel
theorem dX12_feed_2 : decode cX12_feed 2 = .ok (.iconst 5, 1) := by decide +kernel
theorem dX12_feed_3 : decode cX12_feed 3 = .ok (.invokestatic 120, 3) := by decide +kernel
theorem dX12_feed_6 : decode cX12_feed 6 = .ok (.ifCond .eq 41, 3) := by decide +kernel
theorem dX12_feed_9 : decode cX12_feed 9 = .ok (.iload_n 2, 1) := by decide +kernel
theorem dX12_feed_10 : decode cX12_feed 10 = .ok (.invokestatic 134, 3) := by decide +kernel
theorem dX12_feed_13 : decode cX12_feed 13 = .ok (.ifCond .eq 34, 3) := by decide +kernel
theorem dX12_feed_16 : decode cX12_feed 16 = .ok (.iload_n 3, 1) := by decide +kernel
theorem dX12_feed_17 : decode cX12_feed 17 = .ok (.invokestatic 134, 3) := by decide +kernel
theorem dX12_feed_20 : decode cX12_feed 20 = .ok (.ifCond .eq 27, 3) := by decide +kernel
theorem dX12_feed_23 : decode cX12_feed 23 = .ok (.iload 4, 2) := by decide +kernel
theorem dX12_feed_25 : decode cX12_feed 25 = .ok (.invokestatic 134, 3) := by decide +kernel
theorem dX12_feed_28 : decode cX12_feed 28 = .ok (.ifCond .eq 19, 3) := by decide +kernel
theorem dX12_feed_31 : decode cX12_feed 31 = .ok (.iload 5, 2) := by decide +kernel
theorem dX12_feed_33 : decode cX12_feed 33 = .ok (.invokestatic 134, 3) := by decide +kernel
theorem dX12_feed_36 : decode cX12_feed 36 = .ok (.ifCond .eq 11, 3) := by decide +kernel
theorem dX12_feed_39 : decode cX12_feed 39 = .ok (.iload 6, 2) := by decide +kernel
theorem dX12_feed_41 : decode cX12_feed 41 = .ok (.invokestatic 134, 3) := by decide +kernel
theorem dX12_feed_44 : decode cX12_feed 44 = .ok (.ifCond .ne 6, 3) := by decide +kernel
theorem dX12_feed_47 : decode cX12_feed 47 = .ok (.bipush (-2), 2) := by decide +kernel
theorem dX12_feed_49 : decode cX12_feed 49 = .ok (.ireturn, 1) := by decide +kernel
theorem dX12_feed_50 : decode cX12_feed 50 = .ok (.aload_n 0, 1) := by decide +kernel
theorem dX12_feed_51 : decode cX12_feed 51 = .ok (.getfield 110, 3) := by decide +kernel
theorem dX12_feed_54 : decode cX12_feed 54 = .ok (.iload_n 1, 1) := by decide +kernel
theorem dX12_feed_55 : decode cX12_feed 55 = .ok (.iadd, 1) := by decide +kernel
theorem dX12_feed_56 : decode cX12_feed 56 = .ok (.sipush 160, 3) := by decide +kernel
theorem dX12_feed_59 : decode cX12_feed 59 = .ok (.if_icmp .le 6, 3) := by decide +kernel
theorem dX12_feed_62 : decode cX12_feed 62 = .ok (.bipush (-4), 2) := by decide +kernel
theorem dX12_feed_64 : decode cX12_feed 64 = .ok (.ireturn, 1) := by decide +kernel
theorem dX12_feed_65 : decode cX12_feed 65 = .ok (.iconst 0, 1) := by decide +kernel
theorem dX12_feed_66 : decode cX12_feed 66 = .ok (.istore 7, 2) := by decide +kernel
theorem dX12_feed_68 : decode cX12_feed 68 = .ok (.iload 7, 2) := by decide +kernel
theorem dX12_feed_70 : decode cX12_feed 70 = .ok (.iload_n 1, 1) := by decide +kernel
theorem dX12_feed_71 : decode cX12_feed 71 = .ok (.if_icmp .ge 71, 3) := by decide +kernel
theorem dX12_feed_74 : decode cX12_feed 74 = .ok (.aload_n 0, 1) := by decide +kernel
theorem dX12_feed_75 : decode cX12_feed 75 = .ok (.getfield 29, 3) := by decide +kernel
theorem dX12_feed_78 : decode cX12_feed 78 = .ok (.aload_n 0, 1) := by decide +kernel
theorem dX12_feed_79 : decode cX12_feed 79 = .ok (.getfield 110, 3) := by decide +kernel
theorem dX12_feed_82 : decode cX12_feed 82 = .ok (.iload 7, 2) := by decide +kernel
theorem dX12_feed_84 : decode cX12_feed 84 = .ok (.ifCond .ne 7, 3) := by decide +kernel
theorem dX12_feed_87 : decode cX12_feed 87 = .ok (.iload_n 2, 1) := by decide +kernel
theorem dX12_feed_88 : decode cX12_feed 88 = .ok (.goto 37, 3) := by decide +kernel
theorem dX12_feed_91 : decode cX12_feed 91 = .ok (.iload 7, 2) := by decide +kernel
theorem dX12_feed_93 : decode cX12_feed 93 = .ok (.iconst 1, 1) := by decide +kernel
theorem dX12_feed_94 : decode cX12_feed 94 = .ok (.if_icmp .ne 7, 3) := by decide +kernel
theorem dX12_feed_97 : decode cX12_feed 97 = .ok (.iload_n 3, 1) := by decide +kernel
theorem dX12_feed_98 : decode cX12_feed 98 = .ok (.goto 27, 3) := by decide +kernel
theorem dX12_feed_101 : decode cX12_feed 101 = .ok (.iload 7, 2) := by decide +kernel
theorem dX12_feed_103 : decode cX12_feed 103 = .ok (.iconst 2, 1) := by decide +kernel
theorem dX12_feed_104 : decode cX12_feed 104 = .ok (.if_icmp .ne 8, 3) := by decide +kernel
theorem dX12_feed_107 : decode cX12_feed 107 = .ok (.iload 4, 2) := by decide +kernel
theorem dX12_feed_109 : decode cX12_feed 109 = .ok (.goto 16, 3) := by decide +kernel
theorem dX12_feed_112 : decode cX12_feed 112 = .ok (.iload 7, 2) := by decide +kernel
theorem dX12_feed_114 : decode cX12_feed 114 = .ok (.iconst 3, 1) := by decide +kernel
theorem dX12_feed_115 : decode cX12_feed 115 = .ok (.if_icmp .ne 8, 3) := by decide +kernel
theorem dX12_feed_118 : decode cX12_feed 118 = .ok (.iload 5, 2) := by decide +kernel
theorem dX12_feed_120 : decode cX12_feed 120 = .ok (.goto 5, 3) := by decide +kernel
theorem dX12_feed_123 : decode cX12_feed 123 = .ok (.iload 6, 2) := by decide +kernel
theorem dX12_feed_125 : decode cX12_feed 125 = .ok (.iastore, 1) := by decide +kernel
theorem dX12_feed_126 : decode cX12_feed 126 = .ok (.aload_n 0, 1) := by decide +kernel
theorem dX12_feed_127 : decode cX12_feed 127 = .ok (.dup, 1) := by decide +kernel
theorem dX12_feed_128 : decode cX12_feed 128 = .ok (.getfield 110, 3) := by decide +kernel
theorem dX12_feed_131 : decode cX12_feed 131 = .ok (.iconst 1, 1) := by decide +kernel
theorem dX12_feed_132 : decode cX12_feed 132 = .ok (.iadd, 1) := by decide +kernel
theorem dX12_feed_133 : decode cX12_feed 133 = .ok (.putfield 110, 3) := by decide +kernel
theorem dX12_feed_136 : decode cX12_feed 136 = .ok (.iinc 7 1, 3) := by decide +kernel
theorem dX12_feed_139 : decode cX12_feed 139 = .ok (.goto (-71), 3) := by decide +kernel
theorem dX12_feed_142 : decode cX12_feed 142 = .ok (.aload_n 0, 1) := by decide +kernel
theorem dX12_feed_143 : decode cX12_feed 143 = .ok (.getfield 110, 3) := by decide +kernel
theorem dX12_feed_146 : decode cX12_feed 146 = .ok (.ireturn, 1) := by decide +kernel
theorem dX12_wordFrom_0 : decode cX12_wordFrom 0 = .ok (.iconst 0, 1) := by decide +kernel
theorem dX12_wordFrom_1 : decode cX12_wordFrom 1 = .ok (.istore_n 3, 1) := by decide +kernel
theorem dX12_wordFrom_2 : decode cX12_wordFrom 2 = .ok (.iload_n 3, 1) := by decide +kernel
theorem dX12_wordFrom_3 : decode cX12_wordFrom 3 = .ok (.bipush 12, 2) := by decide +kernel
theorem dX12_wordFrom_5 : decode cX12_wordFrom 5 = .ok (.if_icmp .ge 96, 3) := by decide +kernel
theorem dX12_wordFrom_8 : decode cX12_wordFrom 8 = .ok (.iload_n 2, 1) := by decide +kernel
theorem dX12_wordFrom_9 : decode cX12_wordFrom 9 = .ok (.iload_n 1, 1) := by decide +kernel
theorem dX12_wordFrom_10 : decode cX12_wordFrom 10 = .ok (.isub, 1) := by decide +kernel
theorem dX12_wordFrom_11 : decode cX12_wordFrom 11 = .ok (.bipush 8, 2) := by decide +kernel
theorem dX12_wordFrom_13 : decode cX12_wordFrom 13 = .ok (.if_icmp .gt 7, 3) := by decide +kernel
theorem dX12_wordFrom_16 : decode cX12_wordFrom 16 = .ok (.iconst 1, 1) := by decide +kernel
theorem dX12_wordFrom_17 : decode cX12_wordFrom 17 = .ok (.goto 4, 3) := by decide +kernel
theorem dX12_wordFrom_20 : decode cX12_wordFrom 20 = .ok (.iconst 0, 1) := by decide +kernel
theorem dX12_wordFrom_21 : decode cX12_wordFrom 21 = .ok (.istore 4, 2) := by decide +kernel
theorem dX12_wordFrom_23 : decode cX12_wordFrom 23 = .ok (.iconst 0, 1) := by decide +kernel
theorem dX12_wordFrom_24 : decode cX12_wordFrom 24 = .ok (.istore 5, 2) := by decide +kernel
theorem dX12_wordFrom_26 : decode cX12_wordFrom 26 = .ok (.iload 5, 2) := by decide +kernel
theorem dX12_wordFrom_28 : decode cX12_wordFrom 28 = .ok (.bipush 8, 2) := by decide +kernel
theorem dX12_wordFrom_30 : decode cX12_wordFrom 30 = .ok (.if_icmp .ge 58, 3) := by decide +kernel
theorem dX12_wordFrom_33 : decode cX12_wordFrom 33 = .ok (.iload 4, 2) := by decide +kernel
theorem dX12_wordFrom_35 : decode cX12_wordFrom 35 = .ok (.ifCond .eq 53, 3) := by decide +kernel
theorem dX12_wordFrom_38 : decode cX12_wordFrom 38 = .ok (.aload_n 0, 1) := by decide +kernel
theorem dX12_wordFrom_39 : decode cX12_wordFrom 39 = .ok (.getfield 53, 3) := by decide +kernel
theorem dX12_wordFrom_42 : decode cX12_wordFrom 42 = .ok (.bipush 8, 2) := by decide +kernel
theorem dX12_wordFrom_44 : decode cX12_wordFrom 44 = .ok (.iload_n 3, 1) := by decide +kernel
theorem dX12_wordFrom_45 : decode cX12_wordFrom 45 = .ok (.imul, 1) := by decide +kernel
theorem dX12_wordFrom_46 : decode cX12_wordFrom 46 = .ok (.iload 5, 2) := by decide +kernel
theorem dX12_wordFrom_48 : decode cX12_wordFrom 48 = .ok (.iadd, 1) := by decide +kernel
theorem dX12_wordFrom_49 : decode cX12_wordFrom 49 = .ok (.iaload, 1) := by decide +kernel
theorem dX12_wordFrom_50 : decode cX12_wordFrom 50 = .ok (.iload_n 1, 1) := by decide +kernel
theorem dX12_wordFrom_51 : decode cX12_wordFrom 51 = .ok (.iload 5, 2) := by decide +kernel
theorem dX12_wordFrom_53 : decode cX12_wordFrom 53 = .ok (.iadd, 1) := by decide +kernel
theorem dX12_wordFrom_54 : decode cX12_wordFrom 54 = .ok (.iload_n 2, 1) := by decide +kernel
theorem dX12_wordFrom_55 : decode cX12_wordFrom 55 = .ok (.if_icmp .ge 15, 3) := by decide +kernel
theorem dX12_wordFrom_58 : decode cX12_wordFrom 58 = .ok (.aload_n 0, 1) := by decide +kernel
theorem dX12_wordFrom_59 : decode cX12_wordFrom 59 = .ok (.getfield 29, 3) := by decide +kernel
theorem dX12_wordFrom_62 : decode cX12_wordFrom 62 = .ok (.iload_n 1, 1) := by decide +kernel
theorem dX12_wordFrom_63 : decode cX12_wordFrom 63 = .ok (.iload 5, 2) := by decide +kernel
theorem dX12_wordFrom_65 : decode cX12_wordFrom 65 = .ok (.iadd, 1) := by decide +kernel
theorem dX12_wordFrom_66 : decode cX12_wordFrom 66 = .ok (.iaload, 1) := by decide +kernel
theorem dX12_wordFrom_67 : decode cX12_wordFrom 67 = .ok (.goto 5, 3) := by decide +kernel
theorem dX12_wordFrom_70 : decode cX12_wordFrom 70 = .ok (.bipush 32, 2) := by decide +kernel
theorem dX12_wordFrom_72 : decode cX12_wordFrom 72 = .ok (.if_icmp .ne 7, 3) := by decide +kernel
theorem dX12_wordFrom_75 : decode cX12_wordFrom 75 = .ok (.iconst 1, 1) := by decide +kernel
theorem dX12_wordFrom_76 : decode cX12_wordFrom 76 = .ok (.goto 4, 3) := by decide +kernel
theorem dX12_wordFrom_79 : decode cX12_wordFrom 79 = .ok (.iconst 0, 1) := by decide +kernel
theorem dX12_wordFrom_80 : decode cX12_wordFrom 80 = .ok (.istore 4, 2) := by decide +kernel
theorem dX12_wordFrom_82 : decode cX12_wordFrom 82 = .ok (.iinc 5 1, 3) := by decide +kernel
theorem dX12_wordFrom_85 : decode cX12_wordFrom 85 = .ok (.goto (-59), 3) := by decide +kernel
theorem dX12_wordFrom_88 : decode cX12_wordFrom 88 = .ok (.iload 4, 2) := by decide +kernel
theorem dX12_wordFrom_90 : decode cX12_wordFrom 90 = .ok (.ifCond .eq 5, 3) := by decide +kernel
theorem dX12_wordFrom_93 : decode cX12_wordFrom 93 = .ok (.iload_n 3, 1) := by decide +kernel
theorem dX12_wordFrom_94 : decode cX12_wordFrom 94 = .ok (.ireturn, 1) := by decide +kernel
theorem dX12_wordFrom_95 : decode cX12_wordFrom 95 = .ok (.iinc 3 1, 3) := by decide +kernel
theorem dX12_wordFrom_98 : decode cX12_wordFrom 98 = .ok (.goto (-96), 3) := by decide +kernel
theorem dX12_wordFrom_101 : decode cX12_wordFrom 101 = .ok (.bipush 12, 2) := by decide +kernel
theorem dX12_wordFrom_103 : decode cX12_wordFrom 103 = .ok (.ireturn, 1) := by decide +kernel
theorem dX12_next_0 : decode cX12_next 0 = .ok (.aload_n 0, 1) := by decide +kernel
theorem dX12_next_1 : decode cX12_next 1 = .ok (.getfield 137, 3) := by decide +kernel
theorem dX12_next_4 : decode cX12_next 4 = .ok (.aload_n 0, 1) := by decide +kernel
theorem dX12_next_5 : decode cX12_next 5 = .ok (.getfield 110, 3) := by decide +kernel
theorem dX12_next_8 : decode cX12_next 8 = .ok (.if_icmp .ge 44, 3) := by decide +kernel
theorem dX12_next_11 : decode cX12_next 11 = .ok (.aload_n 0, 1) := by decide +kernel
theorem dX12_next_12 : decode cX12_next 12 = .ok (.getfield 29, 3) := by decide +kernel
theorem dX12_next_15 : decode cX12_next 15 = .ok (.aload_n 0, 1) := by decide +kernel
theorem dX12_next_16 : decode cX12_next 16 = .ok (.getfield 137, 3) := by decide +kernel
theorem dX12_next_19 : decode cX12_next 19 = .ok (.iaload, 1) := by decide +kernel
theorem dX12_next_20 : decode cX12_next 20 = .ok (.bipush 32, 2) := by decide +kernel
theorem dX12_next_22 : decode cX12_next 22 = .ok (.if_icmp .eq 17, 3) := by decide +kernel
theorem dX12_next_25 : decode cX12_next 25 = .ok (.aload_n 0, 1) := by decide +kernel
theorem dX12_next_26 : decode cX12_next 26 = .ok (.getfield 29, 3) := by decide +kernel
theorem dX12_next_29 : decode cX12_next 29 = .ok (.aload_n 0, 1) := by decide +kernel
theorem dX12_next_30 : decode cX12_next 30 = .ok (.getfield 137, 3) := by decide +kernel
theorem dX12_next_33 : decode cX12_next 33 = .ok (.iaload, 1) := by decide +kernel
theorem dX12_next_34 : decode cX12_next 34 = .ok (.bipush 10, 2) := by decide +kernel
theorem dX12_next_36 : decode cX12_next 36 = .ok (.if_icmp .ne 16, 3) := by decide +kernel
theorem dX12_next_39 : decode cX12_next 39 = .ok (.aload_n 0, 1) := by decide +kernel
theorem dX12_next_40 : decode cX12_next 40 = .ok (.dup, 1) := by decide +kernel
theorem dX12_next_41 : decode cX12_next 41 = .ok (.getfield 137, 3) := by decide +kernel
theorem dX12_next_44 : decode cX12_next 44 = .ok (.iconst 1, 1) := by decide +kernel
theorem dX12_next_45 : decode cX12_next 45 = .ok (.iadd, 1) := by decide +kernel
theorem dX12_next_46 : decode cX12_next 46 = .ok (.putfield 137, 3) := by decide +kernel
theorem dX12_next_49 : decode cX12_next 49 = .ok (.goto (-49), 3) := by decide +kernel
theorem dX12_next_52 : decode cX12_next 52 = .ok (.aload_n 0, 1) := by decide +kernel
theorem dX12_next_53 : decode cX12_next 53 = .ok (.aload_n 0, 1) := by decide +kernel
theorem dX12_next_54 : decode cX12_next 54 = .ok (.getfield 137, 3) := by decide +kernel
theorem dX12_next_57 : decode cX12_next 57 = .ok (.putfield 140, 3) := by decide +kernel
theorem dX12_next_60 : decode cX12_next 60 = .ok (.aload_n 0, 1) := by decide +kernel
theorem dX12_next_61 : decode cX12_next 61 = .ok (.iconst 0, 1) := by decide +kernel
theorem dX12_next_62 : decode cX12_next 62 = .ok (.putfield 143, 3) := by decide +kernel
theorem dX12_next_65 : decode cX12_next 65 = .ok (.aload_n 0, 1) := by decide +kernel
theorem dX12_next_66 : decode cX12_next 66 = .ok (.iconst 0, 1) := by decide +kernel
theorem dX12_next_67 : decode cX12_next 67 = .ok (.putfield 146, 3) := by decide +kernel
theorem dX12_next_70 : decode cX12_next 70 = .ok (.aload_n 0, 1) := by decide +kernel
theorem dX12_next_71 : decode cX12_next 71 = .ok (.getfield 137, 3) := by decide +kernel
theorem dX12_next_74 : decode cX12_next 74 = .ok (.aload_n 0, 1) := by decide +kernel
theorem dX12_next_75 : decode cX12_next 75 = .ok (.getfield 110, 3) := by decide +kernel
theorem dX12_next_78 : decode cX12_next 78 = .ok (.if_icmp .ne 4, 3) := by decide +kernel
theorem dX12_next_81 : decode cX12_next 81 = .ok (.return_, 1) := by decide +kernel
theorem dX12_next_82 : decode cX12_next 82 = .ok (.aload_n 0, 1) := by decide +kernel
theorem dX12_next_83 : decode cX12_next 83 = .ok (.getfield 29, 3) := by decide +kernel
theorem dX12_next_86 : decode cX12_next 86 = .ok (.aload_n 0, 1) := by decide +kernel
theorem dX12_next_87 : decode cX12_next 87 = .ok (.getfield 137, 3) := by decide +kernel
theorem dX12_next_90 : decode cX12_next 90 = .ok (.iaload, 1) := by decide +kernel
theorem dX12_next_91 : decode cX12_next 91 = .ok (.istore_n 1, 1) := by decide +kernel
theorem dX12_next_92 : decode cX12_next 92 = .ok (.iload_n 1, 1) := by decide +kernel
theorem dX12_next_93 : decode cX12_next 93 = .ok (.bipush 97, 2) := by decide +kernel
theorem dX12_next_95 : decode cX12_next 95 = .ok (.bipush 122, 2) := by decide +kernel
theorem dX12_next_97 : decode cX12_next 97 = .ok (.invokestatic 120, 3) := by decide +kernel
theorem dX12_next_100 : decode cX12_next 100 = .ok (.ifCond .eq 117, 3) := by decide +kernel
theorem dX12_next_103 : decode cX12_next 103 = .ok (.aload_n 0, 1) := by decide +kernel
theorem dX12_next_104 : decode cX12_next 104 = .ok (.getfield 137, 3) := by decide +kernel
theorem dX12_next_107 : decode cX12_next 107 = .ok (.aload_n 0, 1) := by decide +kernel
theorem dX12_next_108 : decode cX12_next 108 = .ok (.getfield 110, 3) := by decide +kernel
theorem dX12_next_111 : decode cX12_next 111 = .ok (.if_icmp .ge 35, 3) := by decide +kernel
theorem dX12_next_114 : decode cX12_next 114 = .ok (.aload_n 0, 1) := by decide +kernel
theorem dX12_next_115 : decode cX12_next 115 = .ok (.getfield 29, 3) := by decide +kernel
theorem dX12_next_118 : decode cX12_next 118 = .ok (.aload_n 0, 1) := by decide +kernel
theorem dX12_next_119 : decode cX12_next 119 = .ok (.getfield 137, 3) := by decide +kernel
theorem dX12_next_122 : decode cX12_next 122 = .ok (.iaload, 1) := by decide +kernel
theorem dX12_next_123 : decode cX12_next 123 = .ok (.bipush 97, 2) := by decide +kernel
theorem dX12_next_125 : decode cX12_next 125 = .ok (.bipush 122, 2) := by decide +kernel
theorem dX12_next_127 : decode cX12_next 127 = .ok (.invokestatic 120, 3) := by decide +kernel
theorem dX12_next_130 : decode cX12_next 130 = .ok (.ifCond .eq 16, 3) := by decide +kernel
theorem dX12_next_133 : decode cX12_next 133 = .ok (.aload_n 0, 1) := by decide +kernel
theorem dX12_next_134 : decode cX12_next 134 = .ok (.dup, 1) := by decide +kernel
theorem dX12_next_135 : decode cX12_next 135 = .ok (.getfield 137, 3) := by decide +kernel
theorem dX12_next_138 : decode cX12_next 138 = .ok (.iconst 1, 1) := by decide +kernel
theorem dX12_next_139 : decode cX12_next 139 = .ok (.iadd, 1) := by decide +kernel
theorem dX12_next_140 : decode cX12_next 140 = .ok (.putfield 137, 3) := by decide +kernel
theorem dX12_next_143 : decode cX12_next 143 = .ok (.goto (-40), 3) := by decide +kernel
theorem dX12_next_146 : decode cX12_next 146 = .ok (.aload_n 0, 1) := by decide +kernel
theorem dX12_next_147 : decode cX12_next 147 = .ok (.aload_n 0, 1) := by decide +kernel
theorem dX12_next_148 : decode cX12_next 148 = .ok (.getfield 140, 3) := by decide +kernel
theorem dX12_next_151 : decode cX12_next 151 = .ok (.aload_n 0, 1) := by decide +kernel
theorem dX12_next_152 : decode cX12_next 152 = .ok (.getfield 137, 3) := by decide +kernel
theorem dX12_next_155 : decode cX12_next 155 = .ok (.invokevirtual 149, 3) := by decide +kernel
theorem dX12_next_158 : decode cX12_next 158 = .ok (.istore_n 2, 1) := by decide +kernel
theorem dX12_next_159 : decode cX12_next 159 = .ok (.aload_n 0, 1) := by decide +kernel
theorem dX12_next_160 : decode cX12_next 160 = .ok (.iload_n 2, 1) := by decide +kernel
theorem dX12_next_161 : decode cX12_next 161 = .ok (.iconst 3, 1) := by decide +kernel
theorem dX12_next_162 : decode cX12_next 162 = .ok (.if_icmp .ge 7, 3) := by decide +kernel
theorem dX12_next_165 : decode cX12_next 165 = .ok (.iconst 3, 1) := by decide +kernel
theorem dX12_next_166 : decode cX12_next 166 = .ok (.goto 29, 3) := by decide +kernel
theorem dX12_next_169 : decode cX12_next 169 = .ok (.iload_n 2, 1) := by decide +kernel
theorem dX12_next_170 : decode cX12_next 170 = .ok (.bipush 9, 2) := by decide +kernel
theorem dX12_next_172 : decode cX12_next 172 = .ok (.if_icmp .ge 7, 3) := by decide +kernel
theorem dX12_next_175 : decode cX12_next 175 = .ok (.iconst 2, 1) := by decide +kernel
theorem dX12_next_176 : decode cX12_next 176 = .ok (.goto 19, 3) := by decide +kernel
theorem dX12_next_179 : decode cX12_next 179 = .ok (.iload_n 2, 1) := by decide +kernel
theorem dX12_next_180 : decode cX12_next 180 = .ok (.bipush 12, 2) := by decide +kernel
theorem dX12_next_182 : decode cX12_next 182 = .ok (.if_icmp .ne 7, 3) := by decide +kernel
theorem dX12_next_185 : decode cX12_next 185 = .ok (.iconst (-1), 1) := by decide +kernel
theorem dX12_next_186 : decode cX12_next 186 = .ok (.goto 9, 3) := by decide +kernel
theorem dX12_next_189 : decode cX12_next 189 = .ok (.iconst 4, 1) := by decide +kernel
theorem dX12_next_190 : decode cX12_next 190 = .ok (.iload_n 2, 1) := by decide +kernel
theorem dX12_next_191 : decode cX12_next 191 = .ok (.iadd, 1) := by decide +kernel
theorem dX12_next_192 : decode cX12_next 192 = .ok (.bipush 9, 2) := by decide +kernel
theorem dX12_next_194 : decode cX12_next 194 = .ok (.isub, 1) := by decide +kernel
theorem dX12_next_195 : decode cX12_next 195 = .ok (.putfield 143, 3) := by decide +kernel
theorem dX12_next_198 : decode cX12_next 198 = .ok (.aload_n 0, 1) := by decide +kernel
theorem dX12_next_199 : decode cX12_next 199 = .ok (.iload_n 2, 1) := by decide +kernel
theorem dX12_next_200 : decode cX12_next 200 = .ok (.iconst 3, 1) := by decide +kernel
theorem dX12_next_201 : decode cX12_next 201 = .ok (.if_icmp .ge 7, 3) := by decide +kernel
theorem dX12_next_204 : decode cX12_next 204 = .ok (.iload_n 2, 1) := by decide +kernel
theorem dX12_next_205 : decode cX12_next 205 = .ok (.goto 6, 3) := by decide +kernel
theorem dX12_next_208 : decode cX12_next 208 = .ok (.iload_n 2, 1) := by decide +kernel
theorem dX12_next_209 : decode cX12_next 209 = .ok (.iconst 3, 1) := by decide +kernel
theorem dX12_next_210 : decode cX12_next 210 = .ok (.isub, 1) := by decide +kernel
theorem dX12_next_211 : decode cX12_next 211 = .ok (.putfield 146, 3) := by decide +kernel
theorem dX12_next_214 : decode cX12_next 214 = .ok (.goto 189, 3) := by decide +kernel
theorem dX12_next_217 : decode cX12_next 217 = .ok (.iload_n 1, 1) := by decide +kernel
theorem dX12_next_218 : decode cX12_next 218 = .ok (.bipush 48, 2) := by decide +kernel
theorem dX12_next_220 : decode cX12_next 220 = .ok (.bipush 57, 2) := by decide +kernel
theorem dX12_next_222 : decode cX12_next 222 = .ok (.invokestatic 120, 3) := by decide +kernel
theorem dX12_next_225 : decode cX12_next 225 = .ok (.ifCond .eq 101, 3) := by decide +kernel
theorem dX12_next_228 : decode cX12_next 228 = .ok (.iconst 0, 1) := by decide +kernel
theorem dX12_next_229 : decode cX12_next 229 = .ok (.istore_n 2, 1) := by decide +kernel
theorem dX12_next_230 : decode cX12_next 230 = .ok (.aload_n 0, 1) := by decide +kernel
theorem dX12_next_231 : decode cX12_next 231 = .ok (.getfield 137, 3) := by decide +kernel
theorem dX12_next_234 : decode cX12_next 234 = .ok (.aload_n 0, 1) := by decide +kernel
theorem dX12_next_235 : decode cX12_next 235 = .ok (.getfield 110, 3) := by decide +kernel
theorem dX12_next_238 : decode cX12_next 238 = .ok (.if_icmp .ge 71, 3) := by decide +kernel
theorem dX12_next_241 : decode cX12_next 241 = .ok (.aload_n 0, 1) := by decide +kernel
theorem dX12_next_242 : decode cX12_next 242 = .ok (.getfield 29, 3) := by decide +kernel
theorem dX12_next_245 : decode cX12_next 245 = .ok (.aload_n 0, 1) := by decide +kernel
theorem dX12_next_246 : decode cX12_next 246 = .ok (.getfield 137, 3) := by decide +kernel
theorem dX12_next_249 : decode cX12_next 249 = .ok (.iaload, 1) := by decide +kernel
theorem dX12_next_250 : decode cX12_next 250 = .ok (.bipush 48, 2) := by decide +kernel
theorem dX12_next_252 : decode cX12_next 252 = .ok (.bipush 57, 2) := by decide +kernel
theorem dX12_next_254 : decode cX12_next 254 = .ok (.invokestatic 120, 3) := by decide +kernel
theorem dX12_next_257 : decode cX12_next 257 = .ok (.ifCond .eq 52, 3) := by decide +kernel
theorem dX12_next_260 : decode cX12_next 260 = .ok (.aload_n 0, 1) := by decide +kernel
theorem dX12_next_261 : decode cX12_next 261 = .ok (.iload_n 2, 1) := by decide +kernel
theorem dX12_next_262 : decode cX12_next 262 = .ok (.iconst 4, 1) := by decide +kernel
theorem dX12_next_263 : decode cX12_next 263 = .ok (.if_icmp .ge 26, 3) := by decide +kernel
theorem dX12_next_266 : decode cX12_next 266 = .ok (.bipush 10, 2) := by decide +kernel
theorem dX12_next_268 : decode cX12_next 268 = .ok (.aload_n 0, 1) := by decide +kernel
theorem dX12_next_269 : decode cX12_next 269 = .ok (.getfield 146, 3) := by decide +kernel
theorem dX12_next_272 : decode cX12_next 272 = .ok (.imul, 1) := by decide +kernel
theorem dX12_next_273 : decode cX12_next 273 = .ok (.aload_n 0, 1) := by decide +kernel
theorem dX12_next_274 : decode cX12_next 274 = .ok (.getfield 29, 3) := by decide +kernel
theorem dX12_next_277 : decode cX12_next 277 = .ok (.aload_n 0, 1) := by decide +kernel
theorem dX12_next_278 : decode cX12_next 278 = .ok (.getfield 137, 3) := by decide +kernel
theorem dX12_next_281 : decode cX12_next 281 = .ok (.iaload, 1) := by decide +kernel
theorem dX12_next_282 : decode cX12_next 282 = .ok (.iadd, 1) := by decide +kernel
theorem dX12_next_283 : decode cX12_next 283 = .ok (.bipush 48, 2) := by decide +kernel
theorem dX12_next_285 : decode cX12_next 285 = .ok (.isub, 1) := by decide +kernel
theorem dX12_next_286 : decode cX12_next 286 = .ok (.goto 4, 3) := by decide +kernel
theorem dX12_next_289 : decode cX12_next 289 = .ok (.iconst 0, 1) := by decide +kernel
theorem dX12_next_290 : decode cX12_next 290 = .ok (.putfield 146, 3) := by decide +kernel
theorem dX12_next_293 : decode cX12_next 293 = .ok (.iinc 2 1, 3) := by decide +kernel
theorem dX12_next_296 : decode cX12_next 296 = .ok (.aload_n 0, 1) := by decide +kernel
theorem dX12_next_297 : decode cX12_next 297 = .ok (.dup, 1) := by decide +kernel
theorem dX12_next_298 : decode cX12_next 298 = .ok (.getfield 137, 3) := by decide +kernel
theorem dX12_next_301 : decode cX12_next 301 = .ok (.iconst 1, 1) := by decide +kernel
theorem dX12_next_302 : decode cX12_next 302 = .ok (.iadd, 1) := by decide +kernel
theorem dX12_next_303 : decode cX12_next 303 = .ok (.putfield 137, 3) := by decide +kernel
theorem dX12_next_306 : decode cX12_next 306 = .ok (.goto (-76), 3) := by decide +kernel
theorem dX12_next_309 : decode cX12_next 309 = .ok (.aload_n 0, 1) := by decide +kernel
theorem dX12_next_310 : decode cX12_next 310 = .ok (.iload_n 2, 1) := by decide +kernel
theorem dX12_next_311 : decode cX12_next 311 = .ok (.iconst 4, 1) := by decide +kernel
theorem dX12_next_312 : decode cX12_next 312 = .ok (.if_icmp .le 7, 3) := by decide +kernel
theorem dX12_next_315 : decode cX12_next 315 = .ok (.iconst (-1), 1) := by decide +kernel
theorem dX12_next_316 : decode cX12_next 316 = .ok (.goto 4, 3) := by decide +kernel
theorem dX12_next_319 : decode cX12_next 319 = .ok (.iconst 1, 1) := by decide +kernel
theorem dX12_next_320 : decode cX12_next 320 = .ok (.putfield 143, 3) := by decide +kernel
theorem dX12_next_323 : decode cX12_next 323 = .ok (.goto 80, 3) := by decide +kernel
theorem dX12_next_326 : decode cX12_next 326 = .ok (.iload_n 1, 1) := by decide +kernel
theorem dX12_next_327 : decode cX12_next 327 = .ok (.bipush 40, 2) := by decide +kernel
theorem dX12_next_329 : decode cX12_next 329 = .ok (.if_icmp .eq 45, 3) := by decide +kernel
theorem dX12_next_332 : decode cX12_next 332 = .ok (.iload_n 1, 1) := by decide +kernel
theorem dX12_next_333 : decode cX12_next 333 = .ok (.bipush 41, 2) := by decide +kernel
theorem dX12_next_335 : decode cX12_next 335 = .ok (.if_icmp .eq 39, 3) := by decide +kernel
theorem dX12_next_338 : decode cX12_next 338 = .ok (.iload_n 1, 1) := by decide +kernel
theorem dX12_next_339 : decode cX12_next 339 = .ok (.bipush 59, 2) := by decide +kernel
theorem dX12_next_341 : decode cX12_next 341 = .ok (.if_icmp .eq 33, 3) := by decide +kernel
theorem dX12_next_344 : decode cX12_next 344 = .ok (.iload_n 1, 1) := by decide +kernel
theorem dX12_next_345 : decode cX12_next 345 = .ok (.bipush 43, 2) := by decide +kernel
theorem dX12_next_347 : decode cX12_next 347 = .ok (.if_icmp .eq 27, 3) := by decide +kernel
theorem dX12_next_350 : decode cX12_next 350 = .ok (.iload_n 1, 1) := by decide +kernel
theorem dX12_next_351 : decode cX12_next 351 = .ok (.bipush 45, 2) := by decide +kernel
theorem dX12_next_353 : decode cX12_next 353 = .ok (.if_icmp .eq 21, 3) := by decide +kernel
theorem dX12_next_356 : decode cX12_next 356 = .ok (.iload_n 1, 1) := by decide +kernel
theorem dX12_next_357 : decode cX12_next 357 = .ok (.bipush 42, 2) := by decide +kernel
theorem dX12_next_359 : decode cX12_next 359 = .ok (.if_icmp .eq 15, 3) := by decide +kernel
theorem dX12_next_362 : decode cX12_next 362 = .ok (.iload_n 1, 1) := by decide +kernel
theorem dX12_next_363 : decode cX12_next 363 = .ok (.bipush 60, 2) := by decide +kernel
theorem dX12_next_365 : decode cX12_next 365 = .ok (.if_icmp .eq 9, 3) := by decide +kernel
theorem dX12_next_368 : decode cX12_next 368 = .ok (.iload_n 1, 1) := by decide +kernel
theorem dX12_next_369 : decode cX12_next 369 = .ok (.bipush 61, 2) := by decide +kernel
theorem dX12_next_371 : decode cX12_next 371 = .ok (.if_icmp .ne 7, 3) := by decide +kernel
theorem dX12_next_374 : decode cX12_next 374 = .ok (.iconst 1, 1) := by decide +kernel
theorem dX12_next_375 : decode cX12_next 375 = .ok (.goto 4, 3) := by decide +kernel
theorem dX12_next_378 : decode cX12_next 378 = .ok (.iconst 0, 1) := by decide +kernel
theorem dX12_next_379 : decode cX12_next 379 = .ok (.istore_n 2, 1) := by decide +kernel
theorem dX12_next_380 : decode cX12_next 380 = .ok (.aload_n 0, 1) := by decide +kernel
theorem dX12_next_381 : decode cX12_next 381 = .ok (.iload_n 2, 1) := by decide +kernel
theorem dX12_next_382 : decode cX12_next 382 = .ok (.ifCond .eq 7, 3) := by decide +kernel
theorem dX12_next_385 : decode cX12_next 385 = .ok (.iload_n 1, 1) := by decide +kernel
theorem dX12_next_386 : decode cX12_next 386 = .ok (.goto 4, 3) := by decide +kernel
theorem dX12_next_389 : decode cX12_next 389 = .ok (.iconst (-1), 1) := by decide +kernel
theorem dX12_next_390 : decode cX12_next 390 = .ok (.putfield 143, 3) := by decide +kernel
theorem dX12_next_393 : decode cX12_next 393 = .ok (.aload_n 0, 1) := by decide +kernel
theorem dX12_next_394 : decode cX12_next 394 = .ok (.dup, 1) := by decide +kernel
theorem dX12_next_395 : decode cX12_next 395 = .ok (.getfield 137, 3) := by decide +kernel
theorem dX12_next_398 : decode cX12_next 398 = .ok (.iconst 1, 1) := by decide +kernel
theorem dX12_next_399 : decode cX12_next 399 = .ok (.iadd, 1) := by decide +kernel
theorem dX12_next_400 : decode cX12_next 400 = .ok (.putfield 137, 3) := by decide +kernel
theorem dX12_next_403 : decode cX12_next 403 = .ok (.return_, 1) := by decide +kernel
theorem dX12_rank_0 : decode cX12_rank 0 = .ok (.iload_n 0, 1) := by decide +kernel
theorem dX12_rank_1 : decode cX12_rank 1 = .ok (.ifCond .ne 7, 3) := by decide +kernel
theorem dX12_rank_4 : decode cX12_rank 4 = .ok (.iconst 0, 1) := by decide +kernel
theorem dX12_rank_5 : decode cX12_rank 5 = .ok (.goto 66, 3) := by decide +kernel
theorem dX12_rank_8 : decode cX12_rank 8 = .ok (.iload_n 0, 1) := by decide +kernel
theorem dX12_rank_9 : decode cX12_rank 9 = .ok (.bipush 11, 2) := by decide +kernel
theorem dX12_rank_11 : decode cX12_rank 11 = .ok (.if_icmp .ne 7, 3) := by decide +kernel
theorem dX12_rank_14 : decode cX12_rank 14 = .ok (.iconst 1, 1) := by decide +kernel
theorem dX12_rank_15 : decode cX12_rank 15 = .ok (.goto 56, 3) := by decide +kernel
theorem dX12_rank_18 : decode cX12_rank 18 = .ok (.iload_n 0, 1) := by decide +kernel
theorem dX12_rank_19 : decode cX12_rank 19 = .ok (.bipush 12, 2) := by decide +kernel
theorem dX12_rank_21 : decode cX12_rank 21 = .ok (.if_icmp .ne 7, 3) := by decide +kernel
theorem dX12_rank_24 : decode cX12_rank 24 = .ok (.iconst 2, 1) := by decide +kernel
theorem dX12_rank_25 : decode cX12_rank 25 = .ok (.goto 46, 3) := by decide +kernel
theorem dX12_rank_28 : decode cX12_rank 28 = .ok (.iload_n 0, 1) := by decide +kernel
theorem dX12_rank_29 : decode cX12_rank 29 = .ok (.bipush 13, 2) := by decide +kernel
theorem dX12_rank_31 : decode cX12_rank 31 = .ok (.if_icmp .ne 7, 3) := by decide +kernel
theorem dX12_rank_34 : decode cX12_rank 34 = .ok (.iconst 3, 1) := by decide +kernel
theorem dX12_rank_35 : decode cX12_rank 35 = .ok (.goto 36, 3) := by decide +kernel
theorem dX12_rank_38 : decode cX12_rank 38 = .ok (.iload_n 0, 1) := by decide +kernel
theorem dX12_rank_39 : decode cX12_rank 39 = .ok (.bipush 15, 2) := by decide +kernel
theorem dX12_rank_41 : decode cX12_rank 41 = .ok (.if_icmp .gt 7, 3) := by decide +kernel
theorem dX12_rank_44 : decode cX12_rank 44 = .ok (.iconst 4, 1) := by decide +kernel
theorem dX12_rank_45 : decode cX12_rank 45 = .ok (.goto 26, 3) := by decide +kernel
theorem dX12_rank_48 : decode cX12_rank 48 = .ok (.iload_n 0, 1) := by decide +kernel
theorem dX12_rank_49 : decode cX12_rank 49 = .ok (.bipush 17, 2) := by decide +kernel
theorem dX12_rank_51 : decode cX12_rank 51 = .ok (.if_icmp .gt 7, 3) := by decide +kernel
theorem dX12_rank_54 : decode cX12_rank 54 = .ok (.iconst 5, 1) := by decide +kernel
theorem dX12_rank_55 : decode cX12_rank 55 = .ok (.goto 16, 3) := by decide +kernel
theorem dX12_rank_58 : decode cX12_rank 58 = .ok (.iload_n 0, 1) := by decide +kernel
theorem dX12_rank_59 : decode cX12_rank 59 = .ok (.bipush 18, 2) := by decide +kernel
theorem dX12_rank_61 : decode cX12_rank 61 = .ok (.if_icmp .ne 8, 3) := by decide +kernel
theorem dX12_rank_64 : decode cX12_rank 64 = .ok (.bipush 6, 2) := by decide +kernel
theorem dX12_rank_66 : decode cX12_rank 66 = .ok (.goto 5, 3) := by decide +kernel
theorem dX12_rank_69 : decode cX12_rank 69 = .ok (.bipush 7, 2) := by decide +kernel
theorem dX12_rank_71 : decode cX12_rank 71 = .ok (.ireturn, 1) := by decide +kernel
theorem dX12_puts_0 : decode cX12_puts 0 = .ok (.aload_n 0, 1) := by decide +kernel
theorem dX12_puts_1 : decode cX12_puts 1 = .ok (.getfield 32, 3) := by decide +kernel
theorem dX12_puts_4 : decode cX12_puts 4 = .ok (.sipush 200, 3) := by decide +kernel
theorem dX12_puts_7 : decode cX12_puts 7 = .ok (.aload_n 0, 1) := by decide +kernel
theorem dX12_puts_8 : decode cX12_puts 8 = .ok (.getfield 124, 3) := by decide +kernel
theorem dX12_puts_11 : decode cX12_puts 11 = .ok (.imul, 1) := by decide +kernel
theorem dX12_puts_12 : decode cX12_puts 12 = .ok (.aload_n 0, 1) := by decide +kernel
theorem dX12_puts_13 : decode cX12_puts 13 = .ok (.getfield 153, 3) := by decide +kernel
theorem dX12_puts_16 : decode cX12_puts 16 = .ok (.iadd, 1) := by decide +kernel
theorem dX12_puts_17 : decode cX12_puts 17 = .ok (.iload_n 1, 1) := by decide +kernel
theorem dX12_puts_18 : decode cX12_puts 18 = .ok (.iastore, 1) := by decide +kernel
theorem dX12_puts_19 : decode cX12_puts 19 = .ok (.aload_n 0, 1) := by decide +kernel
theorem dX12_puts_20 : decode cX12_puts 20 = .ok (.dup, 1) := by decide +kernel
theorem dX12_puts_21 : decode cX12_puts 21 = .ok (.getfield 153, 3) := by decide +kernel
theorem dX12_puts_24 : decode cX12_puts 24 = .ok (.iconst 1, 1) := by decide +kernel
theorem dX12_puts_25 : decode cX12_puts 25 = .ok (.iadd, 1) := by decide +kernel
theorem dX12_puts_26 : decode cX12_puts 26 = .ok (.putfield 153, 3) := by decide +kernel
theorem dX12_puts_29 : decode cX12_puts 29 = .ok (.return_, 1) := by decide +kernel
theorem dX12_unwinds_0 : decode cX12_unwinds 0 = .ok (.aload_n 0, 1) := by decide +kernel
theorem dX12_unwinds_1 : decode cX12_unwinds 1 = .ok (.getfield 156, 3) := by decide +kernel
theorem dX12_unwinds_4 : decode cX12_unwinds 4 = .ok (.ifCond .le 75, 3) := by decide +kernel
theorem dX12_unwinds_7 : decode cX12_unwinds 7 = .ok (.aload_n 0, 1) := by decide +kernel
theorem dX12_unwinds_8 : decode cX12_unwinds 8 = .ok (.getfield 56, 3) := by decide +kernel
theorem dX12_unwinds_11 : decode cX12_unwinds 11 = .ok (.aload_n 0, 1) := by decide +kernel
theorem dX12_unwinds_12 : decode cX12_unwinds 12 = .ok (.getfield 156, 3) := by decide +kernel
theorem dX12_unwinds_15 : decode cX12_unwinds 15 = .ok (.iconst 1, 1) := by decide +kernel
theorem dX12_unwinds_16 : decode cX12_unwinds 16 = .ok (.isub, 1) := by decide +kernel
theorem dX12_unwinds_17 : decode cX12_unwinds 17 = .ok (.iaload, 1) := by decide +kernel
theorem dX12_unwinds_18 : decode cX12_unwinds 18 = .ok (.invokestatic 159, 3) := by decide +kernel
theorem dX12_unwinds_21 : decode cX12_unwinds 21 = .ok (.iload_n 1, 1) := by decide +kernel
theorem dX12_unwinds_22 : decode cX12_unwinds 22 = .ok (.if_icmp .lt 57, 3) := by decide +kernel
theorem dX12_unwinds_25 : decode cX12_unwinds 25 = .ok (.aload_n 0, 1) := by decide +kernel
theorem dX12_unwinds_26 : decode cX12_unwinds 26 = .ok (.dup, 1) := by decide +kernel
theorem dX12_unwinds_27 : decode cX12_unwinds 27 = .ok (.getfield 156, 3) := by decide +kernel
theorem dX12_unwinds_30 : decode cX12_unwinds 30 = .ok (.iconst 1, 1) := by decide +kernel
theorem dX12_unwinds_31 : decode cX12_unwinds 31 = .ok (.isub, 1) := by decide +kernel
theorem dX12_unwinds_32 : decode cX12_unwinds 32 = .ok (.putfield 156, 3) := by decide +kernel
theorem dX12_unwinds_35 : decode cX12_unwinds 35 = .ok (.aload_n 0, 1) := by decide +kernel
theorem dX12_unwinds_36 : decode cX12_unwinds 36 = .ok (.getfield 56, 3) := by decide +kernel
theorem dX12_unwinds_39 : decode cX12_unwinds 39 = .ok (.aload_n 0, 1) := by decide +kernel
theorem dX12_unwinds_40 : decode cX12_unwinds 40 = .ok (.getfield 156, 3) := by decide +kernel
theorem dX12_unwinds_43 : decode cX12_unwinds 43 = .ok (.iaload, 1) := by decide +kernel
theorem dX12_unwinds_44 : decode cX12_unwinds 44 = .ok (.istore_n 2, 1) := by decide +kernel
theorem dX12_unwinds_45 : decode cX12_unwinds 45 = .ok (.aload_n 0, 1) := by decide +kernel
theorem dX12_unwinds_46 : decode cX12_unwinds 46 = .ok (.dup, 1) := by decide +kernel
theorem dX12_unwinds_47 : decode cX12_unwinds 47 = .ok (.getfield 163, 3) := by decide +kernel
theorem dX12_unwinds_50 : decode cX12_unwinds 50 = .ok (.iload_n 2, 1) := by decide +kernel
theorem dX12_unwinds_51 : decode cX12_unwinds 51 = .ok (.bipush 13, 2) := by decide +kernel
theorem dX12_unwinds_53 : decode cX12_unwinds 53 = .ok (.if_icmp .eq 9, 3) := by decide +kernel
theorem dX12_unwinds_56 : decode cX12_unwinds 56 = .ok (.iload_n 2, 1) := by decide +kernel
theorem dX12_unwinds_57 : decode cX12_unwinds 57 = .ok (.bipush 19, 2) := by decide +kernel
theorem dX12_unwinds_59 : decode cX12_unwinds 59 = .ok (.if_icmp .ne 7, 3) := by decide +kernel
theorem dX12_unwinds_62 : decode cX12_unwinds 62 = .ok (.iconst 1, 1) := by decide +kernel
theorem dX12_unwinds_63 : decode cX12_unwinds 63 = .ok (.goto 4, 3) := by decide +kernel
theorem dX12_unwinds_66 : decode cX12_unwinds 66 = .ok (.iconst 0, 1) := by decide +kernel
theorem dX12_unwinds_67 : decode cX12_unwinds 67 = .ok (.isub, 1) := by decide +kernel
theorem dX12_unwinds_68 : decode cX12_unwinds 68 = .ok (.putfield 163, 3) := by decide +kernel
theorem dX12_unwinds_71 : decode cX12_unwinds 71 = .ok (.aload_n 0, 1) := by decide +kernel
theorem dX12_unwinds_72 : decode cX12_unwinds 72 = .ok (.iload_n 2, 1) := by decide +kernel
theorem dX12_unwinds_73 : decode cX12_unwinds 73 = .ok (.invokevirtual 166, 3) := by decide +kernel
theorem dX12_unwinds_76 : decode cX12_unwinds 76 = .ok (.goto (-76), 3) := by decide +kernel
theorem dX12_unwinds_79 : decode cX12_unwinds 79 = .ok (.return_, 1) := by decide +kernel
theorem dX12_holds_0 : decode cX12_holds 0 = .ok (.aload_n 0, 1) := by decide +kernel
theorem dX12_holds_1 : decode cX12_holds 1 = .ok (.getfield 56, 3) := by decide +kernel
theorem dX12_holds_4 : decode cX12_holds 4 = .ok (.aload_n 0, 1) := by decide +kernel
theorem dX12_holds_5 : decode cX12_holds 5 = .ok (.getfield 156, 3) := by decide +kernel
theorem dX12_holds_8 : decode cX12_holds 8 = .ok (.iload_n 1, 1) := by decide +kernel
theorem dX12_holds_9 : decode cX12_holds 9 = .ok (.iastore, 1) := by decide +kernel
theorem dX12_holds_10 : decode cX12_holds 10 = .ok (.aload_n 0, 1) := by decide +kernel
theorem dX12_holds_11 : decode cX12_holds 11 = .ok (.dup, 1) := by decide +kernel
theorem dX12_holds_12 : decode cX12_holds 12 = .ok (.getfield 156, 3) := by decide +kernel
theorem dX12_holds_15 : decode cX12_holds 15 = .ok (.iconst 1, 1) := by decide +kernel
theorem dX12_holds_16 : decode cX12_holds 16 = .ok (.iadd, 1) := by decide +kernel
theorem dX12_holds_17 : decode cX12_holds 17 = .ok (.putfield 156, 3) := by decide +kernel
theorem dX12_holds_20 : decode cX12_holds 20 = .ok (.return_, 1) := by decide +kernel
theorem dX12_opensOne_0 : decode cX12_opensOne 0 = .ok (.aload_n 0, 1) := by decide +kernel
theorem dX12_opensOne_1 : decode cX12_opensOne 1 = .ok (.getfield 163, 3) := by decide +kernel
theorem dX12_opensOne_4 : decode cX12_opensOne 4 = .ok (.iconst 5, 1) := by decide +kernel
theorem dX12_opensOne_5 : decode cX12_opensOne 5 = .ok (.if_icmp .ne 5, 3) := by decide +kernel
theorem dX12_opensOne_8 : decode cX12_opensOne 8 = .ok (.iconst 0, 1) := by decide +kernel
theorem dX12_opensOne_9 : decode cX12_opensOne 9 = .ok (.ireturn, 1) := by decide +kernel
theorem dX12_opensOne_10 : decode cX12_opensOne 10 = .ok (.aload_n 0, 1) := by decide +kernel
theorem dX12_opensOne_11 : decode cX12_opensOne 11 = .ok (.dup, 1) := by decide +kernel
theorem dX12_opensOne_12 : decode cX12_opensOne 12 = .ok (.getfield 163, 3) := by decide +kernel
theorem dX12_opensOne_15 : decode cX12_opensOne 15 = .ok (.iconst 1, 1) := by decide +kernel
theorem dX12_opensOne_16 : decode cX12_opensOne 16 = .ok (.iadd, 1) := by decide +kernel
theorem dX12_opensOne_17 : decode cX12_opensOne 17 = .ok (.putfield 163, 3) := by decide +kernel
theorem dX12_opensOne_20 : decode cX12_opensOne 20 = .ok (.aload_n 0, 1) := by decide +kernel
theorem dX12_opensOne_21 : decode cX12_opensOne 21 = .ok (.iload_n 1, 1) := by decide +kernel
theorem dX12_opensOne_22 : decode cX12_opensOne 22 = .ok (.invokevirtual 170, 3) := by decide +kernel
theorem dX12_opensOne_25 : decode cX12_opensOne 25 = .ok (.iconst 1, 1) := by decide +kernel
theorem dX12_opensOne_26 : decode cX12_opensOne 26 = .ok (.ireturn, 1) := by decide +kernel
theorem dX12_between_0 : decode cX12_between 0 = .ok (.aload_n 0, 1) := by decide +kernel
theorem dX12_between_1 : decode cX12_between 1 = .ok (.iload_n 1, 1) := by decide +kernel
theorem dX12_between_2 : decode cX12_between 2 = .ok (.invokestatic 159, 3) := by decide +kernel
theorem dX12_between_5 : decode cX12_between 5 = .ok (.iconst 4, 1) := by decide +kernel
theorem dX12_between_6 : decode cX12_between 6 = .ok (.if_icmp .ne 7, 3) := by decide +kernel
theorem dX12_between_9 : decode cX12_between 9 = .ok (.iconst 5, 1) := by decide +kernel
theorem dX12_between_10 : decode cX12_between 10 = .ok (.goto 7, 3) := by decide +kernel
theorem dX12_between_13 : decode cX12_between 13 = .ok (.iload_n 1, 1) := by decide +kernel
theorem dX12_between_14 : decode cX12_between 14 = .ok (.invokestatic 159, 3) := by decide +kernel
theorem dX12_between_17 : decode cX12_between 17 = .ok (.invokevirtual 173, 3) := by decide +kernel
theorem dX12_between_20 : decode cX12_between 20 = .ok (.iload_n 1, 1) := by decide +kernel
theorem dX12_between_21 : decode cX12_between 21 = .ok (.invokestatic 159, 3) := by decide +kernel
theorem dX12_between_24 : decode cX12_between 24 = .ok (.iconst 4, 1) := by decide +kernel
theorem dX12_between_25 : decode cX12_between 25 = .ok (.if_icmp .ne 30, 3) := by decide +kernel
theorem dX12_between_28 : decode cX12_between 28 = .ok (.aload_n 0, 1) := by decide +kernel
theorem dX12_between_29 : decode cX12_between 29 = .ok (.getfield 156, 3) := by decide +kernel
theorem dX12_between_32 : decode cX12_between 32 = .ok (.ifCond .le 23, 3) := by decide +kernel
theorem dX12_between_35 : decode cX12_between 35 = .ok (.aload_n 0, 1) := by decide +kernel
theorem dX12_between_36 : decode cX12_between 36 = .ok (.getfield 56, 3) := by decide +kernel
theorem dX12_between_39 : decode cX12_between 39 = .ok (.aload_n 0, 1) := by decide +kernel
theorem dX12_between_40 : decode cX12_between 40 = .ok (.getfield 156, 3) := by decide +kernel
theorem dX12_between_43 : decode cX12_between 43 = .ok (.iconst 1, 1) := by decide +kernel
theorem dX12_between_44 : decode cX12_between 44 = .ok (.isub, 1) := by decide +kernel
theorem dX12_between_45 : decode cX12_between 45 = .ok (.iaload, 1) := by decide +kernel
theorem dX12_between_46 : decode cX12_between 46 = .ok (.invokestatic 159, 3) := by decide +kernel
theorem dX12_between_49 : decode cX12_between 49 = .ok (.iconst 4, 1) := by decide +kernel
theorem dX12_between_50 : decode cX12_between 50 = .ok (.if_icmp .ne 5, 3) := by decide +kernel
theorem dX12_between_53 : decode cX12_between 53 = .ok (.iconst 0, 1) := by decide +kernel
theorem dX12_between_54 : decode cX12_between 54 = .ok (.ireturn, 1) := by decide +kernel
theorem dX12_between_55 : decode cX12_between 55 = .ok (.aload_n 0, 1) := by decide +kernel
theorem dX12_between_56 : decode cX12_between 56 = .ok (.iload_n 1, 1) := by decide +kernel
theorem dX12_between_57 : decode cX12_between 57 = .ok (.invokevirtual 170, 3) := by decide +kernel
theorem dX12_between_60 : decode cX12_between 60 = .ok (.iconst 1, 1) := by decide +kernel
theorem dX12_between_61 : decode cX12_between 61 = .ok (.ireturn, 1) := by decide +kernel
theorem dX12_signOf_0 : decode cX12_signOf 0 = .ok (.aload_n 0, 1) := by decide +kernel
theorem dX12_signOf_1 : decode cX12_signOf 1 = .ok (.getfield 143, 3) := by decide +kernel
theorem dX12_signOf_4 : decode cX12_signOf 4 = .ok (.iconst 4, 1) := by decide +kernel
theorem dX12_signOf_5 : decode cX12_signOf 5 = .ok (.if_icmp .ne 8, 3) := by decide +kernel
theorem dX12_signOf_8 : decode cX12_signOf 8 = .ok (.bipush 11, 2) := by decide +kernel
theorem dX12_signOf_10 : decode cX12_signOf 10 = .ok (.goto 87, 3) := by decide +kernel
theorem dX12_signOf_13 : decode cX12_signOf 13 = .ok (.aload_n 0, 1) := by decide +kernel
theorem dX12_signOf_14 : decode cX12_signOf 14 = .ok (.getfield 143, 3) := by decide +kernel
theorem dX12_signOf_17 : decode cX12_signOf 17 = .ok (.iconst 5, 1) := by decide +kernel
theorem dX12_signOf_18 : decode cX12_signOf 18 = .ok (.if_icmp .ne 8, 3) := by decide +kernel
theorem dX12_signOf_21 : decode cX12_signOf 21 = .ok (.bipush 12, 2) := by decide +kernel
theorem dX12_signOf_23 : decode cX12_signOf 23 = .ok (.goto 74, 3) := by decide +kernel
theorem dX12_signOf_26 : decode cX12_signOf 26 = .ok (.aload_n 0, 1) := by decide +kernel
theorem dX12_signOf_27 : decode cX12_signOf 27 = .ok (.getfield 143, 3) := by decide +kernel
theorem dX12_signOf_30 : decode cX12_signOf 30 = .ok (.bipush 60, 2) := by decide +kernel
theorem dX12_signOf_32 : decode cX12_signOf 32 = .ok (.if_icmp .ne 8, 3) := by decide +kernel
theorem dX12_signOf_35 : decode cX12_signOf 35 = .ok (.bipush 14, 2) := by decide +kernel
theorem dX12_signOf_37 : decode cX12_signOf 37 = .ok (.goto 60, 3) := by decide +kernel
theorem dX12_signOf_40 : decode cX12_signOf 40 = .ok (.aload_n 0, 1) := by decide +kernel
theorem dX12_signOf_41 : decode cX12_signOf 41 = .ok (.getfield 143, 3) := by decide +kernel
theorem dX12_signOf_44 : decode cX12_signOf 44 = .ok (.bipush 61, 2) := by decide +kernel
theorem dX12_signOf_46 : decode cX12_signOf 46 = .ok (.if_icmp .ne 8, 3) := by decide +kernel
theorem dX12_signOf_49 : decode cX12_signOf 49 = .ok (.bipush 15, 2) := by decide +kernel
theorem dX12_signOf_51 : decode cX12_signOf 51 = .ok (.goto 46, 3) := by decide +kernel
theorem dX12_signOf_54 : decode cX12_signOf 54 = .ok (.aload_n 0, 1) := by decide +kernel
theorem dX12_signOf_55 : decode cX12_signOf 55 = .ok (.getfield 143, 3) := by decide +kernel
theorem dX12_signOf_58 : decode cX12_signOf 58 = .ok (.bipush 43, 2) := by decide +kernel
theorem dX12_signOf_60 : decode cX12_signOf 60 = .ok (.if_icmp .ne 8, 3) := by decide +kernel
theorem dX12_signOf_63 : decode cX12_signOf 63 = .ok (.bipush 16, 2) := by decide +kernel
theorem dX12_signOf_65 : decode cX12_signOf 65 = .ok (.goto 32, 3) := by decide +kernel
theorem dX12_signOf_68 : decode cX12_signOf 68 = .ok (.aload_n 0, 1) := by decide +kernel
theorem dX12_signOf_69 : decode cX12_signOf 69 = .ok (.getfield 143, 3) := by decide +kernel
theorem dX12_signOf_72 : decode cX12_signOf 72 = .ok (.bipush 45, 2) := by decide +kernel
theorem dX12_signOf_74 : decode cX12_signOf 74 = .ok (.if_icmp .ne 8, 3) := by decide +kernel
theorem dX12_signOf_77 : decode cX12_signOf 77 = .ok (.bipush 17, 2) := by decide +kernel
theorem dX12_signOf_79 : decode cX12_signOf 79 = .ok (.goto 18, 3) := by decide +kernel
theorem dX12_signOf_82 : decode cX12_signOf 82 = .ok (.aload_n 0, 1) := by decide +kernel
theorem dX12_signOf_83 : decode cX12_signOf 83 = .ok (.getfield 143, 3) := by decide +kernel
theorem dX12_signOf_86 : decode cX12_signOf 86 = .ok (.bipush 42, 2) := by decide +kernel
theorem dX12_signOf_88 : decode cX12_signOf 88 = .ok (.if_icmp .ne 8, 3) := by decide +kernel
theorem dX12_signOf_91 : decode cX12_signOf 91 = .ok (.bipush 18, 2) := by decide +kernel
theorem dX12_signOf_93 : decode cX12_signOf 93 = .ok (.goto 4, 3) := by decide +kernel
theorem dX12_signOf_96 : decode cX12_signOf 96 = .ok (.iconst (-1), 1) := by decide +kernel
theorem dX12_signOf_97 : decode cX12_signOf 97 = .ok (.ireturn, 1) := by decide +kernel
theorem dX12_eRead_0 : decode cX12_eRead 0 = .ok (.aload_n 0, 1) := by decide +kernel
theorem dX12_eRead_1 : decode cX12_eRead 1 = .ok (.iconst 0, 1) := by decide +kernel
theorem dX12_eRead_2 : decode cX12_eRead 2 = .ok (.putfield 156, 3) := by decide +kernel
theorem dX12_eRead_5 : decode cX12_eRead 5 = .ok (.aload_n 0, 1) := by decide +kernel
theorem dX12_eRead_6 : decode cX12_eRead 6 = .ok (.iconst 0, 1) := by decide +kernel
theorem dX12_eRead_7 : decode cX12_eRead 7 = .ok (.putfield 163, 3) := by decide +kernel
theorem dX12_eRead_10 : decode cX12_eRead 10 = .ok (.iconst 1, 1) := by decide +kernel
theorem dX12_eRead_11 : decode cX12_eRead 11 = .ok (.istore_n 1, 1) := by decide +kernel
theorem dX12_eRead_12 : decode cX12_eRead 12 = .ok (.iconst 1, 1) := by decide +kernel
theorem dX12_eRead_13 : decode cX12_eRead 13 = .ok (.istore_n 2, 1) := by decide +kernel
theorem dX12_eRead_14 : decode cX12_eRead 14 = .ok (.aload_n 0, 1) := by decide +kernel
theorem dX12_eRead_15 : decode cX12_eRead 15 = .ok (.invokevirtual 176, 3) := by decide +kernel
theorem dX12_eRead_18 : decode cX12_eRead 18 = .ok (.iload_n 1, 1) := by decide +kernel
theorem dX12_eRead_19 : decode cX12_eRead 19 = .ok (.ifCond .eq 131, 3) := by decide +kernel
theorem dX12_eRead_22 : decode cX12_eRead 22 = .ok (.aload_n 0, 1) := by decide +kernel
theorem dX12_eRead_23 : decode cX12_eRead 23 = .ok (.getfield 143, 3) := by decide +kernel
theorem dX12_eRead_26 : decode cX12_eRead 26 = .ok (.iconst 1, 1) := by decide +kernel
theorem dX12_eRead_27 : decode cX12_eRead 27 = .ok (.if_icmp .eq 11, 3) := by decide +kernel
theorem dX12_eRead_30 : decode cX12_eRead 30 = .ok (.aload_n 0, 1) := by decide +kernel
theorem dX12_eRead_31 : decode cX12_eRead 31 = .ok (.getfield 143, 3) := by decide +kernel
theorem dX12_eRead_34 : decode cX12_eRead 34 = .ok (.iconst 2, 1) := by decide +kernel
theorem dX12_eRead_35 : decode cX12_eRead 35 = .ok (.if_icmp .ne 40, 3) := by decide +kernel
theorem dX12_eRead_38 : decode cX12_eRead 38 = .ok (.aload_n 0, 1) := by decide +kernel
theorem dX12_eRead_39 : decode cX12_eRead 39 = .ok (.aload_n 0, 1) := by decide +kernel
theorem dX12_eRead_40 : decode cX12_eRead 40 = .ok (.getfield 143, 3) := by decide +kernel
theorem dX12_eRead_43 : decode cX12_eRead 43 = .ok (.iconst 1, 1) := by decide +kernel
theorem dX12_eRead_44 : decode cX12_eRead 44 = .ok (.if_icmp .ne 13, 3) := by decide +kernel
theorem dX12_eRead_47 : decode cX12_eRead 47 = .ok (.ldc 179, 2) := by decide +kernel
theorem dX12_eRead_49 : decode cX12_eRead 49 = .ok (.aload_n 0, 1) := by decide +kernel
theorem dX12_eRead_50 : decode cX12_eRead 50 = .ok (.getfield 146, 3) := by decide +kernel
theorem dX12_eRead_53 : decode cX12_eRead 53 = .ok (.iadd, 1) := by decide +kernel
theorem dX12_eRead_54 : decode cX12_eRead 54 = .ok (.goto 7, 3) := by decide +kernel
theorem dX12_eRead_57 : decode cX12_eRead 57 = .ok (.aload_n 0, 1) := by decide +kernel
theorem dX12_eRead_58 : decode cX12_eRead 58 = .ok (.getfield 146, 3) := by decide +kernel
theorem dX12_eRead_61 : decode cX12_eRead 61 = .ok (.invokevirtual 166, 3) := by decide +kernel
theorem dX12_eRead_64 : decode cX12_eRead 64 = .ok (.aload_n 0, 1) := by decide +kernel
theorem dX12_eRead_65 : decode cX12_eRead 65 = .ok (.bipush 7, 2) := by decide +kernel
theorem dX12_eRead_67 : decode cX12_eRead 67 = .ok (.invokevirtual 173, 3) := by decide +kernel
theorem dX12_eRead_70 : decode cX12_eRead 70 = .ok (.iconst 0, 1) := by decide +kernel
theorem dX12_eRead_71 : decode cX12_eRead 71 = .ok (.istore_n 1, 1) := by decide +kernel
theorem dX12_eRead_72 : decode cX12_eRead 72 = .ok (.goto (-58), 3) := by decide +kernel
theorem dX12_eRead_75 : decode cX12_eRead 75 = .ok (.aload_n 0, 1) := by decide +kernel
theorem dX12_eRead_76 : decode cX12_eRead 76 = .ok (.getfield 143, 3) := by decide +kernel
theorem dX12_eRead_79 : decode cX12_eRead 79 = .ok (.bipush 6, 2) := by decide +kernel
theorem dX12_eRead_81 : decode cX12_eRead 81 = .ok (.if_icmp .ne 18, 3) := by decide +kernel
theorem dX12_eRead_84 : decode cX12_eRead 84 = .ok (.iload_n 2, 1) := by decide +kernel
theorem dX12_eRead_85 : decode cX12_eRead 85 = .ok (.ifCond .eq 14, 3) := by decide +kernel
theorem dX12_eRead_88 : decode cX12_eRead 88 = .ok (.aload_n 0, 1) := by decide +kernel
theorem dX12_eRead_89 : decode cX12_eRead 89 = .ok (.bipush 13, 2) := by decide +kernel
theorem dX12_eRead_91 : decode cX12_eRead 91 = .ok (.invokevirtual 180, 3) := by decide +kernel
theorem dX12_eRead_94 : decode cX12_eRead 94 = .ok (.ifCond .ne (-80), 3) := by decide +kernel
theorem dX12_eRead_97 : decode cX12_eRead 97 = .ok (.iconst 0, 1) := by decide +kernel
theorem dX12_eRead_98 : decode cX12_eRead 98 = .ok (.ireturn, 1) := by decide +kernel
theorem dX12_eRead_99 : decode cX12_eRead 99 = .ok (.aload_n 0, 1) := by decide +kernel
theorem dX12_eRead_100 : decode cX12_eRead 100 = .ok (.getfield 143, 3) := by decide +kernel
theorem dX12_eRead_103 : decode cX12_eRead 103 = .ok (.bipush 45, 2) := by decide +kernel
theorem dX12_eRead_105 : decode cX12_eRead 105 = .ok (.if_icmp .ne 19, 3) := by decide +kernel
theorem dX12_eRead_108 : decode cX12_eRead 108 = .ok (.aload_n 0, 1) := by decide +kernel
theorem dX12_eRead_109 : decode cX12_eRead 109 = .ok (.bipush 19, 2) := by decide +kernel
theorem dX12_eRead_111 : decode cX12_eRead 111 = .ok (.invokevirtual 180, 3) := by decide +kernel
theorem dX12_eRead_114 : decode cX12_eRead 114 = .ok (.ifCond .ne 5, 3) := by decide +kernel
theorem dX12_eRead_117 : decode cX12_eRead 117 = .ok (.iconst 0, 1) := by decide +kernel
theorem dX12_eRead_118 : decode cX12_eRead 118 = .ok (.ireturn, 1) := by decide +kernel
theorem dX12_eRead_119 : decode cX12_eRead 119 = .ok (.iconst 0, 1) := by decide +kernel
theorem dX12_eRead_120 : decode cX12_eRead 120 = .ok (.istore_n 2, 1) := by decide +kernel
theorem dX12_eRead_121 : decode cX12_eRead 121 = .ok (.goto (-107), 3) := by decide +kernel
theorem dX12_eRead_124 : decode cX12_eRead 124 = .ok (.aload_n 0, 1) := by decide +kernel
theorem dX12_eRead_125 : decode cX12_eRead 125 = .ok (.getfield 143, 3) := by decide +kernel
theorem dX12_eRead_128 : decode cX12_eRead 128 = .ok (.bipush 40, 2) := by decide +kernel
theorem dX12_eRead_130 : decode cX12_eRead 130 = .ok (.if_icmp .ne 18, 3) := by decide +kernel
theorem dX12_eRead_133 : decode cX12_eRead 133 = .ok (.aload_n 0, 1) := by decide +kernel
theorem dX12_eRead_134 : decode cX12_eRead 134 = .ok (.iconst 0, 1) := by decide +kernel
theorem dX12_eRead_135 : decode cX12_eRead 135 = .ok (.invokevirtual 180, 3) := by decide +kernel
theorem dX12_eRead_138 : decode cX12_eRead 138 = .ok (.ifCond .ne 5, 3) := by decide +kernel
theorem dX12_eRead_141 : decode cX12_eRead 141 = .ok (.iconst 0, 1) := by decide +kernel
theorem dX12_eRead_142 : decode cX12_eRead 142 = .ok (.ireturn, 1) := by decide +kernel
theorem dX12_eRead_143 : decode cX12_eRead 143 = .ok (.iconst 1, 1) := by decide +kernel
theorem dX12_eRead_144 : decode cX12_eRead 144 = .ok (.istore_n 2, 1) := by decide +kernel
theorem dX12_eRead_145 : decode cX12_eRead 145 = .ok (.goto (-131), 3) := by decide +kernel
theorem dX12_eRead_148 : decode cX12_eRead 148 = .ok (.iconst 0, 1) := by decide +kernel
theorem dX12_eRead_149 : decode cX12_eRead 149 = .ok (.ireturn, 1) := by decide +kernel
theorem dX12_eRead_150 : decode cX12_eRead 150 = .ok (.aload_n 0, 1) := by decide +kernel
theorem dX12_eRead_151 : decode cX12_eRead 151 = .ok (.getfield 143, 3) := by decide +kernel
theorem dX12_eRead_154 : decode cX12_eRead 154 = .ok (.bipush 59, 2) := by decide +kernel
theorem dX12_eRead_156 : decode cX12_eRead 156 = .ok (.if_icmp .ne 21, 3) := by decide +kernel
theorem dX12_eRead_159 : decode cX12_eRead 159 = .ok (.aload_n 0, 1) := by decide +kernel
theorem dX12_eRead_160 : decode cX12_eRead 160 = .ok (.iconst 1, 1) := by decide +kernel
theorem dX12_eRead_161 : decode cX12_eRead 161 = .ok (.invokevirtual 173, 3) := by decide +kernel
theorem dX12_eRead_164 : decode cX12_eRead 164 = .ok (.aload_n 0, 1) := by decide +kernel
theorem dX12_eRead_165 : decode cX12_eRead 165 = .ok (.getfield 156, 3) := by decide +kernel
theorem dX12_eRead_168 : decode cX12_eRead 168 = .ok (.ifCond .ne 7, 3) := by decide +kernel
theorem dX12_eRead_171 : decode cX12_eRead 171 = .ok (.iconst 1, 1) := by decide +kernel
theorem dX12_eRead_172 : decode cX12_eRead 172 = .ok (.goto 4, 3) := by decide +kernel
theorem dX12_eRead_175 : decode cX12_eRead 175 = .ok (.iconst 0, 1) := by decide +kernel
theorem dX12_eRead_176 : decode cX12_eRead 176 = .ok (.ireturn, 1) := by decide +kernel
theorem dX12_eRead_177 : decode cX12_eRead 177 = .ok (.aload_n 0, 1) := by decide +kernel
theorem dX12_eRead_178 : decode cX12_eRead 178 = .ok (.getfield 143, 3) := by decide +kernel
theorem dX12_eRead_181 : decode cX12_eRead 181 = .ok (.bipush 41, 2) := by decide +kernel
theorem dX12_eRead_183 : decode cX12_eRead 183 = .ok (.if_icmp .ne 46, 3) := by decide +kernel
theorem dX12_eRead_186 : decode cX12_eRead 186 = .ok (.aload_n 0, 1) := by decide +kernel
theorem dX12_eRead_187 : decode cX12_eRead 187 = .ok (.iconst 1, 1) := by decide +kernel
theorem dX12_eRead_188 : decode cX12_eRead 188 = .ok (.invokevirtual 173, 3) := by decide +kernel
theorem dX12_eRead_191 : decode cX12_eRead 191 = .ok (.aload_n 0, 1) := by decide +kernel
theorem dX12_eRead_192 : decode cX12_eRead 192 = .ok (.getfield 156, 3) := by decide +kernel
theorem dX12_eRead_195 : decode cX12_eRead 195 = .ok (.ifCond .ne 5, 3) := by decide +kernel
theorem dX12_eRead_198 : decode cX12_eRead 198 = .ok (.iconst 0, 1) := by decide +kernel
theorem dX12_eRead_199 : decode cX12_eRead 199 = .ok (.ireturn, 1) := by decide +kernel
theorem dX12_eRead_200 : decode cX12_eRead 200 = .ok (.aload_n 0, 1) := by decide +kernel
theorem dX12_eRead_201 : decode cX12_eRead 201 = .ok (.dup, 1) := by decide +kernel
theorem dX12_eRead_202 : decode cX12_eRead 202 = .ok (.getfield 156, 3) := by decide +kernel
theorem dX12_eRead_205 : decode cX12_eRead 205 = .ok (.iconst 1, 1) := by decide +kernel
theorem dX12_eRead_206 : decode cX12_eRead 206 = .ok (.isub, 1) := by decide +kernel
theorem dX12_eRead_207 : decode cX12_eRead 207 = .ok (.putfield 156, 3) := by decide +kernel
theorem dX12_eRead_210 : decode cX12_eRead 210 = .ok (.aload_n 0, 1) := by decide +kernel
theorem dX12_eRead_211 : decode cX12_eRead 211 = .ok (.dup, 1) := by decide +kernel
theorem dX12_eRead_212 : decode cX12_eRead 212 = .ok (.getfield 163, 3) := by decide +kernel
theorem dX12_eRead_215 : decode cX12_eRead 215 = .ok (.iconst 1, 1) := by decide +kernel
theorem dX12_eRead_216 : decode cX12_eRead 216 = .ok (.isub, 1) := by decide +kernel
theorem dX12_eRead_217 : decode cX12_eRead 217 = .ok (.putfield 163, 3) := by decide +kernel
theorem dX12_eRead_220 : decode cX12_eRead 220 = .ok (.aload_n 0, 1) := by decide +kernel
theorem dX12_eRead_221 : decode cX12_eRead 221 = .ok (.bipush 7, 2) := by decide +kernel
theorem dX12_eRead_223 : decode cX12_eRead 223 = .ok (.invokevirtual 173, 3) := by decide +kernel
theorem dX12_eRead_226 : decode cX12_eRead 226 = .ok (.goto (-212), 3) := by decide +kernel
theorem dX12_eRead_229 : decode cX12_eRead 229 = .ok (.aload_n 0, 1) := by decide +kernel
theorem dX12_eRead_230 : decode cX12_eRead 230 = .ok (.invokevirtual 183, 3) := by decide +kernel
theorem dX12_eRead_233 : decode cX12_eRead 233 = .ok (.istore_n 3, 1) := by decide +kernel
theorem dX12_eRead_234 : decode cX12_eRead 234 = .ok (.iload_n 3, 1) := by decide +kernel
theorem dX12_eRead_235 : decode cX12_eRead 235 = .ok (.iconst (-1), 1) := by decide +kernel
theorem dX12_eRead_236 : decode cX12_eRead 236 = .ok (.if_icmp .eq 11, 3) := by decide +kernel
theorem dX12_eRead_239 : decode cX12_eRead 239 = .ok (.aload_n 0, 1) := by decide +kernel
theorem dX12_eRead_240 : decode cX12_eRead 240 = .ok (.iload_n 3, 1) := by decide +kernel
theorem dX12_eRead_241 : decode cX12_eRead 241 = .ok (.invokevirtual 186, 3) := by decide +kernel
theorem dX12_eRead_244 : decode cX12_eRead 244 = .ok (.ifCond .ne 5, 3) := by decide +kernel
theorem dX12_eRead_247 : decode cX12_eRead 247 = .ok (.iconst 0, 1) := by decide +kernel
theorem dX12_eRead_248 : decode cX12_eRead 248 = .ok (.ireturn, 1) := by decide +kernel
theorem dX12_eRead_249 : decode cX12_eRead 249 = .ok (.iconst 1, 1) := by decide +kernel
theorem dX12_eRead_250 : decode cX12_eRead 250 = .ok (.istore_n 1, 1) := by decide +kernel
theorem dX12_eRead_251 : decode cX12_eRead 251 = .ok (.iload_n 3, 1) := by decide +kernel
theorem dX12_eRead_252 : decode cX12_eRead 252 = .ok (.bipush 12, 2) := by decide +kernel
theorem dX12_eRead_254 : decode cX12_eRead 254 = .ok (.if_icmp .gt 7, 3) := by decide +kernel
theorem dX12_eRead_257 : decode cX12_eRead 257 = .ok (.iconst 1, 1) := by decide +kernel
theorem dX12_eRead_258 : decode cX12_eRead 258 = .ok (.goto 4, 3) := by decide +kernel
theorem dX12_eRead_261 : decode cX12_eRead 261 = .ok (.iconst 0, 1) := by decide +kernel
theorem dX12_eRead_262 : decode cX12_eRead 262 = .ok (.istore_n 2, 1) := by decide +kernel
theorem dX12_eRead_263 : decode cX12_eRead 263 = .ok (.goto (-249), 3) := by decide +kernel
theorem dX12_text_0 : decode cX12_text 0 = .ok (.aload_n 0, 1) := by decide +kernel
theorem dX12_text_1 : decode cX12_text 1 = .ok (.getfield 124, 3) := by decide +kernel
theorem dX12_text_4 : decode cX12_text 4 = .ok (.bipush 6, 2) := by decide +kernel
theorem dX12_text_6 : decode cX12_text 6 = .ok (.if_icmp .ne 6, 3) := by decide +kernel
theorem dX12_text_9 : decode cX12_text 9 = .ok (.bipush (-4), 2) := by decide +kernel
theorem dX12_text_11 : decode cX12_text 11 = .ok (.ireturn, 1) := by decide +kernel
theorem dX12_text_12 : decode cX12_text 12 = .ok (.aload_n 0, 1) := by decide +kernel
theorem dX12_text_13 : decode cX12_text 13 = .ok (.iconst 0, 1) := by decide +kernel
theorem dX12_text_14 : decode cX12_text 14 = .ok (.putfield 137, 3) := by decide +kernel
theorem dX12_text_17 : decode cX12_text 17 = .ok (.aload_n 0, 1) := by decide +kernel
theorem dX12_text_18 : decode cX12_text 18 = .ok (.iconst 0, 1) := by decide +kernel
theorem dX12_text_19 : decode cX12_text 19 = .ok (.putfield 153, 3) := by decide +kernel
theorem dX12_text_22 : decode cX12_text 22 = .ok (.iconst 1, 1) := by decide +kernel
theorem dX12_text_23 : decode cX12_text 23 = .ok (.istore_n 1, 1) := by decide +kernel
theorem dX12_text_24 : decode cX12_text 24 = .ok (.iconst 0, 1) := by decide +kernel
theorem dX12_text_25 : decode cX12_text 25 = .ok (.istore_n 2, 1) := by decide +kernel
theorem dX12_text_26 : decode cX12_text 26 = .ok (.iload_n 2, 1) := by decide +kernel
theorem dX12_text_27 : decode cX12_text 27 = .ok (.iconst 3, 1) := by decide +kernel
theorem dX12_text_28 : decode cX12_text 28 = .ok (.if_icmp .ge 73, 3) := by decide +kernel
theorem dX12_text_31 : decode cX12_text 31 = .ok (.iload_n 1, 1) := by decide +kernel
theorem dX12_text_32 : decode cX12_text 32 = .ok (.ifCond .eq 69, 3) := by decide +kernel
theorem dX12_text_35 : decode cX12_text 35 = .ok (.aload_n 0, 1) := by decide +kernel
theorem dX12_text_36 : decode cX12_text 36 = .ok (.invokevirtual 176, 3) := by decide +kernel
theorem dX12_text_39 : decode cX12_text 39 = .ok (.aload_n 0, 1) := by decide +kernel
theorem dX12_text_40 : decode cX12_text 40 = .ok (.getfield 143, 3) := by decide +kernel
theorem dX12_text_43 : decode cX12_text 43 = .ok (.iconst 3, 1) := by decide +kernel
theorem dX12_text_44 : decode cX12_text 44 = .ok (.if_icmp .ne 15, 3) := by decide +kernel
theorem dX12_text_47 : decode cX12_text 47 = .ok (.aload_n 0, 1) := by decide +kernel
theorem dX12_text_48 : decode cX12_text 48 = .ok (.getfield 146, 3) := by decide +kernel
theorem dX12_text_51 : decode cX12_text 51 = .ok (.iload_n 2, 1) := by decide +kernel
theorem dX12_text_52 : decode cX12_text 52 = .ok (.if_icmp .ne 7, 3) := by decide +kernel
theorem dX12_text_55 : decode cX12_text 55 = .ok (.iconst 1, 1) := by decide +kernel
theorem dX12_text_56 : decode cX12_text 56 = .ok (.goto 4, 3) := by decide +kernel
theorem dX12_text_59 : decode cX12_text 59 = .ok (.iconst 0, 1) := by decide +kernel
theorem dX12_text_60 : decode cX12_text 60 = .ok (.istore_n 1, 1) := by decide +kernel
theorem dX12_text_61 : decode cX12_text 61 = .ok (.aload_n 0, 1) := by decide +kernel
theorem dX12_text_62 : decode cX12_text 62 = .ok (.getfield 35, 3) := by decide +kernel
theorem dX12_text_65 : decode cX12_text 65 = .ok (.iconst 4, 1) := by decide +kernel
theorem dX12_text_66 : decode cX12_text 66 = .ok (.aload_n 0, 1) := by decide +kernel
theorem dX12_text_67 : decode cX12_text 67 = .ok (.getfield 124, 3) := by decide +kernel
theorem dX12_text_70 : decode cX12_text 70 = .ok (.imul, 1) := by decide +kernel
theorem dX12_text_71 : decode cX12_text 71 = .ok (.iload_n 2, 1) := by decide +kernel
theorem dX12_text_72 : decode cX12_text 72 = .ok (.iadd, 1) := by decide +kernel
theorem dX12_text_73 : decode cX12_text 73 = .ok (.aload_n 0, 1) := by decide +kernel
theorem dX12_text_74 : decode cX12_text 74 = .ok (.getfield 153, 3) := by decide +kernel
theorem dX12_text_77 : decode cX12_text 77 = .ok (.iastore, 1) := by decide +kernel
theorem dX12_text_78 : decode cX12_text 78 = .ok (.iload_n 1, 1) := by decide +kernel
theorem dX12_text_79 : decode cX12_text 79 = .ok (.ifCond .eq 14, 3) := by decide +kernel
theorem dX12_text_82 : decode cX12_text 82 = .ok (.aload_n 0, 1) := by decide +kernel
theorem dX12_text_83 : decode cX12_text 83 = .ok (.invokevirtual 189, 3) := by decide +kernel
theorem dX12_text_86 : decode cX12_text 86 = .ok (.ifCond .eq 7, 3) := by decide +kernel
theorem dX12_text_89 : decode cX12_text 89 = .ok (.iconst 1, 1) := by decide +kernel
theorem dX12_text_90 : decode cX12_text 90 = .ok (.goto 4, 3) := by decide +kernel
theorem dX12_text_93 : decode cX12_text 93 = .ok (.iconst 0, 1) := by decide +kernel
theorem dX12_text_94 : decode cX12_text 94 = .ok (.istore_n 1, 1) := by decide +kernel
theorem dX12_text_95 : decode cX12_text 95 = .ok (.iinc 2 1, 3) := by decide +kernel
theorem dX12_text_98 : decode cX12_text 98 = .ok (.goto (-72), 3) := by decide +kernel
theorem dX12_text_101 : decode cX12_text 101 = .ok (.iload_n 1, 1) := by decide +kernel
theorem dX12_text_102 : decode cX12_text 102 = .ok (.ifCond .eq 20, 3) := by decide +kernel
theorem dX12_text_105 : decode cX12_text 105 = .ok (.aload_n 0, 1) := by decide +kernel
theorem dX12_text_106 : decode cX12_text 106 = .ok (.invokevirtual 176, 3) := by decide +kernel
theorem dX12_text_109 : decode cX12_text 109 = .ok (.aload_n 0, 1) := by decide +kernel
theorem dX12_text_110 : decode cX12_text 110 = .ok (.getfield 143, 3) := by decide +kernel
theorem dX12_text_113 : decode cX12_text 113 = .ok (.ifCond .ne 7, 3) := by decide +kernel
theorem dX12_text_116 : decode cX12_text 116 = .ok (.iconst 1, 1) := by decide +kernel
theorem dX12_text_117 : decode cX12_text 117 = .ok (.goto 4, 3) := by decide +kernel
theorem dX12_text_120 : decode cX12_text 120 = .ok (.iconst 0, 1) := by decide +kernel
theorem dX12_text_121 : decode cX12_text 121 = .ok (.istore_n 1, 1) := by decide +kernel
theorem dX12_text_122 : decode cX12_text 122 = .ok (.aload_n 0, 1) := by decide +kernel
theorem dX12_text_123 : decode cX12_text 123 = .ok (.getfield 35, 3) := by decide +kernel
theorem dX12_text_126 : decode cX12_text 126 = .ok (.iconst 4, 1) := by decide +kernel
theorem dX12_text_127 : decode cX12_text 127 = .ok (.aload_n 0, 1) := by decide +kernel
theorem dX12_text_128 : decode cX12_text 128 = .ok (.getfield 124, 3) := by decide +kernel
theorem dX12_text_131 : decode cX12_text 131 = .ok (.imul, 1) := by decide +kernel
theorem dX12_text_132 : decode cX12_text 132 = .ok (.iconst 3, 1) := by decide +kernel
theorem dX12_text_133 : decode cX12_text 133 = .ok (.iadd, 1) := by decide +kernel
theorem dX12_text_134 : decode cX12_text 134 = .ok (.aload_n 0, 1) := by decide +kernel
theorem dX12_text_135 : decode cX12_text 135 = .ok (.getfield 153, 3) := by decide +kernel
theorem dX12_text_138 : decode cX12_text 138 = .ok (.iastore, 1) := by decide +kernel
theorem dX12_text_139 : decode cX12_text 139 = .ok (.aload_n 0, 1) := by decide +kernel
theorem dX12_text_140 : decode cX12_text 140 = .ok (.iconst 0, 1) := by decide +kernel
theorem dX12_text_141 : decode cX12_text 141 = .ok (.putfield 110, 3) := by decide +kernel
theorem dX12_text_144 : decode cX12_text 144 = .ok (.iload_n 1, 1) := by decide +kernel
theorem dX12_text_145 : decode cX12_text 145 = .ok (.ifCond .ne 11, 3) := by decide +kernel
theorem dX12_text_148 : decode cX12_text 148 = .ok (.bipush (-100), 2) := by decide +kernel
theorem dX12_text_150 : decode cX12_text 150 = .ok (.aload_n 0, 1) := by decide +kernel
theorem dX12_text_151 : decode cX12_text 151 = .ok (.getfield 140, 3) := by decide +kernel
theorem dX12_text_154 : decode cX12_text 154 = .ok (.isub, 1) := by decide +kernel
theorem dX12_text_155 : decode cX12_text 155 = .ok (.ireturn, 1) := by decide +kernel
theorem dX12_text_156 : decode cX12_text 156 = .ok (.aload_n 0, 1) := by decide +kernel
theorem dX12_text_157 : decode cX12_text 157 = .ok (.dup, 1) := by decide +kernel
theorem dX12_text_158 : decode cX12_text 158 = .ok (.getfield 124, 3) := by decide +kernel
theorem dX12_text_161 : decode cX12_text 161 = .ok (.iconst 1, 1) := by decide +kernel
theorem dX12_text_162 : decode cX12_text 162 = .ok (.iadd, 1) := by decide +kernel
theorem dX12_text_163 : decode cX12_text 163 = .ok (.putfield 124, 3) := by decide +kernel
theorem dX12_text_166 : decode cX12_text 166 = .ok (.aload_n 0, 1) := by decide +kernel
theorem dX12_text_167 : decode cX12_text 167 = .ok (.getfield 124, 3) := by decide +kernel
theorem dX12_text_170 : decode cX12_text 170 = .ok (.iconst 1, 1) := by decide +kernel
theorem dX12_text_171 : decode cX12_text 171 = .ok (.isub, 1) := by decide +kernel
theorem dX12_text_172 : decode cX12_text 172 = .ok (.ireturn, 1) := by decide +kernel
theorem dX12_two_0 : decode cX12_two 0 = .ok (.iload_n 0, 1) := by decide +kernel
theorem dX12_two_1 : decode cX12_two 1 = .ok (.tableswitch 101 11 17 #[43, 57, 101, 71, 82, 93, 97], 43) := by decide +kernel
theorem dX12_two_44 : decode cX12_two 44 = .ok (.iload_n 1, 1) := by decide +kernel
theorem dX12_two_45 : decode cX12_two 45 = .ok (.ifCond .ne 7, 3) := by decide +kernel
theorem dX12_two_48 : decode cX12_two 48 = .ok (.iload_n 2, 1) := by decide +kernel
theorem dX12_two_49 : decode cX12_two 49 = .ok (.ifCond .eq 7, 3) := by decide +kernel
theorem dX12_two_52 : decode cX12_two 52 = .ok (.iconst 1, 1) := by decide +kernel
theorem dX12_two_53 : decode cX12_two 53 = .ok (.goto 4, 3) := by decide +kernel
theorem dX12_two_56 : decode cX12_two 56 = .ok (.iconst 0, 1) := by decide +kernel
theorem dX12_two_57 : decode cX12_two 57 = .ok (.ireturn, 1) := by decide +kernel
theorem dX12_two_58 : decode cX12_two 58 = .ok (.iload_n 1, 1) := by decide +kernel
theorem dX12_two_59 : decode cX12_two 59 = .ok (.ifCond .eq 11, 3) := by decide +kernel
theorem dX12_two_62 : decode cX12_two 62 = .ok (.iload_n 2, 1) := by decide +kernel
theorem dX12_two_63 : decode cX12_two 63 = .ok (.ifCond .eq 7, 3) := by decide +kernel
theorem dX12_two_66 : decode cX12_two 66 = .ok (.iconst 1, 1) := by decide +kernel
theorem dX12_two_67 : decode cX12_two 67 = .ok (.goto 4, 3) := by decide +kernel
theorem dX12_two_70 : decode cX12_two 70 = .ok (.iconst 0, 1) := by decide +kernel
theorem dX12_two_71 : decode cX12_two 71 = .ok (.ireturn, 1) := by decide +kernel
theorem dX12_two_72 : decode cX12_two 72 = .ok (.iload_n 1, 1) := by decide +kernel
theorem dX12_two_73 : decode cX12_two 73 = .ok (.iload_n 2, 1) := by decide +kernel
theorem dX12_two_74 : decode cX12_two 74 = .ok (.if_icmp .ge 7, 3) := by decide +kernel
theorem dX12_two_77 : decode cX12_two 77 = .ok (.iconst 1, 1) := by decide +kernel
theorem dX12_two_78 : decode cX12_two 78 = .ok (.goto 4, 3) := by decide +kernel
theorem dX12_two_81 : decode cX12_two 81 = .ok (.iconst 0, 1) := by decide +kernel
theorem dX12_two_82 : decode cX12_two 82 = .ok (.ireturn, 1) := by decide +kernel
theorem dX12_two_83 : decode cX12_two 83 = .ok (.iload_n 1, 1) := by decide +kernel
theorem dX12_two_84 : decode cX12_two 84 = .ok (.iload_n 2, 1) := by decide +kernel
theorem dX12_two_85 : decode cX12_two 85 = .ok (.if_icmp .ne 7, 3) := by decide +kernel
theorem dX12_two_88 : decode cX12_two 88 = .ok (.iconst 1, 1) := by decide +kernel
theorem dX12_two_89 : decode cX12_two 89 = .ok (.goto 4, 3) := by decide +kernel
theorem dX12_two_92 : decode cX12_two 92 = .ok (.iconst 0, 1) := by decide +kernel
theorem dX12_two_93 : decode cX12_two 93 = .ok (.ireturn, 1) := by decide +kernel
theorem dX12_two_94 : decode cX12_two 94 = .ok (.iload_n 1, 1) := by decide +kernel
theorem dX12_two_95 : decode cX12_two 95 = .ok (.iload_n 2, 1) := by decide +kernel
theorem dX12_two_96 : decode cX12_two 96 = .ok (.iadd, 1) := by decide +kernel
theorem dX12_two_97 : decode cX12_two 97 = .ok (.ireturn, 1) := by decide +kernel
theorem dX12_two_98 : decode cX12_two 98 = .ok (.iload_n 1, 1) := by decide +kernel
theorem dX12_two_99 : decode cX12_two 99 = .ok (.iload_n 2, 1) := by decide +kernel
theorem dX12_two_100 : decode cX12_two 100 = .ok (.isub, 1) := by decide +kernel
theorem dX12_two_101 : decode cX12_two 101 = .ok (.ireturn, 1) := by decide +kernel
theorem dX12_two_102 : decode cX12_two 102 = .ok (.iload_n 1, 1) := by decide +kernel
theorem dX12_two_103 : decode cX12_two 103 = .ok (.iload_n 2, 1) := by decide +kernel
theorem dX12_two_104 : decode cX12_two 104 = .ok (.imul, 1) := by decide +kernel
theorem dX12_two_105 : decode cX12_two 105 = .ok (.ireturn, 1) := by decide +kernel
theorem dX12_says_0 : decode cX12_says 0 = .ok (.iconst 0, 1) := by decide +kernel
theorem dX12_says_1 : decode cX12_says 1 = .ok (.istore_n 2, 1) := by decide +kernel
theorem dX12_says_2 : decode cX12_says 2 = .ok (.aload_n 0, 1) := by decide +kernel
theorem dX12_says_3 : decode cX12_says 3 = .ok (.getfield 35, 3) := by decide +kernel
theorem dX12_says_6 : decode cX12_says 6 = .ok (.iconst 4, 1) := by decide +kernel
theorem dX12_says_7 : decode cX12_says 7 = .ok (.aload_n 0, 1) := by decide +kernel
theorem dX12_says_8 : decode cX12_says 8 = .ok (.getfield 127, 3) := by decide +kernel
theorem dX12_says_11 : decode cX12_says 11 = .ok (.imul, 1) := by decide +kernel
theorem dX12_says_12 : decode cX12_says 12 = .ok (.iload_n 1, 1) := by decide +kernel
theorem dX12_says_13 : decode cX12_says 13 = .ok (.iadd, 1) := by decide +kernel
theorem dX12_says_14 : decode cX12_says 14 = .ok (.iaload, 1) := by decide +kernel
theorem dX12_says_15 : decode cX12_says 15 = .ok (.istore_n 3, 1) := by decide +kernel
theorem dX12_says_16 : decode cX12_says 16 = .ok (.iload_n 3, 1) := by decide +kernel
theorem dX12_says_17 : decode cX12_says 17 = .ok (.aload_n 0, 1) := by decide +kernel
theorem dX12_says_18 : decode cX12_says 18 = .ok (.getfield 35, 3) := by decide +kernel
theorem dX12_says_21 : decode cX12_says 21 = .ok (.iconst 4, 1) := by decide +kernel
theorem dX12_says_22 : decode cX12_says 22 = .ok (.aload_n 0, 1) := by decide +kernel
theorem dX12_says_23 : decode cX12_says 23 = .ok (.getfield 127, 3) := by decide +kernel
theorem dX12_says_26 : decode cX12_says 26 = .ok (.imul, 1) := by decide +kernel
theorem dX12_says_27 : decode cX12_says 27 = .ok (.iload_n 1, 1) := by decide +kernel
theorem dX12_says_28 : decode cX12_says 28 = .ok (.iadd, 1) := by decide +kernel
theorem dX12_says_29 : decode cX12_says 29 = .ok (.iconst 1, 1) := by decide +kernel
theorem dX12_says_30 : decode cX12_says 30 = .ok (.iadd, 1) := by decide +kernel
theorem dX12_says_31 : decode cX12_says 31 = .ok (.iaload, 1) := by decide +kernel
theorem dX12_says_32 : decode cX12_says 32 = .ok (.if_icmp .ge 165, 3) := by decide +kernel
theorem dX12_says_35 : decode cX12_says 35 = .ok (.aload_n 0, 1) := by decide +kernel
theorem dX12_says_36 : decode cX12_says 36 = .ok (.getfield 32, 3) := by decide +kernel
theorem dX12_says_39 : decode cX12_says 39 = .ok (.sipush 200, 3) := by decide +kernel
theorem dX12_says_42 : decode cX12_says 42 = .ok (.aload_n 0, 1) := by decide +kernel
theorem dX12_says_43 : decode cX12_says 43 = .ok (.getfield 127, 3) := by decide +kernel
theorem dX12_says_46 : decode cX12_says 46 = .ok (.imul, 1) := by decide +kernel
theorem dX12_says_47 : decode cX12_says 47 = .ok (.iload_n 3, 1) := by decide +kernel
theorem dX12_says_48 : decode cX12_says 48 = .ok (.iadd, 1) := by decide +kernel
theorem dX12_says_49 : decode cX12_says 49 = .ok (.iaload, 1) := by decide +kernel
theorem dX12_says_50 : decode cX12_says 50 = .ok (.istore 4, 2) := by decide +kernel
theorem dX12_says_52 : decode cX12_says 52 = .ok (.iload 4, 2) := by decide +kernel
theorem dX12_says_54 : decode cX12_says 54 = .ok (.ldc 179, 2) := by decide +kernel
theorem dX12_says_56 : decode cX12_says 56 = .ok (.if_icmp .ge 10, 3) := by decide +kernel
theorem dX12_says_59 : decode cX12_says 59 = .ok (.iload 4, 2) := by decide +kernel
theorem dX12_says_61 : decode cX12_says 61 = .ok (.bipush 11, 2) := by decide +kernel
theorem dX12_says_63 : decode cX12_says 63 = .ok (.if_icmp .ge 37, 3) := by decide +kernel
theorem dX12_says_66 : decode cX12_says 66 = .ok (.aload_n 0, 1) := by decide +kernel
theorem dX12_says_67 : decode cX12_says 67 = .ok (.getfield 59, 3) := by decide +kernel
theorem dX12_says_70 : decode cX12_says 70 = .ok (.iload_n 2, 1) := by decide +kernel
theorem dX12_says_71 : decode cX12_says 71 = .ok (.iload 4, 2) := by decide +kernel
theorem dX12_says_73 : decode cX12_says 73 = .ok (.bipush 11, 2) := by decide +kernel
theorem dX12_says_75 : decode cX12_says 75 = .ok (.if_icmp .ge 13, 3) := by decide +kernel
theorem dX12_says_78 : decode cX12_says 78 = .ok (.aload_n 0, 1) := by decide +kernel
theorem dX12_says_79 : decode cX12_says 79 = .ok (.getfield 62, 3) := by decide +kernel
theorem dX12_says_82 : decode cX12_says 82 = .ok (.iload 4, 2) := by decide +kernel
theorem dX12_says_84 : decode cX12_says 84 = .ok (.iaload, 1) := by decide +kernel
theorem dX12_says_85 : decode cX12_says 85 = .ok (.goto 8, 3) := by decide +kernel
theorem dX12_says_88 : decode cX12_says 88 = .ok (.iload 4, 2) := by decide +kernel
theorem dX12_says_90 : decode cX12_says 90 = .ok (.ldc 179, 2) := by decide +kernel
theorem dX12_says_92 : decode cX12_says 92 = .ok (.isub, 1) := by decide +kernel
theorem dX12_says_93 : decode cX12_says 93 = .ok (.iastore, 1) := by decide +kernel
theorem dX12_says_94 : decode cX12_says 94 = .ok (.iinc 2 1, 3) := by decide +kernel
theorem dX12_says_97 : decode cX12_says 97 = .ok (.goto 94, 3) := by decide +kernel
theorem dX12_says_100 : decode cX12_says 100 = .ok (.iload 4, 2) := by decide +kernel
theorem dX12_says_102 : decode cX12_says 102 = .ok (.bipush 13, 2) := by decide +kernel
theorem dX12_says_104 : decode cX12_says 104 = .ok (.if_icmp .ne 30, 3) := by decide +kernel
theorem dX12_says_107 : decode cX12_says 107 = .ok (.aload_n 0, 1) := by decide +kernel
theorem dX12_says_108 : decode cX12_says 108 = .ok (.getfield 59, 3) := by decide +kernel
theorem dX12_says_111 : decode cX12_says 111 = .ok (.iload_n 2, 1) := by decide +kernel
theorem dX12_says_112 : decode cX12_says 112 = .ok (.iconst 1, 1) := by decide +kernel
theorem dX12_says_113 : decode cX12_says 113 = .ok (.isub, 1) := by decide +kernel
theorem dX12_says_114 : decode cX12_says 114 = .ok (.aload_n 0, 1) := by decide +kernel
theorem dX12_says_115 : decode cX12_says 115 = .ok (.getfield 59, 3) := by decide +kernel
theorem dX12_says_118 : decode cX12_says 118 = .ok (.iload_n 2, 1) := by decide +kernel
theorem dX12_says_119 : decode cX12_says 119 = .ok (.iconst 1, 1) := by decide +kernel
theorem dX12_says_120 : decode cX12_says 120 = .ok (.isub, 1) := by decide +kernel
theorem dX12_says_121 : decode cX12_says 121 = .ok (.iaload, 1) := by decide +kernel
theorem dX12_says_122 : decode cX12_says 122 = .ok (.ifCond .ne 7, 3) := by decide +kernel
theorem dX12_says_125 : decode cX12_says 125 = .ok (.iconst 1, 1) := by decide +kernel
theorem dX12_says_126 : decode cX12_says 126 = .ok (.goto 4, 3) := by decide +kernel
theorem dX12_says_129 : decode cX12_says 129 = .ok (.iconst 0, 1) := by decide +kernel
theorem dX12_says_130 : decode cX12_says 130 = .ok (.iastore, 1) := by decide +kernel
theorem dX12_says_131 : decode cX12_says 131 = .ok (.goto 60, 3) := by decide +kernel
theorem dX12_says_134 : decode cX12_says 134 = .ok (.iload 4, 2) := by decide +kernel
theorem dX12_says_136 : decode cX12_says 136 = .ok (.bipush 19, 2) := by decide +kernel
theorem dX12_says_138 : decode cX12_says 138 = .ok (.if_icmp .ne 23, 3) := by decide +kernel
theorem dX12_says_141 : decode cX12_says 141 = .ok (.aload_n 0, 1) := by decide +kernel
theorem dX12_says_142 : decode cX12_says 142 = .ok (.getfield 59, 3) := by decide +kernel
theorem dX12_says_145 : decode cX12_says 145 = .ok (.iload_n 2, 1) := by decide +kernel
theorem dX12_says_146 : decode cX12_says 146 = .ok (.iconst 1, 1) := by decide +kernel
theorem dX12_says_147 : decode cX12_says 147 = .ok (.isub, 1) := by decide +kernel
theorem dX12_says_148 : decode cX12_says 148 = .ok (.aload_n 0, 1) := by decide +kernel
theorem dX12_says_149 : decode cX12_says 149 = .ok (.getfield 59, 3) := by decide +kernel
theorem dX12_says_152 : decode cX12_says 152 = .ok (.iload_n 2, 1) := by decide +kernel
theorem dX12_says_153 : decode cX12_says 153 = .ok (.iconst 1, 1) := by decide +kernel
theorem dX12_says_154 : decode cX12_says 154 = .ok (.isub, 1) := by decide +kernel
theorem dX12_says_155 : decode cX12_says 155 = .ok (.iaload, 1) := by decide +kernel
theorem dX12_says_156 : decode cX12_says 156 = .ok (.ineg, 1) := by decide +kernel
theorem dX12_says_157 : decode cX12_says 157 = .ok (.iastore, 1) := by decide +kernel
theorem dX12_says_158 : decode cX12_says 158 = .ok (.goto 33, 3) := by decide +kernel
theorem dX12_says_161 : decode cX12_says 161 = .ok (.iinc 2 (-1), 3) := by decide +kernel
theorem dX12_says_164 : decode cX12_says 164 = .ok (.aload_n 0, 1) := by decide +kernel
theorem dX12_says_165 : decode cX12_says 165 = .ok (.getfield 59, 3) := by decide +kernel
theorem dX12_says_168 : decode cX12_says 168 = .ok (.iload_n 2, 1) := by decide +kernel
theorem dX12_says_169 : decode cX12_says 169 = .ok (.iconst 1, 1) := by decide +kernel
theorem dX12_says_170 : decode cX12_says 170 = .ok (.isub, 1) := by decide +kernel
theorem dX12_says_171 : decode cX12_says 171 = .ok (.iload 4, 2) := by decide +kernel
theorem dX12_says_173 : decode cX12_says 173 = .ok (.aload_n 0, 1) := by decide +kernel
theorem dX12_says_174 : decode cX12_says 174 = .ok (.getfield 59, 3) := by decide +kernel
theorem dX12_says_177 : decode cX12_says 177 = .ok (.iload_n 2, 1) := by decide +kernel
theorem dX12_says_178 : decode cX12_says 178 = .ok (.iconst 1, 1) := by decide +kernel
theorem dX12_says_179 : decode cX12_says 179 = .ok (.isub, 1) := by decide +kernel
theorem dX12_says_180 : decode cX12_says 180 = .ok (.iaload, 1) := by decide +kernel
theorem dX12_says_181 : decode cX12_says 181 = .ok (.aload_n 0, 1) := by decide +kernel
theorem dX12_says_182 : decode cX12_says 182 = .ok (.getfield 59, 3) := by decide +kernel
theorem dX12_says_185 : decode cX12_says 185 = .ok (.iload_n 2, 1) := by decide +kernel
theorem dX12_says_186 : decode cX12_says 186 = .ok (.iaload, 1) := by decide +kernel
theorem dX12_says_187 : decode cX12_says 187 = .ok (.invokestatic 193, 3) := by decide +kernel
theorem dX12_says_190 : decode cX12_says 190 = .ok (.iastore, 1) := by decide +kernel
theorem dX12_says_191 : decode cX12_says 191 = .ok (.iinc 3 1, 3) := by decide +kernel
theorem dX12_says_194 : decode cX12_says 194 = .ok (.goto (-178), 3) := by decide +kernel
theorem dX12_says_197 : decode cX12_says 197 = .ok (.aload_n 0, 1) := by decide +kernel
theorem dX12_says_198 : decode cX12_says 198 = .ok (.getfield 59, 3) := by decide +kernel
theorem dX12_says_201 : decode cX12_says 201 = .ok (.iconst 0, 1) := by decide +kernel
theorem dX12_says_202 : decode cX12_says 202 = .ok (.iaload, 1) := by decide +kernel
theorem dX12_says_203 : decode cX12_says 203 = .ok (.ireturn, 1) := by decide +kernel
theorem dX12_force_0 : decode cX12_force 0 = .ok (.iload_n 1, 1) := by decide +kernel
theorem dX12_force_1 : decode cX12_force 1 = .ok (.iconst 0, 1) := by decide +kernel
theorem dX12_force_2 : decode cX12_force 2 = .ok (.aload_n 0, 1) := by decide +kernel
theorem dX12_force_3 : decode cX12_force 3 = .ok (.getfield 124, 3) := by decide +kernel
theorem dX12_force_6 : decode cX12_force 6 = .ok (.iconst 1, 1) := by decide +kernel
theorem dX12_force_7 : decode cX12_force 7 = .ok (.isub, 1) := by decide +kernel
theorem dX12_force_8 : decode cX12_force 8 = .ok (.invokestatic 120, 3) := by decide +kernel
theorem dX12_force_11 : decode cX12_force 11 = .ok (.ifCond .ne 6, 3) := by decide +kernel
theorem dX12_force_14 : decode cX12_force 14 = .ok (.bipush (-2), 2) := by decide +kernel
theorem dX12_force_16 : decode cX12_force 16 = .ok (.ireturn, 1) := by decide +kernel
theorem dX12_force_17 : decode cX12_force 17 = .ok (.aload_n 0, 1) := by decide +kernel
theorem dX12_force_18 : decode cX12_force 18 = .ok (.getfield 127, 3) := by decide +kernel
theorem dX12_force_21 : decode cX12_force 21 = .ok (.istore_n 2, 1) := by decide +kernel
theorem dX12_force_22 : decode cX12_force 22 = .ok (.aload_n 0, 1) := by decide +kernel
theorem dX12_force_23 : decode cX12_force 23 = .ok (.iload_n 1, 1) := by decide +kernel
theorem dX12_force_24 : decode cX12_force 24 = .ok (.putfield 127, 3) := by decide +kernel
theorem dX12_force_27 : decode cX12_force 27 = .ok (.iload_n 2, 1) := by decide +kernel
theorem dX12_force_28 : decode cX12_force 28 = .ok (.ireturn, 1) := by decide +kernel
theorem dX12_asksOf_0 : decode cX12_asksOf 0 = .ok (.aload_n 0, 1) := by decide +kernel
theorem dX12_asksOf_1 : decode cX12_asksOf 1 = .ok (.getfield 62, 3) := by decide +kernel
theorem dX12_asksOf_4 : decode cX12_asksOf 4 = .ok (.iconst 0, 1) := by decide +kernel
theorem dX12_asksOf_5 : decode cX12_asksOf 5 = .ok (.iload_n 2, 1) := by decide +kernel
theorem dX12_asksOf_6 : decode cX12_asksOf 6 = .ok (.iastore, 1) := by decide +kernel
theorem dX12_asksOf_7 : decode cX12_asksOf 7 = .ok (.aload_n 0, 1) := by decide +kernel
theorem dX12_asksOf_8 : decode cX12_asksOf 8 = .ok (.getfield 62, 3) := by decide +kernel
theorem dX12_asksOf_11 : decode cX12_asksOf 11 = .ok (.iconst 1, 1) := by decide +kernel
theorem dX12_asksOf_12 : decode cX12_asksOf 12 = .ok (.iload 4, 2) := by decide +kernel
theorem dX12_asksOf_14 : decode cX12_asksOf 14 = .ok (.iastore, 1) := by decide +kernel
theorem dX12_asksOf_15 : decode cX12_asksOf 15 = .ok (.aload_n 0, 1) := by decide +kernel
theorem dX12_asksOf_16 : decode cX12_asksOf 16 = .ok (.getfield 62, 3) := by decide +kernel
theorem dX12_asksOf_19 : decode cX12_asksOf 19 = .ok (.iconst 2, 1) := by decide +kernel
theorem dX12_asksOf_20 : decode cX12_asksOf 20 = .ok (.aload_n 0, 1) := by decide +kernel
theorem dX12_asksOf_21 : decode cX12_asksOf 21 = .ok (.getfield 23, 3) := by decide +kernel
theorem dX12_asksOf_24 : decode cX12_asksOf 24 = .ok (.iload 4, 2) := by decide +kernel
theorem dX12_asksOf_26 : decode cX12_asksOf 26 = .ok (.iaload, 1) := by decide +kernel
theorem dX12_asksOf_27 : decode cX12_asksOf 27 = .ok (.iastore, 1) := by decide +kernel
theorem dX12_asksOf_28 : decode cX12_asksOf 28 = .ok (.aload_n 0, 1) := by decide +kernel
theorem dX12_asksOf_29 : decode cX12_asksOf 29 = .ok (.getfield 62, 3) := by decide +kernel
theorem dX12_asksOf_32 : decode cX12_asksOf 32 = .ok (.iconst 3, 1) := by decide +kernel
theorem dX12_asksOf_33 : decode cX12_asksOf 33 = .ok (.iload_n 3, 1) := by decide +kernel
theorem dX12_asksOf_34 : decode cX12_asksOf 34 = .ok (.iastore, 1) := by decide +kernel
theorem dX12_asksOf_35 : decode cX12_asksOf 35 = .ok (.aload_n 0, 1) := by decide +kernel
theorem dX12_asksOf_36 : decode cX12_asksOf 36 = .ok (.getfield 62, 3) := by decide +kernel
theorem dX12_asksOf_39 : decode cX12_asksOf 39 = .ok (.iconst 4, 1) := by decide +kernel
theorem dX12_asksOf_40 : decode cX12_asksOf 40 = .ok (.iload 5, 2) := by decide +kernel
theorem dX12_asksOf_42 : decode cX12_asksOf 42 = .ok (.iastore, 1) := by decide +kernel
theorem dX12_asksOf_43 : decode cX12_asksOf 43 = .ok (.aload_n 0, 1) := by decide +kernel
theorem dX12_asksOf_44 : decode cX12_asksOf 44 = .ok (.getfield 62, 3) := by decide +kernel
theorem dX12_asksOf_47 : decode cX12_asksOf 47 = .ok (.iconst 5, 1) := by decide +kernel
theorem dX12_asksOf_48 : decode cX12_asksOf 48 = .ok (.aload_n 0, 1) := by decide +kernel
theorem dX12_asksOf_49 : decode cX12_asksOf 49 = .ok (.getfield 117, 3) := by decide +kernel
theorem dX12_asksOf_52 : decode cX12_asksOf 52 = .ok (.iastore, 1) := by decide +kernel
theorem dX12_asksOf_53 : decode cX12_asksOf 53 = .ok (.aload_n 0, 1) := by decide +kernel
theorem dX12_asksOf_54 : decode cX12_asksOf 54 = .ok (.iload_n 1, 1) := by decide +kernel
theorem dX12_asksOf_55 : decode cX12_asksOf 55 = .ok (.invokevirtual 197, 3) := by decide +kernel
theorem dX12_asksOf_58 : decode cX12_asksOf 58 = .ok (.iload_n 1, 1) := by decide +kernel
theorem dX12_asksOf_59 : decode cX12_asksOf 59 = .ok (.iconst 2, 1) := by decide +kernel
theorem dX12_asksOf_60 : decode cX12_asksOf 60 = .ok (.if_icmp .ne 7, 3) := by decide +kernel
theorem dX12_asksOf_63 : decode cX12_asksOf 63 = .ok (.iconst 0, 1) := by decide +kernel
theorem dX12_asksOf_64 : decode cX12_asksOf 64 = .ok (.goto 4, 3) := by decide +kernel
theorem dX12_asksOf_67 : decode cX12_asksOf 67 = .ok (.iconst 1, 1) := by decide +kernel
theorem dX12_asksOf_68 : decode cX12_asksOf 68 = .ok (.iload_n 1, 1) := by decide +kernel
theorem dX12_asksOf_69 : decode cX12_asksOf 69 = .ok (.iconst 2, 1) := by decide +kernel
theorem dX12_asksOf_70 : decode cX12_asksOf 70 = .ok (.if_icmp .ne 8, 3) := by decide +kernel
theorem dX12_asksOf_73 : decode cX12_asksOf 73 = .ok (.bipush 99, 2) := by decide +kernel
theorem dX12_asksOf_75 : decode cX12_asksOf 75 = .ok (.goto 5, 3) := by decide +kernel
theorem dX12_asksOf_78 : decode cX12_asksOf 78 = .ok (.bipush 20, 2) := by decide +kernel
theorem dX12_asksOf_80 : decode cX12_asksOf 80 = .ok (.invokestatic 200, 3) := by decide +kernel
theorem dX12_asksOf_83 : decode cX12_asksOf 83 = .ok (.ireturn, 1) := by decide +kernel
theorem dX12_asks_0 : decode cX12_asks 0 = .ok (.iload_n 1, 1) := by decide +kernel
theorem dX12_asks_1 : decode cX12_asks 1 = .ok (.iconst 0, 1) := by decide +kernel
theorem dX12_asks_2 : decode cX12_asks 2 = .ok (.iconst 2, 1) := by decide +kernel
theorem dX12_asks_3 : decode cX12_asks 3 = .ok (.invokestatic 120, 3) := by decide +kernel
theorem dX12_asks_6 : decode cX12_asks 6 = .ok (.ifCond .eq 45, 3) := by decide +kernel
theorem dX12_asks_9 : decode cX12_asks 9 = .ok (.iload_n 2, 1) := by decide +kernel
theorem dX12_asks_10 : decode cX12_asks 10 = .ok (.iconst 0, 1) := by decide +kernel
theorem dX12_asks_11 : decode cX12_asks 11 = .ok (.sipush 8200, 3) := by decide +kernel
theorem dX12_asks_14 : decode cX12_asks 14 = .ok (.invokestatic 120, 3) := by decide +kernel
theorem dX12_asks_17 : decode cX12_asks 17 = .ok (.ifCond .eq 34, 3) := by decide +kernel
theorem dX12_asks_20 : decode cX12_asks 20 = .ok (.iload_n 2, 1) := by decide +kernel
theorem dX12_asks_21 : decode cX12_asks 21 = .ok (.sipush 1000, 3) := by decide +kernel
theorem dX12_asks_24 : decode cX12_asks 24 = .ok (.irem, 1) := by decide +kernel
theorem dX12_asks_25 : decode cX12_asks 25 = .ok (.sipush 200, 3) := by decide +kernel
theorem dX12_asks_28 : decode cX12_asks 28 = .ok (.if_icmp .gt 23, 3) := by decide +kernel
theorem dX12_asks_31 : decode cX12_asks 31 = .ok (.iload_n 3, 1) := by decide +kernel
theorem dX12_asks_32 : decode cX12_asks 32 = .ok (.ifCond .lt 19, 3) := by decide +kernel
theorem dX12_asks_35 : decode cX12_asks 35 = .ok (.aload_n 0, 1) := by decide +kernel
theorem dX12_asks_36 : decode cX12_asks 36 = .ok (.iload_n 3, 1) := by decide +kernel
theorem dX12_asks_37 : decode cX12_asks 37 = .ok (.sipush 1000, 3) := by decide +kernel
theorem dX12_asks_40 : decode cX12_asks 40 = .ok (.idiv, 1) := by decide +kernel
theorem dX12_asks_41 : decode cX12_asks 41 = .ok (.invokevirtual 203, 3) := by decide +kernel
theorem dX12_asks_44 : decode cX12_asks 44 = .ok (.ifCond .eq 7, 3) := by decide +kernel
theorem dX12_asks_47 : decode cX12_asks 47 = .ok (.iconst 1, 1) := by decide +kernel
theorem dX12_asks_48 : decode cX12_asks 48 = .ok (.goto 4, 3) := by decide +kernel
theorem dX12_asks_51 : decode cX12_asks 51 = .ok (.iconst 0, 1) := by decide +kernel
theorem dX12_asks_52 : decode cX12_asks 52 = .ok (.istore 4, 2) := by decide +kernel
theorem dX12_asks_54 : decode cX12_asks 54 = .ok (.iload 4, 2) := by decide +kernel
theorem dX12_asks_56 : decode cX12_asks 56 = .ok (.ifCond .eq 31, 3) := by decide +kernel
theorem dX12_asks_59 : decode cX12_asks 59 = .ok (.aload_n 0, 1) := by decide +kernel
theorem dX12_asks_60 : decode cX12_asks 60 = .ok (.iload_n 1, 1) := by decide +kernel
theorem dX12_asks_61 : decode cX12_asks 61 = .ok (.iload_n 2, 1) := by decide +kernel
theorem dX12_asks_62 : decode cX12_asks 62 = .ok (.sipush 1000, 3) := by decide +kernel
theorem dX12_asks_65 : decode cX12_asks 65 = .ok (.idiv, 1) := by decide +kernel
theorem dX12_asks_66 : decode cX12_asks 66 = .ok (.iload_n 2, 1) := by decide +kernel
theorem dX12_asks_67 : decode cX12_asks 67 = .ok (.sipush 1000, 3) := by decide +kernel
theorem dX12_asks_70 : decode cX12_asks 70 = .ok (.irem, 1) := by decide +kernel
theorem dX12_asks_71 : decode cX12_asks 71 = .ok (.iload_n 3, 1) := by decide +kernel
theorem dX12_asks_72 : decode cX12_asks 72 = .ok (.sipush 1000, 3) := by decide +kernel
theorem dX12_asks_75 : decode cX12_asks 75 = .ok (.idiv, 1) := by decide +kernel
theorem dX12_asks_76 : decode cX12_asks 76 = .ok (.iload_n 3, 1) := by decide +kernel
theorem dX12_asks_77 : decode cX12_asks 77 = .ok (.sipush 1000, 3) := by decide +kernel
theorem dX12_asks_80 : decode cX12_asks 80 = .ok (.irem, 1) := by decide +kernel
theorem dX12_asks_81 : decode cX12_asks 81 = .ok (.invokevirtual 206, 3) := by decide +kernel
theorem dX12_asks_84 : decode cX12_asks 84 = .ok (.goto 5, 3) := by decide +kernel
theorem dX12_asks_87 : decode cX12_asks 87 = .ok (.bipush (-2), 2) := by decide +kernel
theorem dX12_asks_89 : decode cX12_asks 89 = .ok (.ireturn, 1) := by decide +kernel
theorem dX12_walker_0 : decode cX12_walker 0 = .ok (.iload_n 1, 1) := by decide +kernel
theorem dX12_walker_1 : decode cX12_walker 1 = .ok (.iconst 0, 1) := by decide +kernel
theorem dX12_walker_2 : decode cX12_walker 2 = .ok (.iconst 5, 1) := by decide +kernel
theorem dX12_walker_3 : decode cX12_walker 3 = .ok (.invokestatic 120, 3) := by decide +kernel
theorem dX12_walker_6 : decode cX12_walker 6 = .ok (.ifCond .eq 20, 3) := by decide +kernel
theorem dX12_walker_9 : decode cX12_walker 9 = .ok (.iload_n 2, 1) := by decide +kernel
theorem dX12_walker_10 : decode cX12_walker 10 = .ok (.iconst 0, 1) := by decide +kernel
theorem dX12_walker_11 : decode cX12_walker 11 = .ok (.bipush 9, 2) := by decide +kernel
theorem dX12_walker_13 : decode cX12_walker 13 = .ok (.invokestatic 120, 3) := by decide +kernel
theorem dX12_walker_16 : decode cX12_walker 16 = .ok (.ifCond .eq 10, 3) := by decide +kernel
theorem dX12_walker_19 : decode cX12_walker 19 = .ok (.iload_n 3, 1) := by decide +kernel
theorem dX12_walker_20 : decode cX12_walker 20 = .ok (.invokestatic 130, 3) := by decide +kernel
theorem dX12_walker_23 : decode cX12_walker 23 = .ok (.ifCond .ne 6, 3) := by decide +kernel
theorem dX12_walker_26 : decode cX12_walker 26 = .ok (.bipush (-2), 2) := by decide +kernel
theorem dX12_walker_28 : decode cX12_walker 28 = .ok (.ireturn, 1) := by decide +kernel
theorem dX12_walker_29 : decode cX12_walker 29 = .ok (.aload_n 0, 1) := by decide +kernel
theorem dX12_walker_30 : decode cX12_walker 30 = .ok (.getfield 117, 3) := by decide +kernel
theorem dX12_walker_33 : decode cX12_walker 33 = .ok (.iconst 5, 1) := by decide +kernel
theorem dX12_walker_34 : decode cX12_walker 34 = .ok (.if_icmp .ne 6, 3) := by decide +kernel
theorem dX12_walker_37 : decode cX12_walker 37 = .ok (.bipush (-4), 2) := by decide +kernel
theorem dX12_walker_39 : decode cX12_walker 39 = .ok (.ireturn, 1) := by decide +kernel
theorem dX12_walker_40 : decode cX12_walker 40 = .ok (.aload_n 0, 1) := by decide +kernel
theorem dX12_walker_41 : decode cX12_walker 41 = .ok (.getfield 20, 3) := by decide +kernel
theorem dX12_walker_44 : decode cX12_walker 44 = .ok (.aload_n 0, 1) := by decide +kernel
theorem dX12_walker_45 : decode cX12_walker 45 = .ok (.getfield 117, 3) := by decide +kernel
theorem dX12_walker_48 : decode cX12_walker 48 = .ok (.iload_n 1, 1) := by decide +kernel
theorem dX12_walker_49 : decode cX12_walker 49 = .ok (.iastore, 1) := by decide +kernel
theorem dX12_walker_50 : decode cX12_walker 50 = .ok (.aload_n 0, 1) := by decide +kernel
theorem dX12_walker_51 : decode cX12_walker 51 = .ok (.getfield 23, 3) := by decide +kernel
theorem dX12_walker_54 : decode cX12_walker 54 = .ok (.aload_n 0, 1) := by decide +kernel
theorem dX12_walker_55 : decode cX12_walker 55 = .ok (.getfield 117, 3) := by decide +kernel
theorem dX12_walker_58 : decode cX12_walker 58 = .ok (.iload_n 2, 1) := by decide +kernel
theorem dX12_walker_59 : decode cX12_walker 59 = .ok (.iastore, 1) := by decide +kernel
theorem dX12_walker_60 : decode cX12_walker 60 = .ok (.aload_n 0, 1) := by decide +kernel
theorem dX12_walker_61 : decode cX12_walker 61 = .ok (.getfield 26, 3) := by decide +kernel
theorem dX12_walker_64 : decode cX12_walker 64 = .ok (.aload_n 0, 1) := by decide +kernel
theorem dX12_walker_65 : decode cX12_walker 65 = .ok (.getfield 117, 3) := by decide +kernel
theorem dX12_walker_68 : decode cX12_walker 68 = .ok (.iload_n 3, 1) := by decide +kernel
theorem dX12_walker_69 : decode cX12_walker 69 = .ok (.iastore, 1) := by decide +kernel
theorem dX12_walker_70 : decode cX12_walker 70 = .ok (.aload_n 0, 1) := by decide +kernel
theorem dX12_walker_71 : decode cX12_walker 71 = .ok (.dup, 1) := by decide +kernel
theorem dX12_walker_72 : decode cX12_walker 72 = .ok (.getfield 117, 3) := by decide +kernel
theorem dX12_walker_75 : decode cX12_walker 75 = .ok (.iconst 1, 1) := by decide +kernel
theorem dX12_walker_76 : decode cX12_walker 76 = .ok (.iadd, 1) := by decide +kernel
theorem dX12_walker_77 : decode cX12_walker 77 = .ok (.putfield 117, 3) := by decide +kernel
theorem dX12_walker_80 : decode cX12_walker 80 = .ok (.aload_n 0, 1) := by decide +kernel
theorem dX12_walker_81 : decode cX12_walker 81 = .ok (.getfield 117, 3) := by decide +kernel
theorem dX12_walker_84 : decode cX12_walker 84 = .ok (.iconst 1, 1) := by decide +kernel
theorem dX12_walker_85 : decode cX12_walker 85 = .ok (.isub, 1) := by decide +kernel
theorem dX12_walker_86 : decode cX12_walker 86 = .ok (.ireturn, 1) := by decide +kernel
theorem dX12_begin_0 : decode cX12_begin 0 = .ok (.aload_n 0, 1) := by decide +kernel
theorem dX12_begin_1 : decode cX12_begin 1 = .ok (.iload_n 1, 1) := by decide +kernel
theorem dX12_begin_2 : decode cX12_begin 2 = .ok (.invokevirtual 203, 3) := by decide +kernel
theorem dX12_begin_5 : decode cX12_begin 5 = .ok (.ifCond .ne 6, 3) := by decide +kernel
theorem dX12_begin_8 : decode cX12_begin 8 = .ok (.bipush (-5), 2) := by decide +kernel
theorem dX12_begin_10 : decode cX12_begin 10 = .ok (.ireturn, 1) := by decide +kernel
theorem dX12_begin_11 : decode cX12_begin 11 = .ok (.iload_n 2, 1) := by decide +kernel
theorem dX12_begin_12 : decode cX12_begin 12 = .ok (.invokestatic 130, 3) := by decide +kernel
theorem dX12_begin_15 : decode cX12_begin 15 = .ok (.ifCond .ne 6, 3) := by decide +kernel
theorem dX12_begin_18 : decode cX12_begin 18 = .ok (.bipush (-7), 2) := by decide +kernel
theorem dX12_begin_20 : decode cX12_begin 20 = .ok (.ireturn, 1) := by decide +kernel
theorem dX12_begin_21 : decode cX12_begin 21 = .ok (.aload_n 0, 1) := by decide +kernel
theorem dX12_begin_22 : decode cX12_begin 22 = .ok (.getfield 26, 3) := by decide +kernel
theorem dX12_begin_25 : decode cX12_begin 25 = .ok (.iload_n 1, 1) := by decide +kernel
theorem dX12_begin_26 : decode cX12_begin 26 = .ok (.iaload, 1) := by decide +kernel
theorem dX12_begin_27 : decode cX12_begin 27 = .ok (.istore_n 3, 1) := by decide +kernel
theorem dX12_begin_28 : decode cX12_begin 28 = .ok (.aload_n 0, 1) := by decide +kernel
theorem dX12_begin_29 : decode cX12_begin 29 = .ok (.getfield 26, 3) := by decide +kernel
theorem dX12_begin_32 : decode cX12_begin 32 = .ok (.iload_n 1, 1) := by decide +kernel
theorem dX12_begin_33 : decode cX12_begin 33 = .ok (.iload_n 2, 1) := by decide +kernel
theorem dX12_begin_34 : decode cX12_begin 34 = .ok (.iastore, 1) := by decide +kernel
theorem dX12_begin_35 : decode cX12_begin 35 = .ok (.iload_n 3, 1) := by decide +kernel
theorem dX12_begin_36 : decode cX12_begin 36 = .ok (.ireturn, 1) := by decide +kernel
theorem dX12_told_0 : decode cX12_told 0 = .ok (.aload_n 0, 1) := by decide +kernel
theorem dX12_told_1 : decode cX12_told 1 = .ok (.iload_n 1, 1) := by decide +kernel
theorem dX12_told_2 : decode cX12_told 2 = .ok (.invokevirtual 203, 3) := by decide +kernel
theorem dX12_told_5 : decode cX12_told 5 = .ok (.ifCond .ne 6, 3) := by decide +kernel
theorem dX12_told_8 : decode cX12_told 8 = .ok (.bipush (-5), 2) := by decide +kernel
theorem dX12_told_10 : decode cX12_told 10 = .ok (.ireturn, 1) := by decide +kernel
theorem dX12_told_11 : decode cX12_told 11 = .ok (.iload_n 2, 1) := by decide +kernel
theorem dX12_told_12 : decode cX12_told 12 = .ok (.tableswitch 69 0 3 #[32, 39, 46, 53], 32) := by decide +kernel
theorem dX12_told_44 : decode cX12_told 44 = .ok (.aload_n 0, 1) := by decide +kernel
theorem dX12_told_45 : decode cX12_told 45 = .ok (.getfield 20, 3) := by decide +kernel
theorem dX12_told_48 : decode cX12_told 48 = .ok (.iload_n 1, 1) := by decide +kernel
theorem dX12_told_49 : decode cX12_told 49 = .ok (.iaload, 1) := by decide +kernel
theorem dX12_told_50 : decode cX12_told 50 = .ok (.ireturn, 1) := by decide +kernel
theorem dX12_told_51 : decode cX12_told 51 = .ok (.aload_n 0, 1) := by decide +kernel
theorem dX12_told_52 : decode cX12_told 52 = .ok (.getfield 23, 3) := by decide +kernel
theorem dX12_told_55 : decode cX12_told 55 = .ok (.iload_n 1, 1) := by decide +kernel
theorem dX12_told_56 : decode cX12_told 56 = .ok (.iaload, 1) := by decide +kernel
theorem dX12_told_57 : decode cX12_told 57 = .ok (.ireturn, 1) := by decide +kernel
theorem dX12_told_58 : decode cX12_told 58 = .ok (.aload_n 0, 1) := by decide +kernel
theorem dX12_told_59 : decode cX12_told 59 = .ok (.getfield 26, 3) := by decide +kernel
theorem dX12_told_62 : decode cX12_told 62 = .ok (.iload_n 1, 1) := by decide +kernel
theorem dX12_told_63 : decode cX12_told 63 = .ok (.iaload, 1) := by decide +kernel
theorem dX12_told_64 : decode cX12_told 64 = .ok (.ireturn, 1) := by decide +kernel
theorem dX12_told_65 : decode cX12_told 65 = .ok (.aload_n 0, 1) := by decide +kernel
theorem dX12_told_66 : decode cX12_told 66 = .ok (.getfield 20, 3) := by decide +kernel
theorem dX12_told_69 : decode cX12_told 69 = .ok (.iload_n 1, 1) := by decide +kernel
theorem dX12_told_70 : decode cX12_told 70 = .ok (.iaload, 1) := by decide +kernel
theorem dX12_told_71 : decode cX12_told 71 = .ok (.iconst 3, 1) := by decide +kernel
theorem dX12_told_72 : decode cX12_told 72 = .ok (.if_icmp .ne 7, 3) := by decide +kernel
theorem dX12_told_75 : decode cX12_told 75 = .ok (.iconst 0, 1) := by decide +kernel
theorem dX12_told_76 : decode cX12_told 76 = .ok (.goto 4, 3) := by decide +kernel
theorem dX12_told_79 : decode cX12_told 79 = .ok (.iconst 1, 1) := by decide +kernel
theorem dX12_told_80 : decode cX12_told 80 = .ok (.ireturn, 1) := by decide +kernel
theorem dX12_told_81 : decode cX12_told 81 = .ok (.bipush (-7), 2) := by decide +kernel
theorem dX12_told_83 : decode cX12_told 83 = .ok (.ireturn, 1) := by decide +kernel
theorem dX12_takesOf_0 : decode cX12_takesOf 0 = .ok (.aload_n 0, 1) := by decide +kernel
theorem dX12_takesOf_1 : decode cX12_takesOf 1 = .ok (.iconst 0, 1) := by decide +kernel
theorem dX12_takesOf_2 : decode cX12_takesOf 2 = .ok (.iload_n 2, 1) := by decide +kernel
theorem dX12_takesOf_3 : decode cX12_takesOf 3 = .ok (.iload_n 3, 1) := by decide +kernel
theorem dX12_takesOf_4 : decode cX12_takesOf 4 = .ok (.iload_n 1, 1) := by decide +kernel
theorem dX12_takesOf_5 : decode cX12_takesOf 5 = .ok (.iload 4, 2) := by decide +kernel
theorem dX12_takesOf_7 : decode cX12_takesOf 7 = .ok (.invokevirtual 206, 3) := by decide +kernel
theorem dX12_takesOf_10 : decode cX12_takesOf 10 = .ok (.istore 5, 2) := by decide +kernel
theorem dX12_takesOf_12 : decode cX12_takesOf 12 = .ok (.aload_n 0, 1) := by decide +kernel
theorem dX12_takesOf_13 : decode cX12_takesOf 13 = .ok (.getfield 23, 3) := by decide +kernel
theorem dX12_takesOf_16 : decode cX12_takesOf 16 = .ok (.iload_n 1, 1) := by decide +kernel
theorem dX12_takesOf_17 : decode cX12_takesOf 17 = .ok (.iaload, 1) := by decide +kernel
theorem dX12_takesOf_18 : decode cX12_takesOf 18 = .ok (.istore 6, 2) := by decide +kernel
theorem dX12_takesOf_20 : decode cX12_takesOf 20 = .ok (.aload_n 0, 1) := by decide +kernel
theorem dX12_takesOf_21 : decode cX12_takesOf 21 = .ok (.getfield 20, 3) := by decide +kernel
theorem dX12_takesOf_24 : decode cX12_takesOf 24 = .ok (.iload_n 1, 1) := by decide +kernel
theorem dX12_takesOf_25 : decode cX12_takesOf 25 = .ok (.iaload, 1) := by decide +kernel
theorem dX12_takesOf_26 : decode cX12_takesOf 26 = .ok (.tableswitch 94 2 5 #[30, 42, 48, 73], 30) := by decide +kernel
theorem dX12_takesOf_56 : decode cX12_takesOf 56 = .ok (.iload 5, 2) := by decide +kernel
theorem dX12_takesOf_58 : decode cX12_takesOf 58 = .ok (.iload 6, 2) := by decide +kernel
theorem dX12_takesOf_60 : decode cX12_takesOf 60 = .ok (.iconst 2, 1) := by decide +kernel
theorem dX12_takesOf_61 : decode cX12_takesOf 61 = .ok (.idiv, 1) := by decide +kernel
theorem dX12_takesOf_62 : decode cX12_takesOf 62 = .ok (.iadd, 1) := by decide +kernel
theorem dX12_takesOf_63 : decode cX12_takesOf 63 = .ok (.istore 5, 2) := by decide +kernel
theorem dX12_takesOf_65 : decode cX12_takesOf 65 = .ok (.goto 55, 3) := by decide +kernel
theorem dX12_takesOf_68 : decode cX12_takesOf 68 = .ok (.iinc 5 1, 3) := by decide +kernel
theorem dX12_takesOf_71 : decode cX12_takesOf 71 = .ok (.goto 49, 3) := by decide +kernel
theorem dX12_takesOf_74 : decode cX12_takesOf 74 = .ok (.iload 5, 2) := by decide +kernel
theorem dX12_takesOf_76 : decode cX12_takesOf 76 = .ok (.iload 6, 2) := by decide +kernel
theorem dX12_takesOf_78 : decode cX12_takesOf 78 = .ok (.iconst 2, 1) := by decide +kernel
theorem dX12_takesOf_79 : decode cX12_takesOf 79 = .ok (.idiv, 1) := by decide +kernel
theorem dX12_takesOf_80 : decode cX12_takesOf 80 = .ok (.iload 4, 2) := by decide +kernel
theorem dX12_takesOf_82 : decode cX12_takesOf 82 = .ok (.iload 6, 2) := by decide +kernel
theorem dX12_takesOf_84 : decode cX12_takesOf 84 = .ok (.if_icmp .le 7, 3) := by decide +kernel
theorem dX12_takesOf_87 : decode cX12_takesOf 87 = .ok (.iconst 2, 1) := by decide +kernel
theorem dX12_takesOf_88 : decode cX12_takesOf 88 = .ok (.goto 4, 3) := by decide +kernel
theorem dX12_takesOf_91 : decode cX12_takesOf 91 = .ok (.iconst 1, 1) := by decide +kernel
theorem dX12_takesOf_92 : decode cX12_takesOf 92 = .ok (.iadd, 1) := by decide +kernel
theorem dX12_takesOf_93 : decode cX12_takesOf 93 = .ok (.iadd, 1) := by decide +kernel
theorem dX12_takesOf_94 : decode cX12_takesOf 94 = .ok (.istore 5, 2) := by decide +kernel
theorem dX12_takesOf_96 : decode cX12_takesOf 96 = .ok (.goto 24, 3) := by decide +kernel
theorem dX12_takesOf_99 : decode cX12_takesOf 99 = .ok (.iload 4, 2) := by decide +kernel
theorem dX12_takesOf_101 : decode cX12_takesOf 101 = .ok (.iload 6, 2) := by decide +kernel
theorem dX12_takesOf_103 : decode cX12_takesOf 103 = .ok (.if_icmp .lt 10, 3) := by decide +kernel
theorem dX12_takesOf_106 : decode cX12_takesOf 106 = .ok (.iload 5, 2) := by decide +kernel
theorem dX12_takesOf_108 : decode cX12_takesOf 108 = .ok (.iconst 2, 1) := by decide +kernel
theorem dX12_takesOf_109 : decode cX12_takesOf 109 = .ok (.idiv, 1) := by decide +kernel
theorem dX12_takesOf_110 : decode cX12_takesOf 110 = .ok (.goto 5, 3) := by decide +kernel
theorem dX12_takesOf_113 : decode cX12_takesOf 113 = .ok (.iload 5, 2) := by decide +kernel
theorem dX12_takesOf_115 : decode cX12_takesOf 115 = .ok (.istore 5, 2) := by decide +kernel
theorem dX12_takesOf_117 : decode cX12_takesOf 117 = .ok (.goto 3, 3) := by decide +kernel
theorem dX12_takesOf_120 : decode cX12_takesOf 120 = .ok (.iload 5, 2) := by decide +kernel
theorem dX12_takesOf_122 : decode cX12_takesOf 122 = .ok (.iconst 1, 1) := by decide +kernel
theorem dX12_takesOf_123 : decode cX12_takesOf 123 = .ok (.if_icmp .ge 7, 3) := by decide +kernel
theorem dX12_takesOf_126 : decode cX12_takesOf 126 = .ok (.iconst 1, 1) := by decide +kernel
theorem dX12_takesOf_127 : decode cX12_takesOf 127 = .ok (.goto 5, 3) := by decide +kernel
theorem dX12_takesOf_130 : decode cX12_takesOf 130 = .ok (.iload 5, 2) := by decide +kernel
theorem dX12_takesOf_132 : decode cX12_takesOf 132 = .ok (.ireturn, 1) := by decide +kernel
theorem dX12_stepsOf_0 : decode cX12_stepsOf 0 = .ok (.aload_n 0, 1) := by decide +kernel
theorem dX12_stepsOf_1 : decode cX12_stepsOf 1 = .ok (.iconst 1, 1) := by decide +kernel
theorem dX12_stepsOf_2 : decode cX12_stepsOf 2 = .ok (.iload_n 2, 1) := by decide +kernel
theorem dX12_stepsOf_3 : decode cX12_stepsOf 3 = .ok (.iload_n 3, 1) := by decide +kernel
theorem dX12_stepsOf_4 : decode cX12_stepsOf 4 = .ok (.iload_n 1, 1) := by decide +kernel
theorem dX12_stepsOf_5 : decode cX12_stepsOf 5 = .ok (.iload 4, 2) := by decide +kernel
theorem dX12_stepsOf_7 : decode cX12_stepsOf 7 = .ok (.invokevirtual 206, 3) := by decide +kernel
theorem dX12_stepsOf_10 : decode cX12_stepsOf 10 = .ok (.istore 5, 2) := by decide +kernel
theorem dX12_stepsOf_12 : decode cX12_stepsOf 12 = .ok (.aload_n 0, 1) := by decide +kernel
theorem dX12_stepsOf_13 : decode cX12_stepsOf 13 = .ok (.getfield 20, 3) := by decide +kernel
theorem dX12_stepsOf_16 : decode cX12_stepsOf 16 = .ok (.iload_n 1, 1) := by decide +kernel
theorem dX12_stepsOf_17 : decode cX12_stepsOf 17 = .ok (.iaload, 1) := by decide +kernel
theorem dX12_stepsOf_18 : decode cX12_stepsOf 18 = .ok (.iconst 1, 1) := by decide +kernel
theorem dX12_stepsOf_19 : decode cX12_stepsOf 19 = .ok (.if_icmp .eq 13, 3) := by decide +kernel
theorem dX12_stepsOf_22 : decode cX12_stepsOf 22 = .ok (.aload_n 0, 1) := by decide +kernel
theorem dX12_stepsOf_23 : decode cX12_stepsOf 23 = .ok (.getfield 20, 3) := by decide +kernel
theorem dX12_stepsOf_26 : decode cX12_stepsOf 26 = .ok (.iload_n 1, 1) := by decide +kernel
theorem dX12_stepsOf_27 : decode cX12_stepsOf 27 = .ok (.iaload, 1) := by decide +kernel
theorem dX12_stepsOf_28 : decode cX12_stepsOf 28 = .ok (.iconst 3, 1) := by decide +kernel
theorem dX12_stepsOf_29 : decode cX12_stepsOf 29 = .ok (.if_icmp .ne 17, 3) := by decide +kernel
theorem dX12_stepsOf_32 : decode cX12_stepsOf 32 = .ok (.iload 5, 2) := by decide +kernel
theorem dX12_stepsOf_34 : decode cX12_stepsOf 34 = .ok (.aload_n 0, 1) := by decide +kernel
theorem dX12_stepsOf_35 : decode cX12_stepsOf 35 = .ok (.getfield 23, 3) := by decide +kernel
theorem dX12_stepsOf_38 : decode cX12_stepsOf 38 = .ok (.iload_n 1, 1) := by decide +kernel
theorem dX12_stepsOf_39 : decode cX12_stepsOf 39 = .ok (.iaload, 1) := by decide +kernel
theorem dX12_stepsOf_40 : decode cX12_stepsOf 40 = .ok (.iconst 3, 1) := by decide +kernel
theorem dX12_stepsOf_41 : decode cX12_stepsOf 41 = .ok (.idiv, 1) := by decide +kernel
theorem dX12_stepsOf_42 : decode cX12_stepsOf 42 = .ok (.isub, 1) := by decide +kernel
theorem dX12_stepsOf_43 : decode cX12_stepsOf 43 = .ok (.goto 22, 3) := by decide +kernel
theorem dX12_stepsOf_46 : decode cX12_stepsOf 46 = .ok (.aload_n 0, 1) := by decide +kernel
theorem dX12_stepsOf_47 : decode cX12_stepsOf 47 = .ok (.getfield 20, 3) := by decide +kernel
theorem dX12_stepsOf_50 : decode cX12_stepsOf 50 = .ok (.iload_n 1, 1) := by decide +kernel
theorem dX12_stepsOf_51 : decode cX12_stepsOf 51 = .ok (.iaload, 1) := by decide +kernel
theorem dX12_stepsOf_52 : decode cX12_stepsOf 52 = .ok (.iconst 4, 1) := by decide +kernel
theorem dX12_stepsOf_53 : decode cX12_stepsOf 53 = .ok (.if_icmp .ne 10, 3) := by decide +kernel
theorem dX12_stepsOf_56 : decode cX12_stepsOf 56 = .ok (.iconst 2, 1) := by decide +kernel
theorem dX12_stepsOf_57 : decode cX12_stepsOf 57 = .ok (.iload 5, 2) := by decide +kernel
theorem dX12_stepsOf_59 : decode cX12_stepsOf 59 = .ok (.imul, 1) := by decide +kernel
theorem dX12_stepsOf_60 : decode cX12_stepsOf 60 = .ok (.goto 5, 3) := by decide +kernel
theorem dX12_stepsOf_63 : decode cX12_stepsOf 63 = .ok (.iload 5, 2) := by decide +kernel
theorem dX12_stepsOf_65 : decode cX12_stepsOf 65 = .ok (.istore 5, 2) := by decide +kernel
theorem dX12_stepsOf_67 : decode cX12_stepsOf 67 = .ok (.iload 5, 2) := by decide +kernel
theorem dX12_stepsOf_69 : decode cX12_stepsOf 69 = .ok (.iconst 1, 1) := by decide +kernel
theorem dX12_stepsOf_70 : decode cX12_stepsOf 70 = .ok (.if_icmp .ge 7, 3) := by decide +kernel
theorem dX12_stepsOf_73 : decode cX12_stepsOf 73 = .ok (.iconst 1, 1) := by decide +kernel
theorem dX12_stepsOf_74 : decode cX12_stepsOf 74 = .ok (.goto 5, 3) := by decide +kernel
theorem dX12_stepsOf_77 : decode cX12_stepsOf 77 = .ok (.iload 5, 2) := by decide +kernel
theorem dX12_stepsOf_79 : decode cX12_stepsOf 79 = .ok (.ireturn, 1) := by decide +kernel
theorem dX12_begins_0 : decode cX12_begins 0 = .ok (.iconst 0, 1) := by decide +kernel
theorem dX12_begins_1 : decode cX12_begins 1 = .ok (.istore_n 1, 1) := by decide +kernel
theorem dX12_begins_2 : decode cX12_begins 2 = .ok (.iload_n 1, 1) := by decide +kernel
theorem dX12_begins_3 : decode cX12_begins 3 = .ok (.iconst 5, 1) := by decide +kernel
theorem dX12_begins_4 : decode cX12_begins 4 = .ok (.if_icmp .ge 63, 3) := by decide +kernel
theorem dX12_begins_7 : decode cX12_begins 7 = .ok (.aload_n 0, 1) := by decide +kernel
theorem dX12_begins_8 : decode cX12_begins 8 = .ok (.getfield 68, 3) := by decide +kernel
theorem dX12_begins_11 : decode cX12_begins 11 = .ok (.iload_n 1, 1) := by decide +kernel
theorem dX12_begins_12 : decode cX12_begins 12 = .ok (.aload_n 0, 1) := by decide +kernel
theorem dX12_begins_13 : decode cX12_begins 13 = .ok (.getfield 26, 3) := by decide +kernel
theorem dX12_begins_16 : decode cX12_begins 16 = .ok (.iload_n 1, 1) := by decide +kernel
theorem dX12_begins_17 : decode cX12_begins 17 = .ok (.iaload, 1) := by decide +kernel
theorem dX12_begins_18 : decode cX12_begins 18 = .ok (.iastore, 1) := by decide +kernel
theorem dX12_begins_19 : decode cX12_begins 19 = .ok (.aload_n 0, 1) := by decide +kernel
theorem dX12_begins_20 : decode cX12_begins 20 = .ok (.getfield 71, 3) := by decide +kernel
theorem dX12_begins_23 : decode cX12_begins 23 = .ok (.iload_n 1, 1) := by decide +kernel
theorem dX12_begins_24 : decode cX12_begins 24 = .ok (.iconst 1, 1) := by decide +kernel
theorem dX12_begins_25 : decode cX12_begins 25 = .ok (.iastore, 1) := by decide +kernel
theorem dX12_begins_26 : decode cX12_begins 26 = .ok (.aload_n 0, 1) := by decide +kernel
theorem dX12_begins_27 : decode cX12_begins 27 = .ok (.getfield 74, 3) := by decide +kernel
theorem dX12_begins_30 : decode cX12_begins 30 = .ok (.iload_n 1, 1) := by decide +kernel
theorem dX12_begins_31 : decode cX12_begins 31 = .ok (.iconst 0, 1) := by decide +kernel
theorem dX12_begins_32 : decode cX12_begins 32 = .ok (.iastore, 1) := by decide +kernel
theorem dX12_begins_33 : decode cX12_begins 33 = .ok (.aload_n 0, 1) := by decide +kernel
theorem dX12_begins_34 : decode cX12_begins 34 = .ok (.getfield 77, 3) := by decide +kernel
theorem dX12_begins_37 : decode cX12_begins 37 = .ok (.iload_n 1, 1) := by decide +kernel
theorem dX12_begins_38 : decode cX12_begins 38 = .ok (.iconst 0, 1) := by decide +kernel
theorem dX12_begins_39 : decode cX12_begins 39 = .ok (.iastore, 1) := by decide +kernel
theorem dX12_begins_40 : decode cX12_begins 40 = .ok (.aload_n 0, 1) := by decide +kernel
theorem dX12_begins_41 : decode cX12_begins 41 = .ok (.getfield 80, 3) := by decide +kernel
theorem dX12_begins_44 : decode cX12_begins 44 = .ok (.iload_n 1, 1) := by decide +kernel
theorem dX12_begins_45 : decode cX12_begins 45 = .ok (.iconst 0, 1) := by decide +kernel
theorem dX12_begins_46 : decode cX12_begins 46 = .ok (.iastore, 1) := by decide +kernel
theorem dX12_begins_47 : decode cX12_begins 47 = .ok (.aload_n 0, 1) := by decide +kernel
theorem dX12_begins_48 : decode cX12_begins 48 = .ok (.getfield 83, 3) := by decide +kernel
theorem dX12_begins_51 : decode cX12_begins 51 = .ok (.iload_n 1, 1) := by decide +kernel
theorem dX12_begins_52 : decode cX12_begins 52 = .ok (.iconst 0, 1) := by decide +kernel
theorem dX12_begins_53 : decode cX12_begins 53 = .ok (.iastore, 1) := by decide +kernel
theorem dX12_begins_54 : decode cX12_begins 54 = .ok (.aload_n 0, 1) := by decide +kernel
theorem dX12_begins_55 : decode cX12_begins 55 = .ok (.getfield 86, 3) := by decide +kernel
theorem dX12_begins_58 : decode cX12_begins 58 = .ok (.iload_n 1, 1) := by decide +kernel
theorem dX12_begins_59 : decode cX12_begins 59 = .ok (.iconst 0, 1) := by decide +kernel
theorem dX12_begins_60 : decode cX12_begins 60 = .ok (.iastore, 1) := by decide +kernel
theorem dX12_begins_61 : decode cX12_begins 61 = .ok (.iinc 1 1, 3) := by decide +kernel
theorem dX12_begins_64 : decode cX12_begins 64 = .ok (.goto (-62), 3) := by decide +kernel
theorem dX12_begins_67 : decode cX12_begins 67 = .ok (.iconst 0, 1) := by decide +kernel
theorem dX12_begins_68 : decode cX12_begins 68 = .ok (.istore_n 1, 1) := by decide +kernel
theorem dX12_begins_69 : decode cX12_begins 69 = .ok (.iload_n 1, 1) := by decide +kernel
theorem dX12_begins_70 : decode cX12_begins 70 = .ok (.bipush 9, 2) := by decide +kernel
theorem dX12_begins_72 : decode cX12_begins 72 = .ok (.if_icmp .ge 35, 3) := by decide +kernel
theorem dX12_begins_75 : decode cX12_begins 75 = .ok (.aload_n 0, 1) := by decide +kernel
theorem dX12_begins_76 : decode cX12_begins 76 = .ok (.getfield 89, 3) := by decide +kernel
theorem dX12_begins_79 : decode cX12_begins 79 = .ok (.iload_n 1, 1) := by decide +kernel
theorem dX12_begins_80 : decode cX12_begins 80 = .ok (.aload_n 0, 1) := by decide +kernel
theorem dX12_begins_81 : decode cX12_begins 81 = .ok (.getfield 7, 3) := by decide +kernel
theorem dX12_begins_84 : decode cX12_begins 84 = .ok (.iload_n 1, 1) := by decide +kernel
theorem dX12_begins_85 : decode cX12_begins 85 = .ok (.iaload, 1) := by decide +kernel
theorem dX12_begins_86 : decode cX12_begins 86 = .ok (.iastore, 1) := by decide +kernel
theorem dX12_begins_87 : decode cX12_begins 87 = .ok (.aload_n 0, 1) := by decide +kernel
theorem dX12_begins_88 : decode cX12_begins 88 = .ok (.getfield 92, 3) := by decide +kernel
theorem dX12_begins_91 : decode cX12_begins 91 = .ok (.iload_n 1, 1) := by decide +kernel
theorem dX12_begins_92 : decode cX12_begins 92 = .ok (.iconst 0, 1) := by decide +kernel
theorem dX12_begins_93 : decode cX12_begins 93 = .ok (.iastore, 1) := by decide +kernel
theorem dX12_begins_94 : decode cX12_begins 94 = .ok (.aload_n 0, 1) := by decide +kernel
theorem dX12_begins_95 : decode cX12_begins 95 = .ok (.getfield 95, 3) := by decide +kernel
theorem dX12_begins_98 : decode cX12_begins 98 = .ok (.iload_n 1, 1) := by decide +kernel
theorem dX12_begins_99 : decode cX12_begins 99 = .ok (.iconst (-1), 1) := by decide +kernel
theorem dX12_begins_100 : decode cX12_begins 100 = .ok (.iastore, 1) := by decide +kernel
theorem dX12_begins_101 : decode cX12_begins 101 = .ok (.iinc 1 1, 3) := by decide +kernel
theorem dX12_begins_104 : decode cX12_begins 104 = .ok (.goto (-35), 3) := by decide +kernel
theorem dX12_begins_107 : decode cX12_begins 107 = .ok (.aload_n 0, 1) := by decide +kernel
theorem dX12_begins_108 : decode cX12_begins 108 = .ok (.iconst 0, 1) := by decide +kernel
theorem dX12_begins_109 : decode cX12_begins 109 = .ok (.putfield 210, 3) := by decide +kernel
theorem dX12_begins_112 : decode cX12_begins 112 = .ok (.aload_n 0, 1) := by decide +kernel
theorem dX12_begins_113 : decode cX12_begins 113 = .ok (.iconst 0, 1) := by decide +kernel
theorem dX12_begins_114 : decode cX12_begins 114 = .ok (.putfield 213, 3) := by decide +kernel
theorem dX12_begins_117 : decode cX12_begins 117 = .ok (.aload_n 0, 1) := by decide +kernel
theorem dX12_begins_118 : decode cX12_begins 118 = .ok (.iconst (-1), 1) := by decide +kernel
theorem dX12_begins_119 : decode cX12_begins 119 = .ok (.putfield 216, 3) := by decide +kernel
theorem dX12_begins_122 : decode cX12_begins 122 = .ok (.return_, 1) := by decide +kernel
theorem dX12_lifts_0 : decode cX12_lifts 0 = .ok (.aload_n 0, 1) := by decide +kernel
theorem dX12_lifts_1 : decode cX12_lifts 1 = .ok (.getfield 68, 3) := by decide +kernel
theorem dX12_lifts_4 : decode cX12_lifts 4 = .ok (.iload_n 1, 1) := by decide +kernel
theorem dX12_lifts_5 : decode cX12_lifts 5 = .ok (.iaload, 1) := by decide +kernel
theorem dX12_lifts_6 : decode cX12_lifts 6 = .ok (.istore_n 3, 1) := by decide +kernel
theorem dX12_lifts_7 : decode cX12_lifts 7 = .ok (.aload_n 0, 1) := by decide +kernel
theorem dX12_lifts_8 : decode cX12_lifts 8 = .ok (.getfield 77, 3) := by decide +kernel
theorem dX12_lifts_11 : decode cX12_lifts 11 = .ok (.iload_n 1, 1) := by decide +kernel
theorem dX12_lifts_12 : decode cX12_lifts 12 = .ok (.dup2, 1) := by decide +kernel
theorem dX12_lifts_13 : decode cX12_lifts 13 = .ok (.iaload, 1) := by decide +kernel
theorem dX12_lifts_14 : decode cX12_lifts 14 = .ok (.iconst 1, 1) := by decide +kernel
theorem dX12_lifts_15 : decode cX12_lifts 15 = .ok (.iadd, 1) := by decide +kernel
theorem dX12_lifts_16 : decode cX12_lifts 16 = .ok (.iastore, 1) := by decide +kernel
theorem dX12_lifts_17 : decode cX12_lifts 17 = .ok (.aload_n 0, 1) := by decide +kernel
theorem dX12_lifts_18 : decode cX12_lifts 18 = .ok (.getfield 89, 3) := by decide +kernel
theorem dX12_lifts_21 : decode cX12_lifts 21 = .ok (.iload_n 3, 1) := by decide +kernel
theorem dX12_lifts_22 : decode cX12_lifts 22 = .ok (.iaload, 1) := by decide +kernel
theorem dX12_lifts_23 : decode cX12_lifts 23 = .ok (.ifCond .ne 23, 3) := by decide +kernel
theorem dX12_lifts_26 : decode cX12_lifts 26 = .ok (.aload_n 0, 1) := by decide +kernel
theorem dX12_lifts_27 : decode cX12_lifts 27 = .ok (.dup, 1) := by decide +kernel
theorem dX12_lifts_28 : decode cX12_lifts 28 = .ok (.getfield 210, 3) := by decide +kernel
theorem dX12_lifts_31 : decode cX12_lifts 31 = .ok (.iconst 1, 1) := by decide +kernel
theorem dX12_lifts_32 : decode cX12_lifts 32 = .ok (.iload_n 3, 1) := by decide +kernel
theorem dX12_lifts_33 : decode cX12_lifts 33 = .ok (.ishl, 1) := by decide +kernel
theorem dX12_lifts_34 : decode cX12_lifts 34 = .ok (.ior, 1) := by decide +kernel
theorem dX12_lifts_35 : decode cX12_lifts 35 = .ok (.putfield 210, 3) := by decide +kernel
theorem dX12_lifts_38 : decode cX12_lifts 38 = .ok (.aload_n 0, 1) := by decide +kernel
theorem dX12_lifts_39 : decode cX12_lifts 39 = .ok (.getfield 86, 3) := by decide +kernel
theorem dX12_lifts_42 : decode cX12_lifts 42 = .ok (.iload_n 1, 1) := by decide +kernel
theorem dX12_lifts_43 : decode cX12_lifts 43 = .ok (.iconst 2, 1) := by decide +kernel
theorem dX12_lifts_44 : decode cX12_lifts 44 = .ok (.iastore, 1) := by decide +kernel
theorem dX12_lifts_45 : decode cX12_lifts 45 = .ok (.return_, 1) := by decide +kernel
theorem dX12_lifts_46 : decode cX12_lifts 46 = .ok (.aload_n 0, 1) := by decide +kernel
theorem dX12_lifts_47 : decode cX12_lifts 47 = .ok (.getfield 92, 3) := by decide +kernel
theorem dX12_lifts_50 : decode cX12_lifts 50 = .ok (.iload_n 3, 1) := by decide +kernel
theorem dX12_lifts_51 : decode cX12_lifts 51 = .ok (.dup2, 1) := by decide +kernel
theorem dX12_lifts_52 : decode cX12_lifts 52 = .ok (.iaload, 1) := by decide +kernel
theorem dX12_lifts_53 : decode cX12_lifts 53 = .ok (.iconst 1, 1) := by decide +kernel
theorem dX12_lifts_54 : decode cX12_lifts 54 = .ok (.iadd, 1) := by decide +kernel
theorem dX12_lifts_55 : decode cX12_lifts 55 = .ok (.iastore, 1) := by decide +kernel
theorem dX12_lifts_56 : decode cX12_lifts 56 = .ok (.aload_n 0, 1) := by decide +kernel
theorem dX12_lifts_57 : decode cX12_lifts 57 = .ok (.getfield 13, 3) := by decide +kernel
theorem dX12_lifts_60 : decode cX12_lifts 60 = .ok (.iload_n 3, 1) := by decide +kernel
theorem dX12_lifts_61 : decode cX12_lifts 61 = .ok (.iaload, 1) := by decide +kernel
theorem dX12_lifts_62 : decode cX12_lifts 62 = .ok (.ifCond .eq 39, 3) := by decide +kernel
theorem dX12_lifts_65 : decode cX12_lifts 65 = .ok (.aload_n 0, 1) := by decide +kernel
theorem dX12_lifts_66 : decode cX12_lifts 66 = .ok (.getfield 89, 3) := by decide +kernel
theorem dX12_lifts_69 : decode cX12_lifts 69 = .ok (.iload_n 3, 1) := by decide +kernel
theorem dX12_lifts_70 : decode cX12_lifts 70 = .ok (.iaload, 1) := by decide +kernel
theorem dX12_lifts_71 : decode cX12_lifts 71 = .ok (.iconst 2, 1) := by decide +kernel
theorem dX12_lifts_72 : decode cX12_lifts 72 = .ok (.if_icmp .lt 29, 3) := by decide +kernel
theorem dX12_lifts_75 : decode cX12_lifts 75 = .ok (.aload_n 0, 1) := by decide +kernel
theorem dX12_lifts_76 : decode cX12_lifts 76 = .ok (.getfield 92, 3) := by decide +kernel
theorem dX12_lifts_79 : decode cX12_lifts 79 = .ok (.iload_n 3, 1) := by decide +kernel
theorem dX12_lifts_80 : decode cX12_lifts 80 = .ok (.iaload, 1) := by decide +kernel
theorem dX12_lifts_81 : decode cX12_lifts 81 = .ok (.aload_n 0, 1) := by decide +kernel
theorem dX12_lifts_82 : decode cX12_lifts 82 = .ok (.getfield 13, 3) := by decide +kernel
theorem dX12_lifts_85 : decode cX12_lifts 85 = .ok (.iload_n 3, 1) := by decide +kernel
theorem dX12_lifts_86 : decode cX12_lifts 86 = .ok (.iaload, 1) := by decide +kernel
theorem dX12_lifts_87 : decode cX12_lifts 87 = .ok (.iconst 1, 1) := by decide +kernel
theorem dX12_lifts_88 : decode cX12_lifts 88 = .ok (.bipush 9, 2) := by decide +kernel
theorem dX12_lifts_90 : decode cX12_lifts 90 = .ok (.invokestatic 200, 3) := by decide +kernel
theorem dX12_lifts_93 : decode cX12_lifts 93 = .ok (.irem, 1) := by decide +kernel
theorem dX12_lifts_94 : decode cX12_lifts 94 = .ok (.ifCond .ne 7, 3) := by decide +kernel
theorem dX12_lifts_97 : decode cX12_lifts 97 = .ok (.iconst 1, 1) := by decide +kernel
theorem dX12_lifts_98 : decode cX12_lifts 98 = .ok (.goto 4, 3) := by decide +kernel
theorem dX12_lifts_101 : decode cX12_lifts 101 = .ok (.iconst 0, 1) := by decide +kernel
theorem dX12_lifts_102 : decode cX12_lifts 102 = .ok (.istore 4, 2) := by decide +kernel
theorem dX12_lifts_104 : decode cX12_lifts 104 = .ok (.aload_n 0, 1) := by decide +kernel
theorem dX12_lifts_105 : decode cX12_lifts 105 = .ok (.getfield 89, 3) := by decide +kernel
theorem dX12_lifts_108 : decode cX12_lifts 108 = .ok (.iload_n 3, 1) := by decide +kernel
theorem dX12_lifts_109 : decode cX12_lifts 109 = .ok (.dup2, 1) := by decide +kernel
theorem dX12_lifts_110 : decode cX12_lifts 110 = .ok (.iaload, 1) := by decide +kernel
theorem dX12_lifts_111 : decode cX12_lifts 111 = .ok (.iload 4, 2) := by decide +kernel
theorem dX12_lifts_113 : decode cX12_lifts 113 = .ok (.ifCond .eq 7, 3) := by decide +kernel
theorem dX12_lifts_116 : decode cX12_lifts 116 = .ok (.iconst 2, 1) := by decide +kernel
theorem dX12_lifts_117 : decode cX12_lifts 117 = .ok (.goto 4, 3) := by decide +kernel
theorem dX12_lifts_120 : decode cX12_lifts 120 = .ok (.iconst 1, 1) := by decide +kernel
theorem dX12_lifts_121 : decode cX12_lifts 121 = .ok (.isub, 1) := by decide +kernel
theorem dX12_lifts_122 : decode cX12_lifts 122 = .ok (.iastore, 1) := by decide +kernel
theorem dX12_lifts_123 : decode cX12_lifts 123 = .ok (.aload_n 0, 1) := by decide +kernel
theorem dX12_lifts_124 : decode cX12_lifts 124 = .ok (.getfield 86, 3) := by decide +kernel
theorem dX12_lifts_127 : decode cX12_lifts 127 = .ok (.iload_n 1, 1) := by decide +kernel
theorem dX12_lifts_128 : decode cX12_lifts 128 = .ok (.iload 4, 2) := by decide +kernel
theorem dX12_lifts_130 : decode cX12_lifts 130 = .ok (.ifCond .eq 16, 3) := by decide +kernel
theorem dX12_lifts_133 : decode cX12_lifts 133 = .ok (.aload_n 0, 1) := by decide +kernel
theorem dX12_lifts_134 : decode cX12_lifts 134 = .ok (.getfield 86, 3) := by decide +kernel
theorem dX12_lifts_137 : decode cX12_lifts 137 = .ok (.iload_n 1, 1) := by decide +kernel
theorem dX12_lifts_138 : decode cX12_lifts 138 = .ok (.iaload, 1) := by decide +kernel
theorem dX12_lifts_139 : decode cX12_lifts 139 = .ok (.ifCond .ne 7, 3) := by decide +kernel
theorem dX12_lifts_142 : decode cX12_lifts 142 = .ok (.iconst 1, 1) := by decide +kernel
theorem dX12_lifts_143 : decode cX12_lifts 143 = .ok (.goto 9, 3) := by decide +kernel
theorem dX12_lifts_146 : decode cX12_lifts 146 = .ok (.aload_n 0, 1) := by decide +kernel
theorem dX12_lifts_147 : decode cX12_lifts 147 = .ok (.getfield 86, 3) := by decide +kernel
theorem dX12_lifts_150 : decode cX12_lifts 150 = .ok (.iload_n 1, 1) := by decide +kernel
theorem dX12_lifts_151 : decode cX12_lifts 151 = .ok (.iaload, 1) := by decide +kernel
theorem dX12_lifts_152 : decode cX12_lifts 152 = .ok (.iastore, 1) := by decide +kernel
theorem dX12_lifts_153 : decode cX12_lifts 153 = .ok (.aload_n 0, 1) := by decide +kernel
theorem dX12_lifts_154 : decode cX12_lifts 154 = .ok (.getfield 95, 3) := by decide +kernel
theorem dX12_lifts_157 : decode cX12_lifts 157 = .ok (.iload_n 3, 1) := by decide +kernel
theorem dX12_lifts_158 : decode cX12_lifts 158 = .ok (.aload_n 0, 1) := by decide +kernel
theorem dX12_lifts_159 : decode cX12_lifts 159 = .ok (.getfield 89, 3) := by decide +kernel
theorem dX12_lifts_162 : decode cX12_lifts 162 = .ok (.iload_n 3, 1) := by decide +kernel
theorem dX12_lifts_163 : decode cX12_lifts 163 = .ok (.iaload, 1) := by decide +kernel
theorem dX12_lifts_164 : decode cX12_lifts 164 = .ok (.ifCond .ne 7, 3) := by decide +kernel
theorem dX12_lifts_167 : decode cX12_lifts 167 = .ok (.iload_n 2, 1) := by decide +kernel
theorem dX12_lifts_168 : decode cX12_lifts 168 = .ok (.goto 9, 3) := by decide +kernel
theorem dX12_lifts_171 : decode cX12_lifts 171 = .ok (.aload_n 0, 1) := by decide +kernel
theorem dX12_lifts_172 : decode cX12_lifts 172 = .ok (.getfield 95, 3) := by decide +kernel
theorem dX12_lifts_175 : decode cX12_lifts 175 = .ok (.iload_n 3, 1) := by decide +kernel
theorem dX12_lifts_176 : decode cX12_lifts 176 = .ok (.iaload, 1) := by decide +kernel
theorem dX12_lifts_177 : decode cX12_lifts 177 = .ok (.iastore, 1) := by decide +kernel
theorem dX12_lifts_178 : decode cX12_lifts 178 = .ok (.return_, 1) := by decide +kernel
theorem dX12_makes_0 : decode cX12_makes 0 = .ok (.aload_n 0, 1) := by decide +kernel
theorem dX12_makes_1 : decode cX12_makes 1 = .ok (.getfield 98, 3) := by decide +kernel
theorem dX12_makes_4 : decode cX12_makes 4 = .ok (.aload_n 0, 1) := by decide +kernel
theorem dX12_makes_5 : decode cX12_makes 5 = .ok (.getfield 213, 3) := by decide +kernel
theorem dX12_makes_8 : decode cX12_makes 8 = .ok (.aload_n 0, 1) := by decide +kernel
theorem dX12_makes_9 : decode cX12_makes 9 = .ok (.getfield 86, 3) := by decide +kernel
theorem dX12_makes_12 : decode cX12_makes 12 = .ok (.iload_n 1, 1) := by decide +kernel
theorem dX12_makes_13 : decode cX12_makes 13 = .ok (.iaload, 1) := by decide +kernel
theorem dX12_makes_14 : decode cX12_makes 14 = .ok (.iastore, 1) := by decide +kernel
theorem dX12_makes_15 : decode cX12_makes 15 = .ok (.aload_n 0, 1) := by decide +kernel
theorem dX12_makes_16 : decode cX12_makes 16 = .ok (.dup, 1) := by decide +kernel
theorem dX12_makes_17 : decode cX12_makes 17 = .ok (.getfield 213, 3) := by decide +kernel
theorem dX12_makes_20 : decode cX12_makes 20 = .ok (.iconst 1, 1) := by decide +kernel
theorem dX12_makes_21 : decode cX12_makes 21 = .ok (.iadd, 1) := by decide +kernel
theorem dX12_makes_22 : decode cX12_makes 22 = .ok (.putfield 213, 3) := by decide +kernel
theorem dX12_makes_25 : decode cX12_makes 25 = .ok (.aload_n 0, 1) := by decide +kernel
theorem dX12_makes_26 : decode cX12_makes 26 = .ok (.aload_n 0, 1) := by decide +kernel
theorem dX12_makes_27 : decode cX12_makes 27 = .ok (.getfield 213, 3) := by decide +kernel
theorem dX12_makes_30 : decode cX12_makes 30 = .ok (.aload_n 0, 1) := by decide +kernel
theorem dX12_makes_31 : decode cX12_makes 31 = .ok (.getfield 16, 3) := by decide +kernel
theorem dX12_makes_34 : decode cX12_makes 34 = .ok (.if_icmp .ne 7, 3) := by decide +kernel
theorem dX12_makes_37 : decode cX12_makes 37 = .ok (.iload_n 2, 1) := by decide +kernel
theorem dX12_makes_38 : decode cX12_makes 38 = .ok (.goto 7, 3) := by decide +kernel
theorem dX12_makes_41 : decode cX12_makes 41 = .ok (.aload_n 0, 1) := by decide +kernel
theorem dX12_makes_42 : decode cX12_makes 42 = .ok (.getfield 216, 3) := by decide +kernel
theorem dX12_makes_45 : decode cX12_makes 45 = .ok (.putfield 216, 3) := by decide +kernel
theorem dX12_makes_48 : decode cX12_makes 48 = .ok (.aload_n 0, 1) := by decide +kernel
theorem dX12_makes_49 : decode cX12_makes 49 = .ok (.getfield 80, 3) := by decide +kernel
theorem dX12_makes_52 : decode cX12_makes 52 = .ok (.iload_n 1, 1) := by decide +kernel
theorem dX12_makes_53 : decode cX12_makes 53 = .ok (.dup2, 1) := by decide +kernel
theorem dX12_makes_54 : decode cX12_makes 54 = .ok (.iaload, 1) := by decide +kernel
theorem dX12_makes_55 : decode cX12_makes 55 = .ok (.iconst 1, 1) := by decide +kernel
theorem dX12_makes_56 : decode cX12_makes 56 = .ok (.iadd, 1) := by decide +kernel
theorem dX12_makes_57 : decode cX12_makes 57 = .ok (.iastore, 1) := by decide +kernel
theorem dX12_makes_58 : decode cX12_makes 58 = .ok (.aload_n 0, 1) := by decide +kernel
theorem dX12_makes_59 : decode cX12_makes 59 = .ok (.getfield 77, 3) := by decide +kernel
theorem dX12_makes_62 : decode cX12_makes 62 = .ok (.iload_n 1, 1) := by decide +kernel
theorem dX12_makes_63 : decode cX12_makes 63 = .ok (.iconst 0, 1) := by decide +kernel
theorem dX12_makes_64 : decode cX12_makes 64 = .ok (.iastore, 1) := by decide +kernel
theorem dX12_makes_65 : decode cX12_makes 65 = .ok (.aload_n 0, 1) := by decide +kernel
theorem dX12_makes_66 : decode cX12_makes 66 = .ok (.getfield 86, 3) := by decide +kernel
theorem dX12_makes_69 : decode cX12_makes 69 = .ok (.iload_n 1, 1) := by decide +kernel
theorem dX12_makes_70 : decode cX12_makes 70 = .ok (.iconst 0, 1) := by decide +kernel
theorem dX12_makes_71 : decode cX12_makes 71 = .ok (.iastore, 1) := by decide +kernel
theorem dX12_makes_72 : decode cX12_makes 72 = .ok (.return_, 1) := by decide +kernel
theorem dX12_mustWait_0 : decode cX12_mustWait 0 = .ok (.aload_n 0, 1) := by decide +kernel
theorem dX12_mustWait_1 : decode cX12_mustWait 1 = .ok (.getfield 20, 3) := by decide +kernel
theorem dX12_mustWait_4 : decode cX12_mustWait 4 = .ok (.iload_n 1, 1) := by decide +kernel
theorem dX12_mustWait_5 : decode cX12_mustWait 5 = .ok (.iaload, 1) := by decide +kernel
theorem dX12_mustWait_6 : decode cX12_mustWait 6 = .ok (.iconst 3, 1) := by decide +kernel
theorem dX12_mustWait_7 : decode cX12_mustWait 7 = .ok (.if_icmp .ne 5, 3) := by decide +kernel
theorem dX12_mustWait_10 : decode cX12_mustWait 10 = .ok (.iconst 0, 1) := by decide +kernel
theorem dX12_mustWait_11 : decode cX12_mustWait 11 = .ok (.ireturn, 1) := by decide +kernel
theorem dX12_mustWait_12 : decode cX12_mustWait 12 = .ok (.iconst 0, 1) := by decide +kernel
theorem dX12_mustWait_13 : decode cX12_mustWait 13 = .ok (.istore_n 2, 1) := by decide +kernel
theorem dX12_mustWait_14 : decode cX12_mustWait 14 = .ok (.iload_n 2, 1) := by decide +kernel
theorem dX12_mustWait_15 : decode cX12_mustWait 15 = .ok (.aload_n 0, 1) := by decide +kernel
theorem dX12_mustWait_16 : decode cX12_mustWait 16 = .ok (.getfield 219, 3) := by decide +kernel
theorem dX12_mustWait_19 : decode cX12_mustWait 19 = .ok (.if_icmp .ge 48, 3) := by decide +kernel
theorem dX12_mustWait_22 : decode cX12_mustWait 22 = .ok (.aload_n 0, 1) := by decide +kernel
theorem dX12_mustWait_23 : decode cX12_mustWait 23 = .ok (.getfield 65, 3) := by decide +kernel
theorem dX12_mustWait_26 : decode cX12_mustWait 26 = .ok (.iload_n 2, 1) := by decide +kernel
theorem dX12_mustWait_27 : decode cX12_mustWait 27 = .ok (.iaload, 1) := by decide +kernel
theorem dX12_mustWait_28 : decode cX12_mustWait 28 = .ok (.istore_n 3, 1) := by decide +kernel
theorem dX12_mustWait_29 : decode cX12_mustWait 29 = .ok (.iload_n 3, 1) := by decide +kernel
theorem dX12_mustWait_30 : decode cX12_mustWait 30 = .ok (.iload_n 1, 1) := by decide +kernel
theorem dX12_mustWait_31 : decode cX12_mustWait 31 = .ok (.if_icmp .eq 30, 3) := by decide +kernel
theorem dX12_mustWait_34 : decode cX12_mustWait 34 = .ok (.aload_n 0, 1) := by decide +kernel
theorem dX12_mustWait_35 : decode cX12_mustWait 35 = .ok (.getfield 71, 3) := by decide +kernel
theorem dX12_mustWait_38 : decode cX12_mustWait 38 = .ok (.iload_n 3, 1) := by decide +kernel
theorem dX12_mustWait_39 : decode cX12_mustWait 39 = .ok (.iaload, 1) := by decide +kernel
theorem dX12_mustWait_40 : decode cX12_mustWait 40 = .ok (.iconst 2, 1) := by decide +kernel
theorem dX12_mustWait_41 : decode cX12_mustWait 41 = .ok (.if_icmp .ne 20, 3) := by decide +kernel
theorem dX12_mustWait_44 : decode cX12_mustWait 44 = .ok (.aload_n 0, 1) := by decide +kernel
theorem dX12_mustWait_45 : decode cX12_mustWait 45 = .ok (.getfield 68, 3) := by decide +kernel
theorem dX12_mustWait_48 : decode cX12_mustWait 48 = .ok (.iload_n 3, 1) := by decide +kernel
theorem dX12_mustWait_49 : decode cX12_mustWait 49 = .ok (.iaload, 1) := by decide +kernel
theorem dX12_mustWait_50 : decode cX12_mustWait 50 = .ok (.aload_n 0, 1) := by decide +kernel
theorem dX12_mustWait_51 : decode cX12_mustWait 51 = .ok (.getfield 68, 3) := by decide +kernel
theorem dX12_mustWait_54 : decode cX12_mustWait 54 = .ok (.iload_n 1, 1) := by decide +kernel
theorem dX12_mustWait_55 : decode cX12_mustWait 55 = .ok (.iaload, 1) := by decide +kernel
theorem dX12_mustWait_56 : decode cX12_mustWait 56 = .ok (.if_icmp .ne 5, 3) := by decide +kernel
theorem dX12_mustWait_59 : decode cX12_mustWait 59 = .ok (.iconst 1, 1) := by decide +kernel
theorem dX12_mustWait_60 : decode cX12_mustWait 60 = .ok (.ireturn, 1) := by decide +kernel
theorem dX12_mustWait_61 : decode cX12_mustWait 61 = .ok (.iinc 2 1, 3) := by decide +kernel
theorem dX12_mustWait_64 : decode cX12_mustWait 64 = .ok (.goto (-50), 3) := by decide +kernel
theorem dX12_mustWait_67 : decode cX12_mustWait 67 = .ok (.iconst 0, 1) := by decide +kernel
theorem dX12_mustWait_68 : decode cX12_mustWait 68 = .ok (.ireturn, 1) := by decide +kernel
theorem dX12_takesOn_0 : decode cX12_takesOn 0 = .ok (.aload_n 0, 1) := by decide +kernel
theorem dX12_takesOn_1 : decode cX12_takesOn 1 = .ok (.getfield 74, 3) := by decide +kernel
theorem dX12_takesOn_4 : decode cX12_takesOn 4 = .ok (.iload_n 1, 1) := by decide +kernel
theorem dX12_takesOn_5 : decode cX12_takesOn 5 = .ok (.dup2, 1) := by decide +kernel
theorem dX12_takesOn_6 : decode cX12_takesOn 6 = .ok (.iaload, 1) := by decide +kernel
theorem dX12_takesOn_7 : decode cX12_takesOn 7 = .ok (.iconst 1, 1) := by decide +kernel
theorem dX12_takesOn_8 : decode cX12_takesOn 8 = .ok (.isub, 1) := by decide +kernel
theorem dX12_takesOn_9 : decode cX12_takesOn 9 = .ok (.iastore, 1) := by decide +kernel
theorem dX12_takesOn_10 : decode cX12_takesOn 10 = .ok (.aload_n 0, 1) := by decide +kernel
theorem dX12_takesOn_11 : decode cX12_takesOn 11 = .ok (.getfield 74, 3) := by decide +kernel
theorem dX12_takesOn_14 : decode cX12_takesOn 14 = .ok (.iload_n 1, 1) := by decide +kernel
theorem dX12_takesOn_15 : decode cX12_takesOn 15 = .ok (.iaload, 1) := by decide +kernel
theorem dX12_takesOn_16 : decode cX12_takesOn 16 = .ok (.ifCond .le 4, 3) := by decide +kernel
theorem dX12_takesOn_19 : decode cX12_takesOn 19 = .ok (.return_, 1) := by decide +kernel
theorem dX12_takesOn_20 : decode cX12_takesOn 20 = .ok (.aload_n 0, 1) := by decide +kernel
theorem dX12_takesOn_21 : decode cX12_takesOn 21 = .ok (.iload_n 1, 1) := by decide +kernel
theorem dX12_takesOn_22 : decode cX12_takesOn 22 = .ok (.iload_n 2, 1) := by decide +kernel
theorem dX12_takesOn_23 : decode cX12_takesOn 23 = .ok (.invokevirtual 222, 3) := by decide +kernel
theorem dX12_takesOn_26 : decode cX12_takesOn 26 = .ok (.aload_n 0, 1) := by decide +kernel
theorem dX12_takesOn_27 : decode cX12_takesOn 27 = .ok (.getfield 77, 3) := by decide +kernel
theorem dX12_takesOn_30 : decode cX12_takesOn 30 = .ok (.iload_n 1, 1) := by decide +kernel
theorem dX12_takesOn_31 : decode cX12_takesOn 31 = .ok (.iaload, 1) := by decide +kernel
theorem dX12_takesOn_32 : decode cX12_takesOn 32 = .ok (.bipush 9, 2) := by decide +kernel
theorem dX12_takesOn_34 : decode cX12_takesOn 34 = .ok (.if_icmp .ne 9, 3) := by decide +kernel
theorem dX12_takesOn_37 : decode cX12_takesOn 37 = .ok (.aload_n 0, 1) := by decide +kernel
theorem dX12_takesOn_38 : decode cX12_takesOn 38 = .ok (.iload_n 1, 1) := by decide +kernel
theorem dX12_takesOn_39 : decode cX12_takesOn 39 = .ok (.iload_n 2, 1) := by decide +kernel
theorem dX12_takesOn_40 : decode cX12_takesOn 40 = .ok (.invokevirtual 226, 3) := by decide +kernel
theorem dX12_takesOn_43 : decode cX12_takesOn 43 = .ok (.aload_n 0, 1) := by decide +kernel
theorem dX12_takesOn_44 : decode cX12_takesOn 44 = .ok (.getfield 68, 3) := by decide +kernel
theorem dX12_takesOn_47 : decode cX12_takesOn 47 = .ok (.iload_n 1, 1) := by decide +kernel
theorem dX12_takesOn_48 : decode cX12_takesOn 48 = .ok (.iaload, 1) := by decide +kernel
theorem dX12_takesOn_49 : decode cX12_takesOn 49 = .ok (.istore_n 3, 1) := by decide +kernel
theorem dX12_takesOn_50 : decode cX12_takesOn 50 = .ok (.aload_n 0, 1) := by decide +kernel
theorem dX12_takesOn_51 : decode cX12_takesOn 51 = .ok (.getfield 74, 3) := by decide +kernel
theorem dX12_takesOn_54 : decode cX12_takesOn 54 = .ok (.iload_n 1, 1) := by decide +kernel
theorem dX12_takesOn_55 : decode cX12_takesOn 55 = .ok (.aload_n 0, 1) := by decide +kernel
theorem dX12_takesOn_56 : decode cX12_takesOn 56 = .ok (.iload_n 1, 1) := by decide +kernel
theorem dX12_takesOn_57 : decode cX12_takesOn 57 = .ok (.iload_n 3, 1) := by decide +kernel
theorem dX12_takesOn_58 : decode cX12_takesOn 58 = .ok (.aload_n 0, 1) := by decide +kernel
theorem dX12_takesOn_59 : decode cX12_takesOn 59 = .ok (.getfield 89, 3) := by decide +kernel
theorem dX12_takesOn_62 : decode cX12_takesOn 62 = .ok (.iload_n 3, 1) := by decide +kernel
theorem dX12_takesOn_63 : decode cX12_takesOn 63 = .ok (.iaload, 1) := by decide +kernel
theorem dX12_takesOn_64 : decode cX12_takesOn 64 = .ok (.aload_n 0, 1) := by decide +kernel
theorem dX12_takesOn_65 : decode cX12_takesOn 65 = .ok (.getfield 80, 3) := by decide +kernel
theorem dX12_takesOn_68 : decode cX12_takesOn 68 = .ok (.iload_n 1, 1) := by decide +kernel
theorem dX12_takesOn_69 : decode cX12_takesOn 69 = .ok (.iaload, 1) := by decide +kernel
theorem dX12_takesOn_70 : decode cX12_takesOn 70 = .ok (.invokevirtual 229, 3) := by decide +kernel
theorem dX12_takesOn_73 : decode cX12_takesOn 73 = .ok (.iastore, 1) := by decide +kernel
theorem dX12_takesOn_74 : decode cX12_takesOn 74 = .ok (.aload_n 0, 1) := by decide +kernel
theorem dX12_takesOn_75 : decode cX12_takesOn 75 = .ok (.getfield 68, 3) := by decide +kernel
theorem dX12_takesOn_78 : decode cX12_takesOn 78 = .ok (.iload_n 1, 1) := by decide +kernel
theorem dX12_takesOn_79 : decode cX12_takesOn 79 = .ok (.iload_n 3, 1) := by decide +kernel
theorem dX12_takesOn_80 : decode cX12_takesOn 80 = .ok (.iconst 1, 1) := by decide +kernel
theorem dX12_takesOn_81 : decode cX12_takesOn 81 = .ok (.iadd, 1) := by decide +kernel
theorem dX12_takesOn_82 : decode cX12_takesOn 82 = .ok (.bipush 9, 2) := by decide +kernel
theorem dX12_takesOn_84 : decode cX12_takesOn 84 = .ok (.irem, 1) := by decide +kernel
theorem dX12_takesOn_85 : decode cX12_takesOn 85 = .ok (.iastore, 1) := by decide +kernel
theorem dX12_takesOn_86 : decode cX12_takesOn 86 = .ok (.aload_n 0, 1) := by decide +kernel
theorem dX12_takesOn_87 : decode cX12_takesOn 87 = .ok (.getfield 71, 3) := by decide +kernel
theorem dX12_takesOn_90 : decode cX12_takesOn 90 = .ok (.iload_n 1, 1) := by decide +kernel
theorem dX12_takesOn_91 : decode cX12_takesOn 91 = .ok (.iconst 0, 1) := by decide +kernel
theorem dX12_takesOn_92 : decode cX12_takesOn 92 = .ok (.iastore, 1) := by decide +kernel
theorem dX12_takesOn_93 : decode cX12_takesOn 93 = .ok (.return_, 1) := by decide +kernel
theorem dX12_waitsOn_0 : decode cX12_waitsOn 0 = .ok (.aload_n 0, 1) := by decide +kernel
theorem dX12_waitsOn_1 : decode cX12_waitsOn 1 = .ok (.iload_n 1, 1) := by decide +kernel
theorem dX12_waitsOn_2 : decode cX12_waitsOn 2 = .ok (.invokevirtual 233, 3) := by decide +kernel
theorem dX12_waitsOn_5 : decode cX12_waitsOn 5 = .ok (.ifCond .eq 14, 3) := by decide +kernel
theorem dX12_waitsOn_8 : decode cX12_waitsOn 8 = .ok (.aload_n 0, 1) := by decide +kernel
theorem dX12_waitsOn_9 : decode cX12_waitsOn 9 = .ok (.getfield 83, 3) := by decide +kernel
theorem dX12_waitsOn_12 : decode cX12_waitsOn 12 = .ok (.iload_n 1, 1) := by decide +kernel
theorem dX12_waitsOn_13 : decode cX12_waitsOn 13 = .ok (.dup2, 1) := by decide +kernel
theorem dX12_waitsOn_14 : decode cX12_waitsOn 14 = .ok (.iaload, 1) := by decide +kernel
theorem dX12_waitsOn_15 : decode cX12_waitsOn 15 = .ok (.iconst 1, 1) := by decide +kernel
theorem dX12_waitsOn_16 : decode cX12_waitsOn 16 = .ok (.iadd, 1) := by decide +kernel
theorem dX12_waitsOn_17 : decode cX12_waitsOn 17 = .ok (.iastore, 1) := by decide +kernel
theorem dX12_waitsOn_18 : decode cX12_waitsOn 18 = .ok (.return_, 1) := by decide +kernel
theorem dX12_waitsOn_19 : decode cX12_waitsOn 19 = .ok (.aload_n 0, 1) := by decide +kernel
theorem dX12_waitsOn_20 : decode cX12_waitsOn 20 = .ok (.getfield 71, 3) := by decide +kernel
theorem dX12_waitsOn_23 : decode cX12_waitsOn 23 = .ok (.iload_n 1, 1) := by decide +kernel
theorem dX12_waitsOn_24 : decode cX12_waitsOn 24 = .ok (.iconst 2, 1) := by decide +kernel
theorem dX12_waitsOn_25 : decode cX12_waitsOn 25 = .ok (.iastore, 1) := by decide +kernel
theorem dX12_waitsOn_26 : decode cX12_waitsOn 26 = .ok (.aload_n 0, 1) := by decide +kernel
theorem dX12_waitsOn_27 : decode cX12_waitsOn 27 = .ok (.getfield 74, 3) := by decide +kernel
theorem dX12_waitsOn_30 : decode cX12_waitsOn 30 = .ok (.iload_n 1, 1) := by decide +kernel
theorem dX12_waitsOn_31 : decode cX12_waitsOn 31 = .ok (.aload_n 0, 1) := by decide +kernel
theorem dX12_waitsOn_32 : decode cX12_waitsOn 32 = .ok (.iload_n 1, 1) := by decide +kernel
theorem dX12_waitsOn_33 : decode cX12_waitsOn 33 = .ok (.aload_n 0, 1) := by decide +kernel
theorem dX12_waitsOn_34 : decode cX12_waitsOn 34 = .ok (.getfield 68, 3) := by decide +kernel
theorem dX12_waitsOn_37 : decode cX12_waitsOn 37 = .ok (.iload_n 1, 1) := by decide +kernel
theorem dX12_waitsOn_38 : decode cX12_waitsOn 38 = .ok (.iaload, 1) := by decide +kernel
theorem dX12_waitsOn_39 : decode cX12_waitsOn 39 = .ok (.aload_n 0, 1) := by decide +kernel
theorem dX12_waitsOn_40 : decode cX12_waitsOn 40 = .ok (.getfield 89, 3) := by decide +kernel
theorem dX12_waitsOn_43 : decode cX12_waitsOn 43 = .ok (.aload_n 0, 1) := by decide +kernel
theorem dX12_waitsOn_44 : decode cX12_waitsOn 44 = .ok (.getfield 68, 3) := by decide +kernel
theorem dX12_waitsOn_47 : decode cX12_waitsOn 47 = .ok (.iload_n 1, 1) := by decide +kernel
theorem dX12_waitsOn_48 : decode cX12_waitsOn 48 = .ok (.iaload, 1) := by decide +kernel
theorem dX12_waitsOn_49 : decode cX12_waitsOn 49 = .ok (.iaload, 1) := by decide +kernel
theorem dX12_waitsOn_50 : decode cX12_waitsOn 50 = .ok (.aload_n 0, 1) := by decide +kernel
theorem dX12_waitsOn_51 : decode cX12_waitsOn 51 = .ok (.getfield 80, 3) := by decide +kernel
theorem dX12_waitsOn_54 : decode cX12_waitsOn 54 = .ok (.iload_n 1, 1) := by decide +kernel
theorem dX12_waitsOn_55 : decode cX12_waitsOn 55 = .ok (.iaload, 1) := by decide +kernel
theorem dX12_waitsOn_56 : decode cX12_waitsOn 56 = .ok (.invokevirtual 236, 3) := by decide +kernel
theorem dX12_waitsOn_59 : decode cX12_waitsOn 59 = .ok (.iastore, 1) := by decide +kernel
theorem dX12_waitsOn_60 : decode cX12_waitsOn 60 = .ok (.return_, 1) := by decide +kernel
theorem dX12_second_0 : decode cX12_second 0 = .ok (.iconst 0, 1) := by decide +kernel
theorem dX12_second_1 : decode cX12_second 1 = .ok (.istore_n 2, 1) := by decide +kernel
theorem dX12_second_2 : decode cX12_second 2 = .ok (.iload_n 2, 1) := by decide +kernel
theorem dX12_second_3 : decode cX12_second 3 = .ok (.aload_n 0, 1) := by decide +kernel
theorem dX12_second_4 : decode cX12_second 4 = .ok (.getfield 219, 3) := by decide +kernel
theorem dX12_second_7 : decode cX12_second 7 = .ok (.if_icmp .ge 89, 3) := by decide +kernel
theorem dX12_second_10 : decode cX12_second 10 = .ok (.aload_n 0, 1) := by decide +kernel
theorem dX12_second_11 : decode cX12_second 11 = .ok (.getfield 65, 3) := by decide +kernel
theorem dX12_second_14 : decode cX12_second 14 = .ok (.iload_n 2, 1) := by decide +kernel
theorem dX12_second_15 : decode cX12_second 15 = .ok (.iaload, 1) := by decide +kernel
theorem dX12_second_16 : decode cX12_second 16 = .ok (.istore_n 3, 1) := by decide +kernel
theorem dX12_second_17 : decode cX12_second 17 = .ok (.aload_n 0, 1) := by decide +kernel
theorem dX12_second_18 : decode cX12_second 18 = .ok (.getfield 71, 3) := by decide +kernel
theorem dX12_second_21 : decode cX12_second 21 = .ok (.iload_n 3, 1) := by decide +kernel
theorem dX12_second_22 : decode cX12_second 22 = .ok (.iaload, 1) := by decide +kernel
theorem dX12_second_23 : decode cX12_second 23 = .ok (.iconst 2, 1) := by decide +kernel
theorem dX12_second_24 : decode cX12_second 24 = .ok (.if_icmp .ne 12, 3) := by decide +kernel
theorem dX12_second_27 : decode cX12_second 27 = .ok (.aload_n 0, 1) := by decide +kernel
theorem dX12_second_28 : decode cX12_second 28 = .ok (.iload_n 3, 1) := by decide +kernel
theorem dX12_second_29 : decode cX12_second 29 = .ok (.iload_n 1, 1) := by decide +kernel
theorem dX12_second_30 : decode cX12_second 30 = .ok (.invokevirtual 239, 3) := by decide +kernel
theorem dX12_second_33 : decode cX12_second 33 = .ok (.goto 57, 3) := by decide +kernel
theorem dX12_second_36 : decode cX12_second 36 = .ok (.aload_n 0, 1) := by decide +kernel
theorem dX12_second_37 : decode cX12_second 37 = .ok (.getfield 74, 3) := by decide +kernel
theorem dX12_second_40 : decode cX12_second 40 = .ok (.iload_n 3, 1) := by decide +kernel
theorem dX12_second_41 : decode cX12_second 41 = .ok (.dup2, 1) := by decide +kernel
theorem dX12_second_42 : decode cX12_second 42 = .ok (.iaload, 1) := by decide +kernel
theorem dX12_second_43 : decode cX12_second 43 = .ok (.aload_n 0, 1) := by decide +kernel
theorem dX12_second_44 : decode cX12_second 44 = .ok (.getfield 71, 3) := by decide +kernel
theorem dX12_second_47 : decode cX12_second 47 = .ok (.iload_n 3, 1) := by decide +kernel
theorem dX12_second_48 : decode cX12_second 48 = .ok (.iaload, 1) := by decide +kernel
theorem dX12_second_49 : decode cX12_second 49 = .ok (.ifCond .ne 7, 3) := by decide +kernel
theorem dX12_second_52 : decode cX12_second 52 = .ok (.iconst 1, 1) := by decide +kernel
theorem dX12_second_53 : decode cX12_second 53 = .ok (.goto 4, 3) := by decide +kernel
theorem dX12_second_56 : decode cX12_second 56 = .ok (.iconst 0, 1) := by decide +kernel
theorem dX12_second_57 : decode cX12_second 57 = .ok (.isub, 1) := by decide +kernel
theorem dX12_second_58 : decode cX12_second 58 = .ok (.iastore, 1) := by decide +kernel
theorem dX12_second_59 : decode cX12_second 59 = .ok (.aload_n 0, 1) := by decide +kernel
theorem dX12_second_60 : decode cX12_second 60 = .ok (.getfield 71, 3) := by decide +kernel
theorem dX12_second_63 : decode cX12_second 63 = .ok (.iload_n 3, 1) := by decide +kernel
theorem dX12_second_64 : decode cX12_second 64 = .ok (.iaload, 1) := by decide +kernel
theorem dX12_second_65 : decode cX12_second 65 = .ok (.iconst 1, 1) := by decide +kernel
theorem dX12_second_66 : decode cX12_second 66 = .ok (.if_icmp .eq 12, 3) := by decide +kernel
theorem dX12_second_69 : decode cX12_second 69 = .ok (.aload_n 0, 1) := by decide +kernel
theorem dX12_second_70 : decode cX12_second 70 = .ok (.getfield 74, 3) := by decide +kernel
theorem dX12_second_73 : decode cX12_second 73 = .ok (.iload_n 3, 1) := by decide +kernel
theorem dX12_second_74 : decode cX12_second 74 = .ok (.iaload, 1) := by decide +kernel
theorem dX12_second_75 : decode cX12_second 75 = .ok (.ifCond .ne 15, 3) := by decide +kernel
theorem dX12_second_78 : decode cX12_second 78 = .ok (.aload_n 0, 1) := by decide +kernel
theorem dX12_second_79 : decode cX12_second 79 = .ok (.getfield 71, 3) := by decide +kernel
theorem dX12_second_82 : decode cX12_second 82 = .ok (.iload_n 3, 1) := by decide +kernel
theorem dX12_second_83 : decode cX12_second 83 = .ok (.iconst 1, 1) := by decide +kernel
theorem dX12_second_84 : decode cX12_second 84 = .ok (.iastore, 1) := by decide +kernel
theorem dX12_second_85 : decode cX12_second 85 = .ok (.aload_n 0, 1) := by decide +kernel
theorem dX12_second_86 : decode cX12_second 86 = .ok (.iload_n 3, 1) := by decide +kernel
theorem dX12_second_87 : decode cX12_second 87 = .ok (.invokevirtual 242, 3) := by decide +kernel
theorem dX12_second_90 : decode cX12_second 90 = .ok (.iinc 2 1, 3) := by decide +kernel
theorem dX12_second_93 : decode cX12_second 93 = .ok (.goto (-91), 3) := by decide +kernel
theorem dX12_second_96 : decode cX12_second 96 = .ok (.return_, 1) := by decide +kernel
theorem dX12_goesFor_0 : decode cX12_goesFor 0 = .ok (.aload_n 0, 1) := by decide +kernel
theorem dX12_goesFor_1 : decode cX12_goesFor 1 = .ok (.invokevirtual 245, 3) := by decide +kernel
theorem dX12_goesFor_4 : decode cX12_goesFor 4 = .ok (.iconst 0, 1) := by decide +kernel
theorem dX12_goesFor_5 : decode cX12_goesFor 5 = .ok (.istore_n 2, 1) := by decide +kernel
theorem dX12_goesFor_6 : decode cX12_goesFor 6 = .ok (.iload_n 2, 1) := by decide +kernel
theorem dX12_goesFor_7 : decode cX12_goesFor 7 = .ok (.iload_n 1, 1) := by decide +kernel
theorem dX12_goesFor_8 : decode cX12_goesFor 8 = .ok (.if_icmp .ge 14, 3) := by decide +kernel
theorem dX12_goesFor_11 : decode cX12_goesFor 11 = .ok (.aload_n 0, 1) := by decide +kernel
theorem dX12_goesFor_12 : decode cX12_goesFor 12 = .ok (.iload_n 2, 1) := by decide +kernel
theorem dX12_goesFor_13 : decode cX12_goesFor 13 = .ok (.invokevirtual 248, 3) := by decide +kernel
theorem dX12_goesFor_16 : decode cX12_goesFor 16 = .ok (.iinc 2 1, 3) := by decide +kernel
theorem dX12_goesFor_19 : decode cX12_goesFor 19 = .ok (.goto (-13), 3) := by decide +kernel
theorem dX12_goesFor_22 : decode cX12_goesFor 22 = .ok (.return_, 1) := by decide +kernel
theorem dX12_orders_0 : decode cX12_orders 0 = .ok (.aload_n 0, 1) := by decide +kernel
theorem dX12_orders_1 : decode cX12_orders 1 = .ok (.iconst 0, 1) := by decide +kernel
theorem dX12_orders_2 : decode cX12_orders 2 = .ok (.putfield 219, 3) := by decide +kernel
theorem dX12_orders_5 : decode cX12_orders 5 = .ok (.iconst 0, 1) := by decide +kernel
theorem dX12_orders_6 : decode cX12_orders 6 = .ok (.istore_n 2, 1) := by decide +kernel
theorem dX12_orders_7 : decode cX12_orders 7 = .ok (.iload_n 2, 1) := by decide +kernel
theorem dX12_orders_8 : decode cX12_orders 8 = .ok (.aload_n 0, 1) := by decide +kernel
theorem dX12_orders_9 : decode cX12_orders 9 = .ok (.getfield 117, 3) := by decide +kernel
theorem dX12_orders_12 : decode cX12_orders 12 = .ok (.if_icmp .ge 34, 3) := by decide +kernel
theorem dX12_orders_15 : decode cX12_orders 15 = .ok (.iload_n 2, 1) := by decide +kernel
theorem dX12_orders_16 : decode cX12_orders 16 = .ok (.iload_n 1, 1) := by decide +kernel
theorem dX12_orders_17 : decode cX12_orders 17 = .ok (.if_icmp .eq 23, 3) := by decide +kernel
theorem dX12_orders_20 : decode cX12_orders 20 = .ok (.aload_n 0, 1) := by decide +kernel
theorem dX12_orders_21 : decode cX12_orders 21 = .ok (.getfield 65, 3) := by decide +kernel
theorem dX12_orders_24 : decode cX12_orders 24 = .ok (.aload_n 0, 1) := by decide +kernel
theorem dX12_orders_25 : decode cX12_orders 25 = .ok (.getfield 219, 3) := by decide +kernel
theorem dX12_orders_28 : decode cX12_orders 28 = .ok (.iload_n 2, 1) := by decide +kernel
theorem dX12_orders_29 : decode cX12_orders 29 = .ok (.iastore, 1) := by decide +kernel
theorem dX12_orders_30 : decode cX12_orders 30 = .ok (.aload_n 0, 1) := by decide +kernel
theorem dX12_orders_31 : decode cX12_orders 31 = .ok (.dup, 1) := by decide +kernel
theorem dX12_orders_32 : decode cX12_orders 32 = .ok (.getfield 219, 3) := by decide +kernel
theorem dX12_orders_35 : decode cX12_orders 35 = .ok (.iconst 1, 1) := by decide +kernel
theorem dX12_orders_36 : decode cX12_orders 36 = .ok (.iadd, 1) := by decide +kernel
theorem dX12_orders_37 : decode cX12_orders 37 = .ok (.putfield 219, 3) := by decide +kernel
theorem dX12_orders_40 : decode cX12_orders 40 = .ok (.iinc 2 1, 3) := by decide +kernel
theorem dX12_orders_43 : decode cX12_orders 43 = .ok (.goto (-36), 3) := by decide +kernel
theorem dX12_orders_46 : decode cX12_orders 46 = .ok (.return_, 1) := by decide +kernel
theorem dX12_goesPlain_0 : decode cX12_goesPlain 0 = .ok (.aload_n 0, 1) := by decide +kernel
theorem dX12_goesPlain_1 : decode cX12_goesPlain 1 = .ok (.iconst (-1), 1) := by decide +kernel
theorem dX12_goesPlain_2 : decode cX12_goesPlain 2 = .ok (.invokevirtual 251, 3) := by decide +kernel
theorem dX12_goesPlain_5 : decode cX12_goesPlain 5 = .ok (.aload_n 0, 1) := by decide +kernel
theorem dX12_goesPlain_6 : decode cX12_goesPlain 6 = .ok (.iload_n 1, 1) := by decide +kernel
theorem dX12_goesPlain_7 : decode cX12_goesPlain 7 = .ok (.invokevirtual 254, 3) := by decide +kernel
theorem dX12_goesPlain_10 : decode cX12_goesPlain 10 = .ok (.return_, 1) := by decide +kernel
theorem dX12_howMany_0 : decode cX12_howMany 0 = .ok (.iconst 0, 1) := by decide +kernel
theorem dX12_howMany_1 : decode cX12_howMany 1 = .ok (.istore_n 2, 1) := by decide +kernel
theorem dX12_howMany_2 : decode cX12_howMany 2 = .ok (.iconst 0, 1) := by decide +kernel
theorem dX12_howMany_3 : decode cX12_howMany 3 = .ok (.istore_n 3, 1) := by decide +kernel
theorem dX12_howMany_4 : decode cX12_howMany 4 = .ok (.iload_n 3, 1) := by decide +kernel
theorem dX12_howMany_5 : decode cX12_howMany 5 = .ok (.aload_n 0, 1) := by decide +kernel
theorem dX12_howMany_6 : decode cX12_howMany 6 = .ok (.getfield 213, 3) := by decide +kernel
theorem dX12_howMany_9 : decode cX12_howMany 9 = .ok (.if_icmp .ge 27, 3) := by decide +kernel
theorem dX12_howMany_12 : decode cX12_howMany 12 = .ok (.iload_n 2, 1) := by decide +kernel
theorem dX12_howMany_13 : decode cX12_howMany 13 = .ok (.aload_n 0, 1) := by decide +kernel
theorem dX12_howMany_14 : decode cX12_howMany 14 = .ok (.getfield 98, 3) := by decide +kernel
theorem dX12_howMany_17 : decode cX12_howMany 17 = .ok (.iload_n 3, 1) := by decide +kernel
theorem dX12_howMany_18 : decode cX12_howMany 18 = .ok (.iaload, 1) := by decide +kernel
theorem dX12_howMany_19 : decode cX12_howMany 19 = .ok (.iload_n 1, 1) := by decide +kernel
theorem dX12_howMany_20 : decode cX12_howMany 20 = .ok (.if_icmp .ne 7, 3) := by decide +kernel
theorem dX12_howMany_23 : decode cX12_howMany 23 = .ok (.iconst 1, 1) := by decide +kernel
theorem dX12_howMany_24 : decode cX12_howMany 24 = .ok (.goto 4, 3) := by decide +kernel
theorem dX12_howMany_27 : decode cX12_howMany 27 = .ok (.iconst 0, 1) := by decide +kernel
theorem dX12_howMany_28 : decode cX12_howMany 28 = .ok (.iadd, 1) := by decide +kernel
theorem dX12_howMany_29 : decode cX12_howMany 29 = .ok (.istore_n 2, 1) := by decide +kernel
theorem dX12_howMany_30 : decode cX12_howMany 30 = .ok (.iinc 3 1, 3) := by decide +kernel
theorem dX12_howMany_33 : decode cX12_howMany 33 = .ok (.goto (-29), 3) := by decide +kernel
theorem dX12_howMany_36 : decode cX12_howMany 36 = .ok (.iload_n 2, 1) := by decide +kernel
theorem dX12_howMany_37 : decode cX12_howMany 37 = .ok (.ireturn, 1) := by decide +kernel
theorem dX12_waitings_0 : decode cX12_waitings 0 = .ok (.iconst 0, 1) := by decide +kernel
theorem dX12_waitings_1 : decode cX12_waitings 1 = .ok (.istore_n 1, 1) := by decide +kernel
theorem dX12_waitings_2 : decode cX12_waitings 2 = .ok (.iconst 0, 1) := by decide +kernel
theorem dX12_waitings_3 : decode cX12_waitings 3 = .ok (.istore_n 2, 1) := by decide +kernel
theorem dX12_waitings_4 : decode cX12_waitings 4 = .ok (.iload_n 2, 1) := by decide +kernel
theorem dX12_waitings_5 : decode cX12_waitings 5 = .ok (.aload_n 0, 1) := by decide +kernel
theorem dX12_waitings_6 : decode cX12_waitings 6 = .ok (.getfield 117, 3) := by decide +kernel
theorem dX12_waitings_9 : decode cX12_waitings 9 = .ok (.if_icmp .ge 33, 3) := by decide +kernel
theorem dX12_waitings_12 : decode cX12_waitings 12 = .ok (.iload_n 1, 1) := by decide +kernel
theorem dX12_waitings_13 : decode cX12_waitings 13 = .ok (.aload_n 0, 1) := by decide +kernel
theorem dX12_waitings_14 : decode cX12_waitings 14 = .ok (.getfield 83, 3) := by decide +kernel
theorem dX12_waitings_17 : decode cX12_waitings 17 = .ok (.iload_n 2, 1) := by decide +kernel
theorem dX12_waitings_18 : decode cX12_waitings 18 = .ok (.iaload, 1) := by decide +kernel
theorem dX12_waitings_19 : decode cX12_waitings 19 = .ok (.aload_n 0, 1) := by decide +kernel
theorem dX12_waitings_20 : decode cX12_waitings 20 = .ok (.iconst 2, 1) := by decide +kernel
theorem dX12_waitings_21 : decode cX12_waitings 21 = .ok (.iconst 0, 1) := by decide +kernel
theorem dX12_waitings_22 : decode cX12_waitings 22 = .ok (.iconst 0, 1) := by decide +kernel
theorem dX12_waitings_23 : decode cX12_waitings 23 = .ok (.iload_n 2, 1) := by decide +kernel
theorem dX12_waitings_24 : decode cX12_waitings 24 = .ok (.aload_n 0, 1) := by decide +kernel
theorem dX12_waitings_25 : decode cX12_waitings 25 = .ok (.getfield 80, 3) := by decide +kernel
theorem dX12_waitings_28 : decode cX12_waitings 28 = .ok (.iload_n 2, 1) := by decide +kernel
theorem dX12_waitings_29 : decode cX12_waitings 29 = .ok (.iaload, 1) := by decide +kernel
theorem dX12_waitings_30 : decode cX12_waitings 30 = .ok (.invokevirtual 206, 3) := by decide +kernel
theorem dX12_waitings_33 : decode cX12_waitings 33 = .ok (.imul, 1) := by decide +kernel
theorem dX12_waitings_34 : decode cX12_waitings 34 = .ok (.iadd, 1) := by decide +kernel
theorem dX12_waitings_35 : decode cX12_waitings 35 = .ok (.istore_n 1, 1) := by decide +kernel
theorem dX12_waitings_36 : decode cX12_waitings 36 = .ok (.iinc 2 1, 3) := by decide +kernel
theorem dX12_waitings_39 : decode cX12_waitings 39 = .ok (.goto (-35), 3) := by decide +kernel
theorem dX12_waitings_42 : decode cX12_waitings 42 = .ok (.iload_n 1, 1) := by decide +kernel
theorem dX12_waitings_43 : decode cX12_waitings 43 = .ok (.ireturn, 1) := by decide +kernel
theorem dX12_run_0 : decode cX12_run 0 = .ok (.iload_n 1, 1) := by decide +kernel
theorem dX12_run_1 : decode cX12_run 1 = .ok (.invokestatic 257, 3) := by decide +kernel
theorem dX12_run_4 : decode cX12_run 4 = .ok (.ifCond .eq 12, 3) := by decide +kernel
theorem dX12_run_7 : decode cX12_run 7 = .ok (.iload_n 2, 1) := by decide +kernel
theorem dX12_run_8 : decode cX12_run 8 = .ok (.iconst 0, 1) := by decide +kernel
theorem dX12_run_9 : decode cX12_run 9 = .ok (.iconst 4, 1) := by decide +kernel
theorem dX12_run_10 : decode cX12_run 10 = .ok (.invokestatic 120, 3) := by decide +kernel
theorem dX12_run_13 : decode cX12_run 13 = .ok (.ifCond .ne 6, 3) := by decide +kernel
theorem dX12_run_16 : decode cX12_run 16 = .ok (.bipush (-2), 2) := by decide +kernel
theorem dX12_run_18 : decode cX12_run 18 = .ok (.ireturn, 1) := by decide +kernel
theorem dX12_run_19 : decode cX12_run 19 = .ok (.aload_n 0, 1) := by decide +kernel
theorem dX12_run_20 : decode cX12_run 20 = .ok (.iload_n 1, 1) := by decide +kernel
theorem dX12_run_21 : decode cX12_run 21 = .ok (.invokevirtual 260, 3) := by decide +kernel
theorem dX12_run_24 : decode cX12_run 24 = .ok (.iload_n 2, 1) := by decide +kernel
theorem dX12_run_25 : decode cX12_run 25 = .ok (.ifCond .ne 10, 3) := by decide +kernel
theorem dX12_run_28 : decode cX12_run 28 = .ok (.aload_n 0, 1) := by decide +kernel
theorem dX12_run_29 : decode cX12_run 29 = .ok (.getfield 213, 3) := by decide +kernel
theorem dX12_run_32 : decode cX12_run 32 = .ok (.goto 32, 3) := by decide +kernel
theorem dX12_run_35 : decode cX12_run 35 = .ok (.iload_n 2, 1) := by decide +kernel
theorem dX12_run_36 : decode cX12_run 36 = .ok (.iconst 3, 1) := by decide +kernel
theorem dX12_run_37 : decode cX12_run 37 = .ok (.if_icmp .ge 11, 3) := by decide +kernel
theorem dX12_run_40 : decode cX12_run 40 = .ok (.aload_n 0, 1) := by decide +kernel
theorem dX12_run_41 : decode cX12_run 41 = .ok (.iload_n 2, 1) := by decide +kernel
theorem dX12_run_42 : decode cX12_run 42 = .ok (.invokevirtual 263, 3) := by decide +kernel
theorem dX12_run_45 : decode cX12_run 45 = .ok (.goto 19, 3) := by decide +kernel
theorem dX12_run_48 : decode cX12_run 48 = .ok (.iload_n 2, 1) := by decide +kernel
theorem dX12_run_49 : decode cX12_run 49 = .ok (.iconst 3, 1) := by decide +kernel
theorem dX12_run_50 : decode cX12_run 50 = .ok (.if_icmp .ne 10, 3) := by decide +kernel
theorem dX12_run_53 : decode cX12_run 53 = .ok (.aload_n 0, 1) := by decide +kernel
theorem dX12_run_54 : decode cX12_run 54 = .ok (.invokevirtual 266, 3) := by decide +kernel
theorem dX12_run_57 : decode cX12_run 57 = .ok (.goto 7, 3) := by decide +kernel
theorem dX12_run_60 : decode cX12_run 60 = .ok (.aload_n 0, 1) := by decide +kernel
theorem dX12_run_61 : decode cX12_run 61 = .ok (.getfield 216, 3) := by decide +kernel
theorem dX12_run_64 : decode cX12_run 64 = .ok (.ireturn, 1) := by decide +kernel
theorem dX12_one_0 : decode cX12_one 0 = .ok (.aload_n 0, 1) := by decide +kernel
theorem dX12_one_1 : decode cX12_one 1 = .ok (.iload_n 1, 1) := by decide +kernel
theorem dX12_one_2 : decode cX12_one 2 = .ok (.invokevirtual 203, 3) := by decide +kernel
theorem dX12_one_5 : decode cX12_one 5 = .ok (.ifCond .ne 6, 3) := by decide +kernel
theorem dX12_one_8 : decode cX12_one 8 = .ok (.bipush (-5), 2) := by decide +kernel
theorem dX12_one_10 : decode cX12_one 10 = .ok (.ireturn, 1) := by decide +kernel
theorem dX12_one_11 : decode cX12_one 11 = .ok (.iload_n 2, 1) := by decide +kernel
theorem dX12_one_12 : decode cX12_one 12 = .ok (.invokestatic 257, 3) := by decide +kernel
theorem dX12_one_15 : decode cX12_one 15 = .ok (.ifCond .eq 12, 3) := by decide +kernel
theorem dX12_one_18 : decode cX12_one 18 = .ok (.iload_n 3, 1) := by decide +kernel
theorem dX12_one_19 : decode cX12_one 19 = .ok (.iconst 0, 1) := by decide +kernel
theorem dX12_one_20 : decode cX12_one 20 = .ok (.iconst 4, 1) := by decide +kernel
theorem dX12_one_21 : decode cX12_one 21 = .ok (.invokestatic 120, 3) := by decide +kernel
theorem dX12_one_24 : decode cX12_one 24 = .ok (.ifCond .ne 6, 3) := by decide +kernel
theorem dX12_one_27 : decode cX12_one 27 = .ok (.bipush (-7), 2) := by decide +kernel
theorem dX12_one_29 : decode cX12_one 29 = .ok (.ireturn, 1) := by decide +kernel
theorem dX12_one_30 : decode cX12_one 30 = .ok (.aload_n 0, 1) := by decide +kernel
theorem dX12_one_31 : decode cX12_one 31 = .ok (.iload_n 2, 1) := by decide +kernel
theorem dX12_one_32 : decode cX12_one 32 = .ok (.invokevirtual 260, 3) := by decide +kernel
theorem dX12_one_35 : decode cX12_one 35 = .ok (.iload_n 3, 1) := by decide +kernel
theorem dX12_one_36 : decode cX12_one 36 = .ok (.ifCond .ne 12, 3) := by decide +kernel
theorem dX12_one_39 : decode cX12_one 39 = .ok (.aload_n 0, 1) := by decide +kernel
theorem dX12_one_40 : decode cX12_one 40 = .ok (.getfield 68, 3) := by decide +kernel
theorem dX12_one_43 : decode cX12_one 43 = .ok (.iload_n 1, 1) := by decide +kernel
theorem dX12_one_44 : decode cX12_one 44 = .ok (.iaload, 1) := by decide +kernel
theorem dX12_one_45 : decode cX12_one 45 = .ok (.goto 51, 3) := by decide +kernel
theorem dX12_one_48 : decode cX12_one 48 = .ok (.iload_n 3, 1) := by decide +kernel
theorem dX12_one_49 : decode cX12_one 49 = .ok (.iconst 1, 1) := by decide +kernel
theorem dX12_one_50 : decode cX12_one 50 = .ok (.if_icmp .ne 12, 3) := by decide +kernel
theorem dX12_one_53 : decode cX12_one 53 = .ok (.aload_n 0, 1) := by decide +kernel
theorem dX12_one_54 : decode cX12_one 54 = .ok (.getfield 71, 3) := by decide +kernel
theorem dX12_one_57 : decode cX12_one 57 = .ok (.iload_n 1, 1) := by decide +kernel
theorem dX12_one_58 : decode cX12_one 58 = .ok (.iaload, 1) := by decide +kernel
theorem dX12_one_59 : decode cX12_one 59 = .ok (.goto 37, 3) := by decide +kernel
theorem dX12_one_62 : decode cX12_one 62 = .ok (.iload_n 3, 1) := by decide +kernel
theorem dX12_one_63 : decode cX12_one 63 = .ok (.iconst 2, 1) := by decide +kernel
theorem dX12_one_64 : decode cX12_one 64 = .ok (.if_icmp .ne 12, 3) := by decide +kernel
theorem dX12_one_67 : decode cX12_one 67 = .ok (.aload_n 0, 1) := by decide +kernel
theorem dX12_one_68 : decode cX12_one 68 = .ok (.getfield 80, 3) := by decide +kernel
theorem dX12_one_71 : decode cX12_one 71 = .ok (.iload_n 1, 1) := by decide +kernel
theorem dX12_one_72 : decode cX12_one 72 = .ok (.iaload, 1) := by decide +kernel
theorem dX12_one_73 : decode cX12_one 73 = .ok (.goto 23, 3) := by decide +kernel
theorem dX12_one_76 : decode cX12_one 76 = .ok (.iload_n 3, 1) := by decide +kernel
theorem dX12_one_77 : decode cX12_one 77 = .ok (.iconst 3, 1) := by decide +kernel
theorem dX12_one_78 : decode cX12_one 78 = .ok (.if_icmp .ne 12, 3) := by decide +kernel
theorem dX12_one_81 : decode cX12_one 81 = .ok (.aload_n 0, 1) := by decide +kernel
theorem dX12_one_82 : decode cX12_one 82 = .ok (.getfield 83, 3) := by decide +kernel
theorem dX12_one_85 : decode cX12_one 85 = .ok (.iload_n 1, 1) := by decide +kernel
theorem dX12_one_86 : decode cX12_one 86 = .ok (.iaload, 1) := by decide +kernel
theorem dX12_one_87 : decode cX12_one 87 = .ok (.goto 9, 3) := by decide +kernel
theorem dX12_one_90 : decode cX12_one 90 = .ok (.aload_n 0, 1) := by decide +kernel
theorem dX12_one_91 : decode cX12_one 91 = .ok (.getfield 77, 3) := by decide +kernel
theorem dX12_one_94 : decode cX12_one 94 = .ok (.iload_n 1, 1) := by decide +kernel
theorem dX12_one_95 : decode cX12_one 95 = .ok (.iaload, 1) := by decide +kernel
theorem dX12_one_96 : decode cX12_one 96 = .ok (.ireturn, 1) := by decide +kernel
theorem dX12_height_0 : decode cX12_height 0 = .ok (.iload_n 1, 1) := by decide +kernel
theorem dX12_height_1 : decode cX12_height 1 = .ok (.invokestatic 130, 3) := by decide +kernel
theorem dX12_height_4 : decode cX12_height 4 = .ok (.ifCond .ne 6, 3) := by decide +kernel
theorem dX12_height_7 : decode cX12_height 7 = .ok (.bipush (-6), 2) := by decide +kernel
theorem dX12_height_9 : decode cX12_height 9 = .ok (.ireturn, 1) := by decide +kernel
theorem dX12_height_10 : decode cX12_height 10 = .ok (.iload_n 2, 1) := by decide +kernel
theorem dX12_height_11 : decode cX12_height 11 = .ok (.invokestatic 257, 3) := by decide +kernel
theorem dX12_height_14 : decode cX12_height 14 = .ok (.ifCond .eq 12, 3) := by decide +kernel
theorem dX12_height_17 : decode cX12_height 17 = .ok (.iload_n 3, 1) := by decide +kernel
theorem dX12_height_18 : decode cX12_height 18 = .ok (.iconst 0, 1) := by decide +kernel
theorem dX12_height_19 : decode cX12_height 19 = .ok (.iconst 1, 1) := by decide +kernel
theorem dX12_height_20 : decode cX12_height 20 = .ok (.invokestatic 120, 3) := by decide +kernel
theorem dX12_height_23 : decode cX12_height 23 = .ok (.ifCond .ne 6, 3) := by decide +kernel
theorem dX12_height_26 : decode cX12_height 26 = .ok (.bipush (-7), 2) := by decide +kernel
theorem dX12_height_28 : decode cX12_height 28 = .ok (.ireturn, 1) := by decide +kernel
theorem dX12_height_29 : decode cX12_height 29 = .ok (.aload_n 0, 1) := by decide +kernel
theorem dX12_height_30 : decode cX12_height 30 = .ok (.iload_n 2, 1) := by decide +kernel
theorem dX12_height_31 : decode cX12_height 31 = .ok (.invokevirtual 260, 3) := by decide +kernel
theorem dX12_height_34 : decode cX12_height 34 = .ok (.iload_n 3, 1) := by decide +kernel
theorem dX12_height_35 : decode cX12_height 35 = .ok (.ifCond .ne 12, 3) := by decide +kernel
theorem dX12_height_38 : decode cX12_height 38 = .ok (.aload_n 0, 1) := by decide +kernel
theorem dX12_height_39 : decode cX12_height 39 = .ok (.getfield 89, 3) := by decide +kernel
theorem dX12_height_42 : decode cX12_height 42 = .ok (.iload_n 1, 1) := by decide +kernel
theorem dX12_height_43 : decode cX12_height 43 = .ok (.iaload, 1) := by decide +kernel
theorem dX12_height_44 : decode cX12_height 44 = .ok (.goto 9, 3) := by decide +kernel
theorem dX12_height_47 : decode cX12_height 47 = .ok (.aload_n 0, 1) := by decide +kernel
theorem dX12_height_48 : decode cX12_height 48 = .ok (.getfield 95, 3) := by decide +kernel
theorem dX12_height_51 : decode cX12_height 51 = .ok (.iload_n 1, 1) := by decide +kernel
theorem dX12_height_52 : decode cX12_height 52 = .ok (.iaload, 1) := by decide +kernel
theorem dX12_height_53 : decode cX12_height 53 = .ok (.ireturn, 1) := by decide +kernel
theorem dX12_go_0 : decode cX12_go 0 = .ok (.iload_n 1, 1) := by decide +kernel
theorem dX12_go_1 : decode cX12_go 1 = .ok (.invokestatic 257, 3) := by decide +kernel
theorem dX12_go_4 : decode cX12_go 4 = .ok (.ifCond .ne 6, 3) := by decide +kernel
theorem dX12_go_7 : decode cX12_go 7 = .ok (.bipush (-2), 2) := by decide +kernel
theorem dX12_go_9 : decode cX12_go 9 = .ok (.ireturn, 1) := by decide +kernel
theorem dX12_go_10 : decode cX12_go 10 = .ok (.aload_n 0, 1) := by decide +kernel
theorem dX12_go_11 : decode cX12_go 11 = .ok (.iload_n 1, 1) := by decide +kernel
theorem dX12_go_12 : decode cX12_go 12 = .ok (.invokevirtual 260, 3) := by decide +kernel
theorem dX12_go_15 : decode cX12_go 15 = .ok (.iconst 0, 1) := by decide +kernel
theorem dX12_go_16 : decode cX12_go 16 = .ok (.istore_n 2, 1) := by decide +kernel
theorem dX12_go_17 : decode cX12_go 17 = .ok (.iload_n 2, 1) := by decide +kernel
theorem dX12_go_18 : decode cX12_go 18 = .ok (.bipush 9, 2) := by decide +kernel
theorem dX12_go_20 : decode cX12_go 20 = .ok (.if_icmp .ge 21, 3) := by decide +kernel
theorem dX12_go_23 : decode cX12_go 23 = .ok (.aload_n 0, 1) := by decide +kernel
theorem dX12_go_24 : decode cX12_go 24 = .ok (.getfield 7, 3) := by decide +kernel
theorem dX12_go_27 : decode cX12_go 27 = .ok (.iload_n 2, 1) := by decide +kernel
theorem dX12_go_28 : decode cX12_go 28 = .ok (.aload_n 0, 1) := by decide +kernel
theorem dX12_go_29 : decode cX12_go 29 = .ok (.getfield 89, 3) := by decide +kernel
theorem dX12_go_32 : decode cX12_go 32 = .ok (.iload_n 2, 1) := by decide +kernel
theorem dX12_go_33 : decode cX12_go 33 = .ok (.iaload, 1) := by decide +kernel
theorem dX12_go_34 : decode cX12_go 34 = .ok (.iastore, 1) := by decide +kernel
theorem dX12_go_35 : decode cX12_go 35 = .ok (.iinc 2 1, 3) := by decide +kernel
theorem dX12_go_38 : decode cX12_go 38 = .ok (.goto (-21), 3) := by decide +kernel
theorem dX12_go_41 : decode cX12_go 41 = .ok (.aload_n 0, 1) := by decide +kernel
theorem dX12_go_42 : decode cX12_go 42 = .ok (.getfield 213, 3) := by decide +kernel
theorem dX12_go_45 : decode cX12_go 45 = .ok (.ireturn, 1) := by decide +kernel
theorem dX12_offNumber_0 : decode cX12_offNumber 0 = .ok (.iload_n 1, 1) := by decide +kernel
theorem dX12_offNumber_1 : decode cX12_offNumber 1 = .ok (.istore_n 2, 1) := by decide +kernel
theorem dX12_offNumber_2 : decode cX12_offNumber 2 = .ok (.iconst 0, 1) := by decide +kernel
theorem dX12_offNumber_3 : decode cX12_offNumber 3 = .ok (.istore_n 3, 1) := by decide +kernel
theorem dX12_offNumber_4 : decode cX12_offNumber 4 = .ok (.iload_n 3, 1) := by decide +kernel
theorem dX12_offNumber_5 : decode cX12_offNumber 5 = .ok (.aload_n 0, 1) := by decide +kernel
theorem dX12_offNumber_6 : decode cX12_offNumber 6 = .ok (.getfield 213, 3) := by decide +kernel
theorem dX12_offNumber_9 : decode cX12_offNumber 9 = .ok (.if_icmp .ge 27, 3) := by decide +kernel
theorem dX12_offNumber_12 : decode cX12_offNumber 12 = .ok (.aload_n 0, 1) := by decide +kernel
theorem dX12_offNumber_13 : decode cX12_offNumber 13 = .ok (.getfield 98, 3) := by decide +kernel
theorem dX12_offNumber_16 : decode cX12_offNumber 16 = .ok (.iload_n 3, 1) := by decide +kernel
theorem dX12_offNumber_17 : decode cX12_offNumber 17 = .ok (.iaload, 1) := by decide +kernel
theorem dX12_offNumber_18 : decode cX12_offNumber 18 = .ok (.ifCond .eq 12, 3) := by decide +kernel
theorem dX12_offNumber_21 : decode cX12_offNumber 21 = .ok (.iload_n 2, 1) := by decide +kernel
theorem dX12_offNumber_22 : decode cX12_offNumber 22 = .ok (.ifCond .ne 5, 3) := by decide +kernel
theorem dX12_offNumber_25 : decode cX12_offNumber 25 = .ok (.iload_n 3, 1) := by decide +kernel
theorem dX12_offNumber_26 : decode cX12_offNumber 26 = .ok (.ireturn, 1) := by decide +kernel
theorem dX12_offNumber_27 : decode cX12_offNumber 27 = .ok (.iinc 2 (-1), 3) := by decide +kernel
theorem dX12_offNumber_30 : decode cX12_offNumber 30 = .ok (.iinc 3 1, 3) := by decide +kernel
theorem dX12_offNumber_33 : decode cX12_offNumber 33 = .ok (.goto (-29), 3) := by decide +kernel
theorem dX12_offNumber_36 : decode cX12_offNumber 36 = .ok (.iconst (-1), 1) := by decide +kernel
theorem dX12_offNumber_37 : decode cX12_offNumber 37 = .ok (.ireturn, 1) := by decide +kernel
theorem dX12_off_0 : decode cX12_off 0 = .ok (.iload_n 1, 1) := by decide +kernel
theorem dX12_off_1 : decode cX12_off 1 = .ok (.iconst 0, 1) := by decide +kernel
theorem dX12_off_2 : decode cX12_off 2 = .ok (.bipush 39, 2) := by decide +kernel
theorem dX12_off_4 : decode cX12_off 4 = .ok (.invokestatic 120, 3) := by decide +kernel
theorem dX12_off_7 : decode cX12_off 7 = .ok (.ifCond .ne 6, 3) := by decide +kernel
theorem dX12_off_10 : decode cX12_off 10 = .ok (.bipush (-2), 2) := by decide +kernel
theorem dX12_off_12 : decode cX12_off 12 = .ok (.ireturn, 1) := by decide +kernel
theorem dX12_off_13 : decode cX12_off 13 = .ok (.aload_n 0, 1) := by decide +kernel
theorem dX12_off_14 : decode cX12_off 14 = .ok (.sipush 600, 3) := by decide +kernel
theorem dX12_off_17 : decode cX12_off 17 = .ok (.invokevirtual 260, 3) := by decide +kernel
theorem dX12_off_20 : decode cX12_off 20 = .ok (.aload_n 0, 1) := by decide +kernel
theorem dX12_off_21 : decode cX12_off 21 = .ok (.iload_n 1, 1) := by decide +kernel
theorem dX12_off_22 : decode cX12_off 22 = .ok (.invokevirtual 269, 3) := by decide +kernel
theorem dX12_off_25 : decode cX12_off 25 = .ok (.ireturn, 1) := by decide +kernel
theorem dX12_lastOff_0 : decode cX12_lastOff 0 = .ok (.iconst (-1), 1) := by decide +kernel
theorem dX12_lastOff_1 : decode cX12_lastOff 1 = .ok (.istore_n 1, 1) := by decide +kernel
theorem dX12_lastOff_2 : decode cX12_lastOff 2 = .ok (.iconst 0, 1) := by decide +kernel
theorem dX12_lastOff_3 : decode cX12_lastOff 3 = .ok (.istore_n 2, 1) := by decide +kernel
theorem dX12_lastOff_4 : decode cX12_lastOff 4 = .ok (.iload_n 2, 1) := by decide +kernel
theorem dX12_lastOff_5 : decode cX12_lastOff 5 = .ok (.bipush 40, 2) := by decide +kernel
theorem dX12_lastOff_7 : decode cX12_lastOff 7 = .ok (.if_icmp .ge 26, 3) := by decide +kernel
theorem dX12_lastOff_10 : decode cX12_lastOff 10 = .ok (.aload_n 0, 1) := by decide +kernel
theorem dX12_lastOff_11 : decode cX12_lastOff 11 = .ok (.iload_n 2, 1) := by decide +kernel
theorem dX12_lastOff_12 : decode cX12_lastOff 12 = .ok (.invokevirtual 269, 3) := by decide +kernel
theorem dX12_lastOff_15 : decode cX12_lastOff 15 = .ok (.istore_n 3, 1) := by decide +kernel
theorem dX12_lastOff_16 : decode cX12_lastOff 16 = .ok (.iload_n 3, 1) := by decide +kernel
theorem dX12_lastOff_17 : decode cX12_lastOff 17 = .ok (.iconst (-1), 1) := by decide +kernel
theorem dX12_lastOff_18 : decode cX12_lastOff 18 = .ok (.if_icmp .ne 7, 3) := by decide +kernel
theorem dX12_lastOff_21 : decode cX12_lastOff 21 = .ok (.iload_n 1, 1) := by decide +kernel
theorem dX12_lastOff_22 : decode cX12_lastOff 22 = .ok (.goto 4, 3) := by decide +kernel
theorem dX12_lastOff_25 : decode cX12_lastOff 25 = .ok (.iload_n 3, 1) := by decide +kernel
theorem dX12_lastOff_26 : decode cX12_lastOff 26 = .ok (.istore_n 1, 1) := by decide +kernel
theorem dX12_lastOff_27 : decode cX12_lastOff 27 = .ok (.iinc 2 1, 3) := by decide +kernel
theorem dX12_lastOff_30 : decode cX12_lastOff 30 = .ok (.goto (-26), 3) := by decide +kernel
theorem dX12_lastOff_33 : decode cX12_lastOff 33 = .ok (.iload_n 1, 1) := by decide +kernel
theorem dX12_lastOff_34 : decode cX12_lastOff 34 = .ok (.ireturn, 1) := by decide +kernel
theorem dX12_find_0 : decode cX12_find 0 = .ok (.iload_n 1, 1) := by decide +kernel
theorem dX12_find_1 : decode cX12_find 1 = .ok (.invokestatic 257, 3) := by decide +kernel
theorem dX12_find_4 : decode cX12_find 4 = .ok (.ifCond .eq 12, 3) := by decide +kernel
theorem dX12_find_7 : decode cX12_find 7 = .ok (.iload_n 2, 1) := by decide +kernel
theorem dX12_find_8 : decode cX12_find 8 = .ok (.iconst 0, 1) := by decide +kernel
theorem dX12_find_9 : decode cX12_find 9 = .ok (.iconst 1, 1) := by decide +kernel
theorem dX12_find_10 : decode cX12_find 10 = .ok (.invokestatic 120, 3) := by decide +kernel
theorem dX12_find_13 : decode cX12_find 13 = .ok (.ifCond .ne 6, 3) := by decide +kernel
theorem dX12_find_16 : decode cX12_find 16 = .ok (.bipush (-2), 2) := by decide +kernel
theorem dX12_find_18 : decode cX12_find 18 = .ok (.ireturn, 1) := by decide +kernel
theorem dX12_find_19 : decode cX12_find 19 = .ok (.aload_n 0, 1) := by decide +kernel
theorem dX12_find_20 : decode cX12_find 20 = .ok (.iload_n 1, 1) := by decide +kernel
theorem dX12_find_21 : decode cX12_find 21 = .ok (.invokevirtual 260, 3) := by decide +kernel
theorem dX12_find_24 : decode cX12_find 24 = .ok (.aload_n 0, 1) := by decide +kernel
theorem dX12_find_25 : decode cX12_find 25 = .ok (.iconst 0, 1) := by decide +kernel
theorem dX12_find_26 : decode cX12_find 26 = .ok (.invokevirtual 269, 3) := by decide +kernel
theorem dX12_find_29 : decode cX12_find 29 = .ok (.istore_n 3, 1) := by decide +kernel
theorem dX12_find_30 : decode cX12_find 30 = .ok (.iload_n 3, 1) := by decide +kernel
theorem dX12_find_31 : decode cX12_find 31 = .ok (.iconst (-1), 1) := by decide +kernel
theorem dX12_find_32 : decode cX12_find 32 = .ok (.if_icmp .ne 7, 3) := by decide +kernel
theorem dX12_find_35 : decode cX12_find 35 = .ok (.iconst 0, 1) := by decide +kernel
theorem dX12_find_36 : decode cX12_find 36 = .ok (.goto 22, 3) := by decide +kernel
theorem dX12_find_39 : decode cX12_find 39 = .ok (.iload_n 2, 1) := by decide +kernel
theorem dX12_find_40 : decode cX12_find 40 = .ok (.ifCond .ne 12, 3) := by decide +kernel
theorem dX12_find_43 : decode cX12_find 43 = .ok (.aload_n 0, 1) := by decide +kernel
theorem dX12_find_44 : decode cX12_find 44 = .ok (.getfield 213, 3) := by decide +kernel
theorem dX12_find_47 : decode cX12_find 47 = .ok (.iload_n 3, 1) := by decide +kernel
theorem dX12_find_48 : decode cX12_find 48 = .ok (.isub, 1) := by decide +kernel
theorem dX12_find_49 : decode cX12_find 49 = .ok (.goto 9, 3) := by decide +kernel
theorem dX12_find_52 : decode cX12_find 52 = .ok (.aload_n 0, 1) := by decide +kernel
theorem dX12_find_53 : decode cX12_find 53 = .ok (.invokevirtual 272, 3) := by decide +kernel
theorem dX12_find_56 : decode cX12_find 56 = .ok (.iconst 1, 1) := by decide +kernel
theorem dX12_find_57 : decode cX12_find 57 = .ok (.iadd, 1) := by decide +kernel
theorem dX12_find_58 : decode cX12_find 58 = .ok (.ireturn, 1) := by decide +kernel
theorem dX12_tells_0 : decode cX12_tells 0 = .ok (.iload_n 1, 1) := by decide +kernel
theorem dX12_tells_1 : decode cX12_tells 1 = .ok (.istore_n 2, 1) := by decide +kernel
theorem dX12_tells_2 : decode cX12_tells 2 = .ok (.iconst 0, 1) := by decide +kernel
theorem dX12_tells_3 : decode cX12_tells 3 = .ok (.istore_n 3, 1) := by decide +kernel
theorem dX12_tells_4 : decode cX12_tells 4 = .ok (.aload_n 0, 1) := by decide +kernel
theorem dX12_tells_5 : decode cX12_tells 5 = .ok (.aload_n 0, 1) := by decide +kernel
theorem dX12_tells_6 : decode cX12_tells 6 = .ok (.getfield 117, 3) := by decide +kernel
theorem dX12_tells_9 : decode cX12_tells 9 = .ok (.putfield 219, 3) := by decide +kernel
theorem dX12_tells_12 : decode cX12_tells 12 = .ok (.aload_n 0, 1) := by decide +kernel
theorem dX12_tells_13 : decode cX12_tells 13 = .ok (.getfield 117, 3) := by decide +kernel
theorem dX12_tells_16 : decode cX12_tells 16 = .ok (.iconst 1, 1) := by decide +kernel
theorem dX12_tells_17 : decode cX12_tells 17 = .ok (.isub, 1) := by decide +kernel
theorem dX12_tells_18 : decode cX12_tells 18 = .ok (.istore 4, 2) := by decide +kernel
theorem dX12_tells_20 : decode cX12_tells 20 = .ok (.iload 4, 2) := by decide +kernel
theorem dX12_tells_22 : decode cX12_tells 22 = .ok (.ifCond .lt 51, 3) := by decide +kernel
theorem dX12_tells_25 : decode cX12_tells 25 = .ok (.aload_n 0, 1) := by decide +kernel
theorem dX12_tells_26 : decode cX12_tells 26 = .ok (.getfield 65, 3) := by decide +kernel
theorem dX12_tells_29 : decode cX12_tells 29 = .ok (.iload 4, 2) := by decide +kernel
theorem dX12_tells_31 : decode cX12_tells 31 = .ok (.iload_n 2, 1) := by decide +kernel
theorem dX12_tells_32 : decode cX12_tells 32 = .ok (.aload_n 0, 1) := by decide +kernel
theorem dX12_tells_33 : decode cX12_tells 33 = .ok (.getfield 117, 3) := by decide +kernel
theorem dX12_tells_36 : decode cX12_tells 36 = .ok (.iconst 1, 1) := by decide +kernel
theorem dX12_tells_37 : decode cX12_tells 37 = .ok (.iconst 5, 1) := by decide +kernel
theorem dX12_tells_38 : decode cX12_tells 38 = .ok (.invokestatic 200, 3) := by decide +kernel
theorem dX12_tells_41 : decode cX12_tells 41 = .ok (.irem, 1) := by decide +kernel
theorem dX12_tells_42 : decode cX12_tells 42 = .ok (.iastore, 1) := by decide +kernel
theorem dX12_tells_43 : decode cX12_tells 43 = .ok (.iload_n 2, 1) := by decide +kernel
theorem dX12_tells_44 : decode cX12_tells 44 = .ok (.aload_n 0, 1) := by decide +kernel
theorem dX12_tells_45 : decode cX12_tells 45 = .ok (.getfield 117, 3) := by decide +kernel
theorem dX12_tells_48 : decode cX12_tells 48 = .ok (.iconst 1, 1) := by decide +kernel
theorem dX12_tells_49 : decode cX12_tells 49 = .ok (.iconst 5, 1) := by decide +kernel
theorem dX12_tells_50 : decode cX12_tells 50 = .ok (.invokestatic 200, 3) := by decide +kernel
theorem dX12_tells_53 : decode cX12_tells 53 = .ok (.idiv, 1) := by decide +kernel
theorem dX12_tells_54 : decode cX12_tells 54 = .ok (.istore_n 2, 1) := by decide +kernel
theorem dX12_tells_55 : decode cX12_tells 55 = .ok (.iload_n 3, 1) := by decide +kernel
theorem dX12_tells_56 : decode cX12_tells 56 = .ok (.iconst 1, 1) := by decide +kernel
theorem dX12_tells_57 : decode cX12_tells 57 = .ok (.aload_n 0, 1) := by decide +kernel
theorem dX12_tells_58 : decode cX12_tells 58 = .ok (.getfield 65, 3) := by decide +kernel
theorem dX12_tells_61 : decode cX12_tells 61 = .ok (.iload 4, 2) := by decide +kernel
theorem dX12_tells_63 : decode cX12_tells 63 = .ok (.iaload, 1) := by decide +kernel
theorem dX12_tells_64 : decode cX12_tells 64 = .ok (.ishl, 1) := by decide +kernel
theorem dX12_tells_65 : decode cX12_tells 65 = .ok (.ior, 1) := by decide +kernel
theorem dX12_tells_66 : decode cX12_tells 66 = .ok (.istore_n 3, 1) := by decide +kernel
theorem dX12_tells_67 : decode cX12_tells 67 = .ok (.iinc 4 (-1), 3) := by decide +kernel
theorem dX12_tells_70 : decode cX12_tells 70 = .ok (.goto (-50), 3) := by decide +kernel
theorem dX12_tells_73 : decode cX12_tells 73 = .ok (.iload_n 3, 1) := by decide +kernel
theorem dX12_tells_74 : decode cX12_tells 74 = .ok (.iconst 1, 1) := by decide +kernel
theorem dX12_tells_75 : decode cX12_tells 75 = .ok (.aload_n 0, 1) := by decide +kernel
theorem dX12_tells_76 : decode cX12_tells 76 = .ok (.getfield 117, 3) := by decide +kernel
theorem dX12_tells_79 : decode cX12_tells 79 = .ok (.ishl, 1) := by decide +kernel
theorem dX12_tells_80 : decode cX12_tells 80 = .ok (.iconst 1, 1) := by decide +kernel
theorem dX12_tells_81 : decode cX12_tells 81 = .ok (.isub, 1) := by decide +kernel
theorem dX12_tells_82 : decode cX12_tells 82 = .ok (.if_icmp .ne 7, 3) := by decide +kernel
theorem dX12_tells_85 : decode cX12_tells 85 = .ok (.iconst 1, 1) := by decide +kernel
theorem dX12_tells_86 : decode cX12_tells 86 = .ok (.goto 4, 3) := by decide +kernel
theorem dX12_tells_89 : decode cX12_tells 89 = .ok (.iconst 0, 1) := by decide +kernel
theorem dX12_tells_90 : decode cX12_tells 90 = .ok (.ireturn, 1) := by decide +kernel
theorem dX12_powerOf_0 : decode cX12_powerOf 0 = .ok (.iconst 1, 1) := by decide +kernel
theorem dX12_powerOf_1 : decode cX12_powerOf 1 = .ok (.istore_n 2, 1) := by decide +kernel
theorem dX12_powerOf_2 : decode cX12_powerOf 2 = .ok (.iconst 0, 1) := by decide +kernel
theorem dX12_powerOf_3 : decode cX12_powerOf 3 = .ok (.istore_n 3, 1) := by decide +kernel
theorem dX12_powerOf_4 : decode cX12_powerOf 4 = .ok (.iload_n 3, 1) := by decide +kernel
theorem dX12_powerOf_5 : decode cX12_powerOf 5 = .ok (.iload_n 1, 1) := by decide +kernel
theorem dX12_powerOf_6 : decode cX12_powerOf 6 = .ok (.if_icmp .ge 13, 3) := by decide +kernel
theorem dX12_powerOf_9 : decode cX12_powerOf 9 = .ok (.iload_n 2, 1) := by decide +kernel
theorem dX12_powerOf_10 : decode cX12_powerOf 10 = .ok (.iload_n 1, 1) := by decide +kernel
theorem dX12_powerOf_11 : decode cX12_powerOf 11 = .ok (.imul, 1) := by decide +kernel
theorem dX12_powerOf_12 : decode cX12_powerOf 12 = .ok (.istore_n 2, 1) := by decide +kernel
theorem dX12_powerOf_13 : decode cX12_powerOf 13 = .ok (.iinc 3 1, 3) := by decide +kernel
theorem dX12_powerOf_16 : decode cX12_powerOf 16 = .ok (.goto (-12), 3) := by decide +kernel
theorem dX12_powerOf_19 : decode cX12_powerOf 19 = .ok (.iload_n 2, 1) := by decide +kernel
theorem dX12_powerOf_20 : decode cX12_powerOf 20 = .ok (.ireturn, 1) := by decide +kernel
theorem dX12_digitsNow_0 : decode cX12_digitsNow 0 = .ok (.iconst 0, 1) := by decide +kernel
theorem dX12_digitsNow_1 : decode cX12_digitsNow 1 = .ok (.istore_n 1, 1) := by decide +kernel
theorem dX12_digitsNow_2 : decode cX12_digitsNow 2 = .ok (.iconst 0, 1) := by decide +kernel
theorem dX12_digitsNow_3 : decode cX12_digitsNow 3 = .ok (.istore_n 2, 1) := by decide +kernel
theorem dX12_digitsNow_4 : decode cX12_digitsNow 4 = .ok (.iload_n 2, 1) := by decide +kernel
theorem dX12_digitsNow_5 : decode cX12_digitsNow 5 = .ok (.aload_n 0, 1) := by decide +kernel
theorem dX12_digitsNow_6 : decode cX12_digitsNow 6 = .ok (.getfield 219, 3) := by decide +kernel
theorem dX12_digitsNow_9 : decode cX12_digitsNow 9 = .ok (.if_icmp .ge 23, 3) := by decide +kernel
theorem dX12_digitsNow_12 : decode cX12_digitsNow 12 = .ok (.bipush 10, 2) := by decide +kernel
theorem dX12_digitsNow_14 : decode cX12_digitsNow 14 = .ok (.iload_n 1, 1) := by decide +kernel
theorem dX12_digitsNow_15 : decode cX12_digitsNow 15 = .ok (.imul, 1) := by decide +kernel
theorem dX12_digitsNow_16 : decode cX12_digitsNow 16 = .ok (.aload_n 0, 1) := by decide +kernel
theorem dX12_digitsNow_17 : decode cX12_digitsNow 17 = .ok (.getfield 65, 3) := by decide +kernel
theorem dX12_digitsNow_20 : decode cX12_digitsNow 20 = .ok (.iload_n 2, 1) := by decide +kernel
theorem dX12_digitsNow_21 : decode cX12_digitsNow 21 = .ok (.iaload, 1) := by decide +kernel
theorem dX12_digitsNow_22 : decode cX12_digitsNow 22 = .ok (.iadd, 1) := by decide +kernel
theorem dX12_digitsNow_23 : decode cX12_digitsNow 23 = .ok (.iconst 1, 1) := by decide +kernel
theorem dX12_digitsNow_24 : decode cX12_digitsNow 24 = .ok (.iadd, 1) := by decide +kernel
theorem dX12_digitsNow_25 : decode cX12_digitsNow 25 = .ok (.istore_n 1, 1) := by decide +kernel
theorem dX12_digitsNow_26 : decode cX12_digitsNow 26 = .ok (.iinc 2 1, 3) := by decide +kernel
theorem dX12_digitsNow_29 : decode cX12_digitsNow 29 = .ok (.goto (-25), 3) := by decide +kernel
theorem dX12_digitsNow_32 : decode cX12_digitsNow 32 = .ok (.iload_n 1, 1) := by decide +kernel
theorem dX12_digitsNow_33 : decode cX12_digitsNow 33 = .ok (.ireturn, 1) := by decide +kernel
theorem dX12_best_0 : decode cX12_best 0 = .ok (.iload_n 1, 1) := by decide +kernel
theorem dX12_best_1 : decode cX12_best 1 = .ok (.iconst 0, 1) := by decide +kernel
theorem dX12_best_2 : decode cX12_best 2 = .ok (.iconst 2, 1) := by decide +kernel
theorem dX12_best_3 : decode cX12_best 3 = .ok (.invokestatic 120, 3) := by decide +kernel
theorem dX12_best_6 : decode cX12_best 6 = .ok (.ifCond .ne 6, 3) := by decide +kernel
theorem dX12_best_9 : decode cX12_best 9 = .ok (.bipush (-2), 2) := by decide +kernel
theorem dX12_best_11 : decode cX12_best 11 = .ok (.ireturn, 1) := by decide +kernel
theorem dX12_best_12 : decode cX12_best 12 = .ok (.iconst 0, 1) := by decide +kernel
theorem dX12_best_13 : decode cX12_best 13 = .ok (.istore_n 2, 1) := by decide +kernel
theorem dX12_best_14 : decode cX12_best 14 = .ok (.iconst 0, 1) := by decide +kernel
theorem dX12_best_15 : decode cX12_best 15 = .ok (.istore_n 3, 1) := by decide +kernel
theorem dX12_best_16 : decode cX12_best 16 = .ok (.iconst 0, 1) := by decide +kernel
theorem dX12_best_17 : decode cX12_best 17 = .ok (.istore 4, 2) := by decide +kernel
theorem dX12_best_19 : decode cX12_best 19 = .ok (.iconst 0, 1) := by decide +kernel
theorem dX12_best_20 : decode cX12_best 20 = .ok (.istore 5, 2) := by decide +kernel
theorem dX12_best_22 : decode cX12_best 22 = .ok (.iconst 0, 1) := by decide +kernel
theorem dX12_best_23 : decode cX12_best 23 = .ok (.istore 6, 2) := by decide +kernel
theorem dX12_best_25 : decode cX12_best 25 = .ok (.iload 6, 2) := by decide +kernel
theorem dX12_best_27 : decode cX12_best 27 = .ok (.aload_n 0, 1) := by decide +kernel
theorem dX12_best_28 : decode cX12_best 28 = .ok (.aload_n 0, 1) := by decide +kernel
theorem dX12_best_29 : decode cX12_best 29 = .ok (.getfield 117, 3) := by decide +kernel
theorem dX12_best_32 : decode cX12_best 32 = .ok (.invokevirtual 275, 3) := by decide +kernel
theorem dX12_best_35 : decode cX12_best 35 = .ok (.if_icmp .ge 123, 3) := by decide +kernel
theorem dX12_best_38 : decode cX12_best 38 = .ok (.aload_n 0, 1) := by decide +kernel
theorem dX12_best_39 : decode cX12_best 39 = .ok (.iload 6, 2) := by decide +kernel
theorem dX12_best_41 : decode cX12_best 41 = .ok (.invokevirtual 278, 3) := by decide +kernel
theorem dX12_best_44 : decode cX12_best 44 = .ok (.ifCond .eq 108, 3) := by decide +kernel
theorem dX12_best_47 : decode cX12_best 47 = .ok (.aload_n 0, 1) := by decide +kernel
theorem dX12_best_48 : decode cX12_best 48 = .ok (.sipush 600, 3) := by decide +kernel
theorem dX12_best_51 : decode cX12_best 51 = .ok (.invokevirtual 254, 3) := by decide +kernel
theorem dX12_best_54 : decode cX12_best 54 = .ok (.aload_n 0, 1) := by decide +kernel
theorem dX12_best_55 : decode cX12_best 55 = .ok (.getfield 216, 3) := by decide +kernel
theorem dX12_best_58 : decode cX12_best 58 = .ok (.iconst (-1), 1) := by decide +kernel
theorem dX12_best_59 : decode cX12_best 59 = .ok (.if_icmp .ne 9, 3) := by decide +kernel
theorem dX12_best_62 : decode cX12_best 62 = .ok (.sipush 600, 3) := by decide +kernel
theorem dX12_best_65 : decode cX12_best 65 = .ok (.goto 7, 3) := by decide +kernel
theorem dX12_best_68 : decode cX12_best 68 = .ok (.aload_n 0, 1) := by decide +kernel
theorem dX12_best_69 : decode cX12_best 69 = .ok (.getfield 216, 3) := by decide +kernel
theorem dX12_best_72 : decode cX12_best 72 = .ok (.istore 7, 2) := by decide +kernel
theorem dX12_best_74 : decode cX12_best 74 = .ok (.iload_n 2, 1) := by decide +kernel
theorem dX12_best_75 : decode cX12_best 75 = .ok (.ifCond .eq 24, 3) := by decide +kernel
theorem dX12_best_78 : decode cX12_best 78 = .ok (.iload 7, 2) := by decide +kernel
theorem dX12_best_80 : decode cX12_best 80 = .ok (.iload_n 3, 1) := by decide +kernel
theorem dX12_best_81 : decode cX12_best 81 = .ok (.if_icmp .lt 18, 3) := by decide +kernel
theorem dX12_best_84 : decode cX12_best 84 = .ok (.iload 7, 2) := by decide +kernel
theorem dX12_best_86 : decode cX12_best 86 = .ok (.iload_n 3, 1) := by decide +kernel
theorem dX12_best_87 : decode cX12_best 87 = .ok (.if_icmp .ne 16, 3) := by decide +kernel
theorem dX12_best_90 : decode cX12_best 90 = .ok (.aload_n 0, 1) := by decide +kernel
theorem dX12_best_91 : decode cX12_best 91 = .ok (.getfield 213, 3) := by decide +kernel
theorem dX12_best_94 : decode cX12_best 94 = .ok (.iload 4, 2) := by decide +kernel
theorem dX12_best_96 : decode cX12_best 96 = .ok (.if_icmp .le 7, 3) := by decide +kernel
theorem dX12_best_99 : decode cX12_best 99 = .ok (.iconst 1, 1) := by decide +kernel
theorem dX12_best_100 : decode cX12_best 100 = .ok (.goto 4, 3) := by decide +kernel
theorem dX12_best_103 : decode cX12_best 103 = .ok (.iconst 0, 1) := by decide +kernel
theorem dX12_best_104 : decode cX12_best 104 = .ok (.istore 8, 2) := by decide +kernel
theorem dX12_best_106 : decode cX12_best 106 = .ok (.iload 8, 2) := by decide +kernel
theorem dX12_best_108 : decode cX12_best 108 = .ok (.ifCond .eq 8, 3) := by decide +kernel
theorem dX12_best_111 : decode cX12_best 111 = .ok (.iload 7, 2) := by decide +kernel
theorem dX12_best_113 : decode cX12_best 113 = .ok (.goto 4, 3) := by decide +kernel
theorem dX12_best_116 : decode cX12_best 116 = .ok (.iload_n 3, 1) := by decide +kernel
theorem dX12_best_117 : decode cX12_best 117 = .ok (.istore_n 3, 1) := by decide +kernel
theorem dX12_best_118 : decode cX12_best 118 = .ok (.iload 8, 2) := by decide +kernel
theorem dX12_best_120 : decode cX12_best 120 = .ok (.ifCond .eq 10, 3) := by decide +kernel
theorem dX12_best_123 : decode cX12_best 123 = .ok (.aload_n 0, 1) := by decide +kernel
theorem dX12_best_124 : decode cX12_best 124 = .ok (.getfield 213, 3) := by decide +kernel
theorem dX12_best_127 : decode cX12_best 127 = .ok (.goto 5, 3) := by decide +kernel
theorem dX12_best_130 : decode cX12_best 130 = .ok (.iload 4, 2) := by decide +kernel
theorem dX12_best_132 : decode cX12_best 132 = .ok (.istore 4, 2) := by decide +kernel
theorem dX12_best_134 : decode cX12_best 134 = .ok (.iload 8, 2) := by decide +kernel
theorem dX12_best_136 : decode cX12_best 136 = .ok (.ifCond .eq 10, 3) := by decide +kernel
theorem dX12_best_139 : decode cX12_best 139 = .ok (.aload_n 0, 1) := by decide +kernel
theorem dX12_best_140 : decode cX12_best 140 = .ok (.invokevirtual 281, 3) := by decide +kernel
theorem dX12_best_143 : decode cX12_best 143 = .ok (.goto 5, 3) := by decide +kernel
theorem dX12_best_146 : decode cX12_best 146 = .ok (.iload 5, 2) := by decide +kernel
theorem dX12_best_148 : decode cX12_best 148 = .ok (.istore 5, 2) := by decide +kernel
theorem dX12_best_150 : decode cX12_best 150 = .ok (.iconst 1, 1) := by decide +kernel
theorem dX12_best_151 : decode cX12_best 151 = .ok (.istore_n 2, 1) := by decide +kernel
theorem dX12_best_152 : decode cX12_best 152 = .ok (.iinc 6 1, 3) := by decide +kernel
theorem dX12_best_155 : decode cX12_best 155 = .ok (.goto (-130), 3) := by decide +kernel
theorem dX12_best_158 : decode cX12_best 158 = .ok (.iload_n 1, 1) := by decide +kernel
theorem dX12_best_159 : decode cX12_best 159 = .ok (.ifCond .ne 18, 3) := by decide +kernel
theorem dX12_best_162 : decode cX12_best 162 = .ok (.iload_n 3, 1) := by decide +kernel
theorem dX12_best_163 : decode cX12_best 163 = .ok (.sipush 600, 3) := by decide +kernel
theorem dX12_best_166 : decode cX12_best 166 = .ok (.if_icmp .ne 7, 3) := by decide +kernel
theorem dX12_best_169 : decode cX12_best 169 = .ok (.iconst (-1), 1) := by decide +kernel
theorem dX12_best_170 : decode cX12_best 170 = .ok (.goto 19, 3) := by decide +kernel
theorem dX12_best_173 : decode cX12_best 173 = .ok (.iload_n 3, 1) := by decide +kernel
theorem dX12_best_174 : decode cX12_best 174 = .ok (.goto 15, 3) := by decide +kernel
theorem dX12_best_177 : decode cX12_best 177 = .ok (.iload_n 1, 1) := by decide +kernel
theorem dX12_best_178 : decode cX12_best 178 = .ok (.iconst 1, 1) := by decide +kernel
theorem dX12_best_179 : decode cX12_best 179 = .ok (.if_icmp .ne 8, 3) := by decide +kernel
theorem dX12_best_182 : decode cX12_best 182 = .ok (.iload 4, 2) := by decide +kernel
theorem dX12_best_184 : decode cX12_best 184 = .ok (.goto 5, 3) := by decide +kernel
theorem dX12_best_187 : decode cX12_best 187 = .ok (.iload 5, 2) := by decide +kernel
theorem dX12_best_189 : decode cX12_best 189 = .ok (.ireturn, 1) := by decide +kernel
theorem dX12_start_0 : decode cX12_start 0 = .ok (.aload_n 0, 1) := by decide +kernel
theorem dX12_start_1 : decode cX12_start 1 = .ok (.iload_n 1, 1) := by decide +kernel
theorem dX12_start_2 : decode cX12_start 2 = .ok (.invokevirtual 203, 3) := by decide +kernel
theorem dX12_start_5 : decode cX12_start 5 = .ok (.ifCond .ne 6, 3) := by decide +kernel
theorem dX12_start_8 : decode cX12_start 8 = .ok (.bipush (-5), 2) := by decide +kernel
theorem dX12_start_10 : decode cX12_start 10 = .ok (.ireturn, 1) := by decide +kernel
theorem dX12_start_11 : decode cX12_start 11 = .ok (.iload_n 2, 1) := by decide +kernel
theorem dX12_start_12 : decode cX12_start 12 = .ok (.iconst 0, 1) := by decide +kernel
theorem dX12_start_13 : decode cX12_start 13 = .ok (.iconst 1, 1) := by decide +kernel
theorem dX12_start_14 : decode cX12_start 14 = .ok (.invokestatic 120, 3) := by decide +kernel
theorem dX12_start_17 : decode cX12_start 17 = .ok (.ifCond .ne 6, 3) := by decide +kernel
theorem dX12_start_20 : decode cX12_start 20 = .ok (.bipush (-7), 2) := by decide +kernel
theorem dX12_start_22 : decode cX12_start 22 = .ok (.ireturn, 1) := by decide +kernel
theorem dX12_start_23 : decode cX12_start 23 = .ok (.aload_n 0, 1) := by decide +kernel
theorem dX12_start_24 : decode cX12_start 24 = .ok (.getfield 26, 3) := by decide +kernel
theorem dX12_start_27 : decode cX12_start 27 = .ok (.iload_n 1, 1) := by decide +kernel
theorem dX12_start_28 : decode cX12_start 28 = .ok (.iaload, 1) := by decide +kernel
theorem dX12_start_29 : decode cX12_start 29 = .ok (.istore_n 3, 1) := by decide +kernel
theorem dX12_start_30 : decode cX12_start 30 = .ok (.iconst (-1), 1) := by decide +kernel
theorem dX12_start_31 : decode cX12_start 31 = .ok (.istore 4, 2) := by decide +kernel
theorem dX12_start_33 : decode cX12_start 33 = .ok (.iconst (-1), 1) := by decide +kernel
theorem dX12_start_34 : decode cX12_start 34 = .ok (.istore 5, 2) := by decide +kernel
theorem dX12_start_36 : decode cX12_start 36 = .ok (.iconst 0, 1) := by decide +kernel
theorem dX12_start_37 : decode cX12_start 37 = .ok (.istore 6, 2) := by decide +kernel
theorem dX12_start_39 : decode cX12_start 39 = .ok (.iload 6, 2) := by decide +kernel
theorem dX12_start_41 : decode cX12_start 41 = .ok (.bipush 9, 2) := by decide +kernel
theorem dX12_start_43 : decode cX12_start 43 = .ok (.if_icmp .ge 62, 3) := by decide +kernel
theorem dX12_start_46 : decode cX12_start 46 = .ok (.aload_n 0, 1) := by decide +kernel
theorem dX12_start_47 : decode cX12_start 47 = .ok (.getfield 26, 3) := by decide +kernel
theorem dX12_start_50 : decode cX12_start 50 = .ok (.iload_n 1, 1) := by decide +kernel
theorem dX12_start_51 : decode cX12_start 51 = .ok (.iload 6, 2) := by decide +kernel
theorem dX12_start_53 : decode cX12_start 53 = .ok (.iastore, 1) := by decide +kernel
theorem dX12_start_54 : decode cX12_start 54 = .ok (.aload_n 0, 1) := by decide +kernel
theorem dX12_start_55 : decode cX12_start 55 = .ok (.sipush 600, 3) := by decide +kernel
theorem dX12_start_58 : decode cX12_start 58 = .ok (.invokevirtual 260, 3) := by decide +kernel
theorem dX12_start_61 : decode cX12_start 61 = .ok (.aload_n 0, 1) := by decide +kernel
theorem dX12_start_62 : decode cX12_start 62 = .ok (.getfield 213, 3) := by decide +kernel
theorem dX12_start_65 : decode cX12_start 65 = .ok (.iload 5, 2) := by decide +kernel
theorem dX12_start_67 : decode cX12_start 67 = .ok (.if_icmp .le 8, 3) := by decide +kernel
theorem dX12_start_70 : decode cX12_start 70 = .ok (.iload 6, 2) := by decide +kernel
theorem dX12_start_72 : decode cX12_start 72 = .ok (.goto 5, 3) := by decide +kernel
theorem dX12_start_75 : decode cX12_start 75 = .ok (.iload 4, 2) := by decide +kernel
theorem dX12_start_77 : decode cX12_start 77 = .ok (.istore 4, 2) := by decide +kernel
theorem dX12_start_79 : decode cX12_start 79 = .ok (.aload_n 0, 1) := by decide +kernel
theorem dX12_start_80 : decode cX12_start 80 = .ok (.getfield 213, 3) := by decide +kernel
theorem dX12_start_83 : decode cX12_start 83 = .ok (.iload 5, 2) := by decide +kernel
theorem dX12_start_85 : decode cX12_start 85 = .ok (.if_icmp .le 10, 3) := by decide +kernel
theorem dX12_start_88 : decode cX12_start 88 = .ok (.aload_n 0, 1) := by decide +kernel
theorem dX12_start_89 : decode cX12_start 89 = .ok (.getfield 213, 3) := by decide +kernel
theorem dX12_start_92 : decode cX12_start 92 = .ok (.goto 5, 3) := by decide +kernel
theorem dX12_start_95 : decode cX12_start 95 = .ok (.iload 5, 2) := by decide +kernel
theorem dX12_start_97 : decode cX12_start 97 = .ok (.istore 5, 2) := by decide +kernel
theorem dX12_start_99 : decode cX12_start 99 = .ok (.iinc 6 1, 3) := by decide +kernel
theorem dX12_start_102 : decode cX12_start 102 = .ok (.goto (-63), 3) := by decide +kernel
theorem dX12_start_105 : decode cX12_start 105 = .ok (.aload_n 0, 1) := by decide +kernel
theorem dX12_start_106 : decode cX12_start 106 = .ok (.getfield 26, 3) := by decide +kernel
theorem dX12_start_109 : decode cX12_start 109 = .ok (.iload_n 1, 1) := by decide +kernel
theorem dX12_start_110 : decode cX12_start 110 = .ok (.iload_n 3, 1) := by decide +kernel
theorem dX12_start_111 : decode cX12_start 111 = .ok (.iastore, 1) := by decide +kernel
theorem dX12_start_112 : decode cX12_start 112 = .ok (.iload_n 2, 1) := by decide +kernel
theorem dX12_start_113 : decode cX12_start 113 = .ok (.ifCond .ne 8, 3) := by decide +kernel
theorem dX12_start_116 : decode cX12_start 116 = .ok (.iload 4, 2) := by decide +kernel
theorem dX12_start_118 : decode cX12_start 118 = .ok (.goto 5, 3) := by decide +kernel
theorem dX12_start_121 : decode cX12_start 121 = .ok (.iload 5, 2) := by decide +kernel
theorem dX12_start_123 : decode cX12_start 123 = .ok (.ireturn, 1) := by decide +kernel
theorem dX12_without_0 : decode cX12_without 0 = .ok (.aload_n 0, 1) := by decide +kernel
theorem dX12_without_1 : decode cX12_without 1 = .ok (.iload_n 1, 1) := by decide +kernel
theorem dX12_without_2 : decode cX12_without 2 = .ok (.invokevirtual 251, 3) := by decide +kernel
theorem dX12_without_5 : decode cX12_without 5 = .ok (.aload_n 0, 1) := by decide +kernel
theorem dX12_without_6 : decode cX12_without 6 = .ok (.sipush 600, 3) := by decide +kernel
theorem dX12_without_9 : decode cX12_without 9 = .ok (.invokevirtual 254, 3) := by decide +kernel
theorem dX12_without_12 : decode cX12_without 12 = .ok (.aload_n 0, 1) := by decide +kernel
theorem dX12_without_13 : decode cX12_without 13 = .ok (.getfield 213, 3) := by decide +kernel
theorem dX12_without_16 : decode cX12_without 16 = .ok (.ireturn, 1) := by decide +kernel
theorem dX12_sit_0 : decode cX12_sit 0 = .ok (.iload_n 1, 1) := by decide +kernel
theorem dX12_sit_1 : decode cX12_sit 1 = .ok (.iconst 0, 1) := by decide +kernel
theorem dX12_sit_2 : decode cX12_sit 2 = .ok (.iconst 1, 1) := by decide +kernel
theorem dX12_sit_3 : decode cX12_sit 3 = .ok (.invokestatic 120, 3) := by decide +kernel
theorem dX12_sit_6 : decode cX12_sit 6 = .ok (.ifCond .ne 6, 3) := by decide +kernel
theorem dX12_sit_9 : decode cX12_sit 9 = .ok (.bipush (-2), 2) := by decide +kernel
theorem dX12_sit_11 : decode cX12_sit 11 = .ok (.ireturn, 1) := by decide +kernel
theorem dX12_sit_12 : decode cX12_sit 12 = .ok (.iconst (-1), 1) := by decide +kernel
theorem dX12_sit_13 : decode cX12_sit 13 = .ok (.istore_n 2, 1) := by decide +kernel
theorem dX12_sit_14 : decode cX12_sit 14 = .ok (.iconst (-1), 1) := by decide +kernel
theorem dX12_sit_15 : decode cX12_sit 15 = .ok (.istore_n 3, 1) := by decide +kernel
theorem dX12_sit_16 : decode cX12_sit 16 = .ok (.iconst 0, 1) := by decide +kernel
theorem dX12_sit_17 : decode cX12_sit 17 = .ok (.istore 4, 2) := by decide +kernel
theorem dX12_sit_19 : decode cX12_sit 19 = .ok (.iload 4, 2) := by decide +kernel
theorem dX12_sit_21 : decode cX12_sit 21 = .ok (.aload_n 0, 1) := by decide +kernel
theorem dX12_sit_22 : decode cX12_sit 22 = .ok (.getfield 117, 3) := by decide +kernel
theorem dX12_sit_25 : decode cX12_sit 25 = .ok (.if_icmp .ge 43, 3) := by decide +kernel
theorem dX12_sit_28 : decode cX12_sit 28 = .ok (.aload_n 0, 1) := by decide +kernel
theorem dX12_sit_29 : decode cX12_sit 29 = .ok (.iload 4, 2) := by decide +kernel
theorem dX12_sit_31 : decode cX12_sit 31 = .ok (.invokevirtual 284, 3) := by decide +kernel
theorem dX12_sit_34 : decode cX12_sit 34 = .ok (.istore 5, 2) := by decide +kernel
theorem dX12_sit_36 : decode cX12_sit 36 = .ok (.iload 5, 2) := by decide +kernel
theorem dX12_sit_38 : decode cX12_sit 38 = .ok (.iload_n 3, 1) := by decide +kernel
theorem dX12_sit_39 : decode cX12_sit 39 = .ok (.if_icmp .le 8, 3) := by decide +kernel
theorem dX12_sit_42 : decode cX12_sit 42 = .ok (.iload 4, 2) := by decide +kernel
theorem dX12_sit_44 : decode cX12_sit 44 = .ok (.goto 4, 3) := by decide +kernel
theorem dX12_sit_47 : decode cX12_sit 47 = .ok (.iload_n 2, 1) := by decide +kernel
theorem dX12_sit_48 : decode cX12_sit 48 = .ok (.istore_n 2, 1) := by decide +kernel
theorem dX12_sit_49 : decode cX12_sit 49 = .ok (.iload 5, 2) := by decide +kernel
theorem dX12_sit_51 : decode cX12_sit 51 = .ok (.iload_n 3, 1) := by decide +kernel
theorem dX12_sit_52 : decode cX12_sit 52 = .ok (.if_icmp .le 8, 3) := by decide +kernel
theorem dX12_sit_55 : decode cX12_sit 55 = .ok (.iload 5, 2) := by decide +kernel
theorem dX12_sit_57 : decode cX12_sit 57 = .ok (.goto 4, 3) := by decide +kernel
theorem dX12_sit_60 : decode cX12_sit 60 = .ok (.iload_n 3, 1) := by decide +kernel
theorem dX12_sit_61 : decode cX12_sit 61 = .ok (.istore_n 3, 1) := by decide +kernel
theorem dX12_sit_62 : decode cX12_sit 62 = .ok (.iinc 4 1, 3) := by decide +kernel
theorem dX12_sit_65 : decode cX12_sit 65 = .ok (.goto (-46), 3) := by decide +kernel
theorem dX12_sit_68 : decode cX12_sit 68 = .ok (.iload_n 1, 1) := by decide +kernel
theorem dX12_sit_69 : decode cX12_sit 69 = .ok (.ifCond .ne 7, 3) := by decide +kernel
theorem dX12_sit_72 : decode cX12_sit 72 = .ok (.iload_n 2, 1) := by decide +kernel
theorem dX12_sit_73 : decode cX12_sit 73 = .ok (.goto 4, 3) := by decide +kernel
theorem dX12_sit_76 : decode cX12_sit 76 = .ok (.iload_n 3, 1) := by decide +kernel
theorem dX12_sit_77 : decode cX12_sit 77 = .ok (.ireturn, 1) := by decide +kernel
theorem dX12_worth_0 : decode cX12_worth 0 = .ok (.aload_n 0, 1) := by decide +kernel
theorem dX12_worth_1 : decode cX12_worth 1 = .ok (.iload_n 1, 1) := by decide +kernel
theorem dX12_worth_2 : decode cX12_worth 2 = .ok (.invokevirtual 203, 3) := by decide +kernel
theorem dX12_worth_5 : decode cX12_worth 5 = .ok (.ifCond .ne 7, 3) := by decide +kernel
theorem dX12_worth_8 : decode cX12_worth 8 = .ok (.sipush (-1000), 3) := by decide +kernel
theorem dX12_worth_11 : decode cX12_worth 11 = .ok (.ireturn, 1) := by decide +kernel
theorem dX12_worth_12 : decode cX12_worth 12 = .ok (.aload_n 0, 1) := by decide +kernel
theorem dX12_worth_13 : decode cX12_worth 13 = .ok (.iconst (-1), 1) := by decide +kernel
theorem dX12_worth_14 : decode cX12_worth 14 = .ok (.invokevirtual 284, 3) := by decide +kernel
theorem dX12_worth_17 : decode cX12_worth 17 = .ok (.aload_n 0, 1) := by decide +kernel
theorem dX12_worth_18 : decode cX12_worth 18 = .ok (.iload_n 1, 1) := by decide +kernel
theorem dX12_worth_19 : decode cX12_worth 19 = .ok (.invokevirtual 284, 3) := by decide +kernel
theorem dX12_worth_22 : decode cX12_worth 22 = .ok (.isub, 1) := by decide +kernel
theorem dX12_worth_23 : decode cX12_worth 23 = .ok (.ireturn, 1) := by decide +kernel
theorem dX12_more_0 : decode cX12_more 0 = .ok (.iload_n 1, 1) := by decide +kernel
theorem dX12_more_1 : decode cX12_more 1 = .ok (.invokestatic 130, 3) := by decide +kernel
theorem dX12_more_4 : decode cX12_more 4 = .ok (.ifCond .ne 6, 3) := by decide +kernel
theorem dX12_more_7 : decode cX12_more 7 = .ok (.bipush (-2), 2) := by decide +kernel
theorem dX12_more_9 : decode cX12_more 9 = .ok (.ireturn, 1) := by decide +kernel
theorem dX12_more_10 : decode cX12_more 10 = .ok (.aload_n 0, 1) := by decide +kernel
theorem dX12_more_11 : decode cX12_more 11 = .ok (.getfield 7, 3) := by decide +kernel
theorem dX12_more_14 : decode cX12_more 14 = .ok (.iload_n 1, 1) := by decide +kernel
theorem dX12_more_15 : decode cX12_more 15 = .ok (.iaload, 1) := by decide +kernel
theorem dX12_more_16 : decode cX12_more 16 = .ok (.istore_n 2, 1) := by decide +kernel
theorem dX12_more_17 : decode cX12_more 17 = .ok (.iconst (-1), 1) := by decide +kernel
theorem dX12_more_18 : decode cX12_more 18 = .ok (.istore_n 3, 1) := by decide +kernel
theorem dX12_more_19 : decode cX12_more 19 = .ok (.iconst 0, 1) := by decide +kernel
theorem dX12_more_20 : decode cX12_more 20 = .ok (.istore 4, 2) := by decide +kernel
theorem dX12_more_22 : decode cX12_more 22 = .ok (.iload 4, 2) := by decide +kernel
theorem dX12_more_24 : decode cX12_more 24 = .ok (.sipush 200, 3) := by decide +kernel
theorem dX12_more_27 : decode cX12_more 27 = .ok (.iload_n 2, 1) := by decide +kernel
theorem dX12_more_28 : decode cX12_more 28 = .ok (.isub, 1) := by decide +kernel
theorem dX12_more_29 : decode cX12_more 29 = .ok (.if_icmp .gt 49, 3) := by decide +kernel
theorem dX12_more_32 : decode cX12_more 32 = .ok (.iload_n 3, 1) := by decide +kernel
theorem dX12_more_33 : decode cX12_more 33 = .ok (.iconst (-1), 1) := by decide +kernel
theorem dX12_more_34 : decode cX12_more 34 = .ok (.if_icmp .ne 44, 3) := by decide +kernel
theorem dX12_more_37 : decode cX12_more 37 = .ok (.aload_n 0, 1) := by decide +kernel
theorem dX12_more_38 : decode cX12_more 38 = .ok (.getfield 7, 3) := by decide +kernel
theorem dX12_more_41 : decode cX12_more 41 = .ok (.iload_n 1, 1) := by decide +kernel
theorem dX12_more_42 : decode cX12_more 42 = .ok (.iload_n 2, 1) := by decide +kernel
theorem dX12_more_43 : decode cX12_more 43 = .ok (.iload 4, 2) := by decide +kernel
theorem dX12_more_45 : decode cX12_more 45 = .ok (.iadd, 1) := by decide +kernel
theorem dX12_more_46 : decode cX12_more 46 = .ok (.iastore, 1) := by decide +kernel
theorem dX12_more_47 : decode cX12_more 47 = .ok (.aload_n 0, 1) := by decide +kernel
theorem dX12_more_48 : decode cX12_more 48 = .ok (.sipush 600, 3) := by decide +kernel
theorem dX12_more_51 : decode cX12_more 51 = .ok (.invokevirtual 260, 3) := by decide +kernel
theorem dX12_more_54 : decode cX12_more 54 = .ok (.aload_n 0, 1) := by decide +kernel
theorem dX12_more_55 : decode cX12_more 55 = .ok (.getfield 210, 3) := by decide +kernel
theorem dX12_more_58 : decode cX12_more 58 = .ok (.iload_n 1, 1) := by decide +kernel
theorem dX12_more_59 : decode cX12_more 59 = .ok (.ishr, 1) := by decide +kernel
theorem dX12_more_60 : decode cX12_more 60 = .ok (.iconst 1, 1) := by decide +kernel
theorem dX12_more_61 : decode cX12_more 61 = .ok (.iand, 1) := by decide +kernel
theorem dX12_more_62 : decode cX12_more 62 = .ok (.ifCond .ne 8, 3) := by decide +kernel
theorem dX12_more_65 : decode cX12_more 65 = .ok (.iload 4, 2) := by decide +kernel
theorem dX12_more_67 : decode cX12_more 67 = .ok (.goto 4, 3) := by decide +kernel
theorem dX12_more_70 : decode cX12_more 70 = .ok (.iconst (-1), 1) := by decide +kernel
theorem dX12_more_71 : decode cX12_more 71 = .ok (.istore_n 3, 1) := by decide +kernel
theorem dX12_more_72 : decode cX12_more 72 = .ok (.iinc 4 1, 3) := by decide +kernel
theorem dX12_more_75 : decode cX12_more 75 = .ok (.goto (-53), 3) := by decide +kernel
theorem dX12_more_78 : decode cX12_more 78 = .ok (.aload_n 0, 1) := by decide +kernel
theorem dX12_more_79 : decode cX12_more 79 = .ok (.getfield 7, 3) := by decide +kernel
theorem dX12_more_82 : decode cX12_more 82 = .ok (.iload_n 1, 1) := by decide +kernel
theorem dX12_more_83 : decode cX12_more 83 = .ok (.iload_n 2, 1) := by decide +kernel
theorem dX12_more_84 : decode cX12_more 84 = .ok (.iastore, 1) := by decide +kernel
theorem dX12_more_85 : decode cX12_more 85 = .ok (.iload_n 3, 1) := by decide +kernel
theorem dX12_more_86 : decode cX12_more 86 = .ok (.ireturn, 1) := by decide +kernel
theorem dX12_secondsOf_0 : decode cX12_secondsOf 0 = .ok (.iconst 0, 1) := by decide +kernel
theorem dX12_secondsOf_1 : decode cX12_secondsOf 1 = .ok (.istore 4, 2) := by decide +kernel
theorem dX12_secondsOf_3 : decode cX12_secondsOf 3 = .ok (.iload_n 2, 1) := by decide +kernel
theorem dX12_secondsOf_4 : decode cX12_secondsOf 4 = .ok (.istore 5, 2) := by decide +kernel
theorem dX12_secondsOf_6 : decode cX12_secondsOf 6 = .ok (.iload 5, 2) := by decide +kernel
theorem dX12_secondsOf_8 : decode cX12_secondsOf 8 = .ok (.iload_n 2, 1) := by decide +kernel
theorem dX12_secondsOf_9 : decode cX12_secondsOf 9 = .ok (.iload_n 3, 1) := by decide +kernel
theorem dX12_secondsOf_10 : decode cX12_secondsOf 10 = .ok (.iadd, 1) := by decide +kernel
theorem dX12_secondsOf_11 : decode cX12_secondsOf 11 = .ok (.if_icmp .ge 45, 3) := by decide +kernel
theorem dX12_secondsOf_14 : decode cX12_secondsOf 14 = .ok (.iload 4, 2) := by decide +kernel
theorem dX12_secondsOf_16 : decode cX12_secondsOf 16 = .ok (.aload_n 0, 1) := by decide +kernel
theorem dX12_secondsOf_17 : decode cX12_secondsOf 17 = .ok (.iload_n 1, 1) := by decide +kernel
theorem dX12_secondsOf_18 : decode cX12_secondsOf 18 = .ok (.iload 5, 2) := by decide +kernel
theorem dX12_secondsOf_20 : decode cX12_secondsOf 20 = .ok (.aload_n 0, 1) := by decide +kernel
theorem dX12_secondsOf_21 : decode cX12_secondsOf 21 = .ok (.getfield 7, 3) := by decide +kernel
theorem dX12_secondsOf_24 : decode cX12_secondsOf 24 = .ok (.iload 5, 2) := by decide +kernel
theorem dX12_secondsOf_26 : decode cX12_secondsOf 26 = .ok (.iaload, 1) := by decide +kernel
theorem dX12_secondsOf_27 : decode cX12_secondsOf 27 = .ok (.iconst 0, 1) := by decide +kernel
theorem dX12_secondsOf_28 : decode cX12_secondsOf 28 = .ok (.invokevirtual 236, 3) := by decide +kernel
theorem dX12_secondsOf_31 : decode cX12_secondsOf 31 = .ok (.aload_n 0, 1) := by decide +kernel
theorem dX12_secondsOf_32 : decode cX12_secondsOf 32 = .ok (.iload_n 1, 1) := by decide +kernel
theorem dX12_secondsOf_33 : decode cX12_secondsOf 33 = .ok (.iload 5, 2) := by decide +kernel
theorem dX12_secondsOf_35 : decode cX12_secondsOf 35 = .ok (.aload_n 0, 1) := by decide +kernel
theorem dX12_secondsOf_36 : decode cX12_secondsOf 36 = .ok (.getfield 7, 3) := by decide +kernel
theorem dX12_secondsOf_39 : decode cX12_secondsOf 39 = .ok (.iload 5, 2) := by decide +kernel
theorem dX12_secondsOf_41 : decode cX12_secondsOf 41 = .ok (.iaload, 1) := by decide +kernel
theorem dX12_secondsOf_42 : decode cX12_secondsOf 42 = .ok (.iconst 0, 1) := by decide +kernel
theorem dX12_secondsOf_43 : decode cX12_secondsOf 43 = .ok (.invokevirtual 229, 3) := by decide +kernel
theorem dX12_secondsOf_46 : decode cX12_secondsOf 46 = .ok (.iadd, 1) := by decide +kernel
theorem dX12_secondsOf_47 : decode cX12_secondsOf 47 = .ok (.iadd, 1) := by decide +kernel
theorem dX12_secondsOf_48 : decode cX12_secondsOf 48 = .ok (.istore 4, 2) := by decide +kernel
theorem dX12_secondsOf_50 : decode cX12_secondsOf 50 = .ok (.iinc 5 1, 3) := by decide +kernel
theorem dX12_secondsOf_53 : decode cX12_secondsOf 53 = .ok (.goto (-47), 3) := by decide +kernel
theorem dX12_secondsOf_56 : decode cX12_secondsOf 56 = .ok (.iload 4, 2) := by decide +kernel
theorem dX12_secondsOf_58 : decode cX12_secondsOf 58 = .ok (.ireturn, 1) := by decide +kernel
theorem dX12_mostSeconds_0 : decode cX12_mostSeconds 0 = .ok (.iconst 0, 1) := by decide +kernel
theorem dX12_mostSeconds_1 : decode cX12_mostSeconds 1 = .ok (.istore_n 1, 1) := by decide +kernel
theorem dX12_mostSeconds_2 : decode cX12_mostSeconds 2 = .ok (.iconst 0, 1) := by decide +kernel
theorem dX12_mostSeconds_3 : decode cX12_mostSeconds 3 = .ok (.istore_n 2, 1) := by decide +kernel
theorem dX12_mostSeconds_4 : decode cX12_mostSeconds 4 = .ok (.aload_n 0, 1) := by decide +kernel
theorem dX12_mostSeconds_5 : decode cX12_mostSeconds 5 = .ok (.iconst 0, 1) := by decide +kernel
theorem dX12_mostSeconds_6 : decode cX12_mostSeconds 6 = .ok (.putfield 287, 3) := by decide +kernel
theorem dX12_mostSeconds_9 : decode cX12_mostSeconds 9 = .ok (.iconst 0, 1) := by decide +kernel
theorem dX12_mostSeconds_10 : decode cX12_mostSeconds 10 = .ok (.istore_n 3, 1) := by decide +kernel
theorem dX12_mostSeconds_11 : decode cX12_mostSeconds 11 = .ok (.iload_n 3, 1) := by decide +kernel
theorem dX12_mostSeconds_12 : decode cX12_mostSeconds 12 = .ok (.aload_n 0, 1) := by decide +kernel
theorem dX12_mostSeconds_13 : decode cX12_mostSeconds 13 = .ok (.getfield 117, 3) := by decide +kernel
theorem dX12_mostSeconds_16 : decode cX12_mostSeconds 16 = .ok (.if_icmp .ge 56, 3) := by decide +kernel
theorem dX12_mostSeconds_19 : decode cX12_mostSeconds 19 = .ok (.aload_n 0, 1) := by decide +kernel
theorem dX12_mostSeconds_20 : decode cX12_mostSeconds 20 = .ok (.iload_n 3, 1) := by decide +kernel
theorem dX12_mostSeconds_21 : decode cX12_mostSeconds 21 = .ok (.iload_n 1, 1) := by decide +kernel
theorem dX12_mostSeconds_22 : decode cX12_mostSeconds 22 = .ok (.aload_n 0, 1) := by decide +kernel
theorem dX12_mostSeconds_23 : decode cX12_mostSeconds 23 = .ok (.getfield 101, 3) := by decide +kernel
theorem dX12_mostSeconds_26 : decode cX12_mostSeconds 26 = .ok (.iload_n 3, 1) := by decide +kernel
theorem dX12_mostSeconds_27 : decode cX12_mostSeconds 27 = .ok (.iaload, 1) := by decide +kernel
theorem dX12_mostSeconds_28 : decode cX12_mostSeconds 28 = .ok (.invokevirtual 290, 3) := by decide +kernel
theorem dX12_mostSeconds_31 : decode cX12_mostSeconds 31 = .ok (.istore 4, 2) := by decide +kernel
theorem dX12_mostSeconds_33 : decode cX12_mostSeconds 33 = .ok (.iload_n 1, 1) := by decide +kernel
theorem dX12_mostSeconds_34 : decode cX12_mostSeconds 34 = .ok (.aload_n 0, 1) := by decide +kernel
theorem dX12_mostSeconds_35 : decode cX12_mostSeconds 35 = .ok (.getfield 101, 3) := by decide +kernel
theorem dX12_mostSeconds_38 : decode cX12_mostSeconds 38 = .ok (.iload_n 3, 1) := by decide +kernel
theorem dX12_mostSeconds_39 : decode cX12_mostSeconds 39 = .ok (.iaload, 1) := by decide +kernel
theorem dX12_mostSeconds_40 : decode cX12_mostSeconds 40 = .ok (.iadd, 1) := by decide +kernel
theorem dX12_mostSeconds_41 : decode cX12_mostSeconds 41 = .ok (.istore_n 1, 1) := by decide +kernel
theorem dX12_mostSeconds_42 : decode cX12_mostSeconds 42 = .ok (.aload_n 0, 1) := by decide +kernel
theorem dX12_mostSeconds_43 : decode cX12_mostSeconds 43 = .ok (.dup, 1) := by decide +kernel
theorem dX12_mostSeconds_44 : decode cX12_mostSeconds 44 = .ok (.getfield 287, 3) := by decide +kernel
theorem dX12_mostSeconds_47 : decode cX12_mostSeconds 47 = .ok (.iload 4, 2) := by decide +kernel
theorem dX12_mostSeconds_49 : decode cX12_mostSeconds 49 = .ok (.iadd, 1) := by decide +kernel
theorem dX12_mostSeconds_50 : decode cX12_mostSeconds 50 = .ok (.putfield 287, 3) := by decide +kernel
theorem dX12_mostSeconds_53 : decode cX12_mostSeconds 53 = .ok (.iload 4, 2) := by decide +kernel
theorem dX12_mostSeconds_55 : decode cX12_mostSeconds 55 = .ok (.iload_n 2, 1) := by decide +kernel
theorem dX12_mostSeconds_56 : decode cX12_mostSeconds 56 = .ok (.if_icmp .le 8, 3) := by decide +kernel
theorem dX12_mostSeconds_59 : decode cX12_mostSeconds 59 = .ok (.iload 4, 2) := by decide +kernel
theorem dX12_mostSeconds_61 : decode cX12_mostSeconds 61 = .ok (.goto 4, 3) := by decide +kernel
theorem dX12_mostSeconds_64 : decode cX12_mostSeconds 64 = .ok (.iload_n 2, 1) := by decide +kernel
theorem dX12_mostSeconds_65 : decode cX12_mostSeconds 65 = .ok (.istore_n 2, 1) := by decide +kernel
theorem dX12_mostSeconds_66 : decode cX12_mostSeconds 66 = .ok (.iinc 3 1, 3) := by decide +kernel
theorem dX12_mostSeconds_69 : decode cX12_mostSeconds 69 = .ok (.goto (-58), 3) := by decide +kernel
theorem dX12_mostSeconds_72 : decode cX12_mostSeconds 72 = .ok (.iload_n 2, 1) := by decide +kernel
theorem dX12_mostSeconds_73 : decode cX12_mostSeconds 73 = .ok (.ireturn, 1) := by decide +kernel
theorem dX12_tellsStretches_0 : decode cX12_tellsStretches 0 = .ok (.iload_n 1, 1) := by decide +kernel
theorem dX12_tellsStretches_1 : decode cX12_tellsStretches 1 = .ok (.istore_n 2, 1) := by decide +kernel
theorem dX12_tellsStretches_2 : decode cX12_tellsStretches 2 = .ok (.iconst 0, 1) := by decide +kernel
theorem dX12_tellsStretches_3 : decode cX12_tellsStretches 3 = .ok (.istore_n 3, 1) := by decide +kernel
theorem dX12_tellsStretches_4 : decode cX12_tellsStretches 4 = .ok (.aload_n 0, 1) := by decide +kernel
theorem dX12_tellsStretches_5 : decode cX12_tellsStretches 5 = .ok (.getfield 117, 3) := by decide +kernel
theorem dX12_tellsStretches_8 : decode cX12_tellsStretches 8 = .ok (.iconst 2, 1) := by decide +kernel
theorem dX12_tellsStretches_9 : decode cX12_tellsStretches 9 = .ok (.isub, 1) := by decide +kernel
theorem dX12_tellsStretches_10 : decode cX12_tellsStretches 10 = .ok (.istore 4, 2) := by decide +kernel
theorem dX12_tellsStretches_12 : decode cX12_tellsStretches 12 = .ok (.iload 4, 2) := by decide +kernel
theorem dX12_tellsStretches_14 : decode cX12_tellsStretches 14 = .ok (.ifCond .lt 35, 3) := by decide +kernel
theorem dX12_tellsStretches_17 : decode cX12_tellsStretches 17 = .ok (.aload_n 0, 1) := by decide +kernel
theorem dX12_tellsStretches_18 : decode cX12_tellsStretches 18 = .ok (.getfield 101, 3) := by decide +kernel
theorem dX12_tellsStretches_21 : decode cX12_tellsStretches 21 = .ok (.iload 4, 2) := by decide +kernel
theorem dX12_tellsStretches_23 : decode cX12_tellsStretches 23 = .ok (.iload_n 2, 1) := by decide +kernel
theorem dX12_tellsStretches_24 : decode cX12_tellsStretches 24 = .ok (.bipush 10, 2) := by decide +kernel
theorem dX12_tellsStretches_26 : decode cX12_tellsStretches 26 = .ok (.irem, 1) := by decide +kernel
theorem dX12_tellsStretches_27 : decode cX12_tellsStretches 27 = .ok (.iastore, 1) := by decide +kernel
theorem dX12_tellsStretches_28 : decode cX12_tellsStretches 28 = .ok (.iload_n 2, 1) := by decide +kernel
theorem dX12_tellsStretches_29 : decode cX12_tellsStretches 29 = .ok (.bipush 10, 2) := by decide +kernel
theorem dX12_tellsStretches_31 : decode cX12_tellsStretches 31 = .ok (.idiv, 1) := by decide +kernel
theorem dX12_tellsStretches_32 : decode cX12_tellsStretches 32 = .ok (.istore_n 2, 1) := by decide +kernel
theorem dX12_tellsStretches_33 : decode cX12_tellsStretches 33 = .ok (.iload_n 3, 1) := by decide +kernel
theorem dX12_tellsStretches_34 : decode cX12_tellsStretches 34 = .ok (.aload_n 0, 1) := by decide +kernel
theorem dX12_tellsStretches_35 : decode cX12_tellsStretches 35 = .ok (.getfield 101, 3) := by decide +kernel
theorem dX12_tellsStretches_38 : decode cX12_tellsStretches 38 = .ok (.iload 4, 2) := by decide +kernel
theorem dX12_tellsStretches_40 : decode cX12_tellsStretches 40 = .ok (.iaload, 1) := by decide +kernel
theorem dX12_tellsStretches_41 : decode cX12_tellsStretches 41 = .ok (.iadd, 1) := by decide +kernel
theorem dX12_tellsStretches_42 : decode cX12_tellsStretches 42 = .ok (.istore_n 3, 1) := by decide +kernel
theorem dX12_tellsStretches_43 : decode cX12_tellsStretches 43 = .ok (.iinc 4 (-1), 3) := by decide +kernel
theorem dX12_tellsStretches_46 : decode cX12_tellsStretches 46 = .ok (.goto (-34), 3) := by decide +kernel
theorem dX12_tellsStretches_49 : decode cX12_tellsStretches 49 = .ok (.aload_n 0, 1) := by decide +kernel
theorem dX12_tellsStretches_50 : decode cX12_tellsStretches 50 = .ok (.getfield 101, 3) := by decide +kernel
theorem dX12_tellsStretches_53 : decode cX12_tellsStretches 53 = .ok (.aload_n 0, 1) := by decide +kernel
theorem dX12_tellsStretches_54 : decode cX12_tellsStretches 54 = .ok (.getfield 117, 3) := by decide +kernel
theorem dX12_tellsStretches_57 : decode cX12_tellsStretches 57 = .ok (.iconst 1, 1) := by decide +kernel
theorem dX12_tellsStretches_58 : decode cX12_tellsStretches 58 = .ok (.isub, 1) := by decide +kernel
theorem dX12_tellsStretches_59 : decode cX12_tellsStretches 59 = .ok (.iconst 0, 1) := by decide +kernel
theorem dX12_tellsStretches_60 : decode cX12_tellsStretches 60 = .ok (.iconst 4, 1) := by decide +kernel
theorem dX12_tellsStretches_61 : decode cX12_tellsStretches 61 = .ok (.invokestatic 200, 3) := by decide +kernel
theorem dX12_tellsStretches_64 : decode cX12_tellsStretches 64 = .ok (.bipush 9, 2) := by decide +kernel
theorem dX12_tellsStretches_66 : decode cX12_tellsStretches 66 = .ok (.iload_n 3, 1) := by decide +kernel
theorem dX12_tellsStretches_67 : decode cX12_tellsStretches 67 = .ok (.isub, 1) := by decide +kernel
theorem dX12_tellsStretches_68 : decode cX12_tellsStretches 68 = .ok (.iastore, 1) := by decide +kernel
theorem dX12_tellsStretches_69 : decode cX12_tellsStretches 69 = .ok (.iload_n 3, 1) := by decide +kernel
theorem dX12_tellsStretches_70 : decode cX12_tellsStretches 70 = .ok (.bipush 9, 2) := by decide +kernel
theorem dX12_tellsStretches_72 : decode cX12_tellsStretches 72 = .ok (.if_icmp .gt 7, 3) := by decide +kernel
theorem dX12_tellsStretches_75 : decode cX12_tellsStretches 75 = .ok (.iconst 1, 1) := by decide +kernel
theorem dX12_tellsStretches_76 : decode cX12_tellsStretches 76 = .ok (.goto 4, 3) := by decide +kernel
theorem dX12_tellsStretches_79 : decode cX12_tellsStretches 79 = .ok (.iconst 0, 1) := by decide +kernel
