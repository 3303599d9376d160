theorem dX11_judge_1 : decode cX11_judge 1 = .ok (.iload_n 1, 1) := by decide +kernel
theorem dX11_judge_2 : decode cX11_judge 2 = .ok (.iload_n 2, 1) := by decide +kernel
theorem dX11_judge_3 : decode cX11_judge 3 = .ok (.invokevirtual 283, 3) := by decide +kernel
theorem dX11_judge_6 : decode cX11_judge 6 = .ok (.istore_n 3, 1) := by decide +kernel
theorem dX11_judge_7 : decode cX11_judge 7 = .ok (.iload_n 3, 1) := by decide +kernel
theorem dX11_judge_8 : decode cX11_judge 8 = .ok (.ifCond .eq 5, 3) := by decide +kernel
theorem dX11_judge_11 : decode cX11_judge 11 = .ok (.iload_n 3, 1) := by decide +kernel
theorem dX11_judge_12 : decode cX11_judge 12 = .ok (.ireturn, 1) := by decide +kernel
theorem dX11_judge_13 : decode cX11_judge 13 = .ok (.aload_n 0, 1) := by decide +kernel
theorem dX11_judge_14 : decode cX11_judge 14 = .ok (.invokevirtual 167, 3) := by decide +kernel
theorem dX11_judge_17 : decode cX11_judge 17 = .ok (.aload_n 0, 1) := by decide +kernel
theorem dX11_judge_18 : decode cX11_judge 18 = .ok (.getfield 48, 3) := by decide +kernel
theorem dX11_judge_21 : decode cX11_judge 21 = .ok (.iload_n 2, 1) := by decide +kernel
theorem dX11_judge_22 : decode cX11_judge 22 = .ok (.invokevirtual 170, 3) := by decide +kernel
theorem dX11_judge_25 : decode cX11_judge 25 = .ok (.aload_n 0, 1) := by decide +kernel
theorem dX11_judge_26 : decode cX11_judge 26 = .ok (.iload_n 1, 1) := by decide +kernel
theorem dX11_judge_27 : decode cX11_judge 27 = .ok (.invokevirtual 286, 3) := by decide +kernel
theorem dX11_judge_30 : decode cX11_judge 30 = .ok (.ireturn, 1) := by decide +kernel
theorem dX11_film_0 : decode cX11_film 0 = .ok (.aload_n 0, 1) := by decide +kernel
theorem dX11_film_1 : decode cX11_film 1 = .ok (.iload_n 1, 1) := by decide +kernel
theorem dX11_film_2 : decode cX11_film 2 = .ok (.invokevirtual 303, 3) := by decide +kernel
theorem dX11_film_5 : decode cX11_film 5 = .ok (.astore_n 3, 1) := by decide +kernel
theorem dX11_film_6 : decode cX11_film 6 = .ok (.aload_n 3, 1) := by decide +kernel
theorem dX11_film_7 : decode cX11_film 7 = .ok (.ifnull 10, 3) := by decide +kernel
theorem dX11_film_10 : decode cX11_film 10 = .ok (.iload_n 2, 1) := by decide +kernel
theorem dX11_film_11 : decode cX11_film 11 = .ok (.invokestatic 164, 3) := by decide +kernel
theorem dX11_film_14 : decode cX11_film 14 = .ok (.ifCond .eq 6, 3) := by decide +kernel
theorem dX11_film_17 : decode cX11_film 17 = .ok (.bipush (-2), 2) := by decide +kernel
theorem dX11_film_19 : decode cX11_film 19 = .ok (.ireturn, 1) := by decide +kernel
theorem dX11_film_20 : decode cX11_film 20 = .ok (.aload_n 0, 1) := by decide +kernel
theorem dX11_film_21 : decode cX11_film 21 = .ok (.invokevirtual 167, 3) := by decide +kernel
theorem dX11_film_24 : decode cX11_film 24 = .ok (.aload_n 0, 1) := by decide +kernel
theorem dX11_film_25 : decode cX11_film 25 = .ok (.getfield 48, 3) := by decide +kernel
theorem dX11_film_28 : decode cX11_film 28 = .ok (.iload_n 2, 1) := by decide +kernel
theorem dX11_film_29 : decode cX11_film 29 = .ok (.invokevirtual 170, 3) := by decide +kernel
theorem dX11_film_32 : decode cX11_film 32 = .ok (.aload_n 3, 1) := by decide +kernel
theorem dX11_film_33 : decode cX11_film 33 = .ok (.iconst 1, 1) := by decide +kernel
theorem dX11_film_34 : decode cX11_film 34 = .ok (.bipush 9, 2) := by decide +kernel
theorem dX11_film_36 : decode cX11_film 36 = .ok (.invokevirtual 307, 3) := by decide +kernel
theorem dX11_film_39 : decode cX11_film 39 = .ok (.iconst 0, 1) := by decide +kernel
theorem dX11_film_40 : decode cX11_film 40 = .ok (.istore 4, 2) := by decide +kernel
theorem dX11_film_42 : decode cX11_film 42 = .ok (.iload 4, 2) := by decide +kernel
theorem dX11_film_44 : decode cX11_film 44 = .ok (.bipush 9, 2) := by decide +kernel
theorem dX11_film_46 : decode cX11_film 46 = .ok (.if_icmp .ge 27, 3) := by decide +kernel
theorem dX11_film_49 : decode cX11_film 49 = .ok (.aload_n 3, 1) := by decide +kernel
theorem dX11_film_50 : decode cX11_film 50 = .ok (.iload 4, 2) := by decide +kernel
theorem dX11_film_52 : decode cX11_film 52 = .ok (.aload_n 0, 1) := by decide +kernel
theorem dX11_film_53 : decode cX11_film 53 = .ok (.getfield 48, 3) := by decide +kernel
theorem dX11_film_56 : decode cX11_film 56 = .ok (.iload 4, 2) := by decide +kernel
theorem dX11_film_58 : decode cX11_film 58 = .ok (.invokevirtual 203, 3) := by decide +kernel
theorem dX11_film_61 : decode cX11_film 61 = .ok (.getfield 207, 3) := by decide +kernel
theorem dX11_film_64 : decode cX11_film 64 = .ok (.invokevirtual 310, 3) := by decide +kernel
theorem dX11_film_67 : decode cX11_film 67 = .ok (.iinc 4 1, 3) := by decide +kernel
theorem dX11_film_70 : decode cX11_film 70 = .ok (.goto (-28), 3) := by decide +kernel
theorem dX11_film_73 : decode cX11_film 73 = .ok (.bipush 9, 2) := by decide +kernel
theorem dX11_film_75 : decode cX11_film 75 = .ok (.ireturn, 1) := by decide +kernel
theorem dX11_refusedTelling_0 : decode cX11_refusedTelling 0 = .ok (.aload_n 0, 1) := by decide +kernel
theorem dX11_refusedTelling_1 : decode cX11_refusedTelling 1 = .ok (.iload_n 1, 1) := by decide +kernel
theorem dX11_refusedTelling_2 : decode cX11_refusedTelling 2 = .ok (.invokevirtual 303, 3) := by decide +kernel
theorem dX11_refusedTelling_5 : decode cX11_refusedTelling 5 = .ok (.astore_n 2, 1) := by decide +kernel
theorem dX11_refusedTelling_6 : decode cX11_refusedTelling 6 = .ok (.aload_n 2, 1) := by decide +kernel
theorem dX11_refusedTelling_7 : decode cX11_refusedTelling 7 = .ok (.ifnonnull 6, 3) := by decide +kernel
theorem dX11_refusedTelling_10 : decode cX11_refusedTelling 10 = .ok (.bipush (-2), 2) := by decide +kernel
theorem dX11_refusedTelling_12 : decode cX11_refusedTelling 12 = .ok (.ireturn, 1) := by decide +kernel
theorem dX11_refusedTelling_13 : decode cX11_refusedTelling 13 = .ok (.aload_n 2, 1) := by decide +kernel
theorem dX11_refusedTelling_14 : decode cX11_refusedTelling 14 = .ok (.invokevirtual 313, 3) := by decide +kernel
theorem dX11_refusedTelling_17 : decode cX11_refusedTelling 17 = .ok (.ifCond .eq 6, 3) := by decide +kernel
theorem dX11_refusedTelling_20 : decode cX11_refusedTelling 20 = .ok (.bipush (-11), 2) := by decide +kernel
theorem dX11_refusedTelling_22 : decode cX11_refusedTelling 22 = .ok (.ireturn, 1) := by decide +kernel
theorem dX11_refusedTelling_23 : decode cX11_refusedTelling 23 = .ok (.aload_n 2, 1) := by decide +kernel
theorem dX11_refusedTelling_24 : decode cX11_refusedTelling 24 = .ok (.getfield 316, 3) := by decide +kernel
theorem dX11_refusedTelling_27 : decode cX11_refusedTelling 27 = .ok (.bipush 9, 2) := by decide +kernel
theorem dX11_refusedTelling_29 : decode cX11_refusedTelling 29 = .ok (.if_icmp .ne 7, 3) := by decide +kernel
theorem dX11_refusedTelling_32 : decode cX11_refusedTelling 32 = .ok (.iconst 0, 1) := by decide +kernel
theorem dX11_refusedTelling_33 : decode cX11_refusedTelling 33 = .ok (.goto 5, 3) := by decide +kernel
theorem dX11_refusedTelling_36 : decode cX11_refusedTelling 36 = .ok (.bipush (-2), 2) := by decide +kernel
theorem dX11_refusedTelling_38 : decode cX11_refusedTelling 38 = .ok (.ireturn, 1) := by decide +kernel
theorem dX11_refusedJudging_0 : decode cX11_refusedJudging 0 = .ok (.aload_n 0, 1) := by decide +kernel
theorem dX11_refusedJudging_1 : decode cX11_refusedJudging 1 = .ok (.iload_n 1, 1) := by decide +kernel
theorem dX11_refusedJudging_2 : decode cX11_refusedJudging 2 = .ok (.invokevirtual 289, 3) := by decide +kernel
theorem dX11_refusedJudging_5 : decode cX11_refusedJudging 5 = .ok (.istore_n 3, 1) := by decide +kernel
theorem dX11_refusedJudging_6 : decode cX11_refusedJudging 6 = .ok (.iload_n 3, 1) := by decide +kernel
theorem dX11_refusedJudging_7 : decode cX11_refusedJudging 7 = .ok (.ifCond .ne 15, 3) := by decide +kernel
theorem dX11_refusedJudging_10 : decode cX11_refusedJudging 10 = .ok (.iload_n 2, 1) := by decide +kernel
theorem dX11_refusedJudging_11 : decode cX11_refusedJudging 11 = .ok (.invokestatic 164, 3) := by decide +kernel
theorem dX11_refusedJudging_14 : decode cX11_refusedJudging 14 = .ok (.ifCond .eq 8, 3) := by decide +kernel
theorem dX11_refusedJudging_17 : decode cX11_refusedJudging 17 = .ok (.bipush (-7), 2) := by decide +kernel
theorem dX11_refusedJudging_19 : decode cX11_refusedJudging 19 = .ok (.goto 4, 3) := by decide +kernel
theorem dX11_refusedJudging_22 : decode cX11_refusedJudging 22 = .ok (.iload_n 3, 1) := by decide +kernel
theorem dX11_refusedJudging_23 : decode cX11_refusedJudging 23 = .ok (.ireturn, 1) := by decide +kernel
theorem dX11_firstOtherwise_0 : decode cX11_firstOtherwise 0 = .ok (.aload_n 0, 1) := by decide +kernel
theorem dX11_firstOtherwise_1 : decode cX11_firstOtherwise 1 = .ok (.iload_n 1, 1) := by decide +kernel
theorem dX11_firstOtherwise_2 : decode cX11_firstOtherwise 2 = .ok (.invokevirtual 303, 3) := by decide +kernel
theorem dX11_firstOtherwise_5 : decode cX11_firstOtherwise 5 = .ok (.astore_n 2, 1) := by decide +kernel
theorem dX11_firstOtherwise_6 : decode cX11_firstOtherwise 6 = .ok (.iconst 0, 1) := by decide +kernel
theorem dX11_firstOtherwise_7 : decode cX11_firstOtherwise 7 = .ok (.istore_n 3, 1) := by decide +kernel
theorem dX11_firstOtherwise_8 : decode cX11_firstOtherwise 8 = .ok (.iload_n 3, 1) := by decide +kernel
theorem dX11_firstOtherwise_9 : decode cX11_firstOtherwise 9 = .ok (.bipush 9, 2) := by decide +kernel
theorem dX11_firstOtherwise_11 : decode cX11_firstOtherwise 11 = .ok (.if_icmp .ge 35, 3) := by decide +kernel
theorem dX11_firstOtherwise_14 : decode cX11_firstOtherwise 14 = .ok (.aload_n 2, 1) := by decide +kernel
theorem dX11_firstOtherwise_15 : decode cX11_firstOtherwise 15 = .ok (.ifnull 31, 3) := by decide +kernel
theorem dX11_firstOtherwise_18 : decode cX11_firstOtherwise 18 = .ok (.aload_n 2, 1) := by decide +kernel
theorem dX11_firstOtherwise_19 : decode cX11_firstOtherwise 19 = .ok (.getfield 317, 3) := by decide +kernel
theorem dX11_firstOtherwise_22 : decode cX11_firstOtherwise 22 = .ok (.iload_n 3, 1) := by decide +kernel
theorem dX11_firstOtherwise_23 : decode cX11_firstOtherwise 23 = .ok (.iaload, 1) := by decide +kernel
theorem dX11_firstOtherwise_24 : decode cX11_firstOtherwise 24 = .ok (.aload_n 0, 1) := by decide +kernel
theorem dX11_firstOtherwise_25 : decode cX11_firstOtherwise 25 = .ok (.getfield 48, 3) := by decide +kernel
theorem dX11_firstOtherwise_28 : decode cX11_firstOtherwise 28 = .ok (.iload_n 3, 1) := by decide +kernel
theorem dX11_firstOtherwise_29 : decode cX11_firstOtherwise 29 = .ok (.invokevirtual 203, 3) := by decide +kernel
theorem dX11_firstOtherwise_32 : decode cX11_firstOtherwise 32 = .ok (.getfield 207, 3) := by decide +kernel
theorem dX11_firstOtherwise_35 : decode cX11_firstOtherwise 35 = .ok (.if_icmp .eq 5, 3) := by decide +kernel
theorem dX11_firstOtherwise_38 : decode cX11_firstOtherwise 38 = .ok (.iload_n 3, 1) := by decide +kernel
theorem dX11_firstOtherwise_39 : decode cX11_firstOtherwise 39 = .ok (.ireturn, 1) := by decide +kernel
theorem dX11_firstOtherwise_40 : decode cX11_firstOtherwise 40 = .ok (.iinc 3 1, 3) := by decide +kernel
theorem dX11_firstOtherwise_43 : decode cX11_firstOtherwise 43 = .ok (.goto (-35), 3) := by decide +kernel
theorem dX11_firstOtherwise_46 : decode cX11_firstOtherwise 46 = .ok (.iconst (-1), 1) := by decide +kernel
theorem dX11_firstOtherwise_47 : decode cX11_firstOtherwise 47 = .ok (.ireturn, 1) := by decide +kernel
theorem dX11_noHeap_0 : decode cX11_noHeap 0 = .ok (.iload_n 0, 1) := by decide +kernel
theorem dX11_noHeap_1 : decode cX11_noHeap 1 = .ok (.ifCond .lt 9, 3) := by decide +kernel
theorem dX11_noHeap_4 : decode cX11_noHeap 4 = .ok (.iload_n 0, 1) := by decide +kernel
theorem dX11_noHeap_5 : decode cX11_noHeap 5 = .ok (.bipush 9, 2) := by decide +kernel
theorem dX11_noHeap_7 : decode cX11_noHeap 7 = .ok (.if_icmp .lt 7, 3) := by decide +kernel
theorem dX11_noHeap_10 : decode cX11_noHeap 10 = .ok (.iconst 1, 1) := by decide +kernel
theorem dX11_noHeap_11 : decode cX11_noHeap 11 = .ok (.goto 4, 3) := by decide +kernel
theorem dX11_noHeap_14 : decode cX11_noHeap 14 = .ok (.iconst 0, 1) := by decide +kernel
theorem dX11_noHeap_15 : decode cX11_noHeap 15 = .ok (.ireturn, 1) := by decide +kernel
theorem dX11_noByte_0 : decode cX11_noByte 0 = .ok (.iload_n 0, 1) := by decide +kernel
theorem dX11_noByte_1 : decode cX11_noByte 1 = .ok (.ifCond .lt 10, 3) := by decide +kernel
theorem dX11_noByte_4 : decode cX11_noByte 4 = .ok (.iload_n 0, 1) := by decide +kernel
theorem dX11_noByte_5 : decode cX11_noByte 5 = .ok (.sipush 255, 3) := by decide +kernel
theorem dX11_noByte_8 : decode cX11_noByte 8 = .ok (.if_icmp .le 7, 3) := by decide +kernel
theorem dX11_noByte_11 : decode cX11_noByte 11 = .ok (.iconst 1, 1) := by decide +kernel
theorem dX11_noByte_12 : decode cX11_noByte 12 = .ok (.goto 4, 3) := by decide +kernel
theorem dX11_noByte_15 : decode cX11_noByte 15 = .ok (.iconst 0, 1) := by decide +kernel
theorem dX11_noByte_16 : decode cX11_noByte 16 = .ok (.ireturn, 1) := by decide +kernel
theorem dX11_noSeconds_0 : decode cX11_noSeconds 0 = .ok (.iload_n 0, 1) := by decide +kernel
theorem dX11_noSeconds_1 : decode cX11_noSeconds 1 = .ok (.ifCond .lt 10, 3) := by decide +kernel
theorem dX11_noSeconds_4 : decode cX11_noSeconds 4 = .ok (.iload_n 0, 1) := by decide +kernel
theorem dX11_noSeconds_5 : decode cX11_noSeconds 5 = .ok (.sipush 600, 3) := by decide +kernel
theorem dX11_noSeconds_8 : decode cX11_noSeconds 8 = .ok (.if_icmp .le 7, 3) := by decide +kernel
theorem dX11_noSeconds_11 : decode cX11_noSeconds 11 = .ok (.iconst 1, 1) := by decide +kernel
theorem dX11_noSeconds_12 : decode cX11_noSeconds 12 = .ok (.goto 4, 3) := by decide +kernel
theorem dX11_noSeconds_15 : decode cX11_noSeconds 15 = .ok (.iconst 0, 1) := by decide +kernel
theorem dX11_noSeconds_16 : decode cX11_noSeconds 16 = .ok (.ireturn, 1) := by decide +kernel
theorem dX11_walkerOf_0 : decode cX11_walkerOf 0 = .ok (.iload_n 1, 1) := by decide +kernel
theorem dX11_walkerOf_1 : decode cX11_walkerOf 1 = .ok (.ifCond .lt 25, 3) := by decide +kernel
theorem dX11_walkerOf_4 : decode cX11_walkerOf 4 = .ok (.iload_n 1, 1) := by decide +kernel
theorem dX11_walkerOf_5 : decode cX11_walkerOf 5 = .ok (.aload_n 0, 1) := by decide +kernel
theorem dX11_walkerOf_6 : decode cX11_walkerOf 6 = .ok (.getfield 94, 3) := by decide +kernel
theorem dX11_walkerOf_9 : decode cX11_walkerOf 9 = .ok (.if_icmp .ge 17, 3) := by decide +kernel
theorem dX11_walkerOf_12 : decode cX11_walkerOf 12 = .ok (.iload_n 1, 1) := by decide +kernel
theorem dX11_walkerOf_13 : decode cX11_walkerOf 13 = .ok (.iconst 5, 1) := by decide +kernel
theorem dX11_walkerOf_14 : decode cX11_walkerOf 14 = .ok (.if_icmp .ge 12, 3) := by decide +kernel
theorem dX11_walkerOf_17 : decode cX11_walkerOf 17 = .ok (.aload_n 0, 1) := by decide +kernel
theorem dX11_walkerOf_18 : decode cX11_walkerOf 18 = .ok (.getfield 22, 3) := by decide +kernel
theorem dX11_walkerOf_21 : decode cX11_walkerOf 21 = .ok (.iload_n 1, 1) := by decide +kernel
theorem dX11_walkerOf_22 : decode cX11_walkerOf 22 = .ok (.aaload, 1) := by decide +kernel
theorem dX11_walkerOf_23 : decode cX11_walkerOf 23 = .ok (.goto 4, 3) := by decide +kernel
theorem dX11_walkerOf_26 : decode cX11_walkerOf 26 = .ok (.aconst_null, 1) := by decide +kernel
theorem dX11_walkerOf_27 : decode cX11_walkerOf 27 = .ok (.areturn, 1) := by decide +kernel
theorem dX11_textOf_0 : decode cX11_textOf 0 = .ok (.iload_n 1, 1) := by decide +kernel
theorem dX11_textOf_1 : decode cX11_textOf 1 = .ok (.ifCond .lt 26, 3) := by decide +kernel
theorem dX11_textOf_4 : decode cX11_textOf 4 = .ok (.iload_n 1, 1) := by decide +kernel
theorem dX11_textOf_5 : decode cX11_textOf 5 = .ok (.aload_n 0, 1) := by decide +kernel
theorem dX11_textOf_6 : decode cX11_textOf 6 = .ok (.getfield 90, 3) := by decide +kernel
theorem dX11_textOf_9 : decode cX11_textOf 9 = .ok (.if_icmp .ge 18, 3) := by decide +kernel
theorem dX11_textOf_12 : decode cX11_textOf 12 = .ok (.iload_n 1, 1) := by decide +kernel
theorem dX11_textOf_13 : decode cX11_textOf 13 = .ok (.bipush 6, 2) := by decide +kernel
theorem dX11_textOf_15 : decode cX11_textOf 15 = .ok (.if_icmp .ge 12, 3) := by decide +kernel
theorem dX11_textOf_18 : decode cX11_textOf 18 = .ok (.aload_n 0, 1) := by decide +kernel
theorem dX11_textOf_19 : decode cX11_textOf 19 = .ok (.getfield 28, 3) := by decide +kernel
theorem dX11_textOf_22 : decode cX11_textOf 22 = .ok (.iload_n 1, 1) := by decide +kernel
theorem dX11_textOf_23 : decode cX11_textOf 23 = .ok (.aaload, 1) := by decide +kernel
theorem dX11_textOf_24 : decode cX11_textOf 24 = .ok (.goto 4, 3) := by decide +kernel
theorem dX11_textOf_27 : decode cX11_textOf 27 = .ok (.aconst_null, 1) := by decide +kernel
theorem dX11_textOf_28 : decode cX11_textOf 28 = .ok (.areturn, 1) := by decide +kernel
theorem dX11_sheetOf_0 : decode cX11_sheetOf 0 = .ok (.iload_n 1, 1) := by decide +kernel
theorem dX11_sheetOf_1 : decode cX11_sheetOf 1 = .ok (.ifCond .lt 17, 3) := by decide +kernel
theorem dX11_sheetOf_4 : decode cX11_sheetOf 4 = .ok (.iload_n 1, 1) := by decide +kernel
theorem dX11_sheetOf_5 : decode cX11_sheetOf 5 = .ok (.iconst 4, 1) := by decide +kernel
theorem dX11_sheetOf_6 : decode cX11_sheetOf 6 = .ok (.if_icmp .ge 12, 3) := by decide +kernel
theorem dX11_sheetOf_9 : decode cX11_sheetOf 9 = .ok (.aload_n 0, 1) := by decide +kernel
theorem dX11_sheetOf_10 : decode cX11_sheetOf 10 = .ok (.getfield 41, 3) := by decide +kernel
theorem dX11_sheetOf_13 : decode cX11_sheetOf 13 = .ok (.iload_n 1, 1) := by decide +kernel
theorem dX11_sheetOf_14 : decode cX11_sheetOf 14 = .ok (.aaload, 1) := by decide +kernel
theorem dX11_sheetOf_15 : decode cX11_sheetOf 15 = .ok (.goto 4, 3) := by decide +kernel
theorem dX11_sheetOf_18 : decode cX11_sheetOf 18 = .ok (.aconst_null, 1) := by decide +kernel
theorem dX11_sheetOf_19 : decode cX11_sheetOf 19 = .ok (.areturn, 1) := by decide +kernel
theorem dX11_layPlain_0 : decode cX11_layPlain 0 = .ok (.aload_n 0, 1) := by decide +kernel
theorem dX11_layPlain_1 : decode cX11_layPlain 1 = .ok (.iconst (-1), 1) := by decide +kernel
theorem dX11_layPlain_2 : decode cX11_layPlain 2 = .ok (.invokevirtual 236, 3) := by decide +kernel
theorem dX11_layPlain_5 : decode cX11_layPlain 5 = .ok (.return_, 1) := by decide +kernel
theorem dX11_layWithout_0 : decode cX11_layWithout 0 = .ok (.aload_n 0, 1) := by decide +kernel
theorem dX11_layWithout_1 : decode cX11_layWithout 1 = .ok (.invokevirtual 243, 3) := by decide +kernel
theorem dX11_layWithout_4 : decode cX11_layWithout 4 = .ok (.iconst 0, 1) := by decide +kernel
theorem dX11_layWithout_5 : decode cX11_layWithout 5 = .ok (.istore_n 2, 1) := by decide +kernel
theorem dX11_layWithout_6 : decode cX11_layWithout 6 = .ok (.iload_n 2, 1) := by decide +kernel
theorem dX11_layWithout_7 : decode cX11_layWithout 7 = .ok (.aload_n 0, 1) := by decide +kernel
theorem dX11_layWithout_8 : decode cX11_layWithout 8 = .ok (.getfield 94, 3) := by decide +kernel
theorem dX11_layWithout_11 : decode cX11_layWithout 11 = .ok (.if_icmp .ge 26, 3) := by decide +kernel
theorem dX11_layWithout_14 : decode cX11_layWithout 14 = .ok (.iload_n 2, 1) := by decide +kernel
theorem dX11_layWithout_15 : decode cX11_layWithout 15 = .ok (.iload_n 1, 1) := by decide +kernel
theorem dX11_layWithout_16 : decode cX11_layWithout 16 = .ok (.if_icmp .eq 15, 3) := by decide +kernel
theorem dX11_layWithout_19 : decode cX11_layWithout 19 = .ok (.aload_n 0, 1) := by decide +kernel
theorem dX11_layWithout_20 : decode cX11_layWithout 20 = .ok (.getfield 48, 3) := by decide +kernel
theorem dX11_layWithout_23 : decode cX11_layWithout 23 = .ok (.aload_n 0, 1) := by decide +kernel
theorem dX11_layWithout_24 : decode cX11_layWithout 24 = .ok (.iload_n 2, 1) := by decide +kernel
theorem dX11_layWithout_25 : decode cX11_layWithout 25 = .ok (.invokevirtual 135, 3) := by decide +kernel
theorem dX11_layWithout_28 : decode cX11_layWithout 28 = .ok (.invokevirtual 246, 3) := by decide +kernel
theorem dX11_layWithout_31 : decode cX11_layWithout 31 = .ok (.iinc 2 1, 3) := by decide +kernel
theorem dX11_layWithout_34 : decode cX11_layWithout 34 = .ok (.goto (-28), 3) := by decide +kernel
theorem dX11_layWithout_37 : decode cX11_layWithout 37 = .ok (.return_, 1) := by decide +kernel
theorem dX11_layHeaps_0 : decode cX11_layHeaps 0 = .ok (.aload_n 0, 1) := by decide +kernel
theorem dX11_layHeaps_1 : decode cX11_layHeaps 1 = .ok (.getfield 48, 3) := by decide +kernel
theorem dX11_layHeaps_4 : decode cX11_layHeaps 4 = .ok (.aload_n 0, 1) := by decide +kernel
theorem dX11_layHeaps_5 : decode cX11_layHeaps 5 = .ok (.getfield 9, 3) := by decide +kernel
theorem dX11_layHeaps_8 : decode cX11_layHeaps 8 = .ok (.aload_n 0, 1) := by decide +kernel
theorem dX11_layHeaps_9 : decode cX11_layHeaps 9 = .ok (.getfield 13, 3) := by decide +kernel
theorem dX11_layHeaps_12 : decode cX11_layHeaps 12 = .ok (.aload_n 0, 1) := by decide +kernel
theorem dX11_layHeaps_13 : decode cX11_layHeaps 13 = .ok (.aload_n 0, 1) := by decide +kernel
theorem dX11_layHeaps_14 : decode cX11_layHeaps 14 = .ok (.getfield 97, 3) := by decide +kernel
theorem dX11_layHeaps_17 : decode cX11_layHeaps 17 = .ok (.invokevirtual 139, 3) := by decide +kernel
theorem dX11_layHeaps_20 : decode cX11_layHeaps 20 = .ok (.aload_n 0, 1) := by decide +kernel
theorem dX11_layHeaps_21 : decode cX11_layHeaps 21 = .ok (.getfield 16, 3) := by decide +kernel
theorem dX11_layHeaps_24 : decode cX11_layHeaps 24 = .ok (.aload_n 0, 1) := by decide +kernel
theorem dX11_layHeaps_25 : decode cX11_layHeaps 25 = .ok (.getfield 94, 3) := by decide +kernel
theorem dX11_layHeaps_28 : decode cX11_layHeaps 28 = .ok (.invokevirtual 360, 3) := by decide +kernel
theorem dX11_layHeaps_31 : decode cX11_layHeaps 31 = .ok (.return_, 1) := by decide +kernel
theorem dX11_newWalker_0 : decode cX11_newWalker 0 = .ok (.iload_n 0, 1) := by decide +kernel
theorem dX11_newWalker_1 : decode cX11_newWalker 1 = .ok (.tableswitch 90 1 5 #[35, 46, 57, 68, 79], 35) := by decide +kernel
theorem dX11_newWalker_36 : decode cX11_newWalker 36 = .ok (.new 364, 3) := by decide +kernel
theorem dX11_newWalker_39 : decode cX11_newWalker 39 = .ok (.dup, 1) := by decide +kernel
theorem dX11_newWalker_40 : decode cX11_newWalker 40 = .ok (.iload_n 1, 1) := by decide +kernel
theorem dX11_newWalker_41 : decode cX11_newWalker 41 = .ok (.iload_n 2, 1) := by decide +kernel
theorem dX11_newWalker_42 : decode cX11_newWalker 42 = .ok (.iload_n 3, 1) := by decide +kernel
theorem dX11_newWalker_43 : decode cX11_newWalker 43 = .ok (.invokespecial 366, 3) := by decide +kernel
theorem dX11_newWalker_46 : decode cX11_newWalker 46 = .ok (.areturn, 1) := by decide +kernel
theorem dX11_newWalker_47 : decode cX11_newWalker 47 = .ok (.new 369, 3) := by decide +kernel
theorem dX11_newWalker_50 : decode cX11_newWalker 50 = .ok (.dup, 1) := by decide +kernel
theorem dX11_newWalker_51 : decode cX11_newWalker 51 = .ok (.iload_n 1, 1) := by decide +kernel
theorem dX11_newWalker_52 : decode cX11_newWalker 52 = .ok (.iload_n 2, 1) := by decide +kernel
theorem dX11_newWalker_53 : decode cX11_newWalker 53 = .ok (.iload_n 3, 1) := by decide +kernel
theorem dX11_newWalker_54 : decode cX11_newWalker 54 = .ok (.invokespecial 371, 3) := by decide +kernel
theorem dX11_newWalker_57 : decode cX11_newWalker 57 = .ok (.areturn, 1) := by decide +kernel
theorem dX11_newWalker_58 : decode cX11_newWalker 58 = .ok (.new 372, 3) := by decide +kernel
theorem dX11_newWalker_61 : decode cX11_newWalker 61 = .ok (.dup, 1) := by decide +kernel
theorem dX11_newWalker_62 : decode cX11_newWalker 62 = .ok (.iload_n 1, 1) := by decide +kernel
theorem dX11_newWalker_63 : decode cX11_newWalker 63 = .ok (.iload_n 2, 1) := by decide +kernel
theorem dX11_newWalker_64 : decode cX11_newWalker 64 = .ok (.iload_n 3, 1) := by decide +kernel
theorem dX11_newWalker_65 : decode cX11_newWalker 65 = .ok (.invokespecial 374, 3) := by decide +kernel
theorem dX11_newWalker_68 : decode cX11_newWalker 68 = .ok (.areturn, 1) := by decide +kernel
theorem dX11_newWalker_69 : decode cX11_newWalker 69 = .ok (.new 375, 3) := by decide +kernel
theorem dX11_newWalker_72 : decode cX11_newWalker 72 = .ok (.dup, 1) := by decide +kernel
theorem dX11_newWalker_73 : decode cX11_newWalker 73 = .ok (.iload_n 1, 1) := by decide +kernel
theorem dX11_newWalker_74 : decode cX11_newWalker 74 = .ok (.iload_n 2, 1) := by decide +kernel
theorem dX11_newWalker_75 : decode cX11_newWalker 75 = .ok (.iload_n 3, 1) := by decide +kernel
theorem dX11_newWalker_76 : decode cX11_newWalker 76 = .ok (.invokespecial 377, 3) := by decide +kernel
theorem dX11_newWalker_79 : decode cX11_newWalker 79 = .ok (.areturn, 1) := by decide +kernel
theorem dX11_newWalker_80 : decode cX11_newWalker 80 = .ok (.new 378, 3) := by decide +kernel
theorem dX11_newWalker_83 : decode cX11_newWalker 83 = .ok (.dup, 1) := by decide +kernel
theorem dX11_newWalker_84 : decode cX11_newWalker 84 = .ok (.iload_n 1, 1) := by decide +kernel
theorem dX11_newWalker_85 : decode cX11_newWalker 85 = .ok (.iload_n 2, 1) := by decide +kernel
theorem dX11_newWalker_86 : decode cX11_newWalker 86 = .ok (.iload_n 3, 1) := by decide +kernel
theorem dX11_newWalker_87 : decode cX11_newWalker 87 = .ok (.invokespecial 380, 3) := by decide +kernel
theorem dX11_newWalker_90 : decode cX11_newWalker 90 = .ok (.areturn, 1) := by decide +kernel
theorem dX11_newWalker_91 : decode cX11_newWalker 91 = .ok (.new 20, 3) := by decide +kernel
theorem dX11_newWalker_94 : decode cX11_newWalker 94 = .ok (.dup, 1) := by decide +kernel
theorem dX11_newWalker_95 : decode cX11_newWalker 95 = .ok (.iload_n 1, 1) := by decide +kernel
theorem dX11_newWalker_96 : decode cX11_newWalker 96 = .ok (.iload_n 2, 1) := by decide +kernel
theorem dX11_newWalker_97 : decode cX11_newWalker 97 = .ok (.iload_n 3, 1) := by decide +kernel
theorem dX11_newWalker_98 : decode cX11_newWalker 98 = .ok (.invokespecial 381, 3) := by decide +kernel
theorem dX11_newWalker_101 : decode cX11_newWalker 101 = .ok (.areturn, 1) := by decide +kernel
theorem dJ5_init_d00df_0 : decode cJ5_init_d00df 0 = .ok (.aload_n 0, 1) := by decide +kernel
theorem dJ5_init_d00df_1 : decode cJ5_init_d00df 1 = .ok (.invokespecial 3, 3) := by decide +kernel
theorem dJ5_init_d00df_4 : decode cJ5_init_d00df 4 = .ok (.getstatic 18, 3) := by decide +kernel
theorem dJ5_init_d00df_7 : decode cJ5_init_d00df 7 = .ok (.ifCond .eq 18, 3) := by decide +kernel
theorem dJ5_init_d00df_10 : decode cJ5_init_d00df 10 = .ok (.aload_n 0, 1) := by decide +kernel
theorem dJ5_init_d00df_11 : decode cJ5_init_d00df 11 = .ok (.iload_n 1, 1) := by decide +kernel
theorem dJ5_init_d00df_12 : decode cJ5_init_d00df 12 = .ok (.newarray .byte, 2) := by decide +kernel
theorem dJ5_init_d00df_14 : decode cJ5_init_d00df 14 = .ok (.putfield 15, 3) := by decide +kernel
theorem dJ5_init_d00df_17 : decode cJ5_init_d00df 17 = .ok (.aload_n 0, 1) := by decide +kernel
theorem dJ5_init_d00df_18 : decode cJ5_init_d00df 18 = .ok (.iconst 0, 1) := by decide +kernel
theorem dJ5_init_d00df_19 : decode cJ5_init_d00df 19 = .ok (.putfield 22, 3) := by decide +kernel
theorem dJ5_init_d00df_22 : decode cJ5_init_d00df 22 = .ok (.goto 16, 3) := by decide +kernel
theorem dJ5_init_d00df_25 : decode cJ5_init_d00df 25 = .ok (.aload_n 0, 1) := by decide +kernel
theorem dJ5_init_d00df_26 : decode cJ5_init_d00df 26 = .ok (.iload_n 1, 1) := by decide +kernel
theorem dJ5_init_d00df_27 : decode cJ5_init_d00df 27 = .ok (.invokestatic 26, 3) := by decide +kernel
theorem dJ5_init_d00df_30 : decode cJ5_init_d00df 30 = .ok (.putfield 15, 3) := by decide +kernel
theorem dJ5_init_d00df_33 : decode cJ5_init_d00df 33 = .ok (.aload_n 0, 1) := by decide +kernel
theorem dJ5_init_d00df_34 : decode cJ5_init_d00df 34 = .ok (.iconst 1, 1) := by decide +kernel
theorem dJ5_init_d00df_35 : decode cJ5_init_d00df 35 = .ok (.putfield 22, 3) := by decide +kernel
theorem dJ5_init_d00df_38 : decode cJ5_init_d00df 38 = .ok (.return_, 1) := by decide +kernel
theorem dJ5_length_8abf5_0 : decode cJ5_length_8abf5 0 = .ok (.aload_n 0, 1) := by decide +kernel
theorem dJ5_length_8abf5_1 : decode cJ5_length_8abf5 1 = .ok (.getfield 79, 3) := by decide +kernel
theorem dJ5_length_8abf5_4 : decode cJ5_length_8abf5 4 = .ok (.ireturn, 1) := by decide +kernel
theorem dJ5_ensureCapacityInternal_d00df_0 : decode cJ5_ensureCapacityInternal_d00df 0 = .ok (.aload_n 0, 1) := by decide +kernel
theorem dJ5_ensureCapacityInternal_d00df_1 : decode cJ5_ensureCapacityInternal_d00df 1 = .ok (.getfield 15, 3) := by decide +kernel
theorem dJ5_ensureCapacityInternal_d00df_4 : decode cJ5_ensureCapacityInternal_d00df 4 = .ok (.arraylength, 1) := by decide +kernel
theorem dJ5_ensureCapacityInternal_d00df_5 : decode cJ5_ensureCapacityInternal_d00df 5 = .ok (.aload_n 0, 1) := by decide +kernel
theorem dJ5_ensureCapacityInternal_d00df_6 : decode cJ5_ensureCapacityInternal_d00df 6 = .ok (.getfield 22, 3) := by decide +kernel
theorem dJ5_ensureCapacityInternal_d00df_9 : decode cJ5_ensureCapacityInternal_d00df 9 = .ok (.ishr, 1) := by decide +kernel
theorem dJ5_ensureCapacityInternal_d00df_10 : decode cJ5_ensureCapacityInternal_d00df 10 = .ok (.istore_n 2, 1) := by decide +kernel
theorem dJ5_ensureCapacityInternal_d00df_11 : decode cJ5_ensureCapacityInternal_d00df 11 = .ok (.iload_n 1, 1) := by decide +kernel
theorem dJ5_ensureCapacityInternal_d00df_12 : decode cJ5_ensureCapacityInternal_d00df 12 = .ok (.iload_n 2, 1) := by decide +kernel
theorem dJ5_ensureCapacityInternal_d00df_13 : decode cJ5_ensureCapacityInternal_d00df 13 = .ok (.isub, 1) := by decide +kernel
theorem dJ5_ensureCapacityInternal_d00df_14 : decode cJ5_ensureCapacityInternal_d00df 14 = .ok (.ifCond .le 24, 3) := by decide +kernel
theorem dJ5_ensureCapacityInternal_d00df_17 : decode cJ5_ensureCapacityInternal_d00df 17 = .ok (.aload_n 0, 1) := by decide +kernel
theorem dJ5_ensureCapacityInternal_d00df_18 : decode cJ5_ensureCapacityInternal_d00df 18 = .ok (.aload_n 0, 1) := by decide +kernel
theorem dJ5_ensureCapacityInternal_d00df_19 : decode cJ5_ensureCapacityInternal_d00df 19 = .ok (.getfield 15, 3) := by decide +kernel
theorem dJ5_ensureCapacityInternal_d00df_22 : decode cJ5_ensureCapacityInternal_d00df 22 = .ok (.aload_n 0, 1) := by decide +kernel
theorem dJ5_ensureCapacityInternal_d00df_23 : decode cJ5_ensureCapacityInternal_d00df 23 = .ok (.iload_n 1, 1) := by decide +kernel
theorem dJ5_ensureCapacityInternal_d00df_24 : decode cJ5_ensureCapacityInternal_d00df 24 = .ok (.invokevirtual 104, 3) := by decide +kernel
theorem dJ5_ensureCapacityInternal_d00df_27 : decode cJ5_ensureCapacityInternal_d00df 27 = .ok (.aload_n 0, 1) := by decide +kernel
theorem dJ5_ensureCapacityInternal_d00df_28 : decode cJ5_ensureCapacityInternal_d00df 28 = .ok (.getfield 22, 3) := by decide +kernel
theorem dJ5_ensureCapacityInternal_d00df_31 : decode cJ5_ensureCapacityInternal_d00df 31 = .ok (.ishl, 1) := by decide +kernel
theorem dJ5_ensureCapacityInternal_d00df_32 : decode cJ5_ensureCapacityInternal_d00df 32 = .ok (.invokestatic 108, 3) := by decide +kernel
theorem dJ5_ensureCapacityInternal_d00df_35 : decode cJ5_ensureCapacityInternal_d00df 35 = .ok (.putfield 15, 3) := by decide +kernel
theorem dJ5_ensureCapacityInternal_d00df_38 : decode cJ5_ensureCapacityInternal_d00df 38 = .ok (.return_, 1) := by decide +kernel
theorem dJ5_newCapacity_0f7a4_0 : decode cJ5_newCapacity_0f7a4 0 = .ok (.aload_n 0, 1) := by decide +kernel
theorem dJ5_newCapacity_0f7a4_1 : decode cJ5_newCapacity_0f7a4 1 = .ok (.getfield 15, 3) := by decide +kernel
theorem dJ5_newCapacity_0f7a4_4 : decode cJ5_newCapacity_0f7a4 4 = .ok (.arraylength, 1) := by decide +kernel
theorem dJ5_newCapacity_0f7a4_5 : decode cJ5_newCapacity_0f7a4 5 = .ok (.istore_n 2, 1) := by decide +kernel
theorem dJ5_newCapacity_0f7a4_6 : decode cJ5_newCapacity_0f7a4 6 = .ok (.iload_n 1, 1) := by decide +kernel
theorem dJ5_newCapacity_0f7a4_7 : decode cJ5_newCapacity_0f7a4 7 = .ok (.aload_n 0, 1) := by decide +kernel
theorem dJ5_newCapacity_0f7a4_8 : decode cJ5_newCapacity_0f7a4 8 = .ok (.getfield 22, 3) := by decide +kernel
theorem dJ5_newCapacity_0f7a4_11 : decode cJ5_newCapacity_0f7a4 11 = .ok (.ishl, 1) := by decide +kernel
theorem dJ5_newCapacity_0f7a4_12 : decode cJ5_newCapacity_0f7a4 12 = .ok (.istore_n 3, 1) := by decide +kernel
theorem dJ5_newCapacity_0f7a4_13 : decode cJ5_newCapacity_0f7a4 13 = .ok (.iload_n 3, 1) := by decide +kernel
theorem dJ5_newCapacity_0f7a4_14 : decode cJ5_newCapacity_0f7a4 14 = .ok (.iload_n 2, 1) := by decide +kernel
theorem dJ5_newCapacity_0f7a4_15 : decode cJ5_newCapacity_0f7a4 15 = .ok (.isub, 1) := by decide +kernel
theorem dJ5_newCapacity_0f7a4_16 : decode cJ5_newCapacity_0f7a4 16 = .ok (.istore 4, 2) := by decide +kernel
theorem dJ5_newCapacity_0f7a4_18 : decode cJ5_newCapacity_0f7a4 18 = .ok (.iload_n 2, 1) := by decide +kernel
theorem dJ5_newCapacity_0f7a4_19 : decode cJ5_newCapacity_0f7a4 19 = .ok (.iload 4, 2) := by decide +kernel
theorem dJ5_newCapacity_0f7a4_21 : decode cJ5_newCapacity_0f7a4 21 = .ok (.iload_n 2, 1) := by decide +kernel
theorem dJ5_newCapacity_0f7a4_22 : decode cJ5_newCapacity_0f7a4 22 = .ok (.iconst 2, 1) := by decide +kernel
theorem dJ5_newCapacity_0f7a4_23 : decode cJ5_newCapacity_0f7a4 23 = .ok (.aload_n 0, 1) := by decide +kernel
theorem dJ5_newCapacity_0f7a4_24 : decode cJ5_newCapacity_0f7a4 24 = .ok (.getfield 22, 3) := by decide +kernel
theorem dJ5_newCapacity_0f7a4_27 : decode cJ5_newCapacity_0f7a4 27 = .ok (.ishl, 1) := by decide +kernel
theorem dJ5_newCapacity_0f7a4_28 : decode cJ5_newCapacity_0f7a4 28 = .ok (.iadd, 1) := by decide +kernel
theorem dJ5_newCapacity_0f7a4_29 : decode cJ5_newCapacity_0f7a4 29 = .ok (.invokestatic 114, 3) := by decide +kernel
theorem dJ5_newCapacity_0f7a4_32 : decode cJ5_newCapacity_0f7a4 32 = .ok (.istore 5, 2) := by decide +kernel
theorem dJ5_newCapacity_0f7a4_34 : decode cJ5_newCapacity_0f7a4 34 = .ok (.iload 5, 2) := by decide +kernel
theorem dJ5_newCapacity_0f7a4_36 : decode cJ5_newCapacity_0f7a4 36 = .ok (.ldc 39, 2) := by decide +kernel
theorem dJ5_newCapacity_0f7a4_38 : decode cJ5_newCapacity_0f7a4 38 = .ok (.if_icmp .ne 13, 3) := by decide +kernel
theorem dJ5_newCapacity_0f7a4_41 : decode cJ5_newCapacity_0f7a4 41 = .ok (.new 120, 3) := by decide +kernel
theorem dJ5_newCapacity_0f7a4_44 : decode cJ5_newCapacity_0f7a4 44 = .ok (.dup, 1) := by decide +kernel
theorem dJ5_newCapacity_0f7a4_45 : decode cJ5_newCapacity_0f7a4 45 = .ok (.ldc 122, 2) := by decide +kernel
theorem dJ5_newCapacity_0f7a4_47 : decode cJ5_newCapacity_0f7a4 47 = .ok (.invokespecial 124, 3) := by decide +kernel
theorem dJ5_newCapacity_0f7a4_50 : decode cJ5_newCapacity_0f7a4 50 = .ok (.athrow, 1) := by decide +kernel
theorem dJ5_newCapacity_0f7a4_51 : decode cJ5_newCapacity_0f7a4 51 = .ok (.iload 5, 2) := by decide +kernel
theorem dJ5_newCapacity_0f7a4_53 : decode cJ5_newCapacity_0f7a4 53 = .ok (.aload_n 0, 1) := by decide +kernel
theorem dJ5_newCapacity_0f7a4_54 : decode cJ5_newCapacity_0f7a4 54 = .ok (.getfield 22, 3) := by decide +kernel
theorem dJ5_newCapacity_0f7a4_57 : decode cJ5_newCapacity_0f7a4 57 = .ok (.ishr, 1) := by decide +kernel
theorem dJ5_newCapacity_0f7a4_58 : decode cJ5_newCapacity_0f7a4 58 = .ok (.ireturn, 1) := by decide +kernel
theorem dJ5_append_cf1ce_0 : decode cJ5_append_cf1ce 0 = .ok (.aload_n 1, 1) := by decide +kernel
theorem dJ5_append_cf1ce_1 : decode cJ5_append_cf1ce 1 = .ok (.ifnonnull 8, 3) := by decide +kernel
theorem dJ5_append_cf1ce_4 : decode cJ5_append_cf1ce 4 = .ok (.aload_n 0, 1) := by decide +kernel
theorem dJ5_append_cf1ce_5 : decode cJ5_append_cf1ce 5 = .ok (.invokevirtual 204, 3) := by decide +kernel
theorem dJ5_append_cf1ce_8 : decode cJ5_append_cf1ce 8 = .ok (.areturn, 1) := by decide +kernel
theorem dJ5_append_cf1ce_9 : decode cJ5_append_cf1ce 9 = .ok (.aload_n 1, 1) := by decide +kernel
theorem dJ5_append_cf1ce_10 : decode cJ5_append_cf1ce 10 = .ok (.invokevirtual 32, 3) := by decide +kernel
theorem dJ5_append_cf1ce_13 : decode cJ5_append_cf1ce 13 = .ok (.istore_n 2, 1) := by decide +kernel
theorem dJ5_append_cf1ce_14 : decode cJ5_append_cf1ce 14 = .ok (.aload_n 0, 1) := by decide +kernel
theorem dJ5_append_cf1ce_15 : decode cJ5_append_cf1ce 15 = .ok (.aload_n 0, 1) := by decide +kernel
theorem dJ5_append_cf1ce_16 : decode cJ5_append_cf1ce 16 = .ok (.getfield 79, 3) := by decide +kernel
theorem dJ5_append_cf1ce_19 : decode cJ5_append_cf1ce 19 = .ok (.iload_n 2, 1) := by decide +kernel
theorem dJ5_append_cf1ce_20 : decode cJ5_append_cf1ce 20 = .ok (.iadd, 1) := by decide +kernel
theorem dJ5_append_cf1ce_21 : decode cJ5_append_cf1ce 21 = .ok (.invokevirtual 100, 3) := by decide +kernel
theorem dJ5_append_cf1ce_24 : decode cJ5_append_cf1ce 24 = .ok (.aload_n 0, 1) := by decide +kernel
theorem dJ5_append_cf1ce_25 : decode cJ5_append_cf1ce 25 = .ok (.aload_n 0, 1) := by decide +kernel
theorem dJ5_append_cf1ce_26 : decode cJ5_append_cf1ce 26 = .ok (.getfield 79, 3) := by decide +kernel
theorem dJ5_append_cf1ce_29 : decode cJ5_append_cf1ce 29 = .ok (.aload_n 1, 1) := by decide +kernel
theorem dJ5_append_cf1ce_30 : decode cJ5_append_cf1ce 30 = .ok (.invokevirtual 208, 3) := by decide +kernel
theorem dJ5_append_cf1ce_33 : decode cJ5_append_cf1ce 33 = .ok (.aload_n 0, 1) := by decide +kernel
theorem dJ5_append_cf1ce_34 : decode cJ5_append_cf1ce 34 = .ok (.dup, 1) := by decide +kernel
theorem dJ5_append_cf1ce_35 : decode cJ5_append_cf1ce 35 = .ok (.getfield 79, 3) := by decide +kernel
theorem dJ5_append_cf1ce_38 : decode cJ5_append_cf1ce 38 = .ok (.iload_n 2, 1) := by decide +kernel
theorem dJ5_append_cf1ce_39 : decode cJ5_append_cf1ce 39 = .ok (.iadd, 1) := by decide +kernel
theorem dJ5_append_cf1ce_40 : decode cJ5_append_cf1ce 40 = .ok (.putfield 79, 3) := by decide +kernel
theorem dJ5_append_cf1ce_43 : decode cJ5_append_cf1ce 43 = .ok (.aload_n 0, 1) := by decide +kernel
theorem dJ5_append_cf1ce_44 : decode cJ5_append_cf1ce 44 = .ok (.areturn, 1) := by decide +kernel
theorem dJ5_append_c97b9_0 : decode cJ5_append_c97b9 0 = .ok (.aload_n 0, 1) := by decide +kernel
theorem dJ5_append_c97b9_1 : decode cJ5_append_c97b9 1 = .ok (.getfield 79, 3) := by decide +kernel
theorem dJ5_append_c97b9_4 : decode cJ5_append_c97b9 4 = .ok (.istore_n 2, 1) := by decide +kernel
theorem dJ5_append_c97b9_5 : decode cJ5_append_c97b9 5 = .ok (.iload_n 2, 1) := by decide +kernel
theorem dJ5_append_c97b9_6 : decode cJ5_append_c97b9 6 = .ok (.iload_n 1, 1) := by decide +kernel
theorem dJ5_append_c97b9_7 : decode cJ5_append_c97b9 7 = .ok (.invokestatic 245, 3) := by decide +kernel
theorem dJ5_append_c97b9_10 : decode cJ5_append_c97b9 10 = .ok (.iadd, 1) := by decide +kernel
theorem dJ5_append_c97b9_11 : decode cJ5_append_c97b9 11 = .ok (.istore_n 3, 1) := by decide +kernel
theorem dJ5_append_c97b9_12 : decode cJ5_append_c97b9 12 = .ok (.aload_n 0, 1) := by decide +kernel
theorem dJ5_append_c97b9_13 : decode cJ5_append_c97b9 13 = .ok (.iload_n 3, 1) := by decide +kernel
theorem dJ5_append_c97b9_14 : decode cJ5_append_c97b9 14 = .ok (.invokevirtual 100, 3) := by decide +kernel
theorem dJ5_append_c97b9_17 : decode cJ5_append_c97b9 17 = .ok (.aload_n 0, 1) := by decide +kernel
theorem dJ5_append_c97b9_18 : decode cJ5_append_c97b9 18 = .ok (.invokevirtual 83, 3) := by decide +kernel
theorem dJ5_append_c97b9_21 : decode cJ5_append_c97b9 21 = .ok (.ifCond .eq 16, 3) := by decide +kernel
theorem dJ5_append_c97b9_24 : decode cJ5_append_c97b9 24 = .ok (.iload_n 1, 1) := by decide +kernel
theorem dJ5_append_c97b9_25 : decode cJ5_append_c97b9 25 = .ok (.iload_n 3, 1) := by decide +kernel
theorem dJ5_append_c97b9_26 : decode cJ5_append_c97b9 26 = .ok (.aload_n 0, 1) := by decide +kernel
theorem dJ5_append_c97b9_27 : decode cJ5_append_c97b9 27 = .ok (.getfield 15, 3) := by decide +kernel
theorem dJ5_append_c97b9_30 : decode cJ5_append_c97b9 30 = .ok (.invokestatic 248, 3) := by decide +kernel
theorem dJ5_append_c97b9_33 : decode cJ5_append_c97b9 33 = .ok (.pop, 1) := by decide +kernel
theorem dJ5_append_c97b9_34 : decode cJ5_append_c97b9 34 = .ok (.goto 14, 3) := by decide +kernel
theorem dJ5_append_c97b9_37 : decode cJ5_append_c97b9 37 = .ok (.iload_n 1, 1) := by decide +kernel
theorem dJ5_append_c97b9_38 : decode cJ5_append_c97b9 38 = .ok (.iload_n 2, 1) := by decide +kernel
theorem dJ5_append_c97b9_39 : decode cJ5_append_c97b9 39 = .ok (.iload_n 3, 1) := by decide +kernel
theorem dJ5_append_c97b9_40 : decode cJ5_append_c97b9 40 = .ok (.aload_n 0, 1) := by decide +kernel
theorem dJ5_append_c97b9_41 : decode cJ5_append_c97b9 41 = .ok (.getfield 15, 3) := by decide +kernel
theorem dJ5_append_c97b9_44 : decode cJ5_append_c97b9 44 = .ok (.invokestatic 251, 3) := by decide +kernel
theorem dJ5_append_c97b9_47 : decode cJ5_append_c97b9 47 = .ok (.pop, 1) := by decide +kernel
theorem dJ5_append_c97b9_48 : decode cJ5_append_c97b9 48 = .ok (.aload_n 0, 1) := by decide +kernel
theorem dJ5_append_c97b9_49 : decode cJ5_append_c97b9 49 = .ok (.iload_n 3, 1) := by decide +kernel
theorem dJ5_append_c97b9_50 : decode cJ5_append_c97b9 50 = .ok (.putfield 79, 3) := by decide +kernel
theorem dJ5_append_c97b9_53 : decode cJ5_append_c97b9 53 = .ok (.aload_n 0, 1) := by decide +kernel
theorem dJ5_append_c97b9_54 : decode cJ5_append_c97b9 54 = .ok (.areturn, 1) := by decide +kernel
theorem dJ5_getValue_6d5f1_0 : decode cJ5_getValue_6d5f1 0 = .ok (.aload_n 0, 1) := by decide +kernel
theorem dJ5_getValue_6d5f1_1 : decode cJ5_getValue_6d5f1 1 = .ok (.getfield 15, 3) := by decide +kernel
theorem dJ5_getValue_6d5f1_4 : decode cJ5_getValue_6d5f1 4 = .ok (.areturn, 1) := by decide +kernel
theorem dJ5_isLatin1_aae02_0 : decode cJ5_isLatin1_aae02 0 = .ok (.getstatic 18, 3) := by decide +kernel
theorem dJ5_isLatin1_aae02_3 : decode cJ5_isLatin1_aae02 3 = .ok (.ifCond .eq 14, 3) := by decide +kernel
theorem dJ5_isLatin1_aae02_6 : decode cJ5_isLatin1_aae02 6 = .ok (.aload_n 0, 1) := by decide +kernel
theorem dJ5_isLatin1_aae02_7 : decode cJ5_isLatin1_aae02 7 = .ok (.getfield 22, 3) := by decide +kernel
theorem dJ5_isLatin1_aae02_10 : decode cJ5_isLatin1_aae02 10 = .ok (.ifCond .ne 7, 3) := by decide +kernel
theorem dJ5_isLatin1_aae02_13 : decode cJ5_isLatin1_aae02 13 = .ok (.iconst 1, 1) := by decide +kernel
theorem dJ5_isLatin1_aae02_14 : decode cJ5_isLatin1_aae02 14 = .ok (.goto 4, 3) := by decide +kernel
theorem dJ5_isLatin1_aae02_17 : decode cJ5_isLatin1_aae02 17 = .ok (.iconst 0, 1) := by decide +kernel
theorem dJ5_isLatin1_aae02_18 : decode cJ5_isLatin1_aae02 18 = .ok (.ireturn, 1) := by decide +kernel
theorem dJ5_inflateIfNeededFor_a7421_0 : decode cJ5_inflateIfNeededFor_a7421 0 = .ok (.getstatic 18, 3) := by decide +kernel
theorem dJ5_inflateIfNeededFor_a7421_3 : decode cJ5_inflateIfNeededFor_a7421 3 = .ok (.ifCond .eq 18, 3) := by decide +kernel
theorem dJ5_inflateIfNeededFor_a7421_6 : decode cJ5_inflateIfNeededFor_a7421 6 = .ok (.aload_n 0, 1) := by decide +kernel
theorem dJ5_inflateIfNeededFor_a7421_7 : decode cJ5_inflateIfNeededFor_a7421 7 = .ok (.getfield 22, 3) := by decide +kernel
theorem dJ5_inflateIfNeededFor_a7421_10 : decode cJ5_inflateIfNeededFor_a7421 10 = .ok (.aload_n 1, 1) := by decide +kernel
theorem dJ5_inflateIfNeededFor_a7421_11 : decode cJ5_inflateIfNeededFor_a7421 11 = .ok (.invokevirtual 40, 3) := by decide +kernel
theorem dJ5_inflateIfNeededFor_a7421_14 : decode cJ5_inflateIfNeededFor_a7421 14 = .ok (.if_icmp .eq 7, 3) := by decide +kernel
theorem dJ5_inflateIfNeededFor_a7421_17 : decode cJ5_inflateIfNeededFor_a7421 17 = .ok (.aload_n 0, 1) := by decide +kernel
theorem dJ5_inflateIfNeededFor_a7421_18 : decode cJ5_inflateIfNeededFor_a7421 18 = .ok (.invokevirtual 195, 3) := by decide +kernel
theorem dJ5_inflateIfNeededFor_a7421_21 : decode cJ5_inflateIfNeededFor_a7421 21 = .ok (.return_, 1) := by decide +kernel
theorem dJ5_putStringAt_47b60_0 : decode cJ5_putStringAt_47b60 0 = .ok (.aload_n 0, 1) := by decide +kernel
theorem dJ5_putStringAt_47b60_1 : decode cJ5_putStringAt_47b60 1 = .ok (.aload_n 2, 1) := by decide +kernel
theorem dJ5_putStringAt_47b60_2 : decode cJ5_putStringAt_47b60 2 = .ok (.invokevirtual 397, 3) := by decide +kernel
theorem dJ5_putStringAt_47b60_5 : decode cJ5_putStringAt_47b60 5 = .ok (.aload_n 2, 1) := by decide +kernel
theorem dJ5_putStringAt_47b60_6 : decode cJ5_putStringAt_47b60 6 = .ok (.aload_n 0, 1) := by decide +kernel
theorem dJ5_putStringAt_47b60_7 : decode cJ5_putStringAt_47b60 7 = .ok (.getfield 15, 3) := by decide +kernel
theorem dJ5_putStringAt_47b60_10 : decode cJ5_putStringAt_47b60 10 = .ok (.iload_n 1, 1) := by decide +kernel
theorem dJ5_putStringAt_47b60_11 : decode cJ5_putStringAt_47b60 11 = .ok (.aload_n 0, 1) := by decide +kernel
theorem dJ5_putStringAt_47b60_12 : decode cJ5_putStringAt_47b60 12 = .ok (.getfield 22, 3) := by decide +kernel
theorem dJ5_putStringAt_47b60_15 : decode cJ5_putStringAt_47b60 15 = .ok (.invokevirtual 399, 3) := by decide +kernel
theorem dJ5_putStringAt_47b60_18 : decode cJ5_putStringAt_47b60 18 = .ok (.return_, 1) := by decide +kernel
theorem dJ6_getChars_ba4f3_0 : decode cJ6_getChars_ba4f3 0 = .ok (.iload_n 1, 1) := by decide +kernel
theorem dJ6_getChars_ba4f3_1 : decode cJ6_getChars_ba4f3 1 = .ok (.istore 5, 2) := by decide +kernel
theorem dJ6_getChars_ba4f3_3 : decode cJ6_getChars_ba4f3 3 = .ok (.iload_n 0, 1) := by decide +kernel
theorem dJ6_getChars_ba4f3_4 : decode cJ6_getChars_ba4f3 4 = .ok (.ifCond .ge 7, 3) := by decide +kernel
theorem dJ6_getChars_ba4f3_7 : decode cJ6_getChars_ba4f3 7 = .ok (.iconst 1, 1) := by decide +kernel
theorem dJ6_getChars_ba4f3_8 : decode cJ6_getChars_ba4f3 8 = .ok (.goto 4, 3) := by decide +kernel
theorem dJ6_getChars_ba4f3_11 : decode cJ6_getChars_ba4f3 11 = .ok (.iconst 0, 1) := by decide +kernel
theorem dJ6_getChars_ba4f3_12 : decode cJ6_getChars_ba4f3 12 = .ok (.istore 6, 2) := by decide +kernel
theorem dJ6_getChars_ba4f3_14 : decode cJ6_getChars_ba4f3 14 = .ok (.iload 6, 2) := by decide +kernel
theorem dJ6_getChars_ba4f3_16 : decode cJ6_getChars_ba4f3 16 = .ok (.ifCond .ne 6, 3) := by decide +kernel
theorem dJ6_getChars_ba4f3_19 : decode cJ6_getChars_ba4f3 19 = .ok (.iload_n 0, 1) := by decide +kernel
theorem dJ6_getChars_ba4f3_20 : decode cJ6_getChars_ba4f3 20 = .ok (.ineg, 1) := by decide +kernel
theorem dJ6_getChars_ba4f3_21 : decode cJ6_getChars_ba4f3 21 = .ok (.istore_n 0, 1) := by decide +kernel
theorem dJ6_getChars_ba4f3_22 : decode cJ6_getChars_ba4f3 22 = .ok (.iload_n 0, 1) := by decide +kernel
theorem dJ6_getChars_ba4f3_23 : decode cJ6_getChars_ba4f3 23 = .ok (.bipush (-100), 2) := by decide +kernel
theorem dJ6_getChars_ba4f3_25 : decode cJ6_getChars_ba4f3 25 = .ok (.if_icmp .gt 47, 3) := by decide +kernel
theorem dJ6_getChars_ba4f3_28 : decode cJ6_getChars_ba4f3 28 = .ok (.iload_n 0, 1) := by decide +kernel
theorem dJ6_getChars_ba4f3_29 : decode cJ6_getChars_ba4f3 29 = .ok (.bipush 100, 2) := by decide +kernel
theorem dJ6_getChars_ba4f3_31 : decode cJ6_getChars_ba4f3 31 = .ok (.idiv, 1) := by decide +kernel
theorem dJ6_getChars_ba4f3_32 : decode cJ6_getChars_ba4f3 32 = .ok (.istore_n 3, 1) := by decide +kernel
theorem dJ6_getChars_ba4f3_33 : decode cJ6_getChars_ba4f3 33 = .ok (.iload_n 3, 1) := by decide +kernel
theorem dJ6_getChars_ba4f3_34 : decode cJ6_getChars_ba4f3 34 = .ok (.bipush 100, 2) := by decide +kernel
theorem dJ6_getChars_ba4f3_36 : decode cJ6_getChars_ba4f3 36 = .ok (.imul, 1) := by decide +kernel
theorem dJ6_getChars_ba4f3_37 : decode cJ6_getChars_ba4f3 37 = .ok (.iload_n 0, 1) := by decide +kernel
theorem dJ6_getChars_ba4f3_38 : decode cJ6_getChars_ba4f3 38 = .ok (.isub, 1) := by decide +kernel
theorem dJ6_getChars_ba4f3_39 : decode cJ6_getChars_ba4f3 39 = .ok (.istore 4, 2) := by decide +kernel
theorem dJ6_getChars_ba4f3_41 : decode cJ6_getChars_ba4f3 41 = .ok (.iload_n 3, 1) := by decide +kernel
theorem dJ6_getChars_ba4f3_42 : decode cJ6_getChars_ba4f3 42 = .ok (.istore_n 0, 1) := by decide +kernel
theorem dJ6_getChars_ba4f3_43 : decode cJ6_getChars_ba4f3 43 = .ok (.aload_n 2, 1) := by decide +kernel
theorem dJ6_getChars_ba4f3_44 : decode cJ6_getChars_ba4f3 44 = .ok (.iinc 5 (-1), 3) := by decide +kernel
theorem dJ6_getChars_ba4f3_47 : decode cJ6_getChars_ba4f3 47 = .ok (.iload 5, 2) := by decide +kernel
theorem dJ6_getChars_ba4f3_49 : decode cJ6_getChars_ba4f3 49 = .ok (.getstatic 83, 3) := by decide +kernel
theorem dJ6_getChars_ba4f3_52 : decode cJ6_getChars_ba4f3 52 = .ok (.iload 4, 2) := by decide +kernel
theorem dJ6_getChars_ba4f3_54 : decode cJ6_getChars_ba4f3 54 = .ok (.baload, 1) := by decide +kernel
theorem dJ6_getChars_ba4f3_55 : decode cJ6_getChars_ba4f3 55 = .ok (.bastore, 1) := by decide +kernel
theorem dJ6_getChars_ba4f3_56 : decode cJ6_getChars_ba4f3 56 = .ok (.aload_n 2, 1) := by decide +kernel
theorem dJ6_getChars_ba4f3_57 : decode cJ6_getChars_ba4f3 57 = .ok (.iinc 5 (-1), 3) := by decide +kernel
theorem dJ6_getChars_ba4f3_60 : decode cJ6_getChars_ba4f3 60 = .ok (.iload 5, 2) := by decide +kernel
theorem dJ6_getChars_ba4f3_62 : decode cJ6_getChars_ba4f3 62 = .ok (.getstatic 87, 3) := by decide +kernel
theorem dJ6_getChars_ba4f3_65 : decode cJ6_getChars_ba4f3 65 = .ok (.iload 4, 2) := by decide +kernel
theorem dJ6_getChars_ba4f3_67 : decode cJ6_getChars_ba4f3 67 = .ok (.baload, 1) := by decide +kernel
theorem dJ6_getChars_ba4f3_68 : decode cJ6_getChars_ba4f3 68 = .ok (.bastore, 1) := by decide +kernel
theorem dJ6_getChars_ba4f3_69 : decode cJ6_getChars_ba4f3 69 = .ok (.goto (-47), 3) := by decide +kernel
theorem dJ6_getChars_ba4f3_72 : decode cJ6_getChars_ba4f3 72 = .ok (.aload_n 2, 1) := by decide +kernel
theorem dJ6_getChars_ba4f3_73 : decode cJ6_getChars_ba4f3 73 = .ok (.iinc 5 (-1), 3) := by decide +kernel
theorem dJ6_getChars_ba4f3_76 : decode cJ6_getChars_ba4f3 76 = .ok (.iload 5, 2) := by decide +kernel
theorem dJ6_getChars_ba4f3_78 : decode cJ6_getChars_ba4f3 78 = .ok (.getstatic 83, 3) := by decide +kernel
theorem dJ6_getChars_ba4f3_81 : decode cJ6_getChars_ba4f3 81 = .ok (.iload_n 0, 1) := by decide +kernel
theorem dJ6_getChars_ba4f3_82 : decode cJ6_getChars_ba4f3 82 = .ok (.ineg, 1) := by decide +kernel
theorem dJ6_getChars_ba4f3_83 : decode cJ6_getChars_ba4f3 83 = .ok (.baload, 1) := by decide +kernel
theorem dJ6_getChars_ba4f3_84 : decode cJ6_getChars_ba4f3 84 = .ok (.bastore, 1) := by decide +kernel
theorem dJ6_getChars_ba4f3_85 : decode cJ6_getChars_ba4f3 85 = .ok (.iload_n 0, 1) := by decide +kernel
theorem dJ6_getChars_ba4f3_86 : decode cJ6_getChars_ba4f3 86 = .ok (.bipush (-9), 2) := by decide +kernel
theorem dJ6_getChars_ba4f3_88 : decode cJ6_getChars_ba4f3 88 = .ok (.if_icmp .ge 16, 3) := by decide +kernel
theorem dJ6_getChars_ba4f3_91 : decode cJ6_getChars_ba4f3 91 = .ok (.aload_n 2, 1) := by decide +kernel
theorem dJ6_getChars_ba4f3_92 : decode cJ6_getChars_ba4f3 92 = .ok (.iinc 5 (-1), 3) := by decide +kernel
theorem dJ6_getChars_ba4f3_95 : decode cJ6_getChars_ba4f3 95 = .ok (.iload 5, 2) := by decide +kernel
theorem dJ6_getChars_ba4f3_97 : decode cJ6_getChars_ba4f3 97 = .ok (.getstatic 87, 3) := by decide +kernel
theorem dJ6_getChars_ba4f3_100 : decode cJ6_getChars_ba4f3 100 = .ok (.iload_n 0, 1) := by decide +kernel
theorem dJ6_getChars_ba4f3_101 : decode cJ6_getChars_ba4f3 101 = .ok (.ineg, 1) := by decide +kernel
theorem dJ6_getChars_ba4f3_102 : decode cJ6_getChars_ba4f3 102 = .ok (.baload, 1) := by decide +kernel
theorem dJ6_getChars_ba4f3_103 : decode cJ6_getChars_ba4f3 103 = .ok (.bastore, 1) := by decide +kernel
theorem dJ6_getChars_ba4f3_104 : decode cJ6_getChars_ba4f3 104 = .ok (.iload 6, 2) := by decide +kernel
theorem dJ6_getChars_ba4f3_106 : decode cJ6_getChars_ba4f3 106 = .ok (.ifCond .eq 12, 3) := by decide +kernel
theorem dJ6_getChars_ba4f3_109 : decode cJ6_getChars_ba4f3 109 = .ok (.aload_n 2, 1) := by decide +kernel
theorem dJ6_getChars_ba4f3_110 : decode cJ6_getChars_ba4f3 110 = .ok (.iinc 5 (-1), 3) := by decide +kernel
theorem dJ6_getChars_ba4f3_113 : decode cJ6_getChars_ba4f3 113 = .ok (.iload 5, 2) := by decide +kernel
theorem dJ6_getChars_ba4f3_115 : decode cJ6_getChars_ba4f3 115 = .ok (.bipush 45, 2) := by decide +kernel
theorem dJ6_getChars_ba4f3_117 : decode cJ6_getChars_ba4f3 117 = .ok (.bastore, 1) := by decide +kernel
theorem dJ6_getChars_ba4f3_118 : decode cJ6_getChars_ba4f3 118 = .ok (.iload 5, 2) := by decide +kernel
theorem dJ6_getChars_ba4f3_120 : decode cJ6_getChars_ba4f3 120 = .ok (.ireturn, 1) := by decide +kernel
theorem dJ6_stringSize_0f7a4_0 : decode cJ6_stringSize_0f7a4 0 = .ok (.iconst 1, 1) := by decide +kernel
theorem dJ6_stringSize_0f7a4_1 : decode cJ6_stringSize_0f7a4 1 = .ok (.istore_n 1, 1) := by decide +kernel
theorem dJ6_stringSize_0f7a4_2 : decode cJ6_stringSize_0f7a4 2 = .ok (.iload_n 0, 1) := by decide +kernel
theorem dJ6_stringSize_0f7a4_3 : decode cJ6_stringSize_0f7a4 3 = .ok (.ifCond .lt 8, 3) := by decide +kernel
theorem dJ6_stringSize_0f7a4_6 : decode cJ6_stringSize_0f7a4 6 = .ok (.iconst 0, 1) := by decide +kernel
theorem dJ6_stringSize_0f7a4_7 : decode cJ6_stringSize_0f7a4 7 = .ok (.istore_n 1, 1) := by decide +kernel
theorem dJ6_stringSize_0f7a4_8 : decode cJ6_stringSize_0f7a4 8 = .ok (.iload_n 0, 1) := by decide +kernel
theorem dJ6_stringSize_0f7a4_9 : decode cJ6_stringSize_0f7a4 9 = .ok (.ineg, 1) := by decide +kernel
theorem dJ6_stringSize_0f7a4_10 : decode cJ6_stringSize_0f7a4 10 = .ok (.istore_n 0, 1) := by decide +kernel
theorem dJ6_stringSize_0f7a4_11 : decode cJ6_stringSize_0f7a4 11 = .ok (.bipush (-10), 2) := by decide +kernel
theorem dJ6_stringSize_0f7a4_13 : decode cJ6_stringSize_0f7a4 13 = .ok (.istore_n 2, 1) := by decide +kernel
theorem dJ6_stringSize_0f7a4_14 : decode cJ6_stringSize_0f7a4 14 = .ok (.iconst 1, 1) := by decide +kernel
theorem dJ6_stringSize_0f7a4_15 : decode cJ6_stringSize_0f7a4 15 = .ok (.istore_n 3, 1) := by decide +kernel
theorem dJ6_stringSize_0f7a4_16 : decode cJ6_stringSize_0f7a4 16 = .ok (.iload_n 3, 1) := by decide +kernel
theorem dJ6_stringSize_0f7a4_17 : decode cJ6_stringSize_0f7a4 17 = .ok (.bipush 10, 2) := by decide +kernel
theorem dJ6_stringSize_0f7a4_19 : decode cJ6_stringSize_0f7a4 19 = .ok (.if_icmp .ge 23, 3) := by decide +kernel
theorem dJ6_stringSize_0f7a4_22 : decode cJ6_stringSize_0f7a4 22 = .ok (.iload_n 0, 1) := by decide +kernel
theorem dJ6_stringSize_0f7a4_23 : decode cJ6_stringSize_0f7a4 23 = .ok (.iload_n 2, 1) := by decide +kernel
theorem dJ6_stringSize_0f7a4_24 : decode cJ6_stringSize_0f7a4 24 = .ok (.if_icmp .le 7, 3) := by decide +kernel
theorem dJ6_stringSize_0f7a4_27 : decode cJ6_stringSize_0f7a4 27 = .ok (.iload_n 3, 1) := by decide +kernel
theorem dJ6_stringSize_0f7a4_28 : decode cJ6_stringSize_0f7a4 28 = .ok (.iload_n 1, 1) := by decide +kernel
theorem dJ6_stringSize_0f7a4_29 : decode cJ6_stringSize_0f7a4 29 = .ok (.iadd, 1) := by decide +kernel
theorem dJ6_stringSize_0f7a4_30 : decode cJ6_stringSize_0f7a4 30 = .ok (.ireturn, 1) := by decide +kernel
theorem dJ6_stringSize_0f7a4_31 : decode cJ6_stringSize_0f7a4 31 = .ok (.bipush 10, 2) := by decide +kernel
theorem dJ6_stringSize_0f7a4_33 : decode cJ6_stringSize_0f7a4 33 = .ok (.iload_n 2, 1) := by decide +kernel
theorem dJ6_stringSize_0f7a4_34 : decode cJ6_stringSize_0f7a4 34 = .ok (.imul, 1) := by decide +kernel
theorem dJ6_stringSize_0f7a4_35 : decode cJ6_stringSize_0f7a4 35 = .ok (.istore_n 2, 1) := by decide +kernel
theorem dJ6_stringSize_0f7a4_36 : decode cJ6_stringSize_0f7a4 36 = .ok (.iinc 3 1, 3) := by decide +kernel
theorem dJ6_stringSize_0f7a4_39 : decode cJ6_stringSize_0f7a4 39 = .ok (.goto (-23), 3) := by decide +kernel
theorem dJ6_stringSize_0f7a4_42 : decode cJ6_stringSize_0f7a4 42 = .ok (.bipush 10, 2) := by decide +kernel
theorem dJ6_stringSize_0f7a4_44 : decode cJ6_stringSize_0f7a4 44 = .ok (.iload_n 1, 1) := by decide +kernel
theorem dJ6_stringSize_0f7a4_45 : decode cJ6_stringSize_0f7a4 45 = .ok (.iadd, 1) := by decide +kernel
theorem dJ6_stringSize_0f7a4_46 : decode cJ6_stringSize_0f7a4 46 = .ok (.ireturn, 1) := by decide +kernel
theorem dJ9_floorMod_7cf53_0 : decode cJ9_floorMod_7cf53 0 = .ok (.iload_n 0, 1) := by decide +kernel
theorem dJ9_floorMod_7cf53_1 : decode cJ9_floorMod_7cf53 1 = .ok (.iload_n 1, 1) := by decide +kernel
theorem dJ9_floorMod_7cf53_2 : decode cJ9_floorMod_7cf53 2 = .ok (.irem, 1) := by decide +kernel
theorem dJ9_floorMod_7cf53_3 : decode cJ9_floorMod_7cf53 3 = .ok (.istore_n 2, 1) := by decide +kernel
theorem dJ9_floorMod_7cf53_4 : decode cJ9_floorMod_7cf53 4 = .ok (.iload_n 0, 1) := by decide +kernel
theorem dJ9_floorMod_7cf53_5 : decode cJ9_floorMod_7cf53 5 = .ok (.iload_n 1, 1) := by decide +kernel
theorem dJ9_floorMod_7cf53_6 : decode cJ9_floorMod_7cf53 6 = .ok (.ixor, 1) := by decide +kernel
theorem dJ9_floorMod_7cf53_7 : decode cJ9_floorMod_7cf53 7 = .ok (.ifCond .ge 11, 3) := by decide +kernel
theorem dJ9_floorMod_7cf53_10 : decode cJ9_floorMod_7cf53 10 = .ok (.iload_n 2, 1) := by decide +kernel
theorem dJ9_floorMod_7cf53_11 : decode cJ9_floorMod_7cf53 11 = .ok (.ifCond .eq 7, 3) := by decide +kernel
theorem dJ9_floorMod_7cf53_14 : decode cJ9_floorMod_7cf53 14 = .ok (.iload_n 2, 1) := by decide +kernel
theorem dJ9_floorMod_7cf53_15 : decode cJ9_floorMod_7cf53 15 = .ok (.iload_n 1, 1) := by decide +kernel
theorem dJ9_floorMod_7cf53_16 : decode cJ9_floorMod_7cf53 16 = .ok (.iadd, 1) := by decide +kernel
theorem dJ9_floorMod_7cf53_17 : decode cJ9_floorMod_7cf53 17 = .ok (.ireturn, 1) := by decide +kernel
theorem dJ9_floorMod_7cf53_18 : decode cJ9_floorMod_7cf53 18 = .ok (.iload_n 2, 1) := by decide +kernel
theorem dJ9_floorMod_7cf53_19 : decode cJ9_floorMod_7cf53 19 = .ok (.ireturn, 1) := by decide +kernel
theorem dJ0_init_81219_0 : decode cJ0_init_81219 0 = .ok (.aload_n 0, 1) := by decide +kernel
theorem dJ0_init_81219_1 : decode cJ0_init_81219 1 = .ok (.aload_n 1, 1) := by decide +kernel
theorem dJ0_init_81219_2 : decode cJ0_init_81219 2 = .ok (.aconst_null, 1) := by decide +kernel
theorem dJ0_init_81219_3 : decode cJ0_init_81219 3 = .ok (.invokespecial 489, 3) := by decide +kernel
theorem dJ0_init_81219_6 : decode cJ0_init_81219 6 = .ok (.return_, 1) := by decide +kernel
theorem dJ0_length_8abf5_0 : decode cJ0_length_8abf5 0 = .ok (.aload_n 0, 1) := by decide +kernel
theorem dJ0_length_8abf5_1 : decode cJ0_length_8abf5 1 = .ok (.getfield 9, 3) := by decide +kernel
theorem dJ0_length_8abf5_4 : decode cJ0_length_8abf5 4 = .ok (.arraylength, 1) := by decide +kernel
theorem dJ0_length_8abf5_5 : decode cJ0_length_8abf5 5 = .ok (.aload_n 0, 1) := by decide +kernel
theorem dJ0_length_8abf5_6 : decode cJ0_length_8abf5 6 = .ok (.invokevirtual 335, 3) := by decide +kernel
theorem dJ0_length_8abf5_9 : decode cJ0_length_8abf5 9 = .ok (.ishr, 1) := by decide +kernel
theorem dJ0_length_8abf5_10 : decode cJ0_length_8abf5 10 = .ok (.ireturn, 1) := by decide +kernel
theorem dJ0_charAt_5068e_0 : decode cJ0_charAt_5068e 0 = .ok (.aload_n 0, 1) := by decide +kernel
theorem dJ0_charAt_5068e_1 : decode cJ0_charAt_5068e 1 = .ok (.invokevirtual 492, 3) := by decide +kernel
theorem dJ0_charAt_5068e_4 : decode cJ0_charAt_5068e 4 = .ok (.ifCond .eq 12, 3) := by decide +kernel
theorem dJ0_charAt_5068e_7 : decode cJ0_charAt_5068e 7 = .ok (.aload_n 0, 1) := by decide +kernel
theorem dJ0_charAt_5068e_8 : decode cJ0_charAt_5068e 8 = .ok (.getfield 9, 3) := by decide +kernel
theorem dJ0_charAt_5068e_11 : decode cJ0_charAt_5068e 11 = .ok (.iload_n 1, 1) := by decide +kernel
theorem dJ0_charAt_5068e_12 : decode cJ0_charAt_5068e 12 = .ok (.invokestatic 495, 3) := by decide +kernel
theorem dJ0_charAt_5068e_15 : decode cJ0_charAt_5068e 15 = .ok (.ireturn, 1) := by decide +kernel
theorem dJ0_charAt_5068e_16 : decode cJ0_charAt_5068e 16 = .ok (.aload_n 0, 1) := by decide +kernel
theorem dJ0_charAt_5068e_17 : decode cJ0_charAt_5068e 17 = .ok (.getfield 9, 3) := by decide +kernel
theorem dJ0_charAt_5068e_20 : decode cJ0_charAt_5068e 20 = .ok (.iload_n 1, 1) := by decide +kernel
theorem dJ0_charAt_5068e_21 : decode cJ0_charAt_5068e 21 = .ok (.invokestatic 498, 3) := by decide +kernel
theorem dJ0_charAt_5068e_24 : decode cJ0_charAt_5068e 24 = .ok (.ireturn, 1) := by decide +kernel
theorem dJ0_getBytes_840e7_0 : decode cJ0_getBytes_840e7 0 = .ok (.aload_n 0, 1) := by decide +kernel
theorem dJ0_getBytes_840e7_1 : decode cJ0_getBytes_840e7 1 = .ok (.invokevirtual 335, 3) := by decide +kernel
theorem dJ0_getBytes_840e7_4 : decode cJ0_getBytes_840e7 4 = .ok (.iload_n 3, 1) := by decide +kernel
theorem dJ0_getBytes_840e7_5 : decode cJ0_getBytes_840e7 5 = .ok (.if_icmp .ne 23, 3) := by decide +kernel
theorem dJ0_getBytes_840e7_8 : decode cJ0_getBytes_840e7 8 = .ok (.aload_n 0, 1) := by decide +kernel
theorem dJ0_getBytes_840e7_9 : decode cJ0_getBytes_840e7 9 = .ok (.getfield 9, 3) := by decide +kernel
theorem dJ0_getBytes_840e7_12 : decode cJ0_getBytes_840e7 12 = .ok (.iconst 0, 1) := by decide +kernel
theorem dJ0_getBytes_840e7_13 : decode cJ0_getBytes_840e7 13 = .ok (.aload_n 1, 1) := by decide +kernel
theorem dJ0_getBytes_840e7_14 : decode cJ0_getBytes_840e7 14 = .ok (.iload_n 2, 1) := by decide +kernel
theorem dJ0_getBytes_840e7_15 : decode cJ0_getBytes_840e7 15 = .ok (.iload_n 3, 1) := by decide +kernel
theorem dJ0_getBytes_840e7_16 : decode cJ0_getBytes_840e7 16 = .ok (.ishl, 1) := by decide +kernel
theorem dJ0_getBytes_840e7_17 : decode cJ0_getBytes_840e7 17 = .ok (.aload_n 0, 1) := by decide +kernel
theorem dJ0_getBytes_840e7_18 : decode cJ0_getBytes_840e7 18 = .ok (.getfield 9, 3) := by decide +kernel
theorem dJ0_getBytes_840e7_21 : decode cJ0_getBytes_840e7 21 = .ok (.arraylength, 1) := by decide +kernel
theorem dJ0_getBytes_840e7_22 : decode cJ0_getBytes_840e7 22 = .ok (.invokestatic 212, 3) := by decide +kernel
theorem dJ0_getBytes_840e7_25 : decode cJ0_getBytes_840e7 25 = .ok (.goto 18, 3) := by decide +kernel
theorem dJ0_getBytes_840e7_28 : decode cJ0_getBytes_840e7 28 = .ok (.aload_n 0, 1) := by decide +kernel
theorem dJ0_getBytes_840e7_29 : decode cJ0_getBytes_840e7 29 = .ok (.getfield 9, 3) := by decide +kernel
theorem dJ0_getBytes_840e7_32 : decode cJ0_getBytes_840e7 32 = .ok (.iconst 0, 1) := by decide +kernel
theorem dJ0_getBytes_840e7_33 : decode cJ0_getBytes_840e7 33 = .ok (.aload_n 1, 1) := by decide +kernel
theorem dJ0_getBytes_840e7_34 : decode cJ0_getBytes_840e7 34 = .ok (.iload_n 2, 1) := by decide +kernel
theorem dJ0_getBytes_840e7_35 : decode cJ0_getBytes_840e7 35 = .ok (.aload_n 0, 1) := by decide +kernel
theorem dJ0_getBytes_840e7_36 : decode cJ0_getBytes_840e7 36 = .ok (.getfield 9, 3) := by decide +kernel
theorem dJ0_getBytes_840e7_39 : decode cJ0_getBytes_840e7 39 = .ok (.arraylength, 1) := by decide +kernel
theorem dJ0_getBytes_840e7_40 : decode cJ0_getBytes_840e7 40 = .ok (.invokestatic 106, 3) := by decide +kernel
theorem dJ0_getBytes_840e7_43 : decode cJ0_getBytes_840e7 43 = .ok (.return_, 1) := by decide +kernel
theorem dJ0_init_db425_0 : decode cJ0_init_db425 0 = .ok (.aload_n 0, 1) := by decide +kernel
theorem dJ0_init_db425_1 : decode cJ0_init_db425 1 = .ok (.invokespecial 1, 3) := by decide +kernel
theorem dJ0_init_db425_4 : decode cJ0_init_db425 4 = .ok (.aload_n 1, 1) := by decide +kernel
theorem dJ0_init_db425_5 : decode cJ0_init_db425 5 = .ok (.invokevirtual 552, 3) := by decide +kernel
theorem dJ0_init_db425_8 : decode cJ0_init_db425 8 = .ok (.astore_n 3, 1) := by decide +kernel
theorem dJ0_init_db425_9 : decode cJ0_init_db425 9 = .ok (.aload_n 1, 1) := by decide +kernel
theorem dJ0_init_db425_10 : decode cJ0_init_db425 10 = .ok (.invokevirtual 549, 3) := by decide +kernel
theorem dJ0_init_db425_13 : decode cJ0_init_db425 13 = .ok (.istore 4, 2) := by decide +kernel
theorem dJ0_init_db425_15 : decode cJ0_init_db425 15 = .ok (.aload_n 1, 1) := by decide +kernel
theorem dJ0_init_db425_16 : decode cJ0_init_db425 16 = .ok (.invokevirtual 1047, 3) := by decide +kernel
theorem dJ0_init_db425_19 : decode cJ0_init_db425 19 = .ok (.ifCond .eq 22, 3) := by decide +kernel
theorem dJ0_init_db425_22 : decode cJ0_init_db425 22 = .ok (.aload_n 0, 1) := by decide +kernel
theorem dJ0_init_db425_23 : decode cJ0_init_db425 23 = .ok (.iconst 0, 1) := by decide +kernel
theorem dJ0_init_db425_24 : decode cJ0_init_db425 24 = .ok (.putfield 15, 3) := by decide +kernel
theorem dJ0_init_db425_27 : decode cJ0_init_db425 27 = .ok (.aload_n 0, 1) := by decide +kernel
theorem dJ0_init_db425_28 : decode cJ0_init_db425 28 = .ok (.aload_n 3, 1) := by decide +kernel
theorem dJ0_init_db425_29 : decode cJ0_init_db425 29 = .ok (.iconst 0, 1) := by decide +kernel
theorem dJ0_init_db425_30 : decode cJ0_init_db425 30 = .ok (.iload 4, 2) := by decide +kernel
theorem dJ0_init_db425_32 : decode cJ0_init_db425 32 = .ok (.invokestatic 54, 3) := by decide +kernel
theorem dJ0_init_db425_35 : decode cJ0_init_db425 35 = .ok (.putfield 9, 3) := by decide +kernel
theorem dJ0_init_db425_38 : decode cJ0_init_db425 38 = .ok (.goto 59, 3) := by decide +kernel
theorem dJ0_init_db425_41 : decode cJ0_init_db425 41 = .ok (.getstatic 38, 3) := by decide +kernel
theorem dJ0_init_db425_44 : decode cJ0_init_db425 44 = .ok (.ifCond .eq 35, 3) := by decide +kernel
theorem dJ0_init_db425_47 : decode cJ0_init_db425 47 = .ok (.aload_n 1, 1) := by decide +kernel
theorem dJ0_init_db425_48 : decode cJ0_init_db425 48 = .ok (.getfield 1048, 3) := by decide +kernel
theorem dJ0_init_db425_51 : decode cJ0_init_db425 51 = .ok (.ifCond .eq 28, 3) := by decide +kernel
theorem dJ0_init_db425_54 : decode cJ0_init_db425 54 = .ok (.aload_n 0, 1) := by decide +kernel
theorem dJ0_init_db425_55 : decode cJ0_init_db425 55 = .ok (.aload_n 3, 1) := by decide +kernel
theorem dJ0_init_db425_56 : decode cJ0_init_db425 56 = .ok (.iconst 0, 1) := by decide +kernel
theorem dJ0_init_db425_57 : decode cJ0_init_db425 57 = .ok (.iload 4, 2) := by decide +kernel
theorem dJ0_init_db425_59 : decode cJ0_init_db425 59 = .ok (.invokestatic 1051, 3) := by decide +kernel
theorem dJ0_init_db425_62 : decode cJ0_init_db425 62 = .ok (.putfield 9, 3) := by decide +kernel
theorem dJ0_init_db425_65 : decode cJ0_init_db425 65 = .ok (.aload_n 0, 1) := by decide +kernel
theorem dJ0_init_db425_66 : decode cJ0_init_db425 66 = .ok (.aload_n 0, 1) := by decide +kernel
theorem dJ0_init_db425_67 : decode cJ0_init_db425 67 = .ok (.getfield 9, 3) := by decide +kernel
theorem dJ0_init_db425_70 : decode cJ0_init_db425 70 = .ok (.iload 4, 2) := by decide +kernel
theorem dJ0_init_db425_72 : decode cJ0_init_db425 72 = .ok (.invokestatic 47, 3) := by decide +kernel
theorem dJ0_init_db425_75 : decode cJ0_init_db425 75 = .ok (.putfield 15, 3) := by decide +kernel
theorem dJ0_init_db425_78 : decode cJ0_init_db425 78 = .ok (.return_, 1) := by decide +kernel
theorem dJ0_init_db425_79 : decode cJ0_init_db425 79 = .ok (.aload_n 0, 1) := by decide +kernel
theorem dJ0_init_db425_80 : decode cJ0_init_db425 80 = .ok (.iconst 1, 1) := by decide +kernel
theorem dJ0_init_db425_81 : decode cJ0_init_db425 81 = .ok (.putfield 15, 3) := by decide +kernel
theorem dJ0_init_db425_84 : decode cJ0_init_db425 84 = .ok (.aload_n 0, 1) := by decide +kernel
theorem dJ0_init_db425_85 : decode cJ0_init_db425 85 = .ok (.aload_n 3, 1) := by decide +kernel
theorem dJ0_init_db425_86 : decode cJ0_init_db425 86 = .ok (.iconst 0, 1) := by decide +kernel
theorem dJ0_init_db425_87 : decode cJ0_init_db425 87 = .ok (.iload 4, 2) := by decide +kernel
theorem dJ0_init_db425_89 : decode cJ0_init_db425 89 = .ok (.iconst 1, 1) := by decide +kernel
theorem dJ0_init_db425_90 : decode cJ0_init_db425 90 = .ok (.ishl, 1) := by decide +kernel
theorem dJ0_init_db425_91 : decode cJ0_init_db425 91 = .ok (.invokestatic 54, 3) := by decide +kernel
theorem dJ0_init_db425_94 : decode cJ0_init_db425 94 = .ok (.putfield 9, 3) := by decide +kernel
theorem dJ0_init_db425_97 : decode cJ0_init_db425 97 = .ok (.return_, 1) := by decide +kernel
theorem dJ0_coder_7d493_0 : decode cJ0_coder_7d493 0 = .ok (.getstatic 38, 3) := by decide +kernel
theorem dJ0_coder_7d493_3 : decode cJ0_coder_7d493 3 = .ok (.ifCond .eq 10, 3) := by decide +kernel
theorem dJ0_coder_7d493_6 : decode cJ0_coder_7d493 6 = .ok (.aload_n 0, 1) := by decide +kernel
theorem dJ0_coder_7d493_7 : decode cJ0_coder_7d493 7 = .ok (.getfield 15, 3) := by decide +kernel
theorem dJ0_coder_7d493_10 : decode cJ0_coder_7d493 10 = .ok (.goto 4, 3) := by decide +kernel
theorem dJ0_coder_7d493_13 : decode cJ0_coder_7d493 13 = .ok (.iconst 1, 1) := by decide +kernel
theorem dJ0_coder_7d493_14 : decode cJ0_coder_7d493 14 = .ok (.ireturn, 1) := by decide +kernel
theorem dJ0_isLatin1_aae02_0 : decode cJ0_isLatin1_aae02 0 = .ok (.getstatic 38, 3) := by decide +kernel
theorem dJ0_isLatin1_aae02_3 : decode cJ0_isLatin1_aae02 3 = .ok (.ifCond .eq 14, 3) := by decide +kernel
theorem dJ0_isLatin1_aae02_6 : decode cJ0_isLatin1_aae02 6 = .ok (.aload_n 0, 1) := by decide +kernel
theorem dJ0_isLatin1_aae02_7 : decode cJ0_isLatin1_aae02 7 = .ok (.getfield 15, 3) := by decide +kernel
theorem dJ0_isLatin1_aae02_10 : decode cJ0_isLatin1_aae02 10 = .ok (.ifCond .ne 7, 3) := by decide +kernel
theorem dJ0_isLatin1_aae02_13 : decode cJ0_isLatin1_aae02 13 = .ok (.iconst 1, 1) := by decide +kernel
theorem dJ0_isLatin1_aae02_14 : decode cJ0_isLatin1_aae02 14 = .ok (.goto 4, 3) := by decide +kernel
theorem dJ0_isLatin1_aae02_17 : decode cJ0_isLatin1_aae02 17 = .ok (.iconst 0, 1) := by decide +kernel
theorem dJ0_isLatin1_aae02_18 : decode cJ0_isLatin1_aae02 18 = .ok (.ireturn, 1) := by decide +kernel
theorem dJ0_checkIndex_df160_0 : decode cJ0_checkIndex_df160 0 = .ok (.iload_n 0, 1) := by decide +kernel
theorem dJ0_checkIndex_df160_1 : decode cJ0_checkIndex_df160 1 = .ok (.iload_n 1, 1) := by decide +kernel
theorem dJ0_checkIndex_df160_2 : decode cJ0_checkIndex_df160 2 = .ok (.getstatic 1053, 3) := by decide +kernel
theorem dJ0_checkIndex_df160_5 : decode cJ0_checkIndex_df160 5 = .ok (.invokestatic 1059, 3) := by decide +kernel
theorem dJ0_checkIndex_df160_8 : decode cJ0_checkIndex_df160 8 = .ok (.pop, 1) := by decide +kernel
theorem dJ0_checkIndex_df160_9 : decode cJ0_checkIndex_df160 9 = .ok (.return_, 1) := by decide +kernel
theorem dJ4_init_da8c8_0 : decode cJ4_init_da8c8 0 = .ok (.aload_n 0, 1) := by decide +kernel
theorem dJ4_init_da8c8_1 : decode cJ4_init_da8c8 1 = .ok (.bipush 16, 2) := by decide +kernel
theorem dJ4_init_da8c8_3 : decode cJ4_init_da8c8 3 = .ok (.invokespecial 1, 3) := by decide +kernel
theorem dJ4_init_da8c8_6 : decode cJ4_init_da8c8 6 = .ok (.return_, 1) := by decide +kernel
theorem dJ4_append_15ec4_0 : decode cJ4_append_15ec4 0 = .ok (.aload_n 0, 1) := by decide +kernel
theorem dJ4_append_15ec4_1 : decode cJ4_append_15ec4 1 = .ok (.aload_n 1, 1) := by decide +kernel
theorem dJ4_append_15ec4_2 : decode cJ4_append_15ec4 2 = .ok (.invokespecial 29, 3) := by decide +kernel
theorem dJ4_append_15ec4_5 : decode cJ4_append_15ec4 5 = .ok (.pop, 1) := by decide +kernel
theorem dJ4_append_15ec4_6 : decode cJ4_append_15ec4 6 = .ok (.aload_n 0, 1) := by decide +kernel
theorem dJ4_append_15ec4_7 : decode cJ4_append_15ec4 7 = .ok (.areturn, 1) := by decide +kernel
theorem dJ4_append_bf812_0 : decode cJ4_append_bf812 0 = .ok (.aload_n 0, 1) := by decide +kernel
theorem dJ4_append_bf812_1 : decode cJ4_append_bf812 1 = .ok (.iload_n 1, 1) := by decide +kernel
theorem dJ4_append_bf812_2 : decode cJ4_append_bf812 2 = .ok (.invokespecial 53, 3) := by decide +kernel
theorem dJ4_append_bf812_5 : decode cJ4_append_bf812 5 = .ok (.pop, 1) := by decide +kernel
theorem dJ4_append_bf812_6 : decode cJ4_append_bf812 6 = .ok (.aload_n 0, 1) := by decide +kernel
theorem dJ4_append_bf812_7 : decode cJ4_append_bf812 7 = .ok (.areturn, 1) := by decide +kernel
theorem dJ4_toString_0e30d_0 : decode cJ4_toString_0e30d 0 = .ok (.new 18, 3) := by decide +kernel
theorem dJ4_toString_0e30d_3 : decode cJ4_toString_0e30d 3 = .ok (.dup, 1) := by decide +kernel
theorem dJ4_toString_0e30d_4 : decode cJ4_toString_0e30d 4 = .ok (.aload_n 0, 1) := by decide +kernel
theorem dJ4_toString_0e30d_5 : decode cJ4_toString_0e30d 5 = .ok (.invokespecial 137, 3) := by decide +kernel
theorem dJ4_toString_0e30d_8 : decode cJ4_toString_0e30d 8 = .ok (.areturn, 1) := by decide +kernel
theorem dJ4_length_8abf5_0 : decode cJ4_length_8abf5 0 = .ok (.aload_n 0, 1) := by decide +kernel
theorem dJ4_length_8abf5_1 : decode cJ4_length_8abf5 1 = .ok (.invokespecial 343, 3) := by decide +kernel
theorem dJ4_length_8abf5_4 : decode cJ4_length_8abf5 4 = .ok (.ireturn, 1) := by decide +kernel
theorem dJ1_charAt_3b067_0 : decode cJ1_charAt_3b067 0 = .ok (.iload_n 1, 1) := by decide +kernel
theorem dJ1_charAt_3b067_1 : decode cJ1_charAt_3b067 1 = .ok (.aload_n 0, 1) := by decide +kernel
theorem dJ1_charAt_3b067_2 : decode cJ1_charAt_3b067 2 = .ok (.arraylength, 1) := by decide +kernel
theorem dJ1_charAt_3b067_3 : decode cJ1_charAt_3b067 3 = .ok (.invokestatic 9, 3) := by decide +kernel
theorem dJ1_charAt_3b067_6 : decode cJ1_charAt_3b067 6 = .ok (.aload_n 0, 1) := by decide +kernel
theorem dJ1_charAt_3b067_7 : decode cJ1_charAt_3b067 7 = .ok (.iload_n 1, 1) := by decide +kernel
theorem dJ1_charAt_3b067_8 : decode cJ1_charAt_3b067 8 = .ok (.baload, 1) := by decide +kernel
theorem dJ1_charAt_3b067_9 : decode cJ1_charAt_3b067 9 = .ok (.sipush 255, 3) := by decide +kernel
theorem dJ1_charAt_3b067_12 : decode cJ1_charAt_3b067 12 = .ok (.iand, 1) := by decide +kernel
theorem dJ1_charAt_3b067_13 : decode cJ1_charAt_3b067 13 = .ok (.i2c, 1) := by decide +kernel
theorem dJ1_charAt_3b067_14 : decode cJ1_charAt_3b067 14 = .ok (.ireturn, 1) := by decide +kernel
theorem dJ7_fill_53178_0 : decode cJ7_fill_53178 0 = .ok (.iconst 0, 1) := by decide +kernel
theorem dJ7_fill_53178_1 : decode cJ7_fill_53178 1 = .ok (.istore_n 2, 1) := by decide +kernel
theorem dJ7_fill_53178_2 : decode cJ7_fill_53178 2 = .ok (.aload_n 0, 1) := by decide +kernel
theorem dJ7_fill_53178_3 : decode cJ7_fill_53178 3 = .ok (.arraylength, 1) := by decide +kernel
theorem dJ7_fill_53178_4 : decode cJ7_fill_53178 4 = .ok (.istore_n 3, 1) := by decide +kernel
theorem dJ7_fill_53178_5 : decode cJ7_fill_53178 5 = .ok (.iload_n 2, 1) := by decide +kernel
theorem dJ7_fill_53178_6 : decode cJ7_fill_53178 6 = .ok (.iload_n 3, 1) := by decide +kernel
theorem dJ7_fill_53178_7 : decode cJ7_fill_53178 7 = .ok (.if_icmp .ge 13, 3) := by decide +kernel
theorem dJ7_fill_53178_10 : decode cJ7_fill_53178 10 = .ok (.aload_n 0, 1) := by decide +kernel
theorem dJ7_fill_53178_11 : decode cJ7_fill_53178 11 = .ok (.iload_n 2, 1) := by decide +kernel
theorem dJ7_fill_53178_12 : decode cJ7_fill_53178 12 = .ok (.iload_n 1, 1) := by decide +kernel
theorem dJ7_fill_53178_13 : decode cJ7_fill_53178 13 = .ok (.iastore, 1) := by decide +kernel
theorem dJ7_fill_53178_14 : decode cJ7_fill_53178 14 = .ok (.iinc 2 1, 3) := by decide +kernel
theorem dJ7_fill_53178_17 : decode cJ7_fill_53178 17 = .ok (.goto (-12), 3) := by decide +kernel
theorem dJ7_fill_53178_20 : decode cJ7_fill_53178 20 = .ok (.return_, 1) := by decide +kernel
theorem dJ7_copyOf_9075b_0 : decode cJ7_copyOf_9075b 0 = .ok (.iload_n 1, 1) := by decide +kernel
theorem dJ7_copyOf_9075b_1 : decode cJ7_copyOf_9075b 1 = .ok (.aload_n 0, 1) := by decide +kernel
theorem dJ7_copyOf_9075b_2 : decode cJ7_copyOf_9075b 2 = .ok (.arraylength, 1) := by decide +kernel
theorem dJ7_copyOf_9075b_3 : decode cJ7_copyOf_9075b 3 = .ok (.if_icmp .ne 11, 3) := by decide +kernel
theorem dJ7_copyOf_9075b_6 : decode cJ7_copyOf_9075b 6 = .ok (.aload_n 0, 1) := by decide +kernel
theorem dJ7_copyOf_9075b_7 : decode cJ7_copyOf_9075b 7 = .ok (.invokevirtual 310, 3) := by decide +kernel
theorem dJ7_copyOf_9075b_10 : decode cJ7_copyOf_9075b 10 = .ok (.checkcast 311, 3) := by decide +kernel
theorem dJ7_copyOf_9075b_13 : decode cJ7_copyOf_9075b 13 = .ok (.areturn, 1) := by decide +kernel
theorem dJ7_copyOf_9075b_14 : decode cJ7_copyOf_9075b 14 = .ok (.iload_n 1, 1) := by decide +kernel
theorem dJ7_copyOf_9075b_15 : decode cJ7_copyOf_9075b 15 = .ok (.newarray .byte, 2) := by decide +kernel
theorem dJ7_copyOf_9075b_17 : decode cJ7_copyOf_9075b 17 = .ok (.astore_n 2, 1) := by decide +kernel
theorem dJ7_copyOf_9075b_18 : decode cJ7_copyOf_9075b 18 = .ok (.aload_n 0, 1) := by decide +kernel
theorem dJ7_copyOf_9075b_19 : decode cJ7_copyOf_9075b 19 = .ok (.iconst 0, 1) := by decide +kernel
theorem dJ7_copyOf_9075b_20 : decode cJ7_copyOf_9075b 20 = .ok (.aload_n 2, 1) := by decide +kernel
theorem dJ7_copyOf_9075b_21 : decode cJ7_copyOf_9075b 21 = .ok (.iconst 0, 1) := by decide +kernel
theorem dJ7_copyOf_9075b_22 : decode cJ7_copyOf_9075b 22 = .ok (.aload_n 0, 1) := by decide +kernel
theorem dJ7_copyOf_9075b_23 : decode cJ7_copyOf_9075b 23 = .ok (.arraylength, 1) := by decide +kernel
theorem dJ7_copyOf_9075b_24 : decode cJ7_copyOf_9075b 24 = .ok (.iload_n 1, 1) := by decide +kernel
theorem dJ7_copyOf_9075b_25 : decode cJ7_copyOf_9075b 25 = .ok (.invokestatic 304, 3) := by decide +kernel
theorem dJ7_copyOf_9075b_28 : decode cJ7_copyOf_9075b 28 = .ok (.invokestatic 150, 3) := by decide +kernel
theorem dJ7_copyOf_9075b_31 : decode cJ7_copyOf_9075b 31 = .ok (.aload_n 2, 1) := by decide +kernel
theorem dJ7_copyOf_9075b_32 : decode cJ7_copyOf_9075b 32 = .ok (.areturn, 1) := by decide +kernel
theorem dJ7_copyOf_59c91_0 : decode cJ7_copyOf_59c91 0 = .ok (.iload_n 1, 1) := by decide +kernel
theorem dJ7_copyOf_59c91_1 : decode cJ7_copyOf_59c91 1 = .ok (.aload_n 0, 1) := by decide +kernel
theorem dJ7_copyOf_59c91_2 : decode cJ7_copyOf_59c91 2 = .ok (.arraylength, 1) := by decide +kernel
theorem dJ7_copyOf_59c91_3 : decode cJ7_copyOf_59c91 3 = .ok (.if_icmp .ne 11, 3) := by decide +kernel
theorem dJ7_copyOf_59c91_6 : decode cJ7_copyOf_59c91 6 = .ok (.aload_n 0, 1) := by decide +kernel
theorem dJ7_copyOf_59c91_7 : decode cJ7_copyOf_59c91 7 = .ok (.invokevirtual 316, 3) := by decide +kernel
theorem dJ7_copyOf_59c91_10 : decode cJ7_copyOf_59c91 10 = .ok (.checkcast 317, 3) := by decide +kernel
theorem dJ7_copyOf_59c91_13 : decode cJ7_copyOf_59c91 13 = .ok (.areturn, 1) := by decide +kernel
theorem dJ7_copyOf_59c91_14 : decode cJ7_copyOf_59c91 14 = .ok (.iload_n 1, 1) := by decide +kernel
theorem dJ7_copyOf_59c91_15 : decode cJ7_copyOf_59c91 15 = .ok (.newarray .int, 2) := by decide +kernel
theorem dJ7_copyOf_59c91_17 : decode cJ7_copyOf_59c91 17 = .ok (.astore_n 2, 1) := by decide +kernel
theorem dJ7_copyOf_59c91_18 : decode cJ7_copyOf_59c91 18 = .ok (.aload_n 0, 1) := by decide +kernel
theorem dJ7_copyOf_59c91_19 : decode cJ7_copyOf_59c91 19 = .ok (.iconst 0, 1) := by decide +kernel
theorem dJ7_copyOf_59c91_20 : decode cJ7_copyOf_59c91 20 = .ok (.aload_n 2, 1) := by decide +kernel
theorem dJ7_copyOf_59c91_21 : decode cJ7_copyOf_59c91 21 = .ok (.iconst 0, 1) := by decide +kernel
theorem dJ7_copyOf_59c91_22 : decode cJ7_copyOf_59c91 22 = .ok (.aload_n 0, 1) := by decide +kernel
theorem dJ7_copyOf_59c91_23 : decode cJ7_copyOf_59c91 23 = .ok (.arraylength, 1) := by decide +kernel
theorem dJ7_copyOf_59c91_24 : decode cJ7_copyOf_59c91 24 = .ok (.iload_n 1, 1) := by decide +kernel
theorem dJ7_copyOf_59c91_25 : decode cJ7_copyOf_59c91 25 = .ok (.invokestatic 304, 3) := by decide +kernel
theorem dJ7_copyOf_59c91_28 : decode cJ7_copyOf_59c91 28 = .ok (.invokestatic 150, 3) := by decide +kernel
theorem dJ7_copyOf_59c91_31 : decode cJ7_copyOf_59c91 31 = .ok (.aload_n 2, 1) := by decide +kernel
theorem dJ7_copyOf_59c91_32 : decode cJ7_copyOf_59c91 32 = .ok (.areturn, 1) := by decide +kernel
theorem dJ7_checkLength_df160_0 : decode cJ7_checkLength_df160 0 = .ok (.iload_n 1, 1) := by decide +kernel
theorem dJ7_checkLength_df160_1 : decode cJ7_checkLength_df160 1 = .ok (.iload_n 0, 1) := by decide +kernel
theorem dJ7_checkLength_df160_2 : decode cJ7_checkLength_df160 2 = .ok (.if_icmp .ge 35, 3) := by decide +kernel
theorem dJ7_checkLength_df160_5 : decode cJ7_checkLength_df160 5 = .ok (.new 43, 3) := by decide +kernel
theorem dJ7_checkLength_df160_8 : decode cJ7_checkLength_df160 8 = .ok (.dup, 1) := by decide +kernel
theorem dJ7_checkLength_df160_9 : decode cJ7_checkLength_df160 9 = .ok (.new 45, 3) := by decide +kernel
theorem dJ7_checkLength_df160_12 : decode cJ7_checkLength_df160 12 = .ok (.dup, 1) := by decide +kernel
theorem dJ7_checkLength_df160_13 : decode cJ7_checkLength_df160 13 = .ok (.invokespecial 47, 3) := by decide +kernel
theorem dJ7_checkLength_df160_16 : decode cJ7_checkLength_df160 16 = .ok (.iload_n 0, 1) := by decide +kernel
theorem dJ7_checkLength_df160_17 : decode cJ7_checkLength_df160 17 = .ok (.invokevirtual 54, 3) := by decide +kernel
theorem dJ7_checkLength_df160_20 : decode cJ7_checkLength_df160 20 = .ok (.ldc_w 337, 3) := by decide +kernel
theorem dJ7_checkLength_df160_23 : decode cJ7_checkLength_df160 23 = .ok (.invokevirtual 50, 3) := by decide +kernel
theorem dJ7_checkLength_df160_26 : decode cJ7_checkLength_df160 26 = .ok (.iload_n 1, 1) := by decide +kernel
theorem dJ7_checkLength_df160_27 : decode cJ7_checkLength_df160 27 = .ok (.invokevirtual 54, 3) := by decide +kernel
theorem dJ7_checkLength_df160_30 : decode cJ7_checkLength_df160 30 = .ok (.invokevirtual 61, 3) := by decide +kernel
theorem dJ7_checkLength_df160_33 : decode cJ7_checkLength_df160 33 = .ok (.invokespecial 65, 3) := by decide +kernel
theorem dJ7_checkLength_df160_36 : decode cJ7_checkLength_df160 36 = .ok (.athrow, 1) := by decide +kernel
theorem dJ7_checkLength_df160_37 : decode cJ7_checkLength_df160 37 = .ok (.return_, 1) := by decide +kernel
theorem dJ7_copyOfRange_39247_0 : decode cJ7_copyOfRange_39247 0 = .ok (.iload_n 1, 1) := by decide +kernel
theorem dJ7_copyOfRange_39247_1 : decode cJ7_copyOfRange_39247 1 = .ok (.ifCond .ne 9, 3) := by decide +kernel
theorem dJ7_copyOfRange_39247_4 : decode cJ7_copyOfRange_39247 4 = .ok (.iload_n 2, 1) := by decide +kernel
theorem dJ7_copyOfRange_39247_5 : decode cJ7_copyOfRange_39247 5 = .ok (.aload_n 0, 1) := by decide +kernel
theorem dJ7_copyOfRange_39247_6 : decode cJ7_copyOfRange_39247 6 = .ok (.arraylength, 1) := by decide +kernel
theorem dJ7_copyOfRange_39247_7 : decode cJ7_copyOfRange_39247 7 = .ok (.if_icmp .eq 10, 3) := by decide +kernel
theorem dJ7_copyOfRange_39247_10 : decode cJ7_copyOfRange_39247 10 = .ok (.aload_n 0, 1) := by decide +kernel
theorem dJ7_copyOfRange_39247_11 : decode cJ7_copyOfRange_39247 11 = .ok (.iload_n 1, 1) := by decide +kernel
theorem dJ7_copyOfRange_39247_12 : decode cJ7_copyOfRange_39247 12 = .ok (.iload_n 2, 1) := by decide +kernel
theorem dJ7_copyOfRange_39247_13 : decode cJ7_copyOfRange_39247 13 = .ok (.invokestatic 339, 3) := by decide +kernel
theorem dJ7_copyOfRange_39247_16 : decode cJ7_copyOfRange_39247 16 = .ok (.areturn, 1) := by decide +kernel
theorem dJ7_copyOfRange_39247_17 : decode cJ7_copyOfRange_39247 17 = .ok (.aload_n 0, 1) := by decide +kernel
theorem dJ7_copyOfRange_39247_18 : decode cJ7_copyOfRange_39247 18 = .ok (.invokevirtual 310, 3) := by decide +kernel
theorem dJ7_copyOfRange_39247_21 : decode cJ7_copyOfRange_39247 21 = .ok (.checkcast 311, 3) := by decide +kernel
theorem dJ7_copyOfRange_39247_24 : decode cJ7_copyOfRange_39247 24 = .ok (.areturn, 1) := by decide +kernel
theorem dJ7_copyOfRangeByte_39247_0 : decode cJ7_copyOfRangeByte_39247 0 = .ok (.iload_n 1, 1) := by decide +kernel
theorem dJ7_copyOfRangeByte_39247_1 : decode cJ7_copyOfRangeByte_39247 1 = .ok (.iload_n 2, 1) := by decide +kernel
theorem dJ7_copyOfRangeByte_39247_2 : decode cJ7_copyOfRangeByte_39247 2 = .ok (.invokestatic 343, 3) := by decide +kernel
theorem dJ7_copyOfRangeByte_39247_5 : decode cJ7_copyOfRangeByte_39247 5 = .ok (.iload_n 2, 1) := by decide +kernel
theorem dJ7_copyOfRangeByte_39247_6 : decode cJ7_copyOfRangeByte_39247 6 = .ok (.iload_n 1, 1) := by decide +kernel
theorem dJ7_copyOfRangeByte_39247_7 : decode cJ7_copyOfRangeByte_39247 7 = .ok (.isub, 1) := by decide +kernel
theorem dJ7_copyOfRangeByte_39247_8 : decode cJ7_copyOfRangeByte_39247 8 = .ok (.istore_n 3, 1) := by decide +kernel
theorem dJ7_copyOfRangeByte_39247_9 : decode cJ7_copyOfRangeByte_39247 9 = .ok (.iload_n 3, 1) := by decide +kernel
theorem dJ7_copyOfRangeByte_39247_10 : decode cJ7_copyOfRangeByte_39247 10 = .ok (.newarray .byte, 2) := by decide +kernel
theorem dJ7_copyOfRangeByte_39247_12 : decode cJ7_copyOfRangeByte_39247 12 = .ok (.astore 4, 2) := by decide +kernel
theorem dJ7_copyOfRangeByte_39247_14 : decode cJ7_copyOfRangeByte_39247 14 = .ok (.aload_n 0, 1) := by decide +kernel
theorem dJ7_copyOfRangeByte_39247_15 : decode cJ7_copyOfRangeByte_39247 15 = .ok (.iload_n 1, 1) := by decide +kernel
theorem dJ7_copyOfRangeByte_39247_16 : decode cJ7_copyOfRangeByte_39247 16 = .ok (.aload 4, 2) := by decide +kernel
theorem dJ7_copyOfRangeByte_39247_18 : decode cJ7_copyOfRangeByte_39247 18 = .ok (.iconst 0, 1) := by decide +kernel
theorem dJ7_copyOfRangeByte_39247_19 : decode cJ7_copyOfRangeByte_39247 19 = .ok (.aload_n 0, 1) := by decide +kernel
theorem dJ7_copyOfRangeByte_39247_20 : decode cJ7_copyOfRangeByte_39247 20 = .ok (.arraylength, 1) := by decide +kernel
theorem dJ7_copyOfRangeByte_39247_21 : decode cJ7_copyOfRangeByte_39247 21 = .ok (.iload_n 1, 1) := by decide +kernel
theorem dJ7_copyOfRangeByte_39247_22 : decode cJ7_copyOfRangeByte_39247 22 = .ok (.isub, 1) := by decide +kernel
theorem dJ7_copyOfRangeByte_39247_23 : decode cJ7_copyOfRangeByte_39247 23 = .ok (.iload_n 3, 1) := by decide +kernel
theorem dJ7_copyOfRangeByte_39247_24 : decode cJ7_copyOfRangeByte_39247 24 = .ok (.invokestatic 304, 3) := by decide +kernel
theorem dJ7_copyOfRangeByte_39247_27 : decode cJ7_copyOfRangeByte_39247 27 = .ok (.invokestatic 150, 3) := by decide +kernel
theorem dJ7_copyOfRangeByte_39247_30 : decode cJ7_copyOfRangeByte_39247 30 = .ok (.aload 4, 2) := by decide +kernel
theorem dJ7_copyOfRangeByte_39247_32 : decode cJ7_copyOfRangeByte_39247 32 = .ok (.areturn, 1) := by decide +kernel
theorem dJ8_newLength_cabcc_0 : decode cJ8_newLength_cabcc 0 = .ok (.iload_n 0, 1) := by decide +kernel
theorem dJ8_newLength_cabcc_1 : decode cJ8_newLength_cabcc 1 = .ok (.iload_n 1, 1) := by decide +kernel
theorem dJ8_newLength_cabcc_2 : decode cJ8_newLength_cabcc 2 = .ok (.iload_n 2, 1) := by decide +kernel
theorem dJ8_newLength_cabcc_3 : decode cJ8_newLength_cabcc 3 = .ok (.invokestatic 194, 3) := by decide +kernel
theorem dJ8_newLength_cabcc_6 : decode cJ8_newLength_cabcc 6 = .ok (.iadd, 1) := by decide +kernel
theorem dJ8_newLength_cabcc_7 : decode cJ8_newLength_cabcc 7 = .ok (.istore_n 3, 1) := by decide +kernel
theorem dJ8_newLength_cabcc_8 : decode cJ8_newLength_cabcc 8 = .ok (.iconst 0, 1) := by decide +kernel
theorem dJ8_newLength_cabcc_9 : decode cJ8_newLength_cabcc 9 = .ok (.iload_n 3, 1) := by decide +kernel
theorem dJ8_newLength_cabcc_10 : decode cJ8_newLength_cabcc 10 = .ok (.if_icmp .ge 11, 3) := by decide +kernel
theorem dJ8_newLength_cabcc_13 : decode cJ8_newLength_cabcc 13 = .ok (.iload_n 3, 1) := by decide +kernel
theorem dJ8_newLength_cabcc_14 : decode cJ8_newLength_cabcc 14 = .ok (.ldc 200, 2) := by decide +kernel
theorem dJ8_newLength_cabcc_16 : decode cJ8_newLength_cabcc 16 = .ok (.if_icmp .gt 5, 3) := by decide +kernel
theorem dJ8_newLength_cabcc_19 : decode cJ8_newLength_cabcc 19 = .ok (.iload_n 3, 1) := by decide +kernel
theorem dJ8_newLength_cabcc_20 : decode cJ8_newLength_cabcc 20 = .ok (.ireturn, 1) := by decide +kernel
theorem dJ8_newLength_cabcc_21 : decode cJ8_newLength_cabcc 21 = .ok (.iload_n 0, 1) := by decide +kernel
theorem dJ8_newLength_cabcc_22 : decode cJ8_newLength_cabcc 22 = .ok (.iload_n 1, 1) := by decide +kernel
theorem dJ8_newLength_cabcc_23 : decode cJ8_newLength_cabcc 23 = .ok (.invokestatic 201, 3) := by decide +kernel
theorem dJ8_newLength_cabcc_26 : decode cJ8_newLength_cabcc 26 = .ok (.ireturn, 1) := by decide +kernel
theorem dJ3_checkIndex_8e157_0 : decode cJ3_checkIndex_8e157 0 = .ok (.iload_n 0, 1) := by decide +kernel
theorem dJ3_checkIndex_8e157_1 : decode cJ3_checkIndex_8e157 1 = .ok (.ifCond .lt 8, 3) := by decide +kernel
theorem dJ3_checkIndex_8e157_4 : decode cJ3_checkIndex_8e157 4 = .ok (.iload_n 0, 1) := by decide +kernel
theorem dJ3_checkIndex_8e157_5 : decode cJ3_checkIndex_8e157 5 = .ok (.iload_n 1, 1) := by decide +kernel
theorem dJ3_checkIndex_8e157_6 : decode cJ3_checkIndex_8e157 6 = .ok (.if_icmp .lt 10, 3) := by decide +kernel
theorem dJ3_checkIndex_8e157_9 : decode cJ3_checkIndex_8e157 9 = .ok (.aload_n 2, 1) := by decide +kernel
theorem dJ3_checkIndex_8e157_10 : decode cJ3_checkIndex_8e157 10 = .ok (.iload_n 0, 1) := by decide +kernel
theorem dJ3_checkIndex_8e157_11 : decode cJ3_checkIndex_8e157 11 = .ok (.iload_n 1, 1) := by decide +kernel
theorem dJ3_checkIndex_8e157_12 : decode cJ3_checkIndex_8e157 12 = .ok (.invokestatic 95, 3) := by decide +kernel
theorem dJ3_checkIndex_8e157_15 : decode cJ3_checkIndex_8e157 15 = .ok (.athrow, 1) := by decide +kernel
theorem dJ3_checkIndex_8e157_16 : decode cJ3_checkIndex_8e157 16 = .ok (.iload_n 0, 1) := by decide +kernel
theorem dJ3_checkIndex_8e157_17 : decode cJ3_checkIndex_8e157 17 = .ok (.ireturn, 1) := by decide +kernel
theorem dL_at_0 : decode cL_at 0 = .ok (.iload_n 1, 1) := by decide +kernel
theorem dL_at_1 : decode cL_at 1 = .ok (.aload_n 0, 1) := by decide +kernel
theorem dL_at_2 : decode cL_at 2 = .ok (.arraylength, 1) := by decide +kernel
theorem dL_at_3 : decode cL_at 3 = .ok (.if_icmp .ge 9, 3) := by decide +kernel
theorem dL_at_6 : decode cL_at 6 = .ok (.aload_n 0, 1) := by decide +kernel
theorem dL_at_7 : decode cL_at 7 = .ok (.iload_n 1, 1) := by decide +kernel
theorem dL_at_8 : decode cL_at 8 = .ok (.iaload, 1) := by decide +kernel
theorem dL_at_9 : decode cL_at 9 = .ok (.goto 4, 3) := by decide +kernel
theorem dL_at_12 : decode cL_at 12 = .ok (.iconst 0, 1) := by decide +kernel
theorem dL_at_13 : decode cL_at 13 = .ok (.ireturn, 1) := by decide +kernel
theorem dL_text_0 : decode cL_text 0 = .ok (.iconst 0, 1) := by decide +kernel
theorem dL_text_1 : decode cL_text 1 = .ok (.istore_n 2, 1) := by decide +kernel
theorem dL_text_2 : decode cL_text 2 = .ok (.iload_n 2, 1) := by decide +kernel
theorem dL_text_3 : decode cL_text 3 = .ok (.aload_n 1, 1) := by decide +kernel
theorem dL_text_4 : decode cL_text 4 = .ok (.invokevirtual 7, 3) := by decide +kernel
theorem dL_text_7 : decode cL_text 7 = .ok (.if_icmp .ge 24, 3) := by decide +kernel
theorem dL_text_10 : decode cL_text 10 = .ok (.aload_n 0, 1) := by decide +kernel
theorem dL_text_11 : decode cL_text 11 = .ok (.iconst 1, 1) := by decide +kernel
theorem dL_text_12 : decode cL_text 12 = .ok (.aload_n 1, 1) := by decide +kernel
theorem dL_text_13 : decode cL_text 13 = .ok (.iload_n 2, 1) := by decide +kernel
theorem dL_text_14 : decode cL_text 14 = .ok (.invokevirtual 13, 3) := by decide +kernel
theorem dL_text_17 : decode cL_text 17 = .ok (.iconst 0, 1) := by decide +kernel
theorem dL_text_18 : decode cL_text 18 = .ok (.iconst 0, 1) := by decide +kernel
theorem dL_text_19 : decode cL_text 19 = .ok (.iconst 0, 1) := by decide +kernel
theorem dL_text_20 : decode cL_text 20 = .ok (.iconst 0, 1) := by decide +kernel
theorem dL_text_21 : decode cL_text 21 = .ok (.invokevirtual 17, 3) := by decide +kernel
theorem dL_text_24 : decode cL_text 24 = .ok (.pop, 1) := by decide +kernel
theorem dL_text_25 : decode cL_text 25 = .ok (.iinc 2 1, 3) := by decide +kernel
theorem dL_text_28 : decode cL_text 28 = .ok (.goto (-26), 3) := by decide +kernel
theorem dL_text_31 : decode cL_text 31 = .ok (.return_, 1) := by decide +kernel
theorem dL_build_0 : decode cL_build 0 = .ok (.new 18, 3) := by decide +kernel
theorem dL_build_3 : decode cL_build 3 = .ok (.dup, 1) := by decide +kernel
theorem dL_build_4 : decode cL_build 4 = .ok (.invokespecial 23, 3) := by decide +kernel
theorem dL_build_7 : decode cL_build 7 = .ok (.astore_n 1, 1) := by decide +kernel
theorem dL_build_8 : decode cL_build 8 = .ok (.iconst 0, 1) := by decide +kernel
theorem dL_build_9 : decode cL_build 9 = .ok (.istore_n 2, 1) := by decide +kernel
theorem dL_build_10 : decode cL_build 10 = .ok (.iload_n 2, 1) := by decide +kernel
theorem dL_build_11 : decode cL_build 11 = .ok (.bipush 9, 2) := by decide +kernel
theorem dL_build_13 : decode cL_build 13 = .ok (.if_icmp .ge 33, 3) := by decide +kernel
theorem dL_build_16 : decode cL_build 16 = .ok (.aload_n 1, 1) := by decide +kernel
theorem dL_build_17 : decode cL_build 17 = .ok (.iconst 0, 1) := by decide +kernel
theorem dL_build_18 : decode cL_build 18 = .ok (.iload_n 2, 1) := by decide +kernel
theorem dL_build_19 : decode cL_build 19 = .ok (.aload_n 0, 1) := by decide +kernel
theorem dL_build_20 : decode cL_build 20 = .ok (.iload_n 2, 1) := by decide +kernel
theorem dL_build_21 : decode cL_build 21 = .ok (.invokestatic 24, 3) := by decide +kernel
theorem dL_build_24 : decode cL_build 24 = .ok (.invokevirtual 30, 3) := by decide +kernel
theorem dL_build_27 : decode cL_build 27 = .ok (.pop, 1) := by decide +kernel
theorem dL_build_28 : decode cL_build 28 = .ok (.aload_n 1, 1) := by decide +kernel
theorem dL_build_29 : decode cL_build 29 = .ok (.iconst 1, 1) := by decide +kernel
theorem dL_build_30 : decode cL_build 30 = .ok (.iload_n 2, 1) := by decide +kernel
theorem dL_build_31 : decode cL_build 31 = .ok (.aload_n 0, 1) := by decide +kernel
theorem dL_build_32 : decode cL_build 32 = .ok (.iload_n 2, 1) := by decide +kernel
theorem dL_build_33 : decode cL_build 33 = .ok (.invokestatic 34, 3) := by decide +kernel
theorem dL_build_36 : decode cL_build 36 = .ok (.invokevirtual 30, 3) := by decide +kernel
theorem dL_build_39 : decode cL_build 39 = .ok (.pop, 1) := by decide +kernel
theorem dL_build_40 : decode cL_build 40 = .ok (.iinc 2 1, 3) := by decide +kernel
theorem dL_build_43 : decode cL_build 43 = .ok (.goto (-33), 3) := by decide +kernel
theorem dL_build_46 : decode cL_build 46 = .ok (.aload_n 1, 1) := by decide +kernel
theorem dL_build_47 : decode cL_build 47 = .ok (.iconst 2, 1) := by decide +kernel
theorem dL_build_48 : decode cL_build 48 = .ok (.iconst 0, 1) := by decide +kernel
theorem dL_build_49 : decode cL_build 49 = .ok (.aload_n 0, 1) := by decide +kernel
theorem dL_build_50 : decode cL_build 50 = .ok (.invokestatic 37, 3) := by decide +kernel
theorem dL_build_53 : decode cL_build 53 = .ok (.invokevirtual 30, 3) := by decide +kernel
theorem dL_build_56 : decode cL_build 56 = .ok (.pop, 1) := by decide +kernel
theorem dL_build_57 : decode cL_build 57 = .ok (.iconst 0, 1) := by decide +kernel
theorem dL_build_58 : decode cL_build 58 = .ok (.istore_n 2, 1) := by decide +kernel
theorem dL_build_59 : decode cL_build 59 = .ok (.iload_n 2, 1) := by decide +kernel
theorem dL_build_60 : decode cL_build 60 = .ok (.aload_n 0, 1) := by decide +kernel
theorem dL_build_61 : decode cL_build 61 = .ok (.invokestatic 41, 3) := by decide +kernel
theorem dL_build_64 : decode cL_build 64 = .ok (.if_icmp .ge 29, 3) := by decide +kernel
theorem dL_build_67 : decode cL_build 67 = .ok (.aload_n 1, 1) := by decide +kernel
theorem dL_build_68 : decode cL_build 68 = .ok (.aload_n 0, 1) := by decide +kernel
theorem dL_build_69 : decode cL_build 69 = .ok (.iload_n 2, 1) := by decide +kernel
theorem dL_build_70 : decode cL_build 70 = .ok (.invokestatic 44, 3) := by decide +kernel
theorem dL_build_73 : decode cL_build 73 = .ok (.aload_n 0, 1) := by decide +kernel
theorem dL_build_74 : decode cL_build 74 = .ok (.iload_n 2, 1) := by decide +kernel
theorem dL_build_75 : decode cL_build 75 = .ok (.invokestatic 47, 3) := by decide +kernel
theorem dL_build_78 : decode cL_build 78 = .ok (.aload_n 0, 1) := by decide +kernel
theorem dL_build_79 : decode cL_build 79 = .ok (.iload_n 2, 1) := by decide +kernel
theorem dL_build_80 : decode cL_build 80 = .ok (.invokestatic 50, 3) := by decide +kernel
theorem dL_build_83 : decode cL_build 83 = .ok (.invokevirtual 53, 3) := by decide +kernel
theorem dL_build_86 : decode cL_build 86 = .ok (.pop, 1) := by decide +kernel
theorem dL_build_87 : decode cL_build 87 = .ok (.iinc 2 1, 3) := by decide +kernel
theorem dL_build_90 : decode cL_build 90 = .ok (.goto (-31), 3) := by decide +kernel
theorem dL_build_93 : decode cL_build 93 = .ok (.aload_n 0, 1) := by decide +kernel
theorem dL_build_94 : decode cL_build 94 = .ok (.invokestatic 56, 3) := by decide +kernel
theorem dL_build_97 : decode cL_build 97 = .ok (.ifCond .ne 85, 3) := by decide +kernel
theorem dL_build_100 : decode cL_build 100 = .ok (.aload_n 1, 1) := by decide +kernel
theorem dL_build_101 : decode cL_build 101 = .ok (.new 60, 3) := by decide +kernel
theorem dL_build_104 : decode cL_build 104 = .ok (.dup, 1) := by decide +kernel
theorem dL_build_105 : decode cL_build 105 = .ok (.invokespecial 62, 3) := by decide +kernel
theorem dL_build_108 : decode cL_build 108 = .ok (.ldc 63, 2) := by decide +kernel
theorem dL_build_110 : decode cL_build 110 = .ok (.invokevirtual 65, 3) := by decide +kernel
theorem dL_build_113 : decode cL_build 113 = .ok (.aload_n 0, 1) := by decide +kernel
theorem dL_build_114 : decode cL_build 114 = .ok (.iconst 0, 1) := by decide +kernel
theorem dL_build_115 : decode cL_build 115 = .ok (.invokestatic 69, 3) := by decide +kernel
theorem dL_build_118 : decode cL_build 118 = .ok (.bipush 6, 2) := by decide +kernel
theorem dL_build_120 : decode cL_build 120 = .ok (.ishr, 1) := by decide +kernel
theorem dL_build_121 : decode cL_build 121 = .ok (.iconst 1, 1) := by decide +kernel
theorem dL_build_122 : decode cL_build 122 = .ok (.iand, 1) := by decide +kernel
theorem dL_build_123 : decode cL_build 123 = .ok (.invokevirtual 72, 3) := by decide +kernel
theorem dL_build_126 : decode cL_build 126 = .ok (.ldc 75, 2) := by decide +kernel
theorem dL_build_128 : decode cL_build 128 = .ok (.invokevirtual 65, 3) := by decide +kernel
theorem dL_build_131 : decode cL_build 131 = .ok (.aload_n 0, 1) := by decide +kernel
theorem dL_build_132 : decode cL_build 132 = .ok (.iconst 0, 1) := by decide +kernel
theorem dL_build_133 : decode cL_build 133 = .ok (.invokestatic 69, 3) := by decide +kernel
theorem dL_build_136 : decode cL_build 136 = .ok (.bipush 7, 2) := by decide +kernel
theorem dL_build_138 : decode cL_build 138 = .ok (.ishr, 1) := by decide +kernel
theorem dL_build_139 : decode cL_build 139 = .ok (.iconst 3, 1) := by decide +kernel
theorem dL_build_140 : decode cL_build 140 = .ok (.iand, 1) := by decide +kernel
theorem dL_build_141 : decode cL_build 141 = .ok (.invokevirtual 72, 3) := by decide +kernel
theorem dL_build_144 : decode cL_build 144 = .ok (.ldc 77, 2) := by decide +kernel
theorem dL_build_146 : decode cL_build 146 = .ok (.invokevirtual 65, 3) := by decide +kernel
theorem dL_build_149 : decode cL_build 149 = .ok (.aload_n 0, 1) := by decide +kernel
theorem dL_build_150 : decode cL_build 150 = .ok (.iconst 0, 1) := by decide +kernel
theorem dL_build_151 : decode cL_build 151 = .ok (.invokestatic 69, 3) := by decide +kernel
theorem dL_build_154 : decode cL_build 154 = .ok (.bipush 9, 2) := by decide +kernel
theorem dL_build_156 : decode cL_build 156 = .ok (.ishr, 1) := by decide +kernel
theorem dL_build_157 : decode cL_build 157 = .ok (.iconst 3, 1) := by decide +kernel
theorem dL_build_158 : decode cL_build 158 = .ok (.iand, 1) := by decide +kernel
theorem dL_build_159 : decode cL_build 159 = .ok (.invokevirtual 72, 3) := by decide +kernel
theorem dL_build_162 : decode cL_build 162 = .ok (.ldc 79, 2) := by decide +kernel
theorem dL_build_164 : decode cL_build 164 = .ok (.invokevirtual 65, 3) := by decide +kernel
theorem dL_build_167 : decode cL_build 167 = .ok (.invokevirtual 81, 3) := by decide +kernel
theorem dL_build_170 : decode cL_build 170 = .ok (.invokestatic 85, 3) := by decide +kernel
theorem dL_build_173 : decode cL_build 173 = .ok (.aload_n 1, 1) := by decide +kernel
theorem dL_build_174 : decode cL_build 174 = .ok (.aload_n 1, 1) := by decide +kernel
theorem dL_build_175 : decode cL_build 175 = .ok (.invokevirtual 89, 3) := by decide +kernel
theorem dL_build_178 : decode cL_build 178 = .ok (.invokevirtual 91, 3) := by decide +kernel
theorem dL_build_181 : decode cL_build 181 = .ok (.pop, 1) := by decide +kernel
theorem dL_build_182 : decode cL_build 182 = .ok (.aload_n 1, 1) := by decide +kernel
theorem dL_build_183 : decode cL_build 183 = .ok (.areturn, 1) := by decide +kernel
theorem dL_plain_0 : decode cL_plain 0 = .ok (.aload_n 0, 1) := by decide +kernel
theorem dL_plain_1 : decode cL_plain 1 = .ok (.iconst 0, 1) := by decide +kernel
theorem dL_plain_2 : decode cL_plain 2 = .ok (.invokestatic 69, 3) := by decide +kernel
theorem dL_plain_5 : decode cL_plain 5 = .ok (.bipush 11, 2) := by decide +kernel
theorem dL_plain_7 : decode cL_plain 7 = .ok (.ishr, 1) := by decide +kernel
theorem dL_plain_8 : decode cL_plain 8 = .ok (.iconst 1, 1) := by decide +kernel
theorem dL_plain_9 : decode cL_plain 9 = .ok (.iand, 1) := by decide +kernel
theorem dL_plain_10 : decode cL_plain 10 = .ok (.ifCond .ne 7, 3) := by decide +kernel
theorem dL_plain_13 : decode cL_plain 13 = .ok (.iconst 1, 1) := by decide +kernel
theorem dL_plain_14 : decode cL_plain 14 = .ok (.goto 4, 3) := by decide +kernel
theorem dL_plain_17 : decode cL_plain 17 = .ok (.iconst 0, 1) := by decide +kernel
theorem dL_plain_18 : decode cL_plain 18 = .ok (.ireturn, 1) := by decide +kernel
theorem dL_many_0 : decode cL_many 0 = .ok (.iconst 1, 1) := by decide +kernel
theorem dL_many_1 : decode cL_many 1 = .ok (.aload_n 0, 1) := by decide +kernel
theorem dL_many_2 : decode cL_many 2 = .ok (.iconst 0, 1) := by decide +kernel
theorem dL_many_3 : decode cL_many 3 = .ok (.invokestatic 69, 3) := by decide +kernel
theorem dL_many_6 : decode cL_many 6 = .ok (.iconst 3, 1) := by decide +kernel
theorem dL_many_7 : decode cL_many 7 = .ok (.iand, 1) := by decide +kernel
theorem dL_many_8 : decode cL_many 8 = .ok (.iconst 3, 1) := by decide +kernel
theorem dL_many_9 : decode cL_many 9 = .ok (.irem, 1) := by decide +kernel
theorem dL_many_10 : decode cL_many 10 = .ok (.iadd, 1) := by decide +kernel
theorem dL_many_11 : decode cL_many 11 = .ok (.ireturn, 1) := by decide +kernel
theorem dL_want_0 : decode cL_want 0 = .ok (.iconst 1, 1) := by decide +kernel
theorem dL_want_1 : decode cL_want 1 = .ok (.aload_n 0, 1) := by decide +kernel
theorem dL_want_2 : decode cL_want 2 = .ok (.iconst 0, 1) := by decide +kernel
theorem dL_want_3 : decode cL_want 3 = .ok (.invokestatic 69, 3) := by decide +kernel
theorem dL_want_6 : decode cL_want 6 = .ok (.iconst 2, 1) := by decide +kernel
theorem dL_want_7 : decode cL_want 7 = .ok (.ishr, 1) := by decide +kernel
theorem dL_want_8 : decode cL_want 8 = .ok (.bipush 15, 2) := by decide +kernel
theorem dL_want_10 : decode cL_want 10 = .ok (.iand, 1) := by decide +kernel
theorem dL_want_11 : decode cL_want 11 = .ok (.iadd, 1) := by decide +kernel
theorem dL_want_12 : decode cL_want 12 = .ok (.ireturn, 1) := by decide +kernel
theorem dL_high_0 : decode cL_high 0 = .ok (.aload_n 0, 1) := by decide +kernel
theorem dL_high_1 : decode cL_high 1 = .ok (.iconst 1, 1) := by decide +kernel
theorem dL_high_2 : decode cL_high 2 = .ok (.iload_n 1, 1) := by decide +kernel
theorem dL_high_3 : decode cL_high 3 = .ok (.iconst 3, 1) := by decide +kernel
theorem dL_high_4 : decode cL_high 4 = .ok (.idiv, 1) := by decide +kernel
theorem dL_high_5 : decode cL_high 5 = .ok (.iadd, 1) := by decide +kernel
theorem dL_high_6 : decode cL_high 6 = .ok (.invokestatic 69, 3) := by decide +kernel
theorem dL_high_9 : decode cL_high 9 = .ok (.bipush 7, 2) := by decide +kernel
theorem dL_high_11 : decode cL_high 11 = .ok (.iload_n 1, 1) := by decide +kernel
theorem dL_high_12 : decode cL_high 12 = .ok (.iconst 3, 1) := by decide +kernel
theorem dL_high_13 : decode cL_high 13 = .ok (.irem, 1) := by decide +kernel
theorem dL_high_14 : decode cL_high 14 = .ok (.imul, 1) := by decide +kernel
theorem dL_high_15 : decode cL_high 15 = .ok (.ishr, 1) := by decide +kernel
theorem dL_high_16 : decode cL_high 16 = .ok (.bipush 127, 2) := by decide +kernel
theorem dL_high_18 : decode cL_high 18 = .ok (.iand, 1) := by decide +kernel
theorem dL_high_19 : decode cL_high 19 = .ok (.aload_n 0, 1) := by decide +kernel
theorem dL_high_20 : decode cL_high 20 = .ok (.iconst 0, 1) := by decide +kernel
theorem dL_high_21 : decode cL_high 21 = .ok (.invokestatic 69, 3) := by decide +kernel
theorem dL_high_24 : decode cL_high 24 = .ok (.bipush 12, 2) := by decide +kernel
theorem dL_high_26 : decode cL_high 26 = .ok (.ishr, 1) := by decide +kernel
theorem dL_high_27 : decode cL_high 27 = .ok (.iconst 1, 1) := by decide +kernel
theorem dL_high_28 : decode cL_high 28 = .ok (.iand, 1) := by decide +kernel
theorem dL_high_29 : decode cL_high 29 = .ok (.ifCond .ne 8, 3) := by decide +kernel
theorem dL_high_32 : decode cL_high 32 = .ok (.bipush 25, 2) := by decide +kernel
theorem dL_high_34 : decode cL_high 34 = .ok (.goto 5, 3) := by decide +kernel
theorem dL_high_37 : decode cL_high 37 = .ok (.bipush 101, 2) := by decide +kernel
theorem dL_high_39 : decode cL_high 39 = .ok (.irem, 1) := by decide +kernel
theorem dL_high_40 : decode cL_high 40 = .ok (.ireturn, 1) := by decide +kernel
theorem dL_stick_0 : decode cL_stick 0 = .ok (.aload_n 0, 1) := by decide +kernel
theorem dL_stick_1 : decode cL_stick 1 = .ok (.iconst 4, 1) := by decide +kernel
theorem dL_stick_2 : decode cL_stick 2 = .ok (.iload_n 1, 1) := by decide +kernel
theorem dL_stick_3 : decode cL_stick 3 = .ok (.iconst 5, 1) := by decide +kernel
theorem dL_stick_4 : decode cL_stick 4 = .ok (.idiv, 1) := by decide +kernel
theorem dL_stick_5 : decode cL_stick 5 = .ok (.iadd, 1) := by decide +kernel
theorem dL_stick_6 : decode cL_stick 6 = .ok (.invokestatic 69, 3) := by decide +kernel
theorem dL_stick_9 : decode cL_stick 9 = .ok (.iconst 4, 1) := by decide +kernel
theorem dL_stick_10 : decode cL_stick 10 = .ok (.iload_n 1, 1) := by decide +kernel
theorem dL_stick_11 : decode cL_stick 11 = .ok (.iconst 5, 1) := by decide +kernel
theorem dL_stick_12 : decode cL_stick 12 = .ok (.irem, 1) := by decide +kernel
theorem dL_stick_13 : decode cL_stick 13 = .ok (.imul, 1) := by decide +kernel
theorem dL_stick_14 : decode cL_stick 14 = .ok (.ishr, 1) := by decide +kernel
theorem dL_stick_15 : decode cL_stick 15 = .ok (.bipush 15, 2) := by decide +kernel
theorem dL_stick_17 : decode cL_stick 17 = .ok (.iand, 1) := by decide +kernel
theorem dL_stick_18 : decode cL_stick 18 = .ok (.bipush 10, 2) := by decide +kernel
theorem dL_stick_20 : decode cL_stick 20 = .ok (.irem, 1) := by decide +kernel
theorem dL_stick_21 : decode cL_stick 21 = .ok (.ireturn, 1) := by decide +kernel
theorem dL_kind_0 : decode cL_kind 0 = .ok (.aload_n 0, 1) := by decide +kernel
theorem dL_kind_1 : decode cL_kind 1 = .ok (.bipush 6, 2) := by decide +kernel
theorem dL_kind_3 : decode cL_kind 3 = .ok (.invokestatic 69, 3) := by decide +kernel
theorem dL_kind_6 : decode cL_kind 6 = .ok (.bipush 10, 2) := by decide +kernel
theorem dL_kind_8 : decode cL_kind 8 = .ok (.iload_n 1, 1) := by decide +kernel
theorem dL_kind_9 : decode cL_kind 9 = .ok (.imul, 1) := by decide +kernel
theorem dL_kind_10 : decode cL_kind 10 = .ok (.ishr, 1) := by decide +kernel
theorem dL_kind_11 : decode cL_kind 11 = .ok (.bipush 7, 2) := by decide +kernel
theorem dL_kind_13 : decode cL_kind 13 = .ok (.iand, 1) := by decide +kernel
theorem dL_kind_14 : decode cL_kind 14 = .ok (.bipush 6, 2) := by decide +kernel
theorem dL_kind_16 : decode cL_kind 16 = .ok (.irem, 1) := by decide +kernel
theorem dL_kind_17 : decode cL_kind 17 = .ok (.ireturn, 1) := by decide +kernel
theorem dL_more_0 : decode cL_more 0 = .ok (.aload_n 0, 1) := by decide +kernel
theorem dL_more_1 : decode cL_more 1 = .ok (.bipush 6, 2) := by decide +kernel
theorem dL_more_3 : decode cL_more 3 = .ok (.invokestatic 69, 3) := by decide +kernel
theorem dL_more_6 : decode cL_more 6 = .ok (.bipush 10, 2) := by decide +kernel
theorem dL_more_8 : decode cL_more 8 = .ok (.iload_n 1, 1) := by decide +kernel
theorem dL_more_9 : decode cL_more 9 = .ok (.imul, 1) := by decide +kernel
theorem dL_more_10 : decode cL_more 10 = .ok (.iconst 3, 1) := by decide +kernel
theorem dL_more_11 : decode cL_more 11 = .ok (.iadd, 1) := by decide +kernel
theorem dL_more_12 : decode cL_more 12 = .ok (.ishr, 1) := by decide +kernel
theorem dL_more_13 : decode cL_more 13 = .ok (.bipush 15, 2) := by decide +kernel
theorem dL_more_15 : decode cL_more 15 = .ok (.iand, 1) := by decide +kernel
theorem dL_more_16 : decode cL_more 16 = .ok (.bipush 10, 2) := by decide +kernel
theorem dL_more_18 : decode cL_more 18 = .ok (.irem, 1) := by decide +kernel
theorem dL_more_19 : decode cL_more 19 = .ok (.ireturn, 1) := by decide +kernel
theorem dL_from_0 : decode cL_from 0 = .ok (.aload_n 0, 1) := by decide +kernel
theorem dL_from_1 : decode cL_from 1 = .ok (.bipush 7, 2) := by decide +kernel
theorem dL_from_3 : decode cL_from 3 = .ok (.invokestatic 69, 3) := by decide +kernel
theorem dL_from_6 : decode cL_from 6 = .ok (.iconst 4, 1) := by decide +kernel
theorem dL_from_7 : decode cL_from 7 = .ok (.iload_n 1, 1) := by decide +kernel
theorem dL_from_8 : decode cL_from 8 = .ok (.imul, 1) := by decide +kernel
theorem dL_from_9 : decode cL_from 9 = .ok (.ishr, 1) := by decide +kernel
theorem dL_from_10 : decode cL_from 10 = .ok (.bipush 15, 2) := by decide +kernel
theorem dL_from_12 : decode cL_from 12 = .ok (.iand, 1) := by decide +kernel
theorem dL_from_13 : decode cL_from 13 = .ok (.bipush 9, 2) := by decide +kernel
theorem dL_from_15 : decode cL_from 15 = .ok (.irem, 1) := by decide +kernel
theorem dL_from_16 : decode cL_from 16 = .ok (.ireturn, 1) := by decide +kernel
theorem dL_held_0 : decode cL_held 0 = .ok (.iload_n 2, 1) := by decide +kernel
theorem dL_held_1 : decode cL_held 1 = .ok (.i2l, 1) := by decide +kernel
theorem dL_held_2 : decode cL_held 2 = .ok (.iload_n 3, 1) := by decide +kernel
theorem dL_held_3 : decode cL_held 3 = .ok (.i2l, 1) := by decide +kernel
theorem dL_held_4 : decode cL_held 4 = .ok (.lload_n 0, 1) := by decide +kernel
theorem dL_held_5 : decode cL_held 5 = .ok (.invokestatic 95, 3) := by decide +kernel
theorem dL_held_8 : decode cL_held 8 = .ok (.invokestatic 101, 3) := by decide +kernel
theorem dL_held_11 : decode cL_held 11 = .ok (.l2i, 1) := by decide +kernel
theorem dL_held_12 : decode cL_held 12 = .ok (.ireturn, 1) := by decide +kernel
theorem dL_start_0 : decode cL_start 0 = .ok (.iconst 0, 1) := by decide +kernel
theorem dL_start_1 : decode cL_start 1 = .ok (.istore_n 2, 1) := by decide +kernel
theorem dL_start_2 : decode cL_start 2 = .ok (.iload_n 2, 1) := by decide +kernel
theorem dL_start_3 : decode cL_start 3 = .ok (.bipush 9, 2) := by decide +kernel
theorem dL_start_5 : decode cL_start 5 = .ok (.if_icmp .ge 30, 3) := by decide +kernel
theorem dL_start_8 : decode cL_start 8 = .ok (.aload_n 1, 1) := by decide +kernel
theorem dL_start_9 : decode cL_start 9 = .ok (.iload_n 2, 1) := by decide +kernel
theorem dL_start_10 : decode cL_start 10 = .ok (.aload_n 0, 1) := by decide +kernel
theorem dL_start_11 : decode cL_start 11 = .ok (.iload_n 2, 1) := by decide +kernel
theorem dL_start_12 : decode cL_start 12 = .ok (.invokestatic 24, 3) := by decide +kernel
theorem dL_start_15 : decode cL_start 15 = .ok (.i2l, 1) := by decide +kernel
theorem dL_start_16 : decode cL_start 16 = .ok (.lastore, 1) := by decide +kernel
theorem dL_start_17 : decode cL_start 17 = .ok (.aload_n 1, 1) := by decide +kernel
theorem dL_start_18 : decode cL_start 18 = .ok (.bipush 9, 2) := by decide +kernel
theorem dL_start_20 : decode cL_start 20 = .ok (.iload_n 2, 1) := by decide +kernel
theorem dL_start_21 : decode cL_start 21 = .ok (.iadd, 1) := by decide +kernel
theorem dL_start_22 : decode cL_start 22 = .ok (.aload_n 0, 1) := by decide +kernel
theorem dL_start_23 : decode cL_start 23 = .ok (.iload_n 2, 1) := by decide +kernel
theorem dL_start_24 : decode cL_start 24 = .ok (.invokestatic 34, 3) := by decide +kernel
theorem dL_start_27 : decode cL_start 27 = .ok (.i2l, 1) := by decide +kernel
theorem dL_start_28 : decode cL_start 28 = .ok (.lastore, 1) := by decide +kernel
theorem dL_start_29 : decode cL_start 29 = .ok (.iinc 2 1, 3) := by decide +kernel
theorem dL_start_32 : decode cL_start 32 = .ok (.goto (-30), 3) := by decide +kernel
theorem dL_start_35 : decode cL_start 35 = .ok (.iconst 0, 1) := by decide +kernel
theorem dL_start_36 : decode cL_start 36 = .ok (.istore_n 2, 1) := by decide +kernel
theorem dL_start_37 : decode cL_start 37 = .ok (.iload_n 2, 1) := by decide +kernel
theorem dL_start_38 : decode cL_start 38 = .ok (.aload_n 0, 1) := by decide +kernel
theorem dL_start_39 : decode cL_start 39 = .ok (.invokestatic 41, 3) := by decide +kernel
theorem dL_start_42 : decode cL_start 42 = .ok (.if_icmp .ge 33, 3) := by decide +kernel
theorem dL_start_45 : decode cL_start 45 = .ok (.aload_n 1, 1) := by decide +kernel
theorem dL_start_46 : decode cL_start 46 = .ok (.bipush 20, 2) := by decide +kernel
theorem dL_start_48 : decode cL_start 48 = .ok (.iload_n 2, 1) := by decide +kernel
theorem dL_start_49 : decode cL_start 49 = .ok (.iadd, 1) := by decide +kernel
theorem dL_start_50 : decode cL_start 50 = .ok (.aload_n 0, 1) := by decide +kernel
theorem dL_start_51 : decode cL_start 51 = .ok (.iload_n 2, 1) := by decide +kernel
theorem dL_start_52 : decode cL_start 52 = .ok (.invokestatic 44, 3) := by decide +kernel
theorem dL_start_55 : decode cL_start 55 = .ok (.i2l, 1) := by decide +kernel
theorem dL_start_56 : decode cL_start 56 = .ok (.lastore, 1) := by decide +kernel
theorem dL_start_57 : decode cL_start 57 = .ok (.aload_n 1, 1) := by decide +kernel
theorem dL_start_58 : decode cL_start 58 = .ok (.bipush 25, 2) := by decide +kernel
theorem dL_start_60 : decode cL_start 60 = .ok (.iload_n 2, 1) := by decide +kernel
theorem dL_start_61 : decode cL_start 61 = .ok (.iadd, 1) := by decide +kernel
theorem dL_start_62 : decode cL_start 62 = .ok (.aload_n 0, 1) := by decide +kernel
theorem dL_start_63 : decode cL_start 63 = .ok (.iload_n 2, 1) := by decide +kernel
theorem dL_start_64 : decode cL_start 64 = .ok (.invokestatic 50, 3) := by decide +kernel
theorem dL_start_67 : decode cL_start 67 = .ok (.i2l, 1) := by decide +kernel
theorem dL_start_68 : decode cL_start 68 = .ok (.lastore, 1) := by decide +kernel
theorem dL_start_69 : decode cL_start 69 = .ok (.iinc 2 1, 3) := by decide +kernel
theorem dL_start_72 : decode cL_start 72 = .ok (.goto (-35), 3) := by decide +kernel
theorem dL_start_75 : decode cL_start 75 = .ok (.return_, 1) := by decide +kernel
theorem dL_begin_0 : decode cL_begin 0 = .ok (.bipush 30, 2) := by decide +kernel
theorem dL_begin_2 : decode cL_begin 2 = .ok (.istore_n 1, 1) := by decide +kernel
theorem dL_begin_3 : decode cL_begin 3 = .ok (.iload_n 1, 1) := by decide +kernel
theorem dL_begin_4 : decode cL_begin 4 = .ok (.bipush 120, 2) := by decide +kernel
theorem dL_begin_6 : decode cL_begin 6 = .ok (.if_icmp .ge 13, 3) := by decide +kernel
theorem dL_begin_9 : decode cL_begin 9 = .ok (.aload_n 0, 1) := by decide +kernel
theorem dL_begin_10 : decode cL_begin 10 = .ok (.iload_n 1, 1) := by decide +kernel
theorem dL_begin_11 : decode cL_begin 11 = .ok (.lconst 0, 1) := by decide +kernel
theorem dL_begin_12 : decode cL_begin 12 = .ok (.lastore, 1) := by decide +kernel
theorem dL_begin_13 : decode cL_begin 13 = .ok (.iinc 1 1, 3) := by decide +kernel
theorem dL_begin_16 : decode cL_begin 16 = .ok (.goto (-13), 3) := by decide +kernel
theorem dL_begin_19 : decode cL_begin 19 = .ok (.iconst 0, 1) := by decide +kernel
theorem dL_begin_20 : decode cL_begin 20 = .ok (.istore_n 1, 1) := by decide +kernel
theorem dL_begin_21 : decode cL_begin 21 = .ok (.iload_n 1, 1) := by decide +kernel
theorem dL_begin_22 : decode cL_begin 22 = .ok (.iconst 5, 1) := by decide +kernel
theorem dL_begin_23 : decode cL_begin 23 = .ok (.if_icmp .ge 28, 3) := by decide +kernel
theorem dL_begin_26 : decode cL_begin 26 = .ok (.aload_n 0, 1) := by decide +kernel
theorem dL_begin_27 : decode cL_begin 27 = .ok (.bipush 30, 2) := by decide +kernel
theorem dL_begin_29 : decode cL_begin 29 = .ok (.iload_n 1, 1) := by decide +kernel
theorem dL_begin_30 : decode cL_begin 30 = .ok (.iadd, 1) := by decide +kernel
theorem dL_begin_31 : decode cL_begin 31 = .ok (.aload_n 0, 1) := by decide +kernel
theorem dL_begin_32 : decode cL_begin 32 = .ok (.bipush 25, 2) := by decide +kernel
theorem dL_begin_34 : decode cL_begin 34 = .ok (.iload_n 1, 1) := by decide +kernel
theorem dL_begin_35 : decode cL_begin 35 = .ok (.iadd, 1) := by decide +kernel
theorem dL_begin_36 : decode cL_begin 36 = .ok (.laload, 1) := by decide +kernel
theorem dL_begin_37 : decode cL_begin 37 = .ok (.lastore, 1) := by decide +kernel
theorem dL_begin_38 : decode cL_begin 38 = .ok (.aload_n 0, 1) := by decide +kernel
theorem dL_begin_39 : decode cL_begin 39 = .ok (.bipush 35, 2) := by decide +kernel
theorem dL_begin_41 : decode cL_begin 41 = .ok (.iload_n 1, 1) := by decide +kernel
theorem dL_begin_42 : decode cL_begin 42 = .ok (.iadd, 1) := by decide +kernel
theorem dL_begin_43 : decode cL_begin 43 = .ok (.lconst 1, 1) := by decide +kernel
theorem dL_begin_44 : decode cL_begin 44 = .ok (.lastore, 1) := by decide +kernel
theorem dL_begin_45 : decode cL_begin 45 = .ok (.iinc 1 1, 3) := by decide +kernel
theorem dL_begin_48 : decode cL_begin 48 = .ok (.goto (-27), 3) := by decide +kernel
theorem dL_begin_51 : decode cL_begin 51 = .ok (.iconst 0, 1) := by decide +kernel
theorem dL_begin_52 : decode cL_begin 52 = .ok (.istore_n 1, 1) := by decide +kernel
theorem dL_begin_53 : decode cL_begin 53 = .ok (.iload_n 1, 1) := by decide +kernel
theorem dL_begin_54 : decode cL_begin 54 = .ok (.bipush 9, 2) := by decide +kernel
theorem dL_begin_56 : decode cL_begin 56 = .ok (.if_icmp .ge 27, 3) := by decide +kernel
theorem dL_begin_59 : decode cL_begin 59 = .ok (.aload_n 0, 1) := by decide +kernel
theorem dL_begin_60 : decode cL_begin 60 = .ok (.bipush 70, 2) := by decide +kernel
theorem dL_begin_62 : decode cL_begin 62 = .ok (.iload_n 1, 1) := by decide +kernel
theorem dL_begin_63 : decode cL_begin 63 = .ok (.iadd, 1) := by decide +kernel
theorem dL_begin_64 : decode cL_begin 64 = .ok (.aload_n 0, 1) := by decide +kernel
theorem dL_begin_65 : decode cL_begin 65 = .ok (.iload_n 1, 1) := by decide +kernel
theorem dL_begin_66 : decode cL_begin 66 = .ok (.laload, 1) := by decide +kernel
theorem dL_begin_67 : decode cL_begin 67 = .ok (.lastore, 1) := by decide +kernel
theorem dL_begin_68 : decode cL_begin 68 = .ok (.aload_n 0, 1) := by decide +kernel
theorem dL_begin_69 : decode cL_begin 69 = .ok (.bipush 90, 2) := by decide +kernel
theorem dL_begin_71 : decode cL_begin 71 = .ok (.iload_n 1, 1) := by decide +kernel
theorem dL_begin_72 : decode cL_begin 72 = .ok (.iadd, 1) := by decide +kernel
theorem dL_begin_73 : decode cL_begin 73 = .ok (.ldc2_w 104, 3) := by decide +kernel
theorem dL_begin_76 : decode cL_begin 76 = .ok (.lastore, 1) := by decide +kernel
theorem dL_begin_77 : decode cL_begin 77 = .ok (.iinc 1 1, 3) := by decide +kernel
theorem dL_begin_80 : decode cL_begin 80 = .ok (.goto (-27), 3) := by decide +kernel
theorem dL_begin_83 : decode cL_begin 83 = .ok (.aload_n 0, 1) := by decide +kernel
theorem dL_begin_84 : decode cL_begin 84 = .ok (.bipush 104, 2) := by decide +kernel
theorem dL_begin_86 : decode cL_begin 86 = .ok (.ldc2_w 104, 3) := by decide +kernel
theorem dL_begin_89 : decode cL_begin 89 = .ok (.lastore, 1) := by decide +kernel
theorem dL_begin_90 : decode cL_begin 90 = .ok (.return_, 1) := by decide +kernel
theorem dL_takes_0 : decode cL_takes 0 = .ok (.aload_n 0, 1) := by decide +kernel
theorem dL_takes_1 : decode cL_takes 1 = .ok (.invokestatic 56, 3) := by decide +kernel
theorem dL_takes_4 : decode cL_takes 4 = .ok (.ifCond .eq 7, 3) := by decide +kernel
theorem dL_takes_7 : decode cL_takes 7 = .ok (.iconst 2, 1) := by decide +kernel
theorem dL_takes_8 : decode cL_takes 8 = .ok (.goto 27, 3) := by decide +kernel
theorem dL_takes_11 : decode cL_takes 11 = .ok (.lconst 1, 1) := by decide +kernel
theorem dL_takes_12 : decode cL_takes 12 = .ok (.lload_n 3, 1) := by decide +kernel
theorem dL_takes_13 : decode cL_takes 13 = .ok (.aload_n 0, 1) := by decide +kernel
theorem dL_takes_14 : decode cL_takes 14 = .ok (.iconst 0, 1) := by decide +kernel
theorem dL_takes_15 : decode cL_takes 15 = .ok (.invokestatic 69, 3) := by decide +kernel
theorem dL_takes_18 : decode cL_takes 18 = .ok (.bipush 6, 2) := by decide +kernel
theorem dL_takes_20 : decode cL_takes 20 = .ok (.ishr, 1) := by decide +kernel
theorem dL_takes_21 : decode cL_takes 21 = .ok (.iconst 1, 1) := by decide +kernel
theorem dL_takes_22 : decode cL_takes 22 = .ok (.iand, 1) := by decide +kernel
theorem dL_takes_23 : decode cL_takes 23 = .ok (.i2l, 1) := by decide +kernel
theorem dL_takes_24 : decode cL_takes 24 = .ok (.lmul, 1) := by decide +kernel
theorem dL_takes_25 : decode cL_takes 25 = .ok (.ladd, 1) := by decide +kernel
theorem dL_takes_26 : decode cL_takes 26 = .ok (.lload 5, 2) := by decide +kernel
theorem dL_takes_28 : decode cL_takes 28 = .ok (.ladd, 1) := by decide +kernel
theorem dL_takes_29 : decode cL_takes 29 = .ok (.iconst 1, 1) := by decide +kernel
theorem dL_takes_30 : decode cL_takes 30 = .ok (.bipush 20, 2) := by decide +kernel
theorem dL_takes_32 : decode cL_takes 32 = .ok (.invokestatic 106, 3) := by decide +kernel
theorem dL_takes_35 : decode cL_takes 35 = .ok (.istore 7, 2) := by decide +kernel
theorem dL_takes_37 : decode cL_takes 37 = .ok (.aload_n 1, 1) := by decide +kernel
theorem dL_takes_38 : decode cL_takes 38 = .ok (.bipush 20, 2) := by decide +kernel
theorem dL_takes_40 : decode cL_takes 40 = .ok (.iload_n 2, 1) := by decide +kernel
theorem dL_takes_41 : decode cL_takes 41 = .ok (.iadd, 1) := by decide +kernel
theorem dL_takes_42 : decode cL_takes 42 = .ok (.laload, 1) := by decide +kernel
theorem dL_takes_43 : decode cL_takes 43 = .ok (.l2i, 1) := by decide +kernel
theorem dL_takes_44 : decode cL_takes 44 = .ok (.istore 8, 2) := by decide +kernel
theorem dL_takes_46 : decode cL_takes 46 = .ok (.aload_n 0, 1) := by decide +kernel
theorem dL_takes_47 : decode cL_takes 47 = .ok (.iload_n 2, 1) := by decide +kernel
theorem dL_takes_48 : decode cL_takes 48 = .ok (.invokestatic 47, 3) := by decide +kernel
theorem dL_takes_51 : decode cL_takes 51 = .ok (.istore 9, 2) := by decide +kernel
theorem dL_takes_53 : decode cL_takes 53 = .ok (.iload 8, 2) := by decide +kernel
theorem dL_takes_55 : decode cL_takes 55 = .ok (.iconst 2, 1) := by decide +kernel
theorem dL_takes_56 : decode cL_takes 56 = .ok (.if_icmp .eq 9, 3) := by decide +kernel
theorem dL_takes_59 : decode cL_takes 59 = .ok (.iload 8, 2) := by decide +kernel
theorem dL_takes_61 : decode cL_takes 61 = .ok (.iconst 4, 1) := by decide +kernel
theorem dL_takes_62 : decode cL_takes 62 = .ok (.if_icmp .ne 12, 3) := by decide +kernel
theorem dL_takes_65 : decode cL_takes 65 = .ok (.iload 7, 2) := by decide +kernel
theorem dL_takes_67 : decode cL_takes 67 = .ok (.iload 9, 2) := by decide +kernel
theorem dL_takes_69 : decode cL_takes 69 = .ok (.iconst 2, 1) := by decide +kernel
theorem dL_takes_70 : decode cL_takes 70 = .ok (.idiv, 1) := by decide +kernel
theorem dL_takes_71 : decode cL_takes 71 = .ok (.iadd, 1) := by decide +kernel
theorem dL_takes_72 : decode cL_takes 72 = .ok (.istore 7, 2) := by decide +kernel
theorem dL_takes_74 : decode cL_takes 74 = .ok (.iload 8, 2) := by decide +kernel
theorem dL_takes_76 : decode cL_takes 76 = .ok (.iconst 3, 1) := by decide +kernel
theorem dL_takes_77 : decode cL_takes 77 = .ok (.if_icmp .ne 6, 3) := by decide +kernel
theorem dL_takes_80 : decode cL_takes 80 = .ok (.iinc 7 1, 3) := by decide +kernel
theorem dL_takes_83 : decode cL_takes 83 = .ok (.iload 8, 2) := by decide +kernel
theorem dL_takes_85 : decode cL_takes 85 = .ok (.iconst 4, 1) := by decide +kernel
theorem dL_takes_86 : decode cL_takes 86 = .ok (.if_icmp .ne 22, 3) := by decide +kernel
theorem dL_takes_89 : decode cL_takes 89 = .ok (.iload 7, 2) := by decide +kernel
theorem dL_takes_91 : decode cL_takes 91 = .ok (.lload 5, 2) := by decide +kernel
theorem dL_takes_93 : decode cL_takes 93 = .ok (.iload 9, 2) := by decide +kernel
theorem dL_takes_95 : decode cL_takes 95 = .ok (.i2l, 1) := by decide +kernel
theorem dL_takes_96 : decode cL_takes 96 = .ok (.lcmp, 1) := by decide +kernel
theorem dL_takes_97 : decode cL_takes 97 = .ok (.ifCond .le 7, 3) := by decide +kernel
theorem dL_takes_100 : decode cL_takes 100 = .ok (.iconst 2, 1) := by decide +kernel
theorem dL_takes_101 : decode cL_takes 101 = .ok (.goto 4, 3) := by decide +kernel
theorem dL_takes_104 : decode cL_takes 104 = .ok (.iconst 1, 1) := by decide +kernel
theorem dL_takes_105 : decode cL_takes 105 = .ok (.iadd, 1) := by decide +kernel
theorem dL_takes_106 : decode cL_takes 106 = .ok (.istore 7, 2) := by decide +kernel
theorem dL_takes_108 : decode cL_takes 108 = .ok (.iload 8, 2) := by decide +kernel
theorem dL_takes_110 : decode cL_takes 110 = .ok (.iconst 5, 1) := by decide +kernel
theorem dL_takes_111 : decode cL_takes 111 = .ok (.if_icmp .ne 18, 3) := by decide +kernel
theorem dL_takes_114 : decode cL_takes 114 = .ok (.lload 5, 2) := by decide +kernel
theorem dL_takes_116 : decode cL_takes 116 = .ok (.iload 9, 2) := by decide +kernel
theorem dL_takes_118 : decode cL_takes 118 = .ok (.i2l, 1) := by decide +kernel
theorem dL_takes_119 : decode cL_takes 119 = .ok (.lcmp, 1) := by decide +kernel
theorem dL_takes_120 : decode cL_takes 120 = .ok (.ifCond .lt 9, 3) := by decide +kernel
theorem dL_takes_123 : decode cL_takes 123 = .ok (.iload 7, 2) := by decide +kernel
theorem dL_takes_125 : decode cL_takes 125 = .ok (.iconst 2, 1) := by decide +kernel
theorem dL_takes_126 : decode cL_takes 126 = .ok (.idiv, 1) := by decide +kernel
theorem dL_takes_127 : decode cL_takes 127 = .ok (.istore 7, 2) := by decide +kernel
theorem dL_takes_129 : decode cL_takes 129 = .ok (.iconst 1, 1) := by decide +kernel
theorem dL_takes_130 : decode cL_takes 130 = .ok (.iload 7, 2) := by decide +kernel
theorem dL_takes_132 : decode cL_takes 132 = .ok (.invokestatic 110, 3) := by decide +kernel
theorem dL_takes_135 : decode cL_takes 135 = .ok (.ireturn, 1) := by decide +kernel
theorem dL_steps_0 : decode cL_steps 0 = .ok (.aload_n 0, 1) := by decide +kernel
theorem dL_steps_1 : decode cL_steps 1 = .ok (.invokestatic 56, 3) := by decide +kernel
theorem dL_steps_4 : decode cL_steps 4 = .ok (.ifCond .eq 7, 3) := by decide +kernel
theorem dL_steps_7 : decode cL_steps 7 = .ok (.iconst 1, 1) := by decide +kernel
theorem dL_steps_8 : decode cL_steps 8 = .ok (.goto 29, 3) := by decide +kernel
theorem dL_steps_11 : decode cL_steps 11 = .ok (.aload_n 0, 1) := by decide +kernel
theorem dL_steps_12 : decode cL_steps 12 = .ok (.invokestatic 41, 3) := by decide +kernel
theorem dL_steps_15 : decode cL_steps 15 = .ok (.iload_n 2, 1) := by decide +kernel
theorem dL_steps_16 : decode cL_steps 16 = .ok (.aload_n 0, 1) := by decide +kernel
theorem dL_steps_17 : decode cL_steps 17 = .ok (.iconst 0, 1) := by decide +kernel
theorem dL_steps_18 : decode cL_steps 18 = .ok (.invokestatic 69, 3) := by decide +kernel
theorem dL_steps_21 : decode cL_steps 21 = .ok (.bipush 7, 2) := by decide +kernel
theorem dL_steps_23 : decode cL_steps 23 = .ok (.ishr, 1) := by decide +kernel
theorem dL_steps_24 : decode cL_steps 24 = .ok (.iconst 3, 1) := by decide +kernel
theorem dL_steps_25 : decode cL_steps 25 = .ok (.iand, 1) := by decide +kernel
theorem dL_steps_26 : decode cL_steps 26 = .ok (.imul, 1) := by decide +kernel
theorem dL_steps_27 : decode cL_steps 27 = .ok (.iadd, 1) := by decide +kernel
theorem dL_steps_28 : decode cL_steps 28 = .ok (.i2l, 1) := by decide +kernel
theorem dL_steps_29 : decode cL_steps 29 = .ok (.lload_n 3, 1) := by decide +kernel
theorem dL_steps_30 : decode cL_steps 30 = .ok (.lsub, 1) := by decide +kernel
theorem dL_steps_31 : decode cL_steps 31 = .ok (.iconst 1, 1) := by decide +kernel
theorem dL_steps_32 : decode cL_steps 32 = .ok (.bipush 20, 2) := by decide +kernel
theorem dL_steps_34 : decode cL_steps 34 = .ok (.invokestatic 106, 3) := by decide +kernel
theorem dL_steps_37 : decode cL_steps 37 = .ok (.istore 5, 2) := by decide +kernel
theorem dL_steps_39 : decode cL_steps 39 = .ok (.aload_n 1, 1) := by decide +kernel
theorem dL_steps_40 : decode cL_steps 40 = .ok (.bipush 20, 2) := by decide +kernel
theorem dL_steps_42 : decode cL_steps 42 = .ok (.iload_n 2, 1) := by decide +kernel
theorem dL_steps_43 : decode cL_steps 43 = .ok (.iadd, 1) := by decide +kernel
theorem dL_steps_44 : decode cL_steps 44 = .ok (.laload, 1) := by decide +kernel
theorem dL_steps_45 : decode cL_steps 45 = .ok (.l2i, 1) := by decide +kernel
theorem dL_steps_46 : decode cL_steps 46 = .ok (.istore 6, 2) := by decide +kernel
theorem dL_steps_48 : decode cL_steps 48 = .ok (.iconst 1, 1) := by decide +kernel
theorem dL_steps_49 : decode cL_steps 49 = .ok (.iload 6, 2) := by decide +kernel
theorem dL_steps_51 : decode cL_steps 51 = .ok (.iconst 1, 1) := by decide +kernel
theorem dL_steps_52 : decode cL_steps 52 = .ok (.if_icmp .eq 9, 3) := by decide +kernel
theorem dL_steps_55 : decode cL_steps 55 = .ok (.iload 6, 2) := by decide +kernel
theorem dL_steps_57 : decode cL_steps 57 = .ok (.iconst 3, 1) := by decide +kernel
theorem dL_steps_58 : decode cL_steps 58 = .ok (.if_icmp .ne 16, 3) := by decide +kernel
theorem dL_steps_61 : decode cL_steps 61 = .ok (.iload 5, 2) := by decide +kernel
theorem dL_steps_63 : decode cL_steps 63 = .ok (.aload_n 0, 1) := by decide +kernel
theorem dL_steps_64 : decode cL_steps 64 = .ok (.iload_n 2, 1) := by decide +kernel
theorem dL_steps_65 : decode cL_steps 65 = .ok (.invokestatic 47, 3) := by decide +kernel
theorem dL_steps_68 : decode cL_steps 68 = .ok (.iconst 3, 1) := by decide +kernel
theorem dL_steps_69 : decode cL_steps 69 = .ok (.idiv, 1) := by decide +kernel
theorem dL_steps_70 : decode cL_steps 70 = .ok (.isub, 1) := by decide +kernel
theorem dL_steps_71 : decode cL_steps 71 = .ok (.goto 18, 3) := by decide +kernel
theorem dL_steps_74 : decode cL_steps 74 = .ok (.iload 6, 2) := by decide +kernel
theorem dL_steps_76 : decode cL_steps 76 = .ok (.iconst 4, 1) := by decide +kernel
theorem dL_steps_77 : decode cL_steps 77 = .ok (.if_icmp .ne 10, 3) := by decide +kernel
theorem dL_steps_80 : decode cL_steps 80 = .ok (.iconst 2, 1) := by decide +kernel
theorem dL_steps_81 : decode cL_steps 81 = .ok (.iload 5, 2) := by decide +kernel
theorem dL_steps_83 : decode cL_steps 83 = .ok (.imul, 1) := by decide +kernel
theorem dL_steps_84 : decode cL_steps 84 = .ok (.goto 5, 3) := by decide +kernel
theorem dL_steps_87 : decode cL_steps 87 = .ok (.iload 5, 2) := by decide +kernel
theorem dL_steps_89 : decode cL_steps 89 = .ok (.invokestatic 110, 3) := by decide +kernel
theorem dL_steps_92 : decode cL_steps 92 = .ok (.ireturn, 1) := by decide +kernel
theorem dL_lift_0 : decode cL_lift 0 = .ok (.aload_n 1, 1) := by decide +kernel
theorem dL_lift_1 : decode cL_lift 1 = .ok (.bipush 30, 2) := by decide +kernel
theorem dL_lift_3 : decode cL_lift 3 = .ok (.iload_n 2, 1) := by decide +kernel
theorem dL_lift_4 : decode cL_lift 4 = .ok (.iadd, 1) := by decide +kernel
theorem dL_lift_5 : decode cL_lift 5 = .ok (.laload, 1) := by decide +kernel
theorem dL_lift_6 : decode cL_lift 6 = .ok (.l2i, 1) := by decide +kernel
theorem dL_lift_7 : decode cL_lift 7 = .ok (.istore 4, 2) := by decide +kernel
theorem dL_lift_9 : decode cL_lift 9 = .ok (.aload_n 1, 1) := by decide +kernel
theorem dL_lift_10 : decode cL_lift 10 = .ok (.bipush 45, 2) := by decide +kernel
theorem dL_lift_12 : decode cL_lift 12 = .ok (.iload_n 2, 1) := by decide +kernel
theorem dL_lift_13 : decode cL_lift 13 = .ok (.iadd, 1) := by decide +kernel
theorem dL_lift_14 : decode cL_lift 14 = .ok (.dup2, 1) := by decide +kernel
theorem dL_lift_15 : decode cL_lift 15 = .ok (.laload, 1) := by decide +kernel
theorem dL_lift_16 : decode cL_lift 16 = .ok (.lconst 1, 1) := by decide +kernel
theorem dL_lift_17 : decode cL_lift 17 = .ok (.ladd, 1) := by decide +kernel
theorem dL_lift_18 : decode cL_lift 18 = .ok (.lastore, 1) := by decide +kernel
theorem dL_lift_19 : decode cL_lift 19 = .ok (.aload_n 1, 1) := by decide +kernel
theorem dL_lift_20 : decode cL_lift 20 = .ok (.bipush 70, 2) := by decide +kernel
theorem dL_lift_22 : decode cL_lift 22 = .ok (.iload 4, 2) := by decide +kernel
theorem dL_lift_24 : decode cL_lift 24 = .ok (.iadd, 1) := by decide +kernel
theorem dL_lift_25 : decode cL_lift 25 = .ok (.laload, 1) := by decide +kernel
theorem dL_lift_26 : decode cL_lift 26 = .ok (.lconst 0, 1) := by decide +kernel
theorem dL_lift_27 : decode cL_lift 27 = .ok (.lcmp, 1) := by decide +kernel
theorem dL_lift_28 : decode cL_lift 28 = .ok (.ifCond .ne 26, 3) := by decide +kernel
theorem dL_lift_31 : decode cL_lift 31 = .ok (.aload_n 1, 1) := by decide +kernel
theorem dL_lift_32 : decode cL_lift 32 = .ok (.bipush 100, 2) := by decide +kernel
theorem dL_lift_34 : decode cL_lift 34 = .ok (.dup2, 1) := by decide +kernel
theorem dL_lift_35 : decode cL_lift 35 = .ok (.laload, 1) := by decide +kernel
theorem dL_lift_36 : decode cL_lift 36 = .ok (.lconst 1, 1) := by decide +kernel
theorem dL_lift_37 : decode cL_lift 37 = .ok (.iload 4, 2) := by decide +kernel
theorem dL_lift_39 : decode cL_lift 39 = .ok (.lshl, 1) := by decide +kernel
theorem dL_lift_40 : decode cL_lift 40 = .ok (.lor, 1) := by decide +kernel
theorem dL_lift_41 : decode cL_lift 41 = .ok (.lastore, 1) := by decide +kernel
theorem dL_lift_42 : decode cL_lift 42 = .ok (.aload_n 1, 1) := by decide +kernel
theorem dL_lift_43 : decode cL_lift 43 = .ok (.bipush 60, 2) := by decide +kernel
theorem dL_lift_45 : decode cL_lift 45 = .ok (.iload_n 2, 1) := by decide +kernel
theorem dL_lift_46 : decode cL_lift 46 = .ok (.iadd, 1) := by decide +kernel
theorem dL_lift_47 : decode cL_lift 47 = .ok (.ldc2_w 113, 3) := by decide +kernel
theorem dL_lift_50 : decode cL_lift 50 = .ok (.lastore, 1) := by decide +kernel
theorem dL_lift_51 : decode cL_lift 51 = .ok (.goto 129, 3) := by decide +kernel
theorem dL_lift_54 : decode cL_lift 54 = .ok (.aload_n 1, 1) := by decide +kernel
theorem dL_lift_55 : decode cL_lift 55 = .ok (.bipush 80, 2) := by decide +kernel
theorem dL_lift_57 : decode cL_lift 57 = .ok (.iload 4, 2) := by decide +kernel
theorem dL_lift_59 : decode cL_lift 59 = .ok (.iadd, 1) := by decide +kernel
theorem dL_lift_60 : decode cL_lift 60 = .ok (.dup2, 1) := by decide +kernel
theorem dL_lift_61 : decode cL_lift 61 = .ok (.laload, 1) := by decide +kernel
theorem dL_lift_62 : decode cL_lift 62 = .ok (.lconst 1, 1) := by decide +kernel
theorem dL_lift_63 : decode cL_lift 63 = .ok (.ladd, 1) := by decide +kernel
theorem dL_lift_64 : decode cL_lift 64 = .ok (.lastore, 1) := by decide +kernel
theorem dL_lift_65 : decode cL_lift 65 = .ok (.aload_n 1, 1) := by decide +kernel
theorem dL_lift_66 : decode cL_lift 66 = .ok (.bipush 9, 2) := by decide +kernel
theorem dL_lift_68 : decode cL_lift 68 = .ok (.iload 4, 2) := by decide +kernel
theorem dL_lift_70 : decode cL_lift 70 = .ok (.iadd, 1) := by decide +kernel
theorem dL_lift_71 : decode cL_lift 71 = .ok (.laload, 1) := by decide +kernel
theorem dL_lift_72 : decode cL_lift 72 = .ok (.lconst 0, 1) := by decide +kernel
theorem dL_lift_73 : decode cL_lift 73 = .ok (.lcmp, 1) := by decide +kernel
theorem dL_lift_74 : decode cL_lift 74 = .ok (.ifCond .le 39, 3) := by decide +kernel
theorem dL_lift_77 : decode cL_lift 77 = .ok (.aload_n 1, 1) := by decide +kernel
theorem dL_lift_78 : decode cL_lift 78 = .ok (.bipush 80, 2) := by decide +kernel
theorem dL_lift_80 : decode cL_lift 80 = .ok (.iload 4, 2) := by decide +kernel
theorem dL_lift_82 : decode cL_lift 82 = .ok (.iadd, 1) := by decide +kernel
theorem dL_lift_83 : decode cL_lift 83 = .ok (.laload, 1) := by decide +kernel
theorem dL_lift_84 : decode cL_lift 84 = .ok (.aload_n 1, 1) := by decide +kernel
theorem dL_lift_85 : decode cL_lift 85 = .ok (.bipush 9, 2) := by decide +kernel
theorem dL_lift_87 : decode cL_lift 87 = .ok (.iload 4, 2) := by decide +kernel
theorem dL_lift_89 : decode cL_lift 89 = .ok (.iadd, 1) := by decide +kernel
theorem dL_lift_90 : decode cL_lift 90 = .ok (.laload, 1) := by decide +kernel
theorem dL_lift_91 : decode cL_lift 91 = .ok (.lrem, 1) := by decide +kernel
theorem dL_lift_92 : decode cL_lift 92 = .ok (.lconst 0, 1) := by decide +kernel
theorem dL_lift_93 : decode cL_lift 93 = .ok (.lcmp, 1) := by decide +kernel
theorem dL_lift_94 : decode cL_lift 94 = .ok (.ifCond .ne 19, 3) := by decide +kernel
theorem dL_lift_97 : decode cL_lift 97 = .ok (.aload_n 1, 1) := by decide +kernel
theorem dL_lift_98 : decode cL_lift 98 = .ok (.bipush 70, 2) := by decide +kernel
theorem dL_lift_100 : decode cL_lift 100 = .ok (.iload 4, 2) := by decide +kernel
theorem dL_lift_102 : decode cL_lift 102 = .ok (.iadd, 1) := by decide +kernel
theorem dL_lift_103 : decode cL_lift 103 = .ok (.laload, 1) := by decide +kernel
theorem dL_lift_104 : decode cL_lift 104 = .ok (.lconst 1, 1) := by decide +kernel
theorem dL_lift_105 : decode cL_lift 105 = .ok (.lcmp, 1) := by decide +kernel
theorem dL_lift_106 : decode cL_lift 106 = .ok (.ifCond .le 7, 3) := by decide +kernel
theorem dL_lift_109 : decode cL_lift 109 = .ok (.iconst 1, 1) := by decide +kernel
theorem dL_lift_110 : decode cL_lift 110 = .ok (.goto 4, 3) := by decide +kernel
theorem dL_lift_113 : decode cL_lift 113 = .ok (.iconst 0, 1) := by decide +kernel
theorem dL_lift_114 : decode cL_lift 114 = .ok (.istore 5, 2) := by decide +kernel
theorem dL_lift_116 : decode cL_lift 116 = .ok (.aload_n 1, 1) := by decide +kernel
theorem dL_lift_117 : decode cL_lift 117 = .ok (.bipush 70, 2) := by decide +kernel
theorem dL_lift_119 : decode cL_lift 119 = .ok (.iload 4, 2) := by decide +kernel
theorem dL_lift_121 : decode cL_lift 121 = .ok (.iadd, 1) := by decide +kernel
theorem dL_lift_122 : decode cL_lift 122 = .ok (.dup2, 1) := by decide +kernel
theorem dL_lift_123 : decode cL_lift 123 = .ok (.laload, 1) := by decide +kernel
theorem dL_lift_124 : decode cL_lift 124 = .ok (.iload 5, 2) := by decide +kernel
theorem dL_lift_126 : decode cL_lift 126 = .ok (.ifCond .eq 9, 3) := by decide +kernel
theorem dL_lift_129 : decode cL_lift 129 = .ok (.ldc2_w 113, 3) := by decide +kernel
theorem dL_lift_132 : decode cL_lift 132 = .ok (.goto 4, 3) := by decide +kernel
theorem dL_lift_135 : decode cL_lift 135 = .ok (.lconst 1, 1) := by decide +kernel
theorem dL_lift_136 : decode cL_lift 136 = .ok (.lsub, 1) := by decide +kernel
theorem dL_lift_137 : decode cL_lift 137 = .ok (.lastore, 1) := by decide +kernel
theorem dL_lift_138 : decode cL_lift 138 = .ok (.iload 5, 2) := by decide +kernel
theorem dL_lift_140 : decode cL_lift 140 = .ok (.ifCond .eq 19, 3) := by decide +kernel
theorem dL_lift_143 : decode cL_lift 143 = .ok (.aload_n 1, 1) := by decide +kernel
theorem dL_lift_144 : decode cL_lift 144 = .ok (.bipush 60, 2) := by decide +kernel
theorem dL_lift_146 : decode cL_lift 146 = .ok (.iload_n 2, 1) := by decide +kernel
theorem dL_lift_147 : decode cL_lift 147 = .ok (.iadd, 1) := by decide +kernel
theorem dL_lift_148 : decode cL_lift 148 = .ok (.aload_n 1, 1) := by decide +kernel
theorem dL_lift_149 : decode cL_lift 149 = .ok (.bipush 60, 2) := by decide +kernel
theorem dL_lift_151 : decode cL_lift 151 = .ok (.iload_n 2, 1) := by decide +kernel
theorem dL_lift_152 : decode cL_lift 152 = .ok (.iadd, 1) := by decide +kernel
theorem dL_lift_153 : decode cL_lift 153 = .ok (.laload, 1) := by decide +kernel
theorem dL_lift_154 : decode cL_lift 154 = .ok (.lconst 1, 1) := by decide +kernel
theorem dL_lift_155 : decode cL_lift 155 = .ok (.invokestatic 101, 3) := by decide +kernel
theorem dL_lift_158 : decode cL_lift 158 = .ok (.lastore, 1) := by decide +kernel
theorem dL_lift_159 : decode cL_lift 159 = .ok (.aload_n 1, 1) := by decide +kernel
theorem dL_lift_160 : decode cL_lift 160 = .ok (.bipush 70, 2) := by decide +kernel
theorem dL_lift_162 : decode cL_lift 162 = .ok (.iload 4, 2) := by decide +kernel
theorem dL_lift_164 : decode cL_lift 164 = .ok (.iadd, 1) := by decide +kernel
theorem dL_lift_165 : decode cL_lift 165 = .ok (.laload, 1) := by decide +kernel
theorem dL_lift_166 : decode cL_lift 166 = .ok (.lconst 0, 1) := by decide +kernel
theorem dL_lift_167 : decode cL_lift 167 = .ok (.lcmp, 1) := by decide +kernel
theorem dL_lift_168 : decode cL_lift 168 = .ok (.ifCond .ne 12, 3) := by decide +kernel
theorem dL_lift_171 : decode cL_lift 171 = .ok (.aload_n 1, 1) := by decide +kernel
theorem dL_lift_172 : decode cL_lift 172 = .ok (.bipush 90, 2) := by decide +kernel
theorem dL_lift_174 : decode cL_lift 174 = .ok (.iload 4, 2) := by decide +kernel
theorem dL_lift_176 : decode cL_lift 176 = .ok (.iadd, 1) := by decide +kernel
theorem dL_lift_177 : decode cL_lift 177 = .ok (.iload_n 3, 1) := by decide +kernel
theorem dL_lift_178 : decode cL_lift 178 = .ok (.i2l, 1) := by decide +kernel
theorem dL_lift_179 : decode cL_lift 179 = .ok (.lastore, 1) := by decide +kernel
theorem dL_lift_180 : decode cL_lift 180 = .ok (.aload_n 1, 1) := by decide +kernel
theorem dL_lift_181 : decode cL_lift 181 = .ok (.bipush 45, 2) := by decide +kernel
theorem dL_lift_183 : decode cL_lift 183 = .ok (.iload_n 2, 1) := by decide +kernel
theorem dL_lift_184 : decode cL_lift 184 = .ok (.iadd, 1) := by decide +kernel
theorem dL_lift_185 : decode cL_lift 185 = .ok (.laload, 1) := by decide +kernel
theorem dL_lift_186 : decode cL_lift 186 = .ok (.ldc2_w 115, 3) := by decide +kernel
theorem dL_lift_189 : decode cL_lift 189 = .ok (.lcmp, 1) := by decide +kernel
theorem dL_lift_190 : decode cL_lift 190 = .ok (.ifCond .ge 4, 3) := by decide +kernel
theorem dL_lift_193 : decode cL_lift 193 = .ok (.return_, 1) := by decide +kernel
theorem dL_lift_194 : decode cL_lift 194 = .ok (.aload_n 1, 1) := by decide +kernel
theorem dL_lift_195 : decode cL_lift 195 = .ok (.bipush 60, 2) := by decide +kernel
theorem dL_lift_197 : decode cL_lift 197 = .ok (.iload_n 2, 1) := by decide +kernel
theorem dL_lift_198 : decode cL_lift 198 = .ok (.iadd, 1) := by decide +kernel
theorem dL_lift_199 : decode cL_lift 199 = .ok (.laload, 1) := by decide +kernel
theorem dL_lift_200 : decode cL_lift 200 = .ok (.lconst 0, 1) := by decide +kernel
theorem dL_lift_201 : decode cL_lift 201 = .ok (.lcmp, 1) := by decide +kernel
theorem dL_lift_202 : decode cL_lift 202 = .ok (.ifCond .le 45, 3) := by decide +kernel
theorem dL_lift_205 : decode cL_lift 205 = .ok (.aload_n 1, 1) := by decide +kernel
theorem dL_lift_206 : decode cL_lift 206 = .ok (.bipush 110, 2) := by decide +kernel
theorem dL_lift_208 : decode cL_lift 208 = .ok (.aload_n 1, 1) := by decide +kernel
theorem dL_lift_209 : decode cL_lift 209 = .ok (.bipush 101, 2) := by decide +kernel
theorem dL_lift_211 : decode cL_lift 211 = .ok (.laload, 1) := by decide +kernel
theorem dL_lift_212 : decode cL_lift 212 = .ok (.l2i, 1) := by decide +kernel
theorem dL_lift_213 : decode cL_lift 213 = .ok (.bipush 60, 2) := by decide +kernel
theorem dL_lift_215 : decode cL_lift 215 = .ok (.idiv, 1) := by decide +kernel
theorem dL_lift_216 : decode cL_lift 216 = .ok (.iadd, 1) := by decide +kernel
theorem dL_lift_217 : decode cL_lift 217 = .ok (.dup2, 1) := by decide +kernel
theorem dL_lift_218 : decode cL_lift 218 = .ok (.laload, 1) := by decide +kernel
theorem dL_lift_219 : decode cL_lift 219 = .ok (.lconst 1, 1) := by decide +kernel
theorem dL_lift_220 : decode cL_lift 220 = .ok (.aload_n 1, 1) := by decide +kernel
theorem dL_lift_221 : decode cL_lift 221 = .ok (.bipush 101, 2) := by decide +kernel
theorem dL_lift_223 : decode cL_lift 223 = .ok (.laload, 1) := by decide +kernel
theorem dL_lift_224 : decode cL_lift 224 = .ok (.l2i, 1) := by decide +kernel
theorem dL_lift_225 : decode cL_lift 225 = .ok (.bipush 60, 2) := by decide +kernel
theorem dL_lift_227 : decode cL_lift 227 = .ok (.irem, 1) := by decide +kernel
theorem dL_lift_228 : decode cL_lift 228 = .ok (.lshl, 1) := by decide +kernel
theorem dL_lift_229 : decode cL_lift 229 = .ok (.lor, 1) := by decide +kernel
theorem dL_lift_230 : decode cL_lift 230 = .ok (.lastore, 1) := by decide +kernel
theorem dL_lift_231 : decode cL_lift 231 = .ok (.aload_n 1, 1) := by decide +kernel
theorem dL_lift_232 : decode cL_lift 232 = .ok (.bipush 101, 2) := by decide +kernel
theorem dL_lift_234 : decode cL_lift 234 = .ok (.aload_n 1, 1) := by decide +kernel
theorem dL_lift_235 : decode cL_lift 235 = .ok (.bipush 60, 2) := by decide +kernel
theorem dL_lift_237 : decode cL_lift 237 = .ok (.iload_n 2, 1) := by decide +kernel
theorem dL_lift_238 : decode cL_lift 238 = .ok (.iadd, 1) := by decide +kernel
theorem dL_lift_239 : decode cL_lift 239 = .ok (.laload, 1) := by decide +kernel
theorem dL_lift_240 : decode cL_lift 240 = .ok (.l2i, 1) := by decide +kernel
theorem dL_lift_241 : decode cL_lift 241 = .ok (.iadd, 1) := by decide +kernel
theorem dL_lift_242 : decode cL_lift 242 = .ok (.dup2, 1) := by decide +kernel
theorem dL_lift_243 : decode cL_lift 243 = .ok (.laload, 1) := by decide +kernel
theorem dL_lift_244 : decode cL_lift 244 = .ok (.lconst 1, 1) := by decide +kernel
theorem dL_lift_245 : decode cL_lift 245 = .ok (.ladd, 1) := by decide +kernel
theorem dL_lift_246 : decode cL_lift 246 = .ok (.lastore, 1) := by decide +kernel
theorem dL_lift_247 : decode cL_lift 247 = .ok (.aload_n 1, 1) := by decide +kernel
theorem dL_lift_248 : decode cL_lift 248 = .ok (.bipush 101, 2) := by decide +kernel
theorem dL_lift_250 : decode cL_lift 250 = .ok (.dup2, 1) := by decide +kernel
theorem dL_lift_251 : decode cL_lift 251 = .ok (.laload, 1) := by decide +kernel
theorem dL_lift_252 : decode cL_lift 252 = .ok (.lconst 1, 1) := by decide +kernel
theorem dL_lift_253 : decode cL_lift 253 = .ok (.ladd, 1) := by decide +kernel
theorem dL_lift_254 : decode cL_lift 254 = .ok (.lastore, 1) := by decide +kernel
theorem dL_lift_255 : decode cL_lift 255 = .ok (.aload_n 1, 1) := by decide +kernel
theorem dL_lift_256 : decode cL_lift 256 = .ok (.bipush 101, 2) := by decide +kernel
theorem dL_lift_258 : decode cL_lift 258 = .ok (.laload, 1) := by decide +kernel
theorem dL_lift_259 : decode cL_lift 259 = .ok (.aload_n 0, 1) := by decide +kernel
theorem dL_lift_260 : decode cL_lift 260 = .ok (.invokestatic 37, 3) := by decide +kernel
theorem dL_lift_263 : decode cL_lift 263 = .ok (.i2l, 1) := by decide +kernel
theorem dL_lift_264 : decode cL_lift 264 = .ok (.lcmp, 1) := by decide +kernel
theorem dL_lift_265 : decode cL_lift 265 = .ok (.ifCond .ne 9, 3) := by decide +kernel
theorem dL_lift_268 : decode cL_lift 268 = .ok (.aload_n 1, 1) := by decide +kernel
theorem dL_lift_269 : decode cL_lift 269 = .ok (.bipush 104, 2) := by decide +kernel
theorem dL_lift_271 : decode cL_lift 271 = .ok (.iload_n 3, 1) := by decide +kernel
theorem dL_lift_272 : decode cL_lift 272 = .ok (.i2l, 1) := by decide +kernel
theorem dL_lift_273 : decode cL_lift 273 = .ok (.lastore, 1) := by decide +kernel
theorem dL_lift_274 : decode cL_lift 274 = .ok (.aload_n 1, 1) := by decide +kernel
theorem dL_lift_275 : decode cL_lift 275 = .ok (.bipush 50, 2) := by decide +kernel
theorem dL_lift_277 : decode cL_lift 277 = .ok (.iload_n 2, 1) := by decide +kernel
theorem dL_lift_278 : decode cL_lift 278 = .ok (.iadd, 1) := by decide +kernel
theorem dL_lift_279 : decode cL_lift 279 = .ok (.dup2, 1) := by decide +kernel
theorem dL_lift_280 : decode cL_lift 280 = .ok (.laload, 1) := by decide +kernel
theorem dL_lift_281 : decode cL_lift 281 = .ok (.lconst 1, 1) := by decide +kernel
theorem dL_lift_282 : decode cL_lift 282 = .ok (.ladd, 1) := by decide +kernel
theorem dL_lift_283 : decode cL_lift 283 = .ok (.lastore, 1) := by decide +kernel
theorem dL_lift_284 : decode cL_lift 284 = .ok (.aload_n 1, 1) := by decide +kernel
theorem dL_lift_285 : decode cL_lift 285 = .ok (.bipush 45, 2) := by decide +kernel
theorem dL_lift_287 : decode cL_lift 287 = .ok (.iload_n 2, 1) := by decide +kernel
theorem dL_lift_288 : decode cL_lift 288 = .ok (.iadd, 1) := by decide +kernel
theorem dL_lift_289 : decode cL_lift 289 = .ok (.lconst 0, 1) := by decide +kernel
theorem dL_lift_290 : decode cL_lift 290 = .ok (.lastore, 1) := by decide +kernel
theorem dL_lift_291 : decode cL_lift 291 = .ok (.aload_n 1, 1) := by decide +kernel
theorem dL_lift_292 : decode cL_lift 292 = .ok (.bipush 60, 2) := by decide +kernel
theorem dL_lift_294 : decode cL_lift 294 = .ok (.iload_n 2, 1) := by decide +kernel
theorem dL_lift_295 : decode cL_lift 295 = .ok (.iadd, 1) := by decide +kernel
theorem dL_lift_296 : decode cL_lift 296 = .ok (.lconst 0, 1) := by decide +kernel
theorem dL_lift_297 : decode cL_lift 297 = .ok (.lastore, 1) := by decide +kernel
theorem dL_lift_298 : decode cL_lift 298 = .ok (.return_, 1) := by decide +kernel
theorem dL_second_0 : decode cL_second 0 = .ok (.iconst 0, 1) := by decide +kernel
theorem dL_second_1 : decode cL_second 1 = .ok (.istore 5, 2) := by decide +kernel
theorem dL_second_3 : decode cL_second 3 = .ok (.iload 5, 2) := by decide +kernel
theorem dL_second_5 : decode cL_second 5 = .ok (.iload_n 3, 1) := by decide +kernel
theorem dL_second_6 : decode cL_second 6 = .ok (.if_icmp .ge 324, 3) := by decide +kernel
theorem dL_second_9 : decode cL_second 9 = .ok (.iload_n 2, 1) := by decide +kernel
theorem dL_second_10 : decode cL_second 10 = .ok (.iconst 3, 1) := by decide +kernel
theorem dL_second_11 : decode cL_second 11 = .ok (.iload 5, 2) := by decide +kernel
theorem dL_second_13 : decode cL_second 13 = .ok (.imul, 1) := by decide +kernel
theorem dL_second_14 : decode cL_second 14 = .ok (.ishr, 1) := by decide +kernel
theorem dL_second_15 : decode cL_second 15 = .ok (.bipush 7, 2) := by decide +kernel
theorem dL_second_17 : decode cL_second 17 = .ok (.iand, 1) := by decide +kernel
theorem dL_second_18 : decode cL_second 18 = .ok (.istore 6, 2) := by decide +kernel
theorem dL_second_20 : decode cL_second 20 = .ok (.aload_n 1, 1) := by decide +kernel
theorem dL_second_21 : decode cL_second 21 = .ok (.bipush 35, 2) := by decide +kernel
theorem dL_second_23 : decode cL_second 23 = .ok (.iload 6, 2) := by decide +kernel
theorem dL_second_25 : decode cL_second 25 = .ok (.iadd, 1) := by decide +kernel
theorem dL_second_26 : decode cL_second 26 = .ok (.laload, 1) := by decide +kernel
theorem dL_second_27 : decode cL_second 27 = .ok (.ldc2_w 113, 3) := by decide +kernel
theorem dL_second_30 : decode cL_second 30 = .ok (.lcmp, 1) := by decide +kernel
theorem dL_second_31 : decode cL_second 31 = .ok (.ifCond .ne 97, 3) := by decide +kernel
theorem dL_second_34 : decode cL_second 34 = .ok (.aload_n 1, 1) := by decide +kernel
theorem dL_second_35 : decode cL_second 35 = .ok (.bipush 40, 2) := by decide +kernel
theorem dL_second_37 : decode cL_second 37 = .ok (.iload 6, 2) := by decide +kernel
theorem dL_second_39 : decode cL_second 39 = .ok (.iadd, 1) := by decide +kernel
theorem dL_second_40 : decode cL_second 40 = .ok (.dup2, 1) := by decide +kernel
theorem dL_second_41 : decode cL_second 41 = .ok (.laload, 1) := by decide +kernel
theorem dL_second_42 : decode cL_second 42 = .ok (.lconst 1, 1) := by decide +kernel
theorem dL_second_43 : decode cL_second 43 = .ok (.lsub, 1) := by decide +kernel
theorem dL_second_44 : decode cL_second 44 = .ok (.lastore, 1) := by decide +kernel
theorem dL_second_45 : decode cL_second 45 = .ok (.aload_n 1, 1) := by decide +kernel
theorem dL_second_46 : decode cL_second 46 = .ok (.bipush 40, 2) := by decide +kernel
theorem dL_second_48 : decode cL_second 48 = .ok (.iload 6, 2) := by decide +kernel
theorem dL_second_50 : decode cL_second 50 = .ok (.iadd, 1) := by decide +kernel
theorem dL_second_51 : decode cL_second 51 = .ok (.laload, 1) := by decide +kernel
theorem dL_second_52 : decode cL_second 52 = .ok (.lconst 0, 1) := by decide +kernel
theorem dL_second_53 : decode cL_second 53 = .ok (.lcmp, 1) := by decide +kernel
theorem dL_second_54 : decode cL_second 54 = .ok (.ifCond .le 6, 3) := by decide +kernel
theorem dL_second_57 : decode cL_second 57 = .ok (.goto 267, 3) := by decide +kernel
theorem dL_second_60 : decode cL_second 60 = .ok (.aload_n 0, 1) := by decide +kernel
theorem dL_second_61 : decode cL_second 61 = .ok (.aload_n 1, 1) := by decide +kernel
theorem dL_second_62 : decode cL_second 62 = .ok (.iload 6, 2) := by decide +kernel
theorem dL_second_64 : decode cL_second 64 = .ok (.iload 4, 2) := by decide +kernel
theorem dL_second_66 : decode cL_second 66 = .ok (.invokestatic 117, 3) := by decide +kernel
theorem dL_second_69 : decode cL_second 69 = .ok (.aload_n 1, 1) := by decide +kernel
theorem dL_second_70 : decode cL_second 70 = .ok (.bipush 40, 2) := by decide +kernel
theorem dL_second_72 : decode cL_second 72 = .ok (.iload 6, 2) := by decide +kernel
theorem dL_second_74 : decode cL_second 74 = .ok (.iadd, 1) := by decide +kernel
theorem dL_second_75 : decode cL_second 75 = .ok (.aload_n 0, 1) := by decide +kernel
theorem dL_second_76 : decode cL_second 76 = .ok (.aload_n 1, 1) := by decide +kernel
theorem dL_second_77 : decode cL_second 77 = .ok (.iload 6, 2) := by decide +kernel
theorem dL_second_79 : decode cL_second 79 = .ok (.aload_n 1, 1) := by decide +kernel
theorem dL_second_80 : decode cL_second 80 = .ok (.bipush 70, 2) := by decide +kernel
theorem dL_second_82 : decode cL_second 82 = .ok (.aload_n 1, 1) := by decide +kernel
theorem dL_second_83 : decode cL_second 83 = .ok (.bipush 30, 2) := by decide +kernel
theorem dL_second_85 : decode cL_second 85 = .ok (.iload 6, 2) := by decide +kernel
theorem dL_second_87 : decode cL_second 87 = .ok (.iadd, 1) := by decide +kernel
theorem dL_second_88 : decode cL_second 88 = .ok (.laload, 1) := by decide +kernel
theorem dL_second_89 : decode cL_second 89 = .ok (.l2i, 1) := by decide +kernel
theorem dL_second_90 : decode cL_second 90 = .ok (.iadd, 1) := by decide +kernel
theorem dL_second_91 : decode cL_second 91 = .ok (.laload, 1) := by decide +kernel
theorem dL_second_92 : decode cL_second 92 = .ok (.invokestatic 121, 3) := by decide +kernel
theorem dL_second_95 : decode cL_second 95 = .ok (.i2l, 1) := by decide +kernel
theorem dL_second_96 : decode cL_second 96 = .ok (.lastore, 1) := by decide +kernel
theorem dL_second_97 : decode cL_second 97 = .ok (.aload_n 1, 1) := by decide +kernel
theorem dL_second_98 : decode cL_second 98 = .ok (.bipush 30, 2) := by decide +kernel
theorem dL_second_100 : decode cL_second 100 = .ok (.iload 6, 2) := by decide +kernel
theorem dL_second_102 : decode cL_second 102 = .ok (.iadd, 1) := by decide +kernel
theorem dL_second_103 : decode cL_second 103 = .ok (.aload_n 1, 1) := by decide +kernel
theorem dL_second_104 : decode cL_second 104 = .ok (.bipush 30, 2) := by decide +kernel
theorem dL_second_106 : decode cL_second 106 = .ok (.iload 6, 2) := by decide +kernel
theorem dL_second_108 : decode cL_second 108 = .ok (.iadd, 1) := by decide +kernel
theorem dL_second_109 : decode cL_second 109 = .ok (.laload, 1) := by decide +kernel
theorem dL_second_110 : decode cL_second 110 = .ok (.lconst 1, 1) := by decide +kernel
theorem dL_second_111 : decode cL_second 111 = .ok (.ladd, 1) := by decide +kernel
theorem dL_second_112 : decode cL_second 112 = .ok (.ldc2_w 115, 3) := by decide +kernel
theorem dL_second_115 : decode cL_second 115 = .ok (.lrem, 1) := by decide +kernel
theorem dL_second_116 : decode cL_second 116 = .ok (.lastore, 1) := by decide +kernel
theorem dL_second_117 : decode cL_second 117 = .ok (.aload_n 1, 1) := by decide +kernel
theorem dL_second_118 : decode cL_second 118 = .ok (.bipush 35, 2) := by decide +kernel
theorem dL_second_120 : decode cL_second 120 = .ok (.iload 6, 2) := by decide +kernel
theorem dL_second_122 : decode cL_second 122 = .ok (.iadd, 1) := by decide +kernel
theorem dL_second_123 : decode cL_second 123 = .ok (.lconst 0, 1) := by decide +kernel
theorem dL_second_124 : decode cL_second 124 = .ok (.lastore, 1) := by decide +kernel
theorem dL_second_125 : decode cL_second 125 = .ok (.goto 199, 3) := by decide +kernel
theorem dL_second_128 : decode cL_second 128 = .ok (.aload_n 1, 1) := by decide +kernel
theorem dL_second_129 : decode cL_second 129 = .ok (.bipush 35, 2) := by decide +kernel
theorem dL_second_131 : decode cL_second 131 = .ok (.iload 6, 2) := by decide +kernel
theorem dL_second_133 : decode cL_second 133 = .ok (.iadd, 1) := by decide +kernel
theorem dL_second_134 : decode cL_second 134 = .ok (.laload, 1) := by decide +kernel
theorem dL_second_135 : decode cL_second 135 = .ok (.lconst 0, 1) := by decide +kernel
theorem dL_second_136 : decode cL_second 136 = .ok (.lcmp, 1) := by decide +kernel
theorem dL_second_137 : decode cL_second 137 = .ok (.ifCond .ne 37, 3) := by decide +kernel
theorem dL_second_140 : decode cL_second 140 = .ok (.aload_n 1, 1) := by decide +kernel
theorem dL_second_141 : decode cL_second 141 = .ok (.bipush 40, 2) := by decide +kernel
theorem dL_second_143 : decode cL_second 143 = .ok (.iload 6, 2) := by decide +kernel
theorem dL_second_145 : decode cL_second 145 = .ok (.iadd, 1) := by decide +kernel
theorem dL_second_146 : decode cL_second 146 = .ok (.dup2, 1) := by decide +kernel
theorem dL_second_147 : decode cL_second 147 = .ok (.laload, 1) := by decide +kernel
theorem dL_second_148 : decode cL_second 148 = .ok (.lconst 1, 1) := by decide +kernel
theorem dL_second_149 : decode cL_second 149 = .ok (.lsub, 1) := by decide +kernel
theorem dL_second_150 : decode cL_second 150 = .ok (.lastore, 1) := by decide +kernel
theorem dL_second_151 : decode cL_second 151 = .ok (.aload_n 1, 1) := by decide +kernel
theorem dL_second_152 : decode cL_second 152 = .ok (.bipush 40, 2) := by decide +kernel
theorem dL_second_154 : decode cL_second 154 = .ok (.iload 6, 2) := by decide +kernel
theorem dL_second_156 : decode cL_second 156 = .ok (.iadd, 1) := by decide +kernel
theorem dL_second_157 : decode cL_second 157 = .ok (.laload, 1) := by decide +kernel
theorem dL_second_158 : decode cL_second 158 = .ok (.lconst 0, 1) := by decide +kernel
theorem dL_second_159 : decode cL_second 159 = .ok (.lcmp, 1) := by decide +kernel
theorem dL_second_160 : decode cL_second 160 = .ok (.ifCond .le 6, 3) := by decide +kernel
theorem dL_second_163 : decode cL_second 163 = .ok (.goto 161, 3) := by decide +kernel
theorem dL_second_166 : decode cL_second 166 = .ok (.aload_n 1, 1) := by decide +kernel
theorem dL_second_167 : decode cL_second 167 = .ok (.bipush 35, 2) := by decide +kernel
theorem dL_second_169 : decode cL_second 169 = .ok (.iload 6, 2) := by decide +kernel
theorem dL_second_171 : decode cL_second 171 = .ok (.iadd, 1) := by decide +kernel
theorem dL_second_172 : decode cL_second 172 = .ok (.lconst 1, 1) := by decide +kernel
theorem dL_second_173 : decode cL_second 173 = .ok (.lastore, 1) := by decide +kernel
theorem dL_second_174 : decode cL_second 174 = .ok (.iconst 0, 1) := by decide +kernel
theorem dL_second_175 : decode cL_second 175 = .ok (.istore 7, 2) := by decide +kernel
theorem dL_second_177 : decode cL_second 177 = .ok (.iconst 0, 1) := by decide +kernel
theorem dL_second_178 : decode cL_second 178 = .ok (.istore 8, 2) := by decide +kernel
theorem dL_second_180 : decode cL_second 180 = .ok (.iload 8, 2) := by decide +kernel
theorem dL_second_182 : decode cL_second 182 = .ok (.iload_n 3, 1) := by decide +kernel
theorem dL_second_183 : decode cL_second 183 = .ok (.if_icmp .ge 69, 3) := by decide +kernel
theorem dL_second_186 : decode cL_second 186 = .ok (.iload_n 2, 1) := by decide +kernel
theorem dL_second_187 : decode cL_second 187 = .ok (.iconst 3, 1) := by decide +kernel
theorem dL_second_188 : decode cL_second 188 = .ok (.iload 8, 2) := by decide +kernel
theorem dL_second_190 : decode cL_second 190 = .ok (.imul, 1) := by decide +kernel
theorem dL_second_191 : decode cL_second 191 = .ok (.ishr, 1) := by decide +kernel
theorem dL_second_192 : decode cL_second 192 = .ok (.bipush 7, 2) := by decide +kernel
theorem dL_second_194 : decode cL_second 194 = .ok (.iand, 1) := by decide +kernel
theorem dL_second_195 : decode cL_second 195 = .ok (.istore 9, 2) := by decide +kernel
theorem dL_second_197 : decode cL_second 197 = .ok (.iload 7, 2) := by decide +kernel
theorem dL_second_199 : decode cL_second 199 = .ok (.iload 9, 2) := by decide +kernel
theorem dL_second_201 : decode cL_second 201 = .ok (.iload 6, 2) := by decide +kernel
theorem dL_second_203 : decode cL_second 203 = .ok (.if_icmp .eq 39, 3) := by decide +kernel
theorem dL_second_206 : decode cL_second 206 = .ok (.aload_n 1, 1) := by decide +kernel
theorem dL_second_207 : decode cL_second 207 = .ok (.bipush 35, 2) := by decide +kernel
theorem dL_second_209 : decode cL_second 209 = .ok (.iload 9, 2) := by decide +kernel
theorem dL_second_211 : decode cL_second 211 = .ok (.iadd, 1) := by decide +kernel
theorem dL_second_212 : decode cL_second 212 = .ok (.laload, 1) := by decide +kernel
theorem dL_second_213 : decode cL_second 213 = .ok (.ldc2_w 113, 3) := by decide +kernel
theorem dL_second_216 : decode cL_second 216 = .ok (.lcmp, 1) := by decide +kernel
theorem dL_second_217 : decode cL_second 217 = .ok (.ifCond .ne 25, 3) := by decide +kernel
theorem dL_second_220 : decode cL_second 220 = .ok (.aload_n 1, 1) := by decide +kernel
theorem dL_second_221 : decode cL_second 221 = .ok (.bipush 30, 2) := by decide +kernel
theorem dL_second_223 : decode cL_second 223 = .ok (.iload 9, 2) := by decide +kernel
theorem dL_second_225 : decode cL_second 225 = .ok (.iadd, 1) := by decide +kernel
theorem dL_second_226 : decode cL_second 226 = .ok (.laload, 1) := by decide +kernel
theorem dL_second_227 : decode cL_second 227 = .ok (.aload_n 1, 1) := by decide +kernel
theorem dL_second_228 : decode cL_second 228 = .ok (.bipush 30, 2) := by decide +kernel
theorem dL_second_230 : decode cL_second 230 = .ok (.iload 6, 2) := by decide +kernel
theorem dL_second_232 : decode cL_second 232 = .ok (.iadd, 1) := by decide +kernel
theorem dL_second_233 : decode cL_second 233 = .ok (.laload, 1) := by decide +kernel
theorem dL_second_234 : decode cL_second 234 = .ok (.lcmp, 1) := by decide +kernel
theorem dL_second_235 : decode cL_second 235 = .ok (.ifCond .ne 7, 3) := by decide +kernel
theorem dL_second_238 : decode cL_second 238 = .ok (.iconst 1, 1) := by decide +kernel
theorem dL_second_239 : decode cL_second 239 = .ok (.goto 4, 3) := by decide +kernel
theorem dL_second_242 : decode cL_second 242 = .ok (.iconst 0, 1) := by decide +kernel
theorem dL_second_243 : decode cL_second 243 = .ok (.ior, 1) := by decide +kernel
theorem dL_second_244 : decode cL_second 244 = .ok (.istore 7, 2) := by decide +kernel
theorem dL_second_246 : decode cL_second 246 = .ok (.iinc 8 1, 3) := by decide +kernel
theorem dL_second_249 : decode cL_second 249 = .ok (.goto (-69), 3) := by decide +kernel
theorem dL_second_252 : decode cL_second 252 = .ok (.iload 7, 2) := by decide +kernel
theorem dL_second_254 : decode cL_second 254 = .ok (.ifCond .eq 31, 3) := by decide +kernel
theorem dL_second_257 : decode cL_second 257 = .ok (.aload_n 1, 1) := by decide +kernel
theorem dL_second_258 : decode cL_second 258 = .ok (.bipush 20, 2) := by decide +kernel
theorem dL_second_260 : decode cL_second 260 = .ok (.iload 6, 2) := by decide +kernel
theorem dL_second_262 : decode cL_second 262 = .ok (.iadd, 1) := by decide +kernel
theorem dL_second_263 : decode cL_second 263 = .ok (.laload, 1) := by decide +kernel
theorem dL_second_264 : decode cL_second 264 = .ok (.ldc2_w 125, 3) := by decide +kernel
theorem dL_second_267 : decode cL_second 267 = .ok (.lcmp, 1) := by decide +kernel
theorem dL_second_268 : decode cL_second 268 = .ok (.ifCond .eq 17, 3) := by decide +kernel
theorem dL_second_271 : decode cL_second 271 = .ok (.aload_n 1, 1) := by decide +kernel
theorem dL_second_272 : decode cL_second 272 = .ok (.bipush 55, 2) := by decide +kernel
theorem dL_second_274 : decode cL_second 274 = .ok (.iload 6, 2) := by decide +kernel
theorem dL_second_276 : decode cL_second 276 = .ok (.iadd, 1) := by decide +kernel
theorem dL_second_277 : decode cL_second 277 = .ok (.dup2, 1) := by decide +kernel
theorem dL_second_278 : decode cL_second 278 = .ok (.laload, 1) := by decide +kernel
theorem dL_second_279 : decode cL_second 279 = .ok (.lconst 1, 1) := by decide +kernel
theorem dL_second_280 : decode cL_second 280 = .ok (.ladd, 1) := by decide +kernel
theorem dL_second_281 : decode cL_second 281 = .ok (.lastore, 1) := by decide +kernel
theorem dL_second_282 : decode cL_second 282 = .ok (.goto 42, 3) := by decide +kernel
theorem dL_second_285 : decode cL_second 285 = .ok (.aload_n 1, 1) := by decide +kernel
theorem dL_second_286 : decode cL_second 286 = .ok (.bipush 35, 2) := by decide +kernel
theorem dL_second_288 : decode cL_second 288 = .ok (.iload 6, 2) := by decide +kernel
theorem dL_second_290 : decode cL_second 290 = .ok (.iadd, 1) := by decide +kernel
theorem dL_second_291 : decode cL_second 291 = .ok (.ldc2_w 113, 3) := by decide +kernel
theorem dL_second_294 : decode cL_second 294 = .ok (.lastore, 1) := by decide +kernel
theorem dL_second_295 : decode cL_second 295 = .ok (.aload_n 1, 1) := by decide +kernel
theorem dL_second_296 : decode cL_second 296 = .ok (.bipush 40, 2) := by decide +kernel
theorem dL_second_298 : decode cL_second 298 = .ok (.iload 6, 2) := by decide +kernel
theorem dL_second_300 : decode cL_second 300 = .ok (.iadd, 1) := by decide +kernel
theorem dL_second_301 : decode cL_second 301 = .ok (.aload_n 0, 1) := by decide +kernel
theorem dL_second_302 : decode cL_second 302 = .ok (.aload_n 1, 1) := by decide +kernel
theorem dL_second_303 : decode cL_second 303 = .ok (.iload 6, 2) := by decide +kernel
theorem dL_second_305 : decode cL_second 305 = .ok (.aload_n 1, 1) := by decide +kernel
theorem dL_second_306 : decode cL_second 306 = .ok (.bipush 30, 2) := by decide +kernel
theorem dL_second_308 : decode cL_second 308 = .ok (.iload 6, 2) := by decide +kernel
theorem dL_second_310 : decode cL_second 310 = .ok (.iadd, 1) := by decide +kernel
theorem dL_second_311 : decode cL_second 311 = .ok (.laload, 1) := by decide +kernel
theorem dL_second_312 : decode cL_second 312 = .ok (.aload_n 1, 1) := by decide +kernel
theorem dL_second_313 : decode cL_second 313 = .ok (.bipush 50, 2) := by decide +kernel
theorem dL_second_315 : decode cL_second 315 = .ok (.iload 6, 2) := by decide +kernel
theorem dL_second_317 : decode cL_second 317 = .ok (.iadd, 1) := by decide +kernel
theorem dL_second_318 : decode cL_second 318 = .ok (.laload, 1) := by decide +kernel
theorem dL_second_319 : decode cL_second 319 = .ok (.invokestatic 127, 3) := by decide +kernel
theorem dL_second_322 : decode cL_second 322 = .ok (.i2l, 1) := by decide +kernel
theorem dL_second_323 : decode cL_second 323 = .ok (.lastore, 1) := by decide +kernel
theorem dL_second_324 : decode cL_second 324 = .ok (.iinc 5 1, 3) := by decide +kernel
theorem dL_second_327 : decode cL_second 327 = .ok (.goto (-324), 3) := by decide +kernel
theorem dL_second_330 : decode cL_second 330 = .ok (.return_, 1) := by decide +kernel
theorem dL_go_0 : decode cL_go 0 = .ok (.aload_n 1, 1) := by decide +kernel
theorem dL_go_1 : decode cL_go 1 = .ok (.invokestatic 131, 3) := by decide +kernel
theorem dL_go_4 : decode cL_go 4 = .ok (.iconst 0, 1) := by decide +kernel
theorem dL_go_5 : decode cL_go 5 = .ok (.istore 5, 2) := by decide +kernel
theorem dL_go_7 : decode cL_go 7 = .ok (.iload 5, 2) := by decide +kernel
theorem dL_go_9 : decode cL_go 9 = .ok (.iload 4, 2) := by decide +kernel
theorem dL_go_11 : decode cL_go 11 = .ok (.if_icmp .ge 18, 3) := by decide +kernel
theorem dL_go_14 : decode cL_go 14 = .ok (.aload_n 0, 1) := by decide +kernel
theorem dL_go_15 : decode cL_go 15 = .ok (.aload_n 1, 1) := by decide +kernel
theorem dL_go_16 : decode cL_go 16 = .ok (.iload_n 2, 1) := by decide +kernel
theorem dL_go_17 : decode cL_go 17 = .ok (.iload_n 3, 1) := by decide +kernel
theorem dL_go_18 : decode cL_go 18 = .ok (.iload 5, 2) := by decide +kernel
theorem dL_go_20 : decode cL_go 20 = .ok (.invokestatic 135, 3) := by decide +kernel
theorem dL_go_23 : decode cL_go 23 = .ok (.iinc 5 1, 3) := by decide +kernel
theorem dL_go_26 : decode cL_go 26 = .ok (.goto (-19), 3) := by decide +kernel
theorem dL_go_29 : decode cL_go 29 = .ok (.aload_n 1, 1) := by decide +kernel
theorem dL_go_30 : decode cL_go 30 = .ok (.bipush 101, 2) := by decide +kernel
theorem dL_go_32 : decode cL_go 32 = .ok (.laload, 1) := by decide +kernel
theorem dL_go_33 : decode cL_go 33 = .ok (.l2i, 1) := by decide +kernel
theorem dL_go_34 : decode cL_go 34 = .ok (.ireturn, 1) := by decide +kernel
theorem dL_plainly_0 : decode cL_plainly 0 = .ok (.iconst 0, 1) := by decide +kernel
theorem dL_plainly_1 : decode cL_plainly 1 = .ok (.istore 4, 2) := by decide +kernel
theorem dL_plainly_3 : decode cL_plainly 3 = .ok (.iconst 0, 1) := by decide +kernel
theorem dL_plainly_4 : decode cL_plainly 4 = .ok (.istore 5, 2) := by decide +kernel
theorem dL_plainly_6 : decode cL_plainly 6 = .ok (.iconst 0, 1) := by decide +kernel
theorem dL_plainly_7 : decode cL_plainly 7 = .ok (.istore 6, 2) := by decide +kernel
theorem dL_plainly_9 : decode cL_plainly 9 = .ok (.iload 6, 2) := by decide +kernel
theorem dL_plainly_11 : decode cL_plainly 11 = .ok (.aload_n 0, 1) := by decide +kernel
theorem dL_plainly_12 : decode cL_plainly 12 = .ok (.invokestatic 41, 3) := by decide +kernel
theorem dL_plainly_15 : decode cL_plainly 15 = .ok (.if_icmp .ge 33, 3) := by decide +kernel
theorem dL_plainly_18 : decode cL_plainly 18 = .ok (.iload 6, 2) := by decide +kernel
theorem dL_plainly_20 : decode cL_plainly 20 = .ok (.iload_n 2, 1) := by decide +kernel
theorem dL_plainly_21 : decode cL_plainly 21 = .ok (.if_icmp .ne 6, 3) := by decide +kernel
theorem dL_plainly_24 : decode cL_plainly 24 = .ok (.goto 18, 3) := by decide +kernel
theorem dL_plainly_27 : decode cL_plainly 27 = .ok (.iload 4, 2) := by decide +kernel
theorem dL_plainly_29 : decode cL_plainly 29 = .ok (.iload 6, 2) := by decide +kernel
theorem dL_plainly_31 : decode cL_plainly 31 = .ok (.iconst 3, 1) := by decide +kernel
theorem dL_plainly_32 : decode cL_plainly 32 = .ok (.iload 5, 2) := by decide +kernel
theorem dL_plainly_34 : decode cL_plainly 34 = .ok (.imul, 1) := by decide +kernel
theorem dL_plainly_35 : decode cL_plainly 35 = .ok (.ishl, 1) := by decide +kernel
theorem dL_plainly_36 : decode cL_plainly 36 = .ok (.ior, 1) := by decide +kernel
theorem dL_plainly_37 : decode cL_plainly 37 = .ok (.istore 4, 2) := by decide +kernel
theorem dL_plainly_39 : decode cL_plainly 39 = .ok (.iinc 5 1, 3) := by decide +kernel
theorem dL_plainly_42 : decode cL_plainly 42 = .ok (.iinc 6 1, 3) := by decide +kernel
theorem dL_plainly_45 : decode cL_plainly 45 = .ok (.goto (-36), 3) := by decide +kernel
theorem dL_plainly_48 : decode cL_plainly 48 = .ok (.aload_n 0, 1) := by decide +kernel
theorem dL_plainly_49 : decode cL_plainly 49 = .ok (.aload_n 1, 1) := by decide +kernel
theorem dL_plainly_50 : decode cL_plainly 50 = .ok (.iload 4, 2) := by decide +kernel
theorem dL_plainly_52 : decode cL_plainly 52 = .ok (.iload 5, 2) := by decide +kernel
theorem dL_plainly_54 : decode cL_plainly 54 = .ok (.iload_n 3, 1) := by decide +kernel
theorem dL_plainly_55 : decode cL_plainly 55 = .ok (.invokestatic 139, 3) := by decide +kernel
theorem dL_plainly_58 : decode cL_plainly 58 = .ok (.ireturn, 1) := by decide +kernel
theorem dL_law_0 : decode cL_law 0 = .ok (.aload_n 0, 1) := by decide +kernel
theorem dL_law_1 : decode cL_law 1 = .ok (.invokestatic 143, 3) := by decide +kernel
theorem dL_law_4 : decode cL_law 4 = .ok (.astore_n 1, 1) := by decide +kernel
theorem dL_law_5 : decode cL_law 5 = .ok (.sipush 130, 3) := by decide +kernel
theorem dL_law_8 : decode cL_law 8 = .ok (.newarray .long, 2) := by decide +kernel
theorem dL_law_10 : decode cL_law 10 = .ok (.astore_n 2, 1) := by decide +kernel
theorem dL_law_11 : decode cL_law 11 = .ok (.aload_n 0, 1) := by decide +kernel
theorem dL_law_12 : decode cL_law 12 = .ok (.aload_n 2, 1) := by decide +kernel
theorem dL_law_13 : decode cL_law 13 = .ok (.invokestatic 147, 3) := by decide +kernel
theorem dL_law_16 : decode cL_law 16 = .ok (.aload_n 0, 1) := by decide +kernel
theorem dL_law_17 : decode cL_law 17 = .ok (.invokestatic 41, 3) := by decide +kernel
theorem dL_law_20 : decode cL_law 20 = .ok (.istore_n 3, 1) := by decide +kernel
theorem dL_law_21 : decode cL_law 21 = .ok (.aload_n 0, 1) := by decide +kernel
theorem dL_law_22 : decode cL_law 22 = .ok (.bipush 8, 2) := by decide +kernel
theorem dL_law_24 : decode cL_law 24 = .ok (.invokestatic 69, 3) := by decide +kernel
theorem dL_law_27 : decode cL_law 27 = .ok (.sipush 1023, 3) := by decide +kernel
theorem dL_law_30 : decode cL_law 30 = .ok (.iand, 1) := by decide +kernel
theorem dL_law_31 : decode cL_law 31 = .ok (.sipush 601, 3) := by decide +kernel
theorem dL_law_34 : decode cL_law 34 = .ok (.irem, 1) := by decide +kernel
theorem dL_law_35 : decode cL_law 35 = .ok (.istore 4, 2) := by decide +kernel
theorem dL_law_37 : decode cL_law 37 = .ok (.aload_n 0, 1) := by decide +kernel
theorem dL_law_38 : decode cL_law 38 = .ok (.aload_n 2, 1) := by decide +kernel
theorem dL_law_39 : decode cL_law 39 = .ok (.bipush 9, 2) := by decide +kernel
theorem dL_law_41 : decode cL_law 41 = .ok (.iload 4, 2) := by decide +kernel
theorem dL_law_43 : decode cL_law 43 = .ok (.invokestatic 151, 3) := by decide +kernel
theorem dL_law_46 : decode cL_law 46 = .ok (.pop, 1) := by decide +kernel
theorem dL_law_47 : decode cL_law 47 = .ok (.iconst 0, 1) := by decide +kernel
theorem dL_law_48 : decode cL_law 48 = .ok (.istore 5, 2) := by decide +kernel
theorem dL_law_50 : decode cL_law 50 = .ok (.lconst 0, 1) := by decide +kernel
theorem dL_law_51 : decode cL_law 51 = .ok (.lstore 6, 2) := by decide +kernel
theorem dL_law_53 : decode cL_law 53 = .ok (.iconst 0, 1) := by decide +kernel
theorem dL_law_54 : decode cL_law 54 = .ok (.istore 8, 2) := by decide +kernel
theorem dL_law_56 : decode cL_law 56 = .ok (.iload 8, 2) := by decide +kernel
theorem dL_law_58 : decode cL_law 58 = .ok (.iload_n 3, 1) := by decide +kernel
theorem dL_law_59 : decode cL_law 59 = .ok (.if_icmp .ge 272, 3) := by decide +kernel
theorem dL_law_62 : decode cL_law 62 = .ok (.aload_n 1, 1) := by decide +kernel
theorem dL_law_63 : decode cL_law 63 = .ok (.iload 8, 2) := by decide +kernel
theorem dL_law_65 : decode cL_law 65 = .ok (.iload 4, 2) := by decide +kernel
theorem dL_law_67 : decode cL_law 67 = .ok (.iconst 0, 1) := by decide +kernel
theorem dL_law_68 : decode cL_law 68 = .ok (.invokevirtual 155, 3) := by decide +kernel
theorem dL_law_71 : decode cL_law 71 = .ok (.i2l, 1) := by decide +kernel
theorem dL_law_72 : decode cL_law 72 = .ok (.aload_n 2, 1) := by decide +kernel
theorem dL_law_73 : decode cL_law 73 = .ok (.bipush 30, 2) := by decide +kernel
theorem dL_law_75 : decode cL_law 75 = .ok (.iload 8, 2) := by decide +kernel
theorem dL_law_77 : decode cL_law 77 = .ok (.iadd, 1) := by decide +kernel
theorem dL_law_78 : decode cL_law 78 = .ok (.laload, 1) := by decide +kernel
theorem dL_law_79 : decode cL_law 79 = .ok (.lcmp, 1) := by decide +kernel
theorem dL_law_80 : decode cL_law 80 = .ok (.ifCond .ne 87, 3) := by decide +kernel
theorem dL_law_83 : decode cL_law 83 = .ok (.aload_n 1, 1) := by decide +kernel
theorem dL_law_84 : decode cL_law 84 = .ok (.iload 8, 2) := by decide +kernel
theorem dL_law_86 : decode cL_law 86 = .ok (.iload 4, 2) := by decide +kernel
theorem dL_law_88 : decode cL_law 88 = .ok (.iconst 1, 1) := by decide +kernel
theorem dL_law_89 : decode cL_law 89 = .ok (.invokevirtual 155, 3) := by decide +kernel
theorem dL_law_92 : decode cL_law 92 = .ok (.i2l, 1) := by decide +kernel
theorem dL_law_93 : decode cL_law 93 = .ok (.aload_n 2, 1) := by decide +kernel
theorem dL_law_94 : decode cL_law 94 = .ok (.bipush 35, 2) := by decide +kernel
theorem dL_law_96 : decode cL_law 96 = .ok (.iload 8, 2) := by decide +kernel
theorem dL_law_98 : decode cL_law 98 = .ok (.iadd, 1) := by decide +kernel
theorem dL_law_99 : decode cL_law 99 = .ok (.laload, 1) := by decide +kernel
theorem dL_law_100 : decode cL_law 100 = .ok (.lcmp, 1) := by decide +kernel
theorem dL_law_101 : decode cL_law 101 = .ok (.ifCond .ne 66, 3) := by decide +kernel
theorem dL_law_104 : decode cL_law 104 = .ok (.aload_n 1, 1) := by decide +kernel
theorem dL_law_105 : decode cL_law 105 = .ok (.iload 8, 2) := by decide +kernel
theorem dL_law_107 : decode cL_law 107 = .ok (.iload 4, 2) := by decide +kernel
theorem dL_law_109 : decode cL_law 109 = .ok (.iconst 2, 1) := by decide +kernel
theorem dL_law_110 : decode cL_law 110 = .ok (.invokevirtual 155, 3) := by decide +kernel
theorem dL_law_113 : decode cL_law 113 = .ok (.i2l, 1) := by decide +kernel
theorem dL_law_114 : decode cL_law 114 = .ok (.aload_n 2, 1) := by decide +kernel
theorem dL_law_115 : decode cL_law 115 = .ok (.bipush 50, 2) := by decide +kernel
theorem dL_law_117 : decode cL_law 117 = .ok (.iload 8, 2) := by decide +kernel
theorem dL_law_119 : decode cL_law 119 = .ok (.iadd, 1) := by decide +kernel
theorem dL_law_120 : decode cL_law 120 = .ok (.laload, 1) := by decide +kernel
theorem dL_law_121 : decode cL_law 121 = .ok (.lcmp, 1) := by decide +kernel
theorem dL_law_122 : decode cL_law 122 = .ok (.ifCond .ne 45, 3) := by decide +kernel
theorem dL_law_125 : decode cL_law 125 = .ok (.aload_n 1, 1) := by decide +kernel
theorem dL_law_126 : decode cL_law 126 = .ok (.iload 8, 2) := by decide +kernel
theorem dL_law_128 : decode cL_law 128 = .ok (.iload 4, 2) := by decide +kernel
theorem dL_law_130 : decode cL_law 130 = .ok (.iconst 3, 1) := by decide +kernel
theorem dL_law_131 : decode cL_law 131 = .ok (.invokevirtual 155, 3) := by decide +kernel
theorem dL_law_134 : decode cL_law 134 = .ok (.i2l, 1) := by decide +kernel
theorem dL_law_135 : decode cL_law 135 = .ok (.aload_n 2, 1) := by decide +kernel
theorem dL_law_136 : decode cL_law 136 = .ok (.bipush 55, 2) := by decide +kernel
theorem dL_law_138 : decode cL_law 138 = .ok (.iload 8, 2) := by decide +kernel
theorem dL_law_140 : decode cL_law 140 = .ok (.iadd, 1) := by decide +kernel
theorem dL_law_141 : decode cL_law 141 = .ok (.laload, 1) := by decide +kernel
theorem dL_law_142 : decode cL_law 142 = .ok (.lcmp, 1) := by decide +kernel
theorem dL_law_143 : decode cL_law 143 = .ok (.ifCond .ne 24, 3) := by decide +kernel
theorem dL_law_146 : decode cL_law 146 = .ok (.aload_n 1, 1) := by decide +kernel
theorem dL_law_147 : decode cL_law 147 = .ok (.iload 8, 2) := by decide +kernel
theorem dL_law_149 : decode cL_law 149 = .ok (.iload 4, 2) := by decide +kernel
theorem dL_law_151 : decode cL_law 151 = .ok (.iconst 4, 1) := by decide +kernel
theorem dL_law_152 : decode cL_law 152 = .ok (.invokevirtual 155, 3) := by decide +kernel
theorem dL_law_155 : decode cL_law 155 = .ok (.i2l, 1) := by decide +kernel
theorem dL_law_156 : decode cL_law 156 = .ok (.aload_n 2, 1) := by decide +kernel
theorem dL_law_157 : decode cL_law 157 = .ok (.bipush 45, 2) := by decide +kernel
theorem dL_law_159 : decode cL_law 159 = .ok (.iload 8, 2) := by decide +kernel
theorem dL_law_161 : decode cL_law 161 = .ok (.iadd, 1) := by decide +kernel
theorem dL_law_162 : decode cL_law 162 = .ok (.laload, 1) := by decide +kernel
theorem dL_law_163 : decode cL_law 163 = .ok (.lcmp, 1) := by decide +kernel
theorem dL_law_164 : decode cL_law 164 = .ok (.ifCond .eq 5, 3) := by decide +kernel
theorem dL_law_167 : decode cL_law 167 = .ok (.iconst 0, 1) := by decide +kernel
theorem dL_law_168 : decode cL_law 168 = .ok (.ireturn, 1) := by decide +kernel
theorem dL_law_169 : decode cL_law 169 = .ok (.iload 5, 2) := by decide +kernel
theorem dL_law_171 : decode cL_law 171 = .ok (.aload_n 2, 1) := by decide +kernel
theorem dL_law_172 : decode cL_law 172 = .ok (.bipush 55, 2) := by decide +kernel
theorem dL_law_174 : decode cL_law 174 = .ok (.iload 8, 2) := by decide +kernel
theorem dL_law_176 : decode cL_law 176 = .ok (.iadd, 1) := by decide +kernel
theorem dL_law_177 : decode cL_law 177 = .ok (.laload, 1) := by decide +kernel
theorem dL_law_178 : decode cL_law 178 = .ok (.l2i, 1) := by decide +kernel
theorem dL_law_179 : decode cL_law 179 = .ok (.aload_n 0, 1) := by decide +kernel
theorem dL_law_180 : decode cL_law 180 = .ok (.invokestatic 56, 3) := by decide +kernel
theorem dL_law_183 : decode cL_law 183 = .ok (.ifCond .eq 7, 3) := by decide +kernel
theorem dL_law_186 : decode cL_law 186 = .ok (.iconst 1, 1) := by decide +kernel
theorem dL_law_187 : decode cL_law 187 = .ok (.goto 35, 3) := by decide +kernel
theorem dL_law_190 : decode cL_law 190 = .ok (.aload_n 2, 1) := by decide +kernel
theorem dL_law_191 : decode cL_law 191 = .ok (.bipush 50, 2) := by decide +kernel
theorem dL_law_193 : decode cL_law 193 = .ok (.iload 8, 2) := by decide +kernel
theorem dL_law_195 : decode cL_law 195 = .ok (.iadd, 1) := by decide +kernel
theorem dL_law_196 : decode cL_law 196 = .ok (.laload, 1) := by decide +kernel
theorem dL_law_197 : decode cL_law 197 = .ok (.aload_n 0, 1) := by decide +kernel
theorem dL_law_198 : decode cL_law 198 = .ok (.iload 8, 2) := by decide +kernel
theorem dL_law_200 : decode cL_law 200 = .ok (.invokestatic 47, 3) := by decide +kernel
theorem dL_law_203 : decode cL_law 203 = .ok (.aload_n 0, 1) := by decide +kernel
theorem dL_law_204 : decode cL_law 204 = .ok (.iconst 0, 1) := by decide +kernel
theorem dL_law_205 : decode cL_law 205 = .ok (.invokestatic 69, 3) := by decide +kernel
theorem dL_law_208 : decode cL_law 208 = .ok (.bipush 9, 2) := by decide +kernel
theorem dL_law_210 : decode cL_law 210 = .ok (.ishr, 1) := by decide +kernel
theorem dL_law_211 : decode cL_law 211 = .ok (.iconst 3, 1) := by decide +kernel
theorem dL_law_212 : decode cL_law 212 = .ok (.iand, 1) := by decide +kernel
theorem dL_law_213 : decode cL_law 213 = .ok (.imul, 1) := by decide +kernel
theorem dL_law_214 : decode cL_law 214 = .ok (.i2l, 1) := by decide +kernel
theorem dL_law_215 : decode cL_law 215 = .ok (.ladd, 1) := by decide +kernel
theorem dL_law_216 : decode cL_law 216 = .ok (.iconst 0, 1) := by decide +kernel
theorem dL_law_217 : decode cL_law 217 = .ok (.bipush 99, 2) := by decide +kernel
theorem dL_law_219 : decode cL_law 219 = .ok (.invokestatic 106, 3) := by decide +kernel
theorem dL_law_222 : decode cL_law 222 = .ok (.imul, 1) := by decide +kernel
theorem dL_law_223 : decode cL_law 223 = .ok (.iadd, 1) := by decide +kernel
theorem dL_law_224 : decode cL_law 224 = .ok (.istore 5, 2) := by decide +kernel
theorem dL_law_226 : decode cL_law 226 = .ok (.lload 6, 2) := by decide +kernel
theorem dL_law_228 : decode cL_law 228 = .ok (.ldc2_w 115, 3) := by decide +kernel
theorem dL_law_231 : decode cL_law 231 = .ok (.aload_n 2, 1) := by decide +kernel
theorem dL_law_232 : decode cL_law 232 = .ok (.bipush 50, 2) := by decide +kernel
theorem dL_law_234 : decode cL_law 234 = .ok (.iload 8, 2) := by decide +kernel
theorem dL_law_236 : decode cL_law 236 = .ok (.iadd, 1) := by decide +kernel
theorem dL_law_237 : decode cL_law 237 = .ok (.laload, 1) := by decide +kernel
theorem dL_law_238 : decode cL_law 238 = .ok (.lmul, 1) := by decide +kernel
theorem dL_law_239 : decode cL_law 239 = .ok (.aload_n 2, 1) := by decide +kernel
theorem dL_law_240 : decode cL_law 240 = .ok (.bipush 45, 2) := by decide +kernel
theorem dL_law_242 : decode cL_law 242 = .ok (.iload 8, 2) := by decide +kernel
theorem dL_law_244 : decode cL_law 244 = .ok (.iadd, 1) := by decide +kernel
theorem dL_law_245 : decode cL_law 245 = .ok (.laload, 1) := by decide +kernel
theorem dL_law_246 : decode cL_law 246 = .ok (.ladd, 1) := by decide +kernel
theorem dL_law_247 : decode cL_law 247 = .ok (.ladd, 1) := by decide +kernel
theorem dL_law_248 : decode cL_law 248 = .ok (.lstore 6, 2) := by decide +kernel
theorem dL_law_250 : decode cL_law 250 = .ok (.aload_n 1, 1) := by decide +kernel
theorem dL_law_251 : decode cL_law 251 = .ok (.iload 8, 2) := by decide +kernel
theorem dL_law_253 : decode cL_law 253 = .ok (.iconst 0, 1) := by decide +kernel
theorem dL_law_254 : decode cL_law 254 = .ok (.invokevirtual 158, 3) := by decide +kernel
theorem dL_law_257 : decode cL_law 257 = .ok (.aload_n 0, 1) := by decide +kernel
theorem dL_law_258 : decode cL_law 258 = .ok (.iload 8, 2) := by decide +kernel
theorem dL_law_260 : decode cL_law 260 = .ok (.invokestatic 44, 3) := by decide +kernel
theorem dL_law_263 : decode cL_law 263 = .ok (.if_icmp .ne 60, 3) := by decide +kernel
theorem dL_law_266 : decode cL_law 266 = .ok (.aload_n 1, 1) := by decide +kernel
theorem dL_law_267 : decode cL_law 267 = .ok (.iload 8, 2) := by decide +kernel
theorem dL_law_269 : decode cL_law 269 = .ok (.iconst 1, 1) := by decide +kernel
theorem dL_law_270 : decode cL_law 270 = .ok (.invokevirtual 158, 3) := by decide +kernel
theorem dL_law_273 : decode cL_law 273 = .ok (.aload_n 0, 1) := by decide +kernel
theorem dL_law_274 : decode cL_law 274 = .ok (.iload 8, 2) := by decide +kernel
theorem dL_law_276 : decode cL_law 276 = .ok (.invokestatic 47, 3) := by decide +kernel
theorem dL_law_279 : decode cL_law 279 = .ok (.if_icmp .ne 44, 3) := by decide +kernel
theorem dL_law_282 : decode cL_law 282 = .ok (.aload_n 1, 1) := by decide +kernel
theorem dL_law_283 : decode cL_law 283 = .ok (.iload 8, 2) := by decide +kernel
theorem dL_law_285 : decode cL_law 285 = .ok (.iconst 2, 1) := by decide +kernel
theorem dL_law_286 : decode cL_law 286 = .ok (.invokevirtual 158, 3) := by decide +kernel
theorem dL_law_289 : decode cL_law 289 = .ok (.aload_n 0, 1) := by decide +kernel
theorem dL_law_290 : decode cL_law 290 = .ok (.iload 8, 2) := by decide +kernel
theorem dL_law_292 : decode cL_law 292 = .ok (.invokestatic 50, 3) := by decide +kernel
theorem dL_law_295 : decode cL_law 295 = .ok (.if_icmp .ne 28, 3) := by decide +kernel
theorem dL_law_298 : decode cL_law 298 = .ok (.aload_n 1, 1) := by decide +kernel
theorem dL_law_299 : decode cL_law 299 = .ok (.iload 8, 2) := by decide +kernel
theorem dL_law_301 : decode cL_law 301 = .ok (.iconst 3, 1) := by decide +kernel
theorem dL_law_302 : decode cL_law 302 = .ok (.invokevirtual 158, 3) := by decide +kernel
theorem dL_law_305 : decode cL_law 305 = .ok (.aload_n 0, 1) := by decide +kernel
theorem dL_law_306 : decode cL_law 306 = .ok (.iload 8, 2) := by decide +kernel
theorem dL_law_308 : decode cL_law 308 = .ok (.invokestatic 44, 3) := by decide +kernel
theorem dL_law_311 : decode cL_law 311 = .ok (.iconst 3, 1) := by decide +kernel
theorem dL_law_312 : decode cL_law 312 = .ok (.if_icmp .ne 7, 3) := by decide +kernel
theorem dL_law_315 : decode cL_law 315 = .ok (.iconst 0, 1) := by decide +kernel
theorem dL_law_316 : decode cL_law 316 = .ok (.goto 4, 3) := by decide +kernel
theorem dL_law_319 : decode cL_law 319 = .ok (.iconst 1, 1) := by decide +kernel
theorem dL_law_320 : decode cL_law 320 = .ok (.if_icmp .eq 5, 3) := by decide +kernel
theorem dL_law_323 : decode cL_law 323 = .ok (.iconst 0, 1) := by decide +kernel
theorem dL_law_324 : decode cL_law 324 = .ok (.ireturn, 1) := by decide +kernel
theorem dL_law_325 : decode cL_law 325 = .ok (.iinc 8 1, 3) := by decide +kernel
theorem dL_law_328 : decode cL_law 328 = .ok (.goto (-272), 3) := by decide +kernel
theorem dL_law_331 : decode cL_law 331 = .ok (.aload_n 1, 1) := by decide +kernel
theorem dL_law_332 : decode cL_law 332 = .ok (.iload 4, 2) := by decide +kernel
theorem dL_law_334 : decode cL_law 334 = .ok (.iconst 0, 1) := by decide +kernel
theorem dL_law_335 : decode cL_law 335 = .ok (.invokevirtual 161, 3) := by decide +kernel
theorem dL_law_338 : decode cL_law 338 = .ok (.i2l, 1) := by decide +kernel
theorem dL_law_339 : decode cL_law 339 = .ok (.aload_n 2, 1) := by decide +kernel
theorem dL_law_340 : decode cL_law 340 = .ok (.bipush 101, 2) := by decide +kernel
theorem dL_law_342 : decode cL_law 342 = .ok (.laload, 1) := by decide +kernel
theorem dL_law_343 : decode cL_law 343 = .ok (.lcmp, 1) := by decide +kernel
theorem dL_law_344 : decode cL_law 344 = .ok (.ifCond .ne 63, 3) := by decide +kernel
theorem dL_law_347 : decode cL_law 347 = .ok (.aload_n 1, 1) := by decide +kernel
theorem dL_law_348 : decode cL_law 348 = .ok (.iload 4, 2) := by decide +kernel
theorem dL_law_350 : decode cL_law 350 = .ok (.iconst 1, 1) := by decide +kernel
theorem dL_law_351 : decode cL_law 351 = .ok (.invokevirtual 161, 3) := by decide +kernel
theorem dL_law_354 : decode cL_law 354 = .ok (.i2l, 1) := by decide +kernel
theorem dL_law_355 : decode cL_law 355 = .ok (.aload_n 2, 1) := by decide +kernel
theorem dL_law_356 : decode cL_law 356 = .ok (.bipush 102, 2) := by decide +kernel
theorem dL_law_358 : decode cL_law 358 = .ok (.laload, 1) := by decide +kernel
theorem dL_law_359 : decode cL_law 359 = .ok (.lcmp, 1) := by decide +kernel
theorem dL_law_360 : decode cL_law 360 = .ok (.ifCond .ne 47, 3) := by decide +kernel
theorem dL_law_363 : decode cL_law 363 = .ok (.aload_n 1, 1) := by decide +kernel
theorem dL_law_364 : decode cL_law 364 = .ok (.iload 4, 2) := by decide +kernel
theorem dL_law_366 : decode cL_law 366 = .ok (.iconst 2, 1) := by decide +kernel
theorem dL_law_367 : decode cL_law 367 = .ok (.invokevirtual 161, 3) := by decide +kernel
theorem dL_law_370 : decode cL_law 370 = .ok (.i2l, 1) := by decide +kernel
theorem dL_law_371 : decode cL_law 371 = .ok (.aload_n 2, 1) := by decide +kernel
theorem dL_law_372 : decode cL_law 372 = .ok (.bipush 103, 2) := by decide +kernel
theorem dL_law_374 : decode cL_law 374 = .ok (.laload, 1) := by decide +kernel
theorem dL_law_375 : decode cL_law 375 = .ok (.lcmp, 1) := by decide +kernel
theorem dL_law_376 : decode cL_law 376 = .ok (.ifCond .ne 31, 3) := by decide +kernel
theorem dL_law_379 : decode cL_law 379 = .ok (.aload_n 1, 1) := by decide +kernel
theorem dL_law_380 : decode cL_law 380 = .ok (.iload 4, 2) := by decide +kernel
theorem dL_law_382 : decode cL_law 382 = .ok (.iconst 3, 1) := by decide +kernel
theorem dL_law_383 : decode cL_law 383 = .ok (.invokevirtual 161, 3) := by decide +kernel
theorem dL_law_386 : decode cL_law 386 = .ok (.iload 5, 2) := by decide +kernel
theorem dL_law_388 : decode cL_law 388 = .ok (.if_icmp .ne 19, 3) := by decide +kernel
theorem dL_law_391 : decode cL_law 391 = .ok (.aload_n 1, 1) := by decide +kernel
theorem dL_law_392 : decode cL_law 392 = .ok (.iload 4, 2) := by decide +kernel
theorem dL_law_394 : decode cL_law 394 = .ok (.iconst 4, 1) := by decide +kernel
theorem dL_law_395 : decode cL_law 395 = .ok (.invokevirtual 161, 3) := by decide +kernel
theorem dL_law_398 : decode cL_law 398 = .ok (.i2l, 1) := by decide +kernel
theorem dL_law_399 : decode cL_law 399 = .ok (.aload_n 2, 1) := by decide +kernel
theorem dL_law_400 : decode cL_law 400 = .ok (.bipush 104, 2) := by decide +kernel
theorem dL_law_402 : decode cL_law 402 = .ok (.laload, 1) := by decide +kernel
theorem dL_law_403 : decode cL_law 403 = .ok (.lcmp, 1) := by decide +kernel
theorem dL_law_404 : decode cL_law 404 = .ok (.ifCond .eq 5, 3) := by decide +kernel
theorem dL_law_407 : decode cL_law 407 = .ok (.iconst 0, 1) := by decide +kernel
theorem dL_law_408 : decode cL_law 408 = .ok (.ireturn, 1) := by decide +kernel
theorem dL_law_409 : decode cL_law 409 = .ok (.lconst 0, 1) := by decide +kernel
theorem dL_law_410 : decode cL_law 410 = .ok (.lstore 8, 2) := by decide +kernel
theorem dL_law_412 : decode cL_law 412 = .ok (.iconst 0, 1) := by decide +kernel
theorem dL_law_413 : decode cL_law 413 = .ok (.istore 10, 2) := by decide +kernel
theorem dL_law_415 : decode cL_law 415 = .ok (.iload 10, 2) := by decide +kernel
theorem dL_law_417 : decode cL_law 417 = .ok (.bipush 9, 2) := by decide +kernel
theorem dL_law_419 : decode cL_law 419 = .ok (.if_icmp .ge 105, 3) := by decide +kernel
theorem dL_law_422 : decode cL_law 422 = .ok (.aload_n 1, 1) := by decide +kernel
theorem dL_law_423 : decode cL_law 423 = .ok (.iload 10, 2) := by decide +kernel
theorem dL_law_425 : decode cL_law 425 = .ok (.iload 4, 2) := by decide +kernel
theorem dL_law_427 : decode cL_law 427 = .ok (.iconst 0, 1) := by decide +kernel
theorem dL_law_428 : decode cL_law 428 = .ok (.invokevirtual 164, 3) := by decide +kernel
theorem dL_law_431 : decode cL_law 431 = .ok (.i2l, 1) := by decide +kernel
theorem dL_law_432 : decode cL_law 432 = .ok (.aload_n 2, 1) := by decide +kernel
theorem dL_law_433 : decode cL_law 433 = .ok (.bipush 70, 2) := by decide +kernel
theorem dL_law_435 : decode cL_law 435 = .ok (.iload 10, 2) := by decide +kernel
theorem dL_law_437 : decode cL_law 437 = .ok (.iadd, 1) := by decide +kernel
theorem dL_law_438 : decode cL_law 438 = .ok (.laload, 1) := by decide +kernel
theorem dL_law_439 : decode cL_law 439 = .ok (.lcmp, 1) := by decide +kernel
theorem dL_law_440 : decode cL_law 440 = .ok (.ifCond .ne 56, 3) := by decide +kernel
theorem dL_law_443 : decode cL_law 443 = .ok (.aload_n 1, 1) := by decide +kernel
theorem dL_law_444 : decode cL_law 444 = .ok (.iload 10, 2) := by decide +kernel
theorem dL_law_446 : decode cL_law 446 = .ok (.iload 4, 2) := by decide +kernel
theorem dL_law_448 : decode cL_law 448 = .ok (.iconst 1, 1) := by decide +kernel
theorem dL_law_449 : decode cL_law 449 = .ok (.invokevirtual 164, 3) := by decide +kernel
theorem dL_law_452 : decode cL_law 452 = .ok (.i2l, 1) := by decide +kernel
theorem dL_law_453 : decode cL_law 453 = .ok (.aload_n 2, 1) := by decide +kernel
theorem dL_law_454 : decode cL_law 454 = .ok (.bipush 90, 2) := by decide +kernel
theorem dL_law_456 : decode cL_law 456 = .ok (.iload 10, 2) := by decide +kernel
theorem dL_law_458 : decode cL_law 458 = .ok (.iadd, 1) := by decide +kernel
theorem dL_law_459 : decode cL_law 459 = .ok (.laload, 1) := by decide +kernel
theorem dL_law_460 : decode cL_law 460 = .ok (.lcmp, 1) := by decide +kernel
theorem dL_law_461 : decode cL_law 461 = .ok (.ifCond .ne 35, 3) := by decide +kernel
theorem dL_law_464 : decode cL_law 464 = .ok (.aload_n 1, 1) := by decide +kernel
theorem dL_law_465 : decode cL_law 465 = .ok (.iload 10, 2) := by decide +kernel
theorem dL_law_467 : decode cL_law 467 = .ok (.iconst 0, 1) := by decide +kernel
theorem dL_law_468 : decode cL_law 468 = .ok (.invokevirtual 167, 3) := by decide +kernel
theorem dL_law_471 : decode cL_law 471 = .ok (.aload_n 0, 1) := by decide +kernel
theorem dL_law_472 : decode cL_law 472 = .ok (.iload 10, 2) := by decide +kernel
theorem dL_law_474 : decode cL_law 474 = .ok (.invokestatic 24, 3) := by decide +kernel
theorem dL_law_477 : decode cL_law 477 = .ok (.if_icmp .ne 19, 3) := by decide +kernel
theorem dL_law_480 : decode cL_law 480 = .ok (.aload_n 1, 1) := by decide +kernel
theorem dL_law_481 : decode cL_law 481 = .ok (.iload 10, 2) := by decide +kernel
theorem dL_law_483 : decode cL_law 483 = .ok (.iconst 1, 1) := by decide +kernel
theorem dL_law_484 : decode cL_law 484 = .ok (.invokevirtual 167, 3) := by decide +kernel
theorem dL_law_487 : decode cL_law 487 = .ok (.aload_n 0, 1) := by decide +kernel
theorem dL_law_488 : decode cL_law 488 = .ok (.iload 10, 2) := by decide +kernel
theorem dL_law_490 : decode cL_law 490 = .ok (.invokestatic 34, 3) := by decide +kernel
theorem dL_law_493 : decode cL_law 493 = .ok (.if_icmp .eq 5, 3) := by decide +kernel
theorem dL_law_496 : decode cL_law 496 = .ok (.iconst 0, 1) := by decide +kernel
theorem dL_law_497 : decode cL_law 497 = .ok (.ireturn, 1) := by decide +kernel
theorem dL_law_498 : decode cL_law 498 = .ok (.lload 8, 2) := by decide +kernel
theorem dL_law_500 : decode cL_law 500 = .ok (.aload_n 0, 1) := by decide +kernel
theorem dL_law_501 : decode cL_law 501 = .ok (.iload 10, 2) := by decide +kernel
theorem dL_law_503 : decode cL_law 503 = .ok (.invokestatic 24, 3) := by decide +kernel
theorem dL_law_506 : decode cL_law 506 = .ok (.i2l, 1) := by decide +kernel
theorem dL_law_507 : decode cL_law 507 = .ok (.aload_n 2, 1) := by decide +kernel
theorem dL_law_508 : decode cL_law 508 = .ok (.bipush 70, 2) := by decide +kernel
theorem dL_law_510 : decode cL_law 510 = .ok (.iload 10, 2) := by decide +kernel
theorem dL_law_512 : decode cL_law 512 = .ok (.iadd, 1) := by decide +kernel
theorem dL_law_513 : decode cL_law 513 = .ok (.laload, 1) := by decide +kernel
theorem dL_law_514 : decode cL_law 514 = .ok (.lsub, 1) := by decide +kernel
theorem dL_law_515 : decode cL_law 515 = .ok (.ladd, 1) := by decide +kernel
theorem dL_law_516 : decode cL_law 516 = .ok (.lstore 8, 2) := by decide +kernel
theorem dL_law_518 : decode cL_law 518 = .ok (.iinc 10 1, 3) := by decide +kernel
theorem dL_law_521 : decode cL_law 521 = .ok (.goto (-106), 3) := by decide +kernel
theorem dL_law_524 : decode cL_law 524 = .ok (.aload_n 2, 1) := by decide +kernel
theorem dL_law_525 : decode cL_law 525 = .ok (.bipush 100, 2) := by decide +kernel
theorem dL_law_527 : decode cL_law 527 = .ok (.laload, 1) := by decide +kernel
theorem dL_law_528 : decode cL_law 528 = .ok (.lconst 0, 1) := by decide +kernel
theorem dL_law_529 : decode cL_law 529 = .ok (.lcmp, 1) := by decide +kernel
theorem dL_law_530 : decode cL_law 530 = .ok (.ifCond .ne 13, 3) := by decide +kernel
theorem dL_law_533 : decode cL_law 533 = .ok (.lload 8, 2) := by decide +kernel
theorem dL_law_535 : decode cL_law 535 = .ok (.lload 6, 2) := by decide +kernel
theorem dL_law_537 : decode cL_law 537 = .ok (.lcmp, 1) := by decide +kernel
theorem dL_law_538 : decode cL_law 538 = .ok (.ifCond .ge 5, 3) := by decide +kernel
theorem dL_law_541 : decode cL_law 541 = .ok (.iconst 0, 1) := by decide +kernel
theorem dL_law_542 : decode cL_law 542 = .ok (.ireturn, 1) := by decide +kernel
theorem dL_law_543 : decode cL_law 543 = .ok (.aload_n 1, 1) := by decide +kernel
theorem dL_law_544 : decode cL_law 544 = .ok (.iconst 1, 1) := by decide +kernel
theorem dL_law_545 : decode cL_law 545 = .ok (.invokevirtual 170, 3) := by decide +kernel
theorem dL_law_548 : decode cL_law 548 = .ok (.ifCond .lt 57, 3) := by decide +kernel
theorem dL_law_551 : decode cL_law 551 = .ok (.aload_n 1, 1) := by decide +kernel
theorem dL_law_552 : decode cL_law 552 = .ok (.iconst 0, 1) := by decide +kernel
theorem dL_law_553 : decode cL_law 553 = .ok (.invokevirtual 170, 3) := by decide +kernel
theorem dL_law_556 : decode cL_law 556 = .ok (.ifCond .lt 30, 3) := by decide +kernel
theorem dL_law_559 : decode cL_law 559 = .ok (.aload_n 1, 1) := by decide +kernel
theorem dL_law_560 : decode cL_law 560 = .ok (.sipush 600, 3) := by decide +kernel
theorem dL_law_563 : decode cL_law 563 = .ok (.iconst 4, 1) := by decide +kernel
theorem dL_law_564 : decode cL_law 564 = .ok (.invokevirtual 161, 3) := by decide +kernel
theorem dL_law_567 : decode cL_law 567 = .ok (.ifCond .lt 19, 3) := by decide +kernel
theorem dL_law_570 : decode cL_law 570 = .ok (.aload_n 1, 1) := by decide +kernel
theorem dL_law_571 : decode cL_law 571 = .ok (.iconst 0, 1) := by decide +kernel
theorem dL_law_572 : decode cL_law 572 = .ok (.invokevirtual 170, 3) := by decide +kernel
theorem dL_law_575 : decode cL_law 575 = .ok (.aload_n 1, 1) := by decide +kernel
theorem dL_law_576 : decode cL_law 576 = .ok (.sipush 600, 3) := by decide +kernel
theorem dL_law_579 : decode cL_law 579 = .ok (.iconst 4, 1) := by decide +kernel
theorem dL_law_580 : decode cL_law 580 = .ok (.invokevirtual 161, 3) := by decide +kernel
theorem dL_law_583 : decode cL_law 583 = .ok (.if_icmp .gt 22, 3) := by decide +kernel
theorem dL_law_586 : decode cL_law 586 = .ok (.aload_n 1, 1) := by decide +kernel
theorem dL_law_587 : decode cL_law 587 = .ok (.iconst 0, 1) := by decide +kernel
theorem dL_law_588 : decode cL_law 588 = .ok (.invokevirtual 170, 3) := by decide +kernel
theorem dL_law_591 : decode cL_law 591 = .ok (.ifCond .ge 16, 3) := by decide +kernel
theorem dL_law_594 : decode cL_law 594 = .ok (.aload_n 1, 1) := by decide +kernel
theorem dL_law_595 : decode cL_law 595 = .ok (.sipush 600, 3) := by decide +kernel
theorem dL_law_598 : decode cL_law 598 = .ok (.iconst 4, 1) := by decide +kernel
theorem dL_law_599 : decode cL_law 599 = .ok (.invokevirtual 161, 3) := by decide +kernel
theorem dL_law_602 : decode cL_law 602 = .ok (.ifCond .lt 5, 3) := by decide +kernel
theorem dL_law_605 : decode cL_law 605 = .ok (.iconst 0, 1) := by decide +kernel
theorem dL_law_606 : decode cL_law 606 = .ok (.ireturn, 1) := by decide +kernel
theorem dL_law_607 : decode cL_law 607 = .ok (.iconst 0, 1) := by decide +kernel
theorem dL_law_608 : decode cL_law 608 = .ok (.istore 10, 2) := by decide +kernel
theorem dL_law_610 : decode cL_law 610 = .ok (.iload 10, 2) := by decide +kernel
theorem dL_law_612 : decode cL_law 612 = .ok (.iload_n 3, 1) := by decide +kernel
theorem dL_law_613 : decode cL_law 613 = .ok (.if_icmp .ge 29, 3) := by decide +kernel
theorem dL_law_616 : decode cL_law 616 = .ok (.aload_n 1, 1) := by decide +kernel
theorem dL_law_617 : decode cL_law 617 = .ok (.iload 10, 2) := by decide +kernel
theorem dL_law_619 : decode cL_law 619 = .ok (.iconst 1, 1) := by decide +kernel
theorem dL_law_620 : decode cL_law 620 = .ok (.invokevirtual 173, 3) := by decide +kernel
theorem dL_law_623 : decode cL_law 623 = .ok (.aload_n 1, 1) := by decide +kernel
theorem dL_law_624 : decode cL_law 624 = .ok (.sipush 600, 3) := by decide +kernel
theorem dL_law_627 : decode cL_law 627 = .ok (.iconst 0, 1) := by decide +kernel
theorem dL_law_628 : decode cL_law 628 = .ok (.invokevirtual 161, 3) := by decide +kernel
theorem dL_law_631 : decode cL_law 631 = .ok (.if_icmp .ge 5, 3) := by decide +kernel
theorem dL_law_634 : decode cL_law 634 = .ok (.iconst 0, 1) := by decide +kernel
theorem dL_law_635 : decode cL_law 635 = .ok (.ireturn, 1) := by decide +kernel
theorem dL_law_636 : decode cL_law 636 = .ok (.iinc 10 1, 3) := by decide +kernel
theorem dL_law_639 : decode cL_law 639 = .ok (.goto (-29), 3) := by decide +kernel
theorem dL_law_642 : decode cL_law 642 = .ok (.aload_n 1, 1) := by decide +kernel
theorem dL_law_643 : decode cL_law 643 = .ok (.iconst 1, 1) := by decide +kernel
theorem dL_law_644 : decode cL_law 644 = .ok (.iload 4, 2) := by decide +kernel
theorem dL_law_646 : decode cL_law 646 = .ok (.invokevirtual 175, 3) := by decide +kernel
theorem dL_law_649 : decode cL_law 649 = .ok (.bipush 9, 2) := by decide +kernel
theorem dL_law_651 : decode cL_law 651 = .ok (.if_icmp .ne 14, 3) := by decide +kernel
theorem dL_law_654 : decode cL_law 654 = .ok (.aload_n 1, 1) := by decide +kernel
theorem dL_law_655 : decode cL_law 655 = .ok (.iconst 1, 1) := by decide +kernel
theorem dL_law_656 : decode cL_law 656 = .ok (.iload 4, 2) := by decide +kernel
theorem dL_law_658 : decode cL_law 658 = .ok (.invokevirtual 178, 3) := by decide +kernel
theorem dL_law_661 : decode cL_law 661 = .ok (.iconst (-1), 1) := by decide +kernel
theorem dL_law_662 : decode cL_law 662 = .ok (.if_icmp .eq 5, 3) := by decide +kernel
theorem dL_law_665 : decode cL_law 665 = .ok (.iconst 0, 1) := by decide +kernel
theorem dL_law_666 : decode cL_law 666 = .ok (.ireturn, 1) := by decide +kernel
theorem dL_law_667 : decode cL_law 667 = .ok (.aload_n 1, 1) := by decide +kernel
theorem dL_law_668 : decode cL_law 668 = .ok (.iload 4, 2) := by decide +kernel
theorem dL_law_670 : decode cL_law 670 = .ok (.invokevirtual 181, 3) := by decide +kernel
theorem dL_law_673 : decode cL_law 673 = .ok (.i2l, 1) := by decide +kernel
theorem dL_law_674 : decode cL_law 674 = .ok (.aload_n 2, 1) := by decide +kernel
theorem dL_law_675 : decode cL_law 675 = .ok (.bipush 101, 2) := by decide +kernel
theorem dL_law_677 : decode cL_law 677 = .ok (.laload, 1) := by decide +kernel
theorem dL_law_678 : decode cL_law 678 = .ok (.lcmp, 1) := by decide +kernel
theorem dL_law_679 : decode cL_law 679 = .ok (.ifCond .eq 5, 3) := by decide +kernel
theorem dL_law_682 : decode cL_law 682 = .ok (.iconst 0, 1) := by decide +kernel
theorem dL_law_683 : decode cL_law 683 = .ok (.ireturn, 1) := by decide +kernel
theorem dL_law_684 : decode cL_law 684 = .ok (.iconst 0, 1) := by decide +kernel
theorem dL_law_685 : decode cL_law 685 = .ok (.istore 10, 2) := by decide +kernel
theorem dL_law_687 : decode cL_law 687 = .ok (.iload 10, 2) := by decide +kernel
theorem dL_law_689 : decode cL_law 689 = .ok (.bipush 9, 2) := by decide +kernel
theorem dL_law_691 : decode cL_law 691 = .ok (.if_icmp .ge 30, 3) := by decide +kernel
theorem dL_law_694 : decode cL_law 694 = .ok (.aload_n 1, 1) := by decide +kernel
theorem dL_law_695 : decode cL_law 695 = .ok (.iload 10, 2) := by decide +kernel
theorem dL_law_697 : decode cL_law 697 = .ok (.iconst 0, 1) := by decide +kernel
theorem dL_law_698 : decode cL_law 698 = .ok (.invokevirtual 167, 3) := by decide +kernel
theorem dL_law_701 : decode cL_law 701 = .ok (.i2l, 1) := by decide +kernel
theorem dL_law_702 : decode cL_law 702 = .ok (.aload_n 2, 1) := by decide +kernel
theorem dL_law_703 : decode cL_law 703 = .ok (.bipush 70, 2) := by decide +kernel
theorem dL_law_705 : decode cL_law 705 = .ok (.iload 10, 2) := by decide +kernel
theorem dL_law_707 : decode cL_law 707 = .ok (.iadd, 1) := by decide +kernel
theorem dL_law_708 : decode cL_law 708 = .ok (.laload, 1) := by decide +kernel
theorem dL_law_709 : decode cL_law 709 = .ok (.lcmp, 1) := by decide +kernel
theorem dL_law_710 : decode cL_law 710 = .ok (.ifCond .eq 5, 3) := by decide +kernel
theorem dL_law_713 : decode cL_law 713 = .ok (.iconst 0, 1) := by decide +kernel
theorem dL_law_714 : decode cL_law 714 = .ok (.ireturn, 1) := by decide +kernel
theorem dL_law_715 : decode cL_law 715 = .ok (.iinc 10 1, 3) := by decide +kernel
theorem dL_law_718 : decode cL_law 718 = .ok (.goto (-31), 3) := by decide +kernel
theorem dL_law_721 : decode cL_law 721 = .ok (.aload_n 1, 1) := by decide +kernel
theorem dL_law_722 : decode cL_law 722 = .ok (.sipush 601, 3) := by decide +kernel
theorem dL_law_725 : decode cL_law 725 = .ok (.iconst 0, 1) := by decide +kernel
theorem dL_law_726 : decode cL_law 726 = .ok (.invokevirtual 161, 3) := by decide +kernel
theorem dL_law_729 : decode cL_law 729 = .ok (.bipush (-2), 2) := by decide +kernel
theorem dL_law_731 : decode cL_law 731 = .ok (.if_icmp .ne 188, 3) := by decide +kernel
theorem dL_law_734 : decode cL_law 734 = .ok (.aload_n 1, 1) := by decide +kernel
theorem dL_law_735 : decode cL_law 735 = .ok (.iconst 0, 1) := by decide +kernel
theorem dL_law_736 : decode cL_law 736 = .ok (.iconst 5, 1) := by decide +kernel
theorem dL_law_737 : decode cL_law 737 = .ok (.invokevirtual 161, 3) := by decide +kernel
theorem dL_law_740 : decode cL_law 740 = .ok (.bipush (-2), 2) := by decide +kernel
theorem dL_law_742 : decode cL_law 742 = .ok (.if_icmp .ne 177, 3) := by decide +kernel
theorem dL_law_745 : decode cL_law 745 = .ok (.aload_n 1, 1) := by decide +kernel
theorem dL_law_746 : decode cL_law 746 = .ok (.iconst 0, 1) := by decide +kernel
theorem dL_law_747 : decode cL_law 747 = .ok (.iconst 0, 1) := by decide +kernel
theorem dL_law_748 : decode cL_law 748 = .ok (.invokevirtual 161, 3) := by decide +kernel
theorem dL_law_751 : decode cL_law 751 = .ok (.ifCond .ne 168, 3) := by decide +kernel
theorem dL_law_754 : decode cL_law 754 = .ok (.aload_n 1, 1) := by decide +kernel
theorem dL_law_755 : decode cL_law 755 = .ok (.iconst 5, 1) := by decide +kernel
theorem dL_law_756 : decode cL_law 756 = .ok (.iconst 0, 1) := by decide +kernel
theorem dL_law_757 : decode cL_law 757 = .ok (.iconst 0, 1) := by decide +kernel
theorem dL_law_758 : decode cL_law 758 = .ok (.invokevirtual 155, 3) := by decide +kernel
theorem dL_law_761 : decode cL_law 761 = .ok (.bipush (-5), 2) := by decide +kernel
theorem dL_law_763 : decode cL_law 763 = .ok (.if_icmp .ne 156, 3) := by decide +kernel
theorem dL_law_766 : decode cL_law 766 = .ok (.aload_n 1, 1) := by decide +kernel
theorem dL_law_767 : decode cL_law 767 = .ok (.iconst 0, 1) := by decide +kernel
theorem dL_law_768 : decode cL_law 768 = .ok (.sipush 601, 3) := by decide +kernel
theorem dL_law_771 : decode cL_law 771 = .ok (.iconst 0, 1) := by decide +kernel
theorem dL_law_772 : decode cL_law 772 = .ok (.invokevirtual 155, 3) := by decide +kernel
theorem dL_law_775 : decode cL_law 775 = .ok (.bipush (-7), 2) := by decide +kernel
theorem dL_law_777 : decode cL_law 777 = .ok (.if_icmp .ne 142, 3) := by decide +kernel
theorem dL_law_780 : decode cL_law 780 = .ok (.aload_n 1, 1) := by decide +kernel
theorem dL_law_781 : decode cL_law 781 = .ok (.iconst 0, 1) := by decide +kernel
theorem dL_law_782 : decode cL_law 782 = .ok (.iconst 0, 1) := by decide +kernel
theorem dL_law_783 : decode cL_law 783 = .ok (.iconst 5, 1) := by decide +kernel
theorem dL_law_784 : decode cL_law 784 = .ok (.invokevirtual 155, 3) := by decide +kernel
theorem dL_law_787 : decode cL_law 787 = .ok (.bipush (-7), 2) := by decide +kernel
theorem dL_law_789 : decode cL_law 789 = .ok (.if_icmp .ne 130, 3) := by decide +kernel
theorem dL_law_792 : decode cL_law 792 = .ok (.aload_n 1, 1) := by decide +kernel
theorem dL_law_793 : decode cL_law 793 = .ok (.bipush 9, 2) := by decide +kernel
theorem dL_law_795 : decode cL_law 795 = .ok (.iconst 0, 1) := by decide +kernel
theorem dL_law_796 : decode cL_law 796 = .ok (.iconst 0, 1) := by decide +kernel
theorem dL_law_797 : decode cL_law 797 = .ok (.invokevirtual 164, 3) := by decide +kernel
theorem dL_law_800 : decode cL_law 800 = .ok (.bipush (-6), 2) := by decide +kernel
theorem dL_law_802 : decode cL_law 802 = .ok (.if_icmp .ne 117, 3) := by decide +kernel
theorem dL_law_805 : decode cL_law 805 = .ok (.aload_n 1, 1) := by decide +kernel
theorem dL_law_806 : decode cL_law 806 = .ok (.iconst 0, 1) := by decide +kernel
theorem dL_law_807 : decode cL_law 807 = .ok (.sipush 601, 3) := by decide +kernel
theorem dL_law_810 : decode cL_law 810 = .ok (.iconst 0, 1) := by decide +kernel
theorem dL_law_811 : decode cL_law 811 = .ok (.invokevirtual 164, 3) := by decide +kernel
theorem dL_law_814 : decode cL_law 814 = .ok (.bipush (-7), 2) := by decide +kernel
theorem dL_law_816 : decode cL_law 816 = .ok (.if_icmp .ne 103, 3) := by decide +kernel
theorem dL_law_819 : decode cL_law 819 = .ok (.aload_n 1, 1) := by decide +kernel
theorem dL_law_820 : decode cL_law 820 = .ok (.iconst 0, 1) := by decide +kernel
theorem dL_law_821 : decode cL_law 821 = .ok (.iconst 0, 1) := by decide +kernel
theorem dL_law_822 : decode cL_law 822 = .ok (.iconst 2, 1) := by decide +kernel
theorem dL_law_823 : decode cL_law 823 = .ok (.invokevirtual 164, 3) := by decide +kernel
theorem dL_law_826 : decode cL_law 826 = .ok (.bipush (-7), 2) := by decide +kernel
theorem dL_law_828 : decode cL_law 828 = .ok (.if_icmp .ne 91, 3) := by decide +kernel
theorem dL_law_831 : decode cL_law 831 = .ok (.aload_n 1, 1) := by decide +kernel
theorem dL_law_832 : decode cL_law 832 = .ok (.sipush 601, 3) := by decide +kernel
theorem dL_law_835 : decode cL_law 835 = .ok (.invokevirtual 181, 3) := by decide +kernel
theorem dL_law_838 : decode cL_law 838 = .ok (.bipush (-2), 2) := by decide +kernel
theorem dL_law_840 : decode cL_law 840 = .ok (.if_icmp .ne 79, 3) := by decide +kernel
theorem dL_law_843 : decode cL_law 843 = .ok (.aload_n 1, 1) := by decide +kernel
theorem dL_law_844 : decode cL_law 844 = .ok (.iconst (-1), 1) := by decide +kernel
theorem dL_law_845 : decode cL_law 845 = .ok (.invokevirtual 181, 3) := by decide +kernel
theorem dL_law_848 : decode cL_law 848 = .ok (.bipush (-2), 2) := by decide +kernel
theorem dL_law_850 : decode cL_law 850 = .ok (.if_icmp .ne 69, 3) := by decide +kernel
theorem dL_law_853 : decode cL_law 853 = .ok (.aload_n 1, 1) := by decide +kernel
theorem dL_law_854 : decode cL_law 854 = .ok (.iconst 5, 1) := by decide +kernel
theorem dL_law_855 : decode cL_law 855 = .ok (.iconst 0, 1) := by decide +kernel
theorem dL_law_856 : decode cL_law 856 = .ok (.invokevirtual 158, 3) := by decide +kernel
theorem dL_law_859 : decode cL_law 859 = .ok (.bipush (-5), 2) := by decide +kernel
theorem dL_law_861 : decode cL_law 861 = .ok (.if_icmp .ne 58, 3) := by decide +kernel
theorem dL_law_864 : decode cL_law 864 = .ok (.aload_n 1, 1) := by decide +kernel
theorem dL_law_865 : decode cL_law 865 = .ok (.iconst 0, 1) := by decide +kernel
theorem dL_law_866 : decode cL_law 866 = .ok (.iconst 4, 1) := by decide +kernel
theorem dL_law_867 : decode cL_law 867 = .ok (.invokevirtual 158, 3) := by decide +kernel
theorem dL_law_870 : decode cL_law 870 = .ok (.bipush (-7), 2) := by decide +kernel
theorem dL_law_872 : decode cL_law 872 = .ok (.if_icmp .ne 47, 3) := by decide +kernel
theorem dL_law_875 : decode cL_law 875 = .ok (.aload_n 1, 1) := by decide +kernel
theorem dL_law_876 : decode cL_law 876 = .ok (.bipush 9, 2) := by decide +kernel
theorem dL_law_878 : decode cL_law 878 = .ok (.iconst 0, 1) := by decide +kernel
theorem dL_law_879 : decode cL_law 879 = .ok (.invokevirtual 167, 3) := by decide +kernel
theorem dL_law_882 : decode cL_law 882 = .ok (.bipush (-6), 2) := by decide +kernel
theorem dL_law_884 : decode cL_law 884 = .ok (.if_icmp .ne 35, 3) := by decide +kernel
theorem dL_law_887 : decode cL_law 887 = .ok (.aload_n 1, 1) := by decide +kernel
theorem dL_law_888 : decode cL_law 888 = .ok (.iconst 0, 1) := by decide +kernel
theorem dL_law_889 : decode cL_law 889 = .ok (.iconst 2, 1) := by decide +kernel
theorem dL_law_890 : decode cL_law 890 = .ok (.invokevirtual 167, 3) := by decide +kernel
theorem dL_law_893 : decode cL_law 893 = .ok (.bipush (-7), 2) := by decide +kernel
theorem dL_law_895 : decode cL_law 895 = .ok (.if_icmp .ne 24, 3) := by decide +kernel
theorem dL_law_898 : decode cL_law 898 = .ok (.new 18, 3) := by decide +kernel
theorem dL_law_901 : decode cL_law 901 = .ok (.dup, 1) := by decide +kernel
theorem dL_law_902 : decode cL_law 902 = .ok (.invokespecial 23, 3) := by decide +kernel
theorem dL_law_905 : decode cL_law 905 = .ok (.sipush 600, 3) := by decide +kernel
theorem dL_law_908 : decode cL_law 908 = .ok (.iconst 0, 1) := by decide +kernel
theorem dL_law_909 : decode cL_law 909 = .ok (.invokevirtual 161, 3) := by decide +kernel
theorem dL_law_912 : decode cL_law 912 = .ok (.ifCond .ne 7, 3) := by decide +kernel
theorem dL_law_915 : decode cL_law 915 = .ok (.iconst 1, 1) := by decide +kernel
theorem dL_law_916 : decode cL_law 916 = .ok (.goto 4, 3) := by decide +kernel
theorem dL_law_919 : decode cL_law 919 = .ok (.iconst 0, 1) := by decide +kernel
theorem dL_law_920 : decode cL_law 920 = .ok (.ireturn, 1) := by decide +kernel
