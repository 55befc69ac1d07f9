theorem dX12_go_264 : decode cX12_go 264 = .ok (.goto (-71), 3) := by decide +kernel
theorem dX12_go_267 : decode cX12_go 267 = .ok (.aload_n 0, 1) := by decide +kernel
theorem dX12_go_268 : decode cX12_go 268 = .ok (.iconst 2, 1) := by decide +kernel
theorem dX12_go_269 : decode cX12_go 269 = .ok (.putfield 86, 3) := by decide +kernel
theorem dX12_go_272 : decode cX12_go 272 = .ok (.goto 23, 3) := by decide +kernel
theorem dX12_go_275 : decode cX12_go 275 = .ok (.aload_n 0, 1) := by decide +kernel
theorem dX12_go_276 : decode cX12_go 276 = .ok (.dup, 1) := by decide +kernel
theorem dX12_go_277 : decode cX12_go 277 = .ok (.getfield 67, 3) := by decide +kernel
theorem dX12_go_280 : decode cX12_go 280 = .ok (.iconst 1, 1) := by decide +kernel
theorem dX12_go_281 : decode cX12_go 281 = .ok (.iadd, 1) := by decide +kernel
theorem dX12_go_282 : decode cX12_go 282 = .ok (.putfield 67, 3) := by decide +kernel
theorem dX12_go_285 : decode cX12_go 285 = .ok (.aload_n 0, 1) := by decide +kernel
theorem dX12_go_286 : decode cX12_go 286 = .ok (.iconst 3, 1) := by decide +kernel
theorem dX12_go_287 : decode cX12_go 287 = .ok (.putfield 86, 3) := by decide +kernel
theorem dX12_go_290 : decode cX12_go 290 = .ok (.aload_n 0, 1) := by decide +kernel
theorem dX12_go_291 : decode cX12_go 291 = .ok (.iload_n 1, 1) := by decide +kernel
theorem dX12_go_292 : decode cX12_go 292 = .ok (.putfield 83, 3) := by decide +kernel
theorem dX12_go_295 : decode cX12_go 295 = .ok (.return_, 1) := by decide +kernel
theorem dX12_bad_0 : decode cX12_bad 0 = .ok (.aload_n 0, 1) := by decide +kernel
theorem dX12_bad_1 : decode cX12_bad 1 = .ok (.aload_n 0, 1) := by decide +kernel
theorem dX12_bad_2 : decode cX12_bad 2 = .ok (.getfield 101, 3) := by decide +kernel
theorem dX12_bad_5 : decode cX12_bad 5 = .ok (.ifCond .ne 15, 3) := by decide +kernel
theorem dX12_bad_8 : decode cX12_bad 8 = .ok (.bipush 8, 2) := by decide +kernel
theorem dX12_bad_10 : decode cX12_bad 10 = .ok (.aload_n 0, 1) := by decide +kernel
theorem dX12_bad_11 : decode cX12_bad 11 = .ok (.getfield 74, 3) := by decide +kernel
theorem dX12_bad_14 : decode cX12_bad 14 = .ok (.imul, 1) := by decide +kernel
theorem dX12_bad_15 : decode cX12_bad 15 = .ok (.iload_n 1, 1) := by decide +kernel
theorem dX12_bad_16 : decode cX12_bad 16 = .ok (.iadd, 1) := by decide +kernel
theorem dX12_bad_17 : decode cX12_bad 17 = .ok (.goto 7, 3) := by decide +kernel
theorem dX12_bad_20 : decode cX12_bad 20 = .ok (.aload_n 0, 1) := by decide +kernel
theorem dX12_bad_21 : decode cX12_bad 21 = .ok (.getfield 101, 3) := by decide +kernel
theorem dX12_bad_24 : decode cX12_bad 24 = .ok (.putfield 101, 3) := by decide +kernel
theorem dX12_bad_27 : decode cX12_bad 27 = .ok (.iconst 0, 1) := by decide +kernel
theorem dX12_bad_28 : decode cX12_bad 28 = .ok (.ireturn, 1) := by decide +kernel
theorem dX12_is_0 : decode cX12_is 0 = .ok (.aload_n 0, 1) := by decide +kernel
theorem dX12_is_1 : decode cX12_is 1 = .ok (.getfield 86, 3) := by decide +kernel
theorem dX12_is_4 : decode cX12_is 4 = .ok (.iconst 1, 1) := by decide +kernel
theorem dX12_is_5 : decode cX12_is 5 = .ok (.if_icmp .ne 15, 3) := by decide +kernel
theorem dX12_is_8 : decode cX12_is 8 = .ok (.aload_n 0, 1) := by decide +kernel
theorem dX12_is_9 : decode cX12_is 9 = .ok (.getfield 80, 3) := by decide +kernel
theorem dX12_is_12 : decode cX12_is 12 = .ok (.iload_n 1, 1) := by decide +kernel
theorem dX12_is_13 : decode cX12_is 13 = .ok (.if_icmp .ne 7, 3) := by decide +kernel
theorem dX12_is_16 : decode cX12_is 16 = .ok (.iconst 1, 1) := by decide +kernel
theorem dX12_is_17 : decode cX12_is 17 = .ok (.goto 4, 3) := by decide +kernel
theorem dX12_is_20 : decode cX12_is 20 = .ok (.iconst 0, 1) := by decide +kernel
theorem dX12_is_21 : decode cX12_is 21 = .ok (.ireturn, 1) := by decide +kernel
theorem dX12_isSign_0 : decode cX12_isSign 0 = .ok (.aload_n 0, 1) := by decide +kernel
theorem dX12_isSign_1 : decode cX12_isSign 1 = .ok (.getfield 86, 3) := by decide +kernel
theorem dX12_isSign_4 : decode cX12_isSign 4 = .ok (.iconst 3, 1) := by decide +kernel
theorem dX12_isSign_5 : decode cX12_isSign 5 = .ok (.if_icmp .ne 15, 3) := by decide +kernel
theorem dX12_isSign_8 : decode cX12_isSign 8 = .ok (.aload_n 0, 1) := by decide +kernel
theorem dX12_isSign_9 : decode cX12_isSign 9 = .ok (.getfield 83, 3) := by decide +kernel
theorem dX12_isSign_12 : decode cX12_isSign 12 = .ok (.iload_n 1, 1) := by decide +kernel
theorem dX12_isSign_13 : decode cX12_isSign 13 = .ok (.if_icmp .ne 7, 3) := by decide +kernel
theorem dX12_isSign_16 : decode cX12_isSign 16 = .ok (.iconst 1, 1) := by decide +kernel
theorem dX12_isSign_17 : decode cX12_isSign 17 = .ok (.goto 4, 3) := by decide +kernel
theorem dX12_isSign_20 : decode cX12_isSign 20 = .ok (.iconst 0, 1) := by decide +kernel
theorem dX12_isSign_21 : decode cX12_isSign 21 = .ok (.ireturn, 1) := by decide +kernel
theorem dX12_isName_0 : decode cX12_isName 0 = .ok (.aload_n 0, 1) := by decide +kernel
theorem dX12_isName_1 : decode cX12_isName 1 = .ok (.getfield 86, 3) := by decide +kernel
theorem dX12_isName_4 : decode cX12_isName 4 = .ok (.iconst 1, 1) := by decide +kernel
theorem dX12_isName_5 : decode cX12_isName 5 = .ok (.if_icmp .ne 33, 3) := by decide +kernel
theorem dX12_isName_8 : decode cX12_isName 8 = .ok (.aload_n 0, 1) := by decide +kernel
theorem dX12_isName_9 : decode cX12_isName 9 = .ok (.getfield 80, 3) := by decide +kernel
theorem dX12_isName_12 : decode cX12_isName 12 = .ok (.iconst (-1), 1) := by decide +kernel
theorem dX12_isName_13 : decode cX12_isName 13 = .ok (.if_icmp .eq 25, 3) := by decide +kernel
theorem dX12_isName_16 : decode cX12_isName 16 = .ok (.aload_n 0, 1) := by decide +kernel
theorem dX12_isName_17 : decode cX12_isName 17 = .ok (.ldc 104, 2) := by decide +kernel
theorem dX12_isName_19 : decode cX12_isName 19 = .ok (.invokevirtual 105, 3) := by decide +kernel
theorem dX12_isName_22 : decode cX12_isName 22 = .ok (.ifCond .ne 16, 3) := by decide +kernel
theorem dX12_isName_25 : decode cX12_isName 25 = .ok (.aload_n 0, 1) := by decide +kernel
theorem dX12_isName_26 : decode cX12_isName 26 = .ok (.ldc 109, 2) := by decide +kernel
theorem dX12_isName_28 : decode cX12_isName 28 = .ok (.invokevirtual 105, 3) := by decide +kernel
theorem dX12_isName_31 : decode cX12_isName 31 = .ok (.ifCond .ne 7, 3) := by decide +kernel
theorem dX12_isName_34 : decode cX12_isName 34 = .ok (.iconst 1, 1) := by decide +kernel
theorem dX12_isName_35 : decode cX12_isName 35 = .ok (.goto 4, 3) := by decide +kernel
theorem dX12_isName_38 : decode cX12_isName 38 = .ok (.iconst 0, 1) := by decide +kernel
theorem dX12_isName_39 : decode cX12_isName 39 = .ok (.ireturn, 1) := by decide +kernel
theorem dX12_find_0 : decode cX12_find 0 = .ok (.iconst 0, 1) := by decide +kernel
theorem dX12_find_1 : decode cX12_find 1 = .ok (.istore_n 2, 1) := by decide +kernel
theorem dX12_find_2 : decode cX12_find 2 = .ok (.iload_n 2, 1) := by decide +kernel
theorem dX12_find_3 : decode cX12_find 3 = .ok (.aload_n 0, 1) := by decide +kernel
theorem dX12_find_4 : decode cX12_find 4 = .ok (.getfield 110, 3) := by decide +kernel
theorem dX12_find_7 : decode cX12_find 7 = .ok (.if_icmp .ge 26, 3) := by decide +kernel
theorem dX12_find_10 : decode cX12_find 10 = .ok (.aload_n 0, 1) := by decide +kernel
theorem dX12_find_11 : decode cX12_find 11 = .ok (.getfield 113, 3) := by decide +kernel
theorem dX12_find_14 : decode cX12_find 14 = .ok (.iload_n 2, 1) := by decide +kernel
theorem dX12_find_15 : decode cX12_find 15 = .ok (.iaload, 1) := by decide +kernel
theorem dX12_find_16 : decode cX12_find 16 = .ok (.iload_n 1, 1) := by decide +kernel
theorem dX12_find_17 : decode cX12_find 17 = .ok (.if_icmp .ne 10, 3) := by decide +kernel
theorem dX12_find_20 : decode cX12_find 20 = .ok (.aload_n 0, 1) := by decide +kernel
theorem dX12_find_21 : decode cX12_find 21 = .ok (.getfield 116, 3) := by decide +kernel
theorem dX12_find_24 : decode cX12_find 24 = .ok (.iload_n 2, 1) := by decide +kernel
theorem dX12_find_25 : decode cX12_find 25 = .ok (.iaload, 1) := by decide +kernel
theorem dX12_find_26 : decode cX12_find 26 = .ok (.ireturn, 1) := by decide +kernel
theorem dX12_find_27 : decode cX12_find 27 = .ok (.iinc 2 1, 3) := by decide +kernel
theorem dX12_find_30 : decode cX12_find 30 = .ok (.goto (-28), 3) := by decide +kernel
theorem dX12_find_33 : decode cX12_find 33 = .ok (.iconst (-1), 1) := by decide +kernel
theorem dX12_find_34 : decode cX12_find 34 = .ok (.ireturn, 1) := by decide +kernel
theorem dX12_gives_0 : decode cX12_gives 0 = .ok (.aload_n 0, 1) := by decide +kernel
theorem dX12_gives_1 : decode cX12_gives 1 = .ok (.getfield 113, 3) := by decide +kernel
theorem dX12_gives_4 : decode cX12_gives 4 = .ok (.aload_n 0, 1) := by decide +kernel
theorem dX12_gives_5 : decode cX12_gives 5 = .ok (.getfield 110, 3) := by decide +kernel
theorem dX12_gives_8 : decode cX12_gives 8 = .ok (.iload_n 1, 1) := by decide +kernel
theorem dX12_gives_9 : decode cX12_gives 9 = .ok (.iastore, 1) := by decide +kernel
theorem dX12_gives_10 : decode cX12_gives 10 = .ok (.aload_n 0, 1) := by decide +kernel
theorem dX12_gives_11 : decode cX12_gives 11 = .ok (.getfield 116, 3) := by decide +kernel
theorem dX12_gives_14 : decode cX12_gives 14 = .ok (.aload_n 0, 1) := by decide +kernel
theorem dX12_gives_15 : decode cX12_gives 15 = .ok (.getfield 110, 3) := by decide +kernel
theorem dX12_gives_18 : decode cX12_gives 18 = .ok (.iload_n 2, 1) := by decide +kernel
theorem dX12_gives_19 : decode cX12_gives 19 = .ok (.iastore, 1) := by decide +kernel
theorem dX12_gives_20 : decode cX12_gives 20 = .ok (.aload_n 0, 1) := by decide +kernel
theorem dX12_gives_21 : decode cX12_gives 21 = .ok (.dup, 1) := by decide +kernel
theorem dX12_gives_22 : decode cX12_gives 22 = .ok (.getfield 110, 3) := by decide +kernel
theorem dX12_gives_25 : decode cX12_gives 25 = .ok (.iconst 1, 1) := by decide +kernel
theorem dX12_gives_26 : decode cX12_gives 26 = .ok (.iadd, 1) := by decide +kernel
theorem dX12_gives_27 : decode cX12_gives 27 = .ok (.putfield 110, 3) := by decide +kernel
theorem dX12_gives_30 : decode cX12_gives 30 = .ok (.return_, 1) := by decide +kernel
theorem dX12_baseLine_0 : decode cX12_baseLine 0 = .ok (.aload_n 0, 1) := by decide +kernel
theorem dX12_baseLine_1 : decode cX12_baseLine 1 = .ok (.ldc 104, 2) := by decide +kernel
theorem dX12_baseLine_3 : decode cX12_baseLine 3 = .ok (.invokevirtual 105, 3) := by decide +kernel
theorem dX12_baseLine_6 : decode cX12_baseLine 6 = .ok (.ifCond .ne 9, 3) := by decide +kernel
theorem dX12_baseLine_9 : decode cX12_baseLine 9 = .ok (.aload_n 0, 1) := by decide +kernel
theorem dX12_baseLine_10 : decode cX12_baseLine 10 = .ok (.iconst 1, 1) := by decide +kernel
theorem dX12_baseLine_11 : decode cX12_baseLine 11 = .ok (.invokevirtual 119, 3) := by decide +kernel
theorem dX12_baseLine_14 : decode cX12_baseLine 14 = .ok (.ireturn, 1) := by decide +kernel
theorem dX12_baseLine_15 : decode cX12_baseLine 15 = .ok (.aload_n 0, 1) := by decide +kernel
theorem dX12_baseLine_16 : decode cX12_baseLine 16 = .ok (.invokevirtual 122, 3) := by decide +kernel
theorem dX12_baseLine_19 : decode cX12_baseLine 19 = .ok (.aload_n 0, 1) := by decide +kernel
theorem dX12_baseLine_20 : decode cX12_baseLine 20 = .ok (.invokevirtual 125, 3) := by decide +kernel
theorem dX12_baseLine_23 : decode cX12_baseLine 23 = .ok (.ifCond .ne 9, 3) := by decide +kernel
theorem dX12_baseLine_26 : decode cX12_baseLine 26 = .ok (.aload_n 0, 1) := by decide +kernel
theorem dX12_baseLine_27 : decode cX12_baseLine 27 = .ok (.iconst 1, 1) := by decide +kernel
theorem dX12_baseLine_28 : decode cX12_baseLine 28 = .ok (.invokevirtual 119, 3) := by decide +kernel
theorem dX12_baseLine_31 : decode cX12_baseLine 31 = .ok (.ireturn, 1) := by decide +kernel
theorem dX12_baseLine_32 : decode cX12_baseLine 32 = .ok (.aload_n 0, 1) := by decide +kernel
theorem dX12_baseLine_33 : decode cX12_baseLine 33 = .ok (.aload_n 0, 1) := by decide +kernel
theorem dX12_baseLine_34 : decode cX12_baseLine 34 = .ok (.getfield 80, 3) := by decide +kernel
theorem dX12_baseLine_37 : decode cX12_baseLine 37 = .ok (.invokevirtual 129, 3) := by decide +kernel
theorem dX12_baseLine_40 : decode cX12_baseLine 40 = .ok (.iconst (-1), 1) := by decide +kernel
theorem dX12_baseLine_41 : decode cX12_baseLine 41 = .ok (.if_icmp .eq 9, 3) := by decide +kernel
theorem dX12_baseLine_44 : decode cX12_baseLine 44 = .ok (.aload_n 0, 1) := by decide +kernel
theorem dX12_baseLine_45 : decode cX12_baseLine 45 = .ok (.iconst 2, 1) := by decide +kernel
theorem dX12_baseLine_46 : decode cX12_baseLine 46 = .ok (.invokevirtual 119, 3) := by decide +kernel
theorem dX12_baseLine_49 : decode cX12_baseLine 49 = .ok (.ireturn, 1) := by decide +kernel
theorem dX12_baseLine_50 : decode cX12_baseLine 50 = .ok (.aload_n 0, 1) := by decide +kernel
theorem dX12_baseLine_51 : decode cX12_baseLine 51 = .ok (.getfield 25, 3) := by decide +kernel
theorem dX12_baseLine_54 : decode cX12_baseLine 54 = .ok (.iconst 0, 1) := by decide +kernel
theorem dX12_baseLine_55 : decode cX12_baseLine 55 = .ok (.iaload, 1) := by decide +kernel
theorem dX12_baseLine_56 : decode cX12_baseLine 56 = .ok (.iconst 4, 1) := by decide +kernel
theorem dX12_baseLine_57 : decode cX12_baseLine 57 = .ok (.if_icmp .ne 9, 3) := by decide +kernel
theorem dX12_baseLine_60 : decode cX12_baseLine 60 = .ok (.aload_n 0, 1) := by decide +kernel
theorem dX12_baseLine_61 : decode cX12_baseLine 61 = .ok (.iconst 5, 1) := by decide +kernel
theorem dX12_baseLine_62 : decode cX12_baseLine 62 = .ok (.invokevirtual 119, 3) := by decide +kernel
theorem dX12_baseLine_65 : decode cX12_baseLine 65 = .ok (.ireturn, 1) := by decide +kernel
theorem dX12_baseLine_66 : decode cX12_baseLine 66 = .ok (.aload_n 0, 1) := by decide +kernel
theorem dX12_baseLine_67 : decode cX12_baseLine 67 = .ok (.aload_n 0, 1) := by decide +kernel
theorem dX12_baseLine_68 : decode cX12_baseLine 68 = .ok (.getfield 80, 3) := by decide +kernel
theorem dX12_baseLine_71 : decode cX12_baseLine 71 = .ok (.aload_n 0, 1) := by decide +kernel
theorem dX12_baseLine_72 : decode cX12_baseLine 72 = .ok (.getfield 25, 3) := by decide +kernel
theorem dX12_baseLine_75 : decode cX12_baseLine 75 = .ok (.iconst 0, 1) := by decide +kernel
theorem dX12_baseLine_76 : decode cX12_baseLine 76 = .ok (.iaload, 1) := by decide +kernel
theorem dX12_baseLine_77 : decode cX12_baseLine 77 = .ok (.invokevirtual 132, 3) := by decide +kernel
theorem dX12_baseLine_80 : decode cX12_baseLine 80 = .ok (.aload_n 0, 1) := by decide +kernel
theorem dX12_baseLine_81 : decode cX12_baseLine 81 = .ok (.getfield 25, 3) := by decide +kernel
theorem dX12_baseLine_84 : decode cX12_baseLine 84 = .ok (.iconst 0, 1) := by decide +kernel
theorem dX12_baseLine_85 : decode cX12_baseLine 85 = .ok (.dup2, 1) := by decide +kernel
theorem dX12_baseLine_86 : decode cX12_baseLine 86 = .ok (.iaload, 1) := by decide +kernel
theorem dX12_baseLine_87 : decode cX12_baseLine 87 = .ok (.iconst 1, 1) := by decide +kernel
theorem dX12_baseLine_88 : decode cX12_baseLine 88 = .ok (.iadd, 1) := by decide +kernel
theorem dX12_baseLine_89 : decode cX12_baseLine 89 = .ok (.iastore, 1) := by decide +kernel
theorem dX12_baseLine_90 : decode cX12_baseLine 90 = .ok (.aload_n 0, 1) := by decide +kernel
theorem dX12_baseLine_91 : decode cX12_baseLine 91 = .ok (.invokevirtual 122, 3) := by decide +kernel
theorem dX12_baseLine_94 : decode cX12_baseLine 94 = .ok (.aload_n 0, 1) := by decide +kernel
theorem dX12_baseLine_95 : decode cX12_baseLine 95 = .ok (.bipush 59, 2) := by decide +kernel
theorem dX12_baseLine_97 : decode cX12_baseLine 97 = .ok (.invokevirtual 136, 3) := by decide +kernel
theorem dX12_baseLine_100 : decode cX12_baseLine 100 = .ok (.ifCond .eq (-81), 3) := by decide +kernel
theorem dX12_baseLine_103 : decode cX12_baseLine 103 = .ok (.aload_n 0, 1) := by decide +kernel
theorem dX12_baseLine_104 : decode cX12_baseLine 104 = .ok (.invokevirtual 122, 3) := by decide +kernel
theorem dX12_baseLine_107 : decode cX12_baseLine 107 = .ok (.iconst 1, 1) := by decide +kernel
theorem dX12_baseLine_108 : decode cX12_baseLine 108 = .ok (.ireturn, 1) := by decide +kernel
theorem dX12_wantLine_0 : decode cX12_wantLine 0 = .ok (.aload_n 0, 1) := by decide +kernel
theorem dX12_wantLine_1 : decode cX12_wantLine 1 = .ok (.invokevirtual 122, 3) := by decide +kernel
theorem dX12_wantLine_4 : decode cX12_wantLine 4 = .ok (.aload_n 0, 1) := by decide +kernel
theorem dX12_wantLine_5 : decode cX12_wantLine 5 = .ok (.invokevirtual 125, 3) := by decide +kernel
theorem dX12_wantLine_8 : decode cX12_wantLine 8 = .ok (.ifCond .ne 9, 3) := by decide +kernel
theorem dX12_wantLine_11 : decode cX12_wantLine 11 = .ok (.aload_n 0, 1) := by decide +kernel
theorem dX12_wantLine_12 : decode cX12_wantLine 12 = .ok (.iconst 1, 1) := by decide +kernel
theorem dX12_wantLine_13 : decode cX12_wantLine 13 = .ok (.invokevirtual 119, 3) := by decide +kernel
theorem dX12_wantLine_16 : decode cX12_wantLine 16 = .ok (.ireturn, 1) := by decide +kernel
theorem dX12_wantLine_17 : decode cX12_wantLine 17 = .ok (.aload_n 0, 1) := by decide +kernel
theorem dX12_wantLine_18 : decode cX12_wantLine 18 = .ok (.aload_n 0, 1) := by decide +kernel
theorem dX12_wantLine_19 : decode cX12_wantLine 19 = .ok (.getfield 80, 3) := by decide +kernel
theorem dX12_wantLine_22 : decode cX12_wantLine 22 = .ok (.invokevirtual 129, 3) := by decide +kernel
theorem dX12_wantLine_25 : decode cX12_wantLine 25 = .ok (.istore_n 1, 1) := by decide +kernel
theorem dX12_wantLine_26 : decode cX12_wantLine 26 = .ok (.iload_n 1, 1) := by decide +kernel
theorem dX12_wantLine_27 : decode cX12_wantLine 27 = .ok (.iconst (-1), 1) := by decide +kernel
theorem dX12_wantLine_28 : decode cX12_wantLine 28 = .ok (.if_icmp .ne 9, 3) := by decide +kernel
theorem dX12_wantLine_31 : decode cX12_wantLine 31 = .ok (.aload_n 0, 1) := by decide +kernel
theorem dX12_wantLine_32 : decode cX12_wantLine 32 = .ok (.iconst 3, 1) := by decide +kernel
theorem dX12_wantLine_33 : decode cX12_wantLine 33 = .ok (.invokevirtual 119, 3) := by decide +kernel
theorem dX12_wantLine_36 : decode cX12_wantLine 36 = .ok (.ireturn, 1) := by decide +kernel
theorem dX12_wantLine_37 : decode cX12_wantLine 37 = .ok (.aload_n 0, 1) := by decide +kernel
theorem dX12_wantLine_38 : decode cX12_wantLine 38 = .ok (.getfield 25, 3) := by decide +kernel
theorem dX12_wantLine_41 : decode cX12_wantLine 41 = .ok (.iconst 2, 1) := by decide +kernel
theorem dX12_wantLine_42 : decode cX12_wantLine 42 = .ok (.iaload, 1) := by decide +kernel
theorem dX12_wantLine_43 : decode cX12_wantLine 43 = .ok (.iconst 4, 1) := by decide +kernel
theorem dX12_wantLine_44 : decode cX12_wantLine 44 = .ok (.if_icmp .ne 9, 3) := by decide +kernel
theorem dX12_wantLine_47 : decode cX12_wantLine 47 = .ok (.aload_n 0, 1) := by decide +kernel
theorem dX12_wantLine_48 : decode cX12_wantLine 48 = .ok (.iconst 5, 1) := by decide +kernel
theorem dX12_wantLine_49 : decode cX12_wantLine 49 = .ok (.invokevirtual 119, 3) := by decide +kernel
theorem dX12_wantLine_52 : decode cX12_wantLine 52 = .ok (.ireturn, 1) := by decide +kernel
theorem dX12_wantLine_53 : decode cX12_wantLine 53 = .ok (.aload_n 0, 1) := by decide +kernel
theorem dX12_wantLine_54 : decode cX12_wantLine 54 = .ok (.getfield 25, 3) := by decide +kernel
theorem dX12_wantLine_57 : decode cX12_wantLine 57 = .ok (.bipush 123, 2) := by decide +kernel
theorem dX12_wantLine_59 : decode cX12_wantLine 59 = .ok (.aload_n 0, 1) := by decide +kernel
theorem dX12_wantLine_60 : decode cX12_wantLine 60 = .ok (.getfield 25, 3) := by decide +kernel
theorem dX12_wantLine_63 : decode cX12_wantLine 63 = .ok (.iconst 2, 1) := by decide +kernel
theorem dX12_wantLine_64 : decode cX12_wantLine 64 = .ok (.iaload, 1) := by decide +kernel
theorem dX12_wantLine_65 : decode cX12_wantLine 65 = .ok (.iadd, 1) := by decide +kernel
theorem dX12_wantLine_66 : decode cX12_wantLine 66 = .ok (.iload_n 1, 1) := by decide +kernel
theorem dX12_wantLine_67 : decode cX12_wantLine 67 = .ok (.iastore, 1) := by decide +kernel
theorem dX12_wantLine_68 : decode cX12_wantLine 68 = .ok (.aload_n 0, 1) := by decide +kernel
theorem dX12_wantLine_69 : decode cX12_wantLine 69 = .ok (.getfield 25, 3) := by decide +kernel
theorem dX12_wantLine_72 : decode cX12_wantLine 72 = .ok (.iconst 2, 1) := by decide +kernel
theorem dX12_wantLine_73 : decode cX12_wantLine 73 = .ok (.dup2, 1) := by decide +kernel
theorem dX12_wantLine_74 : decode cX12_wantLine 74 = .ok (.iaload, 1) := by decide +kernel
theorem dX12_wantLine_75 : decode cX12_wantLine 75 = .ok (.iconst 1, 1) := by decide +kernel
theorem dX12_wantLine_76 : decode cX12_wantLine 76 = .ok (.iadd, 1) := by decide +kernel
theorem dX12_wantLine_77 : decode cX12_wantLine 77 = .ok (.iastore, 1) := by decide +kernel
theorem dX12_wantLine_78 : decode cX12_wantLine 78 = .ok (.aload_n 0, 1) := by decide +kernel
theorem dX12_wantLine_79 : decode cX12_wantLine 79 = .ok (.invokevirtual 122, 3) := by decide +kernel
theorem dX12_wantLine_82 : decode cX12_wantLine 82 = .ok (.aload_n 0, 1) := by decide +kernel
theorem dX12_wantLine_83 : decode cX12_wantLine 83 = .ok (.bipush 59, 2) := by decide +kernel
theorem dX12_wantLine_85 : decode cX12_wantLine 85 = .ok (.invokevirtual 136, 3) := by decide +kernel
theorem dX12_wantLine_88 : decode cX12_wantLine 88 = .ok (.ifCond .eq (-84), 3) := by decide +kernel
theorem dX12_wantLine_91 : decode cX12_wantLine 91 = .ok (.aload_n 0, 1) := by decide +kernel
theorem dX12_wantLine_92 : decode cX12_wantLine 92 = .ok (.invokevirtual 122, 3) := by decide +kernel
theorem dX12_wantLine_95 : decode cX12_wantLine 95 = .ok (.aload_n 0, 1) := by decide +kernel
theorem dX12_wantLine_96 : decode cX12_wantLine 96 = .ok (.getfield 86, 3) := by decide +kernel
theorem dX12_wantLine_99 : decode cX12_wantLine 99 = .ok (.ifCond .eq 11, 3) := by decide +kernel
theorem dX12_wantLine_102 : decode cX12_wantLine 102 = .ok (.aload_n 0, 1) := by decide +kernel
theorem dX12_wantLine_103 : decode cX12_wantLine 103 = .ok (.iconst 1, 1) := by decide +kernel
theorem dX12_wantLine_104 : decode cX12_wantLine 104 = .ok (.invokevirtual 119, 3) := by decide +kernel
theorem dX12_wantLine_107 : decode cX12_wantLine 107 = .ok (.ifCond .eq 7, 3) := by decide +kernel
theorem dX12_wantLine_110 : decode cX12_wantLine 110 = .ok (.iconst 1, 1) := by decide +kernel
theorem dX12_wantLine_111 : decode cX12_wantLine 111 = .ok (.goto 4, 3) := by decide +kernel
theorem dX12_wantLine_114 : decode cX12_wantLine 114 = .ok (.iconst 0, 1) := by decide +kernel
theorem dX12_wantLine_115 : decode cX12_wantLine 115 = .ok (.ireturn, 1) := by decide +kernel
theorem dX12_known_0 : decode cX12_known 0 = .ok (.aload_n 0, 1) := by decide +kernel
theorem dX12_known_1 : decode cX12_known 1 = .ok (.invokevirtual 125, 3) := by decide +kernel
theorem dX12_known_4 : decode cX12_known 4 = .ok (.ifCond .ne 9, 3) := by decide +kernel
theorem dX12_known_7 : decode cX12_known 7 = .ok (.aload_n 0, 1) := by decide +kernel
theorem dX12_known_8 : decode cX12_known 8 = .ok (.iconst 1, 1) := by decide +kernel
theorem dX12_known_9 : decode cX12_known 9 = .ok (.invokevirtual 119, 3) := by decide +kernel
theorem dX12_known_12 : decode cX12_known 12 = .ok (.ireturn, 1) := by decide +kernel
theorem dX12_known_13 : decode cX12_known 13 = .ok (.aload_n 0, 1) := by decide +kernel
theorem dX12_known_14 : decode cX12_known 14 = .ok (.aload_n 0, 1) := by decide +kernel
theorem dX12_known_15 : decode cX12_known 15 = .ok (.aload_n 0, 1) := by decide +kernel
theorem dX12_known_16 : decode cX12_known 16 = .ok (.getfield 80, 3) := by decide +kernel
theorem dX12_known_19 : decode cX12_known 19 = .ok (.invokevirtual 129, 3) := by decide +kernel
theorem dX12_known_22 : decode cX12_known 22 = .ok (.putfield 139, 3) := by decide +kernel
theorem dX12_known_25 : decode cX12_known 25 = .ok (.aload_n 0, 1) := by decide +kernel
theorem dX12_known_26 : decode cX12_known 26 = .ok (.getfield 139, 3) := by decide +kernel
theorem dX12_known_29 : decode cX12_known 29 = .ok (.iconst (-1), 1) := by decide +kernel
theorem dX12_known_30 : decode cX12_known 30 = .ok (.if_icmp .ne 9, 3) := by decide +kernel
theorem dX12_known_33 : decode cX12_known 33 = .ok (.aload_n 0, 1) := by decide +kernel
theorem dX12_known_34 : decode cX12_known 34 = .ok (.iconst 3, 1) := by decide +kernel
theorem dX12_known_35 : decode cX12_known 35 = .ok (.invokevirtual 119, 3) := by decide +kernel
theorem dX12_known_38 : decode cX12_known 38 = .ok (.ireturn, 1) := by decide +kernel
theorem dX12_known_39 : decode cX12_known 39 = .ok (.aload_n 0, 1) := by decide +kernel
theorem dX12_known_40 : decode cX12_known 40 = .ok (.invokevirtual 122, 3) := by decide +kernel
theorem dX12_known_43 : decode cX12_known 43 = .ok (.iconst 1, 1) := by decide +kernel
theorem dX12_known_44 : decode cX12_known 44 = .ok (.ireturn, 1) := by decide +kernel
theorem dX12_adds_0 : decode cX12_adds 0 = .ok (.aload_n 0, 1) := by decide +kernel
theorem dX12_adds_1 : decode cX12_adds 1 = .ok (.getfield 142, 3) := by decide +kernel
theorem dX12_adds_4 : decode cX12_adds 4 = .ok (.aload_n 0, 1) := by decide +kernel
theorem dX12_adds_5 : decode cX12_adds 5 = .ok (.getfield 145, 3) := by decide +kernel
theorem dX12_adds_8 : decode cX12_adds 8 = .ok (.iload_n 1, 1) := by decide +kernel
theorem dX12_adds_9 : decode cX12_adds 9 = .ok (.iastore, 1) := by decide +kernel
theorem dX12_adds_10 : decode cX12_adds 10 = .ok (.aload_n 0, 1) := by decide +kernel
theorem dX12_adds_11 : decode cX12_adds 11 = .ok (.getfield 148, 3) := by decide +kernel
theorem dX12_adds_14 : decode cX12_adds 14 = .ok (.aload_n 0, 1) := by decide +kernel
theorem dX12_adds_15 : decode cX12_adds 15 = .ok (.getfield 145, 3) := by decide +kernel
theorem dX12_adds_18 : decode cX12_adds 18 = .ok (.iload_n 2, 1) := by decide +kernel
theorem dX12_adds_19 : decode cX12_adds 19 = .ok (.iastore, 1) := by decide +kernel
theorem dX12_adds_20 : decode cX12_adds 20 = .ok (.aload_n 0, 1) := by decide +kernel
theorem dX12_adds_21 : decode cX12_adds 21 = .ok (.dup, 1) := by decide +kernel
theorem dX12_adds_22 : decode cX12_adds 22 = .ok (.getfield 145, 3) := by decide +kernel
theorem dX12_adds_25 : decode cX12_adds 25 = .ok (.iconst 1, 1) := by decide +kernel
theorem dX12_adds_26 : decode cX12_adds 26 = .ok (.iadd, 1) := by decide +kernel
theorem dX12_adds_27 : decode cX12_adds 27 = .ok (.putfield 145, 3) := by decide +kernel
theorem dX12_adds_30 : decode cX12_adds 30 = .ok (.aload_n 0, 1) := by decide +kernel
theorem dX12_adds_31 : decode cX12_adds 31 = .ok (.getfield 25, 3) := by decide +kernel
theorem dX12_adds_34 : decode cX12_adds 34 = .ok (.invokestatic 28, 3) := by decide +kernel
theorem dX12_adds_37 : decode cX12_adds 37 = .ok (.aload_n 0, 1) := by decide +kernel
theorem dX12_adds_38 : decode cX12_adds 38 = .ok (.getfield 145, 3) := by decide +kernel
theorem dX12_adds_41 : decode cX12_adds 41 = .ok (.iadd, 1) := by decide +kernel
theorem dX12_adds_42 : decode cX12_adds 42 = .ok (.iconst 1, 1) := by decide +kernel
theorem dX12_adds_43 : decode cX12_adds 43 = .ok (.isub, 1) := by decide +kernel
theorem dX12_adds_44 : decode cX12_adds 44 = .ok (.ireturn, 1) := by decide +kernel
theorem dX12_highest_0 : decode cX12_highest 0 = .ok (.iconst 1, 1) := by decide +kernel
theorem dX12_highest_1 : decode cX12_highest 1 = .ok (.istore_n 2, 1) := by decide +kernel
theorem dX12_highest_2 : decode cX12_highest 2 = .ok (.iconst 2, 1) := by decide +kernel
theorem dX12_highest_3 : decode cX12_highest 3 = .ok (.iload_n 2, 1) := by decide +kernel
theorem dX12_highest_4 : decode cX12_highest 4 = .ok (.imul, 1) := by decide +kernel
theorem dX12_highest_5 : decode cX12_highest 5 = .ok (.iload_n 1, 1) := by decide +kernel
theorem dX12_highest_6 : decode cX12_highest 6 = .ok (.if_icmp .gt 10, 3) := by decide +kernel
theorem dX12_highest_9 : decode cX12_highest 9 = .ok (.iload_n 2, 1) := by decide +kernel
theorem dX12_highest_10 : decode cX12_highest 10 = .ok (.iconst 2, 1) := by decide +kernel
theorem dX12_highest_11 : decode cX12_highest 11 = .ok (.imul, 1) := by decide +kernel
theorem dX12_highest_12 : decode cX12_highest 12 = .ok (.istore_n 2, 1) := by decide +kernel
theorem dX12_highest_13 : decode cX12_highest 13 = .ok (.goto (-11), 3) := by decide +kernel
theorem dX12_highest_16 : decode cX12_highest 16 = .ok (.iload_n 2, 1) := by decide +kernel
theorem dX12_highest_17 : decode cX12_highest 17 = .ok (.ireturn, 1) := by decide +kernel
theorem dX12_power_0 : decode cX12_power 0 = .ok (.aload_n 0, 1) := by decide +kernel
theorem dX12_power_1 : decode cX12_power 1 = .ok (.getfield 86, 3) := by decide +kernel
theorem dX12_power_4 : decode cX12_power 4 = .ok (.iconst 2, 1) := by decide +kernel
theorem dX12_power_5 : decode cX12_power 5 = .ok (.if_icmp .eq 9, 3) := by decide +kernel
theorem dX12_power_8 : decode cX12_power 8 = .ok (.aload_n 0, 1) := by decide +kernel
theorem dX12_power_9 : decode cX12_power 9 = .ok (.iconst 1, 1) := by decide +kernel
theorem dX12_power_10 : decode cX12_power 10 = .ok (.invokevirtual 119, 3) := by decide +kernel
theorem dX12_power_13 : decode cX12_power 13 = .ok (.ireturn, 1) := by decide +kernel
theorem dX12_power_14 : decode cX12_power 14 = .ok (.aload_n 0, 1) := by decide +kernel
theorem dX12_power_15 : decode cX12_power 15 = .ok (.getfield 77, 3) := by decide +kernel
theorem dX12_power_18 : decode cX12_power 18 = .ok (.i2l, 1) := by decide +kernel
theorem dX12_power_19 : decode cX12_power 19 = .ok (.ldc2_w 151, 3) := by decide +kernel
theorem dX12_power_22 : decode cX12_power 22 = .ok (.ldc2_w 153, 3) := by decide +kernel
theorem dX12_power_25 : decode cX12_power 25 = .ok (.invokestatic 93, 3) := by decide +kernel
theorem dX12_power_28 : decode cX12_power 28 = .ok (.ifCond .ne 9, 3) := by decide +kernel
theorem dX12_power_31 : decode cX12_power 31 = .ok (.aload_n 0, 1) := by decide +kernel
theorem dX12_power_32 : decode cX12_power 32 = .ok (.iconst 4, 1) := by decide +kernel
theorem dX12_power_33 : decode cX12_power 33 = .ok (.invokevirtual 119, 3) := by decide +kernel
theorem dX12_power_36 : decode cX12_power 36 = .ok (.ireturn, 1) := by decide +kernel
theorem dX12_power_37 : decode cX12_power 37 = .ok (.iload_n 1, 1) := by decide +kernel
theorem dX12_power_38 : decode cX12_power 38 = .ok (.istore_n 2, 1) := by decide +kernel
theorem dX12_power_39 : decode cX12_power 39 = .ok (.aload_n 0, 1) := by decide +kernel
theorem dX12_power_40 : decode cX12_power 40 = .ok (.aload_n 0, 1) := by decide +kernel
theorem dX12_power_41 : decode cX12_power 41 = .ok (.getfield 77, 3) := by decide +kernel
theorem dX12_power_44 : decode cX12_power 44 = .ok (.invokevirtual 155, 3) := by decide +kernel
theorem dX12_power_47 : decode cX12_power 47 = .ok (.iconst 2, 1) := by decide +kernel
theorem dX12_power_48 : decode cX12_power 48 = .ok (.idiv, 1) := by decide +kernel
theorem dX12_power_49 : decode cX12_power 49 = .ok (.istore_n 3, 1) := by decide +kernel
theorem dX12_power_50 : decode cX12_power 50 = .ok (.iload_n 3, 1) := by decide +kernel
theorem dX12_power_51 : decode cX12_power 51 = .ok (.ifCond .le 33, 3) := by decide +kernel
theorem dX12_power_54 : decode cX12_power 54 = .ok (.aload_n 0, 1) := by decide +kernel
theorem dX12_power_55 : decode cX12_power 55 = .ok (.iload_n 2, 1) := by decide +kernel
theorem dX12_power_56 : decode cX12_power 56 = .ok (.iload_n 2, 1) := by decide +kernel
theorem dX12_power_57 : decode cX12_power 57 = .ok (.invokevirtual 158, 3) := by decide +kernel
theorem dX12_power_60 : decode cX12_power 60 = .ok (.istore_n 2, 1) := by decide +kernel
theorem dX12_power_61 : decode cX12_power 61 = .ok (.aload_n 0, 1) := by decide +kernel
theorem dX12_power_62 : decode cX12_power 62 = .ok (.getfield 77, 3) := by decide +kernel
theorem dX12_power_65 : decode cX12_power 65 = .ok (.iload_n 3, 1) := by decide +kernel
theorem dX12_power_66 : decode cX12_power 66 = .ok (.iand, 1) := by decide +kernel
theorem dX12_power_67 : decode cX12_power 67 = .ok (.ifCond .le 10, 3) := by decide +kernel
theorem dX12_power_70 : decode cX12_power 70 = .ok (.aload_n 0, 1) := by decide +kernel
theorem dX12_power_71 : decode cX12_power 71 = .ok (.iload_n 2, 1) := by decide +kernel
theorem dX12_power_72 : decode cX12_power 72 = .ok (.iload_n 1, 1) := by decide +kernel
theorem dX12_power_73 : decode cX12_power 73 = .ok (.invokevirtual 158, 3) := by decide +kernel
theorem dX12_power_76 : decode cX12_power 76 = .ok (.istore_n 2, 1) := by decide +kernel
theorem dX12_power_77 : decode cX12_power 77 = .ok (.iload_n 3, 1) := by decide +kernel
theorem dX12_power_78 : decode cX12_power 78 = .ok (.iconst 2, 1) := by decide +kernel
theorem dX12_power_79 : decode cX12_power 79 = .ok (.idiv, 1) := by decide +kernel
theorem dX12_power_80 : decode cX12_power 80 = .ok (.istore_n 3, 1) := by decide +kernel
theorem dX12_power_81 : decode cX12_power 81 = .ok (.goto (-31), 3) := by decide +kernel
theorem dX12_power_84 : decode cX12_power 84 = .ok (.aload_n 0, 1) := by decide +kernel
theorem dX12_power_85 : decode cX12_power 85 = .ok (.invokevirtual 122, 3) := by decide +kernel
theorem dX12_power_88 : decode cX12_power 88 = .ok (.iconst 1, 1) := by decide +kernel
theorem dX12_power_89 : decode cX12_power 89 = .ok (.ireturn, 1) := by decide +kernel
theorem dX12_statement_0 : decode cX12_statement 0 = .ok (.aload_n 0, 1) := by decide +kernel
theorem dX12_statement_1 : decode cX12_statement 1 = .ok (.invokevirtual 125, 3) := by decide +kernel
theorem dX12_statement_4 : decode cX12_statement 4 = .ok (.ifCond .ne 9, 3) := by decide +kernel
theorem dX12_statement_7 : decode cX12_statement 7 = .ok (.aload_n 0, 1) := by decide +kernel
theorem dX12_statement_8 : decode cX12_statement 8 = .ok (.iconst 1, 1) := by decide +kernel
theorem dX12_statement_9 : decode cX12_statement 9 = .ok (.invokevirtual 119, 3) := by decide +kernel
theorem dX12_statement_12 : decode cX12_statement 12 = .ok (.ireturn, 1) := by decide +kernel
theorem dX12_statement_13 : decode cX12_statement 13 = .ok (.aload_n 0, 1) := by decide +kernel
theorem dX12_statement_14 : decode cX12_statement 14 = .ok (.aload_n 0, 1) := by decide +kernel
theorem dX12_statement_15 : decode cX12_statement 15 = .ok (.getfield 80, 3) := by decide +kernel
theorem dX12_statement_18 : decode cX12_statement 18 = .ok (.invokevirtual 129, 3) := by decide +kernel
theorem dX12_statement_21 : decode cX12_statement 21 = .ok (.iconst (-1), 1) := by decide +kernel
theorem dX12_statement_22 : decode cX12_statement 22 = .ok (.if_icmp .eq 9, 3) := by decide +kernel
theorem dX12_statement_25 : decode cX12_statement 25 = .ok (.aload_n 0, 1) := by decide +kernel
theorem dX12_statement_26 : decode cX12_statement 26 = .ok (.iconst 2, 1) := by decide +kernel
theorem dX12_statement_27 : decode cX12_statement 27 = .ok (.invokevirtual 119, 3) := by decide +kernel
theorem dX12_statement_30 : decode cX12_statement 30 = .ok (.ireturn, 1) := by decide +kernel
theorem dX12_statement_31 : decode cX12_statement 31 = .ok (.aload_n 0, 1) := by decide +kernel
theorem dX12_statement_32 : decode cX12_statement 32 = .ok (.getfield 80, 3) := by decide +kernel
theorem dX12_statement_35 : decode cX12_statement 35 = .ok (.istore_n 1, 1) := by decide +kernel
theorem dX12_statement_36 : decode cX12_statement 36 = .ok (.aload_n 0, 1) := by decide +kernel
theorem dX12_statement_37 : decode cX12_statement 37 = .ok (.invokevirtual 122, 3) := by decide +kernel
theorem dX12_statement_40 : decode cX12_statement 40 = .ok (.aload_n 0, 1) := by decide +kernel
theorem dX12_statement_41 : decode cX12_statement 41 = .ok (.bipush 61, 2) := by decide +kernel
theorem dX12_statement_43 : decode cX12_statement 43 = .ok (.invokevirtual 136, 3) := by decide +kernel
theorem dX12_statement_46 : decode cX12_statement 46 = .ok (.ifCond .ne 9, 3) := by decide +kernel
theorem dX12_statement_49 : decode cX12_statement 49 = .ok (.aload_n 0, 1) := by decide +kernel
theorem dX12_statement_50 : decode cX12_statement 50 = .ok (.iconst 1, 1) := by decide +kernel
theorem dX12_statement_51 : decode cX12_statement 51 = .ok (.invokevirtual 119, 3) := by decide +kernel
theorem dX12_statement_54 : decode cX12_statement 54 = .ok (.ireturn, 1) := by decide +kernel
theorem dX12_statement_55 : decode cX12_statement 55 = .ok (.aload_n 0, 1) := by decide +kernel
theorem dX12_statement_56 : decode cX12_statement 56 = .ok (.invokevirtual 122, 3) := by decide +kernel
theorem dX12_statement_59 : decode cX12_statement 59 = .ok (.aload_n 0, 1) := by decide +kernel
theorem dX12_statement_60 : decode cX12_statement 60 = .ok (.invokevirtual 162, 3) := by decide +kernel
theorem dX12_statement_63 : decode cX12_statement 63 = .ok (.ifCond .ne 5, 3) := by decide +kernel
theorem dX12_statement_66 : decode cX12_statement 66 = .ok (.iconst 0, 1) := by decide +kernel
theorem dX12_statement_67 : decode cX12_statement 67 = .ok (.ireturn, 1) := by decide +kernel
theorem dX12_statement_68 : decode cX12_statement 68 = .ok (.aload_n 0, 1) := by decide +kernel
theorem dX12_statement_69 : decode cX12_statement 69 = .ok (.getfield 139, 3) := by decide +kernel
theorem dX12_statement_72 : decode cX12_statement 72 = .ok (.istore_n 2, 1) := by decide +kernel
theorem dX12_statement_73 : decode cX12_statement 73 = .ok (.aload_n 0, 1) := by decide +kernel
theorem dX12_statement_74 : decode cX12_statement 74 = .ok (.iconst 0, 1) := by decide +kernel
theorem dX12_statement_75 : decode cX12_statement 75 = .ok (.putfield 145, 3) := by decide +kernel
theorem dX12_statement_78 : decode cX12_statement 78 = .ok (.aload_n 0, 1) := by decide +kernel
theorem dX12_statement_79 : decode cX12_statement 79 = .ok (.bipush 42, 2) := by decide +kernel
theorem dX12_statement_81 : decode cX12_statement 81 = .ok (.invokevirtual 136, 3) := by decide +kernel
theorem dX12_statement_84 : decode cX12_statement 84 = .ok (.ifCond .eq 29, 3) := by decide +kernel
theorem dX12_statement_87 : decode cX12_statement 87 = .ok (.aload_n 0, 1) := by decide +kernel
theorem dX12_statement_88 : decode cX12_statement 88 = .ok (.invokevirtual 122, 3) := by decide +kernel
theorem dX12_statement_91 : decode cX12_statement 91 = .ok (.aload_n 0, 1) := by decide +kernel
theorem dX12_statement_92 : decode cX12_statement 92 = .ok (.invokevirtual 162, 3) := by decide +kernel
theorem dX12_statement_95 : decode cX12_statement 95 = .ok (.ifCond .ne 5, 3) := by decide +kernel
theorem dX12_statement_98 : decode cX12_statement 98 = .ok (.iconst 0, 1) := by decide +kernel
theorem dX12_statement_99 : decode cX12_statement 99 = .ok (.ireturn, 1) := by decide +kernel
theorem dX12_statement_100 : decode cX12_statement 100 = .ok (.aload_n 0, 1) := by decide +kernel
theorem dX12_statement_101 : decode cX12_statement 101 = .ok (.iload_n 2, 1) := by decide +kernel
theorem dX12_statement_102 : decode cX12_statement 102 = .ok (.aload_n 0, 1) := by decide +kernel
theorem dX12_statement_103 : decode cX12_statement 103 = .ok (.getfield 139, 3) := by decide +kernel
theorem dX12_statement_106 : decode cX12_statement 106 = .ok (.invokevirtual 158, 3) := by decide +kernel
theorem dX12_statement_109 : decode cX12_statement 109 = .ok (.pop, 1) := by decide +kernel
theorem dX12_statement_110 : decode cX12_statement 110 = .ok (.goto 32, 3) := by decide +kernel
theorem dX12_statement_113 : decode cX12_statement 113 = .ok (.aload_n 0, 1) := by decide +kernel
theorem dX12_statement_114 : decode cX12_statement 114 = .ok (.bipush 94, 2) := by decide +kernel
theorem dX12_statement_116 : decode cX12_statement 116 = .ok (.invokevirtual 136, 3) := by decide +kernel
theorem dX12_statement_119 : decode cX12_statement 119 = .ok (.ifCond .eq 17, 3) := by decide +kernel
theorem dX12_statement_122 : decode cX12_statement 122 = .ok (.aload_n 0, 1) := by decide +kernel
theorem dX12_statement_123 : decode cX12_statement 123 = .ok (.invokevirtual 122, 3) := by decide +kernel
theorem dX12_statement_126 : decode cX12_statement 126 = .ok (.aload_n 0, 1) := by decide +kernel
theorem dX12_statement_127 : decode cX12_statement 127 = .ok (.iload_n 2, 1) := by decide +kernel
theorem dX12_statement_128 : decode cX12_statement 128 = .ok (.invokevirtual 165, 3) := by decide +kernel
theorem dX12_statement_131 : decode cX12_statement 131 = .ok (.ifCond .ne 11, 3) := by decide +kernel
theorem dX12_statement_134 : decode cX12_statement 134 = .ok (.iconst 0, 1) := by decide +kernel
theorem dX12_statement_135 : decode cX12_statement 135 = .ok (.ireturn, 1) := by decide +kernel
theorem dX12_statement_136 : decode cX12_statement 136 = .ok (.aload_n 0, 1) := by decide +kernel
theorem dX12_statement_137 : decode cX12_statement 137 = .ok (.iconst 1, 1) := by decide +kernel
theorem dX12_statement_138 : decode cX12_statement 138 = .ok (.invokevirtual 119, 3) := by decide +kernel
theorem dX12_statement_141 : decode cX12_statement 141 = .ok (.ireturn, 1) := by decide +kernel
theorem dX12_statement_142 : decode cX12_statement 142 = .ok (.aload_n 0, 1) := by decide +kernel
theorem dX12_statement_143 : decode cX12_statement 143 = .ok (.bipush 59, 2) := by decide +kernel
theorem dX12_statement_145 : decode cX12_statement 145 = .ok (.invokevirtual 136, 3) := by decide +kernel
theorem dX12_statement_148 : decode cX12_statement 148 = .ok (.ifCond .ne 9, 3) := by decide +kernel
theorem dX12_statement_151 : decode cX12_statement 151 = .ok (.aload_n 0, 1) := by decide +kernel
theorem dX12_statement_152 : decode cX12_statement 152 = .ok (.iconst 1, 1) := by decide +kernel
theorem dX12_statement_153 : decode cX12_statement 153 = .ok (.invokevirtual 119, 3) := by decide +kernel
theorem dX12_statement_156 : decode cX12_statement 156 = .ok (.ireturn, 1) := by decide +kernel
theorem dX12_statement_157 : decode cX12_statement 157 = .ok (.aload_n 0, 1) := by decide +kernel
theorem dX12_statement_158 : decode cX12_statement 158 = .ok (.getfield 25, 3) := by decide +kernel
theorem dX12_statement_161 : decode cX12_statement 161 = .ok (.iconst 1, 1) := by decide +kernel
theorem dX12_statement_162 : decode cX12_statement 162 = .ok (.iaload, 1) := by decide +kernel
theorem dX12_statement_163 : decode cX12_statement 163 = .ok (.aload_n 0, 1) := by decide +kernel
theorem dX12_statement_164 : decode cX12_statement 164 = .ok (.getfield 145, 3) := by decide +kernel
theorem dX12_statement_167 : decode cX12_statement 167 = .ok (.iadd, 1) := by decide +kernel
theorem dX12_statement_168 : decode cX12_statement 168 = .ok (.bipush 60, 2) := by decide +kernel
theorem dX12_statement_170 : decode cX12_statement 170 = .ok (.if_icmp .le 9, 3) := by decide +kernel
theorem dX12_statement_173 : decode cX12_statement 173 = .ok (.aload_n 0, 1) := by decide +kernel
theorem dX12_statement_174 : decode cX12_statement 174 = .ok (.iconst 5, 1) := by decide +kernel
theorem dX12_statement_175 : decode cX12_statement 175 = .ok (.invokevirtual 119, 3) := by decide +kernel
theorem dX12_statement_178 : decode cX12_statement 178 = .ok (.ireturn, 1) := by decide +kernel
theorem dX12_statement_179 : decode cX12_statement 179 = .ok (.iconst 0, 1) := by decide +kernel
theorem dX12_statement_180 : decode cX12_statement 180 = .ok (.istore_n 3, 1) := by decide +kernel
theorem dX12_statement_181 : decode cX12_statement 181 = .ok (.iload_n 3, 1) := by decide +kernel
theorem dX12_statement_182 : decode cX12_statement 182 = .ok (.aload_n 0, 1) := by decide +kernel
theorem dX12_statement_183 : decode cX12_statement 183 = .ok (.getfield 145, 3) := by decide +kernel
theorem dX12_statement_186 : decode cX12_statement 186 = .ok (.if_icmp .ge 29, 3) := by decide +kernel
theorem dX12_statement_189 : decode cX12_statement 189 = .ok (.aload_n 0, 1) := by decide +kernel
theorem dX12_statement_190 : decode cX12_statement 190 = .ok (.getfield 25, 3) := by decide +kernel
theorem dX12_statement_193 : decode cX12_statement 193 = .ok (.aload_n 0, 1) := by decide +kernel
theorem dX12_statement_194 : decode cX12_statement 194 = .ok (.getfield 142, 3) := by decide +kernel
theorem dX12_statement_197 : decode cX12_statement 197 = .ok (.iload_n 3, 1) := by decide +kernel
theorem dX12_statement_198 : decode cX12_statement 198 = .ok (.iaload, 1) := by decide +kernel
theorem dX12_statement_199 : decode cX12_statement 199 = .ok (.aload_n 0, 1) := by decide +kernel
theorem dX12_statement_200 : decode cX12_statement 200 = .ok (.getfield 148, 3) := by decide +kernel
theorem dX12_statement_203 : decode cX12_statement 203 = .ok (.iload_n 3, 1) := by decide +kernel
theorem dX12_statement_204 : decode cX12_statement 204 = .ok (.iaload, 1) := by decide +kernel
theorem dX12_statement_205 : decode cX12_statement 205 = .ok (.invokestatic 168, 3) := by decide +kernel
theorem dX12_statement_208 : decode cX12_statement 208 = .ok (.pop, 1) := by decide +kernel
theorem dX12_statement_209 : decode cX12_statement 209 = .ok (.iinc 3 1, 3) := by decide +kernel
theorem dX12_statement_212 : decode cX12_statement 212 = .ok (.goto (-31), 3) := by decide +kernel
theorem dX12_statement_215 : decode cX12_statement 215 = .ok (.aload_n 0, 1) := by decide +kernel
theorem dX12_statement_216 : decode cX12_statement 216 = .ok (.aload_n 0, 1) := by decide +kernel
theorem dX12_statement_217 : decode cX12_statement 217 = .ok (.getfield 25, 3) := by decide +kernel
theorem dX12_statement_220 : decode cX12_statement 220 = .ok (.invokevirtual 172, 3) := by decide +kernel
theorem dX12_statement_223 : decode cX12_statement 223 = .ok (.ifCond .eq 10, 3) := by decide +kernel
theorem dX12_statement_226 : decode cX12_statement 226 = .ok (.aload_n 0, 1) := by decide +kernel
theorem dX12_statement_227 : decode cX12_statement 227 = .ok (.bipush 6, 2) := by decide +kernel
theorem dX12_statement_229 : decode cX12_statement 229 = .ok (.invokevirtual 119, 3) := by decide +kernel
theorem dX12_statement_232 : decode cX12_statement 232 = .ok (.ireturn, 1) := by decide +kernel
theorem dX12_statement_233 : decode cX12_statement 233 = .ok (.aload_n 0, 1) := by decide +kernel
theorem dX12_statement_234 : decode cX12_statement 234 = .ok (.iload_n 1, 1) := by decide +kernel
theorem dX12_statement_235 : decode cX12_statement 235 = .ok (.aload_n 0, 1) := by decide +kernel
theorem dX12_statement_236 : decode cX12_statement 236 = .ok (.getfield 25, 3) := by decide +kernel
theorem dX12_statement_239 : decode cX12_statement 239 = .ok (.invokestatic 28, 3) := by decide +kernel
theorem dX12_statement_242 : decode cX12_statement 242 = .ok (.iconst 1, 1) := by decide +kernel
theorem dX12_statement_243 : decode cX12_statement 243 = .ok (.isub, 1) := by decide +kernel
theorem dX12_statement_244 : decode cX12_statement 244 = .ok (.invokevirtual 132, 3) := by decide +kernel
theorem dX12_statement_247 : decode cX12_statement 247 = .ok (.aload_n 0, 1) := by decide +kernel
theorem dX12_statement_248 : decode cX12_statement 248 = .ok (.invokevirtual 122, 3) := by decide +kernel
theorem dX12_statement_251 : decode cX12_statement 251 = .ok (.iconst 1, 1) := by decide +kernel
theorem dX12_statement_252 : decode cX12_statement 252 = .ok (.ireturn, 1) := by decide +kernel
theorem dX12_init_0 : decode cX12_init 0 = .ok (.aload_n 0, 1) := by decide +kernel
theorem dX12_init_1 : decode cX12_init 1 = .ok (.invokespecial 176, 3) := by decide +kernel
theorem dX12_init_4 : decode cX12_init 4 = .ok (.aload_n 0, 1) := by decide +kernel
theorem dX12_init_5 : decode cX12_init 5 = .ok (.bipush 127, 2) := by decide +kernel
theorem dX12_init_7 : decode cX12_init 7 = .ok (.newarray .int, 2) := by decide +kernel
theorem dX12_init_9 : decode cX12_init 9 = .ok (.putfield 14, 3) := by decide +kernel
theorem dX12_init_12 : decode cX12_init 12 = .ok (.aload_n 0, 1) := by decide +kernel
theorem dX12_init_13 : decode cX12_init 13 = .ok (.bipush 127, 2) := by decide +kernel
theorem dX12_init_15 : decode cX12_init 15 = .ok (.newarray .int, 2) := by decide +kernel
theorem dX12_init_17 : decode cX12_init 17 = .ok (.putfield 25, 3) := by decide +kernel
theorem dX12_init_20 : decode cX12_init 20 = .ok (.aload_n 0, 1) := by decide +kernel
theorem dX12_init_21 : decode cX12_init 21 = .ok (.sipush 1524, 3) := by decide +kernel
theorem dX12_init_24 : decode cX12_init 24 = .ok (.newarray .int, 2) := by decide +kernel
theorem dX12_init_26 : decode cX12_init 26 = .ok (.putfield 10, 3) := by decide +kernel
theorem dX12_init_29 : decode cX12_init 29 = .ok (.aload_n 0, 1) := by decide +kernel
theorem dX12_init_30 : decode cX12_init 30 = .ok (.sipush 381, 3) := by decide +kernel
theorem dX12_init_33 : decode cX12_init 33 = .ok (.newarray .int, 2) := by decide +kernel
theorem dX12_init_35 : decode cX12_init 35 = .ok (.putfield 181, 3) := by decide +kernel
theorem dX12_init_38 : decode cX12_init 38 = .ok (.aload_n 0, 1) := by decide +kernel
theorem dX12_init_39 : decode cX12_init 39 = .ok (.iconst 3, 1) := by decide +kernel
theorem dX12_init_40 : decode cX12_init 40 = .ok (.newarray .boolean, 2) := by decide +kernel
theorem dX12_init_42 : decode cX12_init 42 = .ok (.putfield 184, 3) := by decide +kernel
theorem dX12_init_45 : decode cX12_init 45 = .ok (.aload_n 0, 1) := by decide +kernel
theorem dX12_init_46 : decode cX12_init 46 = .ok (.sipush 256, 3) := by decide +kernel
theorem dX12_init_49 : decode cX12_init 49 = .ok (.newarray .long, 2) := by decide +kernel
theorem dX12_init_51 : decode cX12_init 51 = .ok (.putfield 32, 3) := by decide +kernel
theorem dX12_init_54 : decode cX12_init 54 = .ok (.aload_n 0, 1) := by decide +kernel
theorem dX12_init_55 : decode cX12_init 55 = .ok (.sipush 500, 3) := by decide +kernel
theorem dX12_init_58 : decode cX12_init 58 = .ok (.newarray .byte, 2) := by decide +kernel
theorem dX12_init_60 : decode cX12_init 60 = .ok (.putfield 60, 3) := by decide +kernel
theorem dX12_init_63 : decode cX12_init 63 = .ok (.aload_n 0, 1) := by decide +kernel
theorem dX12_init_64 : decode cX12_init 64 = .ok (.bipush 64, 2) := by decide +kernel
theorem dX12_init_66 : decode cX12_init 66 = .ok (.newarray .int, 2) := by decide +kernel
theorem dX12_init_68 : decode cX12_init 68 = .ok (.putfield 113, 3) := by decide +kernel
theorem dX12_init_71 : decode cX12_init 71 = .ok (.aload_n 0, 1) := by decide +kernel
theorem dX12_init_72 : decode cX12_init 72 = .ok (.bipush 64, 2) := by decide +kernel
theorem dX12_init_74 : decode cX12_init 74 = .ok (.newarray .int, 2) := by decide +kernel
theorem dX12_init_76 : decode cX12_init 76 = .ok (.putfield 116, 3) := by decide +kernel
theorem dX12_init_79 : decode cX12_init 79 = .ok (.aload_n 0, 1) := by decide +kernel
theorem dX12_init_80 : decode cX12_init 80 = .ok (.bipush 32, 2) := by decide +kernel
theorem dX12_init_82 : decode cX12_init 82 = .ok (.newarray .int, 2) := by decide +kernel
theorem dX12_init_84 : decode cX12_init 84 = .ok (.putfield 142, 3) := by decide +kernel
theorem dX12_init_87 : decode cX12_init 87 = .ok (.aload_n 0, 1) := by decide +kernel
theorem dX12_init_88 : decode cX12_init 88 = .ok (.bipush 32, 2) := by decide +kernel
theorem dX12_init_90 : decode cX12_init 90 = .ok (.newarray .int, 2) := by decide +kernel
theorem dX12_init_92 : decode cX12_init 92 = .ok (.putfield 148, 3) := by decide +kernel
theorem dX12_init_95 : decode cX12_init 95 = .ok (.aload_n 0, 1) := by decide +kernel
theorem dX12_init_96 : decode cX12_init 96 = .ok (.bipush 64, 2) := by decide +kernel
theorem dX12_init_98 : decode cX12_init 98 = .ok (.newarray .boolean, 2) := by decide +kernel
theorem dX12_init_100 : decode cX12_init 100 = .ok (.putfield 188, 3) := by decide +kernel
theorem dX12_init_103 : decode cX12_init 103 = .ok (.aload_n 0, 1) := by decide +kernel
theorem dX12_init_104 : decode cX12_init 104 = .ok (.bipush 64, 2) := by decide +kernel
theorem dX12_init_106 : decode cX12_init 106 = .ok (.newarray .int, 2) := by decide +kernel
theorem dX12_init_108 : decode cX12_init 108 = .ok (.putfield 191, 3) := by decide +kernel
theorem dX12_init_111 : decode cX12_init 111 = .ok (.aload_n 0, 1) := by decide +kernel
theorem dX12_init_112 : decode cX12_init 112 = .ok (.bipush 64, 2) := by decide +kernel
theorem dX12_init_114 : decode cX12_init 114 = .ok (.newarray .long, 2) := by decide +kernel
theorem dX12_init_116 : decode cX12_init 116 = .ok (.putfield 194, 3) := by decide +kernel
theorem dX12_init_119 : decode cX12_init 119 = .ok (.aload_n 0, 1) := by decide +kernel
theorem dX12_init_120 : decode cX12_init 120 = .ok (.bipush 64, 2) := by decide +kernel
theorem dX12_init_122 : decode cX12_init 122 = .ok (.newarray .int, 2) := by decide +kernel
theorem dX12_init_124 : decode cX12_init 124 = .ok (.putfield 197, 3) := by decide +kernel
theorem dX12_init_127 : decode cX12_init 127 = .ok (.aload_n 0, 1) := by decide +kernel
theorem dX12_init_128 : decode cX12_init 128 = .ok (.bipush 64, 2) := by decide +kernel
theorem dX12_init_130 : decode cX12_init 130 = .ok (.newarray .int, 2) := by decide +kernel
theorem dX12_init_132 : decode cX12_init 132 = .ok (.putfield 200, 3) := by decide +kernel
theorem dX12_init_135 : decode cX12_init 135 = .ok (.aload_n 0, 1) := by decide +kernel
theorem dX12_init_136 : decode cX12_init 136 = .ok (.bipush 127, 2) := by decide +kernel
theorem dX12_init_138 : decode cX12_init 138 = .ok (.newarray .int, 2) := by decide +kernel
theorem dX12_init_140 : decode cX12_init 140 = .ok (.putfield 203, 3) := by decide +kernel
theorem dX12_init_143 : decode cX12_init 143 = .ok (.aload_n 0, 1) := by decide +kernel
theorem dX12_init_144 : decode cX12_init 144 = .ok (.sipush 10000, 3) := by decide +kernel
theorem dX12_init_147 : decode cX12_init 147 = .ok (.newarray .boolean, 2) := by decide +kernel
theorem dX12_init_149 : decode cX12_init 149 = .ok (.putfield 206, 3) := by decide +kernel
theorem dX12_init_152 : decode cX12_init 152 = .ok (.aload_n 0, 1) := by decide +kernel
theorem dX12_init_153 : decode cX12_init 153 = .ok (.sipush 10000, 3) := by decide +kernel
theorem dX12_init_156 : decode cX12_init 156 = .ok (.newarray .int, 2) := by decide +kernel
theorem dX12_init_158 : decode cX12_init 158 = .ok (.putfield 209, 3) := by decide +kernel
theorem dX12_init_161 : decode cX12_init 161 = .ok (.aload_n 0, 1) := by decide +kernel
theorem dX12_init_162 : decode cX12_init 162 = .ok (.sipush 10000, 3) := by decide +kernel
theorem dX12_init_165 : decode cX12_init 165 = .ok (.newarray .int, 2) := by decide +kernel
theorem dX12_init_167 : decode cX12_init 167 = .ok (.putfield 212, 3) := by decide +kernel
theorem dX12_init_170 : decode cX12_init 170 = .ok (.aload_n 0, 1) := by decide +kernel
theorem dX12_init_171 : decode cX12_init 171 = .ok (.sipush 10000, 3) := by decide +kernel
theorem dX12_init_174 : decode cX12_init 174 = .ok (.newarray .int, 2) := by decide +kernel
theorem dX12_init_176 : decode cX12_init 176 = .ok (.putfield 215, 3) := by decide +kernel
theorem dX12_init_179 : decode cX12_init 179 = .ok (.aload_n 0, 1) := by decide +kernel
theorem dX12_init_180 : decode cX12_init 180 = .ok (.bipush 16, 2) := by decide +kernel
theorem dX12_init_182 : decode cX12_init 182 = .ok (.newarray .long, 2) := by decide +kernel
theorem dX12_init_184 : decode cX12_init 184 = .ok (.putfield 218, 3) := by decide +kernel
theorem dX12_init_187 : decode cX12_init 187 = .ok (.aload_n 0, 1) := by decide +kernel
theorem dX12_init_188 : decode cX12_init 188 = .ok (.sipush 10000, 3) := by decide +kernel
theorem dX12_init_191 : decode cX12_init 191 = .ok (.newarray .boolean, 2) := by decide +kernel
theorem dX12_init_193 : decode cX12_init 193 = .ok (.putfield 221, 3) := by decide +kernel
theorem dX12_init_196 : decode cX12_init 196 = .ok (.aload_n 0, 1) := by decide +kernel
theorem dX12_init_197 : decode cX12_init 197 = .ok (.sipush 10000, 3) := by decide +kernel
theorem dX12_init_200 : decode cX12_init 200 = .ok (.newarray .int, 2) := by decide +kernel
theorem dX12_init_202 : decode cX12_init 202 = .ok (.putfield 224, 3) := by decide +kernel
theorem dX12_init_205 : decode cX12_init 205 = .ok (.aload_n 0, 1) := by decide +kernel
theorem dX12_init_206 : decode cX12_init 206 = .ok (.bipush 64, 2) := by decide +kernel
theorem dX12_init_208 : decode cX12_init 208 = .ok (.newarray .int, 2) := by decide +kernel
theorem dX12_init_210 : decode cX12_init 210 = .ok (.putfield 227, 3) := by decide +kernel
theorem dX12_init_213 : decode cX12_init 213 = .ok (.return_, 1) := by decide +kernel
theorem dX12_text_0 : decode cX12_text 0 = .ok (.aload_n 0, 1) := by decide +kernel
theorem dX12_text_1 : decode cX12_text 1 = .ok (.iconst 0, 1) := by decide +kernel
theorem dX12_text_2 : decode cX12_text 2 = .ok (.putfield 1, 3) := by decide +kernel
theorem dX12_text_5 : decode cX12_text 5 = .ok (.iload_n 1, 1) := by decide +kernel
theorem dX12_text_6 : decode cX12_text 6 = .ok (.i2l, 1) := by decide +kernel
theorem dX12_text_7 : decode cX12_text 7 = .ok (.lconst 0, 1) := by decide +kernel
theorem dX12_text_8 : decode cX12_text 8 = .ok (.aload_n 0, 1) := by decide +kernel
theorem dX12_text_9 : decode cX12_text 9 = .ok (.getfield 53, 3) := by decide +kernel
theorem dX12_text_12 : decode cX12_text 12 = .ok (.i2l, 1) := by decide +kernel
theorem dX12_text_13 : decode cX12_text 13 = .ok (.invokestatic 93, 3) := by decide +kernel
theorem dX12_text_16 : decode cX12_text 16 = .ok (.ifCond .ne 5, 3) := by decide +kernel
theorem dX12_text_19 : decode cX12_text 19 = .ok (.iconst (-1), 1) := by decide +kernel
theorem dX12_text_20 : decode cX12_text 20 = .ok (.ireturn, 1) := by decide +kernel
theorem dX12_text_21 : decode cX12_text 21 = .ok (.aload_n 0, 1) := by decide +kernel
theorem dX12_text_22 : decode cX12_text 22 = .ok (.iload_n 1, 1) := by decide +kernel
theorem dX12_text_23 : decode cX12_text 23 = .ok (.putfield 64, 3) := by decide +kernel
theorem dX12_text_26 : decode cX12_text 26 = .ok (.aload_n 0, 1) := by decide +kernel
theorem dX12_text_27 : decode cX12_text 27 = .ok (.iconst 0, 1) := by decide +kernel
theorem dX12_text_28 : decode cX12_text 28 = .ok (.putfield 53, 3) := by decide +kernel
theorem dX12_text_31 : decode cX12_text 31 = .ok (.aload_n 0, 1) := by decide +kernel
theorem dX12_text_32 : decode cX12_text 32 = .ok (.iconst 0, 1) := by decide +kernel
theorem dX12_text_33 : decode cX12_text 33 = .ok (.putfield 67, 3) := by decide +kernel
theorem dX12_text_36 : decode cX12_text 36 = .ok (.aload_n 0, 1) := by decide +kernel
theorem dX12_text_37 : decode cX12_text 37 = .ok (.iconst 0, 1) := by decide +kernel
theorem dX12_text_38 : decode cX12_text 38 = .ok (.putfield 101, 3) := by decide +kernel
theorem dX12_text_41 : decode cX12_text 41 = .ok (.aload_n 0, 1) := by decide +kernel
theorem dX12_text_42 : decode cX12_text 42 = .ok (.iconst 0, 1) := by decide +kernel
theorem dX12_text_43 : decode cX12_text 43 = .ok (.putfield 110, 3) := by decide +kernel
theorem dX12_text_46 : decode cX12_text 46 = .ok (.aload_n 0, 1) := by decide +kernel
theorem dX12_text_47 : decode cX12_text 47 = .ok (.getfield 25, 3) := by decide +kernel
theorem dX12_text_50 : decode cX12_text 50 = .ok (.invokestatic 230, 3) := by decide +kernel
theorem dX12_text_53 : decode cX12_text 53 = .ok (.aload_n 0, 1) := by decide +kernel
theorem dX12_text_54 : decode cX12_text 54 = .ok (.invokevirtual 122, 3) := by decide +kernel
theorem dX12_text_57 : decode cX12_text 57 = .ok (.aload_n 0, 1) := by decide +kernel
theorem dX12_text_58 : decode cX12_text 58 = .ok (.invokevirtual 233, 3) := by decide +kernel
theorem dX12_text_61 : decode cX12_text 61 = .ok (.istore_n 2, 1) := by decide +kernel
theorem dX12_text_62 : decode cX12_text 62 = .ok (.iload_n 2, 1) := by decide +kernel
theorem dX12_text_63 : decode cX12_text 63 = .ok (.ifCond .eq 20, 3) := by decide +kernel
theorem dX12_text_66 : decode cX12_text 66 = .ok (.aload_n 0, 1) := by decide +kernel
theorem dX12_text_67 : decode cX12_text 67 = .ok (.ldc 109, 2) := by decide +kernel
theorem dX12_text_69 : decode cX12_text 69 = .ok (.invokevirtual 105, 3) := by decide +kernel
theorem dX12_text_72 : decode cX12_text 72 = .ok (.ifCond .ne 11, 3) := by decide +kernel
theorem dX12_text_75 : decode cX12_text 75 = .ok (.aload_n 0, 1) := by decide +kernel
theorem dX12_text_76 : decode cX12_text 76 = .ok (.invokevirtual 236, 3) := by decide +kernel
theorem dX12_text_79 : decode cX12_text 79 = .ok (.istore_n 2, 1) := by decide +kernel
theorem dX12_text_80 : decode cX12_text 80 = .ok (.goto (-18), 3) := by decide +kernel
theorem dX12_text_83 : decode cX12_text 83 = .ok (.iload_n 2, 1) := by decide +kernel
theorem dX12_text_84 : decode cX12_text 84 = .ok (.ifCond .eq 14, 3) := by decide +kernel
theorem dX12_text_87 : decode cX12_text 87 = .ok (.aload_n 0, 1) := by decide +kernel
theorem dX12_text_88 : decode cX12_text 88 = .ok (.invokevirtual 239, 3) := by decide +kernel
theorem dX12_text_91 : decode cX12_text 91 = .ok (.ifCond .eq 7, 3) := by decide +kernel
theorem dX12_text_94 : decode cX12_text 94 = .ok (.iconst 1, 1) := by decide +kernel
theorem dX12_text_95 : decode cX12_text 95 = .ok (.goto 4, 3) := by decide +kernel
theorem dX12_text_98 : decode cX12_text 98 = .ok (.iconst 0, 1) := by decide +kernel
theorem dX12_text_99 : decode cX12_text 99 = .ok (.istore_n 2, 1) := by decide +kernel
theorem dX12_text_100 : decode cX12_text 100 = .ok (.iload_n 2, 1) := by decide +kernel
theorem dX12_text_101 : decode cX12_text 101 = .ok (.ifCond .eq 10, 3) := by decide +kernel
theorem dX12_text_104 : decode cX12_text 104 = .ok (.aload_n 0, 1) := by decide +kernel
theorem dX12_text_105 : decode cX12_text 105 = .ok (.invokevirtual 242, 3) := by decide +kernel
theorem dX12_text_108 : decode cX12_text 108 = .ok (.goto 10, 3) := by decide +kernel
theorem dX12_text_111 : decode cX12_text 111 = .ok (.bipush (-2), 2) := by decide +kernel
theorem dX12_text_113 : decode cX12_text 113 = .ok (.aload_n 0, 1) := by decide +kernel
theorem dX12_text_114 : decode cX12_text 114 = .ok (.getfield 101, 3) := by decide +kernel
theorem dX12_text_117 : decode cX12_text 117 = .ok (.isub, 1) := by decide +kernel
theorem dX12_text_118 : decode cX12_text 118 = .ok (.ireturn, 1) := by decide +kernel
theorem dX12_needs_0 : decode cX12_needs 0 = .ok (.iconst 0, 1) := by decide +kernel
theorem dX12_needs_1 : decode cX12_needs 1 = .ok (.istore_n 1, 1) := by decide +kernel
theorem dX12_needs_2 : decode cX12_needs 2 = .ok (.iload_n 1, 1) := by decide +kernel
theorem dX12_needs_3 : decode cX12_needs 3 = .ok (.bipush 64, 2) := by decide +kernel
theorem dX12_needs_5 : decode cX12_needs 5 = .ok (.if_icmp .ge 16, 3) := by decide +kernel
theorem dX12_needs_8 : decode cX12_needs 8 = .ok (.aload_n 0, 1) := by decide +kernel
theorem dX12_needs_9 : decode cX12_needs 9 = .ok (.getfield 188, 3) := by decide +kernel
theorem dX12_needs_12 : decode cX12_needs 12 = .ok (.iload_n 1, 1) := by decide +kernel
theorem dX12_needs_13 : decode cX12_needs 13 = .ok (.iconst 0, 1) := by decide +kernel
theorem dX12_needs_14 : decode cX12_needs 14 = .ok (.bastore, 1) := by decide +kernel
theorem dX12_needs_15 : decode cX12_needs 15 = .ok (.iinc 1 1, 3) := by decide +kernel
theorem dX12_needs_18 : decode cX12_needs 18 = .ok (.goto (-16), 3) := by decide +kernel
theorem dX12_needs_21 : decode cX12_needs 21 = .ok (.iconst 0, 1) := by decide +kernel
theorem dX12_needs_22 : decode cX12_needs 22 = .ok (.istore_n 1, 1) := by decide +kernel
theorem dX12_needs_23 : decode cX12_needs 23 = .ok (.iload_n 1, 1) := by decide +kernel
theorem dX12_needs_24 : decode cX12_needs 24 = .ok (.aload_n 0, 1) := by decide +kernel
theorem dX12_needs_25 : decode cX12_needs 25 = .ok (.getfield 14, 3) := by decide +kernel
theorem dX12_needs_28 : decode cX12_needs 28 = .ok (.iconst 2, 1) := by decide +kernel
theorem dX12_needs_29 : decode cX12_needs 29 = .ok (.iaload, 1) := by decide +kernel
theorem dX12_needs_30 : decode cX12_needs 30 = .ok (.if_icmp .ge 24, 3) := by decide +kernel
theorem dX12_needs_33 : decode cX12_needs 33 = .ok (.aload_n 0, 1) := by decide +kernel
theorem dX12_needs_34 : decode cX12_needs 34 = .ok (.getfield 188, 3) := by decide +kernel
theorem dX12_needs_37 : decode cX12_needs 37 = .ok (.aload_n 0, 1) := by decide +kernel
theorem dX12_needs_38 : decode cX12_needs 38 = .ok (.getfield 14, 3) := by decide +kernel
theorem dX12_needs_41 : decode cX12_needs 41 = .ok (.bipush 123, 2) := by decide +kernel
theorem dX12_needs_43 : decode cX12_needs 43 = .ok (.iload_n 1, 1) := by decide +kernel
theorem dX12_needs_44 : decode cX12_needs 44 = .ok (.iadd, 1) := by decide +kernel
theorem dX12_needs_45 : decode cX12_needs 45 = .ok (.iaload, 1) := by decide +kernel
theorem dX12_needs_46 : decode cX12_needs 46 = .ok (.iconst 1, 1) := by decide +kernel
theorem dX12_needs_47 : decode cX12_needs 47 = .ok (.bastore, 1) := by decide +kernel
theorem dX12_needs_48 : decode cX12_needs 48 = .ok (.iinc 1 1, 3) := by decide +kernel
theorem dX12_needs_51 : decode cX12_needs 51 = .ok (.goto (-28), 3) := by decide +kernel
theorem dX12_needs_54 : decode cX12_needs 54 = .ok (.aload_n 0, 1) := by decide +kernel
theorem dX12_needs_55 : decode cX12_needs 55 = .ok (.getfield 14, 3) := by decide +kernel
theorem dX12_needs_58 : decode cX12_needs 58 = .ok (.invokestatic 28, 3) := by decide +kernel
theorem dX12_needs_61 : decode cX12_needs 61 = .ok (.iconst 1, 1) := by decide +kernel
theorem dX12_needs_62 : decode cX12_needs 62 = .ok (.isub, 1) := by decide +kernel
theorem dX12_needs_63 : decode cX12_needs 63 = .ok (.istore_n 1, 1) := by decide +kernel
theorem dX12_needs_64 : decode cX12_needs 64 = .ok (.iload_n 1, 1) := by decide +kernel
theorem dX12_needs_65 : decode cX12_needs 65 = .ok (.aload_n 0, 1) := by decide +kernel
theorem dX12_needs_66 : decode cX12_needs 66 = .ok (.getfield 14, 3) := by decide +kernel
theorem dX12_needs_69 : decode cX12_needs 69 = .ok (.iconst 0, 1) := by decide +kernel
theorem dX12_needs_70 : decode cX12_needs 70 = .ok (.iaload, 1) := by decide +kernel
theorem dX12_needs_71 : decode cX12_needs 71 = .ok (.if_icmp .lt 46, 3) := by decide +kernel
theorem dX12_needs_74 : decode cX12_needs 74 = .ok (.aload_n 0, 1) := by decide +kernel
theorem dX12_needs_75 : decode cX12_needs 75 = .ok (.getfield 188, 3) := by decide +kernel
theorem dX12_needs_78 : decode cX12_needs 78 = .ok (.iload_n 1, 1) := by decide +kernel
theorem dX12_needs_79 : decode cX12_needs 79 = .ok (.baload, 1) := by decide +kernel
theorem dX12_needs_80 : decode cX12_needs 80 = .ok (.ifCond .eq 31, 3) := by decide +kernel
theorem dX12_needs_83 : decode cX12_needs 83 = .ok (.aload_n 0, 1) := by decide +kernel
theorem dX12_needs_84 : decode cX12_needs 84 = .ok (.getfield 188, 3) := by decide +kernel
theorem dX12_needs_87 : decode cX12_needs 87 = .ok (.aload_n 0, 1) := by decide +kernel
theorem dX12_needs_88 : decode cX12_needs 88 = .ok (.getfield 14, 3) := by decide +kernel
theorem dX12_needs_91 : decode cX12_needs 91 = .ok (.iload_n 1, 1) := by decide +kernel
theorem dX12_needs_92 : decode cX12_needs 92 = .ok (.invokestatic 36, 3) := by decide +kernel
theorem dX12_needs_95 : decode cX12_needs 95 = .ok (.iconst 1, 1) := by decide +kernel
theorem dX12_needs_96 : decode cX12_needs 96 = .ok (.bastore, 1) := by decide +kernel
theorem dX12_needs_97 : decode cX12_needs 97 = .ok (.aload_n 0, 1) := by decide +kernel
theorem dX12_needs_98 : decode cX12_needs 98 = .ok (.getfield 188, 3) := by decide +kernel
theorem dX12_needs_101 : decode cX12_needs 101 = .ok (.aload_n 0, 1) := by decide +kernel
theorem dX12_needs_102 : decode cX12_needs 102 = .ok (.getfield 14, 3) := by decide +kernel
theorem dX12_needs_105 : decode cX12_needs 105 = .ok (.iload_n 1, 1) := by decide +kernel
theorem dX12_needs_106 : decode cX12_needs 106 = .ok (.invokestatic 40, 3) := by decide +kernel
theorem dX12_needs_109 : decode cX12_needs 109 = .ok (.iconst 1, 1) := by decide +kernel
theorem dX12_needs_110 : decode cX12_needs 110 = .ok (.bastore, 1) := by decide +kernel
theorem dX12_needs_111 : decode cX12_needs 111 = .ok (.iinc 1 (-1), 3) := by decide +kernel
theorem dX12_needs_114 : decode cX12_needs 114 = .ok (.goto (-50), 3) := by decide +kernel
theorem dX12_needs_117 : decode cX12_needs 117 = .ok (.return_, 1) := by decide +kernel
theorem dX12_depthsAll_0 : decode cX12_depthsAll 0 = .ok (.iconst 0, 1) := by decide +kernel
theorem dX12_depthsAll_1 : decode cX12_depthsAll 1 = .ok (.istore_n 1, 1) := by decide +kernel
theorem dX12_depthsAll_2 : decode cX12_depthsAll 2 = .ok (.iconst 0, 1) := by decide +kernel
theorem dX12_depthsAll_3 : decode cX12_depthsAll 3 = .ok (.istore_n 2, 1) := by decide +kernel
theorem dX12_depthsAll_4 : decode cX12_depthsAll 4 = .ok (.iload_n 2, 1) := by decide +kernel
theorem dX12_depthsAll_5 : decode cX12_depthsAll 5 = .ok (.aload_n 0, 1) := by decide +kernel
theorem dX12_depthsAll_6 : decode cX12_depthsAll 6 = .ok (.getfield 14, 3) := by decide +kernel
theorem dX12_depthsAll_9 : decode cX12_depthsAll 9 = .ok (.invokestatic 28, 3) := by decide +kernel
theorem dX12_depthsAll_12 : decode cX12_depthsAll 12 = .ok (.if_icmp .ge 71, 3) := by decide +kernel
theorem dX12_depthsAll_15 : decode cX12_depthsAll 15 = .ok (.aload_n 0, 1) := by decide +kernel
theorem dX12_depthsAll_16 : decode cX12_depthsAll 16 = .ok (.getfield 191, 3) := by decide +kernel
theorem dX12_depthsAll_19 : decode cX12_depthsAll 19 = .ok (.iload_n 2, 1) := by decide +kernel
theorem dX12_depthsAll_20 : decode cX12_depthsAll 20 = .ok (.iload_n 2, 1) := by decide +kernel
theorem dX12_depthsAll_21 : decode cX12_depthsAll 21 = .ok (.aload_n 0, 1) := by decide +kernel
theorem dX12_depthsAll_22 : decode cX12_depthsAll 22 = .ok (.getfield 14, 3) := by decide +kernel
theorem dX12_depthsAll_25 : decode cX12_depthsAll 25 = .ok (.iconst 0, 1) := by decide +kernel
theorem dX12_depthsAll_26 : decode cX12_depthsAll 26 = .ok (.iaload, 1) := by decide +kernel
theorem dX12_depthsAll_27 : decode cX12_depthsAll 27 = .ok (.if_icmp .ge 7, 3) := by decide +kernel
theorem dX12_depthsAll_30 : decode cX12_depthsAll 30 = .ok (.iconst 0, 1) := by decide +kernel
theorem dX12_depthsAll_31 : decode cX12_depthsAll 31 = .ok (.goto 34, 3) := by decide +kernel
theorem dX12_depthsAll_34 : decode cX12_depthsAll 34 = .ok (.iconst 1, 1) := by decide +kernel
theorem dX12_depthsAll_35 : decode cX12_depthsAll 35 = .ok (.aload_n 0, 1) := by decide +kernel
theorem dX12_depthsAll_36 : decode cX12_depthsAll 36 = .ok (.getfield 191, 3) := by decide +kernel
theorem dX12_depthsAll_39 : decode cX12_depthsAll 39 = .ok (.aload_n 0, 1) := by decide +kernel
theorem dX12_depthsAll_40 : decode cX12_depthsAll 40 = .ok (.getfield 14, 3) := by decide +kernel
theorem dX12_depthsAll_43 : decode cX12_depthsAll 43 = .ok (.iload_n 2, 1) := by decide +kernel
theorem dX12_depthsAll_44 : decode cX12_depthsAll 44 = .ok (.invokestatic 36, 3) := by decide +kernel
theorem dX12_depthsAll_47 : decode cX12_depthsAll 47 = .ok (.iaload, 1) := by decide +kernel
theorem dX12_depthsAll_48 : decode cX12_depthsAll 48 = .ok (.aload_n 0, 1) := by decide +kernel
theorem dX12_depthsAll_49 : decode cX12_depthsAll 49 = .ok (.getfield 191, 3) := by decide +kernel
theorem dX12_depthsAll_52 : decode cX12_depthsAll 52 = .ok (.aload_n 0, 1) := by decide +kernel
theorem dX12_depthsAll_53 : decode cX12_depthsAll 53 = .ok (.getfield 14, 3) := by decide +kernel
theorem dX12_depthsAll_56 : decode cX12_depthsAll 56 = .ok (.iload_n 2, 1) := by decide +kernel
theorem dX12_depthsAll_57 : decode cX12_depthsAll 57 = .ok (.invokestatic 40, 3) := by decide +kernel
theorem dX12_depthsAll_60 : decode cX12_depthsAll 60 = .ok (.iaload, 1) := by decide +kernel
theorem dX12_depthsAll_61 : decode cX12_depthsAll 61 = .ok (.invokestatic 246, 3) := by decide +kernel
theorem dX12_depthsAll_64 : decode cX12_depthsAll 64 = .ok (.iadd, 1) := by decide +kernel
theorem dX12_depthsAll_65 : decode cX12_depthsAll 65 = .ok (.iastore, 1) := by decide +kernel
theorem dX12_depthsAll_66 : decode cX12_depthsAll 66 = .ok (.iload_n 1, 1) := by decide +kernel
theorem dX12_depthsAll_67 : decode cX12_depthsAll 67 = .ok (.aload_n 0, 1) := by decide +kernel
theorem dX12_depthsAll_68 : decode cX12_depthsAll 68 = .ok (.getfield 191, 3) := by decide +kernel
theorem dX12_depthsAll_71 : decode cX12_depthsAll 71 = .ok (.iload_n 2, 1) := by decide +kernel
theorem dX12_depthsAll_72 : decode cX12_depthsAll 72 = .ok (.iaload, 1) := by decide +kernel
theorem dX12_depthsAll_73 : decode cX12_depthsAll 73 = .ok (.invokestatic 246, 3) := by decide +kernel
theorem dX12_depthsAll_76 : decode cX12_depthsAll 76 = .ok (.istore_n 1, 1) := by decide +kernel
theorem dX12_depthsAll_77 : decode cX12_depthsAll 77 = .ok (.iinc 2 1, 3) := by decide +kernel
theorem dX12_depthsAll_80 : decode cX12_depthsAll 80 = .ok (.goto (-76), 3) := by decide +kernel
theorem dX12_depthsAll_83 : decode cX12_depthsAll 83 = .ok (.iload_n 1, 1) := by decide +kernel
theorem dX12_depthsAll_84 : decode cX12_depthsAll 84 = .ok (.ireturn, 1) := by decide +kernel
theorem dX12_sortOf_0 : decode cX12_sortOf 0 = .ok (.iload_n 1, 1) := by decide +kernel
theorem dX12_sortOf_1 : decode cX12_sortOf 1 = .ok (.aload_n 0, 1) := by decide +kernel
theorem dX12_sortOf_2 : decode cX12_sortOf 2 = .ok (.getfield 14, 3) := by decide +kernel
theorem dX12_sortOf_5 : decode cX12_sortOf 5 = .ok (.iconst 0, 1) := by decide +kernel
theorem dX12_sortOf_6 : decode cX12_sortOf 6 = .ok (.iaload, 1) := by decide +kernel
theorem dX12_sortOf_7 : decode cX12_sortOf 7 = .ok (.if_icmp .ge 5, 3) := by decide +kernel
theorem dX12_sortOf_10 : decode cX12_sortOf 10 = .ok (.iconst 3, 1) := by decide +kernel
theorem dX12_sortOf_11 : decode cX12_sortOf 11 = .ok (.ireturn, 1) := by decide +kernel
theorem dX12_sortOf_12 : decode cX12_sortOf 12 = .ok (.aload_n 0, 1) := by decide +kernel
theorem dX12_sortOf_13 : decode cX12_sortOf 13 = .ok (.getfield 14, 3) := by decide +kernel
theorem dX12_sortOf_16 : decode cX12_sortOf 16 = .ok (.iload_n 1, 1) := by decide +kernel
theorem dX12_sortOf_17 : decode cX12_sortOf 17 = .ok (.invokestatic 36, 3) := by decide +kernel
theorem dX12_sortOf_20 : decode cX12_sortOf 20 = .ok (.istore_n 2, 1) := by decide +kernel
theorem dX12_sortOf_21 : decode cX12_sortOf 21 = .ok (.aload_n 0, 1) := by decide +kernel
theorem dX12_sortOf_22 : decode cX12_sortOf 22 = .ok (.getfield 14, 3) := by decide +kernel
theorem dX12_sortOf_25 : decode cX12_sortOf 25 = .ok (.iload_n 1, 1) := by decide +kernel
theorem dX12_sortOf_26 : decode cX12_sortOf 26 = .ok (.invokestatic 40, 3) := by decide +kernel
theorem dX12_sortOf_29 : decode cX12_sortOf 29 = .ok (.istore_n 3, 1) := by decide +kernel
theorem dX12_sortOf_30 : decode cX12_sortOf 30 = .ok (.iload_n 2, 1) := by decide +kernel
theorem dX12_sortOf_31 : decode cX12_sortOf 31 = .ok (.iload_n 3, 1) := by decide +kernel
theorem dX12_sortOf_32 : decode cX12_sortOf 32 = .ok (.if_icmp .ne 7, 3) := by decide +kernel
theorem dX12_sortOf_35 : decode cX12_sortOf 35 = .ok (.iconst 0, 1) := by decide +kernel
theorem dX12_sortOf_36 : decode cX12_sortOf 36 = .ok (.goto 22, 3) := by decide +kernel
theorem dX12_sortOf_39 : decode cX12_sortOf 39 = .ok (.iload_n 2, 1) := by decide +kernel
theorem dX12_sortOf_40 : decode cX12_sortOf 40 = .ok (.iload_n 1, 1) := by decide +kernel
theorem dX12_sortOf_41 : decode cX12_sortOf 41 = .ok (.iconst 1, 1) := by decide +kernel
theorem dX12_sortOf_42 : decode cX12_sortOf 42 = .ok (.isub, 1) := by decide +kernel
theorem dX12_sortOf_43 : decode cX12_sortOf 43 = .ok (.if_icmp .eq 10, 3) := by decide +kernel
theorem dX12_sortOf_46 : decode cX12_sortOf 46 = .ok (.iload_n 3, 1) := by decide +kernel
theorem dX12_sortOf_47 : decode cX12_sortOf 47 = .ok (.iload_n 1, 1) := by decide +kernel
theorem dX12_sortOf_48 : decode cX12_sortOf 48 = .ok (.iconst 1, 1) := by decide +kernel
theorem dX12_sortOf_49 : decode cX12_sortOf 49 = .ok (.isub, 1) := by decide +kernel
theorem dX12_sortOf_50 : decode cX12_sortOf 50 = .ok (.if_icmp .ne 7, 3) := by decide +kernel
theorem dX12_sortOf_53 : decode cX12_sortOf 53 = .ok (.iconst 1, 1) := by decide +kernel
theorem dX12_sortOf_54 : decode cX12_sortOf 54 = .ok (.goto 4, 3) := by decide +kernel
theorem dX12_sortOf_57 : decode cX12_sortOf 57 = .ok (.iconst 2, 1) := by decide +kernel
theorem dX12_sortOf_58 : decode cX12_sortOf 58 = .ok (.ireturn, 1) := by decide +kernel
theorem dX12_sorts_0 : decode cX12_sorts 0 = .ok (.iconst 0, 1) := by decide +kernel
theorem dX12_sorts_1 : decode cX12_sorts 1 = .ok (.istore_n 2, 1) := by decide +kernel
theorem dX12_sorts_2 : decode cX12_sorts 2 = .ok (.aload_n 0, 1) := by decide +kernel
theorem dX12_sorts_3 : decode cX12_sorts 3 = .ok (.getfield 14, 3) := by decide +kernel
theorem dX12_sorts_6 : decode cX12_sorts 6 = .ok (.iconst 0, 1) := by decide +kernel
theorem dX12_sorts_7 : decode cX12_sorts 7 = .ok (.iaload, 1) := by decide +kernel
theorem dX12_sorts_8 : decode cX12_sorts 8 = .ok (.istore_n 3, 1) := by decide +kernel
theorem dX12_sorts_9 : decode cX12_sorts 9 = .ok (.iload_n 3, 1) := by decide +kernel
theorem dX12_sorts_10 : decode cX12_sorts 10 = .ok (.aload_n 0, 1) := by decide +kernel
theorem dX12_sorts_11 : decode cX12_sorts 11 = .ok (.getfield 14, 3) := by decide +kernel
theorem dX12_sorts_14 : decode cX12_sorts 14 = .ok (.invokestatic 28, 3) := by decide +kernel
theorem dX12_sorts_17 : decode cX12_sorts 17 = .ok (.if_icmp .ge 26, 3) := by decide +kernel
theorem dX12_sorts_20 : decode cX12_sorts 20 = .ok (.iload_n 2, 1) := by decide +kernel
theorem dX12_sorts_21 : decode cX12_sorts 21 = .ok (.aload_n 0, 1) := by decide +kernel
theorem dX12_sorts_22 : decode cX12_sorts 22 = .ok (.iload_n 3, 1) := by decide +kernel
theorem dX12_sorts_23 : decode cX12_sorts 23 = .ok (.invokevirtual 251, 3) := by decide +kernel
theorem dX12_sorts_26 : decode cX12_sorts 26 = .ok (.iload_n 1, 1) := by decide +kernel
theorem dX12_sorts_27 : decode cX12_sorts 27 = .ok (.if_icmp .ne 7, 3) := by decide +kernel
theorem dX12_sorts_30 : decode cX12_sorts 30 = .ok (.iconst 1, 1) := by decide +kernel
theorem dX12_sorts_31 : decode cX12_sorts 31 = .ok (.goto 4, 3) := by decide +kernel
theorem dX12_sorts_34 : decode cX12_sorts 34 = .ok (.iconst 0, 1) := by decide +kernel
theorem dX12_sorts_35 : decode cX12_sorts 35 = .ok (.iadd, 1) := by decide +kernel
theorem dX12_sorts_36 : decode cX12_sorts 36 = .ok (.istore_n 2, 1) := by decide +kernel
theorem dX12_sorts_37 : decode cX12_sorts 37 = .ok (.iinc 3 1, 3) := by decide +kernel
theorem dX12_sorts_40 : decode cX12_sorts 40 = .ok (.goto (-31), 3) := by decide +kernel
theorem dX12_sorts_43 : decode cX12_sorts 43 = .ok (.iload_n 2, 1) := by decide +kernel
theorem dX12_sorts_44 : decode cX12_sorts 44 = .ok (.ireturn, 1) := by decide +kernel
theorem dX12_isNode_0 : decode cX12_isNode 0 = .ok (.iload_n 1, 1) := by decide +kernel
theorem dX12_isNode_1 : decode cX12_isNode 1 = .ok (.i2l, 1) := by decide +kernel
theorem dX12_isNode_2 : decode cX12_isNode 2 = .ok (.lconst 0, 1) := by decide +kernel
theorem dX12_isNode_3 : decode cX12_isNode 3 = .ok (.aload_n 0, 1) := by decide +kernel
theorem dX12_isNode_4 : decode cX12_isNode 4 = .ok (.getfield 14, 3) := by decide +kernel
theorem dX12_isNode_7 : decode cX12_isNode 7 = .ok (.invokestatic 28, 3) := by decide +kernel
theorem dX12_isNode_10 : decode cX12_isNode 10 = .ok (.iconst 1, 1) := by decide +kernel
theorem dX12_isNode_11 : decode cX12_isNode 11 = .ok (.isub, 1) := by decide +kernel
theorem dX12_isNode_12 : decode cX12_isNode 12 = .ok (.i2l, 1) := by decide +kernel
theorem dX12_isNode_13 : decode cX12_isNode 13 = .ok (.invokestatic 93, 3) := by decide +kernel
theorem dX12_isNode_16 : decode cX12_isNode 16 = .ok (.ireturn, 1) := by decide +kernel
theorem dX12_count_0 : decode cX12_count 0 = .ok (.aload_n 0, 1) := by decide +kernel
theorem dX12_count_1 : decode cX12_count 1 = .ok (.iconst 0, 1) := by decide +kernel
theorem dX12_count_2 : decode cX12_count 2 = .ok (.putfield 1, 3) := by decide +kernel
theorem dX12_count_5 : decode cX12_count 5 = .ok (.iconst 0, 1) := by decide +kernel
theorem dX12_count_6 : decode cX12_count 6 = .ok (.istore_n 2, 1) := by decide +kernel
theorem dX12_count_7 : decode cX12_count 7 = .ok (.iload_n 1, 1) := by decide +kernel
theorem dX12_count_8 : decode cX12_count 8 = .ok (.tableswitch 203 0 12 #[68, 75, 82, 89, 89, 89, 97, 144, 149, 154, 186, 191, 196], 68) := by decide +kernel
theorem dX12_count_76 : decode cX12_count 76 = .ok (.aload_n 0, 1) := by decide +kernel
theorem dX12_count_77 : decode cX12_count 77 = .ok (.getfield 14, 3) := by decide +kernel
theorem dX12_count_80 : decode cX12_count 80 = .ok (.iconst 0, 1) := by decide +kernel
theorem dX12_count_81 : decode cX12_count 81 = .ok (.iaload, 1) := by decide +kernel
theorem dX12_count_82 : decode cX12_count 82 = .ok (.ireturn, 1) := by decide +kernel
theorem dX12_count_83 : decode cX12_count 83 = .ok (.aload_n 0, 1) := by decide +kernel
theorem dX12_count_84 : decode cX12_count 84 = .ok (.getfield 14, 3) := by decide +kernel
theorem dX12_count_87 : decode cX12_count 87 = .ok (.iconst 1, 1) := by decide +kernel
theorem dX12_count_88 : decode cX12_count 88 = .ok (.iaload, 1) := by decide +kernel
theorem dX12_count_89 : decode cX12_count 89 = .ok (.ireturn, 1) := by decide +kernel
theorem dX12_count_90 : decode cX12_count 90 = .ok (.aload_n 0, 1) := by decide +kernel
theorem dX12_count_91 : decode cX12_count 91 = .ok (.getfield 14, 3) := by decide +kernel
theorem dX12_count_94 : decode cX12_count 94 = .ok (.iconst 2, 1) := by decide +kernel
theorem dX12_count_95 : decode cX12_count 95 = .ok (.iaload, 1) := by decide +kernel
theorem dX12_count_96 : decode cX12_count 96 = .ok (.ireturn, 1) := by decide +kernel
theorem dX12_count_97 : decode cX12_count 97 = .ok (.aload_n 0, 1) := by decide +kernel
theorem dX12_count_98 : decode cX12_count 98 = .ok (.iload_n 1, 1) := by decide +kernel
theorem dX12_count_99 : decode cX12_count 99 = .ok (.iconst 3, 1) := by decide +kernel
theorem dX12_count_100 : decode cX12_count 100 = .ok (.isub, 1) := by decide +kernel
theorem dX12_count_101 : decode cX12_count 101 = .ok (.invokevirtual 254, 3) := by decide +kernel
theorem dX12_count_104 : decode cX12_count 104 = .ok (.ireturn, 1) := by decide +kernel
theorem dX12_count_105 : decode cX12_count 105 = .ok (.aload_n 0, 1) := by decide +kernel
theorem dX12_count_106 : decode cX12_count 106 = .ok (.invokevirtual 257, 3) := by decide +kernel
theorem dX12_count_109 : decode cX12_count 109 = .ok (.aload_n 0, 1) := by decide +kernel
theorem dX12_count_110 : decode cX12_count 110 = .ok (.getfield 14, 3) := by decide +kernel
theorem dX12_count_113 : decode cX12_count 113 = .ok (.iconst 0, 1) := by decide +kernel
theorem dX12_count_114 : decode cX12_count 114 = .ok (.iaload, 1) := by decide +kernel
theorem dX12_count_115 : decode cX12_count 115 = .ok (.istore_n 3, 1) := by decide +kernel
theorem dX12_count_116 : decode cX12_count 116 = .ok (.iload_n 3, 1) := by decide +kernel
theorem dX12_count_117 : decode cX12_count 117 = .ok (.aload_n 0, 1) := by decide +kernel
theorem dX12_count_118 : decode cX12_count 118 = .ok (.getfield 14, 3) := by decide +kernel
theorem dX12_count_121 : decode cX12_count 121 = .ok (.invokestatic 28, 3) := by decide +kernel
theorem dX12_count_124 : decode cX12_count 124 = .ok (.if_icmp .ge 26, 3) := by decide +kernel
theorem dX12_count_127 : decode cX12_count 127 = .ok (.iload_n 2, 1) := by decide +kernel
theorem dX12_count_128 : decode cX12_count 128 = .ok (.aload_n 0, 1) := by decide +kernel
theorem dX12_count_129 : decode cX12_count 129 = .ok (.getfield 188, 3) := by decide +kernel
theorem dX12_count_132 : decode cX12_count 132 = .ok (.iload_n 3, 1) := by decide +kernel
theorem dX12_count_133 : decode cX12_count 133 = .ok (.baload, 1) := by decide +kernel
theorem dX12_count_134 : decode cX12_count 134 = .ok (.ifCond .eq 7, 3) := by decide +kernel
theorem dX12_count_137 : decode cX12_count 137 = .ok (.iconst 1, 1) := by decide +kernel
theorem dX12_count_138 : decode cX12_count 138 = .ok (.goto 4, 3) := by decide +kernel
theorem dX12_count_141 : decode cX12_count 141 = .ok (.iconst 0, 1) := by decide +kernel
theorem dX12_count_142 : decode cX12_count 142 = .ok (.iadd, 1) := by decide +kernel
theorem dX12_count_143 : decode cX12_count 143 = .ok (.istore_n 2, 1) := by decide +kernel
theorem dX12_count_144 : decode cX12_count 144 = .ok (.iinc 3 1, 3) := by decide +kernel
theorem dX12_count_147 : decode cX12_count 147 = .ok (.goto (-31), 3) := by decide +kernel
theorem dX12_count_150 : decode cX12_count 150 = .ok (.iload_n 2, 1) := by decide +kernel
theorem dX12_count_151 : decode cX12_count 151 = .ok (.ireturn, 1) := by decide +kernel
theorem dX12_count_152 : decode cX12_count 152 = .ok (.aload_n 0, 1) := by decide +kernel
theorem dX12_count_153 : decode cX12_count 153 = .ok (.invokevirtual 260, 3) := by decide +kernel
theorem dX12_count_156 : decode cX12_count 156 = .ok (.ireturn, 1) := by decide +kernel
theorem dX12_count_157 : decode cX12_count 157 = .ok (.aload_n 0, 1) := by decide +kernel
theorem dX12_count_158 : decode cX12_count 158 = .ok (.getfield 7, 3) := by decide +kernel
theorem dX12_count_161 : decode cX12_count 161 = .ok (.ireturn, 1) := by decide +kernel
theorem dX12_count_162 : decode cX12_count 162 = .ok (.iconst 0, 1) := by decide +kernel
theorem dX12_count_163 : decode cX12_count 163 = .ok (.istore_n 3, 1) := by decide +kernel
theorem dX12_count_164 : decode cX12_count 164 = .ok (.iload_n 3, 1) := by decide +kernel
theorem dX12_count_165 : decode cX12_count 165 = .ok (.iconst 3, 1) := by decide +kernel
theorem dX12_count_166 : decode cX12_count 166 = .ok (.if_icmp .ge 26, 3) := by decide +kernel
theorem dX12_count_169 : decode cX12_count 169 = .ok (.iload_n 2, 1) := by decide +kernel
theorem dX12_count_170 : decode cX12_count 170 = .ok (.aload_n 0, 1) := by decide +kernel
theorem dX12_count_171 : decode cX12_count 171 = .ok (.getfield 184, 3) := by decide +kernel
theorem dX12_count_174 : decode cX12_count 174 = .ok (.iload_n 3, 1) := by decide +kernel
theorem dX12_count_175 : decode cX12_count 175 = .ok (.baload, 1) := by decide +kernel
theorem dX12_count_176 : decode cX12_count 176 = .ok (.ifCond .eq 7, 3) := by decide +kernel
theorem dX12_count_179 : decode cX12_count 179 = .ok (.iconst 1, 1) := by decide +kernel
theorem dX12_count_180 : decode cX12_count 180 = .ok (.goto 4, 3) := by decide +kernel
theorem dX12_count_183 : decode cX12_count 183 = .ok (.iconst 0, 1) := by decide +kernel
theorem dX12_count_184 : decode cX12_count 184 = .ok (.iadd, 1) := by decide +kernel
theorem dX12_count_185 : decode cX12_count 185 = .ok (.istore_n 2, 1) := by decide +kernel
theorem dX12_count_186 : decode cX12_count 186 = .ok (.iinc 3 1, 3) := by decide +kernel
theorem dX12_count_189 : decode cX12_count 189 = .ok (.goto (-25), 3) := by decide +kernel
theorem dX12_count_192 : decode cX12_count 192 = .ok (.iload_n 2, 1) := by decide +kernel
theorem dX12_count_193 : decode cX12_count 193 = .ok (.ireturn, 1) := by decide +kernel
theorem dX12_count_194 : decode cX12_count 194 = .ok (.aload_n 0, 1) := by decide +kernel
theorem dX12_count_195 : decode cX12_count 195 = .ok (.getfield 53, 3) := by decide +kernel
theorem dX12_count_198 : decode cX12_count 198 = .ok (.ireturn, 1) := by decide +kernel
theorem dX12_count_199 : decode cX12_count 199 = .ok (.aload_n 0, 1) := by decide +kernel
theorem dX12_count_200 : decode cX12_count 200 = .ok (.getfield 263, 3) := by decide +kernel
theorem dX12_count_203 : decode cX12_count 203 = .ok (.ireturn, 1) := by decide +kernel
theorem dX12_count_204 : decode cX12_count 204 = .ok (.aload_n 0, 1) := by decide +kernel
theorem dX12_count_205 : decode cX12_count 205 = .ok (.getfield 266, 3) := by decide +kernel
theorem dX12_count_208 : decode cX12_count 208 = .ok (.iconst 1, 1) := by decide +kernel
theorem dX12_count_209 : decode cX12_count 209 = .ok (.isub, 1) := by decide +kernel
theorem dX12_count_210 : decode cX12_count 210 = .ok (.ireturn, 1) := by decide +kernel
theorem dX12_count_211 : decode cX12_count 211 = .ok (.iconst (-1), 1) := by decide +kernel
theorem dX12_count_212 : decode cX12_count 212 = .ok (.ireturn, 1) := by decide +kernel
theorem dX12_node_0 : decode cX12_node 0 = .ok (.aload_n 0, 1) := by decide +kernel
theorem dX12_node_1 : decode cX12_node 1 = .ok (.aload_n 0, 1) := by decide +kernel
theorem dX12_node_2 : decode cX12_node 2 = .ok (.iload_n 1, 1) := by decide +kernel
theorem dX12_node_3 : decode cX12_node 3 = .ok (.invokevirtual 269, 3) := by decide +kernel
theorem dX12_node_6 : decode cX12_node 6 = .ok (.ifCond .eq 19, 3) := by decide +kernel
theorem dX12_node_9 : decode cX12_node 9 = .ok (.iload_n 2, 1) := by decide +kernel
theorem dX12_node_10 : decode cX12_node 10 = .ok (.i2l, 1) := by decide +kernel
theorem dX12_node_11 : decode cX12_node 11 = .ok (.lconst 0, 1) := by decide +kernel
theorem dX12_node_12 : decode cX12_node 12 = .ok (.ldc2_w 272, 3) := by decide +kernel
theorem dX12_node_15 : decode cX12_node 15 = .ok (.invokestatic 93, 3) := by decide +kernel
theorem dX12_node_18 : decode cX12_node 18 = .ok (.ifCond .eq 7, 3) := by decide +kernel
theorem dX12_node_21 : decode cX12_node 21 = .ok (.iconst 0, 1) := by decide +kernel
theorem dX12_node_22 : decode cX12_node 22 = .ok (.goto 4, 3) := by decide +kernel
theorem dX12_node_25 : decode cX12_node 25 = .ok (.iconst 1, 1) := by decide +kernel
theorem dX12_node_26 : decode cX12_node 26 = .ok (.putfield 1, 3) := by decide +kernel
theorem dX12_node_29 : decode cX12_node 29 = .ok (.aload_n 0, 1) := by decide +kernel
theorem dX12_node_30 : decode cX12_node 30 = .ok (.getfield 1, 3) := by decide +kernel
theorem dX12_node_33 : decode cX12_node 33 = .ok (.ifCond .le 5, 3) := by decide +kernel
theorem dX12_node_36 : decode cX12_node 36 = .ok (.iconst 0, 1) := by decide +kernel
theorem dX12_node_37 : decode cX12_node 37 = .ok (.ireturn, 1) := by decide +kernel
theorem dX12_node_38 : decode cX12_node 38 = .ok (.iload_n 2, 1) := by decide +kernel
theorem dX12_node_39 : decode cX12_node 39 = .ok (.tableswitch 112 0 5 #[37, 46, 55, 61, 73, 92], 37) := by decide +kernel
theorem dX12_node_76 : decode cX12_node 76 = .ok (.aload_n 0, 1) := by decide +kernel
theorem dX12_node_77 : decode cX12_node 77 = .ok (.getfield 14, 3) := by decide +kernel
theorem dX12_node_80 : decode cX12_node 80 = .ok (.iload_n 1, 1) := by decide +kernel
theorem dX12_node_81 : decode cX12_node 81 = .ok (.invokestatic 36, 3) := by decide +kernel
theorem dX12_node_84 : decode cX12_node 84 = .ok (.ireturn, 1) := by decide +kernel
theorem dX12_node_85 : decode cX12_node 85 = .ok (.aload_n 0, 1) := by decide +kernel
theorem dX12_node_86 : decode cX12_node 86 = .ok (.getfield 14, 3) := by decide +kernel
theorem dX12_node_89 : decode cX12_node 89 = .ok (.iload_n 1, 1) := by decide +kernel
theorem dX12_node_90 : decode cX12_node 90 = .ok (.invokestatic 40, 3) := by decide +kernel
theorem dX12_node_93 : decode cX12_node 93 = .ok (.ireturn, 1) := by decide +kernel
theorem dX12_node_94 : decode cX12_node 94 = .ok (.aload_n 0, 1) := by decide +kernel
theorem dX12_node_95 : decode cX12_node 95 = .ok (.iload_n 1, 1) := by decide +kernel
theorem dX12_node_96 : decode cX12_node 96 = .ok (.invokevirtual 251, 3) := by decide +kernel
theorem dX12_node_99 : decode cX12_node 99 = .ok (.ireturn, 1) := by decide +kernel
theorem dX12_node_100 : decode cX12_node 100 = .ok (.aload_n 0, 1) := by decide +kernel
theorem dX12_node_101 : decode cX12_node 101 = .ok (.invokevirtual 260, 3) := by decide +kernel
theorem dX12_node_104 : decode cX12_node 104 = .ok (.pop, 1) := by decide +kernel
theorem dX12_node_105 : decode cX12_node 105 = .ok (.aload_n 0, 1) := by decide +kernel
theorem dX12_node_106 : decode cX12_node 106 = .ok (.getfield 191, 3) := by decide +kernel
theorem dX12_node_109 : decode cX12_node 109 = .ok (.iload_n 1, 1) := by decide +kernel
theorem dX12_node_110 : decode cX12_node 110 = .ok (.iaload, 1) := by decide +kernel
theorem dX12_node_111 : decode cX12_node 111 = .ok (.ireturn, 1) := by decide +kernel
theorem dX12_node_112 : decode cX12_node 112 = .ok (.aload_n 0, 1) := by decide +kernel
theorem dX12_node_113 : decode cX12_node 113 = .ok (.invokevirtual 257, 3) := by decide +kernel
theorem dX12_node_116 : decode cX12_node 116 = .ok (.aload_n 0, 1) := by decide +kernel
theorem dX12_node_117 : decode cX12_node 117 = .ok (.getfield 188, 3) := by decide +kernel
theorem dX12_node_120 : decode cX12_node 120 = .ok (.iload_n 1, 1) := by decide +kernel
theorem dX12_node_121 : decode cX12_node 121 = .ok (.baload, 1) := by decide +kernel
theorem dX12_node_122 : decode cX12_node 122 = .ok (.ifCond .eq 7, 3) := by decide +kernel
theorem dX12_node_125 : decode cX12_node 125 = .ok (.iconst 1, 1) := by decide +kernel
theorem dX12_node_126 : decode cX12_node 126 = .ok (.goto 4, 3) := by decide +kernel
theorem dX12_node_129 : decode cX12_node 129 = .ok (.iconst 0, 1) := by decide +kernel
theorem dX12_node_130 : decode cX12_node 130 = .ok (.ireturn, 1) := by decide +kernel
theorem dX12_node_131 : decode cX12_node 131 = .ok (.aload_n 0, 1) := by decide +kernel
theorem dX12_node_132 : decode cX12_node 132 = .ok (.aload_n 0, 1) := by decide +kernel
theorem dX12_node_133 : decode cX12_node 133 = .ok (.getfield 14, 3) := by decide +kernel
theorem dX12_node_136 : decode cX12_node 136 = .ok (.invokevirtual 43, 3) := by decide +kernel
theorem dX12_node_139 : decode cX12_node 139 = .ok (.aload_n 0, 1) := by decide +kernel
theorem dX12_node_140 : decode cX12_node 140 = .ok (.iload_n 1, 1) := by decide +kernel
theorem dX12_node_141 : decode cX12_node 141 = .ok (.aload_n 0, 1) := by decide +kernel
theorem dX12_node_142 : decode cX12_node 142 = .ok (.getfield 14, 3) := by decide +kernel
theorem dX12_node_145 : decode cX12_node 145 = .ok (.iconst 0, 1) := by decide +kernel
theorem dX12_node_146 : decode cX12_node 146 = .ok (.iaload, 1) := by decide +kernel
theorem dX12_node_147 : decode cX12_node 147 = .ok (.invokevirtual 274, 3) := by decide +kernel
theorem dX12_node_150 : decode cX12_node 150 = .ok (.ireturn, 1) := by decide +kernel
theorem dX12_node_151 : decode cX12_node 151 = .ok (.iconst 0, 1) := by decide +kernel
theorem dX12_node_152 : decode cX12_node 152 = .ok (.istore_n 3, 1) := by decide +kernel
theorem dX12_node_153 : decode cX12_node 153 = .ok (.aload_n 0, 1) := by decide +kernel
theorem dX12_node_154 : decode cX12_node 154 = .ok (.getfield 14, 3) := by decide +kernel
theorem dX12_node_157 : decode cX12_node 157 = .ok (.iconst 0, 1) := by decide +kernel
theorem dX12_node_158 : decode cX12_node 158 = .ok (.iaload, 1) := by decide +kernel
theorem dX12_node_159 : decode cX12_node 159 = .ok (.istore 4, 2) := by decide +kernel
theorem dX12_node_161 : decode cX12_node 161 = .ok (.iload 4, 2) := by decide +kernel
theorem dX12_node_163 : decode cX12_node 163 = .ok (.aload_n 0, 1) := by decide +kernel
theorem dX12_node_164 : decode cX12_node 164 = .ok (.getfield 14, 3) := by decide +kernel
theorem dX12_node_167 : decode cX12_node 167 = .ok (.invokestatic 28, 3) := by decide +kernel
theorem dX12_node_170 : decode cX12_node 170 = .ok (.if_icmp .ge 49, 3) := by decide +kernel
theorem dX12_node_173 : decode cX12_node 173 = .ok (.iload_n 3, 1) := by decide +kernel
theorem dX12_node_174 : decode cX12_node 174 = .ok (.aload_n 0, 1) := by decide +kernel
theorem dX12_node_175 : decode cX12_node 175 = .ok (.getfield 14, 3) := by decide +kernel
theorem dX12_node_178 : decode cX12_node 178 = .ok (.iload 4, 2) := by decide +kernel
theorem dX12_node_180 : decode cX12_node 180 = .ok (.invokestatic 36, 3) := by decide +kernel
theorem dX12_node_183 : decode cX12_node 183 = .ok (.iload_n 1, 1) := by decide +kernel
theorem dX12_node_184 : decode cX12_node 184 = .ok (.if_icmp .ne 7, 3) := by decide +kernel
theorem dX12_node_187 : decode cX12_node 187 = .ok (.iconst 1, 1) := by decide +kernel
theorem dX12_node_188 : decode cX12_node 188 = .ok (.goto 4, 3) := by decide +kernel
theorem dX12_node_191 : decode cX12_node 191 = .ok (.iconst 0, 1) := by decide +kernel
theorem dX12_node_192 : decode cX12_node 192 = .ok (.aload_n 0, 1) := by decide +kernel
theorem dX12_node_193 : decode cX12_node 193 = .ok (.getfield 14, 3) := by decide +kernel
theorem dX12_node_196 : decode cX12_node 196 = .ok (.iload 4, 2) := by decide +kernel
theorem dX12_node_198 : decode cX12_node 198 = .ok (.invokestatic 40, 3) := by decide +kernel
theorem dX12_node_201 : decode cX12_node 201 = .ok (.iload_n 1, 1) := by decide +kernel
theorem dX12_node_202 : decode cX12_node 202 = .ok (.if_icmp .ne 7, 3) := by decide +kernel
theorem dX12_node_205 : decode cX12_node 205 = .ok (.iconst 1, 1) := by decide +kernel
theorem dX12_node_206 : decode cX12_node 206 = .ok (.goto 4, 3) := by decide +kernel
theorem dX12_node_209 : decode cX12_node 209 = .ok (.iconst 0, 1) := by decide +kernel
theorem dX12_node_210 : decode cX12_node 210 = .ok (.iadd, 1) := by decide +kernel
theorem dX12_node_211 : decode cX12_node 211 = .ok (.iadd, 1) := by decide +kernel
theorem dX12_node_212 : decode cX12_node 212 = .ok (.istore_n 3, 1) := by decide +kernel
theorem dX12_node_213 : decode cX12_node 213 = .ok (.iinc 4 1, 3) := by decide +kernel
theorem dX12_node_216 : decode cX12_node 216 = .ok (.goto (-55), 3) := by decide +kernel
theorem dX12_node_219 : decode cX12_node 219 = .ok (.iload_n 3, 1) := by decide +kernel
theorem dX12_node_220 : decode cX12_node 220 = .ok (.ireturn, 1) := by decide +kernel
theorem dX12_exponent_0 : decode cX12_exponent 0 = .ok (.aload_n 0, 1) := by decide +kernel
theorem dX12_exponent_1 : decode cX12_exponent 1 = .ok (.iconst 0, 1) := by decide +kernel
theorem dX12_exponent_2 : decode cX12_exponent 2 = .ok (.putfield 1, 3) := by decide +kernel
theorem dX12_exponent_5 : decode cX12_exponent 5 = .ok (.aload_n 0, 1) := by decide +kernel
theorem dX12_exponent_6 : decode cX12_exponent 6 = .ok (.iload_n 1, 1) := by decide +kernel
theorem dX12_exponent_7 : decode cX12_exponent 7 = .ok (.invokevirtual 269, 3) := by decide +kernel
theorem dX12_exponent_10 : decode cX12_exponent 10 = .ok (.ifCond .eq 21, 3) := by decide +kernel
theorem dX12_exponent_13 : decode cX12_exponent 13 = .ok (.iload_n 2, 1) := by decide +kernel
theorem dX12_exponent_14 : decode cX12_exponent 14 = .ok (.i2l, 1) := by decide +kernel
theorem dX12_exponent_15 : decode cX12_exponent 15 = .ok (.lconst 0, 1) := by decide +kernel
theorem dX12_exponent_16 : decode cX12_exponent 16 = .ok (.aload_n 0, 1) := by decide +kernel
theorem dX12_exponent_17 : decode cX12_exponent 17 = .ok (.getfield 14, 3) := by decide +kernel
theorem dX12_exponent_20 : decode cX12_exponent 20 = .ok (.iconst 0, 1) := by decide +kernel
theorem dX12_exponent_21 : decode cX12_exponent 21 = .ok (.iaload, 1) := by decide +kernel
theorem dX12_exponent_22 : decode cX12_exponent 22 = .ok (.iconst 1, 1) := by decide +kernel
theorem dX12_exponent_23 : decode cX12_exponent 23 = .ok (.isub, 1) := by decide +kernel
theorem dX12_exponent_24 : decode cX12_exponent 24 = .ok (.i2l, 1) := by decide +kernel
theorem dX12_exponent_25 : decode cX12_exponent 25 = .ok (.invokestatic 93, 3) := by decide +kernel
theorem dX12_exponent_28 : decode cX12_exponent 28 = .ok (.ifCond .ne 7, 3) := by decide +kernel
theorem dX12_exponent_31 : decode cX12_exponent 31 = .ok (.ldc2_w 277, 3) := by decide +kernel
theorem dX12_exponent_34 : decode cX12_exponent 34 = .ok (.lreturn, 1) := by decide +kernel
theorem dX12_exponent_35 : decode cX12_exponent 35 = .ok (.aload_n 0, 1) := by decide +kernel
theorem dX12_exponent_36 : decode cX12_exponent 36 = .ok (.aload_n 0, 1) := by decide +kernel
theorem dX12_exponent_37 : decode cX12_exponent 37 = .ok (.getfield 14, 3) := by decide +kernel
theorem dX12_exponent_40 : decode cX12_exponent 40 = .ok (.invokevirtual 43, 3) := by decide +kernel
theorem dX12_exponent_43 : decode cX12_exponent 43 = .ok (.aload_n 0, 1) := by decide +kernel
theorem dX12_exponent_44 : decode cX12_exponent 44 = .ok (.getfield 32, 3) := by decide +kernel
theorem dX12_exponent_47 : decode cX12_exponent 47 = .ok (.iconst 4, 1) := by decide +kernel
theorem dX12_exponent_48 : decode cX12_exponent 48 = .ok (.iload_n 1, 1) := by decide +kernel
theorem dX12_exponent_49 : decode cX12_exponent 49 = .ok (.imul, 1) := by decide +kernel
theorem dX12_exponent_50 : decode cX12_exponent 50 = .ok (.iload_n 2, 1) := by decide +kernel
theorem dX12_exponent_51 : decode cX12_exponent 51 = .ok (.iadd, 1) := by decide +kernel
theorem dX12_exponent_52 : decode cX12_exponent 52 = .ok (.laload, 1) := by decide +kernel
theorem dX12_exponent_53 : decode cX12_exponent 53 = .ok (.lreturn, 1) := by decide +kernel
theorem dX12_wanted_0 : decode cX12_wanted 0 = .ok (.aload_n 0, 1) := by decide +kernel
theorem dX12_wanted_1 : decode cX12_wanted 1 = .ok (.iconst 0, 1) := by decide +kernel
theorem dX12_wanted_2 : decode cX12_wanted 2 = .ok (.putfield 1, 3) := by decide +kernel
theorem dX12_wanted_5 : decode cX12_wanted 5 = .ok (.iload_n 1, 1) := by decide +kernel
theorem dX12_wanted_6 : decode cX12_wanted 6 = .ok (.i2l, 1) := by decide +kernel
theorem dX12_wanted_7 : decode cX12_wanted 7 = .ok (.lconst 0, 1) := by decide +kernel
theorem dX12_wanted_8 : decode cX12_wanted 8 = .ok (.aload_n 0, 1) := by decide +kernel
theorem dX12_wanted_9 : decode cX12_wanted 9 = .ok (.getfield 14, 3) := by decide +kernel
theorem dX12_wanted_12 : decode cX12_wanted 12 = .ok (.iconst 2, 1) := by decide +kernel
theorem dX12_wanted_13 : decode cX12_wanted 13 = .ok (.iaload, 1) := by decide +kernel
theorem dX12_wanted_14 : decode cX12_wanted 14 = .ok (.iconst 1, 1) := by decide +kernel
theorem dX12_wanted_15 : decode cX12_wanted 15 = .ok (.isub, 1) := by decide +kernel
theorem dX12_wanted_16 : decode cX12_wanted 16 = .ok (.i2l, 1) := by decide +kernel
theorem dX12_wanted_17 : decode cX12_wanted 17 = .ok (.invokestatic 93, 3) := by decide +kernel
theorem dX12_wanted_20 : decode cX12_wanted 20 = .ok (.ifCond .eq 15, 3) := by decide +kernel
theorem dX12_wanted_23 : decode cX12_wanted 23 = .ok (.aload_n 0, 1) := by decide +kernel
theorem dX12_wanted_24 : decode cX12_wanted 24 = .ok (.getfield 14, 3) := by decide +kernel
theorem dX12_wanted_27 : decode cX12_wanted 27 = .ok (.bipush 123, 2) := by decide +kernel
theorem dX12_wanted_29 : decode cX12_wanted 29 = .ok (.iload_n 1, 1) := by decide +kernel
theorem dX12_wanted_30 : decode cX12_wanted 30 = .ok (.iadd, 1) := by decide +kernel
theorem dX12_wanted_31 : decode cX12_wanted 31 = .ok (.iaload, 1) := by decide +kernel
theorem dX12_wanted_32 : decode cX12_wanted 32 = .ok (.goto 4, 3) := by decide +kernel
theorem dX12_wanted_35 : decode cX12_wanted 35 = .ok (.iconst (-1), 1) := by decide +kernel
theorem dX12_wanted_36 : decode cX12_wanted 36 = .ok (.ireturn, 1) := by decide +kernel
theorem dX12_run_0 : decode cX12_run 0 = .ok (.aload_n 0, 1) := by decide +kernel
theorem dX12_run_1 : decode cX12_run 1 = .ok (.iconst 0, 1) := by decide +kernel
theorem dX12_run_2 : decode cX12_run 2 = .ok (.putfield 1, 3) := by decide +kernel
theorem dX12_run_5 : decode cX12_run 5 = .ok (.aload_n 0, 1) := by decide +kernel
theorem dX12_run_6 : decode cX12_run 6 = .ok (.iload_n 1, 1) := by decide +kernel
theorem dX12_run_7 : decode cX12_run 7 = .ok (.invokevirtual 269, 3) := by decide +kernel
theorem dX12_run_10 : decode cX12_run 10 = .ok (.ifCond .eq 17, 3) := by decide +kernel
theorem dX12_run_13 : decode cX12_run 13 = .ok (.iload_n 2, 1) := by decide +kernel
theorem dX12_run_14 : decode cX12_run 14 = .ok (.i2l, 1) := by decide +kernel
theorem dX12_run_15 : decode cX12_run 15 = .ok (.ldc2_w 151, 3) := by decide +kernel
theorem dX12_run_18 : decode cX12_run 18 = .ok (.ldc2_w 279, 3) := by decide +kernel
theorem dX12_run_21 : decode cX12_run 21 = .ok (.invokestatic 93, 3) := by decide +kernel
theorem dX12_run_24 : decode cX12_run 24 = .ok (.ifCond .ne 5, 3) := by decide +kernel
theorem dX12_run_27 : decode cX12_run 27 = .ok (.iconst (-1), 1) := by decide +kernel
theorem dX12_run_28 : decode cX12_run 28 = .ok (.ireturn, 1) := by decide +kernel
theorem dX12_run_29 : decode cX12_run 29 = .ok (.iconst 0, 1) := by decide +kernel
theorem dX12_run_30 : decode cX12_run 30 = .ok (.istore 7, 2) := by decide +kernel
theorem dX12_run_32 : decode cX12_run 32 = .ok (.iload 7, 2) := by decide +kernel
theorem dX12_run_34 : decode cX12_run 34 = .ok (.iload_n 1, 1) := by decide +kernel
theorem dX12_run_35 : decode cX12_run 35 = .ok (.if_icmp .gt 111, 3) := by decide +kernel
theorem dX12_run_38 : decode cX12_run 38 = .ok (.iload 7, 2) := by decide +kernel
theorem dX12_run_40 : decode cX12_run 40 = .ok (.aload_n 0, 1) := by decide +kernel
theorem dX12_run_41 : decode cX12_run 41 = .ok (.getfield 14, 3) := by decide +kernel
theorem dX12_run_44 : decode cX12_run 44 = .ok (.iconst 0, 1) := by decide +kernel
theorem dX12_run_45 : decode cX12_run 45 = .ok (.iaload, 1) := by decide +kernel
theorem dX12_run_46 : decode cX12_run 46 = .ok (.if_icmp .ge 55, 3) := by decide +kernel
theorem dX12_run_49 : decode cX12_run 49 = .ok (.iload 7, 2) := by decide +kernel
theorem dX12_run_51 : decode cX12_run 51 = .ok (.ifCond .ne 7, 3) := by decide +kernel
theorem dX12_run_54 : decode cX12_run 54 = .ok (.iload_n 3, 1) := by decide +kernel
theorem dX12_run_55 : decode cX12_run 55 = .ok (.goto 27, 3) := by decide +kernel
theorem dX12_run_58 : decode cX12_run 58 = .ok (.iload 7, 2) := by decide +kernel
theorem dX12_run_60 : decode cX12_run 60 = .ok (.iconst 1, 1) := by decide +kernel
theorem dX12_run_61 : decode cX12_run 61 = .ok (.if_icmp .ne 8, 3) := by decide +kernel
theorem dX12_run_64 : decode cX12_run 64 = .ok (.iload 4, 2) := by decide +kernel
theorem dX12_run_66 : decode cX12_run 66 = .ok (.goto 16, 3) := by decide +kernel
theorem dX12_run_69 : decode cX12_run 69 = .ok (.iload 7, 2) := by decide +kernel
theorem dX12_run_71 : decode cX12_run 71 = .ok (.iconst 2, 1) := by decide +kernel
theorem dX12_run_72 : decode cX12_run 72 = .ok (.if_icmp .ne 8, 3) := by decide +kernel
theorem dX12_run_75 : decode cX12_run 75 = .ok (.iload 5, 2) := by decide +kernel
theorem dX12_run_77 : decode cX12_run 77 = .ok (.goto 5, 3) := by decide +kernel
theorem dX12_run_80 : decode cX12_run 80 = .ok (.iload 6, 2) := by decide +kernel
theorem dX12_run_82 : decode cX12_run 82 = .ok (.istore 8, 2) := by decide +kernel
theorem dX12_run_84 : decode cX12_run 84 = .ok (.aload_n 0, 1) := by decide +kernel
theorem dX12_run_85 : decode cX12_run 85 = .ok (.getfield 194, 3) := by decide +kernel
theorem dX12_run_88 : decode cX12_run 88 = .ok (.iload 7, 2) := by decide +kernel
theorem dX12_run_90 : decode cX12_run 90 = .ok (.iload 8, 2) := by decide +kernel
theorem dX12_run_92 : decode cX12_run 92 = .ok (.iload_n 2, 1) := by decide +kernel
theorem dX12_run_93 : decode cX12_run 93 = .ok (.invokestatic 281, 3) := by decide +kernel
theorem dX12_run_96 : decode cX12_run 96 = .ok (.i2l, 1) := by decide +kernel
theorem dX12_run_97 : decode cX12_run 97 = .ok (.lastore, 1) := by decide +kernel
theorem dX12_run_98 : decode cX12_run 98 = .ok (.goto 42, 3) := by decide +kernel
theorem dX12_run_101 : decode cX12_run 101 = .ok (.aload_n 0, 1) := by decide +kernel
theorem dX12_run_102 : decode cX12_run 102 = .ok (.getfield 194, 3) := by decide +kernel
theorem dX12_run_105 : decode cX12_run 105 = .ok (.iload 7, 2) := by decide +kernel
theorem dX12_run_107 : decode cX12_run 107 = .ok (.aload_n 0, 1) := by decide +kernel
theorem dX12_run_108 : decode cX12_run 108 = .ok (.getfield 194, 3) := by decide +kernel
theorem dX12_run_111 : decode cX12_run 111 = .ok (.aload_n 0, 1) := by decide +kernel
theorem dX12_run_112 : decode cX12_run 112 = .ok (.getfield 14, 3) := by decide +kernel
theorem dX12_run_115 : decode cX12_run 115 = .ok (.iload 7, 2) := by decide +kernel
theorem dX12_run_117 : decode cX12_run 117 = .ok (.invokestatic 36, 3) := by decide +kernel
theorem dX12_run_120 : decode cX12_run 120 = .ok (.laload, 1) := by decide +kernel
theorem dX12_run_121 : decode cX12_run 121 = .ok (.aload_n 0, 1) := by decide +kernel
theorem dX12_run_122 : decode cX12_run 122 = .ok (.getfield 194, 3) := by decide +kernel
theorem dX12_run_125 : decode cX12_run 125 = .ok (.aload_n 0, 1) := by decide +kernel
theorem dX12_run_126 : decode cX12_run 126 = .ok (.getfield 14, 3) := by decide +kernel
theorem dX12_run_129 : decode cX12_run 129 = .ok (.iload 7, 2) := by decide +kernel
theorem dX12_run_131 : decode cX12_run 131 = .ok (.invokestatic 40, 3) := by decide +kernel
theorem dX12_run_134 : decode cX12_run 134 = .ok (.laload, 1) := by decide +kernel
theorem dX12_run_135 : decode cX12_run 135 = .ok (.lmul, 1) := by decide +kernel
theorem dX12_run_136 : decode cX12_run 136 = .ok (.iload_n 2, 1) := by decide +kernel
theorem dX12_run_137 : decode cX12_run 137 = .ok (.i2l, 1) := by decide +kernel
theorem dX12_run_138 : decode cX12_run 138 = .ok (.lrem, 1) := by decide +kernel
theorem dX12_run_139 : decode cX12_run 139 = .ok (.lastore, 1) := by decide +kernel
theorem dX12_run_140 : decode cX12_run 140 = .ok (.iinc 7 1, 3) := by decide +kernel
theorem dX12_run_143 : decode cX12_run 143 = .ok (.goto (-111), 3) := by decide +kernel
theorem dX12_run_146 : decode cX12_run 146 = .ok (.aload_n 0, 1) := by decide +kernel
theorem dX12_run_147 : decode cX12_run 147 = .ok (.getfield 194, 3) := by decide +kernel
theorem dX12_run_150 : decode cX12_run 150 = .ok (.iload_n 1, 1) := by decide +kernel
theorem dX12_run_151 : decode cX12_run 151 = .ok (.laload, 1) := by decide +kernel
theorem dX12_run_152 : decode cX12_run 152 = .ok (.l2i, 1) := by decide +kernel
theorem dX12_run_153 : decode cX12_run 153 = .ok (.ireturn, 1) := by decide +kernel
theorem dX12_add_0 : decode cX12_add 0 = .ok (.aload_n 0, 1) := by decide +kernel
theorem dX12_add_1 : decode cX12_add 1 = .ok (.iconst 0, 1) := by decide +kernel
theorem dX12_add_2 : decode cX12_add 2 = .ok (.putfield 1, 3) := by decide +kernel
theorem dX12_add_5 : decode cX12_add 5 = .ok (.aload_n 0, 1) := by decide +kernel
theorem dX12_add_6 : decode cX12_add 6 = .ok (.iload_n 1, 1) := by decide +kernel
theorem dX12_add_7 : decode cX12_add 7 = .ok (.invokevirtual 269, 3) := by decide +kernel
theorem dX12_add_10 : decode cX12_add 10 = .ok (.ifCond .eq 22, 3) := by decide +kernel
theorem dX12_add_13 : decode cX12_add 13 = .ok (.aload_n 0, 1) := by decide +kernel
theorem dX12_add_14 : decode cX12_add 14 = .ok (.iload_n 2, 1) := by decide +kernel
theorem dX12_add_15 : decode cX12_add 15 = .ok (.invokevirtual 269, 3) := by decide +kernel
theorem dX12_add_18 : decode cX12_add 18 = .ok (.ifCond .eq 14, 3) := by decide +kernel
theorem dX12_add_21 : decode cX12_add 21 = .ok (.aload_n 0, 1) := by decide +kernel
theorem dX12_add_22 : decode cX12_add 22 = .ok (.getfield 14, 3) := by decide +kernel
theorem dX12_add_25 : decode cX12_add 25 = .ok (.iconst 1, 1) := by decide +kernel
theorem dX12_add_26 : decode cX12_add 26 = .ok (.iaload, 1) := by decide +kernel
theorem dX12_add_27 : decode cX12_add 27 = .ok (.bipush 60, 2) := by decide +kernel
theorem dX12_add_29 : decode cX12_add 29 = .ok (.if_icmp .ne 5, 3) := by decide +kernel
theorem dX12_add_32 : decode cX12_add 32 = .ok (.iconst (-1), 1) := by decide +kernel
theorem dX12_add_33 : decode cX12_add 33 = .ok (.ireturn, 1) := by decide +kernel
theorem dX12_add_34 : decode cX12_add 34 = .ok (.aload_n 0, 1) := by decide +kernel
theorem dX12_add_35 : decode cX12_add 35 = .ok (.getfield 14, 3) := by decide +kernel
theorem dX12_add_38 : decode cX12_add 38 = .ok (.iconst 0, 1) := by decide +kernel
theorem dX12_add_39 : decode cX12_add 39 = .ok (.aload_n 0, 1) := by decide +kernel
theorem dX12_add_40 : decode cX12_add 40 = .ok (.getfield 25, 3) := by decide +kernel
theorem dX12_add_43 : decode cX12_add 43 = .ok (.iconst 0, 1) := by decide +kernel
theorem dX12_add_44 : decode cX12_add 44 = .ok (.invokestatic 17, 3) := by decide +kernel
theorem dX12_add_47 : decode cX12_add 47 = .ok (.aload_n 0, 1) := by decide +kernel
theorem dX12_add_48 : decode cX12_add 48 = .ok (.getfield 25, 3) := by decide +kernel
theorem dX12_add_51 : decode cX12_add 51 = .ok (.iload_n 1, 1) := by decide +kernel
theorem dX12_add_52 : decode cX12_add 52 = .ok (.iload_n 2, 1) := by decide +kernel
theorem dX12_add_53 : decode cX12_add 53 = .ok (.invokestatic 168, 3) := by decide +kernel
theorem dX12_add_56 : decode cX12_add 56 = .ok (.istore_n 3, 1) := by decide +kernel
theorem dX12_add_57 : decode cX12_add 57 = .ok (.aload_n 0, 1) := by decide +kernel
theorem dX12_add_58 : decode cX12_add 58 = .ok (.aload_n 0, 1) := by decide +kernel
theorem dX12_add_59 : decode cX12_add 59 = .ok (.getfield 25, 3) := by decide +kernel
theorem dX12_add_62 : decode cX12_add 62 = .ok (.invokevirtual 172, 3) := by decide +kernel
theorem dX12_add_65 : decode cX12_add 65 = .ok (.ifCond .eq 6, 3) := by decide +kernel
theorem dX12_add_68 : decode cX12_add 68 = .ok (.bipush (-2), 2) := by decide +kernel
theorem dX12_add_70 : decode cX12_add 70 = .ok (.ireturn, 1) := by decide +kernel
theorem dX12_add_71 : decode cX12_add 71 = .ok (.aload_n 0, 1) := by decide +kernel
theorem dX12_add_72 : decode cX12_add 72 = .ok (.invokevirtual 242, 3) := by decide +kernel
theorem dX12_add_75 : decode cX12_add 75 = .ok (.pop, 1) := by decide +kernel
theorem dX12_add_76 : decode cX12_add 76 = .ok (.iload_n 3, 1) := by decide +kernel
theorem dX12_add_77 : decode cX12_add 77 = .ok (.ireturn, 1) := by decide +kernel
theorem dX12_want_0 : decode cX12_want 0 = .ok (.aload_n 0, 1) := by decide +kernel
theorem dX12_want_1 : decode cX12_want 1 = .ok (.iconst 0, 1) := by decide +kernel
theorem dX12_want_2 : decode cX12_want 2 = .ok (.putfield 1, 3) := by decide +kernel
theorem dX12_want_5 : decode cX12_want 5 = .ok (.iload_n 1, 1) := by decide +kernel
theorem dX12_want_6 : decode cX12_want 6 = .ok (.i2l, 1) := by decide +kernel
theorem dX12_want_7 : decode cX12_want 7 = .ok (.lconst 0, 1) := by decide +kernel
theorem dX12_want_8 : decode cX12_want 8 = .ok (.aload_n 0, 1) := by decide +kernel
theorem dX12_want_9 : decode cX12_want 9 = .ok (.getfield 14, 3) := by decide +kernel
theorem dX12_want_12 : decode cX12_want 12 = .ok (.iconst 2, 1) := by decide +kernel
theorem dX12_want_13 : decode cX12_want 13 = .ok (.iaload, 1) := by decide +kernel
theorem dX12_want_14 : decode cX12_want 14 = .ok (.i2l, 1) := by decide +kernel
theorem dX12_want_15 : decode cX12_want 15 = .ok (.invokestatic 93, 3) := by decide +kernel
theorem dX12_want_18 : decode cX12_want 18 = .ok (.ifCond .eq 16, 3) := by decide +kernel
theorem dX12_want_21 : decode cX12_want 21 = .ok (.iload_n 1, 1) := by decide +kernel
theorem dX12_want_22 : decode cX12_want 22 = .ok (.iconst 4, 1) := by decide +kernel
theorem dX12_want_23 : decode cX12_want 23 = .ok (.if_icmp .eq 11, 3) := by decide +kernel
theorem dX12_want_26 : decode cX12_want 26 = .ok (.aload_n 0, 1) := by decide +kernel
theorem dX12_want_27 : decode cX12_want 27 = .ok (.iload_n 2, 1) := by decide +kernel
theorem dX12_want_28 : decode cX12_want 28 = .ok (.invokevirtual 269, 3) := by decide +kernel
theorem dX12_want_31 : decode cX12_want 31 = .ok (.ifCond .ne 5, 3) := by decide +kernel
theorem dX12_want_34 : decode cX12_want 34 = .ok (.iconst (-1), 1) := by decide +kernel
theorem dX12_want_35 : decode cX12_want 35 = .ok (.ireturn, 1) := by decide +kernel
theorem dX12_want_36 : decode cX12_want 36 = .ok (.aload_n 0, 1) := by decide +kernel
theorem dX12_want_37 : decode cX12_want 37 = .ok (.invokevirtual 21, 3) := by decide +kernel
theorem dX12_want_40 : decode cX12_want 40 = .ok (.aload_n 0, 1) := by decide +kernel
theorem dX12_want_41 : decode cX12_want 41 = .ok (.getfield 14, 3) := by decide +kernel
theorem dX12_want_44 : decode cX12_want 44 = .ok (.bipush 123, 2) := by decide +kernel
theorem dX12_want_46 : decode cX12_want 46 = .ok (.iload_n 1, 1) := by decide +kernel
theorem dX12_want_47 : decode cX12_want 47 = .ok (.iadd, 1) := by decide +kernel
theorem dX12_want_48 : decode cX12_want 48 = .ok (.iload_n 2, 1) := by decide +kernel
theorem dX12_want_49 : decode cX12_want 49 = .ok (.iastore, 1) := by decide +kernel
theorem dX12_want_50 : decode cX12_want 50 = .ok (.aload_n 0, 1) := by decide +kernel
theorem dX12_want_51 : decode cX12_want 51 = .ok (.getfield 14, 3) := by decide +kernel
theorem dX12_want_54 : decode cX12_want 54 = .ok (.iconst 2, 1) := by decide +kernel
theorem dX12_want_55 : decode cX12_want 55 = .ok (.aload_n 0, 1) := by decide +kernel
theorem dX12_want_56 : decode cX12_want 56 = .ok (.getfield 14, 3) := by decide +kernel
theorem dX12_want_59 : decode cX12_want 59 = .ok (.iconst 2, 1) := by decide +kernel
theorem dX12_want_60 : decode cX12_want 60 = .ok (.iaload, 1) := by decide +kernel
theorem dX12_want_61 : decode cX12_want 61 = .ok (.iload_n 1, 1) := by decide +kernel
theorem dX12_want_62 : decode cX12_want 62 = .ok (.iconst 1, 1) := by decide +kernel
theorem dX12_want_63 : decode cX12_want 63 = .ok (.iadd, 1) := by decide +kernel
theorem dX12_want_64 : decode cX12_want 64 = .ok (.invokestatic 246, 3) := by decide +kernel
theorem dX12_want_67 : decode cX12_want 67 = .ok (.iastore, 1) := by decide +kernel
theorem dX12_want_68 : decode cX12_want 68 = .ok (.aload_n 0, 1) := by decide +kernel
theorem dX12_want_69 : decode cX12_want 69 = .ok (.getfield 14, 3) := by decide +kernel
theorem dX12_want_72 : decode cX12_want 72 = .ok (.iconst 2, 1) := by decide +kernel
theorem dX12_want_73 : decode cX12_want 73 = .ok (.iaload, 1) := by decide +kernel
theorem dX12_want_74 : decode cX12_want 74 = .ok (.ireturn, 1) := by decide +kernel
theorem dX12_squeezes_0 : decode cX12_squeezes 0 = .ok (.aload_n 0, 1) := by decide +kernel
theorem dX12_squeezes_1 : decode cX12_squeezes 1 = .ok (.getfield 25, 3) := by decide +kernel
theorem dX12_squeezes_4 : decode cX12_squeezes 4 = .ok (.invokestatic 230, 3) := by decide +kernel
theorem dX12_squeezes_7 : decode cX12_squeezes 7 = .ok (.aload_n 0, 1) := by decide +kernel
theorem dX12_squeezes_8 : decode cX12_squeezes 8 = .ok (.getfield 25, 3) := by decide +kernel
theorem dX12_squeezes_11 : decode cX12_squeezes 11 = .ok (.iconst 0, 1) := by decide +kernel
theorem dX12_squeezes_12 : decode cX12_squeezes 12 = .ok (.aload_n 0, 1) := by decide +kernel
theorem dX12_squeezes_13 : decode cX12_squeezes 13 = .ok (.getfield 14, 3) := by decide +kernel
theorem dX12_squeezes_16 : decode cX12_squeezes 16 = .ok (.iconst 0, 1) := by decide +kernel
theorem dX12_squeezes_17 : decode cX12_squeezes 17 = .ok (.iaload, 1) := by decide +kernel
theorem dX12_squeezes_18 : decode cX12_squeezes 18 = .ok (.iastore, 1) := by decide +kernel
theorem dX12_squeezes_19 : decode cX12_squeezes 19 = .ok (.aload_n 0, 1) := by decide +kernel
theorem dX12_squeezes_20 : decode cX12_squeezes 20 = .ok (.aload_n 0, 1) := by decide +kernel
theorem dX12_squeezes_21 : decode cX12_squeezes 21 = .ok (.getfield 14, 3) := by decide +kernel
theorem dX12_squeezes_24 : decode cX12_squeezes 24 = .ok (.invokevirtual 43, 3) := by decide +kernel
theorem dX12_squeezes_27 : decode cX12_squeezes 27 = .ok (.aload_n 0, 1) := by decide +kernel
theorem dX12_squeezes_28 : decode cX12_squeezes 28 = .ok (.invokevirtual 257, 3) := by decide +kernel
theorem dX12_squeezes_31 : decode cX12_squeezes 31 = .ok (.iconst 0, 1) := by decide +kernel
theorem dX12_squeezes_32 : decode cX12_squeezes 32 = .ok (.istore_n 2, 1) := by decide +kernel
theorem dX12_squeezes_33 : decode cX12_squeezes 33 = .ok (.iconst 0, 1) := by decide +kernel
theorem dX12_squeezes_34 : decode cX12_squeezes 34 = .ok (.istore_n 3, 1) := by decide +kernel
theorem dX12_squeezes_35 : decode cX12_squeezes 35 = .ok (.iload_n 3, 1) := by decide +kernel
theorem dX12_squeezes_36 : decode cX12_squeezes 36 = .ok (.aload_n 0, 1) := by decide +kernel
theorem dX12_squeezes_37 : decode cX12_squeezes 37 = .ok (.getfield 14, 3) := by decide +kernel
theorem dX12_squeezes_40 : decode cX12_squeezes 40 = .ok (.invokestatic 28, 3) := by decide +kernel
theorem dX12_squeezes_43 : decode cX12_squeezes 43 = .ok (.if_icmp .ge 147, 3) := by decide +kernel
theorem dX12_squeezes_46 : decode cX12_squeezes 46 = .ok (.iload_n 3, 1) := by decide +kernel
theorem dX12_squeezes_47 : decode cX12_squeezes 47 = .ok (.aload_n 0, 1) := by decide +kernel
theorem dX12_squeezes_48 : decode cX12_squeezes 48 = .ok (.getfield 14, 3) := by decide +kernel
theorem dX12_squeezes_51 : decode cX12_squeezes 51 = .ok (.iconst 0, 1) := by decide +kernel
theorem dX12_squeezes_52 : decode cX12_squeezes 52 = .ok (.iaload, 1) := by decide +kernel
theorem dX12_squeezes_53 : decode cX12_squeezes 53 = .ok (.if_icmp .ge 13, 3) := by decide +kernel
theorem dX12_squeezes_56 : decode cX12_squeezes 56 = .ok (.aload_n 0, 1) := by decide +kernel
theorem dX12_squeezes_57 : decode cX12_squeezes 57 = .ok (.getfield 197, 3) := by decide +kernel
theorem dX12_squeezes_60 : decode cX12_squeezes 60 = .ok (.iload_n 3, 1) := by decide +kernel
theorem dX12_squeezes_61 : decode cX12_squeezes 61 = .ok (.iload_n 3, 1) := by decide +kernel
theorem dX12_squeezes_62 : decode cX12_squeezes 62 = .ok (.iastore, 1) := by decide +kernel
theorem dX12_squeezes_63 : decode cX12_squeezes 63 = .ok (.goto 121, 3) := by decide +kernel
theorem dX12_squeezes_66 : decode cX12_squeezes 66 = .ok (.iload_n 1, 1) := by decide +kernel
theorem dX12_squeezes_67 : decode cX12_squeezes 67 = .ok (.ifCond .eq 17, 3) := by decide +kernel
theorem dX12_squeezes_70 : decode cX12_squeezes 70 = .ok (.aload_n 0, 1) := by decide +kernel
theorem dX12_squeezes_71 : decode cX12_squeezes 71 = .ok (.iload_n 3, 1) := by decide +kernel
theorem dX12_squeezes_72 : decode cX12_squeezes 72 = .ok (.aload_n 0, 1) := by decide +kernel
theorem dX12_squeezes_73 : decode cX12_squeezes 73 = .ok (.getfield 14, 3) := by decide +kernel
theorem dX12_squeezes_76 : decode cX12_squeezes 76 = .ok (.iconst 0, 1) := by decide +kernel
theorem dX12_squeezes_77 : decode cX12_squeezes 77 = .ok (.iaload, 1) := by decide +kernel
theorem dX12_squeezes_78 : decode cX12_squeezes 78 = .ok (.invokevirtual 274, 3) := by decide +kernel
theorem dX12_squeezes_81 : decode cX12_squeezes 81 = .ok (.goto 4, 3) := by decide +kernel
theorem dX12_squeezes_84 : decode cX12_squeezes 84 = .ok (.iload_n 3, 1) := by decide +kernel
theorem dX12_squeezes_85 : decode cX12_squeezes 85 = .ok (.istore 4, 2) := by decide +kernel
theorem dX12_squeezes_87 : decode cX12_squeezes 87 = .ok (.iload_n 1, 1) := by decide +kernel
theorem dX12_squeezes_88 : decode cX12_squeezes 88 = .ok (.ifCond .eq 17, 3) := by decide +kernel
theorem dX12_squeezes_91 : decode cX12_squeezes 91 = .ok (.iload 4, 2) := by decide +kernel
theorem dX12_squeezes_93 : decode cX12_squeezes 93 = .ok (.iload_n 3, 1) := by decide +kernel
theorem dX12_squeezes_94 : decode cX12_squeezes 94 = .ok (.if_icmp .ne 7, 3) := by decide +kernel
theorem dX12_squeezes_97 : decode cX12_squeezes 97 = .ok (.iconst 1, 1) := by decide +kernel
theorem dX12_squeezes_98 : decode cX12_squeezes 98 = .ok (.goto 13, 3) := by decide +kernel
theorem dX12_squeezes_101 : decode cX12_squeezes 101 = .ok (.iconst 0, 1) := by decide +kernel
theorem dX12_squeezes_102 : decode cX12_squeezes 102 = .ok (.goto 9, 3) := by decide +kernel
theorem dX12_squeezes_105 : decode cX12_squeezes 105 = .ok (.aload_n 0, 1) := by decide +kernel
theorem dX12_squeezes_106 : decode cX12_squeezes 106 = .ok (.getfield 188, 3) := by decide +kernel
theorem dX12_squeezes_109 : decode cX12_squeezes 109 = .ok (.iload_n 3, 1) := by decide +kernel
theorem dX12_squeezes_110 : decode cX12_squeezes 110 = .ok (.baload, 1) := by decide +kernel
theorem dX12_squeezes_111 : decode cX12_squeezes 111 = .ok (.istore 5, 2) := by decide +kernel
theorem dX12_squeezes_113 : decode cX12_squeezes 113 = .ok (.iload 5, 2) := by decide +kernel
theorem dX12_squeezes_115 : decode cX12_squeezes 115 = .ok (.ifCond .eq 45, 3) := by decide +kernel
theorem dX12_squeezes_118 : decode cX12_squeezes 118 = .ok (.aload_n 0, 1) := by decide +kernel
theorem dX12_squeezes_119 : decode cX12_squeezes 119 = .ok (.getfield 197, 3) := by decide +kernel
theorem dX12_squeezes_122 : decode cX12_squeezes 122 = .ok (.iload_n 3, 1) := by decide +kernel
theorem dX12_squeezes_123 : decode cX12_squeezes 123 = .ok (.aload_n 0, 1) := by decide +kernel
theorem dX12_squeezes_124 : decode cX12_squeezes 124 = .ok (.getfield 25, 3) := by decide +kernel
theorem dX12_squeezes_127 : decode cX12_squeezes 127 = .ok (.aload_n 0, 1) := by decide +kernel
theorem dX12_squeezes_128 : decode cX12_squeezes 128 = .ok (.getfield 197, 3) := by decide +kernel
theorem dX12_squeezes_131 : decode cX12_squeezes 131 = .ok (.aload_n 0, 1) := by decide +kernel
theorem dX12_squeezes_132 : decode cX12_squeezes 132 = .ok (.getfield 14, 3) := by decide +kernel
theorem dX12_squeezes_135 : decode cX12_squeezes 135 = .ok (.iload_n 3, 1) := by decide +kernel
theorem dX12_squeezes_136 : decode cX12_squeezes 136 = .ok (.invokestatic 36, 3) := by decide +kernel
theorem dX12_squeezes_139 : decode cX12_squeezes 139 = .ok (.iaload, 1) := by decide +kernel
theorem dX12_squeezes_140 : decode cX12_squeezes 140 = .ok (.aload_n 0, 1) := by decide +kernel
theorem dX12_squeezes_141 : decode cX12_squeezes 141 = .ok (.getfield 197, 3) := by decide +kernel
theorem dX12_squeezes_144 : decode cX12_squeezes 144 = .ok (.aload_n 0, 1) := by decide +kernel
theorem dX12_squeezes_145 : decode cX12_squeezes 145 = .ok (.getfield 14, 3) := by decide +kernel
theorem dX12_squeezes_148 : decode cX12_squeezes 148 = .ok (.iload_n 3, 1) := by decide +kernel
theorem dX12_squeezes_149 : decode cX12_squeezes 149 = .ok (.invokestatic 40, 3) := by decide +kernel
theorem dX12_squeezes_152 : decode cX12_squeezes 152 = .ok (.iaload, 1) := by decide +kernel
theorem dX12_squeezes_153 : decode cX12_squeezes 153 = .ok (.invokestatic 168, 3) := by decide +kernel
theorem dX12_squeezes_156 : decode cX12_squeezes 156 = .ok (.iastore, 1) := by decide +kernel
theorem dX12_squeezes_157 : decode cX12_squeezes 157 = .ok (.goto 27, 3) := by decide +kernel
theorem dX12_squeezes_160 : decode cX12_squeezes 160 = .ok (.aload_n 0, 1) := by decide +kernel
theorem dX12_squeezes_161 : decode cX12_squeezes 161 = .ok (.getfield 197, 3) := by decide +kernel
theorem dX12_squeezes_164 : decode cX12_squeezes 164 = .ok (.iload_n 3, 1) := by decide +kernel
theorem dX12_squeezes_165 : decode cX12_squeezes 165 = .ok (.iload_n 1, 1) := by decide +kernel
theorem dX12_squeezes_166 : decode cX12_squeezes 166 = .ok (.ifCond .eq 13, 3) := by decide +kernel
theorem dX12_squeezes_169 : decode cX12_squeezes 169 = .ok (.aload_n 0, 1) := by decide +kernel
theorem dX12_squeezes_170 : decode cX12_squeezes 170 = .ok (.getfield 197, 3) := by decide +kernel
theorem dX12_squeezes_173 : decode cX12_squeezes 173 = .ok (.iload 4, 2) := by decide +kernel
theorem dX12_squeezes_175 : decode cX12_squeezes 175 = .ok (.iaload, 1) := by decide +kernel
theorem dX12_squeezes_176 : decode cX12_squeezes 176 = .ok (.goto 4, 3) := by decide +kernel
theorem dX12_squeezes_179 : decode cX12_squeezes 179 = .ok (.iconst (-1), 1) := by decide +kernel
theorem dX12_squeezes_180 : decode cX12_squeezes 180 = .ok (.iastore, 1) := by decide +kernel
theorem dX12_squeezes_181 : decode cX12_squeezes 181 = .ok (.iinc 2 1, 3) := by decide +kernel
theorem dX12_squeezes_184 : decode cX12_squeezes 184 = .ok (.iinc 3 1, 3) := by decide +kernel
theorem dX12_squeezes_187 : decode cX12_squeezes 187 = .ok (.goto (-152), 3) := by decide +kernel
theorem dX12_squeezes_190 : decode cX12_squeezes 190 = .ok (.aload_n 0, 1) := by decide +kernel
theorem dX12_squeezes_191 : decode cX12_squeezes 191 = .ok (.getfield 25, 3) := by decide +kernel
theorem dX12_squeezes_194 : decode cX12_squeezes 194 = .ok (.iconst 2, 1) := by decide +kernel
theorem dX12_squeezes_195 : decode cX12_squeezes 195 = .ok (.aload_n 0, 1) := by decide +kernel
theorem dX12_squeezes_196 : decode cX12_squeezes 196 = .ok (.getfield 14, 3) := by decide +kernel
theorem dX12_squeezes_199 : decode cX12_squeezes 199 = .ok (.iconst 2, 1) := by decide +kernel
theorem dX12_squeezes_200 : decode cX12_squeezes 200 = .ok (.iaload, 1) := by decide +kernel
theorem dX12_squeezes_201 : decode cX12_squeezes 201 = .ok (.iastore, 1) := by decide +kernel
theorem dX12_squeezes_202 : decode cX12_squeezes 202 = .ok (.iconst 0, 1) := by decide +kernel
theorem dX12_squeezes_203 : decode cX12_squeezes 203 = .ok (.istore_n 3, 1) := by decide +kernel
theorem dX12_squeezes_204 : decode cX12_squeezes 204 = .ok (.iload_n 3, 1) := by decide +kernel
theorem dX12_squeezes_205 : decode cX12_squeezes 205 = .ok (.aload_n 0, 1) := by decide +kernel
theorem dX12_squeezes_206 : decode cX12_squeezes 206 = .ok (.getfield 14, 3) := by decide +kernel
theorem dX12_squeezes_209 : decode cX12_squeezes 209 = .ok (.iconst 2, 1) := by decide +kernel
theorem dX12_squeezes_210 : decode cX12_squeezes 210 = .ok (.iaload, 1) := by decide +kernel
theorem dX12_squeezes_211 : decode cX12_squeezes 211 = .ok (.if_icmp .ge 32, 3) := by decide +kernel
theorem dX12_squeezes_214 : decode cX12_squeezes 214 = .ok (.aload_n 0, 1) := by decide +kernel
theorem dX12_squeezes_215 : decode cX12_squeezes 215 = .ok (.getfield 25, 3) := by decide +kernel
theorem dX12_squeezes_218 : decode cX12_squeezes 218 = .ok (.bipush 123, 2) := by decide +kernel
theorem dX12_squeezes_220 : decode cX12_squeezes 220 = .ok (.iload_n 3, 1) := by decide +kernel
theorem dX12_squeezes_221 : decode cX12_squeezes 221 = .ok (.iadd, 1) := by decide +kernel
theorem dX12_squeezes_222 : decode cX12_squeezes 222 = .ok (.aload_n 0, 1) := by decide +kernel
theorem dX12_squeezes_223 : decode cX12_squeezes 223 = .ok (.getfield 197, 3) := by decide +kernel
theorem dX12_squeezes_226 : decode cX12_squeezes 226 = .ok (.aload_n 0, 1) := by decide +kernel
theorem dX12_squeezes_227 : decode cX12_squeezes 227 = .ok (.getfield 14, 3) := by decide +kernel
theorem dX12_squeezes_230 : decode cX12_squeezes 230 = .ok (.bipush 123, 2) := by decide +kernel
theorem dX12_squeezes_232 : decode cX12_squeezes 232 = .ok (.iload_n 3, 1) := by decide +kernel
theorem dX12_squeezes_233 : decode cX12_squeezes 233 = .ok (.iadd, 1) := by decide +kernel
theorem dX12_squeezes_234 : decode cX12_squeezes 234 = .ok (.iaload, 1) := by decide +kernel
theorem dX12_squeezes_235 : decode cX12_squeezes 235 = .ok (.iaload, 1) := by decide +kernel
theorem dX12_squeezes_236 : decode cX12_squeezes 236 = .ok (.iastore, 1) := by decide +kernel
theorem dX12_squeezes_237 : decode cX12_squeezes 237 = .ok (.iinc 3 1, 3) := by decide +kernel
theorem dX12_squeezes_240 : decode cX12_squeezes 240 = .ok (.goto (-36), 3) := by decide +kernel
theorem dX12_squeezes_243 : decode cX12_squeezes 243 = .ok (.iload_n 2, 1) := by decide +kernel
theorem dX12_squeezes_244 : decode cX12_squeezes 244 = .ok (.ifCond .le 8, 3) := by decide +kernel
theorem dX12_squeezes_247 : decode cX12_squeezes 247 = .ok (.aload_n 0, 1) := by decide +kernel
theorem dX12_squeezes_248 : decode cX12_squeezes 248 = .ok (.invokevirtual 242, 3) := by decide +kernel
theorem dX12_squeezes_251 : decode cX12_squeezes 251 = .ok (.pop, 1) := by decide +kernel
theorem dX12_squeezes_252 : decode cX12_squeezes 252 = .ok (.iload_n 2, 1) := by decide +kernel
theorem dX12_squeezes_253 : decode cX12_squeezes 253 = .ok (.ireturn, 1) := by decide +kernel
theorem dX12_prune_0 : decode cX12_prune 0 = .ok (.aload_n 0, 1) := by decide +kernel
theorem dX12_prune_1 : decode cX12_prune 1 = .ok (.iconst 0, 1) := by decide +kernel
theorem dX12_prune_2 : decode cX12_prune 2 = .ok (.putfield 1, 3) := by decide +kernel
theorem dX12_prune_5 : decode cX12_prune 5 = .ok (.aload_n 0, 1) := by decide +kernel
theorem dX12_prune_6 : decode cX12_prune 6 = .ok (.iconst 0, 1) := by decide +kernel
theorem dX12_prune_7 : decode cX12_prune 7 = .ok (.invokevirtual 284, 3) := by decide +kernel
theorem dX12_prune_10 : decode cX12_prune 10 = .ok (.ireturn, 1) := by decide +kernel
theorem dX12_fold_0 : decode cX12_fold 0 = .ok (.aload_n 0, 1) := by decide +kernel
theorem dX12_fold_1 : decode cX12_fold 1 = .ok (.iconst 0, 1) := by decide +kernel
theorem dX12_fold_2 : decode cX12_fold 2 = .ok (.putfield 1, 3) := by decide +kernel
theorem dX12_fold_5 : decode cX12_fold 5 = .ok (.aload_n 0, 1) := by decide +kernel
theorem dX12_fold_6 : decode cX12_fold 6 = .ok (.iconst 1, 1) := by decide +kernel
theorem dX12_fold_7 : decode cX12_fold 7 = .ok (.invokevirtual 284, 3) := by decide +kernel
theorem dX12_fold_10 : decode cX12_fold 10 = .ok (.ireturn, 1) := by decide +kernel
theorem dX12_joins_0 : decode cX12_joins 0 = .ok (.aload_n 0, 1) := by decide +kernel
theorem dX12_joins_1 : decode cX12_joins 1 = .ok (.getfield 200, 3) := by decide +kernel
theorem dX12_joins_4 : decode cX12_joins 4 = .ok (.iload_n 1, 1) := by decide +kernel
theorem dX12_joins_5 : decode cX12_joins 5 = .ok (.iaload, 1) := by decide +kernel
theorem dX12_joins_6 : decode cX12_joins 6 = .ok (.iconst (-1), 1) := by decide +kernel
theorem dX12_joins_7 : decode cX12_joins 7 = .ok (.if_icmp .ne 12, 3) := by decide +kernel
theorem dX12_joins_10 : decode cX12_joins 10 = .ok (.aload_n 0, 1) := by decide +kernel
theorem dX12_joins_11 : decode cX12_joins 11 = .ok (.getfield 200, 3) := by decide +kernel
theorem dX12_joins_14 : decode cX12_joins 14 = .ok (.iload_n 1, 1) := by decide +kernel
theorem dX12_joins_15 : decode cX12_joins 15 = .ok (.iload_n 2, 1) := by decide +kernel
theorem dX12_joins_16 : decode cX12_joins 16 = .ok (.iastore, 1) := by decide +kernel
theorem dX12_joins_17 : decode cX12_joins 17 = .ok (.iconst 1, 1) := by decide +kernel
theorem dX12_joins_18 : decode cX12_joins 18 = .ok (.ireturn, 1) := by decide +kernel
theorem dX12_joins_19 : decode cX12_joins 19 = .ok (.aload_n 0, 1) := by decide +kernel
theorem dX12_joins_20 : decode cX12_joins 20 = .ok (.getfield 25, 3) := by decide +kernel
theorem dX12_joins_23 : decode cX12_joins 23 = .ok (.iconst 1, 1) := by decide +kernel
theorem dX12_joins_24 : decode cX12_joins 24 = .ok (.iaload, 1) := by decide +kernel
theorem dX12_joins_25 : decode cX12_joins 25 = .ok (.bipush 60, 2) := by decide +kernel
theorem dX12_joins_27 : decode cX12_joins 27 = .ok (.if_icmp .ne 5, 3) := by decide +kernel
theorem dX12_joins_30 : decode cX12_joins 30 = .ok (.iconst 0, 1) := by decide +kernel
theorem dX12_joins_31 : decode cX12_joins 31 = .ok (.ireturn, 1) := by decide +kernel
theorem dX12_joins_32 : decode cX12_joins 32 = .ok (.aload_n 0, 1) := by decide +kernel
theorem dX12_joins_33 : decode cX12_joins 33 = .ok (.getfield 200, 3) := by decide +kernel
theorem dX12_joins_36 : decode cX12_joins 36 = .ok (.iload_n 1, 1) := by decide +kernel
theorem dX12_joins_37 : decode cX12_joins 37 = .ok (.aload_n 0, 1) := by decide +kernel
theorem dX12_joins_38 : decode cX12_joins 38 = .ok (.getfield 25, 3) := by decide +kernel
theorem dX12_joins_41 : decode cX12_joins 41 = .ok (.aload_n 0, 1) := by decide +kernel
theorem dX12_joins_42 : decode cX12_joins 42 = .ok (.getfield 200, 3) := by decide +kernel
theorem dX12_joins_45 : decode cX12_joins 45 = .ok (.iload_n 1, 1) := by decide +kernel
theorem dX12_joins_46 : decode cX12_joins 46 = .ok (.iaload, 1) := by decide +kernel
theorem dX12_joins_47 : decode cX12_joins 47 = .ok (.iload_n 2, 1) := by decide +kernel
theorem dX12_joins_48 : decode cX12_joins 48 = .ok (.invokestatic 168, 3) := by decide +kernel
theorem dX12_joins_51 : decode cX12_joins 51 = .ok (.iastore, 1) := by decide +kernel
theorem dX12_joins_52 : decode cX12_joins 52 = .ok (.iconst 1, 1) := by decide +kernel
theorem dX12_joins_53 : decode cX12_joins 53 = .ok (.ireturn, 1) := by decide +kernel
theorem dX12_turns_0 : decode cX12_turns 0 = .ok (.aload_n 0, 1) := by decide +kernel
theorem dX12_turns_1 : decode cX12_turns 1 = .ok (.getfield 25, 3) := by decide +kernel
theorem dX12_turns_4 : decode cX12_turns 4 = .ok (.invokestatic 230, 3) := by decide +kernel
theorem dX12_turns_7 : decode cX12_turns 7 = .ok (.aload_n 0, 1) := by decide +kernel
theorem dX12_turns_8 : decode cX12_turns 8 = .ok (.getfield 25, 3) := by decide +kernel
theorem dX12_turns_11 : decode cX12_turns 11 = .ok (.iconst 0, 1) := by decide +kernel
theorem dX12_turns_12 : decode cX12_turns 12 = .ok (.aload_n 1, 1) := by decide +kernel
theorem dX12_turns_13 : decode cX12_turns 13 = .ok (.iconst 2, 1) := by decide +kernel
theorem dX12_turns_14 : decode cX12_turns 14 = .ok (.iaload, 1) := by decide +kernel
theorem dX12_turns_15 : decode cX12_turns 15 = .ok (.iastore, 1) := by decide +kernel
theorem dX12_turns_16 : decode cX12_turns 16 = .ok (.aload_n 1, 1) := by decide +kernel
theorem dX12_turns_17 : decode cX12_turns 17 = .ok (.iconst 2, 1) := by decide +kernel
theorem dX12_turns_18 : decode cX12_turns 18 = .ok (.iaload, 1) := by decide +kernel
theorem dX12_turns_19 : decode cX12_turns 19 = .ok (.ifCond .le 7, 3) := by decide +kernel
theorem dX12_turns_22 : decode cX12_turns 22 = .ok (.iconst 1, 1) := by decide +kernel
theorem dX12_turns_23 : decode cX12_turns 23 = .ok (.goto 4, 3) := by decide +kernel
theorem dX12_turns_26 : decode cX12_turns 26 = .ok (.iconst 0, 1) := by decide +kernel
theorem dX12_turns_27 : decode cX12_turns 27 = .ok (.istore_n 2, 1) := by decide +kernel
theorem dX12_turns_28 : decode cX12_turns 28 = .ok (.aload_n 1, 1) := by decide +kernel
theorem dX12_turns_29 : decode cX12_turns 29 = .ok (.invokestatic 28, 3) := by decide +kernel
theorem dX12_turns_32 : decode cX12_turns 32 = .ok (.iconst 1, 1) := by decide +kernel
theorem dX12_turns_33 : decode cX12_turns 33 = .ok (.isub, 1) := by decide +kernel
theorem dX12_turns_34 : decode cX12_turns 34 = .ok (.istore_n 3, 1) := by decide +kernel
theorem dX12_turns_35 : decode cX12_turns 35 = .ok (.iload_n 3, 1) := by decide +kernel
theorem dX12_turns_36 : decode cX12_turns 36 = .ok (.ifCond .lt 175, 3) := by decide +kernel
theorem dX12_turns_39 : decode cX12_turns 39 = .ok (.iload_n 2, 1) := by decide +kernel
theorem dX12_turns_40 : decode cX12_turns 40 = .ok (.ifCond .eq 171, 3) := by decide +kernel
theorem dX12_turns_43 : decode cX12_turns 43 = .ok (.aload_n 0, 1) := by decide +kernel
theorem dX12_turns_44 : decode cX12_turns 44 = .ok (.getfield 200, 3) := by decide +kernel
theorem dX12_turns_47 : decode cX12_turns 47 = .ok (.iload_n 3, 1) := by decide +kernel
theorem dX12_turns_48 : decode cX12_turns 48 = .ok (.iconst (-1), 1) := by decide +kernel
theorem dX12_turns_49 : decode cX12_turns 49 = .ok (.iastore, 1) := by decide +kernel
theorem dX12_turns_50 : decode cX12_turns 50 = .ok (.iconst 0, 1) := by decide +kernel
theorem dX12_turns_51 : decode cX12_turns 51 = .ok (.istore 4, 2) := by decide +kernel
theorem dX12_turns_53 : decode cX12_turns 53 = .ok (.iload 4, 2) := by decide +kernel
theorem dX12_turns_55 : decode cX12_turns 55 = .ok (.aload_n 1, 1) := by decide +kernel
theorem dX12_turns_56 : decode cX12_turns 56 = .ok (.iconst 2, 1) := by decide +kernel
theorem dX12_turns_57 : decode cX12_turns 57 = .ok (.iaload, 1) := by decide +kernel
theorem dX12_turns_58 : decode cX12_turns 58 = .ok (.if_icmp .ge 40, 3) := by decide +kernel
theorem dX12_turns_61 : decode cX12_turns 61 = .ok (.iload_n 2, 1) := by decide +kernel
theorem dX12_turns_62 : decode cX12_turns 62 = .ok (.ifCond .eq 28, 3) := by decide +kernel
theorem dX12_turns_65 : decode cX12_turns 65 = .ok (.aload_n 1, 1) := by decide +kernel
theorem dX12_turns_66 : decode cX12_turns 66 = .ok (.bipush 123, 2) := by decide +kernel
theorem dX12_turns_68 : decode cX12_turns 68 = .ok (.iload 4, 2) := by decide +kernel
theorem dX12_turns_70 : decode cX12_turns 70 = .ok (.iadd, 1) := by decide +kernel
theorem dX12_turns_71 : decode cX12_turns 71 = .ok (.iaload, 1) := by decide +kernel
theorem dX12_turns_72 : decode cX12_turns 72 = .ok (.iload_n 3, 1) := by decide +kernel
theorem dX12_turns_73 : decode cX12_turns 73 = .ok (.if_icmp .ne 13, 3) := by decide +kernel
theorem dX12_turns_76 : decode cX12_turns 76 = .ok (.aload_n 0, 1) := by decide +kernel
theorem dX12_turns_77 : decode cX12_turns 77 = .ok (.iload_n 3, 1) := by decide +kernel
theorem dX12_turns_78 : decode cX12_turns 78 = .ok (.iload 4, 2) := by decide +kernel
theorem dX12_turns_80 : decode cX12_turns 80 = .ok (.invokevirtual 288, 3) := by decide +kernel
theorem dX12_turns_83 : decode cX12_turns 83 = .ok (.ifCond .eq 7, 3) := by decide +kernel
theorem dX12_turns_86 : decode cX12_turns 86 = .ok (.iconst 1, 1) := by decide +kernel
theorem dX12_turns_87 : decode cX12_turns 87 = .ok (.goto 4, 3) := by decide +kernel
theorem dX12_turns_90 : decode cX12_turns 90 = .ok (.iconst 0, 1) := by decide +kernel
theorem dX12_turns_91 : decode cX12_turns 91 = .ok (.istore_n 2, 1) := by decide +kernel
theorem dX12_turns_92 : decode cX12_turns 92 = .ok (.iinc 4 1, 3) := by decide +kernel
theorem dX12_turns_95 : decode cX12_turns 95 = .ok (.goto (-42), 3) := by decide +kernel
theorem dX12_turns_98 : decode cX12_turns 98 = .ok (.iload_n 3, 1) := by decide +kernel
theorem dX12_turns_99 : decode cX12_turns 99 = .ok (.iconst 1, 1) := by decide +kernel
theorem dX12_turns_100 : decode cX12_turns 100 = .ok (.iadd, 1) := by decide +kernel
theorem dX12_turns_101 : decode cX12_turns 101 = .ok (.aload_n 1, 1) := by decide +kernel
theorem dX12_turns_102 : decode cX12_turns 102 = .ok (.iconst 0, 1) := by decide +kernel
theorem dX12_turns_103 : decode cX12_turns 103 = .ok (.iaload, 1) := by decide +kernel
theorem dX12_turns_104 : decode cX12_turns 104 = .ok (.invokestatic 246, 3) := by decide +kernel
theorem dX12_turns_107 : decode cX12_turns 107 = .ok (.istore 4, 2) := by decide +kernel
theorem dX12_turns_109 : decode cX12_turns 109 = .ok (.iload 4, 2) := by decide +kernel
theorem dX12_turns_111 : decode cX12_turns 111 = .ok (.aload_n 1, 1) := by decide +kernel
theorem dX12_turns_112 : decode cX12_turns 112 = .ok (.invokestatic 28, 3) := by decide +kernel
theorem dX12_turns_115 : decode cX12_turns 115 = .ok (.if_icmp .ge 90, 3) := by decide +kernel
theorem dX12_turns_118 : decode cX12_turns 118 = .ok (.aload_n 0, 1) := by decide +kernel
theorem dX12_turns_119 : decode cX12_turns 119 = .ok (.getfield 200, 3) := by decide +kernel
theorem dX12_turns_122 : decode cX12_turns 122 = .ok (.iload 4, 2) := by decide +kernel
theorem dX12_turns_124 : decode cX12_turns 124 = .ok (.iaload, 1) := by decide +kernel
theorem dX12_turns_125 : decode cX12_turns 125 = .ok (.iconst (-1), 1) := by decide +kernel
theorem dX12_turns_126 : decode cX12_turns 126 = .ok (.if_icmp .eq 73, 3) := by decide +kernel
theorem dX12_turns_129 : decode cX12_turns 129 = .ok (.iload_n 2, 1) := by decide +kernel
theorem dX12_turns_130 : decode cX12_turns 130 = .ok (.ifCond .eq 32, 3) := by decide +kernel
theorem dX12_turns_133 : decode cX12_turns 133 = .ok (.aload_n 1, 1) := by decide +kernel
theorem dX12_turns_134 : decode cX12_turns 134 = .ok (.iload 4, 2) := by decide +kernel
theorem dX12_turns_136 : decode cX12_turns 136 = .ok (.invokestatic 36, 3) := by decide +kernel
theorem dX12_turns_139 : decode cX12_turns 139 = .ok (.iload_n 3, 1) := by decide +kernel
theorem dX12_turns_140 : decode cX12_turns 140 = .ok (.if_icmp .ne 18, 3) := by decide +kernel
theorem dX12_turns_143 : decode cX12_turns 143 = .ok (.aload_n 0, 1) := by decide +kernel
theorem dX12_turns_144 : decode cX12_turns 144 = .ok (.iload_n 3, 1) := by decide +kernel
theorem dX12_turns_145 : decode cX12_turns 145 = .ok (.aload_n 0, 1) := by decide +kernel
theorem dX12_turns_146 : decode cX12_turns 146 = .ok (.getfield 200, 3) := by decide +kernel
theorem dX12_turns_149 : decode cX12_turns 149 = .ok (.iload 4, 2) := by decide +kernel
theorem dX12_turns_151 : decode cX12_turns 151 = .ok (.iaload, 1) := by decide +kernel
theorem dX12_turns_152 : decode cX12_turns 152 = .ok (.invokevirtual 288, 3) := by decide +kernel
theorem dX12_turns_155 : decode cX12_turns 155 = .ok (.ifCond .eq 7, 3) := by decide +kernel
theorem dX12_turns_158 : decode cX12_turns 158 = .ok (.iconst 1, 1) := by decide +kernel
theorem dX12_turns_159 : decode cX12_turns 159 = .ok (.goto 4, 3) := by decide +kernel
theorem dX12_turns_162 : decode cX12_turns 162 = .ok (.iconst 0, 1) := by decide +kernel
theorem dX12_turns_163 : decode cX12_turns 163 = .ok (.istore_n 2, 1) := by decide +kernel
theorem dX12_turns_164 : decode cX12_turns 164 = .ok (.iload_n 2, 1) := by decide +kernel
theorem dX12_turns_165 : decode cX12_turns 165 = .ok (.ifCond .eq 32, 3) := by decide +kernel
theorem dX12_turns_168 : decode cX12_turns 168 = .ok (.aload_n 1, 1) := by decide +kernel
theorem dX12_turns_169 : decode cX12_turns 169 = .ok (.iload 4, 2) := by decide +kernel
theorem dX12_turns_171 : decode cX12_turns 171 = .ok (.invokestatic 40, 3) := by decide +kernel
theorem dX12_turns_174 : decode cX12_turns 174 = .ok (.iload_n 3, 1) := by decide +kernel
theorem dX12_turns_175 : decode cX12_turns 175 = .ok (.if_icmp .ne 18, 3) := by decide +kernel
theorem dX12_turns_178 : decode cX12_turns 178 = .ok (.aload_n 0, 1) := by decide +kernel
theorem dX12_turns_179 : decode cX12_turns 179 = .ok (.iload_n 3, 1) := by decide +kernel
theorem dX12_turns_180 : decode cX12_turns 180 = .ok (.aload_n 0, 1) := by decide +kernel
theorem dX12_turns_181 : decode cX12_turns 181 = .ok (.getfield 200, 3) := by decide +kernel
theorem dX12_turns_184 : decode cX12_turns 184 = .ok (.iload 4, 2) := by decide +kernel
theorem dX12_turns_186 : decode cX12_turns 186 = .ok (.iaload, 1) := by decide +kernel
theorem dX12_turns_187 : decode cX12_turns 187 = .ok (.invokevirtual 288, 3) := by decide +kernel
theorem dX12_turns_190 : decode cX12_turns 190 = .ok (.ifCond .eq 7, 3) := by decide +kernel
theorem dX12_turns_193 : decode cX12_turns 193 = .ok (.iconst 1, 1) := by decide +kernel
theorem dX12_turns_194 : decode cX12_turns 194 = .ok (.goto 4, 3) := by decide +kernel
theorem dX12_turns_197 : decode cX12_turns 197 = .ok (.iconst 0, 1) := by decide +kernel
theorem dX12_turns_198 : decode cX12_turns 198 = .ok (.istore_n 2, 1) := by decide +kernel
theorem dX12_turns_199 : decode cX12_turns 199 = .ok (.iinc 4 1, 3) := by decide +kernel
theorem dX12_turns_202 : decode cX12_turns 202 = .ok (.goto (-93), 3) := by decide +kernel
theorem dX12_turns_205 : decode cX12_turns 205 = .ok (.iinc 3 (-1), 3) := by decide +kernel
theorem dX12_turns_208 : decode cX12_turns 208 = .ok (.goto (-173), 3) := by decide +kernel
theorem dX12_turns_211 : decode cX12_turns 211 = .ok (.aload_n 0, 1) := by decide +kernel
theorem dX12_turns_212 : decode cX12_turns 212 = .ok (.getfield 25, 3) := by decide +kernel
theorem dX12_turns_215 : decode cX12_turns 215 = .ok (.iconst 2, 1) := by decide +kernel
theorem dX12_turns_216 : decode cX12_turns 216 = .ok (.aload_n 1, 1) := by decide +kernel
theorem dX12_turns_217 : decode cX12_turns 217 = .ok (.iconst 0, 1) := by decide +kernel
theorem dX12_turns_218 : decode cX12_turns 218 = .ok (.iaload, 1) := by decide +kernel
theorem dX12_turns_219 : decode cX12_turns 219 = .ok (.iastore, 1) := by decide +kernel
theorem dX12_turns_220 : decode cX12_turns 220 = .ok (.iconst 0, 1) := by decide +kernel
theorem dX12_turns_221 : decode cX12_turns 221 = .ok (.istore_n 3, 1) := by decide +kernel
theorem dX12_turns_222 : decode cX12_turns 222 = .ok (.iload_n 3, 1) := by decide +kernel
theorem dX12_turns_223 : decode cX12_turns 223 = .ok (.aload_n 1, 1) := by decide +kernel
theorem dX12_turns_224 : decode cX12_turns 224 = .ok (.iconst 0, 1) := by decide +kernel
theorem dX12_turns_225 : decode cX12_turns 225 = .ok (.iaload, 1) := by decide +kernel
theorem dX12_turns_226 : decode cX12_turns 226 = .ok (.if_icmp .ge 44, 3) := by decide +kernel
theorem dX12_turns_229 : decode cX12_turns 229 = .ok (.iload_n 2, 1) := by decide +kernel
theorem dX12_turns_230 : decode cX12_turns 230 = .ok (.ifCond .eq 40, 3) := by decide +kernel
theorem dX12_turns_233 : decode cX12_turns 233 = .ok (.aload_n 0, 1) := by decide +kernel
theorem dX12_turns_234 : decode cX12_turns 234 = .ok (.getfield 200, 3) := by decide +kernel
theorem dX12_turns_237 : decode cX12_turns 237 = .ok (.iload_n 3, 1) := by decide +kernel
theorem dX12_turns_238 : decode cX12_turns 238 = .ok (.iaload, 1) := by decide +kernel
theorem dX12_turns_239 : decode cX12_turns 239 = .ok (.iconst (-1), 1) := by decide +kernel
theorem dX12_turns_240 : decode cX12_turns 240 = .ok (.if_icmp .eq 7, 3) := by decide +kernel
theorem dX12_turns_243 : decode cX12_turns 243 = .ok (.iconst 1, 1) := by decide +kernel
theorem dX12_turns_244 : decode cX12_turns 244 = .ok (.goto 4, 3) := by decide +kernel
theorem dX12_turns_247 : decode cX12_turns 247 = .ok (.iconst 0, 1) := by decide +kernel
theorem dX12_turns_248 : decode cX12_turns 248 = .ok (.istore_n 2, 1) := by decide +kernel
theorem dX12_turns_249 : decode cX12_turns 249 = .ok (.aload_n 0, 1) := by decide +kernel
theorem dX12_turns_250 : decode cX12_turns 250 = .ok (.getfield 25, 3) := by decide +kernel
theorem dX12_turns_253 : decode cX12_turns 253 = .ok (.bipush 123, 2) := by decide +kernel
theorem dX12_turns_255 : decode cX12_turns 255 = .ok (.iload_n 3, 1) := by decide +kernel
theorem dX12_turns_256 : decode cX12_turns 256 = .ok (.iadd, 1) := by decide +kernel
theorem dX12_turns_257 : decode cX12_turns 257 = .ok (.aload_n 0, 1) := by decide +kernel
theorem dX12_turns_258 : decode cX12_turns 258 = .ok (.getfield 200, 3) := by decide +kernel
theorem dX12_turns_261 : decode cX12_turns 261 = .ok (.iload_n 3, 1) := by decide +kernel
theorem dX12_turns_262 : decode cX12_turns 262 = .ok (.iaload, 1) := by decide +kernel
theorem dX12_turns_263 : decode cX12_turns 263 = .ok (.iastore, 1) := by decide +kernel
theorem dX12_turns_264 : decode cX12_turns 264 = .ok (.iinc 3 1, 3) := by decide +kernel
theorem dX12_turns_267 : decode cX12_turns 267 = .ok (.goto (-45), 3) := by decide +kernel
theorem dX12_turns_270 : decode cX12_turns 270 = .ok (.iload_n 2, 1) := by decide +kernel
theorem dX12_turns_271 : decode cX12_turns 271 = .ok (.ireturn, 1) := by decide +kernel
theorem dX12_dual_0 : decode cX12_dual 0 = .ok (.aload_n 0, 1) := by decide +kernel
theorem dX12_dual_1 : decode cX12_dual 1 = .ok (.iconst 0, 1) := by decide +kernel
theorem dX12_dual_2 : decode cX12_dual 2 = .ok (.putfield 1, 3) := by decide +kernel
theorem dX12_dual_5 : decode cX12_dual 5 = .ok (.aload_n 0, 1) := by decide +kernel
theorem dX12_dual_6 : decode cX12_dual 6 = .ok (.aload_n 0, 1) := by decide +kernel
theorem dX12_dual_7 : decode cX12_dual 7 = .ok (.getfield 14, 3) := by decide +kernel
theorem dX12_dual_10 : decode cX12_dual 10 = .ok (.invokevirtual 292, 3) := by decide +kernel
theorem dX12_dual_13 : decode cX12_dual 13 = .ok (.ifCond .eq 10, 3) := by decide +kernel
theorem dX12_dual_16 : decode cX12_dual 16 = .ok (.aload_n 0, 1) := by decide +kernel
theorem dX12_dual_17 : decode cX12_dual 17 = .ok (.invokevirtual 242, 3) := by decide +kernel
theorem dX12_dual_20 : decode cX12_dual 20 = .ok (.goto 4, 3) := by decide +kernel
theorem dX12_dual_23 : decode cX12_dual 23 = .ok (.iconst (-1), 1) := by decide +kernel
theorem dX12_dual_24 : decode cX12_dual 24 = .ok (.ireturn, 1) := by decide +kernel
theorem dX12_dualLong_0 : decode cX12_dualLong 0 = .ok (.aload_n 0, 1) := by decide +kernel
theorem dX12_dualLong_1 : decode cX12_dualLong 1 = .ok (.iconst 0, 1) := by decide +kernel
theorem dX12_dualLong_2 : decode cX12_dualLong 2 = .ok (.putfield 1, 3) := by decide +kernel
theorem dX12_dualLong_5 : decode cX12_dualLong 5 = .ok (.aload_n 0, 1) := by decide +kernel
theorem dX12_dualLong_6 : decode cX12_dualLong 6 = .ok (.aload_n 0, 1) := by decide +kernel
theorem dX12_dualLong_7 : decode cX12_dualLong 7 = .ok (.getfield 14, 3) := by decide +kernel
theorem dX12_dualLong_10 : decode cX12_dualLong 10 = .ok (.invokevirtual 292, 3) := by decide +kernel
theorem dX12_dualLong_13 : decode cX12_dualLong 13 = .ok (.ifCond .eq 12, 3) := by decide +kernel
theorem dX12_dualLong_16 : decode cX12_dualLong 16 = .ok (.aload_n 0, 1) := by decide +kernel
theorem dX12_dualLong_17 : decode cX12_dualLong 17 = .ok (.getfield 25, 3) := by decide +kernel
theorem dX12_dualLong_20 : decode cX12_dualLong 20 = .ok (.iconst 1, 1) := by decide +kernel
theorem dX12_dualLong_21 : decode cX12_dualLong 21 = .ok (.iaload, 1) := by decide +kernel
theorem dX12_dualLong_22 : decode cX12_dualLong 22 = .ok (.goto 4, 3) := by decide +kernel
theorem dX12_dualLong_25 : decode cX12_dualLong 25 = .ok (.iconst (-1), 1) := by decide +kernel
theorem dX12_dualLong_26 : decode cX12_dualLong 26 = .ok (.ireturn, 1) := by decide +kernel
theorem dX12_ofBoth_0 : decode cX12_ofBoth 0 = .ok (.aload_n 0, 1) := by decide +kernel
theorem dX12_ofBoth_1 : decode cX12_ofBoth 1 = .ok (.getfield 209, 3) := by decide +kernel
theorem dX12_ofBoth_4 : decode cX12_ofBoth 4 = .ok (.iload_n 1, 1) := by decide +kernel
theorem dX12_ofBoth_5 : decode cX12_ofBoth 5 = .ok (.iload_n 2, 1) := by decide +kernel
theorem dX12_ofBoth_6 : decode cX12_ofBoth 6 = .ok (.iload_n 3, 1) := by decide +kernel
theorem dX12_ofBoth_7 : decode cX12_ofBoth 7 = .ok (.invokestatic 246, 3) := by decide +kernel
theorem dX12_ofBoth_10 : decode cX12_ofBoth 10 = .ok (.iastore, 1) := by decide +kernel
theorem dX12_ofBoth_11 : decode cX12_ofBoth 11 = .ok (.aload_n 0, 1) := by decide +kernel
theorem dX12_ofBoth_12 : decode cX12_ofBoth 12 = .ok (.getfield 212, 3) := by decide +kernel
theorem dX12_ofBoth_15 : decode cX12_ofBoth 15 = .ok (.iload_n 1, 1) := by decide +kernel
theorem dX12_ofBoth_16 : decode cX12_ofBoth 16 = .ok (.iload_n 2, 1) := by decide +kernel
theorem dX12_ofBoth_17 : decode cX12_ofBoth 17 = .ok (.iload_n 3, 1) := by decide +kernel
theorem dX12_ofBoth_18 : decode cX12_ofBoth 18 = .ok (.invokestatic 295, 3) := by decide +kernel
theorem dX12_ofBoth_21 : decode cX12_ofBoth 21 = .ok (.iastore, 1) := by decide +kernel
theorem dX12_ofBoth_22 : decode cX12_ofBoth 22 = .ok (.aload_n 0, 1) := by decide +kernel
theorem dX12_ofBoth_23 : decode cX12_ofBoth 23 = .ok (.getfield 206, 3) := by decide +kernel
theorem dX12_ofBoth_26 : decode cX12_ofBoth 26 = .ok (.iload_n 2, 1) := by decide +kernel
theorem dX12_ofBoth_27 : decode cX12_ofBoth 27 = .ok (.iconst 1, 1) := by decide +kernel
theorem dX12_ofBoth_28 : decode cX12_ofBoth 28 = .ok (.bastore, 1) := by decide +kernel
theorem dX12_ofBoth_29 : decode cX12_ofBoth 29 = .ok (.aload_n 0, 1) := by decide +kernel
theorem dX12_ofBoth_30 : decode cX12_ofBoth 30 = .ok (.getfield 206, 3) := by decide +kernel
theorem dX12_ofBoth_33 : decode cX12_ofBoth 33 = .ok (.iload_n 3, 1) := by decide +kernel
theorem dX12_ofBoth_34 : decode cX12_ofBoth 34 = .ok (.iconst 1, 1) := by decide +kernel
theorem dX12_ofBoth_35 : decode cX12_ofBoth 35 = .ok (.bastore, 1) := by decide +kernel
theorem dX12_ofBoth_36 : decode cX12_ofBoth 36 = .ok (.return_, 1) := by decide +kernel
theorem dX12_sequenced_0 : decode cX12_sequenced 0 = .ok (.iload_n 1, 1) := by decide +kernel
theorem dX12_sequenced_1 : decode cX12_sequenced 1 = .ok (.i2l, 1) := by decide +kernel
theorem dX12_sequenced_2 : decode cX12_sequenced 2 = .ok (.lconst 1, 1) := by decide +kernel
theorem dX12_sequenced_3 : decode cX12_sequenced 3 = .ok (.ldc2_w 298, 3) := by decide +kernel
theorem dX12_sequenced_6 : decode cX12_sequenced 6 = .ok (.invokestatic 93, 3) := by decide +kernel
theorem dX12_sequenced_9 : decode cX12_sequenced 9 = .ok (.ifCond .ne 5, 3) := by decide +kernel
theorem dX12_sequenced_12 : decode cX12_sequenced 12 = .ok (.iconst 0, 1) := by decide +kernel
theorem dX12_sequenced_13 : decode cX12_sequenced 13 = .ok (.ireturn, 1) := by decide +kernel
theorem dX12_sequenced_14 : decode cX12_sequenced 14 = .ok (.iconst 0, 1) := by decide +kernel
theorem dX12_sequenced_15 : decode cX12_sequenced 15 = .ok (.istore 6, 2) := by decide +kernel
theorem dX12_sequenced_17 : decode cX12_sequenced 17 = .ok (.iload 6, 2) := by decide +kernel
theorem dX12_sequenced_19 : decode cX12_sequenced 19 = .ok (.iload_n 1, 1) := by decide +kernel
theorem dX12_sequenced_20 : decode cX12_sequenced 20 = .ok (.if_icmp .ge 58, 3) := by decide +kernel
theorem dX12_sequenced_23 : decode cX12_sequenced 23 = .ok (.iload 6, 2) := by decide +kernel
theorem dX12_sequenced_25 : decode cX12_sequenced 25 = .ok (.ifCond .ne 7, 3) := by decide +kernel
theorem dX12_sequenced_28 : decode cX12_sequenced 28 = .ok (.iload_n 2, 1) := by decide +kernel
theorem dX12_sequenced_29 : decode cX12_sequenced 29 = .ok (.goto 26, 3) := by decide +kernel
theorem dX12_sequenced_32 : decode cX12_sequenced 32 = .ok (.iload 6, 2) := by decide +kernel
theorem dX12_sequenced_34 : decode cX12_sequenced 34 = .ok (.iconst 1, 1) := by decide +kernel
theorem dX12_sequenced_35 : decode cX12_sequenced 35 = .ok (.if_icmp .ne 7, 3) := by decide +kernel
theorem dX12_sequenced_38 : decode cX12_sequenced 38 = .ok (.iload_n 3, 1) := by decide +kernel
theorem dX12_sequenced_39 : decode cX12_sequenced 39 = .ok (.goto 16, 3) := by decide +kernel
theorem dX12_sequenced_42 : decode cX12_sequenced 42 = .ok (.iload 6, 2) := by decide +kernel
theorem dX12_sequenced_44 : decode cX12_sequenced 44 = .ok (.iconst 2, 1) := by decide +kernel
theorem dX12_sequenced_45 : decode cX12_sequenced 45 = .ok (.if_icmp .ne 8, 3) := by decide +kernel
theorem dX12_sequenced_48 : decode cX12_sequenced 48 = .ok (.iload 4, 2) := by decide +kernel
theorem dX12_sequenced_50 : decode cX12_sequenced 50 = .ok (.goto 5, 3) := by decide +kernel
theorem dX12_sequenced_53 : decode cX12_sequenced 53 = .ok (.iload 5, 2) := by decide +kernel
theorem dX12_sequenced_55 : decode cX12_sequenced 55 = .ok (.istore 7, 2) := by decide +kernel
theorem dX12_sequenced_57 : decode cX12_sequenced 57 = .ok (.iload 7, 2) := by decide +kernel
theorem dX12_sequenced_59 : decode cX12_sequenced 59 = .ok (.i2l, 1) := by decide +kernel
theorem dX12_sequenced_60 : decode cX12_sequenced 60 = .ok (.lconst 1, 1) := by decide +kernel
theorem dX12_sequenced_61 : decode cX12_sequenced 61 = .ok (.ldc2_w 153, 3) := by decide +kernel
theorem dX12_sequenced_64 : decode cX12_sequenced 64 = .ok (.invokestatic 93, 3) := by decide +kernel
theorem dX12_sequenced_67 : decode cX12_sequenced 67 = .ok (.ifCond .ne 5, 3) := by decide +kernel
theorem dX12_sequenced_70 : decode cX12_sequenced 70 = .ok (.iconst 0, 1) := by decide +kernel
theorem dX12_sequenced_71 : decode cX12_sequenced 71 = .ok (.ireturn, 1) := by decide +kernel
theorem dX12_sequenced_72 : decode cX12_sequenced 72 = .ok (.iinc 6 1, 3) := by decide +kernel
theorem dX12_sequenced_75 : decode cX12_sequenced 75 = .ok (.goto (-58), 3) := by decide +kernel
theorem dX12_sequenced_78 : decode cX12_sequenced 78 = .ok (.iconst 0, 1) := by decide +kernel
theorem dX12_sequenced_79 : decode cX12_sequenced 79 = .ok (.istore 6, 2) := by decide +kernel
theorem dX12_sequenced_81 : decode cX12_sequenced 81 = .ok (.iload 6, 2) := by decide +kernel
theorem dX12_sequenced_83 : decode cX12_sequenced 83 = .ok (.sipush 9999, 3) := by decide +kernel
theorem dX12_sequenced_86 : decode cX12_sequenced 86 = .ok (.if_icmp .gt 17, 3) := by decide +kernel
theorem dX12_sequenced_89 : decode cX12_sequenced 89 = .ok (.aload_n 0, 1) := by decide +kernel
theorem dX12_sequenced_90 : decode cX12_sequenced 90 = .ok (.getfield 206, 3) := by decide +kernel
theorem dX12_sequenced_93 : decode cX12_sequenced 93 = .ok (.iload 6, 2) := by decide +kernel
theorem dX12_sequenced_95 : decode cX12_sequenced 95 = .ok (.iconst 0, 1) := by decide +kernel
theorem dX12_sequenced_96 : decode cX12_sequenced 96 = .ok (.bastore, 1) := by decide +kernel
theorem dX12_sequenced_97 : decode cX12_sequenced 97 = .ok (.iinc 6 1, 3) := by decide +kernel
theorem dX12_sequenced_100 : decode cX12_sequenced 100 = .ok (.goto (-19), 3) := by decide +kernel
theorem dX12_sequenced_103 : decode cX12_sequenced 103 = .ok (.aload_n 0, 1) := by decide +kernel
theorem dX12_sequenced_104 : decode cX12_sequenced 104 = .ok (.getfield 206, 3) := by decide +kernel
theorem dX12_sequenced_107 : decode cX12_sequenced 107 = .ok (.iconst 1, 1) := by decide +kernel
theorem dX12_sequenced_108 : decode cX12_sequenced 108 = .ok (.iconst 1, 1) := by decide +kernel
theorem dX12_sequenced_109 : decode cX12_sequenced 109 = .ok (.bastore, 1) := by decide +kernel
theorem dX12_sequenced_110 : decode cX12_sequenced 110 = .ok (.iconst 0, 1) := by decide +kernel
theorem dX12_sequenced_111 : decode cX12_sequenced 111 = .ok (.istore 6, 2) := by decide +kernel
theorem dX12_sequenced_113 : decode cX12_sequenced 113 = .ok (.iload 6, 2) := by decide +kernel
theorem dX12_sequenced_115 : decode cX12_sequenced 115 = .ok (.iload_n 1, 1) := by decide +kernel
theorem dX12_sequenced_116 : decode cX12_sequenced 116 = .ok (.if_icmp .ge 47, 3) := by decide +kernel
theorem dX12_sequenced_119 : decode cX12_sequenced 119 = .ok (.aload_n 0, 1) := by decide +kernel
theorem dX12_sequenced_120 : decode cX12_sequenced 120 = .ok (.getfield 206, 3) := by decide +kernel
theorem dX12_sequenced_123 : decode cX12_sequenced 123 = .ok (.iload 6, 2) := by decide +kernel
theorem dX12_sequenced_125 : decode cX12_sequenced 125 = .ok (.ifCond .ne 7, 3) := by decide +kernel
theorem dX12_sequenced_128 : decode cX12_sequenced 128 = .ok (.iload_n 2, 1) := by decide +kernel
theorem dX12_sequenced_129 : decode cX12_sequenced 129 = .ok (.goto 26, 3) := by decide +kernel
theorem dX12_sequenced_132 : decode cX12_sequenced 132 = .ok (.iload 6, 2) := by decide +kernel
theorem dX12_sequenced_134 : decode cX12_sequenced 134 = .ok (.iconst 1, 1) := by decide +kernel
theorem dX12_sequenced_135 : decode cX12_sequenced 135 = .ok (.if_icmp .ne 7, 3) := by decide +kernel
theorem dX12_sequenced_138 : decode cX12_sequenced 138 = .ok (.iload_n 3, 1) := by decide +kernel
theorem dX12_sequenced_139 : decode cX12_sequenced 139 = .ok (.goto 16, 3) := by decide +kernel
theorem dX12_sequenced_142 : decode cX12_sequenced 142 = .ok (.iload 6, 2) := by decide +kernel
theorem dX12_sequenced_144 : decode cX12_sequenced 144 = .ok (.iconst 2, 1) := by decide +kernel
theorem dX12_sequenced_145 : decode cX12_sequenced 145 = .ok (.if_icmp .ne 8, 3) := by decide +kernel
theorem dX12_sequenced_148 : decode cX12_sequenced 148 = .ok (.iload 4, 2) := by decide +kernel
theorem dX12_sequenced_150 : decode cX12_sequenced 150 = .ok (.goto 5, 3) := by decide +kernel
theorem dX12_sequenced_153 : decode cX12_sequenced 153 = .ok (.iload 5, 2) := by decide +kernel
theorem dX12_sequenced_155 : decode cX12_sequenced 155 = .ok (.iconst 1, 1) := by decide +kernel
theorem dX12_sequenced_156 : decode cX12_sequenced 156 = .ok (.bastore, 1) := by decide +kernel
theorem dX12_sequenced_157 : decode cX12_sequenced 157 = .ok (.iinc 6 1, 3) := by decide +kernel
theorem dX12_sequenced_160 : decode cX12_sequenced 160 = .ok (.goto (-47), 3) := by decide +kernel
theorem dX12_sequenced_163 : decode cX12_sequenced 163 = .ok (.iconst 0, 1) := by decide +kernel
theorem dX12_sequenced_164 : decode cX12_sequenced 164 = .ok (.istore 6, 2) := by decide +kernel
theorem dX12_sequenced_166 : decode cX12_sequenced 166 = .ok (.sipush 9999, 3) := by decide +kernel
theorem dX12_sequenced_169 : decode cX12_sequenced 169 = .ok (.istore 7, 2) := by decide +kernel
theorem dX12_sequenced_171 : decode cX12_sequenced 171 = .ok (.iload 7, 2) := by decide +kernel
theorem dX12_sequenced_173 : decode cX12_sequenced 173 = .ok (.iconst 1, 1) := by decide +kernel
theorem dX12_sequenced_174 : decode cX12_sequenced 174 = .ok (.if_icmp .le 107, 3) := by decide +kernel
theorem dX12_sequenced_177 : decode cX12_sequenced 177 = .ok (.aload_n 0, 1) := by decide +kernel
theorem dX12_sequenced_178 : decode cX12_sequenced 178 = .ok (.getfield 206, 3) := by decide +kernel
theorem dX12_sequenced_181 : decode cX12_sequenced 181 = .ok (.iload 7, 2) := by decide +kernel
theorem dX12_sequenced_183 : decode cX12_sequenced 183 = .ok (.baload, 1) := by decide +kernel
theorem dX12_sequenced_184 : decode cX12_sequenced 184 = .ok (.ifCond .ne 6, 3) := by decide +kernel
theorem dX12_sequenced_187 : decode cX12_sequenced 187 = .ok (.goto 88, 3) := by decide +kernel
theorem dX12_sequenced_190 : decode cX12_sequenced 190 = .ok (.iinc 6 1, 3) := by decide +kernel
theorem dX12_sequenced_193 : decode cX12_sequenced 193 = .ok (.iload 7, 2) := by decide +kernel
theorem dX12_sequenced_195 : decode cX12_sequenced 195 = .ok (.iconst 1, 1) := by decide +kernel
theorem dX12_sequenced_196 : decode cX12_sequenced 196 = .ok (.isub, 1) := by decide +kernel
theorem dX12_sequenced_197 : decode cX12_sequenced 197 = .ok (.istore 8, 2) := by decide +kernel
theorem dX12_sequenced_199 : decode cX12_sequenced 199 = .ok (.aload_n 0, 1) := by decide +kernel
theorem dX12_sequenced_200 : decode cX12_sequenced 200 = .ok (.getfield 206, 3) := by decide +kernel
theorem dX12_sequenced_203 : decode cX12_sequenced 203 = .ok (.iload 8, 2) := by decide +kernel
theorem dX12_sequenced_205 : decode cX12_sequenced 205 = .ok (.baload, 1) := by decide +kernel
theorem dX12_sequenced_206 : decode cX12_sequenced 206 = .ok (.ifCond .ne 9, 3) := by decide +kernel
theorem dX12_sequenced_209 : decode cX12_sequenced 209 = .ok (.iinc 8 (-1), 3) := by decide +kernel
theorem dX12_sequenced_212 : decode cX12_sequenced 212 = .ok (.goto (-13), 3) := by decide +kernel
theorem dX12_sequenced_215 : decode cX12_sequenced 215 = .ok (.iload 7, 2) := by decide +kernel
theorem dX12_sequenced_217 : decode cX12_sequenced 217 = .ok (.iconst 2, 1) := by decide +kernel
theorem dX12_sequenced_218 : decode cX12_sequenced 218 = .ok (.iload 8, 2) := by decide +kernel
theorem dX12_sequenced_220 : decode cX12_sequenced 220 = .ok (.imul, 1) := by decide +kernel
theorem dX12_sequenced_221 : decode cX12_sequenced 221 = .ok (.if_icmp .ge 19, 3) := by decide +kernel
theorem dX12_sequenced_224 : decode cX12_sequenced 224 = .ok (.aload_n 0, 1) := by decide +kernel
theorem dX12_sequenced_225 : decode cX12_sequenced 225 = .ok (.iload 7, 2) := by decide +kernel
theorem dX12_sequenced_227 : decode cX12_sequenced 227 = .ok (.iload 8, 2) := by decide +kernel
theorem dX12_sequenced_229 : decode cX12_sequenced 229 = .ok (.iload 7, 2) := by decide +kernel
theorem dX12_sequenced_231 : decode cX12_sequenced 231 = .ok (.iload 8, 2) := by decide +kernel
theorem dX12_sequenced_233 : decode cX12_sequenced 233 = .ok (.isub, 1) := by decide +kernel
theorem dX12_sequenced_234 : decode cX12_sequenced 234 = .ok (.invokevirtual 300, 3) := by decide +kernel
theorem dX12_sequenced_237 : decode cX12_sequenced 237 = .ok (.goto 38, 3) := by decide +kernel
theorem dX12_sequenced_240 : decode cX12_sequenced 240 = .ok (.iload 7, 2) := by decide +kernel
theorem dX12_sequenced_242 : decode cX12_sequenced 242 = .ok (.iconst 2, 1) := by decide +kernel
theorem dX12_sequenced_243 : decode cX12_sequenced 243 = .ok (.irem, 1) := by decide +kernel
theorem dX12_sequenced_244 : decode cX12_sequenced 244 = .ok (.ifCond .ne 20, 3) := by decide +kernel
theorem dX12_sequenced_247 : decode cX12_sequenced 247 = .ok (.aload_n 0, 1) := by decide +kernel
theorem dX12_sequenced_248 : decode cX12_sequenced 248 = .ok (.iload 7, 2) := by decide +kernel
theorem dX12_sequenced_250 : decode cX12_sequenced 250 = .ok (.iload 7, 2) := by decide +kernel
theorem dX12_sequenced_252 : decode cX12_sequenced 252 = .ok (.iconst 2, 1) := by decide +kernel
theorem dX12_sequenced_253 : decode cX12_sequenced 253 = .ok (.idiv, 1) := by decide +kernel
theorem dX12_sequenced_254 : decode cX12_sequenced 254 = .ok (.iload 7, 2) := by decide +kernel
theorem dX12_sequenced_256 : decode cX12_sequenced 256 = .ok (.iconst 2, 1) := by decide +kernel
theorem dX12_sequenced_257 : decode cX12_sequenced 257 = .ok (.idiv, 1) := by decide +kernel
theorem dX12_sequenced_258 : decode cX12_sequenced 258 = .ok (.invokevirtual 300, 3) := by decide +kernel
theorem dX12_sequenced_261 : decode cX12_sequenced 261 = .ok (.goto 14, 3) := by decide +kernel
theorem dX12_sequenced_264 : decode cX12_sequenced 264 = .ok (.aload_n 0, 1) := by decide +kernel
theorem dX12_sequenced_265 : decode cX12_sequenced 265 = .ok (.iload 7, 2) := by decide +kernel
theorem dX12_sequenced_267 : decode cX12_sequenced 267 = .ok (.iload 7, 2) := by decide +kernel
theorem dX12_sequenced_269 : decode cX12_sequenced 269 = .ok (.iconst 1, 1) := by decide +kernel
theorem dX12_sequenced_270 : decode cX12_sequenced 270 = .ok (.isub, 1) := by decide +kernel
theorem dX12_sequenced_271 : decode cX12_sequenced 271 = .ok (.iconst 1, 1) := by decide +kernel
theorem dX12_sequenced_272 : decode cX12_sequenced 272 = .ok (.invokevirtual 300, 3) := by decide +kernel
theorem dX12_sequenced_275 : decode cX12_sequenced 275 = .ok (.iinc 7 (-1), 3) := by decide +kernel
theorem dX12_sequenced_278 : decode cX12_sequenced 278 = .ok (.goto (-107), 3) := by decide +kernel
theorem dX12_sequenced_281 : decode cX12_sequenced 281 = .ok (.iload 6, 2) := by decide +kernel
theorem dX12_sequenced_283 : decode cX12_sequenced 283 = .ok (.bipush 60, 2) := by decide +kernel
theorem dX12_sequenced_285 : decode cX12_sequenced 285 = .ok (.if_icmp .le 5, 3) := by decide +kernel
theorem dX12_sequenced_288 : decode cX12_sequenced 288 = .ok (.iconst 0, 1) := by decide +kernel
theorem dX12_sequenced_289 : decode cX12_sequenced 289 = .ok (.ireturn, 1) := by decide +kernel
theorem dX12_sequenced_290 : decode cX12_sequenced 290 = .ok (.aload_n 0, 1) := by decide +kernel
theorem dX12_sequenced_291 : decode cX12_sequenced 291 = .ok (.getfield 25, 3) := by decide +kernel
theorem dX12_sequenced_294 : decode cX12_sequenced 294 = .ok (.invokestatic 230, 3) := by decide +kernel
theorem dX12_sequenced_297 : decode cX12_sequenced 297 = .ok (.aload_n 0, 1) := by decide +kernel
theorem dX12_sequenced_298 : decode cX12_sequenced 298 = .ok (.getfield 25, 3) := by decide +kernel
theorem dX12_sequenced_301 : decode cX12_sequenced 301 = .ok (.iconst 0, 1) := by decide +kernel
theorem dX12_sequenced_302 : decode cX12_sequenced 302 = .ok (.iconst 1, 1) := by decide +kernel
theorem dX12_sequenced_303 : decode cX12_sequenced 303 = .ok (.iastore, 1) := by decide +kernel
theorem dX12_sequenced_304 : decode cX12_sequenced 304 = .ok (.aload_n 0, 1) := by decide +kernel
theorem dX12_sequenced_305 : decode cX12_sequenced 305 = .ok (.getfield 215, 3) := by decide +kernel
theorem dX12_sequenced_308 : decode cX12_sequenced 308 = .ok (.iconst 1, 1) := by decide +kernel
theorem dX12_sequenced_309 : decode cX12_sequenced 309 = .ok (.iconst 0, 1) := by decide +kernel
theorem dX12_sequenced_310 : decode cX12_sequenced 310 = .ok (.iastore, 1) := by decide +kernel
theorem dX12_sequenced_311 : decode cX12_sequenced 311 = .ok (.iconst 2, 1) := by decide +kernel
theorem dX12_sequenced_312 : decode cX12_sequenced 312 = .ok (.istore 7, 2) := by decide +kernel
theorem dX12_sequenced_314 : decode cX12_sequenced 314 = .ok (.iload 7, 2) := by decide +kernel
theorem dX12_sequenced_316 : decode cX12_sequenced 316 = .ok (.sipush 9999, 3) := by decide +kernel
theorem dX12_sequenced_319 : decode cX12_sequenced 319 = .ok (.if_icmp .gt 57, 3) := by decide +kernel
theorem dX12_sequenced_322 : decode cX12_sequenced 322 = .ok (.aload_n 0, 1) := by decide +kernel
theorem dX12_sequenced_323 : decode cX12_sequenced 323 = .ok (.getfield 206, 3) := by decide +kernel
theorem dX12_sequenced_326 : decode cX12_sequenced 326 = .ok (.iload 7, 2) := by decide +kernel
theorem dX12_sequenced_328 : decode cX12_sequenced 328 = .ok (.baload, 1) := by decide +kernel
theorem dX12_sequenced_329 : decode cX12_sequenced 329 = .ok (.ifCond .eq 41, 3) := by decide +kernel
theorem dX12_sequenced_332 : decode cX12_sequenced 332 = .ok (.aload_n 0, 1) := by decide +kernel
theorem dX12_sequenced_333 : decode cX12_sequenced 333 = .ok (.getfield 215, 3) := by decide +kernel
theorem dX12_sequenced_336 : decode cX12_sequenced 336 = .ok (.iload 7, 2) := by decide +kernel
theorem dX12_sequenced_338 : decode cX12_sequenced 338 = .ok (.aload_n 0, 1) := by decide +kernel
theorem dX12_sequenced_339 : decode cX12_sequenced 339 = .ok (.getfield 25, 3) := by decide +kernel
theorem dX12_sequenced_342 : decode cX12_sequenced 342 = .ok (.aload_n 0, 1) := by decide +kernel
theorem dX12_sequenced_343 : decode cX12_sequenced 343 = .ok (.getfield 215, 3) := by decide +kernel
theorem dX12_sequenced_346 : decode cX12_sequenced 346 = .ok (.aload_n 0, 1) := by decide +kernel
theorem dX12_sequenced_347 : decode cX12_sequenced 347 = .ok (.getfield 209, 3) := by decide +kernel
theorem dX12_sequenced_350 : decode cX12_sequenced 350 = .ok (.iload 7, 2) := by decide +kernel
theorem dX12_sequenced_352 : decode cX12_sequenced 352 = .ok (.iaload, 1) := by decide +kernel
theorem dX12_sequenced_353 : decode cX12_sequenced 353 = .ok (.iaload, 1) := by decide +kernel
theorem dX12_sequenced_354 : decode cX12_sequenced 354 = .ok (.aload_n 0, 1) := by decide +kernel
theorem dX12_sequenced_355 : decode cX12_sequenced 355 = .ok (.getfield 215, 3) := by decide +kernel
theorem dX12_sequenced_358 : decode cX12_sequenced 358 = .ok (.aload_n 0, 1) := by decide +kernel
theorem dX12_sequenced_359 : decode cX12_sequenced 359 = .ok (.getfield 212, 3) := by decide +kernel
theorem dX12_sequenced_362 : decode cX12_sequenced 362 = .ok (.iload 7, 2) := by decide +kernel
theorem dX12_sequenced_364 : decode cX12_sequenced 364 = .ok (.iaload, 1) := by decide +kernel
theorem dX12_sequenced_365 : decode cX12_sequenced 365 = .ok (.iaload, 1) := by decide +kernel
theorem dX12_sequenced_366 : decode cX12_sequenced 366 = .ok (.invokestatic 168, 3) := by decide +kernel
theorem dX12_sequenced_369 : decode cX12_sequenced 369 = .ok (.iastore, 1) := by decide +kernel
theorem dX12_sequenced_370 : decode cX12_sequenced 370 = .ok (.iinc 7 1, 3) := by decide +kernel
theorem dX12_sequenced_373 : decode cX12_sequenced 373 = .ok (.goto (-59), 3) := by decide +kernel
theorem dX12_sequenced_376 : decode cX12_sequenced 376 = .ok (.aload_n 0, 1) := by decide +kernel
theorem dX12_sequenced_377 : decode cX12_sequenced 377 = .ok (.getfield 25, 3) := by decide +kernel
theorem dX12_sequenced_380 : decode cX12_sequenced 380 = .ok (.iconst 2, 1) := by decide +kernel
theorem dX12_sequenced_381 : decode cX12_sequenced 381 = .ok (.iload_n 1, 1) := by decide +kernel
theorem dX12_sequenced_382 : decode cX12_sequenced 382 = .ok (.iastore, 1) := by decide +kernel
theorem dX12_sequenced_383 : decode cX12_sequenced 383 = .ok (.iconst 0, 1) := by decide +kernel
theorem dX12_sequenced_384 : decode cX12_sequenced 384 = .ok (.istore 7, 2) := by decide +kernel
theorem dX12_sequenced_386 : decode cX12_sequenced 386 = .ok (.iload 7, 2) := by decide +kernel
theorem dX12_sequenced_388 : decode cX12_sequenced 388 = .ok (.iload_n 1, 1) := by decide +kernel
theorem dX12_sequenced_389 : decode cX12_sequenced 389 = .ok (.if_icmp .ge 56, 3) := by decide +kernel
theorem dX12_sequenced_392 : decode cX12_sequenced 392 = .ok (.aload_n 0, 1) := by decide +kernel
theorem dX12_sequenced_393 : decode cX12_sequenced 393 = .ok (.getfield 25, 3) := by decide +kernel
theorem dX12_sequenced_396 : decode cX12_sequenced 396 = .ok (.bipush 123, 2) := by decide +kernel
theorem dX12_sequenced_398 : decode cX12_sequenced 398 = .ok (.iload 7, 2) := by decide +kernel
theorem dX12_sequenced_400 : decode cX12_sequenced 400 = .ok (.iadd, 1) := by decide +kernel
theorem dX12_sequenced_401 : decode cX12_sequenced 401 = .ok (.aload_n 0, 1) := by decide +kernel
theorem dX12_sequenced_402 : decode cX12_sequenced 402 = .ok (.getfield 215, 3) := by decide +kernel
theorem dX12_sequenced_405 : decode cX12_sequenced 405 = .ok (.iload 7, 2) := by decide +kernel
theorem dX12_sequenced_407 : decode cX12_sequenced 407 = .ok (.ifCond .ne 7, 3) := by decide +kernel
theorem dX12_sequenced_410 : decode cX12_sequenced 410 = .ok (.iload_n 2, 1) := by decide +kernel
theorem dX12_sequenced_411 : decode cX12_sequenced 411 = .ok (.goto 26, 3) := by decide +kernel
theorem dX12_sequenced_414 : decode cX12_sequenced 414 = .ok (.iload 7, 2) := by decide +kernel
theorem dX12_sequenced_416 : decode cX12_sequenced 416 = .ok (.iconst 1, 1) := by decide +kernel
theorem dX12_sequenced_417 : decode cX12_sequenced 417 = .ok (.if_icmp .ne 7, 3) := by decide +kernel
theorem dX12_sequenced_420 : decode cX12_sequenced 420 = .ok (.iload_n 3, 1) := by decide +kernel
theorem dX12_sequenced_421 : decode cX12_sequenced 421 = .ok (.goto 16, 3) := by decide +kernel
theorem dX12_sequenced_424 : decode cX12_sequenced 424 = .ok (.iload 7, 2) := by decide +kernel
theorem dX12_sequenced_426 : decode cX12_sequenced 426 = .ok (.iconst 2, 1) := by decide +kernel
theorem dX12_sequenced_427 : decode cX12_sequenced 427 = .ok (.if_icmp .ne 8, 3) := by decide +kernel
theorem dX12_sequenced_430 : decode cX12_sequenced 430 = .ok (.iload 4, 2) := by decide +kernel
theorem dX12_sequenced_432 : decode cX12_sequenced 432 = .ok (.goto 5, 3) := by decide +kernel
theorem dX12_sequenced_435 : decode cX12_sequenced 435 = .ok (.iload 5, 2) := by decide +kernel
theorem dX12_sequenced_437 : decode cX12_sequenced 437 = .ok (.iaload, 1) := by decide +kernel
theorem dX12_sequenced_438 : decode cX12_sequenced 438 = .ok (.iastore, 1) := by decide +kernel
theorem dX12_sequenced_439 : decode cX12_sequenced 439 = .ok (.iinc 7 1, 3) := by decide +kernel
theorem dX12_sequenced_442 : decode cX12_sequenced 442 = .ok (.goto (-56), 3) := by decide +kernel
theorem dX12_sequenced_445 : decode cX12_sequenced 445 = .ok (.iconst 1, 1) := by decide +kernel
theorem dX12_sequenced_446 : decode cX12_sequenced 446 = .ok (.ireturn, 1) := by decide +kernel
theorem dX12_sequence_0 : decode cX12_sequence 0 = .ok (.aload_n 0, 1) := by decide +kernel
theorem dX12_sequence_1 : decode cX12_sequence 1 = .ok (.iconst 0, 1) := by decide +kernel
theorem dX12_sequence_2 : decode cX12_sequence 2 = .ok (.putfield 1, 3) := by decide +kernel
theorem dX12_sequence_5 : decode cX12_sequence 5 = .ok (.aload_n 0, 1) := by decide +kernel
theorem dX12_sequence_6 : decode cX12_sequence 6 = .ok (.iload_n 1, 1) := by decide +kernel
theorem dX12_sequence_7 : decode cX12_sequence 7 = .ok (.iload_n 2, 1) := by decide +kernel
theorem dX12_sequence_8 : decode cX12_sequence 8 = .ok (.iload_n 3, 1) := by decide +kernel
theorem dX12_sequence_9 : decode cX12_sequence 9 = .ok (.iload 4, 2) := by decide +kernel
theorem dX12_sequence_11 : decode cX12_sequence 11 = .ok (.iload 5, 2) := by decide +kernel
theorem dX12_sequence_13 : decode cX12_sequence 13 = .ok (.invokevirtual 304, 3) := by decide +kernel
theorem dX12_sequence_16 : decode cX12_sequence 16 = .ok (.ifCond .eq 10, 3) := by decide +kernel
theorem dX12_sequence_19 : decode cX12_sequence 19 = .ok (.aload_n 0, 1) := by decide +kernel
theorem dX12_sequence_20 : decode cX12_sequence 20 = .ok (.invokevirtual 242, 3) := by decide +kernel
theorem dX12_sequence_23 : decode cX12_sequence 23 = .ok (.goto 4, 3) := by decide +kernel
theorem dX12_sequence_26 : decode cX12_sequence 26 = .ok (.iconst (-1), 1) := by decide +kernel
theorem dX12_sequence_27 : decode cX12_sequence 27 = .ok (.ireturn, 1) := by decide +kernel
theorem dX12_vector_0 : decode cX12_vector 0 = .ok (.aload_n 0, 1) := by decide +kernel
theorem dX12_vector_1 : decode cX12_vector 1 = .ok (.iconst 0, 1) := by decide +kernel
theorem dX12_vector_2 : decode cX12_vector 2 = .ok (.putfield 1, 3) := by decide +kernel
theorem dX12_vector_5 : decode cX12_vector 5 = .ok (.aload_n 0, 1) := by decide +kernel
theorem dX12_vector_6 : decode cX12_vector 6 = .ok (.iload_n 1, 1) := by decide +kernel
theorem dX12_vector_7 : decode cX12_vector 7 = .ok (.iload_n 2, 1) := by decide +kernel
theorem dX12_vector_8 : decode cX12_vector 8 = .ok (.iload_n 3, 1) := by decide +kernel
theorem dX12_vector_9 : decode cX12_vector 9 = .ok (.iload 4, 2) := by decide +kernel
theorem dX12_vector_11 : decode cX12_vector 11 = .ok (.iload 5, 2) := by decide +kernel
theorem dX12_vector_13 : decode cX12_vector 13 = .ok (.invokevirtual 304, 3) := by decide +kernel
theorem dX12_vector_16 : decode cX12_vector 16 = .ok (.ifCond .ne 5, 3) := by decide +kernel
theorem dX12_vector_19 : decode cX12_vector 19 = .ok (.iconst (-1), 1) := by decide +kernel
theorem dX12_vector_20 : decode cX12_vector 20 = .ok (.ireturn, 1) := by decide +kernel
theorem dX12_vector_21 : decode cX12_vector 21 = .ok (.aload_n 0, 1) := by decide +kernel
theorem dX12_vector_22 : decode cX12_vector 22 = .ok (.getfield 25, 3) := by decide +kernel
theorem dX12_vector_25 : decode cX12_vector 25 = .ok (.iconst 0, 1) := by decide +kernel
theorem dX12_vector_26 : decode cX12_vector 26 = .ok (.aload_n 0, 1) := by decide +kernel
theorem dX12_vector_27 : decode cX12_vector 27 = .ok (.getfield 203, 3) := by decide +kernel
theorem dX12_vector_30 : decode cX12_vector 30 = .ok (.iconst 0, 1) := by decide +kernel
theorem dX12_vector_31 : decode cX12_vector 31 = .ok (.invokestatic 17, 3) := by decide +kernel
theorem dX12_vector_34 : decode cX12_vector 34 = .ok (.aload_n 0, 1) := by decide +kernel
theorem dX12_vector_35 : decode cX12_vector 35 = .ok (.aload_n 0, 1) := by decide +kernel
theorem dX12_vector_36 : decode cX12_vector 36 = .ok (.getfield 203, 3) := by decide +kernel
theorem dX12_vector_39 : decode cX12_vector 39 = .ok (.invokevirtual 292, 3) := by decide +kernel
theorem dX12_vector_42 : decode cX12_vector 42 = .ok (.ifCond .eq 10, 3) := by decide +kernel
theorem dX12_vector_45 : decode cX12_vector 45 = .ok (.aload_n 0, 1) := by decide +kernel
theorem dX12_vector_46 : decode cX12_vector 46 = .ok (.invokevirtual 242, 3) := by decide +kernel
theorem dX12_vector_49 : decode cX12_vector 49 = .ok (.goto 4, 3) := by decide +kernel
theorem dX12_vector_52 : decode cX12_vector 52 = .ok (.iconst (-1), 1) := by decide +kernel
theorem dX12_vector_53 : decode cX12_vector 53 = .ok (.ireturn, 1) := by decide +kernel
theorem dX12_isShelf_0 : decode cX12_isShelf 0 = .ok (.iload_n 0, 1) := by decide +kernel
theorem dX12_isShelf_1 : decode cX12_isShelf 1 = .ok (.i2l, 1) := by decide +kernel
theorem dX12_isShelf_2 : decode cX12_isShelf 2 = .ok (.lconst 0, 1) := by decide +kernel
theorem dX12_isShelf_3 : decode cX12_isShelf 3 = .ok (.ldc2_w 151, 3) := by decide +kernel
theorem dX12_isShelf_6 : decode cX12_isShelf 6 = .ok (.invokestatic 93, 3) := by decide +kernel
theorem dX12_isShelf_9 : decode cX12_isShelf 9 = .ok (.ireturn, 1) := by decide +kernel
theorem dX12_save_0 : decode cX12_save 0 = .ok (.aload_n 0, 1) := by decide +kernel
theorem dX12_save_1 : decode cX12_save 1 = .ok (.iconst 0, 1) := by decide +kernel
theorem dX12_save_2 : decode cX12_save 2 = .ok (.putfield 1, 3) := by decide +kernel
theorem dX12_save_5 : decode cX12_save 5 = .ok (.iload_n 1, 1) := by decide +kernel
theorem dX12_save_6 : decode cX12_save 6 = .ok (.invokestatic 308, 3) := by decide +kernel
theorem dX12_save_9 : decode cX12_save 9 = .ok (.ifCond .ne 5, 3) := by decide +kernel
theorem dX12_save_12 : decode cX12_save 12 = .ok (.iconst (-1), 1) := by decide +kernel
theorem dX12_save_13 : decode cX12_save 13 = .ok (.ireturn, 1) := by decide +kernel
theorem dX12_save_14 : decode cX12_save 14 = .ok (.aload_n 0, 1) := by decide +kernel
theorem dX12_save_15 : decode cX12_save 15 = .ok (.getfield 14, 3) := by decide +kernel
theorem dX12_save_18 : decode cX12_save 18 = .ok (.iconst 0, 1) := by decide +kernel
theorem dX12_save_19 : decode cX12_save 19 = .ok (.aload_n 0, 1) := by decide +kernel
theorem dX12_save_20 : decode cX12_save 20 = .ok (.getfield 181, 3) := by decide +kernel
theorem dX12_save_23 : decode cX12_save 23 = .ok (.bipush 127, 2) := by decide +kernel
