theorem dX0_init_0 : decode cX0_init 0 = .ok (.aload_n 0, 1) := by decide +kernel
theorem dX0_init_1 : decode cX0_init 1 = .ok (.invokespecial 3, 3) := by decide +kernel
theorem dX0_init_4 : decode cX0_init 4 = .ok (.aload_n 0, 1) := by decide +kernel
theorem dX0_init_5 : decode cX0_init 5 = .ok (.bipush 64, 2) := by decide +kernel
theorem dX0_init_7 : decode cX0_init 7 = .ok (.newarray .int, 2) := by decide +kernel
theorem dX0_init_9 : decode cX0_init 9 = .ok (.putfield 11, 3) := by decide +kernel
theorem dX0_init_12 : decode cX0_init 12 = .ok (.return_, 1) := by decide +kernel
theorem dX0_make_0 : decode cX0_make 0 = .ok (.iload_n 1, 1) := by decide +kernel
theorem dX0_make_1 : decode cX0_make 1 = .ok (.iconst 1, 1) := by decide +kernel
theorem dX0_make_2 : decode cX0_make 2 = .ok (.if_icmp .lt 19, 3) := by decide +kernel
theorem dX0_make_5 : decode cX0_make 5 = .ok (.iload_n 1, 1) := by decide +kernel
theorem dX0_make_6 : decode cX0_make 6 = .ok (.sipush 9999, 3) := by decide +kernel
theorem dX0_make_9 : decode cX0_make 9 = .ok (.if_icmp .gt 12, 3) := by decide +kernel
theorem dX0_make_12 : decode cX0_make 12 = .ok (.iload_n 2, 1) := by decide +kernel
theorem dX0_make_13 : decode cX0_make 13 = .ok (.ifCond .lt 8, 3) := by decide +kernel
theorem dX0_make_16 : decode cX0_make 16 = .ok (.iload_n 2, 1) := by decide +kernel
theorem dX0_make_17 : decode cX0_make 17 = .ok (.iconst 4, 1) := by decide +kernel
theorem dX0_make_18 : decode cX0_make 18 = .ok (.if_icmp .lt 5, 3) := by decide +kernel
theorem dX0_make_21 : decode cX0_make 21 = .ok (.iconst 0, 1) := by decide +kernel
theorem dX0_make_22 : decode cX0_make 22 = .ok (.ireturn, 1) := by decide +kernel
theorem dX0_make_23 : decode cX0_make 23 = .ok (.aload_n 0, 1) := by decide +kernel
theorem dX0_make_24 : decode cX0_make 24 = .ok (.iconst 0, 1) := by decide +kernel
theorem dX0_make_25 : decode cX0_make 25 = .ok (.putfield 15, 3) := by decide +kernel
theorem dX0_make_28 : decode cX0_make 28 = .ok (.aload_n 0, 1) := by decide +kernel
theorem dX0_make_29 : decode cX0_make 29 = .ok (.iconst 1, 1) := by decide +kernel
theorem dX0_make_30 : decode cX0_make 30 = .ok (.invokevirtual 19, 3) := by decide +kernel
theorem dX0_make_33 : decode cX0_make 33 = .ok (.iload_n 2, 1) := by decide +kernel
theorem dX0_make_34 : decode cX0_make 34 = .ok (.tableswitch 52 0 2 #[26, 34, 42], 26) := by decide +kernel
theorem dX0_make_60 : decode cX0_make 60 = .ok (.aload_n 0, 1) := by decide +kernel
theorem dX0_make_61 : decode cX0_make 61 = .ok (.iload_n 1, 1) := by decide +kernel
theorem dX0_make_62 : decode cX0_make 62 = .ok (.invokevirtual 23, 3) := by decide +kernel
theorem dX0_make_65 : decode cX0_make 65 = .ok (.goto 26, 3) := by decide +kernel
theorem dX0_make_68 : decode cX0_make 68 = .ok (.aload_n 0, 1) := by decide +kernel
theorem dX0_make_69 : decode cX0_make 69 = .ok (.iload_n 1, 1) := by decide +kernel
theorem dX0_make_70 : decode cX0_make 70 = .ok (.invokevirtual 26, 3) := by decide +kernel
theorem dX0_make_73 : decode cX0_make 73 = .ok (.goto 18, 3) := by decide +kernel
theorem dX0_make_76 : decode cX0_make 76 = .ok (.aload_n 0, 1) := by decide +kernel
theorem dX0_make_77 : decode cX0_make 77 = .ok (.iload_n 1, 1) := by decide +kernel
theorem dX0_make_78 : decode cX0_make 78 = .ok (.iconst 1, 1) := by decide +kernel
theorem dX0_make_79 : decode cX0_make 79 = .ok (.iconst 0, 1) := by decide +kernel
theorem dX0_make_80 : decode cX0_make 80 = .ok (.invokestatic 29, 3) := by decide +kernel
theorem dX0_make_83 : decode cX0_make 83 = .ok (.goto 8, 3) := by decide +kernel
theorem dX0_make_86 : decode cX0_make 86 = .ok (.aload_n 0, 1) := by decide +kernel
theorem dX0_make_87 : decode cX0_make 87 = .ok (.iload_n 1, 1) := by decide +kernel
theorem dX0_make_88 : decode cX0_make 88 = .ok (.invokevirtual 33, 3) := by decide +kernel
theorem dX0_make_91 : decode cX0_make 91 = .ok (.iconst 1, 1) := by decide +kernel
theorem dX0_make_92 : decode cX0_make 92 = .ok (.ireturn, 1) := by decide +kernel
theorem dX0_goBinary_0 : decode cX0_goBinary 0 = .ok (.iconst 1, 1) := by decide +kernel
theorem dX0_goBinary_1 : decode cX0_goBinary 1 = .ok (.istore_n 2, 1) := by decide +kernel
theorem dX0_goBinary_2 : decode cX0_goBinary 2 = .ok (.iload_n 1, 1) := by decide +kernel
theorem dX0_goBinary_3 : decode cX0_goBinary 3 = .ok (.invokestatic 36, 3) := by decide +kernel
theorem dX0_goBinary_6 : decode cX0_goBinary 6 = .ok (.iconst 1, 1) := by decide +kernel
theorem dX0_goBinary_7 : decode cX0_goBinary 7 = .ok (.isub, 1) := by decide +kernel
theorem dX0_goBinary_8 : decode cX0_goBinary 8 = .ok (.istore_n 3, 1) := by decide +kernel
theorem dX0_goBinary_9 : decode cX0_goBinary 9 = .ok (.iload_n 3, 1) := by decide +kernel
theorem dX0_goBinary_10 : decode cX0_goBinary 10 = .ok (.ifCond .lt 36, 3) := by decide +kernel
theorem dX0_goBinary_13 : decode cX0_goBinary 13 = .ok (.iconst 2, 1) := by decide +kernel
theorem dX0_goBinary_14 : decode cX0_goBinary 14 = .ok (.iload_n 2, 1) := by decide +kernel
theorem dX0_goBinary_15 : decode cX0_goBinary 15 = .ok (.imul, 1) := by decide +kernel
theorem dX0_goBinary_16 : decode cX0_goBinary 16 = .ok (.istore_n 2, 1) := by decide +kernel
theorem dX0_goBinary_17 : decode cX0_goBinary 17 = .ok (.aload_n 0, 1) := by decide +kernel
theorem dX0_goBinary_18 : decode cX0_goBinary 18 = .ok (.iload_n 2, 1) := by decide +kernel
theorem dX0_goBinary_19 : decode cX0_goBinary 19 = .ok (.invokevirtual 19, 3) := by decide +kernel
theorem dX0_goBinary_22 : decode cX0_goBinary 22 = .ok (.iload_n 1, 1) := by decide +kernel
theorem dX0_goBinary_23 : decode cX0_goBinary 23 = .ok (.iload_n 3, 1) := by decide +kernel
theorem dX0_goBinary_24 : decode cX0_goBinary 24 = .ok (.ishr, 1) := by decide +kernel
theorem dX0_goBinary_25 : decode cX0_goBinary 25 = .ok (.iconst 1, 1) := by decide +kernel
theorem dX0_goBinary_26 : decode cX0_goBinary 26 = .ok (.iand, 1) := by decide +kernel
theorem dX0_goBinary_27 : decode cX0_goBinary 27 = .ok (.iconst 1, 1) := by decide +kernel
theorem dX0_goBinary_28 : decode cX0_goBinary 28 = .ok (.if_icmp .ne 12, 3) := by decide +kernel
theorem dX0_goBinary_31 : decode cX0_goBinary 31 = .ok (.iload_n 2, 1) := by decide +kernel
theorem dX0_goBinary_32 : decode cX0_goBinary 32 = .ok (.iconst 1, 1) := by decide +kernel
theorem dX0_goBinary_33 : decode cX0_goBinary 33 = .ok (.iadd, 1) := by decide +kernel
theorem dX0_goBinary_34 : decode cX0_goBinary 34 = .ok (.istore_n 2, 1) := by decide +kernel
theorem dX0_goBinary_35 : decode cX0_goBinary 35 = .ok (.aload_n 0, 1) := by decide +kernel
theorem dX0_goBinary_36 : decode cX0_goBinary 36 = .ok (.iload_n 2, 1) := by decide +kernel
theorem dX0_goBinary_37 : decode cX0_goBinary 37 = .ok (.invokevirtual 19, 3) := by decide +kernel
theorem dX0_goBinary_40 : decode cX0_goBinary 40 = .ok (.iinc 3 (-1), 3) := by decide +kernel
theorem dX0_goBinary_43 : decode cX0_goBinary 43 = .ok (.goto (-34), 3) := by decide +kernel
theorem dX0_goBinary_46 : decode cX0_goBinary 46 = .ok (.return_, 1) := by decide +kernel
theorem dX0_goRight_0 : decode cX0_goRight 0 = .ok (.iconst 0, 1) := by decide +kernel
theorem dX0_goRight_1 : decode cX0_goRight 1 = .ok (.istore_n 2, 1) := by decide +kernel
theorem dX0_goRight_2 : decode cX0_goRight 2 = .ok (.iconst 0, 1) := by decide +kernel
theorem dX0_goRight_3 : decode cX0_goRight 3 = .ok (.istore_n 3, 1) := by decide +kernel
theorem dX0_goRight_4 : decode cX0_goRight 4 = .ok (.iload_n 3, 1) := by decide +kernel
theorem dX0_goRight_5 : decode cX0_goRight 5 = .ok (.iload_n 1, 1) := by decide +kernel
theorem dX0_goRight_6 : decode cX0_goRight 6 = .ok (.invokestatic 36, 3) := by decide +kernel
theorem dX0_goRight_9 : decode cX0_goRight 9 = .ok (.if_icmp .gt 36, 3) := by decide +kernel
theorem dX0_goRight_12 : decode cX0_goRight 12 = .ok (.aload_n 0, 1) := by decide +kernel
theorem dX0_goRight_13 : decode cX0_goRight 13 = .ok (.iconst 1, 1) := by decide +kernel
theorem dX0_goRight_14 : decode cX0_goRight 14 = .ok (.iload_n 3, 1) := by decide +kernel
theorem dX0_goRight_15 : decode cX0_goRight 15 = .ok (.ishl, 1) := by decide +kernel
theorem dX0_goRight_16 : decode cX0_goRight 16 = .ok (.invokevirtual 19, 3) := by decide +kernel
theorem dX0_goRight_19 : decode cX0_goRight 19 = .ok (.iload_n 1, 1) := by decide +kernel
theorem dX0_goRight_20 : decode cX0_goRight 20 = .ok (.iload_n 3, 1) := by decide +kernel
theorem dX0_goRight_21 : decode cX0_goRight 21 = .ok (.ishr, 1) := by decide +kernel
theorem dX0_goRight_22 : decode cX0_goRight 22 = .ok (.iconst 1, 1) := by decide +kernel
theorem dX0_goRight_23 : decode cX0_goRight 23 = .ok (.iand, 1) := by decide +kernel
theorem dX0_goRight_24 : decode cX0_goRight 24 = .ok (.iconst 1, 1) := by decide +kernel
theorem dX0_goRight_25 : decode cX0_goRight 25 = .ok (.if_icmp .ne 14, 3) := by decide +kernel
theorem dX0_goRight_28 : decode cX0_goRight 28 = .ok (.iload_n 2, 1) := by decide +kernel
theorem dX0_goRight_29 : decode cX0_goRight 29 = .ok (.iconst 1, 1) := by decide +kernel
theorem dX0_goRight_30 : decode cX0_goRight 30 = .ok (.iload_n 3, 1) := by decide +kernel
theorem dX0_goRight_31 : decode cX0_goRight 31 = .ok (.ishl, 1) := by decide +kernel
theorem dX0_goRight_32 : decode cX0_goRight 32 = .ok (.iadd, 1) := by decide +kernel
theorem dX0_goRight_33 : decode cX0_goRight 33 = .ok (.istore_n 2, 1) := by decide +kernel
theorem dX0_goRight_34 : decode cX0_goRight 34 = .ok (.aload_n 0, 1) := by decide +kernel
theorem dX0_goRight_35 : decode cX0_goRight 35 = .ok (.iload_n 2, 1) := by decide +kernel
theorem dX0_goRight_36 : decode cX0_goRight 36 = .ok (.invokevirtual 19, 3) := by decide +kernel
theorem dX0_goRight_39 : decode cX0_goRight 39 = .ok (.iinc 3 1, 3) := by decide +kernel
theorem dX0_goRight_42 : decode cX0_goRight 42 = .ok (.goto (-38), 3) := by decide +kernel
theorem dX0_goRight_45 : decode cX0_goRight 45 = .ok (.return_, 1) := by decide +kernel
theorem dX0_goFactor_0 : decode cX0_goFactor 0 = .ok (.iload_n 1, 1) := by decide +kernel
theorem dX0_goFactor_1 : decode cX0_goFactor 1 = .ok (.iconst 1, 1) := by decide +kernel
theorem dX0_goFactor_2 : decode cX0_goFactor 2 = .ok (.if_icmp .le 9, 3) := by decide +kernel
theorem dX0_goFactor_5 : decode cX0_goFactor 5 = .ok (.iload_n 3, 1) := by decide +kernel
theorem dX0_goFactor_6 : decode cX0_goFactor 6 = .ok (.bipush 40, 2) := by decide +kernel
theorem dX0_goFactor_8 : decode cX0_goFactor 8 = .ok (.if_icmp .le 4, 3) := by decide +kernel
theorem dX0_goFactor_11 : decode cX0_goFactor 11 = .ok (.return_, 1) := by decide +kernel
theorem dX0_goFactor_12 : decode cX0_goFactor 12 = .ok (.iload_n 1, 1) := by decide +kernel
theorem dX0_goFactor_13 : decode cX0_goFactor 13 = .ok (.invokestatic 40, 3) := by decide +kernel
theorem dX0_goFactor_16 : decode cX0_goFactor 16 = .ok (.istore 4, 2) := by decide +kernel
theorem dX0_goFactor_18 : decode cX0_goFactor 18 = .ok (.iload 4, 2) := by decide +kernel
theorem dX0_goFactor_20 : decode cX0_goFactor 20 = .ok (.iload_n 1, 1) := by decide +kernel
theorem dX0_goFactor_21 : decode cX0_goFactor 21 = .ok (.if_icmp .ne 24, 3) := by decide +kernel
theorem dX0_goFactor_24 : decode cX0_goFactor 24 = .ok (.aload_n 0, 1) := by decide +kernel
theorem dX0_goFactor_25 : decode cX0_goFactor 25 = .ok (.iload_n 1, 1) := by decide +kernel
theorem dX0_goFactor_26 : decode cX0_goFactor 26 = .ok (.iconst 1, 1) := by decide +kernel
theorem dX0_goFactor_27 : decode cX0_goFactor 27 = .ok (.isub, 1) := by decide +kernel
theorem dX0_goFactor_28 : decode cX0_goFactor 28 = .ok (.iload_n 2, 1) := by decide +kernel
theorem dX0_goFactor_29 : decode cX0_goFactor 29 = .ok (.iload_n 3, 1) := by decide +kernel
theorem dX0_goFactor_30 : decode cX0_goFactor 30 = .ok (.iconst 1, 1) := by decide +kernel
theorem dX0_goFactor_31 : decode cX0_goFactor 31 = .ok (.iadd, 1) := by decide +kernel
theorem dX0_goFactor_32 : decode cX0_goFactor 32 = .ok (.invokestatic 29, 3) := by decide +kernel
theorem dX0_goFactor_35 : decode cX0_goFactor 35 = .ok (.aload_n 0, 1) := by decide +kernel
theorem dX0_goFactor_36 : decode cX0_goFactor 36 = .ok (.iload_n 2, 1) := by decide +kernel
theorem dX0_goFactor_37 : decode cX0_goFactor 37 = .ok (.iload_n 1, 1) := by decide +kernel
theorem dX0_goFactor_38 : decode cX0_goFactor 38 = .ok (.imul, 1) := by decide +kernel
theorem dX0_goFactor_39 : decode cX0_goFactor 39 = .ok (.invokevirtual 19, 3) := by decide +kernel
theorem dX0_goFactor_42 : decode cX0_goFactor 42 = .ok (.goto 28, 3) := by decide +kernel
theorem dX0_goFactor_45 : decode cX0_goFactor 45 = .ok (.aload_n 0, 1) := by decide +kernel
theorem dX0_goFactor_46 : decode cX0_goFactor 46 = .ok (.iload 4, 2) := by decide +kernel
theorem dX0_goFactor_48 : decode cX0_goFactor 48 = .ok (.iload_n 2, 1) := by decide +kernel
theorem dX0_goFactor_49 : decode cX0_goFactor 49 = .ok (.iload_n 3, 1) := by decide +kernel
theorem dX0_goFactor_50 : decode cX0_goFactor 50 = .ok (.iconst 1, 1) := by decide +kernel
theorem dX0_goFactor_51 : decode cX0_goFactor 51 = .ok (.iadd, 1) := by decide +kernel
theorem dX0_goFactor_52 : decode cX0_goFactor 52 = .ok (.invokestatic 29, 3) := by decide +kernel
theorem dX0_goFactor_55 : decode cX0_goFactor 55 = .ok (.aload_n 0, 1) := by decide +kernel
theorem dX0_goFactor_56 : decode cX0_goFactor 56 = .ok (.iload_n 1, 1) := by decide +kernel
theorem dX0_goFactor_57 : decode cX0_goFactor 57 = .ok (.iload 4, 2) := by decide +kernel
theorem dX0_goFactor_59 : decode cX0_goFactor 59 = .ok (.idiv, 1) := by decide +kernel
theorem dX0_goFactor_60 : decode cX0_goFactor 60 = .ok (.iload_n 2, 1) := by decide +kernel
theorem dX0_goFactor_61 : decode cX0_goFactor 61 = .ok (.iload 4, 2) := by decide +kernel
theorem dX0_goFactor_63 : decode cX0_goFactor 63 = .ok (.imul, 1) := by decide +kernel
theorem dX0_goFactor_64 : decode cX0_goFactor 64 = .ok (.iload_n 3, 1) := by decide +kernel
theorem dX0_goFactor_65 : decode cX0_goFactor 65 = .ok (.iconst 1, 1) := by decide +kernel
theorem dX0_goFactor_66 : decode cX0_goFactor 66 = .ok (.iadd, 1) := by decide +kernel
theorem dX0_goFactor_67 : decode cX0_goFactor 67 = .ok (.invokestatic 29, 3) := by decide +kernel
theorem dX0_goFactor_70 : decode cX0_goFactor 70 = .ok (.return_, 1) := by decide +kernel
theorem dX0_leastPrimeOf_0 : decode cX0_leastPrimeOf 0 = .ok (.iconst 2, 1) := by decide +kernel
theorem dX0_leastPrimeOf_1 : decode cX0_leastPrimeOf 1 = .ok (.istore_n 1, 1) := by decide +kernel
theorem dX0_leastPrimeOf_2 : decode cX0_leastPrimeOf 2 = .ok (.iload_n 1, 1) := by decide +kernel
theorem dX0_leastPrimeOf_3 : decode cX0_leastPrimeOf 3 = .ok (.iload_n 1, 1) := by decide +kernel
theorem dX0_leastPrimeOf_4 : decode cX0_leastPrimeOf 4 = .ok (.imul, 1) := by decide +kernel
theorem dX0_leastPrimeOf_5 : decode cX0_leastPrimeOf 5 = .ok (.iload_n 0, 1) := by decide +kernel
theorem dX0_leastPrimeOf_6 : decode cX0_leastPrimeOf 6 = .ok (.if_icmp .gt 17, 3) := by decide +kernel
theorem dX0_leastPrimeOf_9 : decode cX0_leastPrimeOf 9 = .ok (.iload_n 0, 1) := by decide +kernel
theorem dX0_leastPrimeOf_10 : decode cX0_leastPrimeOf 10 = .ok (.iload_n 1, 1) := by decide +kernel
theorem dX0_leastPrimeOf_11 : decode cX0_leastPrimeOf 11 = .ok (.irem, 1) := by decide +kernel
theorem dX0_leastPrimeOf_12 : decode cX0_leastPrimeOf 12 = .ok (.ifCond .ne 5, 3) := by decide +kernel
theorem dX0_leastPrimeOf_15 : decode cX0_leastPrimeOf 15 = .ok (.iload_n 1, 1) := by decide +kernel
theorem dX0_leastPrimeOf_16 : decode cX0_leastPrimeOf 16 = .ok (.ireturn, 1) := by decide +kernel
theorem dX0_leastPrimeOf_17 : decode cX0_leastPrimeOf 17 = .ok (.iinc 1 1, 3) := by decide +kernel
theorem dX0_leastPrimeOf_20 : decode cX0_leastPrimeOf 20 = .ok (.goto (-18), 3) := by decide +kernel
theorem dX0_leastPrimeOf_23 : decode cX0_leastPrimeOf 23 = .ok (.iload_n 0, 1) := by decide +kernel
theorem dX0_leastPrimeOf_24 : decode cX0_leastPrimeOf 24 = .ok (.ireturn, 1) := by decide +kernel
theorem dX0_goThrees_0 : decode cX0_goThrees 0 = .ok (.iload_n 1, 1) := by decide +kernel
theorem dX0_goThrees_1 : decode cX0_goThrees 1 = .ok (.iconst 4, 1) := by decide +kernel
theorem dX0_goThrees_2 : decode cX0_goThrees 2 = .ok (.if_icmp .ge 9, 3) := by decide +kernel
theorem dX0_goThrees_5 : decode cX0_goThrees 5 = .ok (.aload_n 0, 1) := by decide +kernel
theorem dX0_goThrees_6 : decode cX0_goThrees 6 = .ok (.iload_n 1, 1) := by decide +kernel
theorem dX0_goThrees_7 : decode cX0_goThrees 7 = .ok (.invokevirtual 23, 3) := by decide +kernel
theorem dX0_goThrees_10 : decode cX0_goThrees 10 = .ok (.return_, 1) := by decide +kernel
theorem dX0_goThrees_11 : decode cX0_goThrees 11 = .ok (.aload_n 0, 1) := by decide +kernel
theorem dX0_goThrees_12 : decode cX0_goThrees 12 = .ok (.iconst 2, 1) := by decide +kernel
theorem dX0_goThrees_13 : decode cX0_goThrees 13 = .ok (.invokevirtual 19, 3) := by decide +kernel
theorem dX0_goThrees_16 : decode cX0_goThrees 16 = .ok (.aload_n 0, 1) := by decide +kernel
theorem dX0_goThrees_17 : decode cX0_goThrees 17 = .ok (.iconst 3, 1) := by decide +kernel
theorem dX0_goThrees_18 : decode cX0_goThrees 18 = .ok (.invokevirtual 19, 3) := by decide +kernel
theorem dX0_goThrees_21 : decode cX0_goThrees 21 = .ok (.iload_n 1, 1) := by decide +kernel
theorem dX0_goThrees_22 : decode cX0_goThrees 22 = .ok (.invokestatic 36, 3) := by decide +kernel
theorem dX0_goThrees_25 : decode cX0_goThrees 25 = .ok (.iconst 2, 1) := by decide +kernel
theorem dX0_goThrees_26 : decode cX0_goThrees 26 = .ok (.idiv, 1) := by decide +kernel
theorem dX0_goThrees_27 : decode cX0_goThrees 27 = .ok (.iconst 2, 1) := by decide +kernel
theorem dX0_goThrees_28 : decode cX0_goThrees 28 = .ok (.imul, 1) := by decide +kernel
theorem dX0_goThrees_29 : decode cX0_goThrees 29 = .ok (.istore_n 2, 1) := by decide +kernel
theorem dX0_goThrees_30 : decode cX0_goThrees 30 = .ok (.iload_n 1, 1) := by decide +kernel
theorem dX0_goThrees_31 : decode cX0_goThrees 31 = .ok (.iload_n 2, 1) := by decide +kernel
theorem dX0_goThrees_32 : decode cX0_goThrees 32 = .ok (.ishr, 1) := by decide +kernel
theorem dX0_goThrees_33 : decode cX0_goThrees 33 = .ok (.istore_n 3, 1) := by decide +kernel
theorem dX0_goThrees_34 : decode cX0_goThrees 34 = .ok (.iinc 2 (-2), 3) := by decide +kernel
theorem dX0_goThrees_37 : decode cX0_goThrees 37 = .ok (.iload_n 2, 1) := by decide +kernel
theorem dX0_goThrees_38 : decode cX0_goThrees 38 = .ok (.ifCond .lt 32, 3) := by decide +kernel
theorem dX0_goThrees_41 : decode cX0_goThrees 41 = .ok (.aload_n 0, 1) := by decide +kernel
theorem dX0_goThrees_42 : decode cX0_goThrees 42 = .ok (.iconst 2, 1) := by decide +kernel
theorem dX0_goThrees_43 : decode cX0_goThrees 43 = .ok (.iload_n 3, 1) := by decide +kernel
theorem dX0_goThrees_44 : decode cX0_goThrees 44 = .ok (.imul, 1) := by decide +kernel
theorem dX0_goThrees_45 : decode cX0_goThrees 45 = .ok (.invokevirtual 19, 3) := by decide +kernel
theorem dX0_goThrees_48 : decode cX0_goThrees 48 = .ok (.aload_n 0, 1) := by decide +kernel
theorem dX0_goThrees_49 : decode cX0_goThrees 49 = .ok (.iconst 4, 1) := by decide +kernel
theorem dX0_goThrees_50 : decode cX0_goThrees 50 = .ok (.iload_n 3, 1) := by decide +kernel
theorem dX0_goThrees_51 : decode cX0_goThrees 51 = .ok (.imul, 1) := by decide +kernel
theorem dX0_goThrees_52 : decode cX0_goThrees 52 = .ok (.invokevirtual 19, 3) := by decide +kernel
theorem dX0_goThrees_55 : decode cX0_goThrees 55 = .ok (.iload_n 1, 1) := by decide +kernel
theorem dX0_goThrees_56 : decode cX0_goThrees 56 = .ok (.iload_n 2, 1) := by decide +kernel
theorem dX0_goThrees_57 : decode cX0_goThrees 57 = .ok (.ishr, 1) := by decide +kernel
theorem dX0_goThrees_58 : decode cX0_goThrees 58 = .ok (.istore_n 3, 1) := by decide +kernel
theorem dX0_goThrees_59 : decode cX0_goThrees 59 = .ok (.aload_n 0, 1) := by decide +kernel
theorem dX0_goThrees_60 : decode cX0_goThrees 60 = .ok (.iload_n 3, 1) := by decide +kernel
theorem dX0_goThrees_61 : decode cX0_goThrees 61 = .ok (.invokevirtual 19, 3) := by decide +kernel
theorem dX0_goThrees_64 : decode cX0_goThrees 64 = .ok (.iinc 2 (-2), 3) := by decide +kernel
theorem dX0_goThrees_67 : decode cX0_goThrees 67 = .ok (.goto (-30), 3) := by decide +kernel
theorem dX0_goThrees_70 : decode cX0_goThrees 70 = .ok (.return_, 1) := by decide +kernel
theorem dX0_put_0 : decode cX0_put 0 = .ok (.aload_n 0, 1) := by decide +kernel
theorem dX0_put_1 : decode cX0_put 1 = .ok (.getfield 15, 3) := by decide +kernel
theorem dX0_put_4 : decode cX0_put 4 = .ok (.bipush 64, 2) := by decide +kernel
theorem dX0_put_6 : decode cX0_put 6 = .ok (.if_icmp .ge 45, 3) := by decide +kernel
theorem dX0_put_9 : decode cX0_put 9 = .ok (.aload_n 0, 1) := by decide +kernel
theorem dX0_put_10 : decode cX0_put 10 = .ok (.getfield 15, 3) := by decide +kernel
theorem dX0_put_13 : decode cX0_put 13 = .ok (.ifCond .eq 18, 3) := by decide +kernel
theorem dX0_put_16 : decode cX0_put 16 = .ok (.iload_n 1, 1) := by decide +kernel
theorem dX0_put_17 : decode cX0_put 17 = .ok (.aload_n 0, 1) := by decide +kernel
theorem dX0_put_18 : decode cX0_put 18 = .ok (.getfield 11, 3) := by decide +kernel
theorem dX0_put_21 : decode cX0_put 21 = .ok (.aload_n 0, 1) := by decide +kernel
theorem dX0_put_22 : decode cX0_put 22 = .ok (.getfield 15, 3) := by decide +kernel
theorem dX0_put_25 : decode cX0_put 25 = .ok (.iconst 1, 1) := by decide +kernel
theorem dX0_put_26 : decode cX0_put 26 = .ok (.isub, 1) := by decide +kernel
theorem dX0_put_27 : decode cX0_put 27 = .ok (.iaload, 1) := by decide +kernel
theorem dX0_put_28 : decode cX0_put 28 = .ok (.if_icmp .le 23, 3) := by decide +kernel
theorem dX0_put_31 : decode cX0_put 31 = .ok (.aload_n 0, 1) := by decide +kernel
theorem dX0_put_32 : decode cX0_put 32 = .ok (.getfield 11, 3) := by decide +kernel
theorem dX0_put_35 : decode cX0_put 35 = .ok (.aload_n 0, 1) := by decide +kernel
theorem dX0_put_36 : decode cX0_put 36 = .ok (.getfield 15, 3) := by decide +kernel
theorem dX0_put_39 : decode cX0_put 39 = .ok (.iload_n 1, 1) := by decide +kernel
theorem dX0_put_40 : decode cX0_put 40 = .ok (.iastore, 1) := by decide +kernel
theorem dX0_put_41 : decode cX0_put 41 = .ok (.aload_n 0, 1) := by decide +kernel
theorem dX0_put_42 : decode cX0_put 42 = .ok (.dup, 1) := by decide +kernel
theorem dX0_put_43 : decode cX0_put 43 = .ok (.getfield 15, 3) := by decide +kernel
theorem dX0_put_46 : decode cX0_put 46 = .ok (.iconst 1, 1) := by decide +kernel
theorem dX0_put_47 : decode cX0_put 47 = .ok (.iadd, 1) := by decide +kernel
theorem dX0_put_48 : decode cX0_put 48 = .ok (.putfield 15, 3) := by decide +kernel
theorem dX0_put_51 : decode cX0_put 51 = .ok (.return_, 1) := by decide +kernel
theorem dX0_eachIsOfTheOneAhead_0 : decode cX0_eachIsOfTheOneAhead 0 = .ok (.iconst 1, 1) := by decide +kernel
theorem dX0_eachIsOfTheOneAhead_1 : decode cX0_eachIsOfTheOneAhead 1 = .ok (.istore_n 1, 1) := by decide +kernel
theorem dX0_eachIsOfTheOneAhead_2 : decode cX0_eachIsOfTheOneAhead 2 = .ok (.iload_n 1, 1) := by decide +kernel
theorem dX0_eachIsOfTheOneAhead_3 : decode cX0_eachIsOfTheOneAhead 3 = .ok (.aload_n 0, 1) := by decide +kernel
theorem dX0_eachIsOfTheOneAhead_4 : decode cX0_eachIsOfTheOneAhead 4 = .ok (.getfield 15, 3) := by decide +kernel
theorem dX0_eachIsOfTheOneAhead_7 : decode cX0_eachIsOfTheOneAhead 7 = .ok (.if_icmp .ge 34, 3) := by decide +kernel
theorem dX0_eachIsOfTheOneAhead_10 : decode cX0_eachIsOfTheOneAhead 10 = .ok (.aload_n 0, 1) := by decide +kernel
theorem dX0_eachIsOfTheOneAhead_11 : decode cX0_eachIsOfTheOneAhead 11 = .ok (.iload_n 1, 1) := by decide +kernel
theorem dX0_eachIsOfTheOneAhead_12 : decode cX0_eachIsOfTheOneAhead 12 = .ok (.aload_n 0, 1) := by decide +kernel
theorem dX0_eachIsOfTheOneAhead_13 : decode cX0_eachIsOfTheOneAhead 13 = .ok (.getfield 11, 3) := by decide +kernel
theorem dX0_eachIsOfTheOneAhead_16 : decode cX0_eachIsOfTheOneAhead 16 = .ok (.iload_n 1, 1) := by decide +kernel
theorem dX0_eachIsOfTheOneAhead_17 : decode cX0_eachIsOfTheOneAhead 17 = .ok (.iaload, 1) := by decide +kernel
theorem dX0_eachIsOfTheOneAhead_18 : decode cX0_eachIsOfTheOneAhead 18 = .ok (.aload_n 0, 1) := by decide +kernel
theorem dX0_eachIsOfTheOneAhead_19 : decode cX0_eachIsOfTheOneAhead 19 = .ok (.getfield 11, 3) := by decide +kernel
theorem dX0_eachIsOfTheOneAhead_22 : decode cX0_eachIsOfTheOneAhead 22 = .ok (.iload_n 1, 1) := by decide +kernel
theorem dX0_eachIsOfTheOneAhead_23 : decode cX0_eachIsOfTheOneAhead 23 = .ok (.iconst 1, 1) := by decide +kernel
theorem dX0_eachIsOfTheOneAhead_24 : decode cX0_eachIsOfTheOneAhead 24 = .ok (.isub, 1) := by decide +kernel
theorem dX0_eachIsOfTheOneAhead_25 : decode cX0_eachIsOfTheOneAhead 25 = .ok (.iaload, 1) := by decide +kernel
theorem dX0_eachIsOfTheOneAhead_26 : decode cX0_eachIsOfTheOneAhead 26 = .ok (.isub, 1) := by decide +kernel
theorem dX0_eachIsOfTheOneAhead_27 : decode cX0_eachIsOfTheOneAhead 27 = .ok (.invokevirtual 43, 3) := by decide +kernel
theorem dX0_eachIsOfTheOneAhead_30 : decode cX0_eachIsOfTheOneAhead 30 = .ok (.ifCond .ne 5, 3) := by decide +kernel
theorem dX0_eachIsOfTheOneAhead_33 : decode cX0_eachIsOfTheOneAhead 33 = .ok (.iconst 0, 1) := by decide +kernel
theorem dX0_eachIsOfTheOneAhead_34 : decode cX0_eachIsOfTheOneAhead 34 = .ok (.ireturn, 1) := by decide +kernel
theorem dX0_eachIsOfTheOneAhead_35 : decode cX0_eachIsOfTheOneAhead 35 = .ok (.iinc 1 1, 3) := by decide +kernel
theorem dX0_eachIsOfTheOneAhead_38 : decode cX0_eachIsOfTheOneAhead 38 = .ok (.goto (-36), 3) := by decide +kernel
theorem dX0_eachIsOfTheOneAhead_41 : decode cX0_eachIsOfTheOneAhead 41 = .ok (.iconst 1, 1) := by decide +kernel
theorem dX0_eachIsOfTheOneAhead_42 : decode cX0_eachIsOfTheOneAhead 42 = .ok (.ireturn, 1) := by decide +kernel
theorem dX0_standsAheadOf_0 : decode cX0_standsAheadOf 0 = .ok (.iconst 0, 1) := by decide +kernel
theorem dX0_standsAheadOf_1 : decode cX0_standsAheadOf 1 = .ok (.istore_n 3, 1) := by decide +kernel
theorem dX0_standsAheadOf_2 : decode cX0_standsAheadOf 2 = .ok (.iload_n 3, 1) := by decide +kernel
theorem dX0_standsAheadOf_3 : decode cX0_standsAheadOf 3 = .ok (.iload_n 1, 1) := by decide +kernel
theorem dX0_standsAheadOf_4 : decode cX0_standsAheadOf 4 = .ok (.if_icmp .ge 21, 3) := by decide +kernel
theorem dX0_standsAheadOf_7 : decode cX0_standsAheadOf 7 = .ok (.aload_n 0, 1) := by decide +kernel
theorem dX0_standsAheadOf_8 : decode cX0_standsAheadOf 8 = .ok (.getfield 11, 3) := by decide +kernel
theorem dX0_standsAheadOf_11 : decode cX0_standsAheadOf 11 = .ok (.iload_n 3, 1) := by decide +kernel
theorem dX0_standsAheadOf_12 : decode cX0_standsAheadOf 12 = .ok (.iaload, 1) := by decide +kernel
theorem dX0_standsAheadOf_13 : decode cX0_standsAheadOf 13 = .ok (.iload_n 2, 1) := by decide +kernel
theorem dX0_standsAheadOf_14 : decode cX0_standsAheadOf 14 = .ok (.if_icmp .ne 5, 3) := by decide +kernel
theorem dX0_standsAheadOf_17 : decode cX0_standsAheadOf 17 = .ok (.iconst 1, 1) := by decide +kernel
theorem dX0_standsAheadOf_18 : decode cX0_standsAheadOf 18 = .ok (.ireturn, 1) := by decide +kernel
theorem dX0_standsAheadOf_19 : decode cX0_standsAheadOf 19 = .ok (.iinc 3 1, 3) := by decide +kernel
theorem dX0_standsAheadOf_22 : decode cX0_standsAheadOf 22 = .ok (.goto (-20), 3) := by decide +kernel
theorem dX0_standsAheadOf_25 : decode cX0_standsAheadOf 25 = .ok (.iconst 0, 1) := by decide +kernel
theorem dX0_standsAheadOf_26 : decode cX0_standsAheadOf 26 = .ok (.ireturn, 1) := by decide +kernel
theorem dX1_init_0 : decode cX1_init 0 = .ok (.aload_n 0, 1) := by decide +kernel
theorem dX1_init_1 : decode cX1_init 1 = .ok (.invokespecial 3, 3) := by decide +kernel
theorem dX1_init_4 : decode cX1_init 4 = .ok (.aload_n 0, 1) := by decide +kernel
theorem dX1_init_5 : decode cX1_init 5 = .ok (.iconst 4, 1) := by decide +kernel
theorem dX1_init_6 : decode cX1_init 6 = .ok (.newarray .int, 2) := by decide +kernel
theorem dX1_init_8 : decode cX1_init 8 = .ok (.putfield 9, 3) := by decide +kernel
theorem dX1_init_11 : decode cX1_init 11 = .ok (.aload_n 0, 1) := by decide +kernel
theorem dX1_init_12 : decode cX1_init 12 = .ok (.bipush 61, 2) := by decide +kernel
theorem dX1_init_14 : decode cX1_init 14 = .ok (.newarray .int, 2) := by decide +kernel
theorem dX1_init_16 : decode cX1_init 16 = .ok (.putfield 15, 3) := by decide +kernel
theorem dX1_init_19 : decode cX1_init 19 = .ok (.aload_n 0, 1) := by decide +kernel
theorem dX1_init_20 : decode cX1_init 20 = .ok (.bipush 61, 2) := by decide +kernel
theorem dX1_init_22 : decode cX1_init 22 = .ok (.newarray .int, 2) := by decide +kernel
theorem dX1_init_24 : decode cX1_init 24 = .ok (.putfield 18, 3) := by decide +kernel
theorem dX1_init_27 : decode cX1_init 27 = .ok (.return_, 1) := by decide +kernel
theorem dX1_tell_0 : decode cX1_tell 0 = .ok (.aload_n 0, 1) := by decide +kernel
theorem dX1_tell_1 : decode cX1_tell 1 = .ok (.getfield 9, 3) := by decide +kernel
theorem dX1_tell_4 : decode cX1_tell 4 = .ok (.iconst 0, 1) := by decide +kernel
theorem dX1_tell_5 : decode cX1_tell 5 = .ok (.iload_n 1, 1) := by decide +kernel
theorem dX1_tell_6 : decode cX1_tell 6 = .ok (.iastore, 1) := by decide +kernel
theorem dX1_tell_7 : decode cX1_tell 7 = .ok (.aload_n 0, 1) := by decide +kernel
theorem dX1_tell_8 : decode cX1_tell 8 = .ok (.getfield 9, 3) := by decide +kernel
theorem dX1_tell_11 : decode cX1_tell 11 = .ok (.iconst 1, 1) := by decide +kernel
theorem dX1_tell_12 : decode cX1_tell 12 = .ok (.iload_n 2, 1) := by decide +kernel
theorem dX1_tell_13 : decode cX1_tell 13 = .ok (.iastore, 1) := by decide +kernel
theorem dX1_tell_14 : decode cX1_tell 14 = .ok (.aload_n 0, 1) := by decide +kernel
theorem dX1_tell_15 : decode cX1_tell 15 = .ok (.getfield 9, 3) := by decide +kernel
theorem dX1_tell_18 : decode cX1_tell 18 = .ok (.iconst 2, 1) := by decide +kernel
theorem dX1_tell_19 : decode cX1_tell 19 = .ok (.iload_n 3, 1) := by decide +kernel
theorem dX1_tell_20 : decode cX1_tell 20 = .ok (.iastore, 1) := by decide +kernel
theorem dX1_tell_21 : decode cX1_tell 21 = .ok (.aload_n 0, 1) := by decide +kernel
theorem dX1_tell_22 : decode cX1_tell 22 = .ok (.getfield 9, 3) := by decide +kernel
theorem dX1_tell_25 : decode cX1_tell 25 = .ok (.iconst 3, 1) := by decide +kernel
theorem dX1_tell_26 : decode cX1_tell 26 = .ok (.iload 4, 2) := by decide +kernel
theorem dX1_tell_28 : decode cX1_tell 28 = .ok (.iastore, 1) := by decide +kernel
theorem dX1_tell_29 : decode cX1_tell 29 = .ok (.return_, 1) := by decide +kernel
theorem dX1_build_0 : decode cX1_build 0 = .ok (.iload_n 1, 1) := by decide +kernel
theorem dX1_build_1 : decode cX1_build 1 = .ok (.iconst 1, 1) := by decide +kernel
theorem dX1_build_2 : decode cX1_build 2 = .ok (.if_icmp .lt 8, 3) := by decide +kernel
theorem dX1_build_5 : decode cX1_build 5 = .ok (.iload_n 1, 1) := by decide +kernel
theorem dX1_build_6 : decode cX1_build 6 = .ok (.iconst 4, 1) := by decide +kernel
theorem dX1_build_7 : decode cX1_build 7 = .ok (.if_icmp .le 5, 3) := by decide +kernel
theorem dX1_build_10 : decode cX1_build 10 = .ok (.iconst 0, 1) := by decide +kernel
theorem dX1_build_11 : decode cX1_build 11 = .ok (.ireturn, 1) := by decide +kernel
theorem dX1_build_12 : decode cX1_build 12 = .ok (.aload_n 0, 1) := by decide +kernel
theorem dX1_build_13 : decode cX1_build 13 = .ok (.iconst 0, 1) := by decide +kernel
theorem dX1_build_14 : decode cX1_build 14 = .ok (.putfield 21, 3) := by decide +kernel
theorem dX1_build_17 : decode cX1_build 17 = .ok (.aload_n 0, 1) := by decide +kernel
theorem dX1_build_18 : decode cX1_build 18 = .ok (.iconst 1, 1) := by decide +kernel
theorem dX1_build_19 : decode cX1_build 19 = .ok (.invokevirtual 25, 3) := by decide +kernel
theorem dX1_build_22 : decode cX1_build 22 = .ok (.pop, 1) := by decide +kernel
theorem dX1_build_23 : decode cX1_build 23 = .ok (.iconst 0, 1) := by decide +kernel
theorem dX1_build_24 : decode cX1_build 24 = .ok (.istore_n 3, 1) := by decide +kernel
theorem dX1_build_25 : decode cX1_build 25 = .ok (.iload_n 3, 1) := by decide +kernel
theorem dX1_build_26 : decode cX1_build 26 = .ok (.iload_n 1, 1) := by decide +kernel
theorem dX1_build_27 : decode cX1_build 27 = .ok (.if_icmp .ge 44, 3) := by decide +kernel
theorem dX1_build_30 : decode cX1_build 30 = .ok (.aload_n 0, 1) := by decide +kernel
theorem dX1_build_31 : decode cX1_build 31 = .ok (.getfield 9, 3) := by decide +kernel
theorem dX1_build_34 : decode cX1_build 34 = .ok (.iload_n 3, 1) := by decide +kernel
theorem dX1_build_35 : decode cX1_build 35 = .ok (.iaload, 1) := by decide +kernel
theorem dX1_build_36 : decode cX1_build 36 = .ok (.iconst 1, 1) := by decide +kernel
theorem dX1_build_37 : decode cX1_build 37 = .ok (.if_icmp .lt 15, 3) := by decide +kernel
theorem dX1_build_40 : decode cX1_build 40 = .ok (.aload_n 0, 1) := by decide +kernel
theorem dX1_build_41 : decode cX1_build 41 = .ok (.getfield 9, 3) := by decide +kernel
theorem dX1_build_44 : decode cX1_build 44 = .ok (.iload_n 3, 1) := by decide +kernel
theorem dX1_build_45 : decode cX1_build 45 = .ok (.iaload, 1) := by decide +kernel
theorem dX1_build_46 : decode cX1_build 46 = .ok (.sipush 9999, 3) := by decide +kernel
theorem dX1_build_49 : decode cX1_build 49 = .ok (.if_icmp .le 5, 3) := by decide +kernel
theorem dX1_build_52 : decode cX1_build 52 = .ok (.iconst 0, 1) := by decide +kernel
theorem dX1_build_53 : decode cX1_build 53 = .ok (.ireturn, 1) := by decide +kernel
theorem dX1_build_54 : decode cX1_build 54 = .ok (.aload_n 0, 1) := by decide +kernel
theorem dX1_build_55 : decode cX1_build 55 = .ok (.aload_n 0, 1) := by decide +kernel
theorem dX1_build_56 : decode cX1_build 56 = .ok (.getfield 9, 3) := by decide +kernel
theorem dX1_build_59 : decode cX1_build 59 = .ok (.iload_n 3, 1) := by decide +kernel
theorem dX1_build_60 : decode cX1_build 60 = .ok (.iaload, 1) := by decide +kernel
theorem dX1_build_61 : decode cX1_build 61 = .ok (.invokevirtual 25, 3) := by decide +kernel
theorem dX1_build_64 : decode cX1_build 64 = .ok (.pop, 1) := by decide +kernel
theorem dX1_build_65 : decode cX1_build 65 = .ok (.iinc 3 1, 3) := by decide +kernel
theorem dX1_build_68 : decode cX1_build 68 = .ok (.goto (-43), 3) := by decide +kernel
theorem dX1_build_71 : decode cX1_build 71 = .ok (.aload_n 0, 1) := by decide +kernel
theorem dX1_build_72 : decode cX1_build 72 = .ok (.invokevirtual 29, 3) := by decide +kernel
theorem dX1_build_75 : decode cX1_build 75 = .ok (.ifCond .ne 5, 3) := by decide +kernel
theorem dX1_build_78 : decode cX1_build 78 = .ok (.iconst 0, 1) := by decide +kernel
theorem dX1_build_79 : decode cX1_build 79 = .ok (.ireturn, 1) := by decide +kernel
theorem dX1_build_80 : decode cX1_build 80 = .ok (.aload_n 0, 1) := by decide +kernel
theorem dX1_build_81 : decode cX1_build 81 = .ok (.iload_n 1, 1) := by decide +kernel
theorem dX1_build_82 : decode cX1_build 82 = .ok (.aload_n 2, 1) := by decide +kernel
theorem dX1_build_83 : decode cX1_build 83 = .ok (.invokevirtual 33, 3) := by decide +kernel
theorem dX1_build_86 : decode cX1_build 86 = .ok (.iconst 1, 1) := by decide +kernel
theorem dX1_build_87 : decode cX1_build 87 = .ok (.ireturn, 1) := by decide +kernel
theorem dX1_descend_0 : decode cX1_descend 0 = .ok (.aload_n 0, 1) := by decide +kernel
theorem dX1_descend_1 : decode cX1_descend 1 = .ok (.getfield 21, 3) := by decide +kernel
theorem dX1_descend_4 : decode cX1_descend 4 = .ok (.iconst 1, 1) := by decide +kernel
theorem dX1_descend_5 : decode cX1_descend 5 = .ok (.isub, 1) := by decide +kernel
theorem dX1_descend_6 : decode cX1_descend 6 = .ok (.istore_n 1, 1) := by decide +kernel
theorem dX1_descend_7 : decode cX1_descend 7 = .ok (.iconst 0, 1) := by decide +kernel
theorem dX1_descend_8 : decode cX1_descend 8 = .ok (.istore_n 2, 1) := by decide +kernel
theorem dX1_descend_9 : decode cX1_descend 9 = .ok (.iload_n 2, 1) := by decide +kernel
theorem dX1_descend_10 : decode cX1_descend 10 = .ok (.bipush 60, 2) := by decide +kernel
theorem dX1_descend_12 : decode cX1_descend 12 = .ok (.if_icmp .ge 90, 3) := by decide +kernel
theorem dX1_descend_15 : decode cX1_descend 15 = .ok (.iload_n 1, 1) := by decide +kernel
theorem dX1_descend_16 : decode cX1_descend 16 = .ok (.ifCond .le 86, 3) := by decide +kernel
theorem dX1_descend_19 : decode cX1_descend 19 = .ok (.aload_n 0, 1) := by decide +kernel
theorem dX1_descend_20 : decode cX1_descend 20 = .ok (.getfield 15, 3) := by decide +kernel
theorem dX1_descend_23 : decode cX1_descend 23 = .ok (.iload_n 1, 1) := by decide +kernel
theorem dX1_descend_24 : decode cX1_descend 24 = .ok (.iaload, 1) := by decide +kernel
theorem dX1_descend_25 : decode cX1_descend 25 = .ok (.istore_n 3, 1) := by decide +kernel
theorem dX1_descend_26 : decode cX1_descend 26 = .ok (.aload_n 0, 1) := by decide +kernel
theorem dX1_descend_27 : decode cX1_descend 27 = .ok (.getfield 18, 3) := by decide +kernel
theorem dX1_descend_30 : decode cX1_descend 30 = .ok (.iload_n 1, 1) := by decide +kernel
theorem dX1_descend_31 : decode cX1_descend 31 = .ok (.iload_n 3, 1) := by decide +kernel
theorem dX1_descend_32 : decode cX1_descend 32 = .ok (.aload_n 0, 1) := by decide +kernel
theorem dX1_descend_33 : decode cX1_descend 33 = .ok (.getfield 15, 3) := by decide +kernel
theorem dX1_descend_36 : decode cX1_descend 36 = .ok (.iload_n 1, 1) := by decide +kernel
theorem dX1_descend_37 : decode cX1_descend 37 = .ok (.iconst 1, 1) := by decide +kernel
theorem dX1_descend_38 : decode cX1_descend 38 = .ok (.isub, 1) := by decide +kernel
theorem dX1_descend_39 : decode cX1_descend 39 = .ok (.iaload, 1) := by decide +kernel
theorem dX1_descend_40 : decode cX1_descend 40 = .ok (.invokestatic 37, 3) := by decide +kernel
theorem dX1_descend_43 : decode cX1_descend 43 = .ok (.iastore, 1) := by decide +kernel
theorem dX1_descend_44 : decode cX1_descend 44 = .ok (.iload_n 3, 1) := by decide +kernel
theorem dX1_descend_45 : decode cX1_descend 45 = .ok (.aload_n 0, 1) := by decide +kernel
theorem dX1_descend_46 : decode cX1_descend 46 = .ok (.getfield 18, 3) := by decide +kernel
theorem dX1_descend_49 : decode cX1_descend 49 = .ok (.iload_n 1, 1) := by decide +kernel
theorem dX1_descend_50 : decode cX1_descend 50 = .ok (.iaload, 1) := by decide +kernel
theorem dX1_descend_51 : decode cX1_descend 51 = .ok (.isub, 1) := by decide +kernel
theorem dX1_descend_52 : decode cX1_descend 52 = .ok (.istore 4, 2) := by decide +kernel
theorem dX1_descend_54 : decode cX1_descend 54 = .ok (.aload_n 0, 1) := by decide +kernel
theorem dX1_descend_55 : decode cX1_descend 55 = .ok (.getfield 21, 3) := by decide +kernel
theorem dX1_descend_58 : decode cX1_descend 58 = .ok (.istore 5, 2) := by decide +kernel
theorem dX1_descend_60 : decode cX1_descend 60 = .ok (.aload_n 0, 1) := by decide +kernel
theorem dX1_descend_61 : decode cX1_descend 61 = .ok (.aload_n 0, 1) := by decide +kernel
theorem dX1_descend_62 : decode cX1_descend 62 = .ok (.getfield 18, 3) := by decide +kernel
theorem dX1_descend_65 : decode cX1_descend 65 = .ok (.iload_n 1, 1) := by decide +kernel
theorem dX1_descend_66 : decode cX1_descend 66 = .ok (.iaload, 1) := by decide +kernel
theorem dX1_descend_67 : decode cX1_descend 67 = .ok (.invokevirtual 25, 3) := by decide +kernel
theorem dX1_descend_70 : decode cX1_descend 70 = .ok (.ifCond .eq 12, 3) := by decide +kernel
theorem dX1_descend_73 : decode cX1_descend 73 = .ok (.aload_n 0, 1) := by decide +kernel
theorem dX1_descend_74 : decode cX1_descend 74 = .ok (.iload 4, 2) := by decide +kernel
theorem dX1_descend_76 : decode cX1_descend 76 = .ok (.invokevirtual 25, 3) := by decide +kernel
theorem dX1_descend_79 : decode cX1_descend 79 = .ok (.ifCond .ne 5, 3) := by decide +kernel
theorem dX1_descend_82 : decode cX1_descend 82 = .ok (.iconst 0, 1) := by decide +kernel
theorem dX1_descend_83 : decode cX1_descend 83 = .ok (.ireturn, 1) := by decide +kernel
theorem dX1_descend_84 : decode cX1_descend 84 = .ok (.iload_n 1, 1) := by decide +kernel
theorem dX1_descend_85 : decode cX1_descend 85 = .ok (.aload_n 0, 1) := by decide +kernel
theorem dX1_descend_86 : decode cX1_descend 86 = .ok (.getfield 21, 3) := by decide +kernel
theorem dX1_descend_89 : decode cX1_descend 89 = .ok (.iload 5, 2) := by decide +kernel
theorem dX1_descend_91 : decode cX1_descend 91 = .ok (.isub, 1) := by decide +kernel
theorem dX1_descend_92 : decode cX1_descend 92 = .ok (.iconst 1, 1) := by decide +kernel
theorem dX1_descend_93 : decode cX1_descend 93 = .ok (.isub, 1) := by decide +kernel
theorem dX1_descend_94 : decode cX1_descend 94 = .ok (.iadd, 1) := by decide +kernel
theorem dX1_descend_95 : decode cX1_descend 95 = .ok (.istore_n 1, 1) := by decide +kernel
theorem dX1_descend_96 : decode cX1_descend 96 = .ok (.iinc 2 1, 3) := by decide +kernel
theorem dX1_descend_99 : decode cX1_descend 99 = .ok (.goto (-90), 3) := by decide +kernel
theorem dX1_descend_102 : decode cX1_descend 102 = .ok (.iload_n 1, 1) := by decide +kernel
theorem dX1_descend_103 : decode cX1_descend 103 = .ok (.ifCond .ne 7, 3) := by decide +kernel
theorem dX1_descend_106 : decode cX1_descend 106 = .ok (.iconst 1, 1) := by decide +kernel
theorem dX1_descend_107 : decode cX1_descend 107 = .ok (.goto 4, 3) := by decide +kernel
theorem dX1_descend_110 : decode cX1_descend 110 = .ok (.iconst 0, 1) := by decide +kernel
theorem dX1_descend_111 : decode cX1_descend 111 = .ok (.ireturn, 1) := by decide +kernel
theorem dX1_greaterPart_0 : decode cX1_greaterPart 0 = .ok (.iload_n 0, 1) := by decide +kernel
theorem dX1_greaterPart_1 : decode cX1_greaterPart 1 = .ok (.iconst 2, 1) := by decide +kernel
theorem dX1_greaterPart_2 : decode cX1_greaterPart 2 = .ok (.iload_n 1, 1) := by decide +kernel
theorem dX1_greaterPart_3 : decode cX1_greaterPart 3 = .ok (.imul, 1) := by decide +kernel
theorem dX1_greaterPart_4 : decode cX1_greaterPart 4 = .ok (.if_icmp .gt 5, 3) := by decide +kernel
theorem dX1_greaterPart_7 : decode cX1_greaterPart 7 = .ok (.iload_n 1, 1) := by decide +kernel
theorem dX1_greaterPart_8 : decode cX1_greaterPart 8 = .ok (.ireturn, 1) := by decide +kernel
theorem dX1_greaterPart_9 : decode cX1_greaterPart 9 = .ok (.iload_n 0, 1) := by decide +kernel
theorem dX1_greaterPart_10 : decode cX1_greaterPart 10 = .ok (.iconst 2, 1) := by decide +kernel
theorem dX1_greaterPart_11 : decode cX1_greaterPart 11 = .ok (.irem, 1) := by decide +kernel
theorem dX1_greaterPart_12 : decode cX1_greaterPart 12 = .ok (.ifCond .ne 9, 3) := by decide +kernel
theorem dX1_greaterPart_15 : decode cX1_greaterPart 15 = .ok (.iload_n 0, 1) := by decide +kernel
theorem dX1_greaterPart_16 : decode cX1_greaterPart 16 = .ok (.iconst 2, 1) := by decide +kernel
theorem dX1_greaterPart_17 : decode cX1_greaterPart 17 = .ok (.idiv, 1) := by decide +kernel
theorem dX1_greaterPart_18 : decode cX1_greaterPart 18 = .ok (.goto 6, 3) := by decide +kernel
theorem dX1_greaterPart_21 : decode cX1_greaterPart 21 = .ok (.iload_n 0, 1) := by decide +kernel
theorem dX1_greaterPart_22 : decode cX1_greaterPart 22 = .ok (.iconst 1, 1) := by decide +kernel
theorem dX1_greaterPart_23 : decode cX1_greaterPart 23 = .ok (.isub, 1) := by decide +kernel
theorem dX1_greaterPart_24 : decode cX1_greaterPart 24 = .ok (.ireturn, 1) := by decide +kernel
theorem dX1_put_0 : decode cX1_put 0 = .ok (.aload_n 0, 1) := by decide +kernel
theorem dX1_put_1 : decode cX1_put 1 = .ok (.iload_n 1, 1) := by decide +kernel
theorem dX1_put_2 : decode cX1_put 2 = .ok (.invokevirtual 41, 3) := by decide +kernel
theorem dX1_put_5 : decode cX1_put 5 = .ok (.istore_n 2, 1) := by decide +kernel
theorem dX1_put_6 : decode cX1_put 6 = .ok (.iload_n 2, 1) := by decide +kernel
theorem dX1_put_7 : decode cX1_put 7 = .ok (.aload_n 0, 1) := by decide +kernel
theorem dX1_put_8 : decode cX1_put 8 = .ok (.getfield 21, 3) := by decide +kernel
theorem dX1_put_11 : decode cX1_put 11 = .ok (.if_icmp .ge 15, 3) := by decide +kernel
theorem dX1_put_14 : decode cX1_put 14 = .ok (.aload_n 0, 1) := by decide +kernel
theorem dX1_put_15 : decode cX1_put 15 = .ok (.getfield 15, 3) := by decide +kernel
theorem dX1_put_18 : decode cX1_put 18 = .ok (.iload_n 2, 1) := by decide +kernel
theorem dX1_put_19 : decode cX1_put 19 = .ok (.iaload, 1) := by decide +kernel
theorem dX1_put_20 : decode cX1_put 20 = .ok (.iload_n 1, 1) := by decide +kernel
theorem dX1_put_21 : decode cX1_put 21 = .ok (.if_icmp .ne 5, 3) := by decide +kernel
theorem dX1_put_24 : decode cX1_put 24 = .ok (.iconst 1, 1) := by decide +kernel
theorem dX1_put_25 : decode cX1_put 25 = .ok (.ireturn, 1) := by decide +kernel
theorem dX1_put_26 : decode cX1_put 26 = .ok (.aload_n 0, 1) := by decide +kernel
theorem dX1_put_27 : decode cX1_put 27 = .ok (.getfield 21, 3) := by decide +kernel
theorem dX1_put_30 : decode cX1_put 30 = .ok (.bipush 60, 2) := by decide +kernel
theorem dX1_put_32 : decode cX1_put 32 = .ok (.if_icmp .le 5, 3) := by decide +kernel
theorem dX1_put_35 : decode cX1_put 35 = .ok (.iconst 0, 1) := by decide +kernel
theorem dX1_put_36 : decode cX1_put 36 = .ok (.ireturn, 1) := by decide +kernel
theorem dX1_put_37 : decode cX1_put 37 = .ok (.aload_n 0, 1) := by decide +kernel
theorem dX1_put_38 : decode cX1_put 38 = .ok (.getfield 21, 3) := by decide +kernel
theorem dX1_put_41 : decode cX1_put 41 = .ok (.istore_n 3, 1) := by decide +kernel
theorem dX1_put_42 : decode cX1_put 42 = .ok (.iload_n 3, 1) := by decide +kernel
theorem dX1_put_43 : decode cX1_put 43 = .ok (.iload_n 2, 1) := by decide +kernel
theorem dX1_put_44 : decode cX1_put 44 = .ok (.if_icmp .le 37, 3) := by decide +kernel
theorem dX1_put_47 : decode cX1_put 47 = .ok (.aload_n 0, 1) := by decide +kernel
theorem dX1_put_48 : decode cX1_put 48 = .ok (.getfield 15, 3) := by decide +kernel
theorem dX1_put_51 : decode cX1_put 51 = .ok (.iload_n 3, 1) := by decide +kernel
theorem dX1_put_52 : decode cX1_put 52 = .ok (.aload_n 0, 1) := by decide +kernel
theorem dX1_put_53 : decode cX1_put 53 = .ok (.getfield 15, 3) := by decide +kernel
theorem dX1_put_56 : decode cX1_put 56 = .ok (.iload_n 3, 1) := by decide +kernel
theorem dX1_put_57 : decode cX1_put 57 = .ok (.iconst 1, 1) := by decide +kernel
theorem dX1_put_58 : decode cX1_put 58 = .ok (.isub, 1) := by decide +kernel
theorem dX1_put_59 : decode cX1_put 59 = .ok (.iaload, 1) := by decide +kernel
theorem dX1_put_60 : decode cX1_put 60 = .ok (.iastore, 1) := by decide +kernel
theorem dX1_put_61 : decode cX1_put 61 = .ok (.aload_n 0, 1) := by decide +kernel
theorem dX1_put_62 : decode cX1_put 62 = .ok (.getfield 18, 3) := by decide +kernel
theorem dX1_put_65 : decode cX1_put 65 = .ok (.iload_n 3, 1) := by decide +kernel
theorem dX1_put_66 : decode cX1_put 66 = .ok (.aload_n 0, 1) := by decide +kernel
theorem dX1_put_67 : decode cX1_put 67 = .ok (.getfield 18, 3) := by decide +kernel
theorem dX1_put_70 : decode cX1_put 70 = .ok (.iload_n 3, 1) := by decide +kernel
theorem dX1_put_71 : decode cX1_put 71 = .ok (.iconst 1, 1) := by decide +kernel
theorem dX1_put_72 : decode cX1_put 72 = .ok (.isub, 1) := by decide +kernel
theorem dX1_put_73 : decode cX1_put 73 = .ok (.iaload, 1) := by decide +kernel
theorem dX1_put_74 : decode cX1_put 74 = .ok (.iastore, 1) := by decide +kernel
theorem dX1_put_75 : decode cX1_put 75 = .ok (.iinc 3 (-1), 3) := by decide +kernel
theorem dX1_put_78 : decode cX1_put 78 = .ok (.goto (-36), 3) := by decide +kernel
theorem dX1_put_81 : decode cX1_put 81 = .ok (.aload_n 0, 1) := by decide +kernel
theorem dX1_put_82 : decode cX1_put 82 = .ok (.getfield 15, 3) := by decide +kernel
theorem dX1_put_85 : decode cX1_put 85 = .ok (.iload_n 2, 1) := by decide +kernel
theorem dX1_put_86 : decode cX1_put 86 = .ok (.iload_n 1, 1) := by decide +kernel
theorem dX1_put_87 : decode cX1_put 87 = .ok (.iastore, 1) := by decide +kernel
theorem dX1_put_88 : decode cX1_put 88 = .ok (.aload_n 0, 1) := by decide +kernel
theorem dX1_put_89 : decode cX1_put 89 = .ok (.dup, 1) := by decide +kernel
theorem dX1_put_90 : decode cX1_put 90 = .ok (.getfield 21, 3) := by decide +kernel
theorem dX1_put_93 : decode cX1_put 93 = .ok (.iconst 1, 1) := by decide +kernel
theorem dX1_put_94 : decode cX1_put 94 = .ok (.iadd, 1) := by decide +kernel
theorem dX1_put_95 : decode cX1_put 95 = .ok (.putfield 21, 3) := by decide +kernel
theorem dX1_put_98 : decode cX1_put 98 = .ok (.iconst 1, 1) := by decide +kernel
theorem dX1_put_99 : decode cX1_put 99 = .ok (.ireturn, 1) := by decide +kernel
theorem dX1_placeOf_0 : decode cX1_placeOf 0 = .ok (.iconst 0, 1) := by decide +kernel
theorem dX1_placeOf_1 : decode cX1_placeOf 1 = .ok (.istore_n 2, 1) := by decide +kernel
theorem dX1_placeOf_2 : decode cX1_placeOf 2 = .ok (.iload_n 2, 1) := by decide +kernel
theorem dX1_placeOf_3 : decode cX1_placeOf 3 = .ok (.aload_n 0, 1) := by decide +kernel
theorem dX1_placeOf_4 : decode cX1_placeOf 4 = .ok (.getfield 21, 3) := by decide +kernel
theorem dX1_placeOf_7 : decode cX1_placeOf 7 = .ok (.if_icmp .ge 19, 3) := by decide +kernel
theorem dX1_placeOf_10 : decode cX1_placeOf 10 = .ok (.aload_n 0, 1) := by decide +kernel
theorem dX1_placeOf_11 : decode cX1_placeOf 11 = .ok (.getfield 15, 3) := by decide +kernel
theorem dX1_placeOf_14 : decode cX1_placeOf 14 = .ok (.iload_n 2, 1) := by decide +kernel
theorem dX1_placeOf_15 : decode cX1_placeOf 15 = .ok (.iaload, 1) := by decide +kernel
theorem dX1_placeOf_16 : decode cX1_placeOf 16 = .ok (.iload_n 1, 1) := by decide +kernel
theorem dX1_placeOf_17 : decode cX1_placeOf 17 = .ok (.if_icmp .ge 9, 3) := by decide +kernel
theorem dX1_placeOf_20 : decode cX1_placeOf 20 = .ok (.iinc 2 1, 3) := by decide +kernel
theorem dX1_placeOf_23 : decode cX1_placeOf 23 = .ok (.goto (-21), 3) := by decide +kernel
theorem dX1_placeOf_26 : decode cX1_placeOf 26 = .ok (.iload_n 2, 1) := by decide +kernel
theorem dX1_placeOf_27 : decode cX1_placeOf 27 = .ok (.ireturn, 1) := by decide +kernel
theorem dX1_write_0 : decode cX1_write 0 = .ok (.aload_n 2, 1) := by decide +kernel
theorem dX1_write_1 : decode cX1_write 1 = .ok (.iconst 1, 1) := by decide +kernel
theorem dX1_write_2 : decode cX1_write 2 = .ok (.invokevirtual 45, 3) := by decide +kernel
theorem dX1_write_5 : decode cX1_write 5 = .ok (.iconst 1, 1) := by decide +kernel
theorem dX1_write_6 : decode cX1_write 6 = .ok (.istore_n 3, 1) := by decide +kernel
theorem dX1_write_7 : decode cX1_write 7 = .ok (.iload_n 3, 1) := by decide +kernel
theorem dX1_write_8 : decode cX1_write 8 = .ok (.aload_n 0, 1) := by decide +kernel
theorem dX1_write_9 : decode cX1_write 9 = .ok (.getfield 21, 3) := by decide +kernel
theorem dX1_write_12 : decode cX1_write 12 = .ok (.if_icmp .ge 41, 3) := by decide +kernel
theorem dX1_write_15 : decode cX1_write 15 = .ok (.aload_n 2, 1) := by decide +kernel
theorem dX1_write_16 : decode cX1_write 16 = .ok (.aload_n 0, 1) := by decide +kernel
theorem dX1_write_17 : decode cX1_write 17 = .ok (.aload_n 0, 1) := by decide +kernel
theorem dX1_write_18 : decode cX1_write 18 = .ok (.getfield 18, 3) := by decide +kernel
theorem dX1_write_21 : decode cX1_write 21 = .ok (.iload_n 3, 1) := by decide +kernel
theorem dX1_write_22 : decode cX1_write 22 = .ok (.iaload, 1) := by decide +kernel
theorem dX1_write_23 : decode cX1_write 23 = .ok (.invokevirtual 41, 3) := by decide +kernel
theorem dX1_write_26 : decode cX1_write 26 = .ok (.aload_n 0, 1) := by decide +kernel
theorem dX1_write_27 : decode cX1_write 27 = .ok (.aload_n 0, 1) := by decide +kernel
theorem dX1_write_28 : decode cX1_write 28 = .ok (.getfield 15, 3) := by decide +kernel
theorem dX1_write_31 : decode cX1_write 31 = .ok (.iload_n 3, 1) := by decide +kernel
theorem dX1_write_32 : decode cX1_write 32 = .ok (.iaload, 1) := by decide +kernel
theorem dX1_write_33 : decode cX1_write 33 = .ok (.aload_n 0, 1) := by decide +kernel
theorem dX1_write_34 : decode cX1_write 34 = .ok (.getfield 18, 3) := by decide +kernel
theorem dX1_write_37 : decode cX1_write 37 = .ok (.iload_n 3, 1) := by decide +kernel
theorem dX1_write_38 : decode cX1_write 38 = .ok (.iaload, 1) := by decide +kernel
theorem dX1_write_39 : decode cX1_write 39 = .ok (.isub, 1) := by decide +kernel
theorem dX1_write_40 : decode cX1_write 40 = .ok (.invokevirtual 41, 3) := by decide +kernel
theorem dX1_write_43 : decode cX1_write 43 = .ok (.invokevirtual 51, 3) := by decide +kernel
theorem dX1_write_46 : decode cX1_write 46 = .ok (.pop, 1) := by decide +kernel
theorem dX1_write_47 : decode cX1_write 47 = .ok (.iinc 3 1, 3) := by decide +kernel
theorem dX1_write_50 : decode cX1_write 50 = .ok (.goto (-43), 3) := by decide +kernel
theorem dX1_write_53 : decode cX1_write 53 = .ok (.iconst 0, 1) := by decide +kernel
theorem dX1_write_54 : decode cX1_write 54 = .ok (.istore_n 3, 1) := by decide +kernel
theorem dX1_write_55 : decode cX1_write 55 = .ok (.iload_n 3, 1) := by decide +kernel
theorem dX1_write_56 : decode cX1_write 56 = .ok (.iload_n 1, 1) := by decide +kernel
theorem dX1_write_57 : decode cX1_write 57 = .ok (.if_icmp .ge 25, 3) := by decide +kernel
theorem dX1_write_60 : decode cX1_write 60 = .ok (.aload_n 2, 1) := by decide +kernel
theorem dX1_write_61 : decode cX1_write 61 = .ok (.getfield 54, 3) := by decide +kernel
theorem dX1_write_64 : decode cX1_write 64 = .ok (.iload_n 3, 1) := by decide +kernel
theorem dX1_write_65 : decode cX1_write 65 = .ok (.aload_n 0, 1) := by decide +kernel
theorem dX1_write_66 : decode cX1_write 66 = .ok (.aload_n 0, 1) := by decide +kernel
theorem dX1_write_67 : decode cX1_write 67 = .ok (.getfield 9, 3) := by decide +kernel
theorem dX1_write_70 : decode cX1_write 70 = .ok (.iload_n 3, 1) := by decide +kernel
theorem dX1_write_71 : decode cX1_write 71 = .ok (.iaload, 1) := by decide +kernel
theorem dX1_write_72 : decode cX1_write 72 = .ok (.invokevirtual 41, 3) := by decide +kernel
theorem dX1_write_75 : decode cX1_write 75 = .ok (.iastore, 1) := by decide +kernel
theorem dX1_write_76 : decode cX1_write 76 = .ok (.iinc 3 1, 3) := by decide +kernel
theorem dX1_write_79 : decode cX1_write 79 = .ok (.goto (-24), 3) := by decide +kernel
theorem dX1_write_82 : decode cX1_write 82 = .ok (.aload_n 2, 1) := by decide +kernel
theorem dX1_write_83 : decode cX1_write 83 = .ok (.iload_n 1, 1) := by decide +kernel
theorem dX1_write_84 : decode cX1_write 84 = .ok (.putfield 57, 3) := by decide +kernel
theorem dX1_write_87 : decode cX1_write 87 = .ok (.return_, 1) := by decide +kernel
theorem dX2_init_0 : decode cX2_init 0 = .ok (.aload_n 0, 1) := by decide +kernel
theorem dX2_init_1 : decode cX2_init 1 = .ok (.invokespecial 3, 3) := by decide +kernel
theorem dX2_init_4 : decode cX2_init 4 = .ok (.aload_n 0, 1) := by decide +kernel
theorem dX2_init_5 : decode cX2_init 5 = .ok (.sipush 256, 3) := by decide +kernel
theorem dX2_init_8 : decode cX2_init 8 = .ok (.newarray .long, 2) := by decide +kernel
theorem dX2_init_10 : decode cX2_init 10 = .ok (.putfield 9, 3) := by decide +kernel
theorem dX2_init_13 : decode cX2_init 13 = .ok (.return_, 1) := by decide +kernel
theorem dX2_measure_0 : decode cX2_measure 0 = .ok (.iconst 0, 1) := by decide +kernel
theorem dX2_measure_1 : decode cX2_measure 1 = .ok (.istore_n 2, 1) := by decide +kernel
theorem dX2_measure_2 : decode cX2_measure 2 = .ok (.iload_n 2, 1) := by decide +kernel
theorem dX2_measure_3 : decode cX2_measure 3 = .ok (.aload_n 1, 1) := by decide +kernel
theorem dX2_measure_4 : decode cX2_measure 4 = .ok (.invokevirtual 15, 3) := by decide +kernel
theorem dX2_measure_7 : decode cX2_measure 7 = .ok (.if_icmp .ge 42, 3) := by decide +kernel
theorem dX2_measure_10 : decode cX2_measure 10 = .ok (.aload_n 1, 1) := by decide +kernel
theorem dX2_measure_11 : decode cX2_measure 11 = .ok (.iload_n 2, 1) := by decide +kernel
theorem dX2_measure_12 : decode cX2_measure 12 = .ok (.invokevirtual 21, 3) := by decide +kernel
theorem dX2_measure_15 : decode cX2_measure 15 = .ok (.ifCond .eq 11, 3) := by decide +kernel
theorem dX2_measure_18 : decode cX2_measure 18 = .ok (.aload_n 0, 1) := by decide +kernel
theorem dX2_measure_19 : decode cX2_measure 19 = .ok (.iload_n 2, 1) := by decide +kernel
theorem dX2_measure_20 : decode cX2_measure 20 = .ok (.invokevirtual 25, 3) := by decide +kernel
theorem dX2_measure_23 : decode cX2_measure 23 = .ok (.goto 20, 3) := by decide +kernel
theorem dX2_measure_26 : decode cX2_measure 26 = .ok (.aload_n 0, 1) := by decide +kernel
theorem dX2_measure_27 : decode cX2_measure 27 = .ok (.iload_n 2, 1) := by decide +kernel
theorem dX2_measure_28 : decode cX2_measure 28 = .ok (.aload_n 1, 1) := by decide +kernel
theorem dX2_measure_29 : decode cX2_measure 29 = .ok (.getfield 29, 3) := by decide +kernel
theorem dX2_measure_32 : decode cX2_measure 32 = .ok (.iload_n 2, 1) := by decide +kernel
theorem dX2_measure_33 : decode cX2_measure 33 = .ok (.iaload, 1) := by decide +kernel
theorem dX2_measure_34 : decode cX2_measure 34 = .ok (.aload_n 1, 1) := by decide +kernel
theorem dX2_measure_35 : decode cX2_measure 35 = .ok (.getfield 33, 3) := by decide +kernel
theorem dX2_measure_38 : decode cX2_measure 38 = .ok (.iload_n 2, 1) := by decide +kernel
theorem dX2_measure_39 : decode cX2_measure 39 = .ok (.iaload, 1) := by decide +kernel
theorem dX2_measure_40 : decode cX2_measure 40 = .ok (.invokevirtual 36, 3) := by decide +kernel
theorem dX2_measure_43 : decode cX2_measure 43 = .ok (.iinc 2 1, 3) := by decide +kernel
theorem dX2_measure_46 : decode cX2_measure 46 = .ok (.goto (-44), 3) := by decide +kernel
theorem dX2_measure_49 : decode cX2_measure 49 = .ok (.return_, 1) := by decide +kernel
theorem dX2_measureBase_0 : decode cX2_measureBase 0 = .ok (.iconst 0, 1) := by decide +kernel
theorem dX2_measureBase_1 : decode cX2_measureBase 1 = .ok (.istore_n 2, 1) := by decide +kernel
theorem dX2_measureBase_2 : decode cX2_measureBase 2 = .ok (.iload_n 2, 1) := by decide +kernel
theorem dX2_measureBase_3 : decode cX2_measureBase 3 = .ok (.iconst 4, 1) := by decide +kernel
theorem dX2_measureBase_4 : decode cX2_measureBase 4 = .ok (.if_icmp .ge 29, 3) := by decide +kernel
theorem dX2_measureBase_7 : decode cX2_measureBase 7 = .ok (.aload_n 0, 1) := by decide +kernel
theorem dX2_measureBase_8 : decode cX2_measureBase 8 = .ok (.getfield 9, 3) := by decide +kernel
theorem dX2_measureBase_11 : decode cX2_measureBase 11 = .ok (.iload_n 1, 1) := by decide +kernel
theorem dX2_measureBase_12 : decode cX2_measureBase 12 = .ok (.iconst 4, 1) := by decide +kernel
theorem dX2_measureBase_13 : decode cX2_measureBase 13 = .ok (.imul, 1) := by decide +kernel
theorem dX2_measureBase_14 : decode cX2_measureBase 14 = .ok (.iload_n 2, 1) := by decide +kernel
theorem dX2_measureBase_15 : decode cX2_measureBase 15 = .ok (.iadd, 1) := by decide +kernel
theorem dX2_measureBase_16 : decode cX2_measureBase 16 = .ok (.iload_n 2, 1) := by decide +kernel
theorem dX2_measureBase_17 : decode cX2_measureBase 17 = .ok (.iload_n 1, 1) := by decide +kernel
theorem dX2_measureBase_18 : decode cX2_measureBase 18 = .ok (.if_icmp .ne 7, 3) := by decide +kernel
theorem dX2_measureBase_21 : decode cX2_measureBase 21 = .ok (.lconst 1, 1) := by decide +kernel
theorem dX2_measureBase_22 : decode cX2_measureBase 22 = .ok (.goto 4, 3) := by decide +kernel
theorem dX2_measureBase_25 : decode cX2_measureBase 25 = .ok (.lconst 0, 1) := by decide +kernel
theorem dX2_measureBase_26 : decode cX2_measureBase 26 = .ok (.lastore, 1) := by decide +kernel
theorem dX2_measureBase_27 : decode cX2_measureBase 27 = .ok (.iinc 2 1, 3) := by decide +kernel
theorem dX2_measureBase_30 : decode cX2_measureBase 30 = .ok (.goto (-28), 3) := by decide +kernel
theorem dX2_measureBase_33 : decode cX2_measureBase 33 = .ok (.return_, 1) := by decide +kernel
theorem dX2_measureStep_0 : decode cX2_measureStep 0 = .ok (.iconst 0, 1) := by decide +kernel
theorem dX2_measureStep_1 : decode cX2_measureStep 1 = .ok (.istore 4, 2) := by decide +kernel
theorem dX2_measureStep_3 : decode cX2_measureStep 3 = .ok (.iload 4, 2) := by decide +kernel
theorem dX2_measureStep_5 : decode cX2_measureStep 5 = .ok (.iconst 4, 1) := by decide +kernel
theorem dX2_measureStep_6 : decode cX2_measureStep 6 = .ok (.if_icmp .ge 35, 3) := by decide +kernel
theorem dX2_measureStep_9 : decode cX2_measureStep 9 = .ok (.aload_n 0, 1) := by decide +kernel
theorem dX2_measureStep_10 : decode cX2_measureStep 10 = .ok (.getfield 9, 3) := by decide +kernel
theorem dX2_measureStep_13 : decode cX2_measureStep 13 = .ok (.iload_n 1, 1) := by decide +kernel
theorem dX2_measureStep_14 : decode cX2_measureStep 14 = .ok (.iconst 4, 1) := by decide +kernel
theorem dX2_measureStep_15 : decode cX2_measureStep 15 = .ok (.imul, 1) := by decide +kernel
theorem dX2_measureStep_16 : decode cX2_measureStep 16 = .ok (.iload 4, 2) := by decide +kernel
theorem dX2_measureStep_18 : decode cX2_measureStep 18 = .ok (.iadd, 1) := by decide +kernel
theorem dX2_measureStep_19 : decode cX2_measureStep 19 = .ok (.aload_n 0, 1) := by decide +kernel
theorem dX2_measureStep_20 : decode cX2_measureStep 20 = .ok (.iload_n 2, 1) := by decide +kernel
theorem dX2_measureStep_21 : decode cX2_measureStep 21 = .ok (.iload 4, 2) := by decide +kernel
theorem dX2_measureStep_23 : decode cX2_measureStep 23 = .ok (.invokevirtual 40, 3) := by decide +kernel
theorem dX2_measureStep_26 : decode cX2_measureStep 26 = .ok (.aload_n 0, 1) := by decide +kernel
theorem dX2_measureStep_27 : decode cX2_measureStep 27 = .ok (.iload_n 3, 1) := by decide +kernel
theorem dX2_measureStep_28 : decode cX2_measureStep 28 = .ok (.iload 4, 2) := by decide +kernel
theorem dX2_measureStep_30 : decode cX2_measureStep 30 = .ok (.invokevirtual 40, 3) := by decide +kernel
theorem dX2_measureStep_33 : decode cX2_measureStep 33 = .ok (.ladd, 1) := by decide +kernel
theorem dX2_measureStep_34 : decode cX2_measureStep 34 = .ok (.lastore, 1) := by decide +kernel
theorem dX2_measureStep_35 : decode cX2_measureStep 35 = .ok (.iinc 4 1, 3) := by decide +kernel
theorem dX2_measureStep_38 : decode cX2_measureStep 38 = .ok (.goto (-35), 3) := by decide +kernel
theorem dX2_measureStep_41 : decode cX2_measureStep 41 = .ok (.return_, 1) := by decide +kernel
theorem dX2_of_0 : decode cX2_of 0 = .ok (.aload_n 0, 1) := by decide +kernel
theorem dX2_of_1 : decode cX2_of 1 = .ok (.getfield 9, 3) := by decide +kernel
theorem dX2_of_4 : decode cX2_of 4 = .ok (.iload_n 1, 1) := by decide +kernel
theorem dX2_of_5 : decode cX2_of 5 = .ok (.iconst 4, 1) := by decide +kernel
theorem dX2_of_6 : decode cX2_of 6 = .ok (.imul, 1) := by decide +kernel
theorem dX2_of_7 : decode cX2_of 7 = .ok (.iload_n 2, 1) := by decide +kernel
theorem dX2_of_8 : decode cX2_of 8 = .ok (.iadd, 1) := by decide +kernel
theorem dX2_of_9 : decode cX2_of 9 = .ok (.laload, 1) := by decide +kernel
theorem dX2_of_10 : decode cX2_of 10 = .ok (.lreturn, 1) := by decide +kernel
theorem dX2_fit_0 : decode cX2_fit 0 = .ok (.iconst 0, 1) := by decide +kernel
theorem dX2_fit_1 : decode cX2_fit 1 = .ok (.istore_n 3, 1) := by decide +kernel
theorem dX2_fit_2 : decode cX2_fit 2 = .ok (.iload_n 3, 1) := by decide +kernel
theorem dX2_fit_3 : decode cX2_fit 3 = .ok (.iconst 4, 1) := by decide +kernel
theorem dX2_fit_4 : decode cX2_fit 4 = .ok (.if_icmp .ge 31, 3) := by decide +kernel
theorem dX2_fit_7 : decode cX2_fit 7 = .ok (.aload_n 0, 1) := by decide +kernel
theorem dX2_fit_8 : decode cX2_fit 8 = .ok (.iload_n 1, 1) := by decide +kernel
theorem dX2_fit_9 : decode cX2_fit 9 = .ok (.iload_n 3, 1) := by decide +kernel
theorem dX2_fit_10 : decode cX2_fit 10 = .ok (.invokevirtual 40, 3) := by decide +kernel
theorem dX2_fit_13 : decode cX2_fit 13 = .ok (.aload_n 0, 1) := by decide +kernel
theorem dX2_fit_14 : decode cX2_fit 14 = .ok (.iload_n 2, 1) := by decide +kernel
theorem dX2_fit_15 : decode cX2_fit 15 = .ok (.iload_n 3, 1) := by decide +kernel
theorem dX2_fit_16 : decode cX2_fit 16 = .ok (.invokevirtual 40, 3) := by decide +kernel
theorem dX2_fit_19 : decode cX2_fit 19 = .ok (.ladd, 1) := by decide +kernel
theorem dX2_fit_20 : decode cX2_fit 20 = .ok (.ldc2_w 44, 3) := by decide +kernel
theorem dX2_fit_23 : decode cX2_fit 23 = .ok (.lcmp, 1) := by decide +kernel
theorem dX2_fit_24 : decode cX2_fit 24 = .ok (.ifCond .le 5, 3) := by decide +kernel
theorem dX2_fit_27 : decode cX2_fit 27 = .ok (.iconst 0, 1) := by decide +kernel
theorem dX2_fit_28 : decode cX2_fit 28 = .ok (.ireturn, 1) := by decide +kernel
theorem dX2_fit_29 : decode cX2_fit 29 = .ok (.iinc 3 1, 3) := by decide +kernel
theorem dX2_fit_32 : decode cX2_fit 32 = .ok (.goto (-30), 3) := by decide +kernel
theorem dX2_fit_35 : decode cX2_fit 35 = .ok (.iconst 1, 1) := by decide +kernel
theorem dX2_fit_36 : decode cX2_fit 36 = .ok (.ireturn, 1) := by decide +kernel
theorem dX2_firstAlike_0 : decode cX2_firstAlike 0 = .ok (.iconst 0, 1) := by decide +kernel
theorem dX2_firstAlike_1 : decode cX2_firstAlike 1 = .ok (.istore_n 2, 1) := by decide +kernel
theorem dX2_firstAlike_2 : decode cX2_firstAlike 2 = .ok (.iload_n 2, 1) := by decide +kernel
theorem dX2_firstAlike_3 : decode cX2_firstAlike 3 = .ok (.iload_n 1, 1) := by decide +kernel
theorem dX2_firstAlike_4 : decode cX2_firstAlike 4 = .ok (.if_icmp .ge 20, 3) := by decide +kernel
theorem dX2_firstAlike_7 : decode cX2_firstAlike 7 = .ok (.aload_n 0, 1) := by decide +kernel
theorem dX2_firstAlike_8 : decode cX2_firstAlike 8 = .ok (.iload_n 2, 1) := by decide +kernel
theorem dX2_firstAlike_9 : decode cX2_firstAlike 9 = .ok (.iload_n 1, 1) := by decide +kernel
theorem dX2_firstAlike_10 : decode cX2_firstAlike 10 = .ok (.invokevirtual 46, 3) := by decide +kernel
theorem dX2_firstAlike_13 : decode cX2_firstAlike 13 = .ok (.ifCond .eq 5, 3) := by decide +kernel
theorem dX2_firstAlike_16 : decode cX2_firstAlike 16 = .ok (.iload_n 2, 1) := by decide +kernel
theorem dX2_firstAlike_17 : decode cX2_firstAlike 17 = .ok (.ireturn, 1) := by decide +kernel
theorem dX2_firstAlike_18 : decode cX2_firstAlike 18 = .ok (.iinc 2 1, 3) := by decide +kernel
theorem dX2_firstAlike_21 : decode cX2_firstAlike 21 = .ok (.goto (-19), 3) := by decide +kernel
theorem dX2_firstAlike_24 : decode cX2_firstAlike 24 = .ok (.iload_n 1, 1) := by decide +kernel
theorem dX2_firstAlike_25 : decode cX2_firstAlike 25 = .ok (.ireturn, 1) := by decide +kernel
theorem dX2_alike_0 : decode cX2_alike 0 = .ok (.iconst 0, 1) := by decide +kernel
theorem dX2_alike_1 : decode cX2_alike 1 = .ok (.istore_n 3, 1) := by decide +kernel
theorem dX2_alike_2 : decode cX2_alike 2 = .ok (.iload_n 3, 1) := by decide +kernel
theorem dX2_alike_3 : decode cX2_alike 3 = .ok (.iconst 4, 1) := by decide +kernel
theorem dX2_alike_4 : decode cX2_alike 4 = .ok (.if_icmp .ge 27, 3) := by decide +kernel
theorem dX2_alike_7 : decode cX2_alike 7 = .ok (.aload_n 0, 1) := by decide +kernel
theorem dX2_alike_8 : decode cX2_alike 8 = .ok (.iload_n 1, 1) := by decide +kernel
theorem dX2_alike_9 : decode cX2_alike 9 = .ok (.iload_n 3, 1) := by decide +kernel
theorem dX2_alike_10 : decode cX2_alike 10 = .ok (.invokevirtual 40, 3) := by decide +kernel
theorem dX2_alike_13 : decode cX2_alike 13 = .ok (.aload_n 0, 1) := by decide +kernel
theorem dX2_alike_14 : decode cX2_alike 14 = .ok (.iload_n 2, 1) := by decide +kernel
theorem dX2_alike_15 : decode cX2_alike 15 = .ok (.iload_n 3, 1) := by decide +kernel
theorem dX2_alike_16 : decode cX2_alike 16 = .ok (.invokevirtual 40, 3) := by decide +kernel
theorem dX2_alike_19 : decode cX2_alike 19 = .ok (.lcmp, 1) := by decide +kernel
theorem dX2_alike_20 : decode cX2_alike 20 = .ok (.ifCond .eq 5, 3) := by decide +kernel
theorem dX2_alike_23 : decode cX2_alike 23 = .ok (.iconst 0, 1) := by decide +kernel
theorem dX2_alike_24 : decode cX2_alike 24 = .ok (.ireturn, 1) := by decide +kernel
theorem dX2_alike_25 : decode cX2_alike 25 = .ok (.iinc 3 1, 3) := by decide +kernel
theorem dX2_alike_28 : decode cX2_alike 28 = .ok (.goto (-26), 3) := by decide +kernel
theorem dX2_alike_31 : decode cX2_alike 31 = .ok (.iconst 1, 1) := by decide +kernel
theorem dX2_alike_32 : decode cX2_alike 32 = .ok (.ireturn, 1) := by decide +kernel
theorem dX3_init_0 : decode cX3_init 0 = .ok (.aload_n 0, 1) := by decide +kernel
theorem dX3_init_1 : decode cX3_init 1 = .ok (.invokespecial 3, 3) := by decide +kernel
theorem dX3_init_4 : decode cX3_init 4 = .ok (.aload_n 0, 1) := by decide +kernel
theorem dX3_init_5 : decode cX3_init 5 = .ok (.bipush 12, 2) := by decide +kernel
theorem dX3_init_7 : decode cX3_init 7 = .ok (.anewarray 9, 3) := by decide +kernel
theorem dX3_init_10 : decode cX3_init 10 = .ok (.putfield 11, 3) := by decide +kernel
theorem dX3_init_13 : decode cX3_init 13 = .ok (.iconst 0, 1) := by decide +kernel
theorem dX3_init_14 : decode cX3_init 14 = .ok (.istore_n 1, 1) := by decide +kernel
theorem dX3_init_15 : decode cX3_init 15 = .ok (.iload_n 1, 1) := by decide +kernel
theorem dX3_init_16 : decode cX3_init 16 = .ok (.bipush 12, 2) := by decide +kernel
theorem dX3_init_18 : decode cX3_init 18 = .ok (.if_icmp .ge 22, 3) := by decide +kernel
theorem dX3_init_21 : decode cX3_init 21 = .ok (.aload_n 0, 1) := by decide +kernel
theorem dX3_init_22 : decode cX3_init 22 = .ok (.getfield 11, 3) := by decide +kernel
theorem dX3_init_25 : decode cX3_init 25 = .ok (.iload_n 1, 1) := by decide +kernel
theorem dX3_init_26 : decode cX3_init 26 = .ok (.new 9, 3) := by decide +kernel
theorem dX3_init_29 : decode cX3_init 29 = .ok (.dup, 1) := by decide +kernel
theorem dX3_init_30 : decode cX3_init 30 = .ok (.invokespecial 17, 3) := by decide +kernel
theorem dX3_init_33 : decode cX3_init 33 = .ok (.aastore, 1) := by decide +kernel
theorem dX3_init_34 : decode cX3_init 34 = .ok (.iinc 1 1, 3) := by decide +kernel
theorem dX3_init_37 : decode cX3_init 37 = .ok (.goto (-22), 3) := by decide +kernel
theorem dX3_init_40 : decode cX3_init 40 = .ok (.return_, 1) := by decide +kernel
theorem dX3_remember_0 : decode cX3_remember 0 = .ok (.aload_n 0, 1) := by decide +kernel
theorem dX3_remember_1 : decode cX3_remember 1 = .ok (.getfield 18, 3) := by decide +kernel
theorem dX3_remember_4 : decode cX3_remember 4 = .ok (.bipush 12, 2) := by decide +kernel
theorem dX3_remember_6 : decode cX3_remember 6 = .ok (.if_icmp .ne 26, 3) := by decide +kernel
theorem dX3_remember_9 : decode cX3_remember 9 = .ok (.aload_n 0, 1) := by decide +kernel
theorem dX3_remember_10 : decode cX3_remember 10 = .ok (.aload_n 0, 1) := by decide +kernel
theorem dX3_remember_11 : decode cX3_remember 11 = .ok (.getfield 22, 3) := by decide +kernel
theorem dX3_remember_14 : decode cX3_remember 14 = .ok (.iconst 1, 1) := by decide +kernel
theorem dX3_remember_15 : decode cX3_remember 15 = .ok (.iadd, 1) := by decide +kernel
theorem dX3_remember_16 : decode cX3_remember 16 = .ok (.bipush 12, 2) := by decide +kernel
theorem dX3_remember_18 : decode cX3_remember 18 = .ok (.irem, 1) := by decide +kernel
theorem dX3_remember_19 : decode cX3_remember 19 = .ok (.putfield 22, 3) := by decide +kernel
theorem dX3_remember_22 : decode cX3_remember 22 = .ok (.aload_n 0, 1) := by decide +kernel
theorem dX3_remember_23 : decode cX3_remember 23 = .ok (.dup, 1) := by decide +kernel
theorem dX3_remember_24 : decode cX3_remember 24 = .ok (.getfield 18, 3) := by decide +kernel
theorem dX3_remember_27 : decode cX3_remember 27 = .ok (.iconst 1, 1) := by decide +kernel
theorem dX3_remember_28 : decode cX3_remember 28 = .ok (.isub, 1) := by decide +kernel
theorem dX3_remember_29 : decode cX3_remember 29 = .ok (.putfield 18, 3) := by decide +kernel
theorem dX3_remember_32 : decode cX3_remember 32 = .ok (.aload_n 0, 1) := by decide +kernel
theorem dX3_remember_33 : decode cX3_remember 33 = .ok (.getfield 11, 3) := by decide +kernel
theorem dX3_remember_36 : decode cX3_remember 36 = .ok (.aload_n 0, 1) := by decide +kernel
theorem dX3_remember_37 : decode cX3_remember 37 = .ok (.getfield 22, 3) := by decide +kernel
theorem dX3_remember_40 : decode cX3_remember 40 = .ok (.aload_n 0, 1) := by decide +kernel
theorem dX3_remember_41 : decode cX3_remember 41 = .ok (.getfield 18, 3) := by decide +kernel
theorem dX3_remember_44 : decode cX3_remember 44 = .ok (.iadd, 1) := by decide +kernel
theorem dX3_remember_45 : decode cX3_remember 45 = .ok (.bipush 12, 2) := by decide +kernel
theorem dX3_remember_47 : decode cX3_remember 47 = .ok (.irem, 1) := by decide +kernel
theorem dX3_remember_48 : decode cX3_remember 48 = .ok (.aaload, 1) := by decide +kernel
theorem dX3_remember_49 : decode cX3_remember 49 = .ok (.aload_n 1, 1) := by decide +kernel
theorem dX3_remember_50 : decode cX3_remember 50 = .ok (.invokevirtual 25, 3) := by decide +kernel
theorem dX3_remember_53 : decode cX3_remember 53 = .ok (.aload_n 0, 1) := by decide +kernel
theorem dX3_remember_54 : decode cX3_remember 54 = .ok (.dup, 1) := by decide +kernel
theorem dX3_remember_55 : decode cX3_remember 55 = .ok (.getfield 18, 3) := by decide +kernel
theorem dX3_remember_58 : decode cX3_remember 58 = .ok (.iconst 1, 1) := by decide +kernel
theorem dX3_remember_59 : decode cX3_remember 59 = .ok (.iadd, 1) := by decide +kernel
theorem dX3_remember_60 : decode cX3_remember 60 = .ok (.putfield 18, 3) := by decide +kernel
theorem dX3_remember_63 : decode cX3_remember 63 = .ok (.return_, 1) := by decide +kernel
theorem dX3_takeBack_0 : decode cX3_takeBack 0 = .ok (.aload_n 0, 1) := by decide +kernel
theorem dX3_takeBack_1 : decode cX3_takeBack 1 = .ok (.getfield 18, 3) := by decide +kernel
theorem dX3_takeBack_4 : decode cX3_takeBack 4 = .ok (.ifCond .ne 5, 3) := by decide +kernel
theorem dX3_takeBack_7 : decode cX3_takeBack 7 = .ok (.iconst (-1), 1) := by decide +kernel
theorem dX3_takeBack_8 : decode cX3_takeBack 8 = .ok (.ireturn, 1) := by decide +kernel
theorem dX3_takeBack_9 : decode cX3_takeBack 9 = .ok (.aload_n 0, 1) := by decide +kernel
theorem dX3_takeBack_10 : decode cX3_takeBack 10 = .ok (.dup, 1) := by decide +kernel
theorem dX3_takeBack_11 : decode cX3_takeBack 11 = .ok (.getfield 18, 3) := by decide +kernel
theorem dX3_takeBack_14 : decode cX3_takeBack 14 = .ok (.iconst 1, 1) := by decide +kernel
theorem dX3_takeBack_15 : decode cX3_takeBack 15 = .ok (.isub, 1) := by decide +kernel
theorem dX3_takeBack_16 : decode cX3_takeBack 16 = .ok (.putfield 18, 3) := by decide +kernel
theorem dX3_takeBack_19 : decode cX3_takeBack 19 = .ok (.aload_n 1, 1) := by decide +kernel
theorem dX3_takeBack_20 : decode cX3_takeBack 20 = .ok (.aload_n 0, 1) := by decide +kernel
theorem dX3_takeBack_21 : decode cX3_takeBack 21 = .ok (.getfield 11, 3) := by decide +kernel
theorem dX3_takeBack_24 : decode cX3_takeBack 24 = .ok (.aload_n 0, 1) := by decide +kernel
theorem dX3_takeBack_25 : decode cX3_takeBack 25 = .ok (.getfield 22, 3) := by decide +kernel
theorem dX3_takeBack_28 : decode cX3_takeBack 28 = .ok (.aload_n 0, 1) := by decide +kernel
theorem dX3_takeBack_29 : decode cX3_takeBack 29 = .ok (.getfield 18, 3) := by decide +kernel
theorem dX3_takeBack_32 : decode cX3_takeBack 32 = .ok (.iadd, 1) := by decide +kernel
theorem dX3_takeBack_33 : decode cX3_takeBack 33 = .ok (.bipush 12, 2) := by decide +kernel
theorem dX3_takeBack_35 : decode cX3_takeBack 35 = .ok (.irem, 1) := by decide +kernel
theorem dX3_takeBack_36 : decode cX3_takeBack 36 = .ok (.aaload, 1) := by decide +kernel
theorem dX3_takeBack_37 : decode cX3_takeBack 37 = .ok (.invokevirtual 25, 3) := by decide +kernel
theorem dX3_takeBack_40 : decode cX3_takeBack 40 = .ok (.aload_n 0, 1) := by decide +kernel
theorem dX3_takeBack_41 : decode cX3_takeBack 41 = .ok (.getfield 18, 3) := by decide +kernel
theorem dX3_takeBack_44 : decode cX3_takeBack 44 = .ok (.ireturn, 1) := by decide +kernel
theorem dX4_init_0 : decode cX4_init 0 = .ok (.aload_n 0, 1) := by decide +kernel
theorem dX4_init_1 : decode cX4_init 1 = .ok (.invokespecial 3, 3) := by decide +kernel
theorem dX4_init_4 : decode cX4_init 4 = .ok (.aload_n 0, 1) := by decide +kernel
theorem dX4_init_5 : decode cX4_init 5 = .ok (.bipush 64, 2) := by decide +kernel
theorem dX4_init_7 : decode cX4_init 7 = .ok (.newarray .int, 2) := by decide +kernel
theorem dX4_init_9 : decode cX4_init 9 = .ok (.putfield 9, 3) := by decide +kernel
theorem dX4_init_12 : decode cX4_init 12 = .ok (.aload_n 0, 1) := by decide +kernel
theorem dX4_init_13 : decode cX4_init 13 = .ok (.bipush 64, 2) := by decide +kernel
theorem dX4_init_15 : decode cX4_init 15 = .ok (.newarray .int, 2) := by decide +kernel
theorem dX4_init_17 : decode cX4_init 17 = .ok (.putfield 15, 3) := by decide +kernel
theorem dX4_init_20 : decode cX4_init 20 = .ok (.aload_n 0, 1) := by decide +kernel
theorem dX4_init_21 : decode cX4_init 21 = .ok (.iconst 4, 1) := by decide +kernel
theorem dX4_init_22 : decode cX4_init 22 = .ok (.newarray .int, 2) := by decide +kernel
theorem dX4_init_24 : decode cX4_init 24 = .ok (.putfield 18, 3) := by decide +kernel
theorem dX4_init_27 : decode cX4_init 27 = .ok (.return_, 1) := by decide +kernel
theorem dX4_size_0 : decode cX4_size 0 = .ok (.aload_n 0, 1) := by decide +kernel
theorem dX4_size_1 : decode cX4_size 1 = .ok (.getfield 21, 3) := by decide +kernel
theorem dX4_size_4 : decode cX4_size 4 = .ok (.aload_n 0, 1) := by decide +kernel
theorem dX4_size_5 : decode cX4_size 5 = .ok (.getfield 25, 3) := by decide +kernel
theorem dX4_size_8 : decode cX4_size 8 = .ok (.iadd, 1) := by decide +kernel
theorem dX4_size_9 : decode cX4_size 9 = .ok (.ireturn, 1) := by decide +kernel
theorem dX4_has_0 : decode cX4_has 0 = .ok (.iload_n 1, 1) := by decide +kernel
theorem dX4_has_1 : decode cX4_has 1 = .ok (.ifCond .lt 15, 3) := by decide +kernel
theorem dX4_has_4 : decode cX4_has 4 = .ok (.iload_n 1, 1) := by decide +kernel
theorem dX4_has_5 : decode cX4_has 5 = .ok (.aload_n 0, 1) := by decide +kernel
theorem dX4_has_6 : decode cX4_has 6 = .ok (.invokevirtual 28, 3) := by decide +kernel
theorem dX4_has_9 : decode cX4_has 9 = .ok (.if_icmp .ge 7, 3) := by decide +kernel
theorem dX4_has_12 : decode cX4_has 12 = .ok (.iconst 1, 1) := by decide +kernel
theorem dX4_has_13 : decode cX4_has 13 = .ok (.goto 4, 3) := by decide +kernel
theorem dX4_has_16 : decode cX4_has 16 = .ok (.iconst 0, 1) := by decide +kernel
theorem dX4_has_17 : decode cX4_has 17 = .ok (.ireturn, 1) := by decide +kernel
theorem dX4_isBase_0 : decode cX4_isBase 0 = .ok (.iload_n 1, 1) := by decide +kernel
theorem dX4_isBase_1 : decode cX4_isBase 1 = .ok (.aload_n 0, 1) := by decide +kernel
theorem dX4_isBase_2 : decode cX4_isBase 2 = .ok (.getfield 21, 3) := by decide +kernel
theorem dX4_isBase_5 : decode cX4_isBase 5 = .ok (.if_icmp .ge 7, 3) := by decide +kernel
theorem dX4_isBase_8 : decode cX4_isBase 8 = .ok (.iconst 1, 1) := by decide +kernel
theorem dX4_isBase_9 : decode cX4_isBase 9 = .ok (.goto 4, 3) := by decide +kernel
theorem dX4_isBase_12 : decode cX4_isBase 12 = .ok (.iconst 0, 1) := by decide +kernel
theorem dX4_isBase_13 : decode cX4_isBase 13 = .ok (.ireturn, 1) := by decide +kernel
theorem dX4_begin_0 : decode cX4_begin 0 = .ok (.aload_n 0, 1) := by decide +kernel
theorem dX4_begin_1 : decode cX4_begin 1 = .ok (.iload_n 1, 1) := by decide +kernel
theorem dX4_begin_2 : decode cX4_begin 2 = .ok (.putfield 21, 3) := by decide +kernel
theorem dX4_begin_5 : decode cX4_begin 5 = .ok (.aload_n 0, 1) := by decide +kernel
theorem dX4_begin_6 : decode cX4_begin 6 = .ok (.iconst 0, 1) := by decide +kernel
theorem dX4_begin_7 : decode cX4_begin 7 = .ok (.putfield 25, 3) := by decide +kernel
theorem dX4_begin_10 : decode cX4_begin 10 = .ok (.aload_n 0, 1) := by decide +kernel
theorem dX4_begin_11 : decode cX4_begin 11 = .ok (.iconst 0, 1) := by decide +kernel
theorem dX4_begin_12 : decode cX4_begin 12 = .ok (.putfield 32, 3) := by decide +kernel
theorem dX4_begin_15 : decode cX4_begin 15 = .ok (.return_, 1) := by decide +kernel
theorem dX4_append_0 : decode cX4_append 0 = .ok (.aload_n 0, 1) := by decide +kernel
theorem dX4_append_1 : decode cX4_append 1 = .ok (.getfield 25, 3) := by decide +kernel
theorem dX4_append_4 : decode cX4_append 4 = .ok (.bipush 60, 2) := by decide +kernel
theorem dX4_append_6 : decode cX4_append 6 = .ok (.if_icmp .lt 5, 3) := by decide +kernel
theorem dX4_append_9 : decode cX4_append 9 = .ok (.iconst (-1), 1) := by decide +kernel
theorem dX4_append_10 : decode cX4_append 10 = .ok (.ireturn, 1) := by decide +kernel
theorem dX4_append_11 : decode cX4_append 11 = .ok (.aload_n 0, 1) := by decide +kernel
theorem dX4_append_12 : decode cX4_append 12 = .ok (.invokevirtual 28, 3) := by decide +kernel
theorem dX4_append_15 : decode cX4_append 15 = .ok (.istore_n 3, 1) := by decide +kernel
theorem dX4_append_16 : decode cX4_append 16 = .ok (.aload_n 0, 1) := by decide +kernel
theorem dX4_append_17 : decode cX4_append 17 = .ok (.getfield 9, 3) := by decide +kernel
theorem dX4_append_20 : decode cX4_append 20 = .ok (.iload_n 3, 1) := by decide +kernel
theorem dX4_append_21 : decode cX4_append 21 = .ok (.iload_n 1, 1) := by decide +kernel
theorem dX4_append_22 : decode cX4_append 22 = .ok (.iastore, 1) := by decide +kernel
theorem dX4_append_23 : decode cX4_append 23 = .ok (.aload_n 0, 1) := by decide +kernel
theorem dX4_append_24 : decode cX4_append 24 = .ok (.getfield 15, 3) := by decide +kernel
theorem dX4_append_27 : decode cX4_append 27 = .ok (.iload_n 3, 1) := by decide +kernel
theorem dX4_append_28 : decode cX4_append 28 = .ok (.iload_n 2, 1) := by decide +kernel
theorem dX4_append_29 : decode cX4_append 29 = .ok (.iastore, 1) := by decide +kernel
theorem dX4_append_30 : decode cX4_append 30 = .ok (.aload_n 0, 1) := by decide +kernel
theorem dX4_append_31 : decode cX4_append 31 = .ok (.dup, 1) := by decide +kernel
theorem dX4_append_32 : decode cX4_append 32 = .ok (.getfield 25, 3) := by decide +kernel
theorem dX4_append_35 : decode cX4_append 35 = .ok (.iconst 1, 1) := by decide +kernel
theorem dX4_append_36 : decode cX4_append 36 = .ok (.iadd, 1) := by decide +kernel
theorem dX4_append_37 : decode cX4_append 37 = .ok (.putfield 25, 3) := by decide +kernel
theorem dX4_append_40 : decode cX4_append 40 = .ok (.iload_n 3, 1) := by decide +kernel
theorem dX4_append_41 : decode cX4_append 41 = .ok (.ireturn, 1) := by decide +kernel
theorem dX4_copyFrom_0 : decode cX4_copyFrom 0 = .ok (.aload_n 0, 1) := by decide +kernel
theorem dX4_copyFrom_1 : decode cX4_copyFrom 1 = .ok (.aload_n 1, 1) := by decide +kernel
theorem dX4_copyFrom_2 : decode cX4_copyFrom 2 = .ok (.getfield 21, 3) := by decide +kernel
theorem dX4_copyFrom_5 : decode cX4_copyFrom 5 = .ok (.putfield 21, 3) := by decide +kernel
theorem dX4_copyFrom_8 : decode cX4_copyFrom 8 = .ok (.aload_n 0, 1) := by decide +kernel
theorem dX4_copyFrom_9 : decode cX4_copyFrom 9 = .ok (.aload_n 1, 1) := by decide +kernel
theorem dX4_copyFrom_10 : decode cX4_copyFrom 10 = .ok (.getfield 25, 3) := by decide +kernel
theorem dX4_copyFrom_13 : decode cX4_copyFrom 13 = .ok (.putfield 25, 3) := by decide +kernel
theorem dX4_copyFrom_16 : decode cX4_copyFrom 16 = .ok (.aload_n 0, 1) := by decide +kernel
theorem dX4_copyFrom_17 : decode cX4_copyFrom 17 = .ok (.aload_n 1, 1) := by decide +kernel
theorem dX4_copyFrom_18 : decode cX4_copyFrom 18 = .ok (.getfield 32, 3) := by decide +kernel
theorem dX4_copyFrom_21 : decode cX4_copyFrom 21 = .ok (.putfield 32, 3) := by decide +kernel
theorem dX4_copyFrom_24 : decode cX4_copyFrom 24 = .ok (.aload_n 1, 1) := by decide +kernel
theorem dX4_copyFrom_25 : decode cX4_copyFrom 25 = .ok (.getfield 9, 3) := by decide +kernel
theorem dX4_copyFrom_28 : decode cX4_copyFrom 28 = .ok (.iconst 0, 1) := by decide +kernel
theorem dX4_copyFrom_29 : decode cX4_copyFrom 29 = .ok (.aload_n 0, 1) := by decide +kernel
theorem dX4_copyFrom_30 : decode cX4_copyFrom 30 = .ok (.getfield 9, 3) := by decide +kernel
theorem dX4_copyFrom_33 : decode cX4_copyFrom 33 = .ok (.iconst 0, 1) := by decide +kernel
theorem dX4_copyFrom_34 : decode cX4_copyFrom 34 = .ok (.aload_n 1, 1) := by decide +kernel
theorem dX4_copyFrom_35 : decode cX4_copyFrom 35 = .ok (.invokevirtual 28, 3) := by decide +kernel
theorem dX4_copyFrom_38 : decode cX4_copyFrom 38 = .ok (.invokestatic 35, 3) := by decide +kernel
theorem dX4_copyFrom_41 : decode cX4_copyFrom 41 = .ok (.aload_n 1, 1) := by decide +kernel
theorem dX4_copyFrom_42 : decode cX4_copyFrom 42 = .ok (.getfield 15, 3) := by decide +kernel
theorem dX4_copyFrom_45 : decode cX4_copyFrom 45 = .ok (.iconst 0, 1) := by decide +kernel
theorem dX4_copyFrom_46 : decode cX4_copyFrom 46 = .ok (.aload_n 0, 1) := by decide +kernel
theorem dX4_copyFrom_47 : decode cX4_copyFrom 47 = .ok (.getfield 15, 3) := by decide +kernel
theorem dX4_copyFrom_50 : decode cX4_copyFrom 50 = .ok (.iconst 0, 1) := by decide +kernel
theorem dX4_copyFrom_51 : decode cX4_copyFrom 51 = .ok (.aload_n 1, 1) := by decide +kernel
theorem dX4_copyFrom_52 : decode cX4_copyFrom 52 = .ok (.invokevirtual 28, 3) := by decide +kernel
theorem dX4_copyFrom_55 : decode cX4_copyFrom 55 = .ok (.invokestatic 35, 3) := by decide +kernel
theorem dX4_copyFrom_58 : decode cX4_copyFrom 58 = .ok (.aload_n 1, 1) := by decide +kernel
theorem dX4_copyFrom_59 : decode cX4_copyFrom 59 = .ok (.getfield 18, 3) := by decide +kernel
theorem dX4_copyFrom_62 : decode cX4_copyFrom 62 = .ok (.iconst 0, 1) := by decide +kernel
theorem dX4_copyFrom_63 : decode cX4_copyFrom 63 = .ok (.aload_n 0, 1) := by decide +kernel
theorem dX4_copyFrom_64 : decode cX4_copyFrom 64 = .ok (.getfield 18, 3) := by decide +kernel
theorem dX4_copyFrom_67 : decode cX4_copyFrom 67 = .ok (.iconst 0, 1) := by decide +kernel
theorem dX4_copyFrom_68 : decode cX4_copyFrom 68 = .ok (.aload_n 1, 1) := by decide +kernel
theorem dX4_copyFrom_69 : decode cX4_copyFrom 69 = .ok (.getfield 32, 3) := by decide +kernel
theorem dX4_copyFrom_72 : decode cX4_copyFrom 72 = .ok (.invokestatic 35, 3) := by decide +kernel
theorem dX4_copyFrom_75 : decode cX4_copyFrom 75 = .ok (.return_, 1) := by decide +kernel
theorem dX4_kind_0 : decode cX4_kind 0 = .ok (.aload_n 0, 1) := by decide +kernel
theorem dX4_kind_1 : decode cX4_kind 1 = .ok (.iload_n 1, 1) := by decide +kernel
theorem dX4_kind_2 : decode cX4_kind 2 = .ok (.invokevirtual 41, 3) := by decide +kernel
theorem dX4_kind_5 : decode cX4_kind 5 = .ok (.ifCond .eq 5, 3) := by decide +kernel
theorem dX4_kind_8 : decode cX4_kind 8 = .ok (.iconst 3, 1) := by decide +kernel
theorem dX4_kind_9 : decode cX4_kind 9 = .ok (.ireturn, 1) := by decide +kernel
theorem dX4_kind_10 : decode cX4_kind 10 = .ok (.aload_n 0, 1) := by decide +kernel
theorem dX4_kind_11 : decode cX4_kind 11 = .ok (.getfield 9, 3) := by decide +kernel
theorem dX4_kind_14 : decode cX4_kind 14 = .ok (.iload_n 1, 1) := by decide +kernel
theorem dX4_kind_15 : decode cX4_kind 15 = .ok (.iaload, 1) := by decide +kernel
theorem dX4_kind_16 : decode cX4_kind 16 = .ok (.aload_n 0, 1) := by decide +kernel
theorem dX4_kind_17 : decode cX4_kind 17 = .ok (.getfield 15, 3) := by decide +kernel
theorem dX4_kind_20 : decode cX4_kind 20 = .ok (.iload_n 1, 1) := by decide +kernel
theorem dX4_kind_21 : decode cX4_kind 21 = .ok (.iaload, 1) := by decide +kernel
theorem dX4_kind_22 : decode cX4_kind 22 = .ok (.if_icmp .ne 5, 3) := by decide +kernel
theorem dX4_kind_25 : decode cX4_kind 25 = .ok (.iconst 0, 1) := by decide +kernel
theorem dX4_kind_26 : decode cX4_kind 26 = .ok (.ireturn, 1) := by decide +kernel
theorem dX4_kind_27 : decode cX4_kind 27 = .ok (.aload_n 0, 1) := by decide +kernel
theorem dX4_kind_28 : decode cX4_kind 28 = .ok (.getfield 9, 3) := by decide +kernel
theorem dX4_kind_31 : decode cX4_kind 31 = .ok (.iload_n 1, 1) := by decide +kernel
theorem dX4_kind_32 : decode cX4_kind 32 = .ok (.iaload, 1) := by decide +kernel
theorem dX4_kind_33 : decode cX4_kind 33 = .ok (.iload_n 1, 1) := by decide +kernel
theorem dX4_kind_34 : decode cX4_kind 34 = .ok (.iconst 1, 1) := by decide +kernel
theorem dX4_kind_35 : decode cX4_kind 35 = .ok (.isub, 1) := by decide +kernel
theorem dX4_kind_36 : decode cX4_kind 36 = .ok (.if_icmp .eq 15, 3) := by decide +kernel
theorem dX4_kind_39 : decode cX4_kind 39 = .ok (.aload_n 0, 1) := by decide +kernel
theorem dX4_kind_40 : decode cX4_kind 40 = .ok (.getfield 15, 3) := by decide +kernel
theorem dX4_kind_43 : decode cX4_kind 43 = .ok (.iload_n 1, 1) := by decide +kernel
theorem dX4_kind_44 : decode cX4_kind 44 = .ok (.iaload, 1) := by decide +kernel
theorem dX4_kind_45 : decode cX4_kind 45 = .ok (.iload_n 1, 1) := by decide +kernel
theorem dX4_kind_46 : decode cX4_kind 46 = .ok (.iconst 1, 1) := by decide +kernel
theorem dX4_kind_47 : decode cX4_kind 47 = .ok (.isub, 1) := by decide +kernel
theorem dX4_kind_48 : decode cX4_kind 48 = .ok (.if_icmp .ne 7, 3) := by decide +kernel
theorem dX4_kind_51 : decode cX4_kind 51 = .ok (.iconst 1, 1) := by decide +kernel
theorem dX4_kind_52 : decode cX4_kind 52 = .ok (.goto 4, 3) := by decide +kernel
theorem dX4_kind_55 : decode cX4_kind 55 = .ok (.iconst 2, 1) := by decide +kernel
theorem dX4_kind_56 : decode cX4_kind 56 = .ok (.ireturn, 1) := by decide +kernel
theorem dX4_stepsOfKind_0 : decode cX4_stepsOfKind 0 = .ok (.iconst 0, 1) := by decide +kernel
theorem dX4_stepsOfKind_1 : decode cX4_stepsOfKind 1 = .ok (.istore_n 2, 1) := by decide +kernel
theorem dX4_stepsOfKind_2 : decode cX4_stepsOfKind 2 = .ok (.aload_n 0, 1) := by decide +kernel
theorem dX4_stepsOfKind_3 : decode cX4_stepsOfKind 3 = .ok (.getfield 21, 3) := by decide +kernel
theorem dX4_stepsOfKind_6 : decode cX4_stepsOfKind 6 = .ok (.istore_n 3, 1) := by decide +kernel
theorem dX4_stepsOfKind_7 : decode cX4_stepsOfKind 7 = .ok (.iload_n 3, 1) := by decide +kernel
theorem dX4_stepsOfKind_8 : decode cX4_stepsOfKind 8 = .ok (.aload_n 0, 1) := by decide +kernel
theorem dX4_stepsOfKind_9 : decode cX4_stepsOfKind 9 = .ok (.invokevirtual 28, 3) := by decide +kernel
theorem dX4_stepsOfKind_12 : decode cX4_stepsOfKind 12 = .ok (.if_icmp .ge 21, 3) := by decide +kernel
theorem dX4_stepsOfKind_15 : decode cX4_stepsOfKind 15 = .ok (.aload_n 0, 1) := by decide +kernel
theorem dX4_stepsOfKind_16 : decode cX4_stepsOfKind 16 = .ok (.iload_n 3, 1) := by decide +kernel
theorem dX4_stepsOfKind_17 : decode cX4_stepsOfKind 17 = .ok (.invokevirtual 45, 3) := by decide +kernel
theorem dX4_stepsOfKind_20 : decode cX4_stepsOfKind 20 = .ok (.iload_n 1, 1) := by decide +kernel
theorem dX4_stepsOfKind_21 : decode cX4_stepsOfKind 21 = .ok (.if_icmp .ne 6, 3) := by decide +kernel
theorem dX4_stepsOfKind_24 : decode cX4_stepsOfKind 24 = .ok (.iinc 2 1, 3) := by decide +kernel
theorem dX4_stepsOfKind_27 : decode cX4_stepsOfKind 27 = .ok (.iinc 3 1, 3) := by decide +kernel
theorem dX4_stepsOfKind_30 : decode cX4_stepsOfKind 30 = .ok (.goto (-23), 3) := by decide +kernel
theorem dX4_stepsOfKind_33 : decode cX4_stepsOfKind 33 = .ok (.iload_n 2, 1) := by decide +kernel
theorem dX4_stepsOfKind_34 : decode cX4_stepsOfKind 34 = .ok (.ireturn, 1) := by decide +kernel
theorem dX4_uses_0 : decode cX4_uses 0 = .ok (.iconst 0, 1) := by decide +kernel
theorem dX4_uses_1 : decode cX4_uses 1 = .ok (.istore_n 2, 1) := by decide +kernel
theorem dX4_uses_2 : decode cX4_uses 2 = .ok (.aload_n 0, 1) := by decide +kernel
theorem dX4_uses_3 : decode cX4_uses 3 = .ok (.getfield 21, 3) := by decide +kernel
theorem dX4_uses_6 : decode cX4_uses 6 = .ok (.istore_n 3, 1) := by decide +kernel
theorem dX4_uses_7 : decode cX4_uses 7 = .ok (.iload_n 3, 1) := by decide +kernel
theorem dX4_uses_8 : decode cX4_uses 8 = .ok (.aload_n 0, 1) := by decide +kernel
theorem dX4_uses_9 : decode cX4_uses 9 = .ok (.invokevirtual 28, 3) := by decide +kernel
theorem dX4_uses_12 : decode cX4_uses 12 = .ok (.if_icmp .ge 43, 3) := by decide +kernel
theorem dX4_uses_15 : decode cX4_uses 15 = .ok (.iload_n 2, 1) := by decide +kernel
theorem dX4_uses_16 : decode cX4_uses 16 = .ok (.aload_n 0, 1) := by decide +kernel
theorem dX4_uses_17 : decode cX4_uses 17 = .ok (.getfield 9, 3) := by decide +kernel
theorem dX4_uses_20 : decode cX4_uses 20 = .ok (.iload_n 3, 1) := by decide +kernel
theorem dX4_uses_21 : decode cX4_uses 21 = .ok (.iaload, 1) := by decide +kernel
theorem dX4_uses_22 : decode cX4_uses 22 = .ok (.iload_n 1, 1) := by decide +kernel
theorem dX4_uses_23 : decode cX4_uses 23 = .ok (.if_icmp .ne 7, 3) := by decide +kernel
theorem dX4_uses_26 : decode cX4_uses 26 = .ok (.iconst 1, 1) := by decide +kernel
theorem dX4_uses_27 : decode cX4_uses 27 = .ok (.goto 4, 3) := by decide +kernel
theorem dX4_uses_30 : decode cX4_uses 30 = .ok (.iconst 0, 1) := by decide +kernel
theorem dX4_uses_31 : decode cX4_uses 31 = .ok (.aload_n 0, 1) := by decide +kernel
theorem dX4_uses_32 : decode cX4_uses 32 = .ok (.getfield 15, 3) := by decide +kernel
theorem dX4_uses_35 : decode cX4_uses 35 = .ok (.iload_n 3, 1) := by decide +kernel
theorem dX4_uses_36 : decode cX4_uses 36 = .ok (.iaload, 1) := by decide +kernel
theorem dX4_uses_37 : decode cX4_uses 37 = .ok (.iload_n 1, 1) := by decide +kernel
theorem dX4_uses_38 : decode cX4_uses 38 = .ok (.if_icmp .ne 7, 3) := by decide +kernel
theorem dX4_uses_41 : decode cX4_uses 41 = .ok (.iconst 1, 1) := by decide +kernel
theorem dX4_uses_42 : decode cX4_uses 42 = .ok (.goto 4, 3) := by decide +kernel
theorem dX4_uses_45 : decode cX4_uses 45 = .ok (.iconst 0, 1) := by decide +kernel
theorem dX4_uses_46 : decode cX4_uses 46 = .ok (.iadd, 1) := by decide +kernel
theorem dX4_uses_47 : decode cX4_uses 47 = .ok (.iadd, 1) := by decide +kernel
theorem dX4_uses_48 : decode cX4_uses 48 = .ok (.istore_n 2, 1) := by decide +kernel
theorem dX4_uses_49 : decode cX4_uses 49 = .ok (.iinc 3 1, 3) := by decide +kernel
theorem dX4_uses_52 : decode cX4_uses 52 = .ok (.goto (-45), 3) := by decide +kernel
theorem dX4_uses_55 : decode cX4_uses 55 = .ok (.iload_n 2, 1) := by decide +kernel
theorem dX4_uses_56 : decode cX4_uses 56 = .ok (.ireturn, 1) := by decide +kernel
theorem dX4_compact_0 : decode cX4_compact 0 = .ok (.aload_n 0, 1) := by decide +kernel
theorem dX4_compact_1 : decode cX4_compact 1 = .ok (.invokevirtual 28, 3) := by decide +kernel
theorem dX4_compact_4 : decode cX4_compact 4 = .ok (.istore_n 2, 1) := by decide +kernel
theorem dX4_compact_5 : decode cX4_compact 5 = .ok (.aload_n 0, 1) := by decide +kernel
theorem dX4_compact_6 : decode cX4_compact 6 = .ok (.getfield 21, 3) := by decide +kernel
theorem dX4_compact_9 : decode cX4_compact 9 = .ok (.istore_n 3, 1) := by decide +kernel
theorem dX4_compact_10 : decode cX4_compact 10 = .ok (.aload_n 0, 1) := by decide +kernel
theorem dX4_compact_11 : decode cX4_compact 11 = .ok (.getfield 21, 3) := by decide +kernel
theorem dX4_compact_14 : decode cX4_compact 14 = .ok (.istore 4, 2) := by decide +kernel
theorem dX4_compact_16 : decode cX4_compact 16 = .ok (.iload 4, 2) := by decide +kernel
theorem dX4_compact_18 : decode cX4_compact 18 = .ok (.iload_n 2, 1) := by decide +kernel
theorem dX4_compact_19 : decode cX4_compact 19 = .ok (.if_icmp .ge 77, 3) := by decide +kernel
theorem dX4_compact_22 : decode cX4_compact 22 = .ok (.aload_n 1, 1) := by decide +kernel
theorem dX4_compact_23 : decode cX4_compact 23 = .ok (.iload 4, 2) := by decide +kernel
theorem dX4_compact_25 : decode cX4_compact 25 = .ok (.iaload, 1) := by decide +kernel
theorem dX4_compact_26 : decode cX4_compact 26 = .ok (.istore 5, 2) := by decide +kernel
theorem dX4_compact_28 : decode cX4_compact 28 = .ok (.iload 5, 2) := by decide +kernel
theorem dX4_compact_30 : decode cX4_compact 30 = .ok (.iload 4, 2) := by decide +kernel
theorem dX4_compact_32 : decode cX4_compact 32 = .ok (.if_icmp .ne 44, 3) := by decide +kernel
theorem dX4_compact_35 : decode cX4_compact 35 = .ok (.aload_n 0, 1) := by decide +kernel
theorem dX4_compact_36 : decode cX4_compact 36 = .ok (.getfield 9, 3) := by decide +kernel
theorem dX4_compact_39 : decode cX4_compact 39 = .ok (.iload_n 3, 1) := by decide +kernel
theorem dX4_compact_40 : decode cX4_compact 40 = .ok (.aload_n 1, 1) := by decide +kernel
theorem dX4_compact_41 : decode cX4_compact 41 = .ok (.aload_n 0, 1) := by decide +kernel
theorem dX4_compact_42 : decode cX4_compact 42 = .ok (.getfield 9, 3) := by decide +kernel
theorem dX4_compact_45 : decode cX4_compact 45 = .ok (.iload 4, 2) := by decide +kernel
theorem dX4_compact_47 : decode cX4_compact 47 = .ok (.iaload, 1) := by decide +kernel
theorem dX4_compact_48 : decode cX4_compact 48 = .ok (.iaload, 1) := by decide +kernel
theorem dX4_compact_49 : decode cX4_compact 49 = .ok (.iastore, 1) := by decide +kernel
theorem dX4_compact_50 : decode cX4_compact 50 = .ok (.aload_n 0, 1) := by decide +kernel
theorem dX4_compact_51 : decode cX4_compact 51 = .ok (.getfield 15, 3) := by decide +kernel
theorem dX4_compact_54 : decode cX4_compact 54 = .ok (.iload_n 3, 1) := by decide +kernel
theorem dX4_compact_55 : decode cX4_compact 55 = .ok (.aload_n 1, 1) := by decide +kernel
theorem dX4_compact_56 : decode cX4_compact 56 = .ok (.aload_n 0, 1) := by decide +kernel
theorem dX4_compact_57 : decode cX4_compact 57 = .ok (.getfield 15, 3) := by decide +kernel
theorem dX4_compact_60 : decode cX4_compact 60 = .ok (.iload 4, 2) := by decide +kernel
theorem dX4_compact_62 : decode cX4_compact 62 = .ok (.iaload, 1) := by decide +kernel
theorem dX4_compact_63 : decode cX4_compact 63 = .ok (.iaload, 1) := by decide +kernel
theorem dX4_compact_64 : decode cX4_compact 64 = .ok (.iastore, 1) := by decide +kernel
theorem dX4_compact_65 : decode cX4_compact 65 = .ok (.aload_n 1, 1) := by decide +kernel
theorem dX4_compact_66 : decode cX4_compact 66 = .ok (.iload 4, 2) := by decide +kernel
theorem dX4_compact_68 : decode cX4_compact 68 = .ok (.iload_n 3, 1) := by decide +kernel
theorem dX4_compact_69 : decode cX4_compact 69 = .ok (.iastore, 1) := by decide +kernel
theorem dX4_compact_70 : decode cX4_compact 70 = .ok (.iinc 3 1, 3) := by decide +kernel
theorem dX4_compact_73 : decode cX4_compact 73 = .ok (.goto 17, 3) := by decide +kernel
theorem dX4_compact_76 : decode cX4_compact 76 = .ok (.iload 5, 2) := by decide +kernel
theorem dX4_compact_78 : decode cX4_compact 78 = .ok (.iconst (-1), 1) := by decide +kernel
theorem dX4_compact_79 : decode cX4_compact 79 = .ok (.if_icmp .eq 11, 3) := by decide +kernel
theorem dX4_compact_82 : decode cX4_compact 82 = .ok (.aload_n 1, 1) := by decide +kernel
theorem dX4_compact_83 : decode cX4_compact 83 = .ok (.iload 4, 2) := by decide +kernel
theorem dX4_compact_85 : decode cX4_compact 85 = .ok (.aload_n 1, 1) := by decide +kernel
theorem dX4_compact_86 : decode cX4_compact 86 = .ok (.iload 5, 2) := by decide +kernel
theorem dX4_compact_88 : decode cX4_compact 88 = .ok (.iaload, 1) := by decide +kernel
theorem dX4_compact_89 : decode cX4_compact 89 = .ok (.iastore, 1) := by decide +kernel
theorem dX4_compact_90 : decode cX4_compact 90 = .ok (.iinc 4 1, 3) := by decide +kernel
theorem dX4_compact_93 : decode cX4_compact 93 = .ok (.goto (-77), 3) := by decide +kernel
theorem dX4_compact_96 : decode cX4_compact 96 = .ok (.iconst 0, 1) := by decide +kernel
theorem dX4_compact_97 : decode cX4_compact 97 = .ok (.istore 4, 2) := by decide +kernel
theorem dX4_compact_99 : decode cX4_compact 99 = .ok (.iload 4, 2) := by decide +kernel
theorem dX4_compact_101 : decode cX4_compact 101 = .ok (.aload_n 0, 1) := by decide +kernel
theorem dX4_compact_102 : decode cX4_compact 102 = .ok (.getfield 32, 3) := by decide +kernel
theorem dX4_compact_105 : decode cX4_compact 105 = .ok (.if_icmp .ge 25, 3) := by decide +kernel
theorem dX4_compact_108 : decode cX4_compact 108 = .ok (.aload_n 0, 1) := by decide +kernel
theorem dX4_compact_109 : decode cX4_compact 109 = .ok (.getfield 18, 3) := by decide +kernel
theorem dX4_compact_112 : decode cX4_compact 112 = .ok (.iload 4, 2) := by decide +kernel
theorem dX4_compact_114 : decode cX4_compact 114 = .ok (.aload_n 1, 1) := by decide +kernel
theorem dX4_compact_115 : decode cX4_compact 115 = .ok (.aload_n 0, 1) := by decide +kernel
theorem dX4_compact_116 : decode cX4_compact 116 = .ok (.getfield 18, 3) := by decide +kernel
theorem dX4_compact_119 : decode cX4_compact 119 = .ok (.iload 4, 2) := by decide +kernel
theorem dX4_compact_121 : decode cX4_compact 121 = .ok (.iaload, 1) := by decide +kernel
theorem dX4_compact_122 : decode cX4_compact 122 = .ok (.iaload, 1) := by decide +kernel
theorem dX4_compact_123 : decode cX4_compact 123 = .ok (.iastore, 1) := by decide +kernel
theorem dX4_compact_124 : decode cX4_compact 124 = .ok (.iinc 4 1, 3) := by decide +kernel
theorem dX4_compact_127 : decode cX4_compact 127 = .ok (.goto (-28), 3) := by decide +kernel
theorem dX4_compact_130 : decode cX4_compact 130 = .ok (.aload_n 0, 1) := by decide +kernel
theorem dX4_compact_131 : decode cX4_compact 131 = .ok (.iload_n 3, 1) := by decide +kernel
theorem dX4_compact_132 : decode cX4_compact 132 = .ok (.aload_n 0, 1) := by decide +kernel
theorem dX4_compact_133 : decode cX4_compact 133 = .ok (.getfield 21, 3) := by decide +kernel
theorem dX4_compact_136 : decode cX4_compact 136 = .ok (.isub, 1) := by decide +kernel
theorem dX4_compact_137 : decode cX4_compact 137 = .ok (.putfield 25, 3) := by decide +kernel
theorem dX4_compact_140 : decode cX4_compact 140 = .ok (.iload_n 2, 1) := by decide +kernel
theorem dX4_compact_141 : decode cX4_compact 141 = .ok (.iload_n 3, 1) := by decide +kernel
theorem dX4_compact_142 : decode cX4_compact 142 = .ok (.isub, 1) := by decide +kernel
theorem dX4_compact_143 : decode cX4_compact 143 = .ok (.ireturn, 1) := by decide +kernel
theorem dX5_init_0 : decode cX5_init 0 = .ok (.aload_n 0, 1) := by decide +kernel
theorem dX5_init_1 : decode cX5_init 1 = .ok (.invokespecial 3, 3) := by decide +kernel
theorem dX5_init_4 : decode cX5_init 4 = .ok (.aload_n 0, 1) := by decide +kernel
theorem dX5_init_5 : decode cX5_init 5 = .ok (.bipush 21, 2) := by decide +kernel
theorem dX5_init_7 : decode cX5_init 7 = .ok (.newarray .int, 2) := by decide +kernel
theorem dX5_init_9 : decode cX5_init 9 = .ok (.putfield 11, 3) := by decide +kernel
theorem dX5_init_12 : decode cX5_init 12 = .ok (.aload_n 0, 1) := by decide +kernel
theorem dX5_init_13 : decode cX5_init 13 = .ok (.iconst (-1), 1) := by decide +kernel
theorem dX5_init_14 : decode cX5_init 14 = .ok (.putfield 15, 3) := by decide +kernel
theorem dX5_init_17 : decode cX5_init 17 = .ok (.return_, 1) := by decide +kernel
theorem dX5_seek_0 : decode cX5_seek 0 = .ok (.aload_n 0, 1) := by decide +kernel
theorem dX5_seek_1 : decode cX5_seek 1 = .ok (.iload_n 1, 1) := by decide +kernel
theorem dX5_seek_2 : decode cX5_seek 2 = .ok (.putfield 19, 3) := by decide +kernel
theorem dX5_seek_5 : decode cX5_seek 5 = .ok (.aload_n 0, 1) := by decide +kernel
theorem dX5_seek_6 : decode cX5_seek 6 = .ok (.iload_n 2, 1) := by decide +kernel
theorem dX5_seek_7 : decode cX5_seek 7 = .ok (.putfield 22, 3) := by decide +kernel
theorem dX5_seek_10 : decode cX5_seek 10 = .ok (.aload_n 0, 1) := by decide +kernel
theorem dX5_seek_11 : decode cX5_seek 11 = .ok (.iconst 0, 1) := by decide +kernel
theorem dX5_seek_12 : decode cX5_seek 12 = .ok (.putfield 25, 3) := by decide +kernel
theorem dX5_seek_15 : decode cX5_seek 15 = .ok (.aload_n 0, 1) := by decide +kernel
theorem dX5_seek_16 : decode cX5_seek 16 = .ok (.iconst (-1), 1) := by decide +kernel
theorem dX5_seek_17 : decode cX5_seek 17 = .ok (.putfield 15, 3) := by decide +kernel
theorem dX5_seek_20 : decode cX5_seek 20 = .ok (.aload_n 0, 1) := by decide +kernel
theorem dX5_seek_21 : decode cX5_seek 21 = .ok (.getfield 11, 3) := by decide +kernel
theorem dX5_seek_24 : decode cX5_seek 24 = .ok (.iconst 0, 1) := by decide +kernel
theorem dX5_seek_25 : decode cX5_seek 25 = .ok (.iconst 1, 1) := by decide +kernel
theorem dX5_seek_26 : decode cX5_seek 26 = .ok (.iastore, 1) := by decide +kernel
theorem dX5_seek_27 : decode cX5_seek 27 = .ok (.iconst 0, 1) := by decide +kernel
theorem dX5_seek_28 : decode cX5_seek 28 = .ok (.istore_n 3, 1) := by decide +kernel
theorem dX5_seek_29 : decode cX5_seek 29 = .ok (.iload_n 1, 1) := by decide +kernel
theorem dX5_seek_30 : decode cX5_seek 30 = .ok (.iconst 1, 1) := by decide +kernel
theorem dX5_seek_31 : decode cX5_seek 31 = .ok (.invokestatic 28, 3) := by decide +kernel
theorem dX5_seek_34 : decode cX5_seek 34 = .ok (.istore 4, 2) := by decide +kernel
theorem dX5_seek_36 : decode cX5_seek 36 = .ok (.iload 4, 2) := by decide +kernel
theorem dX5_seek_38 : decode cX5_seek 38 = .ok (.bipush 20, 2) := by decide +kernel
theorem dX5_seek_40 : decode cX5_seek 40 = .ok (.if_icmp .gt 25, 3) := by decide +kernel
theorem dX5_seek_43 : decode cX5_seek 43 = .ok (.iload_n 3, 1) := by decide +kernel
theorem dX5_seek_44 : decode cX5_seek 44 = .ok (.ifCond .ne 21, 3) := by decide +kernel
theorem dX5_seek_47 : decode cX5_seek 47 = .ok (.aload_n 0, 1) := by decide +kernel
theorem dX5_seek_48 : decode cX5_seek 48 = .ok (.iload 4, 2) := by decide +kernel
theorem dX5_seek_50 : decode cX5_seek 50 = .ok (.putfield 32, 3) := by decide +kernel
theorem dX5_seek_53 : decode cX5_seek 53 = .ok (.aload_n 0, 1) := by decide +kernel
theorem dX5_seek_54 : decode cX5_seek 54 = .ok (.iconst 0, 1) := by decide +kernel
theorem dX5_seek_55 : decode cX5_seek 55 = .ok (.invokestatic 35, 3) := by decide +kernel
theorem dX5_seek_58 : decode cX5_seek 58 = .ok (.istore_n 3, 1) := by decide +kernel
theorem dX5_seek_59 : decode cX5_seek 59 = .ok (.iinc 4 1, 3) := by decide +kernel
theorem dX5_seek_62 : decode cX5_seek 62 = .ok (.goto (-26), 3) := by decide +kernel
theorem dX5_seek_65 : decode cX5_seek 65 = .ok (.iload_n 3, 1) := by decide +kernel
theorem dX5_seek_66 : decode cX5_seek 66 = .ok (.iconst 1, 1) := by decide +kernel
theorem dX5_seek_67 : decode cX5_seek 67 = .ok (.if_icmp .ne 7, 3) := by decide +kernel
theorem dX5_seek_70 : decode cX5_seek 70 = .ok (.iconst 1, 1) := by decide +kernel
theorem dX5_seek_71 : decode cX5_seek 71 = .ok (.goto 4, 3) := by decide +kernel
theorem dX5_seek_74 : decode cX5_seek 74 = .ok (.iconst 0, 1) := by decide +kernel
theorem dX5_seek_75 : decode cX5_seek 75 = .ok (.ireturn, 1) := by decide +kernel
theorem dX5_visit_0 : decode cX5_visit 0 = .ok (.aload_n 0, 1) := by decide +kernel
theorem dX5_visit_1 : decode cX5_visit 1 = .ok (.getfield 25, 3) := by decide +kernel
theorem dX5_visit_4 : decode cX5_visit 4 = .ok (.aload_n 0, 1) := by decide +kernel
theorem dX5_visit_5 : decode cX5_visit 5 = .ok (.getfield 22, 3) := by decide +kernel
theorem dX5_visit_8 : decode cX5_visit 8 = .ok (.if_icmp .lt 5, 3) := by decide +kernel
theorem dX5_visit_11 : decode cX5_visit 11 = .ok (.iconst 2, 1) := by decide +kernel
theorem dX5_visit_12 : decode cX5_visit 12 = .ok (.ireturn, 1) := by decide +kernel
theorem dX5_visit_13 : decode cX5_visit 13 = .ok (.aload_n 0, 1) := by decide +kernel
theorem dX5_visit_14 : decode cX5_visit 14 = .ok (.dup, 1) := by decide +kernel
theorem dX5_visit_15 : decode cX5_visit 15 = .ok (.getfield 25, 3) := by decide +kernel
theorem dX5_visit_18 : decode cX5_visit 18 = .ok (.iconst 1, 1) := by decide +kernel
theorem dX5_visit_19 : decode cX5_visit 19 = .ok (.iadd, 1) := by decide +kernel
theorem dX5_visit_20 : decode cX5_visit 20 = .ok (.putfield 25, 3) := by decide +kernel
theorem dX5_visit_23 : decode cX5_visit 23 = .ok (.aload_n 0, 1) := by decide +kernel
theorem dX5_visit_24 : decode cX5_visit 24 = .ok (.getfield 11, 3) := by decide +kernel
theorem dX5_visit_27 : decode cX5_visit 27 = .ok (.astore_n 2, 1) := by decide +kernel
theorem dX5_visit_28 : decode cX5_visit 28 = .ok (.aload_n 2, 1) := by decide +kernel
theorem dX5_visit_29 : decode cX5_visit 29 = .ok (.iload_n 1, 1) := by decide +kernel
theorem dX5_visit_30 : decode cX5_visit 30 = .ok (.iaload, 1) := by decide +kernel
theorem dX5_visit_31 : decode cX5_visit 31 = .ok (.istore_n 3, 1) := by decide +kernel
theorem dX5_visit_32 : decode cX5_visit 32 = .ok (.iload_n 3, 1) := by decide +kernel
theorem dX5_visit_33 : decode cX5_visit 33 = .ok (.aload_n 0, 1) := by decide +kernel
theorem dX5_visit_34 : decode cX5_visit 34 = .ok (.getfield 19, 3) := by decide +kernel
theorem dX5_visit_37 : decode cX5_visit 37 = .ok (.if_icmp .ne 10, 3) := by decide +kernel
theorem dX5_visit_40 : decode cX5_visit 40 = .ok (.aload_n 0, 1) := by decide +kernel
theorem dX5_visit_41 : decode cX5_visit 41 = .ok (.iload_n 1, 1) := by decide +kernel
theorem dX5_visit_42 : decode cX5_visit 42 = .ok (.putfield 15, 3) := by decide +kernel
theorem dX5_visit_45 : decode cX5_visit 45 = .ok (.iconst 1, 1) := by decide +kernel
theorem dX5_visit_46 : decode cX5_visit 46 = .ok (.ireturn, 1) := by decide +kernel
theorem dX5_visit_47 : decode cX5_visit 47 = .ok (.iload_n 1, 1) := by decide +kernel
theorem dX5_visit_48 : decode cX5_visit 48 = .ok (.aload_n 0, 1) := by decide +kernel
theorem dX5_visit_49 : decode cX5_visit 49 = .ok (.getfield 32, 3) := by decide +kernel
theorem dX5_visit_52 : decode cX5_visit 52 = .ok (.if_icmp .ge 21, 3) := by decide +kernel
theorem dX5_visit_55 : decode cX5_visit 55 = .ok (.iload_n 3, 1) := by decide +kernel
theorem dX5_visit_56 : decode cX5_visit 56 = .ok (.i2l, 1) := by decide +kernel
theorem dX5_visit_57 : decode cX5_visit 57 = .ok (.aload_n 0, 1) := by decide +kernel
theorem dX5_visit_58 : decode cX5_visit 58 = .ok (.getfield 32, 3) := by decide +kernel
theorem dX5_visit_61 : decode cX5_visit 61 = .ok (.iload_n 1, 1) := by decide +kernel
theorem dX5_visit_62 : decode cX5_visit 62 = .ok (.isub, 1) := by decide +kernel
theorem dX5_visit_63 : decode cX5_visit 63 = .ok (.lshl, 1) := by decide +kernel
theorem dX5_visit_64 : decode cX5_visit 64 = .ok (.aload_n 0, 1) := by decide +kernel
theorem dX5_visit_65 : decode cX5_visit 65 = .ok (.getfield 19, 3) := by decide +kernel
theorem dX5_visit_68 : decode cX5_visit 68 = .ok (.i2l, 1) := by decide +kernel
theorem dX5_visit_69 : decode cX5_visit 69 = .ok (.lcmp, 1) := by decide +kernel
theorem dX5_visit_70 : decode cX5_visit 70 = .ok (.ifCond .ge 5, 3) := by decide +kernel
theorem dX5_visit_73 : decode cX5_visit 73 = .ok (.iconst 0, 1) := by decide +kernel
theorem dX5_visit_74 : decode cX5_visit 74 = .ok (.ireturn, 1) := by decide +kernel
theorem dX5_visit_75 : decode cX5_visit 75 = .ok (.iconst 0, 1) := by decide +kernel
theorem dX5_visit_76 : decode cX5_visit 76 = .ok (.istore 4, 2) := by decide +kernel
theorem dX5_visit_78 : decode cX5_visit 78 = .ok (.iload_n 1, 1) := by decide +kernel
theorem dX5_visit_79 : decode cX5_visit 79 = .ok (.istore 5, 2) := by decide +kernel
theorem dX5_visit_81 : decode cX5_visit 81 = .ok (.iload 5, 2) := by decide +kernel
theorem dX5_visit_83 : decode cX5_visit 83 = .ok (.ifCond .lt 47, 3) := by decide +kernel
theorem dX5_visit_86 : decode cX5_visit 86 = .ok (.iload 4, 2) := by decide +kernel
theorem dX5_visit_88 : decode cX5_visit 88 = .ok (.ifCond .ne 42, 3) := by decide +kernel
theorem dX5_visit_91 : decode cX5_visit 91 = .ok (.iload_n 3, 1) := by decide +kernel
theorem dX5_visit_92 : decode cX5_visit 92 = .ok (.aload_n 2, 1) := by decide +kernel
theorem dX5_visit_93 : decode cX5_visit 93 = .ok (.iload 5, 2) := by decide +kernel
theorem dX5_visit_95 : decode cX5_visit 95 = .ok (.iaload, 1) := by decide +kernel
theorem dX5_visit_96 : decode cX5_visit 96 = .ok (.iadd, 1) := by decide +kernel
theorem dX5_visit_97 : decode cX5_visit 97 = .ok (.aload_n 0, 1) := by decide +kernel
theorem dX5_visit_98 : decode cX5_visit 98 = .ok (.getfield 19, 3) := by decide +kernel
theorem dX5_visit_101 : decode cX5_visit 101 = .ok (.if_icmp .gt 23, 3) := by decide +kernel
theorem dX5_visit_104 : decode cX5_visit 104 = .ok (.aload_n 2, 1) := by decide +kernel
theorem dX5_visit_105 : decode cX5_visit 105 = .ok (.iload_n 1, 1) := by decide +kernel
theorem dX5_visit_106 : decode cX5_visit 106 = .ok (.iconst 1, 1) := by decide +kernel
theorem dX5_visit_107 : decode cX5_visit 107 = .ok (.iadd, 1) := by decide +kernel
theorem dX5_visit_108 : decode cX5_visit 108 = .ok (.iload_n 3, 1) := by decide +kernel
theorem dX5_visit_109 : decode cX5_visit 109 = .ok (.aload_n 2, 1) := by decide +kernel
theorem dX5_visit_110 : decode cX5_visit 110 = .ok (.iload 5, 2) := by decide +kernel
theorem dX5_visit_112 : decode cX5_visit 112 = .ok (.iaload, 1) := by decide +kernel
theorem dX5_visit_113 : decode cX5_visit 113 = .ok (.iadd, 1) := by decide +kernel
theorem dX5_visit_114 : decode cX5_visit 114 = .ok (.iastore, 1) := by decide +kernel
theorem dX5_visit_115 : decode cX5_visit 115 = .ok (.aload_n 0, 1) := by decide +kernel
theorem dX5_visit_116 : decode cX5_visit 116 = .ok (.iload_n 1, 1) := by decide +kernel
theorem dX5_visit_117 : decode cX5_visit 117 = .ok (.iconst 1, 1) := by decide +kernel
theorem dX5_visit_118 : decode cX5_visit 118 = .ok (.iadd, 1) := by decide +kernel
theorem dX5_visit_119 : decode cX5_visit 119 = .ok (.invokestatic 35, 3) := by decide +kernel
theorem dX5_visit_122 : decode cX5_visit 122 = .ok (.istore 4, 2) := by decide +kernel
theorem dX5_visit_124 : decode cX5_visit 124 = .ok (.iinc 5 (-1), 3) := by decide +kernel
theorem dX5_visit_127 : decode cX5_visit 127 = .ok (.goto (-46), 3) := by decide +kernel
theorem dX5_visit_130 : decode cX5_visit 130 = .ok (.iload 4, 2) := by decide +kernel
theorem dX5_visit_132 : decode cX5_visit 132 = .ok (.ireturn, 1) := by decide +kernel
theorem dX6_init_0 : decode cX6_init 0 = .ok (.aload_n 0, 1) := by decide +kernel
theorem dX6_init_1 : decode cX6_init 1 = .ok (.invokespecial 3, 3) := by decide +kernel
theorem dX6_init_4 : decode cX6_init 4 = .ok (.aload_n 0, 1) := by decide +kernel
theorem dX6_init_5 : decode cX6_init 5 = .ok (.bipush 64, 2) := by decide +kernel
theorem dX6_init_7 : decode cX6_init 7 = .ok (.newarray .int, 2) := by decide +kernel
theorem dX6_init_9 : decode cX6_init 9 = .ok (.putfield 9, 3) := by decide +kernel
theorem dX6_init_12 : decode cX6_init 12 = .ok (.aload_n 0, 1) := by decide +kernel
theorem dX6_init_13 : decode cX6_init 13 = .ok (.bipush 64, 2) := by decide +kernel
theorem dX6_init_15 : decode cX6_init 15 = .ok (.newarray .boolean, 2) := by decide +kernel
theorem dX6_init_17 : decode cX6_init 17 = .ok (.putfield 15, 3) := by decide +kernel
theorem dX6_init_20 : decode cX6_init 20 = .ok (.return_, 1) := by decide +kernel
theorem dX6_measureDepths_0 : decode cX6_measureDepths 0 = .ok (.iconst 0, 1) := by decide +kernel
theorem dX6_measureDepths_1 : decode cX6_measureDepths 1 = .ok (.istore_n 2, 1) := by decide +kernel
theorem dX6_measureDepths_2 : decode cX6_measureDepths 2 = .ok (.iload_n 2, 1) := by decide +kernel
theorem dX6_measureDepths_3 : decode cX6_measureDepths 3 = .ok (.aload_n 1, 1) := by decide +kernel
theorem dX6_measureDepths_4 : decode cX6_measureDepths 4 = .ok (.invokevirtual 19, 3) := by decide +kernel
theorem dX6_measureDepths_7 : decode cX6_measureDepths 7 = .ok (.if_icmp .ge 54, 3) := by decide +kernel
theorem dX6_measureDepths_10 : decode cX6_measureDepths 10 = .ok (.aload_n 0, 1) := by decide +kernel
theorem dX6_measureDepths_11 : decode cX6_measureDepths 11 = .ok (.getfield 9, 3) := by decide +kernel
theorem dX6_measureDepths_14 : decode cX6_measureDepths 14 = .ok (.iload_n 2, 1) := by decide +kernel
theorem dX6_measureDepths_15 : decode cX6_measureDepths 15 = .ok (.aload_n 1, 1) := by decide +kernel
theorem dX6_measureDepths_16 : decode cX6_measureDepths 16 = .ok (.iload_n 2, 1) := by decide +kernel
theorem dX6_measureDepths_17 : decode cX6_measureDepths 17 = .ok (.invokevirtual 25, 3) := by decide +kernel
theorem dX6_measureDepths_20 : decode cX6_measureDepths 20 = .ok (.ifCond .eq 7, 3) := by decide +kernel
theorem dX6_measureDepths_23 : decode cX6_measureDepths 23 = .ok (.iconst 0, 1) := by decide +kernel
theorem dX6_measureDepths_24 : decode cX6_measureDepths 24 = .ok (.goto 30, 3) := by decide +kernel
theorem dX6_measureDepths_27 : decode cX6_measureDepths 27 = .ok (.iconst 1, 1) := by decide +kernel
theorem dX6_measureDepths_28 : decode cX6_measureDepths 28 = .ok (.aload_n 0, 1) := by decide +kernel
theorem dX6_measureDepths_29 : decode cX6_measureDepths 29 = .ok (.getfield 9, 3) := by decide +kernel
theorem dX6_measureDepths_32 : decode cX6_measureDepths 32 = .ok (.aload_n 1, 1) := by decide +kernel
theorem dX6_measureDepths_33 : decode cX6_measureDepths 33 = .ok (.getfield 29, 3) := by decide +kernel
theorem dX6_measureDepths_36 : decode cX6_measureDepths 36 = .ok (.iload_n 2, 1) := by decide +kernel
theorem dX6_measureDepths_37 : decode cX6_measureDepths 37 = .ok (.iaload, 1) := by decide +kernel
theorem dX6_measureDepths_38 : decode cX6_measureDepths 38 = .ok (.iaload, 1) := by decide +kernel
theorem dX6_measureDepths_39 : decode cX6_measureDepths 39 = .ok (.aload_n 0, 1) := by decide +kernel
theorem dX6_measureDepths_40 : decode cX6_measureDepths 40 = .ok (.getfield 9, 3) := by decide +kernel
theorem dX6_measureDepths_43 : decode cX6_measureDepths 43 = .ok (.aload_n 1, 1) := by decide +kernel
theorem dX6_measureDepths_44 : decode cX6_measureDepths 44 = .ok (.getfield 32, 3) := by decide +kernel
theorem dX6_measureDepths_47 : decode cX6_measureDepths 47 = .ok (.iload_n 2, 1) := by decide +kernel
theorem dX6_measureDepths_48 : decode cX6_measureDepths 48 = .ok (.iaload, 1) := by decide +kernel
theorem dX6_measureDepths_49 : decode cX6_measureDepths 49 = .ok (.iaload, 1) := by decide +kernel
theorem dX6_measureDepths_50 : decode cX6_measureDepths 50 = .ok (.invokestatic 35, 3) := by decide +kernel
theorem dX6_measureDepths_53 : decode cX6_measureDepths 53 = .ok (.iadd, 1) := by decide +kernel
theorem dX6_measureDepths_54 : decode cX6_measureDepths 54 = .ok (.iastore, 1) := by decide +kernel
theorem dX6_measureDepths_55 : decode cX6_measureDepths 55 = .ok (.iinc 2 1, 3) := by decide +kernel
theorem dX6_measureDepths_58 : decode cX6_measureDepths 58 = .ok (.goto (-56), 3) := by decide +kernel
theorem dX6_measureDepths_61 : decode cX6_measureDepths 61 = .ok (.return_, 1) := by decide +kernel
theorem dX6_greatestDepth_0 : decode cX6_greatestDepth 0 = .ok (.aload_n 0, 1) := by decide +kernel
theorem dX6_greatestDepth_1 : decode cX6_greatestDepth 1 = .ok (.aload_n 1, 1) := by decide +kernel
theorem dX6_greatestDepth_2 : decode cX6_greatestDepth 2 = .ok (.invokevirtual 41, 3) := by decide +kernel
theorem dX6_greatestDepth_5 : decode cX6_greatestDepth 5 = .ok (.iconst 0, 1) := by decide +kernel
theorem dX6_greatestDepth_6 : decode cX6_greatestDepth 6 = .ok (.istore_n 2, 1) := by decide +kernel
theorem dX6_greatestDepth_7 : decode cX6_greatestDepth 7 = .ok (.iconst 0, 1) := by decide +kernel
theorem dX6_greatestDepth_8 : decode cX6_greatestDepth 8 = .ok (.istore_n 3, 1) := by decide +kernel
theorem dX6_greatestDepth_9 : decode cX6_greatestDepth 9 = .ok (.iload_n 3, 1) := by decide +kernel
theorem dX6_greatestDepth_10 : decode cX6_greatestDepth 10 = .ok (.aload_n 1, 1) := by decide +kernel
theorem dX6_greatestDepth_11 : decode cX6_greatestDepth 11 = .ok (.invokevirtual 19, 3) := by decide +kernel
theorem dX6_greatestDepth_14 : decode cX6_greatestDepth 14 = .ok (.if_icmp .ge 20, 3) := by decide +kernel
theorem dX6_greatestDepth_17 : decode cX6_greatestDepth 17 = .ok (.iload_n 2, 1) := by decide +kernel
theorem dX6_greatestDepth_18 : decode cX6_greatestDepth 18 = .ok (.aload_n 0, 1) := by decide +kernel
theorem dX6_greatestDepth_19 : decode cX6_greatestDepth 19 = .ok (.getfield 9, 3) := by decide +kernel
theorem dX6_greatestDepth_22 : decode cX6_greatestDepth 22 = .ok (.iload_n 3, 1) := by decide +kernel
theorem dX6_greatestDepth_23 : decode cX6_greatestDepth 23 = .ok (.iaload, 1) := by decide +kernel
theorem dX6_greatestDepth_24 : decode cX6_greatestDepth 24 = .ok (.invokestatic 35, 3) := by decide +kernel
theorem dX6_greatestDepth_27 : decode cX6_greatestDepth 27 = .ok (.istore_n 2, 1) := by decide +kernel
theorem dX6_greatestDepth_28 : decode cX6_greatestDepth 28 = .ok (.iinc 3 1, 3) := by decide +kernel
theorem dX6_greatestDepth_31 : decode cX6_greatestDepth 31 = .ok (.goto (-22), 3) := by decide +kernel
theorem dX6_greatestDepth_34 : decode cX6_greatestDepth 34 = .ok (.iload_n 2, 1) := by decide +kernel
theorem dX6_greatestDepth_35 : decode cX6_greatestDepth 35 = .ok (.ireturn, 1) := by decide +kernel
theorem dX6_markNeeded_0 : decode cX6_markNeeded 0 = .ok (.iconst 0, 1) := by decide +kernel
theorem dX6_markNeeded_1 : decode cX6_markNeeded 1 = .ok (.istore_n 2, 1) := by decide +kernel
theorem dX6_markNeeded_2 : decode cX6_markNeeded 2 = .ok (.iload_n 2, 1) := by decide +kernel
theorem dX6_markNeeded_3 : decode cX6_markNeeded 3 = .ok (.aload_n 1, 1) := by decide +kernel
theorem dX6_markNeeded_4 : decode cX6_markNeeded 4 = .ok (.invokevirtual 19, 3) := by decide +kernel
theorem dX6_markNeeded_7 : decode cX6_markNeeded 7 = .ok (.if_icmp .ge 16, 3) := by decide +kernel
theorem dX6_markNeeded_10 : decode cX6_markNeeded 10 = .ok (.aload_n 0, 1) := by decide +kernel
theorem dX6_markNeeded_11 : decode cX6_markNeeded 11 = .ok (.getfield 15, 3) := by decide +kernel
theorem dX6_markNeeded_14 : decode cX6_markNeeded 14 = .ok (.iload_n 2, 1) := by decide +kernel
theorem dX6_markNeeded_15 : decode cX6_markNeeded 15 = .ok (.iconst 0, 1) := by decide +kernel
theorem dX6_markNeeded_16 : decode cX6_markNeeded 16 = .ok (.bastore, 1) := by decide +kernel
theorem dX6_markNeeded_17 : decode cX6_markNeeded 17 = .ok (.iinc 2 1, 3) := by decide +kernel
theorem dX6_markNeeded_20 : decode cX6_markNeeded 20 = .ok (.goto (-18), 3) := by decide +kernel
theorem dX6_markNeeded_23 : decode cX6_markNeeded 23 = .ok (.iconst 0, 1) := by decide +kernel
theorem dX6_markNeeded_24 : decode cX6_markNeeded 24 = .ok (.istore_n 2, 1) := by decide +kernel
theorem dX6_markNeeded_25 : decode cX6_markNeeded 25 = .ok (.iload_n 2, 1) := by decide +kernel
theorem dX6_markNeeded_26 : decode cX6_markNeeded 26 = .ok (.aload_n 1, 1) := by decide +kernel
theorem dX6_markNeeded_27 : decode cX6_markNeeded 27 = .ok (.getfield 45, 3) := by decide +kernel
theorem dX6_markNeeded_30 : decode cX6_markNeeded 30 = .ok (.if_icmp .ge 21, 3) := by decide +kernel
theorem dX6_markNeeded_33 : decode cX6_markNeeded 33 = .ok (.aload_n 0, 1) := by decide +kernel
theorem dX6_markNeeded_34 : decode cX6_markNeeded 34 = .ok (.getfield 15, 3) := by decide +kernel
theorem dX6_markNeeded_37 : decode cX6_markNeeded 37 = .ok (.aload_n 1, 1) := by decide +kernel
theorem dX6_markNeeded_38 : decode cX6_markNeeded 38 = .ok (.getfield 49, 3) := by decide +kernel
theorem dX6_markNeeded_41 : decode cX6_markNeeded 41 = .ok (.iload_n 2, 1) := by decide +kernel
theorem dX6_markNeeded_42 : decode cX6_markNeeded 42 = .ok (.iaload, 1) := by decide +kernel
theorem dX6_markNeeded_43 : decode cX6_markNeeded 43 = .ok (.iconst 1, 1) := by decide +kernel
theorem dX6_markNeeded_44 : decode cX6_markNeeded 44 = .ok (.bastore, 1) := by decide +kernel
theorem dX6_markNeeded_45 : decode cX6_markNeeded 45 = .ok (.iinc 2 1, 3) := by decide +kernel
theorem dX6_markNeeded_48 : decode cX6_markNeeded 48 = .ok (.goto (-23), 3) := by decide +kernel
theorem dX6_markNeeded_51 : decode cX6_markNeeded 51 = .ok (.aload_n 1, 1) := by decide +kernel
theorem dX6_markNeeded_52 : decode cX6_markNeeded 52 = .ok (.invokevirtual 19, 3) := by decide +kernel
theorem dX6_markNeeded_55 : decode cX6_markNeeded 55 = .ok (.iconst 1, 1) := by decide +kernel
theorem dX6_markNeeded_56 : decode cX6_markNeeded 56 = .ok (.isub, 1) := by decide +kernel
theorem dX6_markNeeded_57 : decode cX6_markNeeded 57 = .ok (.istore_n 2, 1) := by decide +kernel
theorem dX6_markNeeded_58 : decode cX6_markNeeded 58 = .ok (.iload_n 2, 1) := by decide +kernel
theorem dX6_markNeeded_59 : decode cX6_markNeeded 59 = .ok (.aload_n 1, 1) := by decide +kernel
theorem dX6_markNeeded_60 : decode cX6_markNeeded 60 = .ok (.getfield 52, 3) := by decide +kernel
theorem dX6_markNeeded_63 : decode cX6_markNeeded 63 = .ok (.if_icmp .lt 42, 3) := by decide +kernel
theorem dX6_markNeeded_66 : decode cX6_markNeeded 66 = .ok (.aload_n 0, 1) := by decide +kernel
theorem dX6_markNeeded_67 : decode cX6_markNeeded 67 = .ok (.getfield 15, 3) := by decide +kernel
theorem dX6_markNeeded_70 : decode cX6_markNeeded 70 = .ok (.iload_n 2, 1) := by decide +kernel
theorem dX6_markNeeded_71 : decode cX6_markNeeded 71 = .ok (.baload, 1) := by decide +kernel
theorem dX6_markNeeded_72 : decode cX6_markNeeded 72 = .ok (.ifCond .eq 27, 3) := by decide +kernel
theorem dX6_markNeeded_75 : decode cX6_markNeeded 75 = .ok (.aload_n 0, 1) := by decide +kernel
theorem dX6_markNeeded_76 : decode cX6_markNeeded 76 = .ok (.getfield 15, 3) := by decide +kernel
theorem dX6_markNeeded_79 : decode cX6_markNeeded 79 = .ok (.aload_n 1, 1) := by decide +kernel
theorem dX6_markNeeded_80 : decode cX6_markNeeded 80 = .ok (.getfield 29, 3) := by decide +kernel
theorem dX6_markNeeded_83 : decode cX6_markNeeded 83 = .ok (.iload_n 2, 1) := by decide +kernel
theorem dX6_markNeeded_84 : decode cX6_markNeeded 84 = .ok (.iaload, 1) := by decide +kernel
theorem dX6_markNeeded_85 : decode cX6_markNeeded 85 = .ok (.iconst 1, 1) := by decide +kernel
theorem dX6_markNeeded_86 : decode cX6_markNeeded 86 = .ok (.bastore, 1) := by decide +kernel
theorem dX6_markNeeded_87 : decode cX6_markNeeded 87 = .ok (.aload_n 0, 1) := by decide +kernel
theorem dX6_markNeeded_88 : decode cX6_markNeeded 88 = .ok (.getfield 15, 3) := by decide +kernel
theorem dX6_markNeeded_91 : decode cX6_markNeeded 91 = .ok (.aload_n 1, 1) := by decide +kernel
theorem dX6_markNeeded_92 : decode cX6_markNeeded 92 = .ok (.getfield 32, 3) := by decide +kernel
theorem dX6_markNeeded_95 : decode cX6_markNeeded 95 = .ok (.iload_n 2, 1) := by decide +kernel
theorem dX6_markNeeded_96 : decode cX6_markNeeded 96 = .ok (.iaload, 1) := by decide +kernel
theorem dX6_markNeeded_97 : decode cX6_markNeeded 97 = .ok (.iconst 1, 1) := by decide +kernel
theorem dX6_markNeeded_98 : decode cX6_markNeeded 98 = .ok (.bastore, 1) := by decide +kernel
theorem dX6_markNeeded_99 : decode cX6_markNeeded 99 = .ok (.iinc 2 (-1), 3) := by decide +kernel
theorem dX6_markNeeded_102 : decode cX6_markNeeded 102 = .ok (.goto (-44), 3) := by decide +kernel
theorem dX6_markNeeded_105 : decode cX6_markNeeded 105 = .ok (.return_, 1) := by decide +kernel
theorem dX6_neededSteps_0 : decode cX6_neededSteps 0 = .ok (.aload_n 0, 1) := by decide +kernel
theorem dX6_neededSteps_1 : decode cX6_neededSteps 1 = .ok (.aload_n 1, 1) := by decide +kernel
theorem dX6_neededSteps_2 : decode cX6_neededSteps 2 = .ok (.invokevirtual 55, 3) := by decide +kernel
theorem dX6_neededSteps_5 : decode cX6_neededSteps 5 = .ok (.iconst 0, 1) := by decide +kernel
theorem dX6_neededSteps_6 : decode cX6_neededSteps 6 = .ok (.istore_n 2, 1) := by decide +kernel
theorem dX6_neededSteps_7 : decode cX6_neededSteps 7 = .ok (.aload_n 1, 1) := by decide +kernel
theorem dX6_neededSteps_8 : decode cX6_neededSteps 8 = .ok (.getfield 52, 3) := by decide +kernel
theorem dX6_neededSteps_11 : decode cX6_neededSteps 11 = .ok (.istore_n 3, 1) := by decide +kernel
theorem dX6_neededSteps_12 : decode cX6_neededSteps 12 = .ok (.iload_n 3, 1) := by decide +kernel
theorem dX6_neededSteps_13 : decode cX6_neededSteps 13 = .ok (.aload_n 1, 1) := by decide +kernel
theorem dX6_neededSteps_14 : decode cX6_neededSteps 14 = .ok (.invokevirtual 19, 3) := by decide +kernel
theorem dX6_neededSteps_17 : decode cX6_neededSteps 17 = .ok (.if_icmp .ge 21, 3) := by decide +kernel
theorem dX6_neededSteps_20 : decode cX6_neededSteps 20 = .ok (.aload_n 0, 1) := by decide +kernel
theorem dX6_neededSteps_21 : decode cX6_neededSteps 21 = .ok (.getfield 15, 3) := by decide +kernel
theorem dX6_neededSteps_24 : decode cX6_neededSteps 24 = .ok (.iload_n 3, 1) := by decide +kernel
theorem dX6_neededSteps_25 : decode cX6_neededSteps 25 = .ok (.baload, 1) := by decide +kernel
theorem dX6_neededSteps_26 : decode cX6_neededSteps 26 = .ok (.ifCond .eq 6, 3) := by decide +kernel
theorem dX6_neededSteps_29 : decode cX6_neededSteps 29 = .ok (.iinc 2 1, 3) := by decide +kernel
theorem dX6_neededSteps_32 : decode cX6_neededSteps 32 = .ok (.iinc 3 1, 3) := by decide +kernel
theorem dX6_neededSteps_35 : decode cX6_neededSteps 35 = .ok (.goto (-23), 3) := by decide +kernel
theorem dX6_neededSteps_38 : decode cX6_neededSteps 38 = .ok (.iload_n 2, 1) := by decide +kernel
theorem dX6_neededSteps_39 : decode cX6_neededSteps 39 = .ok (.ireturn, 1) := by decide +kernel
theorem dX7_init_0 : decode cX7_init 0 = .ok (.aload_n 0, 1) := by decide +kernel
theorem dX7_init_1 : decode cX7_init 1 = .ok (.invokespecial 3, 3) := by decide +kernel
theorem dX7_init_4 : decode cX7_init 4 = .ok (.aload_n 0, 1) := by decide +kernel
theorem dX7_init_5 : decode cX7_init 5 = .ok (.sipush 500, 3) := by decide +kernel
theorem dX7_init_8 : decode cX7_init 8 = .ok (.newarray .byte, 2) := by decide +kernel
theorem dX7_init_10 : decode cX7_init 10 = .ok (.putfield 9, 3) := by decide +kernel
theorem dX7_init_13 : decode cX7_init 13 = .ok (.return_, 1) := by decide +kernel
theorem dX7_append_0 : decode cX7_append 0 = .ok (.bipush 24, 2) := by decide +kernel
theorem dX7_append_2 : decode cX7_append 2 = .ok (.istore_n 2, 1) := by decide +kernel
theorem dX7_append_3 : decode cX7_append 3 = .ok (.iload_n 2, 1) := by decide +kernel
theorem dX7_append_4 : decode cX7_append 4 = .ok (.ifCond .lt 42, 3) := by decide +kernel
theorem dX7_append_7 : decode cX7_append 7 = .ok (.aload_n 0, 1) := by decide +kernel
theorem dX7_append_8 : decode cX7_append 8 = .ok (.getfield 15, 3) := by decide +kernel
theorem dX7_append_11 : decode cX7_append 11 = .ok (.sipush 500, 3) := by decide +kernel
theorem dX7_append_14 : decode cX7_append 14 = .ok (.if_icmp .ge 32, 3) := by decide +kernel
theorem dX7_append_17 : decode cX7_append 17 = .ok (.aload_n 0, 1) := by decide +kernel
theorem dX7_append_18 : decode cX7_append 18 = .ok (.getfield 9, 3) := by decide +kernel
theorem dX7_append_21 : decode cX7_append 21 = .ok (.aload_n 0, 1) := by decide +kernel
theorem dX7_append_22 : decode cX7_append 22 = .ok (.getfield 15, 3) := by decide +kernel
theorem dX7_append_25 : decode cX7_append 25 = .ok (.iload_n 1, 1) := by decide +kernel
theorem dX7_append_26 : decode cX7_append 26 = .ok (.iload_n 2, 1) := by decide +kernel
theorem dX7_append_27 : decode cX7_append 27 = .ok (.ishr, 1) := by decide +kernel
theorem dX7_append_28 : decode cX7_append 28 = .ok (.i2b, 1) := by decide +kernel
theorem dX7_append_29 : decode cX7_append 29 = .ok (.bastore, 1) := by decide +kernel
theorem dX7_append_30 : decode cX7_append 30 = .ok (.aload_n 0, 1) := by decide +kernel
theorem dX7_append_31 : decode cX7_append 31 = .ok (.dup, 1) := by decide +kernel
theorem dX7_append_32 : decode cX7_append 32 = .ok (.getfield 15, 3) := by decide +kernel
theorem dX7_append_35 : decode cX7_append 35 = .ok (.iconst 1, 1) := by decide +kernel
theorem dX7_append_36 : decode cX7_append 36 = .ok (.iadd, 1) := by decide +kernel
theorem dX7_append_37 : decode cX7_append 37 = .ok (.putfield 15, 3) := by decide +kernel
theorem dX7_append_40 : decode cX7_append 40 = .ok (.iinc 2 (-8), 3) := by decide +kernel
theorem dX7_append_43 : decode cX7_append 43 = .ok (.goto (-40), 3) := by decide +kernel
theorem dX7_append_46 : decode cX7_append 46 = .ok (.return_, 1) := by decide +kernel
theorem dX8_init_0 : decode cX8_init 0 = .ok (.aload_n 0, 1) := by decide +kernel
theorem dX8_init_1 : decode cX8_init 1 = .ok (.invokespecial 3, 3) := by decide +kernel
theorem dX8_init_4 : decode cX8_init 4 = .ok (.aload_n 0, 1) := by decide +kernel
theorem dX8_init_5 : decode cX8_init 5 = .ok (.new 9, 3) := by decide +kernel
theorem dX8_init_8 : decode cX8_init 8 = .ok (.dup, 1) := by decide +kernel
theorem dX8_init_9 : decode cX8_init 9 = .ok (.invokespecial 11, 3) := by decide +kernel
theorem dX8_init_12 : decode cX8_init 12 = .ok (.putfield 12, 3) := by decide +kernel
theorem dX8_init_15 : decode cX8_init 15 = .ok (.aload_n 0, 1) := by decide +kernel
theorem dX8_init_16 : decode cX8_init 16 = .ok (.new 18, 3) := by decide +kernel
theorem dX8_init_19 : decode cX8_init 19 = .ok (.dup, 1) := by decide +kernel
theorem dX8_init_20 : decode cX8_init 20 = .ok (.invokespecial 20, 3) := by decide +kernel
theorem dX8_init_23 : decode cX8_init 23 = .ok (.putfield 21, 3) := by decide +kernel
theorem dX8_init_26 : decode cX8_init 26 = .ok (.aload_n 0, 1) := by decide +kernel
theorem dX8_init_27 : decode cX8_init 27 = .ok (.bipush 64, 2) := by decide +kernel
theorem dX8_init_29 : decode cX8_init 29 = .ok (.newarray .int, 2) := by decide +kernel
theorem dX8_init_31 : decode cX8_init 31 = .ok (.putfield 25, 3) := by decide +kernel
theorem dX8_init_34 : decode cX8_init 34 = .ok (.return_, 1) := by decide +kernel
theorem dX8_read_0 : decode cX8_read 0 = .ok (.aload_n 0, 1) := by decide +kernel
theorem dX8_read_1 : decode cX8_read 1 = .ok (.aload_n 3, 1) := by decide +kernel
theorem dX8_read_2 : decode cX8_read 2 = .ok (.putfield 29, 3) := by decide +kernel
theorem dX8_read_5 : decode cX8_read 5 = .ok (.aload_n 0, 1) := by decide +kernel
theorem dX8_read_6 : decode cX8_read 6 = .ok (.getfield 29, 3) := by decide +kernel
theorem dX8_read_9 : decode cX8_read 9 = .ok (.iconst 0, 1) := by decide +kernel
theorem dX8_read_10 : decode cX8_read 10 = .ok (.invokevirtual 33, 3) := by decide +kernel
theorem dX8_read_13 : decode cX8_read 13 = .ok (.aload_n 0, 1) := by decide +kernel
theorem dX8_read_14 : decode cX8_read 14 = .ok (.getfield 12, 3) := by decide +kernel
theorem dX8_read_17 : decode cX8_read 17 = .ok (.aload_n 1, 1) := by decide +kernel
theorem dX8_read_18 : decode cX8_read 18 = .ok (.iload_n 2, 1) := by decide +kernel
theorem dX8_read_19 : decode cX8_read 19 = .ok (.invokevirtual 39, 3) := by decide +kernel
theorem dX8_read_22 : decode cX8_read 22 = .ok (.aload_n 0, 1) := by decide +kernel
theorem dX8_read_23 : decode cX8_read 23 = .ok (.getfield 12, 3) := by decide +kernel
theorem dX8_read_26 : decode cX8_read 26 = .ok (.invokevirtual 42, 3) := by decide +kernel
theorem dX8_read_29 : decode cX8_read 29 = .ok (.aload_n 0, 1) := by decide +kernel
theorem dX8_read_30 : decode cX8_read 30 = .ok (.ldc 45, 2) := by decide +kernel
theorem dX8_read_32 : decode cX8_read 32 = .ok (.invokevirtual 46, 3) := by decide +kernel
theorem dX8_read_35 : decode cX8_read 35 = .ok (.ifCond .eq 10, 3) := by decide +kernel
theorem dX8_read_38 : decode cX8_read 38 = .ok (.aload_n 0, 1) := by decide +kernel
theorem dX8_read_39 : decode cX8_read 39 = .ok (.invokevirtual 50, 3) := by decide +kernel
theorem dX8_read_42 : decode cX8_read 42 = .ok (.goto 8, 3) := by decide +kernel
theorem dX8_read_45 : decode cX8_read 45 = .ok (.aload_n 0, 1) := by decide +kernel
theorem dX8_read_46 : decode cX8_read 46 = .ok (.iconst 1, 1) := by decide +kernel
theorem dX8_read_47 : decode cX8_read 47 = .ok (.invokevirtual 54, 3) := by decide +kernel
theorem dX8_read_50 : decode cX8_read 50 = .ok (.istore 4, 2) := by decide +kernel
theorem dX8_read_52 : decode cX8_read 52 = .ok (.iconst 0, 1) := by decide +kernel
theorem dX8_read_53 : decode cX8_read 53 = .ok (.istore 5, 2) := by decide +kernel
theorem dX8_read_55 : decode cX8_read 55 = .ok (.iload 5, 2) := by decide +kernel
theorem dX8_read_57 : decode cX8_read 57 = .ok (.iload_n 2, 1) := by decide +kernel
theorem dX8_read_58 : decode cX8_read 58 = .ok (.if_icmp .gt 41, 3) := by decide +kernel
theorem dX8_read_61 : decode cX8_read 61 = .ok (.iload 4, 2) := by decide +kernel
theorem dX8_read_63 : decode cX8_read 63 = .ok (.ifCond .ne 36, 3) := by decide +kernel
theorem dX8_read_66 : decode cX8_read 66 = .ok (.aload_n 0, 1) := by decide +kernel
theorem dX8_read_67 : decode cX8_read 67 = .ok (.getfield 12, 3) := by decide +kernel
theorem dX8_read_70 : decode cX8_read 70 = .ok (.invokevirtual 42, 3) := by decide +kernel
theorem dX8_read_73 : decode cX8_read 73 = .ok (.aload_n 0, 1) := by decide +kernel
theorem dX8_read_74 : decode cX8_read 74 = .ok (.ldc 58, 2) := by decide +kernel
theorem dX8_read_76 : decode cX8_read 76 = .ok (.invokevirtual 46, 3) := by decide +kernel
theorem dX8_read_79 : decode cX8_read 79 = .ok (.ifCond .eq 8, 3) := by decide +kernel
theorem dX8_read_82 : decode cX8_read 82 = .ok (.aload_n 0, 1) := by decide +kernel
theorem dX8_read_83 : decode cX8_read 83 = .ok (.invokevirtual 59, 3) := by decide +kernel
theorem dX8_read_86 : decode cX8_read 86 = .ok (.ireturn, 1) := by decide +kernel
theorem dX8_read_87 : decode cX8_read 87 = .ok (.aload_n 0, 1) := by decide +kernel
theorem dX8_read_88 : decode cX8_read 88 = .ok (.invokevirtual 62, 3) := by decide +kernel
theorem dX8_read_91 : decode cX8_read 91 = .ok (.istore 4, 2) := by decide +kernel
theorem dX8_read_93 : decode cX8_read 93 = .ok (.iinc 5 1, 3) := by decide +kernel
theorem dX8_read_96 : decode cX8_read 96 = .ok (.goto (-41), 3) := by decide +kernel
theorem dX8_read_99 : decode cX8_read 99 = .ok (.iload 4, 2) := by decide +kernel
theorem dX8_read_101 : decode cX8_read 101 = .ok (.ireturn, 1) := by decide +kernel
theorem dX8_readBases_0 : decode cX8_readBases 0 = .ok (.iconst 0, 1) := by decide +kernel
theorem dX8_readBases_1 : decode cX8_readBases 1 = .ok (.istore_n 1, 1) := by decide +kernel
theorem dX8_readBases_2 : decode cX8_readBases 2 = .ok (.iload_n 1, 1) := by decide +kernel
theorem dX8_readBases_3 : decode cX8_readBases 3 = .ok (.iconst 4, 1) := by decide +kernel
theorem dX8_readBases_4 : decode cX8_readBases 4 = .ok (.if_icmp .gt 90, 3) := by decide +kernel
theorem dX8_readBases_7 : decode cX8_readBases 7 = .ok (.aload_n 0, 1) := by decide +kernel
theorem dX8_readBases_8 : decode cX8_readBases 8 = .ok (.getfield 12, 3) := by decide +kernel
theorem dX8_readBases_11 : decode cX8_readBases 11 = .ok (.invokevirtual 42, 3) := by decide +kernel
theorem dX8_readBases_14 : decode cX8_readBases 14 = .ok (.aload_n 0, 1) := by decide +kernel
theorem dX8_readBases_15 : decode cX8_readBases 15 = .ok (.getfield 12, 3) := by decide +kernel
theorem dX8_readBases_18 : decode cX8_readBases 18 = .ok (.getfield 65, 3) := by decide +kernel
theorem dX8_readBases_21 : decode cX8_readBases 21 = .ok (.bipush 59, 2) := by decide +kernel
theorem dX8_readBases_23 : decode cX8_readBases 23 = .ok (.if_icmp .ne 9, 3) := by decide +kernel
theorem dX8_readBases_26 : decode cX8_readBases 26 = .ok (.iload_n 1, 1) := by decide +kernel
theorem dX8_readBases_27 : decode cX8_readBases 27 = .ok (.ifCond .le 5, 3) := by decide +kernel
theorem dX8_readBases_30 : decode cX8_readBases 30 = .ok (.iconst 0, 1) := by decide +kernel
theorem dX8_readBases_31 : decode cX8_readBases 31 = .ok (.ireturn, 1) := by decide +kernel
theorem dX8_readBases_32 : decode cX8_readBases 32 = .ok (.aload_n 0, 1) := by decide +kernel
theorem dX8_readBases_33 : decode cX8_readBases 33 = .ok (.invokevirtual 69, 3) := by decide +kernel
theorem dX8_readBases_36 : decode cX8_readBases 36 = .ok (.istore_n 2, 1) := by decide +kernel
theorem dX8_readBases_37 : decode cX8_readBases 37 = .ok (.iload_n 2, 1) := by decide +kernel
theorem dX8_readBases_38 : decode cX8_readBases 38 = .ok (.ifCond .eq 5, 3) := by decide +kernel
theorem dX8_readBases_41 : decode cX8_readBases 41 = .ok (.iload_n 2, 1) := by decide +kernel
theorem dX8_readBases_42 : decode cX8_readBases 42 = .ok (.ireturn, 1) := by decide +kernel
theorem dX8_readBases_43 : decode cX8_readBases 43 = .ok (.iload_n 1, 1) := by decide +kernel
theorem dX8_readBases_44 : decode cX8_readBases 44 = .ok (.iconst 4, 1) := by decide +kernel
theorem dX8_readBases_45 : decode cX8_readBases 45 = .ok (.if_icmp .ne 9, 3) := by decide +kernel
theorem dX8_readBases_48 : decode cX8_readBases 48 = .ok (.aload_n 0, 1) := by decide +kernel
theorem dX8_readBases_49 : decode cX8_readBases 49 = .ok (.iconst 5, 1) := by decide +kernel
theorem dX8_readBases_50 : decode cX8_readBases 50 = .ok (.invokevirtual 54, 3) := by decide +kernel
theorem dX8_readBases_53 : decode cX8_readBases 53 = .ok (.ireturn, 1) := by decide +kernel
theorem dX8_readBases_54 : decode cX8_readBases 54 = .ok (.aload_n 0, 1) := by decide +kernel
theorem dX8_readBases_55 : decode cX8_readBases 55 = .ok (.getfield 25, 3) := by decide +kernel
theorem dX8_readBases_58 : decode cX8_readBases 58 = .ok (.iload_n 1, 1) := by decide +kernel
theorem dX8_readBases_59 : decode cX8_readBases 59 = .ok (.aload_n 0, 1) := by decide +kernel
theorem dX8_readBases_60 : decode cX8_readBases 60 = .ok (.getfield 12, 3) := by decide +kernel
theorem dX8_readBases_63 : decode cX8_readBases 63 = .ok (.getfield 72, 3) := by decide +kernel
theorem dX8_readBases_66 : decode cX8_readBases 66 = .ok (.iastore, 1) := by decide +kernel
theorem dX8_readBases_67 : decode cX8_readBases 67 = .ok (.aload_n 0, 1) := by decide +kernel
theorem dX8_readBases_68 : decode cX8_readBases 68 = .ok (.getfield 21, 3) := by decide +kernel
theorem dX8_readBases_71 : decode cX8_readBases 71 = .ok (.iload_n 1, 1) := by decide +kernel
theorem dX8_readBases_72 : decode cX8_readBases 72 = .ok (.invokevirtual 75, 3) := by decide +kernel
theorem dX8_readBases_75 : decode cX8_readBases 75 = .ok (.aload_n 0, 1) := by decide +kernel
theorem dX8_readBases_76 : decode cX8_readBases 76 = .ok (.getfield 29, 3) := by decide +kernel
theorem dX8_readBases_79 : decode cX8_readBases 79 = .ok (.dup, 1) := by decide +kernel
theorem dX8_readBases_80 : decode cX8_readBases 80 = .ok (.getfield 78, 3) := by decide +kernel
theorem dX8_readBases_83 : decode cX8_readBases 83 = .ok (.iconst 1, 1) := by decide +kernel
theorem dX8_readBases_84 : decode cX8_readBases 84 = .ok (.iadd, 1) := by decide +kernel
theorem dX8_readBases_85 : decode cX8_readBases 85 = .ok (.putfield 78, 3) := by decide +kernel
theorem dX8_readBases_88 : decode cX8_readBases 88 = .ok (.iinc 1 1, 3) := by decide +kernel
theorem dX8_readBases_91 : decode cX8_readBases 91 = .ok (.goto (-89), 3) := by decide +kernel
theorem dX8_readBases_94 : decode cX8_readBases 94 = .ok (.iconst 0, 1) := by decide +kernel
theorem dX8_readBases_95 : decode cX8_readBases 95 = .ok (.ireturn, 1) := by decide +kernel
theorem dX8_readWants_0 : decode cX8_readWants 0 = .ok (.iconst 0, 1) := by decide +kernel
theorem dX8_readWants_1 : decode cX8_readWants 1 = .ok (.istore_n 1, 1) := by decide +kernel
theorem dX8_readWants_2 : decode cX8_readWants 2 = .ok (.iload_n 1, 1) := by decide +kernel
theorem dX8_readWants_3 : decode cX8_readWants 3 = .ok (.iconst 4, 1) := by decide +kernel
theorem dX8_readWants_4 : decode cX8_readWants 4 = .ok (.if_icmp .gt 92, 3) := by decide +kernel
theorem dX8_readWants_7 : decode cX8_readWants 7 = .ok (.aload_n 0, 1) := by decide +kernel
theorem dX8_readWants_8 : decode cX8_readWants 8 = .ok (.getfield 12, 3) := by decide +kernel
theorem dX8_readWants_11 : decode cX8_readWants 11 = .ok (.invokevirtual 42, 3) := by decide +kernel
theorem dX8_readWants_14 : decode cX8_readWants 14 = .ok (.aload_n 0, 1) := by decide +kernel
theorem dX8_readWants_15 : decode cX8_readWants 15 = .ok (.getfield 12, 3) := by decide +kernel
theorem dX8_readWants_18 : decode cX8_readWants 18 = .ok (.getfield 65, 3) := by decide +kernel
theorem dX8_readWants_21 : decode cX8_readWants 21 = .ok (.bipush 59, 2) := by decide +kernel
theorem dX8_readWants_23 : decode cX8_readWants 23 = .ok (.if_icmp .ne 12, 3) := by decide +kernel
theorem dX8_readWants_26 : decode cX8_readWants 26 = .ok (.iload_n 1, 1) := by decide +kernel
theorem dX8_readWants_27 : decode cX8_readWants 27 = .ok (.ifCond .le 8, 3) := by decide +kernel
theorem dX8_readWants_30 : decode cX8_readWants 30 = .ok (.aload_n 0, 1) := by decide +kernel
theorem dX8_readWants_31 : decode cX8_readWants 31 = .ok (.invokevirtual 81, 3) := by decide +kernel
theorem dX8_readWants_34 : decode cX8_readWants 34 = .ok (.ireturn, 1) := by decide +kernel
theorem dX8_readWants_35 : decode cX8_readWants 35 = .ok (.aload_n 0, 1) := by decide +kernel
theorem dX8_readWants_36 : decode cX8_readWants 36 = .ok (.invokevirtual 84, 3) := by decide +kernel
theorem dX8_readWants_39 : decode cX8_readWants 39 = .ok (.istore_n 2, 1) := by decide +kernel
theorem dX8_readWants_40 : decode cX8_readWants 40 = .ok (.iload_n 2, 1) := by decide +kernel
theorem dX8_readWants_41 : decode cX8_readWants 41 = .ok (.ifCond .eq 5, 3) := by decide +kernel
theorem dX8_readWants_44 : decode cX8_readWants 44 = .ok (.iload_n 2, 1) := by decide +kernel
theorem dX8_readWants_45 : decode cX8_readWants 45 = .ok (.ireturn, 1) := by decide +kernel
theorem dX8_readWants_46 : decode cX8_readWants 46 = .ok (.iload_n 1, 1) := by decide +kernel
theorem dX8_readWants_47 : decode cX8_readWants 47 = .ok (.iconst 4, 1) := by decide +kernel
theorem dX8_readWants_48 : decode cX8_readWants 48 = .ok (.if_icmp .ne 9, 3) := by decide +kernel
theorem dX8_readWants_51 : decode cX8_readWants 51 = .ok (.aload_n 0, 1) := by decide +kernel
theorem dX8_readWants_52 : decode cX8_readWants 52 = .ok (.iconst 5, 1) := by decide +kernel
theorem dX8_readWants_53 : decode cX8_readWants 53 = .ok (.invokevirtual 54, 3) := by decide +kernel
theorem dX8_readWants_56 : decode cX8_readWants 56 = .ok (.ireturn, 1) := by decide +kernel
theorem dX8_readWants_57 : decode cX8_readWants 57 = .ok (.aload_n 0, 1) := by decide +kernel
theorem dX8_readWants_58 : decode cX8_readWants 58 = .ok (.getfield 29, 3) := by decide +kernel
theorem dX8_readWants_61 : decode cX8_readWants 61 = .ok (.getfield 87, 3) := by decide +kernel
theorem dX8_readWants_64 : decode cX8_readWants 64 = .ok (.iload_n 1, 1) := by decide +kernel
theorem dX8_readWants_65 : decode cX8_readWants 65 = .ok (.aload_n 0, 1) := by decide +kernel
theorem dX8_readWants_66 : decode cX8_readWants 66 = .ok (.aload_n 0, 1) := by decide +kernel
theorem dX8_readWants_67 : decode cX8_readWants 67 = .ok (.getfield 12, 3) := by decide +kernel
theorem dX8_readWants_70 : decode cX8_readWants 70 = .ok (.getfield 72, 3) := by decide +kernel
theorem dX8_readWants_73 : decode cX8_readWants 73 = .ok (.invokevirtual 90, 3) := by decide +kernel
theorem dX8_readWants_76 : decode cX8_readWants 76 = .ok (.iastore, 1) := by decide +kernel
theorem dX8_readWants_77 : decode cX8_readWants 77 = .ok (.aload_n 0, 1) := by decide +kernel
theorem dX8_readWants_78 : decode cX8_readWants 78 = .ok (.getfield 29, 3) := by decide +kernel
theorem dX8_readWants_81 : decode cX8_readWants 81 = .ok (.dup, 1) := by decide +kernel
theorem dX8_readWants_82 : decode cX8_readWants 82 = .ok (.getfield 93, 3) := by decide +kernel
theorem dX8_readWants_85 : decode cX8_readWants 85 = .ok (.iconst 1, 1) := by decide +kernel
theorem dX8_readWants_86 : decode cX8_readWants 86 = .ok (.iadd, 1) := by decide +kernel
theorem dX8_readWants_87 : decode cX8_readWants 87 = .ok (.putfield 93, 3) := by decide +kernel
theorem dX8_readWants_90 : decode cX8_readWants 90 = .ok (.iinc 1 1, 3) := by decide +kernel
theorem dX8_readWants_93 : decode cX8_readWants 93 = .ok (.goto (-91), 3) := by decide +kernel
theorem dX8_readWants_96 : decode cX8_readWants 96 = .ok (.iconst 0, 1) := by decide +kernel
theorem dX8_readWants_97 : decode cX8_readWants 97 = .ok (.ireturn, 1) := by decide +kernel
theorem dX8_readEnd_0 : decode cX8_readEnd 0 = .ok (.aload_n 0, 1) := by decide +kernel
theorem dX8_readEnd_1 : decode cX8_readEnd 1 = .ok (.getfield 12, 3) := by decide +kernel
theorem dX8_readEnd_4 : decode cX8_readEnd 4 = .ok (.invokevirtual 42, 3) := by decide +kernel
theorem dX8_readEnd_7 : decode cX8_readEnd 7 = .ok (.aload_n 0, 1) := by decide +kernel
theorem dX8_readEnd_8 : decode cX8_readEnd 8 = .ok (.getfield 12, 3) := by decide +kernel
theorem dX8_readEnd_11 : decode cX8_readEnd 11 = .ok (.getfield 65, 3) := by decide +kernel
theorem dX8_readEnd_14 : decode cX8_readEnd 14 = .ok (.ifCond .ne 7, 3) := by decide +kernel
theorem dX8_readEnd_17 : decode cX8_readEnd 17 = .ok (.iconst 0, 1) := by decide +kernel
theorem dX8_readEnd_18 : decode cX8_readEnd 18 = .ok (.goto 8, 3) := by decide +kernel
theorem dX8_readEnd_21 : decode cX8_readEnd 21 = .ok (.aload_n 0, 1) := by decide +kernel
theorem dX8_readEnd_22 : decode cX8_readEnd 22 = .ok (.iconst 1, 1) := by decide +kernel
theorem dX8_readEnd_23 : decode cX8_readEnd 23 = .ok (.invokevirtual 54, 3) := by decide +kernel
theorem dX8_readEnd_26 : decode cX8_readEnd 26 = .ok (.ireturn, 1) := by decide +kernel
theorem dX8_readStatement_0 : decode cX8_readStatement 0 = .ok (.aload_n 0, 1) := by decide +kernel
theorem dX8_readStatement_1 : decode cX8_readStatement 1 = .ok (.invokevirtual 69, 3) := by decide +kernel
theorem dX8_readStatement_4 : decode cX8_readStatement 4 = .ok (.istore_n 1, 1) := by decide +kernel
theorem dX8_readStatement_5 : decode cX8_readStatement 5 = .ok (.iload_n 1, 1) := by decide +kernel
theorem dX8_readStatement_6 : decode cX8_readStatement 6 = .ok (.ifCond .eq 5, 3) := by decide +kernel
theorem dX8_readStatement_9 : decode cX8_readStatement 9 = .ok (.iload_n 1, 1) := by decide +kernel
theorem dX8_readStatement_10 : decode cX8_readStatement 10 = .ok (.ireturn, 1) := by decide +kernel
theorem dX8_readStatement_11 : decode cX8_readStatement 11 = .ok (.aload_n 0, 1) := by decide +kernel
theorem dX8_readStatement_12 : decode cX8_readStatement 12 = .ok (.getfield 12, 3) := by decide +kernel
theorem dX8_readStatement_15 : decode cX8_readStatement 15 = .ok (.getfield 72, 3) := by decide +kernel
theorem dX8_readStatement_18 : decode cX8_readStatement 18 = .ok (.istore_n 2, 1) := by decide +kernel
theorem dX8_readStatement_19 : decode cX8_readStatement 19 = .ok (.aload_n 0, 1) := by decide +kernel
theorem dX8_readStatement_20 : decode cX8_readStatement 20 = .ok (.getfield 12, 3) := by decide +kernel
theorem dX8_readStatement_23 : decode cX8_readStatement 23 = .ok (.invokevirtual 42, 3) := by decide +kernel
theorem dX8_readStatement_26 : decode cX8_readStatement 26 = .ok (.aload_n 0, 1) := by decide +kernel
theorem dX8_readStatement_27 : decode cX8_readStatement 27 = .ok (.getfield 12, 3) := by decide +kernel
theorem dX8_readStatement_30 : decode cX8_readStatement 30 = .ok (.getfield 65, 3) := by decide +kernel
theorem dX8_readStatement_33 : decode cX8_readStatement 33 = .ok (.bipush 61, 2) := by decide +kernel
theorem dX8_readStatement_35 : decode cX8_readStatement 35 = .ok (.if_icmp .eq 9, 3) := by decide +kernel
theorem dX8_readStatement_38 : decode cX8_readStatement 38 = .ok (.aload_n 0, 1) := by decide +kernel
theorem dX8_readStatement_39 : decode cX8_readStatement 39 = .ok (.iconst 1, 1) := by decide +kernel
theorem dX8_readStatement_40 : decode cX8_readStatement 40 = .ok (.invokevirtual 54, 3) := by decide +kernel
theorem dX8_readStatement_43 : decode cX8_readStatement 43 = .ok (.ireturn, 1) := by decide +kernel
theorem dX8_readStatement_44 : decode cX8_readStatement 44 = .ok (.aload_n 0, 1) := by decide +kernel
theorem dX8_readStatement_45 : decode cX8_readStatement 45 = .ok (.getfield 12, 3) := by decide +kernel
theorem dX8_readStatement_48 : decode cX8_readStatement 48 = .ok (.invokevirtual 42, 3) := by decide +kernel
theorem dX8_readStatement_51 : decode cX8_readStatement 51 = .ok (.aload_n 0, 1) := by decide +kernel
theorem dX8_readStatement_52 : decode cX8_readStatement 52 = .ok (.invokevirtual 84, 3) := by decide +kernel
theorem dX8_readStatement_55 : decode cX8_readStatement 55 = .ok (.istore_n 1, 1) := by decide +kernel
theorem dX8_readStatement_56 : decode cX8_readStatement 56 = .ok (.iload_n 1, 1) := by decide +kernel
theorem dX8_readStatement_57 : decode cX8_readStatement 57 = .ok (.ifCond .eq 5, 3) := by decide +kernel
theorem dX8_readStatement_60 : decode cX8_readStatement 60 = .ok (.iload_n 1, 1) := by decide +kernel
theorem dX8_readStatement_61 : decode cX8_readStatement 61 = .ok (.ireturn, 1) := by decide +kernel
theorem dX8_readStatement_62 : decode cX8_readStatement 62 = .ok (.aload_n 0, 1) := by decide +kernel
theorem dX8_readStatement_63 : decode cX8_readStatement 63 = .ok (.aload_n 0, 1) := by decide +kernel
theorem dX8_readStatement_64 : decode cX8_readStatement 64 = .ok (.getfield 12, 3) := by decide +kernel
theorem dX8_readStatement_67 : decode cX8_readStatement 67 = .ok (.getfield 72, 3) := by decide +kernel
theorem dX8_readStatement_70 : decode cX8_readStatement 70 = .ok (.invokevirtual 90, 3) := by decide +kernel
theorem dX8_readStatement_73 : decode cX8_readStatement 73 = .ok (.istore_n 3, 1) := by decide +kernel
theorem dX8_readStatement_74 : decode cX8_readStatement 74 = .ok (.aload_n 0, 1) := by decide +kernel
theorem dX8_readStatement_75 : decode cX8_readStatement 75 = .ok (.getfield 12, 3) := by decide +kernel
theorem dX8_readStatement_78 : decode cX8_readStatement 78 = .ok (.invokevirtual 42, 3) := by decide +kernel
theorem dX8_readStatement_81 : decode cX8_readStatement 81 = .ok (.aload_n 0, 1) := by decide +kernel
theorem dX8_readStatement_82 : decode cX8_readStatement 82 = .ok (.getfield 12, 3) := by decide +kernel
theorem dX8_readStatement_85 : decode cX8_readStatement 85 = .ok (.getfield 65, 3) := by decide +kernel
theorem dX8_readStatement_88 : decode cX8_readStatement 88 = .ok (.bipush 42, 2) := by decide +kernel
theorem dX8_readStatement_90 : decode cX8_readStatement 90 = .ok (.if_icmp .ne 10, 3) := by decide +kernel
theorem dX8_readStatement_93 : decode cX8_readStatement 93 = .ok (.aload_n 0, 1) := by decide +kernel
theorem dX8_readStatement_94 : decode cX8_readStatement 94 = .ok (.iload_n 2, 1) := by decide +kernel
theorem dX8_readStatement_95 : decode cX8_readStatement 95 = .ok (.iload_n 3, 1) := by decide +kernel
theorem dX8_readStatement_96 : decode cX8_readStatement 96 = .ok (.invokevirtual 96, 3) := by decide +kernel
theorem dX8_readStatement_99 : decode cX8_readStatement 99 = .ok (.ireturn, 1) := by decide +kernel
theorem dX8_readStatement_100 : decode cX8_readStatement 100 = .ok (.aload_n 0, 1) := by decide +kernel
theorem dX8_readStatement_101 : decode cX8_readStatement 101 = .ok (.getfield 12, 3) := by decide +kernel
theorem dX8_readStatement_104 : decode cX8_readStatement 104 = .ok (.getfield 65, 3) := by decide +kernel
theorem dX8_readStatement_107 : decode cX8_readStatement 107 = .ok (.bipush 94, 2) := by decide +kernel
theorem dX8_readStatement_109 : decode cX8_readStatement 109 = .ok (.if_icmp .ne 12, 3) := by decide +kernel
theorem dX8_readStatement_112 : decode cX8_readStatement 112 = .ok (.aload_n 0, 1) := by decide +kernel
theorem dX8_readStatement_113 : decode cX8_readStatement 113 = .ok (.iload_n 2, 1) := by decide +kernel
theorem dX8_readStatement_114 : decode cX8_readStatement 114 = .ok (.iload_n 3, 1) := by decide +kernel
theorem dX8_readStatement_115 : decode cX8_readStatement 115 = .ok (.invokevirtual 100, 3) := by decide +kernel
theorem dX8_readStatement_118 : decode cX8_readStatement 118 = .ok (.goto 8, 3) := by decide +kernel
theorem dX8_readStatement_121 : decode cX8_readStatement 121 = .ok (.aload_n 0, 1) := by decide +kernel
theorem dX8_readStatement_122 : decode cX8_readStatement 122 = .ok (.iconst 1, 1) := by decide +kernel
theorem dX8_readStatement_123 : decode cX8_readStatement 123 = .ok (.invokevirtual 54, 3) := by decide +kernel
theorem dX8_readStatement_126 : decode cX8_readStatement 126 = .ok (.ireturn, 1) := by decide +kernel
theorem dX8_readProduct_0 : decode cX8_readProduct 0 = .ok (.aload_n 0, 1) := by decide +kernel
theorem dX8_readProduct_1 : decode cX8_readProduct 1 = .ok (.getfield 12, 3) := by decide +kernel
theorem dX8_readProduct_4 : decode cX8_readProduct 4 = .ok (.invokevirtual 42, 3) := by decide +kernel
theorem dX8_readProduct_7 : decode cX8_readProduct 7 = .ok (.aload_n 0, 1) := by decide +kernel
theorem dX8_readProduct_8 : decode cX8_readProduct 8 = .ok (.invokevirtual 84, 3) := by decide +kernel
theorem dX8_readProduct_11 : decode cX8_readProduct 11 = .ok (.istore_n 3, 1) := by decide +kernel
theorem dX8_readProduct_12 : decode cX8_readProduct 12 = .ok (.iload_n 3, 1) := by decide +kernel
theorem dX8_readProduct_13 : decode cX8_readProduct 13 = .ok (.ifCond .eq 5, 3) := by decide +kernel
theorem dX8_readProduct_16 : decode cX8_readProduct 16 = .ok (.iload_n 3, 1) := by decide +kernel
theorem dX8_readProduct_17 : decode cX8_readProduct 17 = .ok (.ireturn, 1) := by decide +kernel
theorem dX8_readProduct_18 : decode cX8_readProduct 18 = .ok (.aload_n 0, 1) := by decide +kernel
theorem dX8_readProduct_19 : decode cX8_readProduct 19 = .ok (.aload_n 0, 1) := by decide +kernel
theorem dX8_readProduct_20 : decode cX8_readProduct 20 = .ok (.getfield 12, 3) := by decide +kernel
theorem dX8_readProduct_23 : decode cX8_readProduct 23 = .ok (.getfield 72, 3) := by decide +kernel
theorem dX8_readProduct_26 : decode cX8_readProduct 26 = .ok (.invokevirtual 90, 3) := by decide +kernel
theorem dX8_readProduct_29 : decode cX8_readProduct 29 = .ok (.istore 4, 2) := by decide +kernel
theorem dX8_readProduct_31 : decode cX8_readProduct 31 = .ok (.aload_n 0, 1) := by decide +kernel
theorem dX8_readProduct_32 : decode cX8_readProduct 32 = .ok (.iconst 1, 1) := by decide +kernel
theorem dX8_readProduct_33 : decode cX8_readProduct 33 = .ok (.invokevirtual 103, 3) := by decide +kernel
theorem dX8_readProduct_36 : decode cX8_readProduct 36 = .ok (.istore_n 3, 1) := by decide +kernel
theorem dX8_readProduct_37 : decode cX8_readProduct 37 = .ok (.iload_n 3, 1) := by decide +kernel
theorem dX8_readProduct_38 : decode cX8_readProduct 38 = .ok (.ifCond .eq 5, 3) := by decide +kernel
theorem dX8_readProduct_41 : decode cX8_readProduct 41 = .ok (.iload_n 3, 1) := by decide +kernel
theorem dX8_readProduct_42 : decode cX8_readProduct 42 = .ok (.ireturn, 1) := by decide +kernel
theorem dX8_readProduct_43 : decode cX8_readProduct 43 = .ok (.aload_n 0, 1) := by decide +kernel
theorem dX8_readProduct_44 : decode cX8_readProduct 44 = .ok (.iload_n 2, 1) := by decide +kernel
theorem dX8_readProduct_45 : decode cX8_readProduct 45 = .ok (.iload 4, 2) := by decide +kernel
theorem dX8_readProduct_47 : decode cX8_readProduct 47 = .ok (.invokevirtual 106, 3) := by decide +kernel
theorem dX8_readProduct_50 : decode cX8_readProduct 50 = .ok (.ifCond .eq 11, 3) := by decide +kernel
theorem dX8_readProduct_53 : decode cX8_readProduct 53 = .ok (.aload_n 0, 1) := by decide +kernel
theorem dX8_readProduct_54 : decode cX8_readProduct 54 = .ok (.iload_n 1, 1) := by decide +kernel
theorem dX8_readProduct_55 : decode cX8_readProduct 55 = .ok (.invokevirtual 110, 3) := by decide +kernel
theorem dX8_readProduct_58 : decode cX8_readProduct 58 = .ok (.goto 9, 3) := by decide +kernel
theorem dX8_readProduct_61 : decode cX8_readProduct 61 = .ok (.aload_n 0, 1) := by decide +kernel
theorem dX8_readProduct_62 : decode cX8_readProduct 62 = .ok (.bipush 6, 2) := by decide +kernel
theorem dX8_readProduct_64 : decode cX8_readProduct 64 = .ok (.invokevirtual 54, 3) := by decide +kernel
theorem dX8_readProduct_67 : decode cX8_readProduct 67 = .ok (.ireturn, 1) := by decide +kernel
theorem dX8_readPower_0 : decode cX8_readPower 0 = .ok (.aload_n 0, 1) := by decide +kernel
theorem dX8_readPower_1 : decode cX8_readPower 1 = .ok (.getfield 12, 3) := by decide +kernel
theorem dX8_readPower_4 : decode cX8_readPower 4 = .ok (.invokevirtual 42, 3) := by decide +kernel
theorem dX8_readPower_7 : decode cX8_readPower 7 = .ok (.aload_n 0, 1) := by decide +kernel
theorem dX8_readPower_8 : decode cX8_readPower 8 = .ok (.getfield 12, 3) := by decide +kernel
theorem dX8_readPower_11 : decode cX8_readPower 11 = .ok (.getfield 65, 3) := by decide +kernel
theorem dX8_readPower_14 : decode cX8_readPower 14 = .ok (.iconst 2, 1) := by decide +kernel
theorem dX8_readPower_15 : decode cX8_readPower 15 = .ok (.if_icmp .eq 9, 3) := by decide +kernel
theorem dX8_readPower_18 : decode cX8_readPower 18 = .ok (.aload_n 0, 1) := by decide +kernel
theorem dX8_readPower_19 : decode cX8_readPower 19 = .ok (.iconst 1, 1) := by decide +kernel
theorem dX8_readPower_20 : decode cX8_readPower 20 = .ok (.invokevirtual 54, 3) := by decide +kernel
theorem dX8_readPower_23 : decode cX8_readPower 23 = .ok (.ireturn, 1) := by decide +kernel
theorem dX8_readPower_24 : decode cX8_readPower 24 = .ok (.aload_n 0, 1) := by decide +kernel
theorem dX8_readPower_25 : decode cX8_readPower 25 = .ok (.getfield 12, 3) := by decide +kernel
theorem dX8_readPower_28 : decode cX8_readPower 28 = .ok (.getfield 72, 3) := by decide +kernel
theorem dX8_readPower_31 : decode cX8_readPower 31 = .ok (.istore_n 3, 1) := by decide +kernel
theorem dX8_readPower_32 : decode cX8_readPower 32 = .ok (.iload_n 3, 1) := by decide +kernel
theorem dX8_readPower_33 : decode cX8_readPower 33 = .ok (.iconst 2, 1) := by decide +kernel
theorem dX8_readPower_34 : decode cX8_readPower 34 = .ok (.if_icmp .ge 9, 3) := by decide +kernel
theorem dX8_readPower_37 : decode cX8_readPower 37 = .ok (.aload_n 0, 1) := by decide +kernel
theorem dX8_readPower_38 : decode cX8_readPower 38 = .ok (.iconst 4, 1) := by decide +kernel
theorem dX8_readPower_39 : decode cX8_readPower 39 = .ok (.invokevirtual 54, 3) := by decide +kernel
theorem dX8_readPower_42 : decode cX8_readPower 42 = .ok (.ireturn, 1) := by decide +kernel
theorem dX8_readPower_43 : decode cX8_readPower 43 = .ok (.iload_n 3, 1) := by decide +kernel
theorem dX8_readPower_44 : decode cX8_readPower 44 = .ok (.invokestatic 113, 3) := by decide +kernel
theorem dX8_readPower_47 : decode cX8_readPower 47 = .ok (.istore 4, 2) := by decide +kernel
theorem dX8_readPower_49 : decode cX8_readPower 49 = .ok (.aload_n 0, 1) := by decide +kernel
theorem dX8_readPower_50 : decode cX8_readPower 50 = .ok (.iload 4, 2) := by decide +kernel
theorem dX8_readPower_52 : decode cX8_readPower 52 = .ok (.iload_n 3, 1) := by decide +kernel
theorem dX8_readPower_53 : decode cX8_readPower 53 = .ok (.invokestatic 116, 3) := by decide +kernel
theorem dX8_readPower_56 : decode cX8_readPower 56 = .ok (.iadd, 1) := by decide +kernel
theorem dX8_readPower_57 : decode cX8_readPower 57 = .ok (.iconst 1, 1) := by decide +kernel
theorem dX8_readPower_58 : decode cX8_readPower 58 = .ok (.isub, 1) := by decide +kernel
theorem dX8_readPower_59 : decode cX8_readPower 59 = .ok (.invokevirtual 103, 3) := by decide +kernel
theorem dX8_readPower_62 : decode cX8_readPower 62 = .ok (.istore 5, 2) := by decide +kernel
theorem dX8_readPower_64 : decode cX8_readPower 64 = .ok (.iload 5, 2) := by decide +kernel
theorem dX8_readPower_66 : decode cX8_readPower 66 = .ok (.ifCond .eq 6, 3) := by decide +kernel
theorem dX8_readPower_69 : decode cX8_readPower 69 = .ok (.iload 5, 2) := by decide +kernel
theorem dX8_readPower_71 : decode cX8_readPower 71 = .ok (.ireturn, 1) := by decide +kernel
theorem dX8_readPower_72 : decode cX8_readPower 72 = .ok (.iload_n 2, 1) := by decide +kernel
theorem dX8_readPower_73 : decode cX8_readPower 73 = .ok (.istore 6, 2) := by decide +kernel
theorem dX8_readPower_75 : decode cX8_readPower 75 = .ok (.iload 4, 2) := by decide +kernel
theorem dX8_readPower_77 : decode cX8_readPower 77 = .ok (.iconst 1, 1) := by decide +kernel
theorem dX8_readPower_78 : decode cX8_readPower 78 = .ok (.isub, 1) := by decide +kernel
theorem dX8_readPower_79 : decode cX8_readPower 79 = .ok (.istore 7, 2) := by decide +kernel
theorem dX8_readPower_81 : decode cX8_readPower 81 = .ok (.iload 7, 2) := by decide +kernel
theorem dX8_readPower_83 : decode cX8_readPower 83 = .ok (.ifCond .lt 76, 3) := by decide +kernel
theorem dX8_readPower_86 : decode cX8_readPower 86 = .ok (.aload_n 0, 1) := by decide +kernel
theorem dX8_readPower_87 : decode cX8_readPower 87 = .ok (.iload 6, 2) := by decide +kernel
theorem dX8_readPower_89 : decode cX8_readPower 89 = .ok (.iload 6, 2) := by decide +kernel
theorem dX8_readPower_91 : decode cX8_readPower 91 = .ok (.invokevirtual 106, 3) := by decide +kernel
theorem dX8_readPower_94 : decode cX8_readPower 94 = .ok (.ifCond .ne 10, 3) := by decide +kernel
theorem dX8_readPower_97 : decode cX8_readPower 97 = .ok (.aload_n 0, 1) := by decide +kernel
theorem dX8_readPower_98 : decode cX8_readPower 98 = .ok (.bipush 6, 2) := by decide +kernel
theorem dX8_readPower_100 : decode cX8_readPower 100 = .ok (.invokevirtual 54, 3) := by decide +kernel
theorem dX8_readPower_103 : decode cX8_readPower 103 = .ok (.ireturn, 1) := by decide +kernel
theorem dX8_readPower_104 : decode cX8_readPower 104 = .ok (.aload_n 0, 1) := by decide +kernel
theorem dX8_readPower_105 : decode cX8_readPower 105 = .ok (.getfield 29, 3) := by decide +kernel
theorem dX8_readPower_108 : decode cX8_readPower 108 = .ok (.invokevirtual 121, 3) := by decide +kernel
theorem dX8_readPower_111 : decode cX8_readPower 111 = .ok (.iconst 1, 1) := by decide +kernel
theorem dX8_readPower_112 : decode cX8_readPower 112 = .ok (.isub, 1) := by decide +kernel
theorem dX8_readPower_113 : decode cX8_readPower 113 = .ok (.istore 6, 2) := by decide +kernel
theorem dX8_readPower_115 : decode cX8_readPower 115 = .ok (.iload_n 3, 1) := by decide +kernel
theorem dX8_readPower_116 : decode cX8_readPower 116 = .ok (.iload 7, 2) := by decide +kernel
theorem dX8_readPower_118 : decode cX8_readPower 118 = .ok (.ishr, 1) := by decide +kernel
theorem dX8_readPower_119 : decode cX8_readPower 119 = .ok (.iconst 1, 1) := by decide +kernel
theorem dX8_readPower_120 : decode cX8_readPower 120 = .ok (.iand, 1) := by decide +kernel
theorem dX8_readPower_121 : decode cX8_readPower 121 = .ok (.iconst 1, 1) := by decide +kernel
theorem dX8_readPower_122 : decode cX8_readPower 122 = .ok (.if_icmp .ne 31, 3) := by decide +kernel
theorem dX8_readPower_125 : decode cX8_readPower 125 = .ok (.aload_n 0, 1) := by decide +kernel
theorem dX8_readPower_126 : decode cX8_readPower 126 = .ok (.iload 6, 2) := by decide +kernel
theorem dX8_readPower_128 : decode cX8_readPower 128 = .ok (.iload_n 2, 1) := by decide +kernel
theorem dX8_readPower_129 : decode cX8_readPower 129 = .ok (.invokevirtual 106, 3) := by decide +kernel
theorem dX8_readPower_132 : decode cX8_readPower 132 = .ok (.ifCond .ne 10, 3) := by decide +kernel
theorem dX8_readPower_135 : decode cX8_readPower 135 = .ok (.aload_n 0, 1) := by decide +kernel
theorem dX8_readPower_136 : decode cX8_readPower 136 = .ok (.bipush 6, 2) := by decide +kernel
theorem dX8_readPower_138 : decode cX8_readPower 138 = .ok (.invokevirtual 54, 3) := by decide +kernel
theorem dX8_readPower_141 : decode cX8_readPower 141 = .ok (.ireturn, 1) := by decide +kernel
theorem dX8_readPower_142 : decode cX8_readPower 142 = .ok (.aload_n 0, 1) := by decide +kernel
theorem dX8_readPower_143 : decode cX8_readPower 143 = .ok (.getfield 29, 3) := by decide +kernel
theorem dX8_readPower_146 : decode cX8_readPower 146 = .ok (.invokevirtual 121, 3) := by decide +kernel
theorem dX8_readPower_149 : decode cX8_readPower 149 = .ok (.iconst 1, 1) := by decide +kernel
theorem dX8_readPower_150 : decode cX8_readPower 150 = .ok (.isub, 1) := by decide +kernel
theorem dX8_readPower_151 : decode cX8_readPower 151 = .ok (.istore 6, 2) := by decide +kernel
theorem dX8_readPower_153 : decode cX8_readPower 153 = .ok (.iinc 7 (-1), 3) := by decide +kernel
theorem dX8_readPower_156 : decode cX8_readPower 156 = .ok (.goto (-75), 3) := by decide +kernel
theorem dX8_readPower_159 : decode cX8_readPower 159 = .ok (.aload_n 0, 1) := by decide +kernel
theorem dX8_readPower_160 : decode cX8_readPower 160 = .ok (.iload_n 1, 1) := by decide +kernel
theorem dX8_readPower_161 : decode cX8_readPower 161 = .ok (.invokevirtual 110, 3) := by decide +kernel
theorem dX8_readPower_164 : decode cX8_readPower 164 = .ok (.ireturn, 1) := by decide +kernel
theorem dX8_statementEndFault_0 : decode cX8_statementEndFault 0 = .ok (.aload_n 0, 1) := by decide +kernel
theorem dX8_statementEndFault_1 : decode cX8_statementEndFault 1 = .ok (.getfield 12, 3) := by decide +kernel
theorem dX8_statementEndFault_4 : decode cX8_statementEndFault 4 = .ok (.invokevirtual 42, 3) := by decide +kernel
theorem dX8_statementEndFault_7 : decode cX8_statementEndFault 7 = .ok (.aload_n 0, 1) := by decide +kernel
theorem dX8_statementEndFault_8 : decode cX8_statementEndFault 8 = .ok (.getfield 12, 3) := by decide +kernel
theorem dX8_statementEndFault_11 : decode cX8_statementEndFault 11 = .ok (.getfield 65, 3) := by decide +kernel
theorem dX8_statementEndFault_14 : decode cX8_statementEndFault 14 = .ok (.bipush 59, 2) := by decide +kernel
theorem dX8_statementEndFault_16 : decode cX8_statementEndFault 16 = .ok (.if_icmp .eq 9, 3) := by decide +kernel
theorem dX8_statementEndFault_19 : decode cX8_statementEndFault 19 = .ok (.aload_n 0, 1) := by decide +kernel
theorem dX8_statementEndFault_20 : decode cX8_statementEndFault 20 = .ok (.iconst 1, 1) := by decide +kernel
theorem dX8_statementEndFault_21 : decode cX8_statementEndFault 21 = .ok (.invokevirtual 54, 3) := by decide +kernel
theorem dX8_statementEndFault_24 : decode cX8_statementEndFault 24 = .ok (.ireturn, 1) := by decide +kernel
theorem dX8_statementEndFault_25 : decode cX8_statementEndFault 25 = .ok (.aload_n 0, 1) := by decide +kernel
theorem dX8_statementEndFault_26 : decode cX8_statementEndFault 26 = .ok (.getfield 29, 3) := by decide +kernel
theorem dX8_statementEndFault_29 : decode cX8_statementEndFault 29 = .ok (.getfield 124, 3) := by decide +kernel
theorem dX8_statementEndFault_32 : decode cX8_statementEndFault 32 = .ok (.iload_n 1, 1) := by decide +kernel
theorem dX8_statementEndFault_33 : decode cX8_statementEndFault 33 = .ok (.iadd, 1) := by decide +kernel
theorem dX8_statementEndFault_34 : decode cX8_statementEndFault 34 = .ok (.bipush 60, 2) := by decide +kernel
theorem dX8_statementEndFault_36 : decode cX8_statementEndFault 36 = .ok (.if_icmp .le 11, 3) := by decide +kernel
theorem dX8_statementEndFault_39 : decode cX8_statementEndFault 39 = .ok (.aload_n 0, 1) := by decide +kernel
theorem dX8_statementEndFault_40 : decode cX8_statementEndFault 40 = .ok (.iconst 5, 1) := by decide +kernel
theorem dX8_statementEndFault_41 : decode cX8_statementEndFault 41 = .ok (.invokevirtual 54, 3) := by decide +kernel
theorem dX8_statementEndFault_44 : decode cX8_statementEndFault 44 = .ok (.goto 4, 3) := by decide +kernel
theorem dX8_statementEndFault_47 : decode cX8_statementEndFault 47 = .ok (.iconst 0, 1) := by decide +kernel
theorem dX8_statementEndFault_48 : decode cX8_statementEndFault 48 = .ok (.ireturn, 1) := by decide +kernel
theorem dX8_addStep_0 : decode cX8_addStep 0 = .ok (.aload_n 0, 1) := by decide +kernel
theorem dX8_addStep_1 : decode cX8_addStep 1 = .ok (.getfield 21, 3) := by decide +kernel
theorem dX8_addStep_4 : decode cX8_addStep 4 = .ok (.iload_n 1, 1) := by decide +kernel
theorem dX8_addStep_5 : decode cX8_addStep 5 = .ok (.iload_n 2, 1) := by decide +kernel
theorem dX8_addStep_6 : decode cX8_addStep 6 = .ok (.invokevirtual 127, 3) := by decide +kernel
theorem dX8_addStep_9 : decode cX8_addStep 9 = .ok (.ifCond .ne 5, 3) := by decide +kernel
theorem dX8_addStep_12 : decode cX8_addStep 12 = .ok (.iconst 0, 1) := by decide +kernel
theorem dX8_addStep_13 : decode cX8_addStep 13 = .ok (.ireturn, 1) := by decide +kernel
theorem dX8_addStep_14 : decode cX8_addStep 14 = .ok (.aload_n 0, 1) := by decide +kernel
theorem dX8_addStep_15 : decode cX8_addStep 15 = .ok (.getfield 29, 3) := by decide +kernel
theorem dX8_addStep_18 : decode cX8_addStep 18 = .ok (.iload_n 1, 1) := by decide +kernel
theorem dX8_addStep_19 : decode cX8_addStep 19 = .ok (.iload_n 2, 1) := by decide +kernel
theorem dX8_addStep_20 : decode cX8_addStep 20 = .ok (.invokevirtual 130, 3) := by decide +kernel
theorem dX8_addStep_23 : decode cX8_addStep 23 = .ok (.istore_n 3, 1) := by decide +kernel
theorem dX8_addStep_24 : decode cX8_addStep 24 = .ok (.iload_n 3, 1) := by decide +kernel
theorem dX8_addStep_25 : decode cX8_addStep 25 = .ok (.iconst (-1), 1) := by decide +kernel
theorem dX8_addStep_26 : decode cX8_addStep 26 = .ok (.if_icmp .ne 5, 3) := by decide +kernel
theorem dX8_addStep_29 : decode cX8_addStep 29 = .ok (.iconst 0, 1) := by decide +kernel
theorem dX8_addStep_30 : decode cX8_addStep 30 = .ok (.ireturn, 1) := by decide +kernel
theorem dX8_addStep_31 : decode cX8_addStep 31 = .ok (.aload_n 0, 1) := by decide +kernel
theorem dX8_addStep_32 : decode cX8_addStep 32 = .ok (.getfield 21, 3) := by decide +kernel
theorem dX8_addStep_35 : decode cX8_addStep 35 = .ok (.iload_n 3, 1) := by decide +kernel
theorem dX8_addStep_36 : decode cX8_addStep 36 = .ok (.iload_n 1, 1) := by decide +kernel
theorem dX8_addStep_37 : decode cX8_addStep 37 = .ok (.iload_n 2, 1) := by decide +kernel
theorem dX8_addStep_38 : decode cX8_addStep 38 = .ok (.invokevirtual 133, 3) := by decide +kernel
theorem dX8_addStep_41 : decode cX8_addStep 41 = .ok (.aload_n 0, 1) := by decide +kernel
theorem dX8_addStep_42 : decode cX8_addStep 42 = .ok (.getfield 25, 3) := by decide +kernel
theorem dX8_addStep_45 : decode cX8_addStep 45 = .ok (.iload_n 3, 1) := by decide +kernel
theorem dX8_addStep_46 : decode cX8_addStep 46 = .ok (.iconst 0, 1) := by decide +kernel
theorem dX8_addStep_47 : decode cX8_addStep 47 = .ok (.iastore, 1) := by decide +kernel
theorem dX8_addStep_48 : decode cX8_addStep 48 = .ok (.iconst 1, 1) := by decide +kernel
theorem dX8_addStep_49 : decode cX8_addStep 49 = .ok (.ireturn, 1) := by decide +kernel
theorem dX8_giveName_0 : decode cX8_giveName 0 = .ok (.aload_n 0, 1) := by decide +kernel
theorem dX8_giveName_1 : decode cX8_giveName 1 = .ok (.getfield 25, 3) := by decide +kernel
theorem dX8_giveName_4 : decode cX8_giveName 4 = .ok (.aload_n 0, 1) := by decide +kernel
theorem dX8_giveName_5 : decode cX8_giveName 5 = .ok (.getfield 29, 3) := by decide +kernel
theorem dX8_giveName_8 : decode cX8_giveName 8 = .ok (.invokevirtual 121, 3) := by decide +kernel
theorem dX8_giveName_11 : decode cX8_giveName 11 = .ok (.iconst 1, 1) := by decide +kernel
theorem dX8_giveName_12 : decode cX8_giveName 12 = .ok (.isub, 1) := by decide +kernel
theorem dX8_giveName_13 : decode cX8_giveName 13 = .ok (.iload_n 1, 1) := by decide +kernel
theorem dX8_giveName_14 : decode cX8_giveName 14 = .ok (.iastore, 1) := by decide +kernel
theorem dX8_giveName_15 : decode cX8_giveName 15 = .ok (.iconst 0, 1) := by decide +kernel
theorem dX8_giveName_16 : decode cX8_giveName 16 = .ok (.ireturn, 1) := by decide +kernel
theorem dX8_newNameFault_0 : decode cX8_newNameFault 0 = .ok (.aload_n 0, 1) := by decide +kernel
theorem dX8_newNameFault_1 : decode cX8_newNameFault 1 = .ok (.invokevirtual 137, 3) := by decide +kernel
theorem dX8_newNameFault_4 : decode cX8_newNameFault 4 = .ok (.ifCond .ne 9, 3) := by decide +kernel
theorem dX8_newNameFault_7 : decode cX8_newNameFault 7 = .ok (.aload_n 0, 1) := by decide +kernel
theorem dX8_newNameFault_8 : decode cX8_newNameFault 8 = .ok (.iconst 1, 1) := by decide +kernel
theorem dX8_newNameFault_9 : decode cX8_newNameFault 9 = .ok (.invokevirtual 54, 3) := by decide +kernel
theorem dX8_newNameFault_12 : decode cX8_newNameFault 12 = .ok (.ireturn, 1) := by decide +kernel
theorem dX8_newNameFault_13 : decode cX8_newNameFault 13 = .ok (.aload_n 0, 1) := by decide +kernel
theorem dX8_newNameFault_14 : decode cX8_newNameFault 14 = .ok (.aload_n 0, 1) := by decide +kernel
theorem dX8_newNameFault_15 : decode cX8_newNameFault 15 = .ok (.getfield 12, 3) := by decide +kernel
theorem dX8_newNameFault_18 : decode cX8_newNameFault 18 = .ok (.getfield 72, 3) := by decide +kernel
theorem dX8_newNameFault_21 : decode cX8_newNameFault 21 = .ok (.invokevirtual 90, 3) := by decide +kernel
theorem dX8_newNameFault_24 : decode cX8_newNameFault 24 = .ok (.iconst (-1), 1) := by decide +kernel
theorem dX8_newNameFault_25 : decode cX8_newNameFault 25 = .ok (.if_icmp .ne 7, 3) := by decide +kernel
theorem dX8_newNameFault_28 : decode cX8_newNameFault 28 = .ok (.iconst 0, 1) := by decide +kernel
theorem dX8_newNameFault_29 : decode cX8_newNameFault 29 = .ok (.goto 8, 3) := by decide +kernel
theorem dX8_newNameFault_32 : decode cX8_newNameFault 32 = .ok (.aload_n 0, 1) := by decide +kernel
theorem dX8_newNameFault_33 : decode cX8_newNameFault 33 = .ok (.iconst 2, 1) := by decide +kernel
theorem dX8_newNameFault_34 : decode cX8_newNameFault 34 = .ok (.invokevirtual 54, 3) := by decide +kernel
theorem dX8_newNameFault_37 : decode cX8_newNameFault 37 = .ok (.ireturn, 1) := by decide +kernel
theorem dX8_knownNameFault_0 : decode cX8_knownNameFault 0 = .ok (.aload_n 0, 1) := by decide +kernel
theorem dX8_knownNameFault_1 : decode cX8_knownNameFault 1 = .ok (.invokevirtual 137, 3) := by decide +kernel
theorem dX8_knownNameFault_4 : decode cX8_knownNameFault 4 = .ok (.ifCond .ne 9, 3) := by decide +kernel
theorem dX8_knownNameFault_7 : decode cX8_knownNameFault 7 = .ok (.aload_n 0, 1) := by decide +kernel
theorem dX8_knownNameFault_8 : decode cX8_knownNameFault 8 = .ok (.iconst 1, 1) := by decide +kernel
theorem dX8_knownNameFault_9 : decode cX8_knownNameFault 9 = .ok (.invokevirtual 54, 3) := by decide +kernel
theorem dX8_knownNameFault_12 : decode cX8_knownNameFault 12 = .ok (.ireturn, 1) := by decide +kernel
theorem dX8_knownNameFault_13 : decode cX8_knownNameFault 13 = .ok (.aload_n 0, 1) := by decide +kernel
theorem dX8_knownNameFault_14 : decode cX8_knownNameFault 14 = .ok (.aload_n 0, 1) := by decide +kernel
theorem dX8_knownNameFault_15 : decode cX8_knownNameFault 15 = .ok (.getfield 12, 3) := by decide +kernel
theorem dX8_knownNameFault_18 : decode cX8_knownNameFault 18 = .ok (.getfield 72, 3) := by decide +kernel
theorem dX8_knownNameFault_21 : decode cX8_knownNameFault 21 = .ok (.invokevirtual 90, 3) := by decide +kernel
theorem dX8_knownNameFault_24 : decode cX8_knownNameFault 24 = .ok (.iconst (-1), 1) := by decide +kernel
theorem dX8_knownNameFault_25 : decode cX8_knownNameFault 25 = .ok (.if_icmp .ne 11, 3) := by decide +kernel
theorem dX8_knownNameFault_28 : decode cX8_knownNameFault 28 = .ok (.aload_n 0, 1) := by decide +kernel
theorem dX8_knownNameFault_29 : decode cX8_knownNameFault 29 = .ok (.iconst 3, 1) := by decide +kernel
theorem dX8_knownNameFault_30 : decode cX8_knownNameFault 30 = .ok (.invokevirtual 54, 3) := by decide +kernel
theorem dX8_knownNameFault_33 : decode cX8_knownNameFault 33 = .ok (.goto 4, 3) := by decide +kernel
theorem dX8_knownNameFault_36 : decode cX8_knownNameFault 36 = .ok (.iconst 0, 1) := by decide +kernel
theorem dX8_knownNameFault_37 : decode cX8_knownNameFault 37 = .ok (.ireturn, 1) := by decide +kernel
theorem dX8_nodeNamed_0 : decode cX8_nodeNamed 0 = .ok (.iconst 0, 1) := by decide +kernel
theorem dX8_nodeNamed_1 : decode cX8_nodeNamed 1 = .ok (.istore_n 2, 1) := by decide +kernel
theorem dX8_nodeNamed_2 : decode cX8_nodeNamed 2 = .ok (.iload_n 2, 1) := by decide +kernel
theorem dX8_nodeNamed_3 : decode cX8_nodeNamed 3 = .ok (.aload_n 0, 1) := by decide +kernel
theorem dX8_nodeNamed_4 : decode cX8_nodeNamed 4 = .ok (.getfield 29, 3) := by decide +kernel
theorem dX8_nodeNamed_7 : decode cX8_nodeNamed 7 = .ok (.invokevirtual 121, 3) := by decide +kernel
theorem dX8_nodeNamed_10 : decode cX8_nodeNamed 10 = .ok (.if_icmp .ge 21, 3) := by decide +kernel
theorem dX8_nodeNamed_13 : decode cX8_nodeNamed 13 = .ok (.aload_n 0, 1) := by decide +kernel
theorem dX8_nodeNamed_14 : decode cX8_nodeNamed 14 = .ok (.getfield 25, 3) := by decide +kernel
theorem dX8_nodeNamed_17 : decode cX8_nodeNamed 17 = .ok (.iload_n 2, 1) := by decide +kernel
theorem dX8_nodeNamed_18 : decode cX8_nodeNamed 18 = .ok (.iaload, 1) := by decide +kernel
theorem dX8_nodeNamed_19 : decode cX8_nodeNamed 19 = .ok (.iload_n 1, 1) := by decide +kernel
theorem dX8_nodeNamed_20 : decode cX8_nodeNamed 20 = .ok (.if_icmp .ne 5, 3) := by decide +kernel
theorem dX8_nodeNamed_23 : decode cX8_nodeNamed 23 = .ok (.iload_n 2, 1) := by decide +kernel
theorem dX8_nodeNamed_24 : decode cX8_nodeNamed 24 = .ok (.ireturn, 1) := by decide +kernel
theorem dX8_nodeNamed_25 : decode cX8_nodeNamed 25 = .ok (.iinc 2 1, 3) := by decide +kernel
theorem dX8_nodeNamed_28 : decode cX8_nodeNamed 28 = .ok (.goto (-26), 3) := by decide +kernel
theorem dX8_nodeNamed_31 : decode cX8_nodeNamed 31 = .ok (.iconst (-1), 1) := by decide +kernel
theorem dX8_nodeNamed_32 : decode cX8_nodeNamed 32 = .ok (.ireturn, 1) := by decide +kernel
theorem dX8_isWord_0 : decode cX8_isWord 0 = .ok (.aload_n 0, 1) := by decide +kernel
theorem dX8_isWord_1 : decode cX8_isWord 1 = .ok (.getfield 12, 3) := by decide +kernel
theorem dX8_isWord_4 : decode cX8_isWord 4 = .ok (.getfield 65, 3) := by decide +kernel
theorem dX8_isWord_7 : decode cX8_isWord 7 = .ok (.iconst 1, 1) := by decide +kernel
theorem dX8_isWord_8 : decode cX8_isWord 8 = .ok (.if_icmp .ne 18, 3) := by decide +kernel
theorem dX8_isWord_11 : decode cX8_isWord 11 = .ok (.aload_n 0, 1) := by decide +kernel
theorem dX8_isWord_12 : decode cX8_isWord 12 = .ok (.getfield 12, 3) := by decide +kernel
theorem dX8_isWord_15 : decode cX8_isWord 15 = .ok (.getfield 72, 3) := by decide +kernel
theorem dX8_isWord_18 : decode cX8_isWord 18 = .ok (.iload_n 1, 1) := by decide +kernel
theorem dX8_isWord_19 : decode cX8_isWord 19 = .ok (.if_icmp .ne 7, 3) := by decide +kernel
theorem dX8_isWord_22 : decode cX8_isWord 22 = .ok (.iconst 1, 1) := by decide +kernel
theorem dX8_isWord_23 : decode cX8_isWord 23 = .ok (.goto 4, 3) := by decide +kernel
theorem dX8_isWord_26 : decode cX8_isWord 26 = .ok (.iconst 0, 1) := by decide +kernel
theorem dX8_isWord_27 : decode cX8_isWord 27 = .ok (.ireturn, 1) := by decide +kernel
theorem dX8_isName_0 : decode cX8_isName 0 = .ok (.aload_n 0, 1) := by decide +kernel
theorem dX8_isName_1 : decode cX8_isName 1 = .ok (.getfield 12, 3) := by decide +kernel
theorem dX8_isName_4 : decode cX8_isName 4 = .ok (.getfield 65, 3) := by decide +kernel
theorem dX8_isName_7 : decode cX8_isName 7 = .ok (.iconst 1, 1) := by decide +kernel
theorem dX8_isName_8 : decode cX8_isName 8 = .ok (.if_icmp .ne 42, 3) := by decide +kernel
theorem dX8_isName_11 : decode cX8_isName 11 = .ok (.aload_n 0, 1) := by decide +kernel
theorem dX8_isName_12 : decode cX8_isName 12 = .ok (.getfield 12, 3) := by decide +kernel
theorem dX8_isName_15 : decode cX8_isName 15 = .ok (.getfield 72, 3) := by decide +kernel
theorem dX8_isName_18 : decode cX8_isName 18 = .ok (.iconst (-1), 1) := by decide +kernel
theorem dX8_isName_19 : decode cX8_isName 19 = .ok (.if_icmp .eq 31, 3) := by decide +kernel
theorem dX8_isName_22 : decode cX8_isName 22 = .ok (.aload_n 0, 1) := by decide +kernel
theorem dX8_isName_23 : decode cX8_isName 23 = .ok (.getfield 12, 3) := by decide +kernel
theorem dX8_isName_26 : decode cX8_isName 26 = .ok (.getfield 72, 3) := by decide +kernel
theorem dX8_isName_29 : decode cX8_isName 29 = .ok (.ldc 45, 2) := by decide +kernel
theorem dX8_isName_31 : decode cX8_isName 31 = .ok (.if_icmp .eq 19, 3) := by decide +kernel
theorem dX8_isName_34 : decode cX8_isName 34 = .ok (.aload_n 0, 1) := by decide +kernel
theorem dX8_isName_35 : decode cX8_isName 35 = .ok (.getfield 12, 3) := by decide +kernel
theorem dX8_isName_38 : decode cX8_isName 38 = .ok (.getfield 72, 3) := by decide +kernel
theorem dX8_isName_41 : decode cX8_isName 41 = .ok (.ldc 58, 2) := by decide +kernel
theorem dX8_isName_43 : decode cX8_isName 43 = .ok (.if_icmp .eq 7, 3) := by decide +kernel
theorem dX8_isName_46 : decode cX8_isName 46 = .ok (.iconst 1, 1) := by decide +kernel
theorem dX8_isName_47 : decode cX8_isName 47 = .ok (.goto 4, 3) := by decide +kernel
theorem dX8_isName_50 : decode cX8_isName 50 = .ok (.iconst 0, 1) := by decide +kernel
theorem dX8_isName_51 : decode cX8_isName 51 = .ok (.ireturn, 1) := by decide +kernel
theorem dX8_fault_0 : decode cX8_fault 0 = .ok (.bipush 8, 2) := by decide +kernel
theorem dX8_fault_2 : decode cX8_fault 2 = .ok (.aload_n 0, 1) := by decide +kernel
