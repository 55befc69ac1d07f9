theorem dX8_fault_3 : decode cX8_fault 3 = .ok (.getfield 12, 3) := by decide +kernel
theorem dX8_fault_6 : decode cX8_fault 6 = .ok (.getfield 141, 3) := by decide +kernel
theorem dX8_fault_9 : decode cX8_fault 9 = .ok (.imul, 1) := by decide +kernel
theorem dX8_fault_10 : decode cX8_fault 10 = .ok (.iload_n 1, 1) := by decide +kernel
theorem dX8_fault_11 : decode cX8_fault 11 = .ok (.iadd, 1) := by decide +kernel
theorem dX8_fault_12 : decode cX8_fault 12 = .ok (.ireturn, 1) := by decide +kernel
theorem dX9_init_0 : decode cX9_init 0 = .ok (.aload_n 0, 1) := by decide +kernel
theorem dX9_init_1 : decode cX9_init 1 = .ok (.invokespecial 3, 3) := by decide +kernel
theorem dX9_init_4 : decode cX9_init 4 = .ok (.return_, 1) := by decide +kernel
theorem dX9_begin_0 : decode cX9_begin 0 = .ok (.aload_n 0, 1) := by decide +kernel
theorem dX9_begin_1 : decode cX9_begin 1 = .ok (.aload_n 1, 1) := by decide +kernel
theorem dX9_begin_2 : decode cX9_begin 2 = .ok (.putfield 9, 3) := by decide +kernel
theorem dX9_begin_5 : decode cX9_begin 5 = .ok (.aload_n 0, 1) := by decide +kernel
theorem dX9_begin_6 : decode cX9_begin 6 = .ok (.iload_n 2, 1) := by decide +kernel
theorem dX9_begin_7 : decode cX9_begin 7 = .ok (.putfield 15, 3) := by decide +kernel
theorem dX9_begin_10 : decode cX9_begin 10 = .ok (.aload_n 0, 1) := by decide +kernel
theorem dX9_begin_11 : decode cX9_begin 11 = .ok (.iconst 0, 1) := by decide +kernel
theorem dX9_begin_12 : decode cX9_begin 12 = .ok (.putfield 19, 3) := by decide +kernel
theorem dX9_begin_15 : decode cX9_begin 15 = .ok (.return_, 1) := by decide +kernel
theorem dX9_advance_0 : decode cX9_advance 0 = .ok (.aload_n 0, 1) := by decide +kernel
theorem dX9_advance_1 : decode cX9_advance 1 = .ok (.getfield 19, 3) := by decide +kernel
theorem dX9_advance_4 : decode cX9_advance 4 = .ok (.aload_n 0, 1) := by decide +kernel
theorem dX9_advance_5 : decode cX9_advance 5 = .ok (.getfield 15, 3) := by decide +kernel
theorem dX9_advance_8 : decode cX9_advance 8 = .ok (.if_icmp .ge 44, 3) := by decide +kernel
theorem dX9_advance_11 : decode cX9_advance 11 = .ok (.aload_n 0, 1) := by decide +kernel
theorem dX9_advance_12 : decode cX9_advance 12 = .ok (.getfield 9, 3) := by decide +kernel
theorem dX9_advance_15 : decode cX9_advance 15 = .ok (.aload_n 0, 1) := by decide +kernel
theorem dX9_advance_16 : decode cX9_advance 16 = .ok (.getfield 19, 3) := by decide +kernel
theorem dX9_advance_19 : decode cX9_advance 19 = .ok (.baload, 1) := by decide +kernel
theorem dX9_advance_20 : decode cX9_advance 20 = .ok (.bipush 32, 2) := by decide +kernel
theorem dX9_advance_22 : decode cX9_advance 22 = .ok (.if_icmp .eq 17, 3) := by decide +kernel
theorem dX9_advance_25 : decode cX9_advance 25 = .ok (.aload_n 0, 1) := by decide +kernel
theorem dX9_advance_26 : decode cX9_advance 26 = .ok (.getfield 9, 3) := by decide +kernel
theorem dX9_advance_29 : decode cX9_advance 29 = .ok (.aload_n 0, 1) := by decide +kernel
theorem dX9_advance_30 : decode cX9_advance 30 = .ok (.getfield 19, 3) := by decide +kernel
theorem dX9_advance_33 : decode cX9_advance 33 = .ok (.baload, 1) := by decide +kernel
theorem dX9_advance_34 : decode cX9_advance 34 = .ok (.bipush 10, 2) := by decide +kernel
theorem dX9_advance_36 : decode cX9_advance 36 = .ok (.if_icmp .ne 16, 3) := by decide +kernel
theorem dX9_advance_39 : decode cX9_advance 39 = .ok (.aload_n 0, 1) := by decide +kernel
theorem dX9_advance_40 : decode cX9_advance 40 = .ok (.dup, 1) := by decide +kernel
theorem dX9_advance_41 : decode cX9_advance 41 = .ok (.getfield 19, 3) := by decide +kernel
theorem dX9_advance_44 : decode cX9_advance 44 = .ok (.iconst 1, 1) := by decide +kernel
theorem dX9_advance_45 : decode cX9_advance 45 = .ok (.iadd, 1) := by decide +kernel
theorem dX9_advance_46 : decode cX9_advance 46 = .ok (.putfield 19, 3) := by decide +kernel
theorem dX9_advance_49 : decode cX9_advance 49 = .ok (.goto (-49), 3) := by decide +kernel
theorem dX9_advance_52 : decode cX9_advance 52 = .ok (.aload_n 0, 1) := by decide +kernel
theorem dX9_advance_53 : decode cX9_advance 53 = .ok (.aload_n 0, 1) := by decide +kernel
theorem dX9_advance_54 : decode cX9_advance 54 = .ok (.getfield 19, 3) := by decide +kernel
theorem dX9_advance_57 : decode cX9_advance 57 = .ok (.putfield 22, 3) := by decide +kernel
theorem dX9_advance_60 : decode cX9_advance 60 = .ok (.aload_n 0, 1) := by decide +kernel
theorem dX9_advance_61 : decode cX9_advance 61 = .ok (.iconst (-1), 1) := by decide +kernel
theorem dX9_advance_62 : decode cX9_advance 62 = .ok (.putfield 25, 3) := by decide +kernel
theorem dX9_advance_65 : decode cX9_advance 65 = .ok (.aload_n 0, 1) := by decide +kernel
theorem dX9_advance_66 : decode cX9_advance 66 = .ok (.getfield 19, 3) := by decide +kernel
theorem dX9_advance_69 : decode cX9_advance 69 = .ok (.aload_n 0, 1) := by decide +kernel
theorem dX9_advance_70 : decode cX9_advance 70 = .ok (.getfield 15, 3) := by decide +kernel
theorem dX9_advance_73 : decode cX9_advance 73 = .ok (.if_icmp .lt 9, 3) := by decide +kernel
theorem dX9_advance_76 : decode cX9_advance 76 = .ok (.aload_n 0, 1) := by decide +kernel
theorem dX9_advance_77 : decode cX9_advance 77 = .ok (.iconst 0, 1) := by decide +kernel
theorem dX9_advance_78 : decode cX9_advance 78 = .ok (.putfield 28, 3) := by decide +kernel
theorem dX9_advance_81 : decode cX9_advance 81 = .ok (.return_, 1) := by decide +kernel
theorem dX9_advance_82 : decode cX9_advance 82 = .ok (.aload_n 0, 1) := by decide +kernel
theorem dX9_advance_83 : decode cX9_advance 83 = .ok (.getfield 9, 3) := by decide +kernel
theorem dX9_advance_86 : decode cX9_advance 86 = .ok (.aload_n 0, 1) := by decide +kernel
theorem dX9_advance_87 : decode cX9_advance 87 = .ok (.getfield 19, 3) := by decide +kernel
theorem dX9_advance_90 : decode cX9_advance 90 = .ok (.baload, 1) := by decide +kernel
theorem dX9_advance_91 : decode cX9_advance 91 = .ok (.istore_n 1, 1) := by decide +kernel
theorem dX9_advance_92 : decode cX9_advance 92 = .ok (.iload_n 1, 1) := by decide +kernel
theorem dX9_advance_93 : decode cX9_advance 93 = .ok (.bipush 97, 2) := by decide +kernel
theorem dX9_advance_95 : decode cX9_advance 95 = .ok (.if_icmp .lt 29, 3) := by decide +kernel
theorem dX9_advance_98 : decode cX9_advance 98 = .ok (.iload_n 1, 1) := by decide +kernel
theorem dX9_advance_99 : decode cX9_advance 99 = .ok (.bipush 122, 2) := by decide +kernel
theorem dX9_advance_101 : decode cX9_advance 101 = .ok (.if_icmp .gt 23, 3) := by decide +kernel
theorem dX9_advance_104 : decode cX9_advance 104 = .ok (.aload_n 0, 1) := by decide +kernel
theorem dX9_advance_105 : decode cX9_advance 105 = .ok (.iconst 1, 1) := by decide +kernel
theorem dX9_advance_106 : decode cX9_advance 106 = .ok (.putfield 28, 3) := by decide +kernel
theorem dX9_advance_109 : decode cX9_advance 109 = .ok (.aload_n 0, 1) := by decide +kernel
theorem dX9_advance_110 : decode cX9_advance 110 = .ok (.bipush 97, 2) := by decide +kernel
theorem dX9_advance_112 : decode cX9_advance 112 = .ok (.bipush 122, 2) := by decide +kernel
theorem dX9_advance_114 : decode cX9_advance 114 = .ok (.iconst 0, 1) := by decide +kernel
theorem dX9_advance_115 : decode cX9_advance 115 = .ok (.sipush 256, 3) := by decide +kernel
theorem dX9_advance_118 : decode cX9_advance 118 = .ok (.invokevirtual 31, 3) := by decide +kernel
theorem dX9_advance_121 : decode cX9_advance 121 = .ok (.goto 78, 3) := by decide +kernel
theorem dX9_advance_124 : decode cX9_advance 124 = .ok (.iload_n 1, 1) := by decide +kernel
theorem dX9_advance_125 : decode cX9_advance 125 = .ok (.bipush 48, 2) := by decide +kernel
theorem dX9_advance_127 : decode cX9_advance 127 = .ok (.if_icmp .lt 29, 3) := by decide +kernel
theorem dX9_advance_130 : decode cX9_advance 130 = .ok (.iload_n 1, 1) := by decide +kernel
theorem dX9_advance_131 : decode cX9_advance 131 = .ok (.bipush 57, 2) := by decide +kernel
theorem dX9_advance_133 : decode cX9_advance 133 = .ok (.if_icmp .gt 23, 3) := by decide +kernel
theorem dX9_advance_136 : decode cX9_advance 136 = .ok (.aload_n 0, 1) := by decide +kernel
theorem dX9_advance_137 : decode cX9_advance 137 = .ok (.iconst 2, 1) := by decide +kernel
theorem dX9_advance_138 : decode cX9_advance 138 = .ok (.putfield 28, 3) := by decide +kernel
theorem dX9_advance_141 : decode cX9_advance 141 = .ok (.aload_n 0, 1) := by decide +kernel
theorem dX9_advance_142 : decode cX9_advance 142 = .ok (.bipush 48, 2) := by decide +kernel
theorem dX9_advance_144 : decode cX9_advance 144 = .ok (.bipush 57, 2) := by decide +kernel
theorem dX9_advance_146 : decode cX9_advance 146 = .ok (.bipush 48, 2) := by decide +kernel
theorem dX9_advance_148 : decode cX9_advance 148 = .ok (.bipush 10, 2) := by decide +kernel
theorem dX9_advance_150 : decode cX9_advance 150 = .ok (.invokevirtual 31, 3) := by decide +kernel
theorem dX9_advance_153 : decode cX9_advance 153 = .ok (.goto 46, 3) := by decide +kernel
theorem dX9_advance_156 : decode cX9_advance 156 = .ok (.aload_n 0, 1) := by decide +kernel
theorem dX9_advance_157 : decode cX9_advance 157 = .ok (.iload_n 1, 1) := by decide +kernel
theorem dX9_advance_158 : decode cX9_advance 158 = .ok (.bipush 59, 2) := by decide +kernel
theorem dX9_advance_160 : decode cX9_advance 160 = .ok (.if_icmp .eq 21, 3) := by decide +kernel
theorem dX9_advance_163 : decode cX9_advance 163 = .ok (.iload_n 1, 1) := by decide +kernel
theorem dX9_advance_164 : decode cX9_advance 164 = .ok (.bipush 61, 2) := by decide +kernel
theorem dX9_advance_166 : decode cX9_advance 166 = .ok (.if_icmp .eq 15, 3) := by decide +kernel
theorem dX9_advance_169 : decode cX9_advance 169 = .ok (.iload_n 1, 1) := by decide +kernel
theorem dX9_advance_170 : decode cX9_advance 170 = .ok (.bipush 42, 2) := by decide +kernel
theorem dX9_advance_172 : decode cX9_advance 172 = .ok (.if_icmp .eq 9, 3) := by decide +kernel
theorem dX9_advance_175 : decode cX9_advance 175 = .ok (.iload_n 1, 1) := by decide +kernel
theorem dX9_advance_176 : decode cX9_advance 176 = .ok (.bipush 94, 2) := by decide +kernel
theorem dX9_advance_178 : decode cX9_advance 178 = .ok (.if_icmp .ne 7, 3) := by decide +kernel
theorem dX9_advance_181 : decode cX9_advance 181 = .ok (.iload_n 1, 1) := by decide +kernel
theorem dX9_advance_182 : decode cX9_advance 182 = .ok (.goto 4, 3) := by decide +kernel
theorem dX9_advance_185 : decode cX9_advance 185 = .ok (.iconst 3, 1) := by decide +kernel
theorem dX9_advance_186 : decode cX9_advance 186 = .ok (.putfield 28, 3) := by decide +kernel
theorem dX9_advance_189 : decode cX9_advance 189 = .ok (.aload_n 0, 1) := by decide +kernel
theorem dX9_advance_190 : decode cX9_advance 190 = .ok (.dup, 1) := by decide +kernel
theorem dX9_advance_191 : decode cX9_advance 191 = .ok (.getfield 19, 3) := by decide +kernel
theorem dX9_advance_194 : decode cX9_advance 194 = .ok (.iconst 1, 1) := by decide +kernel
theorem dX9_advance_195 : decode cX9_advance 195 = .ok (.iadd, 1) := by decide +kernel
theorem dX9_advance_196 : decode cX9_advance 196 = .ok (.putfield 19, 3) := by decide +kernel
theorem dX9_advance_199 : decode cX9_advance 199 = .ok (.return_, 1) := by decide +kernel
theorem dX9_takeRun_0 : decode cX9_takeRun 0 = .ok (.iconst 0, 1) := by decide +kernel
theorem dX9_takeRun_1 : decode cX9_takeRun 1 = .ok (.istore 5, 2) := by decide +kernel
theorem dX9_takeRun_3 : decode cX9_takeRun 3 = .ok (.aload_n 0, 1) := by decide +kernel
theorem dX9_takeRun_4 : decode cX9_takeRun 4 = .ok (.getfield 19, 3) := by decide +kernel
theorem dX9_takeRun_7 : decode cX9_takeRun 7 = .ok (.aload_n 0, 1) := by decide +kernel
theorem dX9_takeRun_8 : decode cX9_takeRun 8 = .ok (.getfield 15, 3) := by decide +kernel
theorem dX9_takeRun_11 : decode cX9_takeRun 11 = .ok (.if_icmp .ge 61, 3) := by decide +kernel
theorem dX9_takeRun_14 : decode cX9_takeRun 14 = .ok (.aload_n 0, 1) := by decide +kernel
theorem dX9_takeRun_15 : decode cX9_takeRun 15 = .ok (.getfield 9, 3) := by decide +kernel
theorem dX9_takeRun_18 : decode cX9_takeRun 18 = .ok (.aload_n 0, 1) := by decide +kernel
theorem dX9_takeRun_19 : decode cX9_takeRun 19 = .ok (.getfield 19, 3) := by decide +kernel
theorem dX9_takeRun_22 : decode cX9_takeRun 22 = .ok (.baload, 1) := by decide +kernel
theorem dX9_takeRun_23 : decode cX9_takeRun 23 = .ok (.iload_n 1, 1) := by decide +kernel
theorem dX9_takeRun_24 : decode cX9_takeRun 24 = .ok (.if_icmp .lt 48, 3) := by decide +kernel
theorem dX9_takeRun_27 : decode cX9_takeRun 27 = .ok (.aload_n 0, 1) := by decide +kernel
theorem dX9_takeRun_28 : decode cX9_takeRun 28 = .ok (.getfield 9, 3) := by decide +kernel
theorem dX9_takeRun_31 : decode cX9_takeRun 31 = .ok (.aload_n 0, 1) := by decide +kernel
theorem dX9_takeRun_32 : decode cX9_takeRun 32 = .ok (.getfield 19, 3) := by decide +kernel
theorem dX9_takeRun_35 : decode cX9_takeRun 35 = .ok (.baload, 1) := by decide +kernel
theorem dX9_takeRun_36 : decode cX9_takeRun 36 = .ok (.iload_n 2, 1) := by decide +kernel
theorem dX9_takeRun_37 : decode cX9_takeRun 37 = .ok (.if_icmp .gt 35, 3) := by decide +kernel
theorem dX9_takeRun_40 : decode cX9_takeRun 40 = .ok (.iload 5, 2) := by decide +kernel
theorem dX9_takeRun_42 : decode cX9_takeRun 42 = .ok (.iload 4, 2) := by decide +kernel
theorem dX9_takeRun_44 : decode cX9_takeRun 44 = .ok (.imul, 1) := by decide +kernel
theorem dX9_takeRun_45 : decode cX9_takeRun 45 = .ok (.aload_n 0, 1) := by decide +kernel
theorem dX9_takeRun_46 : decode cX9_takeRun 46 = .ok (.getfield 9, 3) := by decide +kernel
theorem dX9_takeRun_49 : decode cX9_takeRun 49 = .ok (.aload_n 0, 1) := by decide +kernel
theorem dX9_takeRun_50 : decode cX9_takeRun 50 = .ok (.getfield 19, 3) := by decide +kernel
theorem dX9_takeRun_53 : decode cX9_takeRun 53 = .ok (.baload, 1) := by decide +kernel
theorem dX9_takeRun_54 : decode cX9_takeRun 54 = .ok (.iload_n 3, 1) := by decide +kernel
theorem dX9_takeRun_55 : decode cX9_takeRun 55 = .ok (.isub, 1) := by decide +kernel
theorem dX9_takeRun_56 : decode cX9_takeRun 56 = .ok (.iadd, 1) := by decide +kernel
theorem dX9_takeRun_57 : decode cX9_takeRun 57 = .ok (.istore 5, 2) := by decide +kernel
theorem dX9_takeRun_59 : decode cX9_takeRun 59 = .ok (.aload_n 0, 1) := by decide +kernel
theorem dX9_takeRun_60 : decode cX9_takeRun 60 = .ok (.dup, 1) := by decide +kernel
theorem dX9_takeRun_61 : decode cX9_takeRun 61 = .ok (.getfield 19, 3) := by decide +kernel
theorem dX9_takeRun_64 : decode cX9_takeRun 64 = .ok (.iconst 1, 1) := by decide +kernel
theorem dX9_takeRun_65 : decode cX9_takeRun 65 = .ok (.iadd, 1) := by decide +kernel
theorem dX9_takeRun_66 : decode cX9_takeRun 66 = .ok (.putfield 19, 3) := by decide +kernel
theorem dX9_takeRun_69 : decode cX9_takeRun 69 = .ok (.goto (-66), 3) := by decide +kernel
theorem dX9_takeRun_72 : decode cX9_takeRun 72 = .ok (.aload_n 0, 1) := by decide +kernel
theorem dX9_takeRun_73 : decode cX9_takeRun 73 = .ok (.getfield 19, 3) := by decide +kernel
theorem dX9_takeRun_76 : decode cX9_takeRun 76 = .ok (.aload_n 0, 1) := by decide +kernel
theorem dX9_takeRun_77 : decode cX9_takeRun 77 = .ok (.getfield 22, 3) := by decide +kernel
theorem dX9_takeRun_80 : decode cX9_takeRun 80 = .ok (.isub, 1) := by decide +kernel
theorem dX9_takeRun_81 : decode cX9_takeRun 81 = .ok (.iconst 4, 1) := by decide +kernel
theorem dX9_takeRun_82 : decode cX9_takeRun 82 = .ok (.if_icmp .gt 9, 3) := by decide +kernel
theorem dX9_takeRun_85 : decode cX9_takeRun 85 = .ok (.aload_n 0, 1) := by decide +kernel
theorem dX9_takeRun_86 : decode cX9_takeRun 86 = .ok (.iload 5, 2) := by decide +kernel
theorem dX9_takeRun_88 : decode cX9_takeRun 88 = .ok (.putfield 25, 3) := by decide +kernel
theorem dX9_takeRun_91 : decode cX9_takeRun 91 = .ok (.return_, 1) := by decide +kernel
theorem dX10_init_0 : decode cX10_init 0 = .ok (.aload_n 0, 1) := by decide +kernel
theorem dX10_init_1 : decode cX10_init 1 = .ok (.invokespecial 3, 3) := by decide +kernel
theorem dX10_init_4 : decode cX10_init 4 = .ok (.aload_n 0, 1) := by decide +kernel
theorem dX10_init_5 : decode cX10_init 5 = .ok (.bipush 64, 2) := by decide +kernel
theorem dX10_init_7 : decode cX10_init 7 = .ok (.newarray .int, 2) := by decide +kernel
theorem dX10_init_9 : decode cX10_init 9 = .ok (.putfield 9, 3) := by decide +kernel
theorem dX10_init_12 : decode cX10_init 12 = .ok (.return_, 1) := by decide +kernel
theorem dX10_turn_0 : decode cX10_turn 0 = .ok (.aload_n 2, 1) := by decide +kernel
theorem dX10_turn_1 : decode cX10_turn 1 = .ok (.aload_n 1, 1) := by decide +kernel
theorem dX10_turn_2 : decode cX10_turn 2 = .ok (.getfield 15, 3) := by decide +kernel
theorem dX10_turn_5 : decode cX10_turn 5 = .ok (.invokevirtual 21, 3) := by decide +kernel
theorem dX10_turn_8 : decode cX10_turn 8 = .ok (.aload_n 1, 1) := by decide +kernel
theorem dX10_turn_9 : decode cX10_turn 9 = .ok (.getfield 15, 3) := by decide +kernel
theorem dX10_turn_12 : decode cX10_turn 12 = .ok (.ifCond .ne 5, 3) := by decide +kernel
theorem dX10_turn_15 : decode cX10_turn 15 = .ok (.iconst 0, 1) := by decide +kernel
theorem dX10_turn_16 : decode cX10_turn 16 = .ok (.ireturn, 1) := by decide +kernel
theorem dX10_turn_17 : decode cX10_turn 17 = .ok (.aload_n 1, 1) := by decide +kernel
theorem dX10_turn_18 : decode cX10_turn 18 = .ok (.invokevirtual 25, 3) := by decide +kernel
theorem dX10_turn_21 : decode cX10_turn 21 = .ok (.iconst 1, 1) := by decide +kernel
theorem dX10_turn_22 : decode cX10_turn 22 = .ok (.isub, 1) := by decide +kernel
theorem dX10_turn_23 : decode cX10_turn 23 = .ok (.istore_n 3, 1) := by decide +kernel
theorem dX10_turn_24 : decode cX10_turn 24 = .ok (.iload_n 3, 1) := by decide +kernel
theorem dX10_turn_25 : decode cX10_turn 25 = .ok (.ifCond .lt 38, 3) := by decide +kernel
theorem dX10_turn_28 : decode cX10_turn 28 = .ok (.aload_n 0, 1) := by decide +kernel
theorem dX10_turn_29 : decode cX10_turn 29 = .ok (.getfield 9, 3) := by decide +kernel
theorem dX10_turn_32 : decode cX10_turn 32 = .ok (.iload_n 3, 1) := by decide +kernel
theorem dX10_turn_33 : decode cX10_turn 33 = .ok (.iconst (-1), 1) := by decide +kernel
theorem dX10_turn_34 : decode cX10_turn 34 = .ok (.iastore, 1) := by decide +kernel
theorem dX10_turn_35 : decode cX10_turn 35 = .ok (.aload_n 0, 1) := by decide +kernel
theorem dX10_turn_36 : decode cX10_turn 36 = .ok (.aload_n 1, 1) := by decide +kernel
theorem dX10_turn_37 : decode cX10_turn 37 = .ok (.iload_n 3, 1) := by decide +kernel
theorem dX10_turn_38 : decode cX10_turn 38 = .ok (.aload_n 2, 1) := by decide +kernel
theorem dX10_turn_39 : decode cX10_turn 39 = .ok (.invokevirtual 29, 3) := by decide +kernel
theorem dX10_turn_42 : decode cX10_turn 42 = .ok (.ifCond .eq 13, 3) := by decide +kernel
theorem dX10_turn_45 : decode cX10_turn 45 = .ok (.aload_n 0, 1) := by decide +kernel
theorem dX10_turn_46 : decode cX10_turn 46 = .ok (.aload_n 1, 1) := by decide +kernel
theorem dX10_turn_47 : decode cX10_turn 47 = .ok (.iload_n 3, 1) := by decide +kernel
theorem dX10_turn_48 : decode cX10_turn 48 = .ok (.aload_n 2, 1) := by decide +kernel
theorem dX10_turn_49 : decode cX10_turn 49 = .ok (.invokevirtual 33, 3) := by decide +kernel
theorem dX10_turn_52 : decode cX10_turn 52 = .ok (.ifCond .ne 5, 3) := by decide +kernel
theorem dX10_turn_55 : decode cX10_turn 55 = .ok (.iconst 0, 1) := by decide +kernel
theorem dX10_turn_56 : decode cX10_turn 56 = .ok (.ireturn, 1) := by decide +kernel
theorem dX10_turn_57 : decode cX10_turn 57 = .ok (.iinc 3 (-1), 3) := by decide +kernel
theorem dX10_turn_60 : decode cX10_turn 60 = .ok (.goto (-36), 3) := by decide +kernel
theorem dX10_turn_63 : decode cX10_turn 63 = .ok (.aload_n 0, 1) := by decide +kernel
theorem dX10_turn_64 : decode cX10_turn 64 = .ok (.aload_n 1, 1) := by decide +kernel
theorem dX10_turn_65 : decode cX10_turn 65 = .ok (.aload_n 2, 1) := by decide +kernel
theorem dX10_turn_66 : decode cX10_turn 66 = .ok (.invokevirtual 36, 3) := by decide +kernel
theorem dX10_turn_69 : decode cX10_turn 69 = .ok (.ireturn, 1) := by decide +kernel
theorem dX10_gatherWants_0 : decode cX10_gatherWants 0 = .ok (.iconst 0, 1) := by decide +kernel
theorem dX10_gatherWants_1 : decode cX10_gatherWants 1 = .ok (.istore 4, 2) := by decide +kernel
theorem dX10_gatherWants_3 : decode cX10_gatherWants 3 = .ok (.iload 4, 2) := by decide +kernel
theorem dX10_gatherWants_5 : decode cX10_gatherWants 5 = .ok (.aload_n 1, 1) := by decide +kernel
theorem dX10_gatherWants_6 : decode cX10_gatherWants 6 = .ok (.getfield 15, 3) := by decide +kernel
theorem dX10_gatherWants_9 : decode cX10_gatherWants 9 = .ok (.if_icmp .ge 33, 3) := by decide +kernel
theorem dX10_gatherWants_12 : decode cX10_gatherWants 12 = .ok (.aload_n 1, 1) := by decide +kernel
theorem dX10_gatherWants_13 : decode cX10_gatherWants 13 = .ok (.getfield 40, 3) := by decide +kernel
theorem dX10_gatherWants_16 : decode cX10_gatherWants 16 = .ok (.iload 4, 2) := by decide +kernel
theorem dX10_gatherWants_18 : decode cX10_gatherWants 18 = .ok (.iaload, 1) := by decide +kernel
theorem dX10_gatherWants_19 : decode cX10_gatherWants 19 = .ok (.iload_n 2, 1) := by decide +kernel
theorem dX10_gatherWants_20 : decode cX10_gatherWants 20 = .ok (.if_icmp .ne 16, 3) := by decide +kernel
theorem dX10_gatherWants_23 : decode cX10_gatherWants 23 = .ok (.aload_n 0, 1) := by decide +kernel
theorem dX10_gatherWants_24 : decode cX10_gatherWants 24 = .ok (.iload_n 2, 1) := by decide +kernel
theorem dX10_gatherWants_25 : decode cX10_gatherWants 25 = .ok (.iload 4, 2) := by decide +kernel
theorem dX10_gatherWants_27 : decode cX10_gatherWants 27 = .ok (.aload_n 3, 1) := by decide +kernel
theorem dX10_gatherWants_28 : decode cX10_gatherWants 28 = .ok (.invokevirtual 43, 3) := by decide +kernel
theorem dX10_gatherWants_31 : decode cX10_gatherWants 31 = .ok (.ifCond .ne 5, 3) := by decide +kernel
theorem dX10_gatherWants_34 : decode cX10_gatherWants 34 = .ok (.iconst 0, 1) := by decide +kernel
theorem dX10_gatherWants_35 : decode cX10_gatherWants 35 = .ok (.ireturn, 1) := by decide +kernel
theorem dX10_gatherWants_36 : decode cX10_gatherWants 36 = .ok (.iinc 4 1, 3) := by decide +kernel
theorem dX10_gatherWants_39 : decode cX10_gatherWants 39 = .ok (.goto (-36), 3) := by decide +kernel
theorem dX10_gatherWants_42 : decode cX10_gatherWants 42 = .ok (.iconst 1, 1) := by decide +kernel
theorem dX10_gatherWants_43 : decode cX10_gatherWants 43 = .ok (.ireturn, 1) := by decide +kernel
theorem dX10_gatherSteps_0 : decode cX10_gatherSteps 0 = .ok (.iload_n 2, 1) := by decide +kernel
theorem dX10_gatherSteps_1 : decode cX10_gatherSteps 1 = .ok (.iconst 1, 1) := by decide +kernel
theorem dX10_gatherSteps_2 : decode cX10_gatherSteps 2 = .ok (.iadd, 1) := by decide +kernel
theorem dX10_gatherSteps_3 : decode cX10_gatherSteps 3 = .ok (.aload_n 1, 1) := by decide +kernel
theorem dX10_gatherSteps_4 : decode cX10_gatherSteps 4 = .ok (.getfield 47, 3) := by decide +kernel
theorem dX10_gatherSteps_7 : decode cX10_gatherSteps 7 = .ok (.invokestatic 50, 3) := by decide +kernel
theorem dX10_gatherSteps_10 : decode cX10_gatherSteps 10 = .ok (.istore 4, 2) := by decide +kernel
theorem dX10_gatherSteps_12 : decode cX10_gatherSteps 12 = .ok (.iload 4, 2) := by decide +kernel
theorem dX10_gatherSteps_14 : decode cX10_gatherSteps 14 = .ok (.aload_n 1, 1) := by decide +kernel
theorem dX10_gatherSteps_15 : decode cX10_gatherSteps 15 = .ok (.invokevirtual 25, 3) := by decide +kernel
theorem dX10_gatherSteps_18 : decode cX10_gatherSteps 18 = .ok (.if_icmp .ge 81, 3) := by decide +kernel
theorem dX10_gatherSteps_21 : decode cX10_gatherSteps 21 = .ok (.aload_n 0, 1) := by decide +kernel
theorem dX10_gatherSteps_22 : decode cX10_gatherSteps 22 = .ok (.getfield 9, 3) := by decide +kernel
theorem dX10_gatherSteps_25 : decode cX10_gatherSteps 25 = .ok (.iload 4, 2) := by decide +kernel
theorem dX10_gatherSteps_27 : decode cX10_gatherSteps 27 = .ok (.iaload, 1) := by decide +kernel
theorem dX10_gatherSteps_28 : decode cX10_gatherSteps 28 = .ok (.iconst (-1), 1) := by decide +kernel
theorem dX10_gatherSteps_29 : decode cX10_gatherSteps 29 = .ok (.if_icmp .ne 6, 3) := by decide +kernel
theorem dX10_gatherSteps_32 : decode cX10_gatherSteps 32 = .ok (.goto 61, 3) := by decide +kernel
theorem dX10_gatherSteps_35 : decode cX10_gatherSteps 35 = .ok (.aload_n 1, 1) := by decide +kernel
theorem dX10_gatherSteps_36 : decode cX10_gatherSteps 36 = .ok (.getfield 56, 3) := by decide +kernel
theorem dX10_gatherSteps_39 : decode cX10_gatherSteps 39 = .ok (.iload 4, 2) := by decide +kernel
theorem dX10_gatherSteps_41 : decode cX10_gatherSteps 41 = .ok (.iaload, 1) := by decide +kernel
theorem dX10_gatherSteps_42 : decode cX10_gatherSteps 42 = .ok (.iload_n 2, 1) := by decide +kernel
theorem dX10_gatherSteps_43 : decode cX10_gatherSteps 43 = .ok (.if_icmp .ne 21, 3) := by decide +kernel
theorem dX10_gatherSteps_46 : decode cX10_gatherSteps 46 = .ok (.aload_n 0, 1) := by decide +kernel
theorem dX10_gatherSteps_47 : decode cX10_gatherSteps 47 = .ok (.iload_n 2, 1) := by decide +kernel
theorem dX10_gatherSteps_48 : decode cX10_gatherSteps 48 = .ok (.aload_n 0, 1) := by decide +kernel
theorem dX10_gatherSteps_49 : decode cX10_gatherSteps 49 = .ok (.getfield 9, 3) := by decide +kernel
theorem dX10_gatherSteps_52 : decode cX10_gatherSteps 52 = .ok (.iload 4, 2) := by decide +kernel
theorem dX10_gatherSteps_54 : decode cX10_gatherSteps 54 = .ok (.iaload, 1) := by decide +kernel
theorem dX10_gatherSteps_55 : decode cX10_gatherSteps 55 = .ok (.aload_n 3, 1) := by decide +kernel
theorem dX10_gatherSteps_56 : decode cX10_gatherSteps 56 = .ok (.invokevirtual 43, 3) := by decide +kernel
theorem dX10_gatherSteps_59 : decode cX10_gatherSteps 59 = .ok (.ifCond .ne 5, 3) := by decide +kernel
theorem dX10_gatherSteps_62 : decode cX10_gatherSteps 62 = .ok (.iconst 0, 1) := by decide +kernel
theorem dX10_gatherSteps_63 : decode cX10_gatherSteps 63 = .ok (.ireturn, 1) := by decide +kernel
theorem dX10_gatherSteps_64 : decode cX10_gatherSteps 64 = .ok (.aload_n 1, 1) := by decide +kernel
theorem dX10_gatherSteps_65 : decode cX10_gatherSteps 65 = .ok (.getfield 59, 3) := by decide +kernel
theorem dX10_gatherSteps_68 : decode cX10_gatherSteps 68 = .ok (.iload 4, 2) := by decide +kernel
theorem dX10_gatherSteps_70 : decode cX10_gatherSteps 70 = .ok (.iaload, 1) := by decide +kernel
theorem dX10_gatherSteps_71 : decode cX10_gatherSteps 71 = .ok (.iload_n 2, 1) := by decide +kernel
theorem dX10_gatherSteps_72 : decode cX10_gatherSteps 72 = .ok (.if_icmp .ne 21, 3) := by decide +kernel
theorem dX10_gatherSteps_75 : decode cX10_gatherSteps 75 = .ok (.aload_n 0, 1) := by decide +kernel
theorem dX10_gatherSteps_76 : decode cX10_gatherSteps 76 = .ok (.iload_n 2, 1) := by decide +kernel
theorem dX10_gatherSteps_77 : decode cX10_gatherSteps 77 = .ok (.aload_n 0, 1) := by decide +kernel
theorem dX10_gatherSteps_78 : decode cX10_gatherSteps 78 = .ok (.getfield 9, 3) := by decide +kernel
theorem dX10_gatherSteps_81 : decode cX10_gatherSteps 81 = .ok (.iload 4, 2) := by decide +kernel
theorem dX10_gatherSteps_83 : decode cX10_gatherSteps 83 = .ok (.iaload, 1) := by decide +kernel
theorem dX10_gatherSteps_84 : decode cX10_gatherSteps 84 = .ok (.aload_n 3, 1) := by decide +kernel
theorem dX10_gatherSteps_85 : decode cX10_gatherSteps 85 = .ok (.invokevirtual 43, 3) := by decide +kernel
theorem dX10_gatherSteps_88 : decode cX10_gatherSteps 88 = .ok (.ifCond .ne 5, 3) := by decide +kernel
theorem dX10_gatherSteps_91 : decode cX10_gatherSteps 91 = .ok (.iconst 0, 1) := by decide +kernel
theorem dX10_gatherSteps_92 : decode cX10_gatherSteps 92 = .ok (.ireturn, 1) := by decide +kernel
theorem dX10_gatherSteps_93 : decode cX10_gatherSteps 93 = .ok (.iinc 4 1, 3) := by decide +kernel
theorem dX10_gatherSteps_96 : decode cX10_gatherSteps 96 = .ok (.goto (-84), 3) := by decide +kernel
theorem dX10_gatherSteps_99 : decode cX10_gatherSteps 99 = .ok (.iconst 1, 1) := by decide +kernel
theorem dX10_gatherSteps_100 : decode cX10_gatherSteps 100 = .ok (.ireturn, 1) := by decide +kernel
theorem dX10_join_0 : decode cX10_join 0 = .ok (.aload_n 0, 1) := by decide +kernel
theorem dX10_join_1 : decode cX10_join 1 = .ok (.getfield 9, 3) := by decide +kernel
theorem dX10_join_4 : decode cX10_join 4 = .ok (.iload_n 1, 1) := by decide +kernel
theorem dX10_join_5 : decode cX10_join 5 = .ok (.aload_n 0, 1) := by decide +kernel
theorem dX10_join_6 : decode cX10_join 6 = .ok (.getfield 9, 3) := by decide +kernel
theorem dX10_join_9 : decode cX10_join 9 = .ok (.iload_n 1, 1) := by decide +kernel
theorem dX10_join_10 : decode cX10_join 10 = .ok (.iaload, 1) := by decide +kernel
theorem dX10_join_11 : decode cX10_join 11 = .ok (.iconst (-1), 1) := by decide +kernel
theorem dX10_join_12 : decode cX10_join 12 = .ok (.if_icmp .ne 7, 3) := by decide +kernel
theorem dX10_join_15 : decode cX10_join 15 = .ok (.iload_n 2, 1) := by decide +kernel
theorem dX10_join_16 : decode cX10_join 16 = .ok (.goto 14, 3) := by decide +kernel
theorem dX10_join_19 : decode cX10_join 19 = .ok (.aload_n 3, 1) := by decide +kernel
theorem dX10_join_20 : decode cX10_join 20 = .ok (.aload_n 0, 1) := by decide +kernel
theorem dX10_join_21 : decode cX10_join 21 = .ok (.getfield 9, 3) := by decide +kernel
theorem dX10_join_24 : decode cX10_join 24 = .ok (.iload_n 1, 1) := by decide +kernel
theorem dX10_join_25 : decode cX10_join 25 = .ok (.iaload, 1) := by decide +kernel
theorem dX10_join_26 : decode cX10_join 26 = .ok (.iload_n 2, 1) := by decide +kernel
theorem dX10_join_27 : decode cX10_join 27 = .ok (.invokevirtual 62, 3) := by decide +kernel
theorem dX10_join_30 : decode cX10_join 30 = .ok (.iastore, 1) := by decide +kernel
theorem dX10_join_31 : decode cX10_join 31 = .ok (.aload_n 0, 1) := by decide +kernel
theorem dX10_join_32 : decode cX10_join 32 = .ok (.getfield 9, 3) := by decide +kernel
theorem dX10_join_35 : decode cX10_join 35 = .ok (.iload_n 1, 1) := by decide +kernel
theorem dX10_join_36 : decode cX10_join 36 = .ok (.iaload, 1) := by decide +kernel
theorem dX10_join_37 : decode cX10_join 37 = .ok (.iconst (-1), 1) := by decide +kernel
theorem dX10_join_38 : decode cX10_join 38 = .ok (.if_icmp .eq 7, 3) := by decide +kernel
theorem dX10_join_41 : decode cX10_join 41 = .ok (.iconst 1, 1) := by decide +kernel
theorem dX10_join_42 : decode cX10_join 42 = .ok (.goto 4, 3) := by decide +kernel
theorem dX10_join_45 : decode cX10_join 45 = .ok (.iconst 0, 1) := by decide +kernel
theorem dX10_join_46 : decode cX10_join 46 = .ok (.ireturn, 1) := by decide +kernel
theorem dX10_wantBases_0 : decode cX10_wantBases 0 = .ok (.iconst 0, 1) := by decide +kernel
theorem dX10_wantBases_1 : decode cX10_wantBases 1 = .ok (.istore_n 3, 1) := by decide +kernel
theorem dX10_wantBases_2 : decode cX10_wantBases 2 = .ok (.iload_n 3, 1) := by decide +kernel
theorem dX10_wantBases_3 : decode cX10_wantBases 3 = .ok (.aload_n 1, 1) := by decide +kernel
theorem dX10_wantBases_4 : decode cX10_wantBases 4 = .ok (.getfield 47, 3) := by decide +kernel
theorem dX10_wantBases_7 : decode cX10_wantBases 7 = .ok (.if_icmp .ge 33, 3) := by decide +kernel
theorem dX10_wantBases_10 : decode cX10_wantBases 10 = .ok (.aload_n 0, 1) := by decide +kernel
theorem dX10_wantBases_11 : decode cX10_wantBases 11 = .ok (.getfield 9, 3) := by decide +kernel
theorem dX10_wantBases_14 : decode cX10_wantBases 14 = .ok (.iload_n 3, 1) := by decide +kernel
theorem dX10_wantBases_15 : decode cX10_wantBases 15 = .ok (.iaload, 1) := by decide +kernel
theorem dX10_wantBases_16 : decode cX10_wantBases 16 = .ok (.iconst (-1), 1) := by decide +kernel
theorem dX10_wantBases_17 : decode cX10_wantBases 17 = .ok (.if_icmp .ne 5, 3) := by decide +kernel
theorem dX10_wantBases_20 : decode cX10_wantBases 20 = .ok (.iconst 0, 1) := by decide +kernel
theorem dX10_wantBases_21 : decode cX10_wantBases 21 = .ok (.ireturn, 1) := by decide +kernel
theorem dX10_wantBases_22 : decode cX10_wantBases 22 = .ok (.aload_n 2, 1) := by decide +kernel
theorem dX10_wantBases_23 : decode cX10_wantBases 23 = .ok (.getfield 40, 3) := by decide +kernel
theorem dX10_wantBases_26 : decode cX10_wantBases 26 = .ok (.iload_n 3, 1) := by decide +kernel
theorem dX10_wantBases_27 : decode cX10_wantBases 27 = .ok (.aload_n 0, 1) := by decide +kernel
theorem dX10_wantBases_28 : decode cX10_wantBases 28 = .ok (.getfield 9, 3) := by decide +kernel
theorem dX10_wantBases_31 : decode cX10_wantBases 31 = .ok (.iload_n 3, 1) := by decide +kernel
theorem dX10_wantBases_32 : decode cX10_wantBases 32 = .ok (.iaload, 1) := by decide +kernel
theorem dX10_wantBases_33 : decode cX10_wantBases 33 = .ok (.iastore, 1) := by decide +kernel
theorem dX10_wantBases_34 : decode cX10_wantBases 34 = .ok (.iinc 3 1, 3) := by decide +kernel
theorem dX10_wantBases_37 : decode cX10_wantBases 37 = .ok (.goto (-35), 3) := by decide +kernel
theorem dX10_wantBases_40 : decode cX10_wantBases 40 = .ok (.aload_n 2, 1) := by decide +kernel
theorem dX10_wantBases_41 : decode cX10_wantBases 41 = .ok (.aload_n 1, 1) := by decide +kernel
theorem dX10_wantBases_42 : decode cX10_wantBases 42 = .ok (.getfield 47, 3) := by decide +kernel
theorem dX10_wantBases_45 : decode cX10_wantBases 45 = .ok (.putfield 15, 3) := by decide +kernel
theorem dX10_wantBases_48 : decode cX10_wantBases 48 = .ok (.iconst 1, 1) := by decide +kernel
theorem dX10_wantBases_49 : decode cX10_wantBases 49 = .ok (.ireturn, 1) := by decide +kernel
theorem dX11_init_0 : decode cX11_init 0 = .ok (.aload_n 0, 1) := by decide +kernel
theorem dX11_init_1 : decode cX11_init 1 = .ok (.invokespecial 3, 3) := by decide +kernel
theorem dX11_init_4 : decode cX11_init 4 = .ok (.aload_n 0, 1) := by decide +kernel
theorem dX11_init_5 : decode cX11_init 5 = .ok (.new 9, 3) := by decide +kernel
theorem dX11_init_8 : decode cX11_init 8 = .ok (.dup, 1) := by decide +kernel
theorem dX11_init_9 : decode cX11_init 9 = .ok (.invokespecial 11, 3) := by decide +kernel
theorem dX11_init_12 : decode cX11_init 12 = .ok (.putfield 12, 3) := by decide +kernel
theorem dX11_init_15 : decode cX11_init 15 = .ok (.aload_n 0, 1) := by decide +kernel
theorem dX11_init_16 : decode cX11_init 16 = .ok (.new 9, 3) := by decide +kernel
theorem dX11_init_19 : decode cX11_init 19 = .ok (.dup, 1) := by decide +kernel
theorem dX11_init_20 : decode cX11_init 20 = .ok (.invokespecial 11, 3) := by decide +kernel
theorem dX11_init_23 : decode cX11_init 23 = .ok (.putfield 16, 3) := by decide +kernel
theorem dX11_init_26 : decode cX11_init 26 = .ok (.aload_n 0, 1) := by decide +kernel
theorem dX11_init_27 : decode cX11_init 27 = .ok (.new 9, 3) := by decide +kernel
theorem dX11_init_30 : decode cX11_init 30 = .ok (.dup, 1) := by decide +kernel
theorem dX11_init_31 : decode cX11_init 31 = .ok (.invokespecial 11, 3) := by decide +kernel
theorem dX11_init_34 : decode cX11_init 34 = .ok (.putfield 19, 3) := by decide +kernel
theorem dX11_init_37 : decode cX11_init 37 = .ok (.aload_n 0, 1) := by decide +kernel
theorem dX11_init_38 : decode cX11_init 38 = .ok (.iconst 3, 1) := by decide +kernel
theorem dX11_init_39 : decode cX11_init 39 = .ok (.anewarray 9, 3) := by decide +kernel
theorem dX11_init_42 : decode cX11_init 42 = .ok (.putfield 22, 3) := by decide +kernel
theorem dX11_init_45 : decode cX11_init 45 = .ok (.aload_n 0, 1) := by decide +kernel
theorem dX11_init_46 : decode cX11_init 46 = .ok (.iconst 3, 1) := by decide +kernel
theorem dX11_init_47 : decode cX11_init 47 = .ok (.newarray .boolean, 2) := by decide +kernel
theorem dX11_init_49 : decode cX11_init 49 = .ok (.putfield 26, 3) := by decide +kernel
theorem dX11_init_52 : decode cX11_init 52 = .ok (.aload_n 0, 1) := by decide +kernel
theorem dX11_init_53 : decode cX11_init 53 = .ok (.new 30, 3) := by decide +kernel
theorem dX11_init_56 : decode cX11_init 56 = .ok (.dup, 1) := by decide +kernel
theorem dX11_init_57 : decode cX11_init 57 = .ok (.invokespecial 32, 3) := by decide +kernel
theorem dX11_init_60 : decode cX11_init 60 = .ok (.putfield 33, 3) := by decide +kernel
theorem dX11_init_63 : decode cX11_init 63 = .ok (.aload_n 0, 1) := by decide +kernel
theorem dX11_init_64 : decode cX11_init 64 = .ok (.new 37, 3) := by decide +kernel
theorem dX11_init_67 : decode cX11_init 67 = .ok (.dup, 1) := by decide +kernel
theorem dX11_init_68 : decode cX11_init 68 = .ok (.invokespecial 39, 3) := by decide +kernel
theorem dX11_init_71 : decode cX11_init 71 = .ok (.putfield 40, 3) := by decide +kernel
theorem dX11_init_74 : decode cX11_init 74 = .ok (.aload_n 0, 1) := by decide +kernel
theorem dX11_init_75 : decode cX11_init 75 = .ok (.new 44, 3) := by decide +kernel
theorem dX11_init_78 : decode cX11_init 78 = .ok (.dup, 1) := by decide +kernel
theorem dX11_init_79 : decode cX11_init 79 = .ok (.invokespecial 46, 3) := by decide +kernel
theorem dX11_init_82 : decode cX11_init 82 = .ok (.putfield 47, 3) := by decide +kernel
theorem dX11_init_85 : decode cX11_init 85 = .ok (.aload_n 0, 1) := by decide +kernel
theorem dX11_init_86 : decode cX11_init 86 = .ok (.new 44, 3) := by decide +kernel
theorem dX11_init_89 : decode cX11_init 89 = .ok (.dup, 1) := by decide +kernel
theorem dX11_init_90 : decode cX11_init 90 = .ok (.invokespecial 46, 3) := by decide +kernel
theorem dX11_init_93 : decode cX11_init 93 = .ok (.putfield 51, 3) := by decide +kernel
theorem dX11_init_96 : decode cX11_init 96 = .ok (.aload_n 0, 1) := by decide +kernel
theorem dX11_init_97 : decode cX11_init 97 = .ok (.bipush 64, 2) := by decide +kernel
theorem dX11_init_99 : decode cX11_init 99 = .ok (.newarray .int, 2) := by decide +kernel
theorem dX11_init_101 : decode cX11_init 101 = .ok (.putfield 54, 3) := by decide +kernel
theorem dX11_init_104 : decode cX11_init 104 = .ok (.aload_n 0, 1) := by decide +kernel
theorem dX11_init_105 : decode cX11_init 105 = .ok (.bipush 64, 2) := by decide +kernel
theorem dX11_init_107 : decode cX11_init 107 = .ok (.newarray .int, 2) := by decide +kernel
theorem dX11_init_109 : decode cX11_init 109 = .ok (.putfield 58, 3) := by decide +kernel
theorem dX11_init_112 : decode cX11_init 112 = .ok (.aload_n 0, 1) := by decide +kernel
theorem dX11_init_113 : decode cX11_init 113 = .ok (.new 61, 3) := by decide +kernel
theorem dX11_init_116 : decode cX11_init 116 = .ok (.dup, 1) := by decide +kernel
theorem dX11_init_117 : decode cX11_init 117 = .ok (.invokespecial 63, 3) := by decide +kernel
theorem dX11_init_120 : decode cX11_init 120 = .ok (.putfield 64, 3) := by decide +kernel
theorem dX11_init_123 : decode cX11_init 123 = .ok (.aload_n 0, 1) := by decide +kernel
theorem dX11_init_124 : decode cX11_init 124 = .ok (.new 68, 3) := by decide +kernel
theorem dX11_init_127 : decode cX11_init 127 = .ok (.dup, 1) := by decide +kernel
theorem dX11_init_128 : decode cX11_init 128 = .ok (.invokespecial 70, 3) := by decide +kernel
theorem dX11_init_131 : decode cX11_init 131 = .ok (.putfield 71, 3) := by decide +kernel
theorem dX11_init_134 : decode cX11_init 134 = .ok (.aload_n 0, 1) := by decide +kernel
theorem dX11_init_135 : decode cX11_init 135 = .ok (.new 75, 3) := by decide +kernel
theorem dX11_init_138 : decode cX11_init 138 = .ok (.dup, 1) := by decide +kernel
theorem dX11_init_139 : decode cX11_init 139 = .ok (.invokespecial 77, 3) := by decide +kernel
theorem dX11_init_142 : decode cX11_init 142 = .ok (.putfield 78, 3) := by decide +kernel
theorem dX11_init_145 : decode cX11_init 145 = .ok (.aload_n 0, 1) := by decide +kernel
theorem dX11_init_146 : decode cX11_init 146 = .ok (.new 82, 3) := by decide +kernel
theorem dX11_init_149 : decode cX11_init 149 = .ok (.dup, 1) := by decide +kernel
theorem dX11_init_150 : decode cX11_init 150 = .ok (.invokespecial 84, 3) := by decide +kernel
theorem dX11_init_153 : decode cX11_init 153 = .ok (.putfield 85, 3) := by decide +kernel
theorem dX11_init_156 : decode cX11_init 156 = .ok (.aload_n 0, 1) := by decide +kernel
theorem dX11_init_157 : decode cX11_init 157 = .ok (.new 89, 3) := by decide +kernel
theorem dX11_init_160 : decode cX11_init 160 = .ok (.dup, 1) := by decide +kernel
theorem dX11_init_161 : decode cX11_init 161 = .ok (.invokespecial 91, 3) := by decide +kernel
theorem dX11_init_164 : decode cX11_init 164 = .ok (.putfield 92, 3) := by decide +kernel
theorem dX11_init_167 : decode cX11_init 167 = .ok (.aload_n 0, 1) := by decide +kernel
theorem dX11_init_168 : decode cX11_init 168 = .ok (.new 96, 3) := by decide +kernel
theorem dX11_init_171 : decode cX11_init 171 = .ok (.dup, 1) := by decide +kernel
theorem dX11_init_172 : decode cX11_init 172 = .ok (.invokespecial 98, 3) := by decide +kernel
theorem dX11_init_175 : decode cX11_init 175 = .ok (.putfield 99, 3) := by decide +kernel
theorem dX11_init_178 : decode cX11_init 178 = .ok (.iconst 0, 1) := by decide +kernel
theorem dX11_init_179 : decode cX11_init 179 = .ok (.istore_n 1, 1) := by decide +kernel
theorem dX11_init_180 : decode cX11_init 180 = .ok (.iload_n 1, 1) := by decide +kernel
theorem dX11_init_181 : decode cX11_init 181 = .ok (.iconst 3, 1) := by decide +kernel
theorem dX11_init_182 : decode cX11_init 182 = .ok (.if_icmp .ge 22, 3) := by decide +kernel
theorem dX11_init_185 : decode cX11_init 185 = .ok (.aload_n 0, 1) := by decide +kernel
theorem dX11_init_186 : decode cX11_init 186 = .ok (.getfield 22, 3) := by decide +kernel
theorem dX11_init_189 : decode cX11_init 189 = .ok (.iload_n 1, 1) := by decide +kernel
theorem dX11_init_190 : decode cX11_init 190 = .ok (.new 9, 3) := by decide +kernel
theorem dX11_init_193 : decode cX11_init 193 = .ok (.dup, 1) := by decide +kernel
theorem dX11_init_194 : decode cX11_init 194 = .ok (.invokespecial 11, 3) := by decide +kernel
theorem dX11_init_197 : decode cX11_init 197 = .ok (.aastore, 1) := by decide +kernel
theorem dX11_init_198 : decode cX11_init 198 = .ok (.iinc 1 1, 3) := by decide +kernel
theorem dX11_init_201 : decode cX11_init 201 = .ok (.goto (-21), 3) := by decide +kernel
theorem dX11_init_204 : decode cX11_init 204 = .ok (.return_, 1) := by decide +kernel
theorem dX11_feed_0 : decode cX11_feed 0 = .ok (.aload_n 0, 1) := by decide +kernel
theorem dX11_feed_1 : decode cX11_feed 1 = .ok (.getfield 64, 3) := by decide +kernel
theorem dX11_feed_4 : decode cX11_feed 4 = .ok (.getfield 103, 3) := by decide +kernel
theorem dX11_feed_7 : decode cX11_feed 7 = .ok (.bipush 20, 2) := by decide +kernel
theorem dX11_feed_9 : decode cX11_feed 9 = .ok (.iadd, 1) := by decide +kernel
theorem dX11_feed_10 : decode cX11_feed 10 = .ok (.sipush 500, 3) := by decide +kernel
theorem dX11_feed_13 : decode cX11_feed 13 = .ok (.if_icmp .le 5, 3) := by decide +kernel
theorem dX11_feed_16 : decode cX11_feed 16 = .ok (.iconst (-1), 1) := by decide +kernel
theorem dX11_feed_17 : decode cX11_feed 17 = .ok (.ireturn, 1) := by decide +kernel
theorem dX11_feed_18 : decode cX11_feed 18 = .ok (.aload_n 0, 1) := by decide +kernel
theorem dX11_feed_19 : decode cX11_feed 19 = .ok (.getfield 64, 3) := by decide +kernel
theorem dX11_feed_22 : decode cX11_feed 22 = .ok (.iload_n 1, 1) := by decide +kernel
theorem dX11_feed_23 : decode cX11_feed 23 = .ok (.invokevirtual 107, 3) := by decide +kernel
theorem dX11_feed_26 : decode cX11_feed 26 = .ok (.aload_n 0, 1) := by decide +kernel
theorem dX11_feed_27 : decode cX11_feed 27 = .ok (.getfield 64, 3) := by decide +kernel
theorem dX11_feed_30 : decode cX11_feed 30 = .ok (.iload_n 2, 1) := by decide +kernel
theorem dX11_feed_31 : decode cX11_feed 31 = .ok (.invokevirtual 107, 3) := by decide +kernel
theorem dX11_feed_34 : decode cX11_feed 34 = .ok (.aload_n 0, 1) := by decide +kernel
theorem dX11_feed_35 : decode cX11_feed 35 = .ok (.getfield 64, 3) := by decide +kernel
theorem dX11_feed_38 : decode cX11_feed 38 = .ok (.iload_n 3, 1) := by decide +kernel
theorem dX11_feed_39 : decode cX11_feed 39 = .ok (.invokevirtual 107, 3) := by decide +kernel
theorem dX11_feed_42 : decode cX11_feed 42 = .ok (.aload_n 0, 1) := by decide +kernel
theorem dX11_feed_43 : decode cX11_feed 43 = .ok (.getfield 64, 3) := by decide +kernel
theorem dX11_feed_46 : decode cX11_feed 46 = .ok (.iload 4, 2) := by decide +kernel
theorem dX11_feed_48 : decode cX11_feed 48 = .ok (.invokevirtual 107, 3) := by decide +kernel
theorem dX11_feed_51 : decode cX11_feed 51 = .ok (.aload_n 0, 1) := by decide +kernel
theorem dX11_feed_52 : decode cX11_feed 52 = .ok (.getfield 64, 3) := by decide +kernel
theorem dX11_feed_55 : decode cX11_feed 55 = .ok (.iload 5, 2) := by decide +kernel
theorem dX11_feed_57 : decode cX11_feed 57 = .ok (.invokevirtual 107, 3) := by decide +kernel
theorem dX11_feed_60 : decode cX11_feed 60 = .ok (.aload_n 0, 1) := by decide +kernel
theorem dX11_feed_61 : decode cX11_feed 61 = .ok (.getfield 64, 3) := by decide +kernel
theorem dX11_feed_64 : decode cX11_feed 64 = .ok (.getfield 103, 3) := by decide +kernel
theorem dX11_feed_67 : decode cX11_feed 67 = .ok (.ireturn, 1) := by decide +kernel
theorem dX11_text_0 : decode cX11_text 0 = .ok (.iload_n 1, 1) := by decide +kernel
theorem dX11_text_1 : decode cX11_text 1 = .ok (.ifCond .lt 14, 3) := by decide +kernel
theorem dX11_text_4 : decode cX11_text 4 = .ok (.iload_n 1, 1) := by decide +kernel
theorem dX11_text_5 : decode cX11_text 5 = .ok (.aload_n 0, 1) := by decide +kernel
theorem dX11_text_6 : decode cX11_text 6 = .ok (.getfield 64, 3) := by decide +kernel
theorem dX11_text_9 : decode cX11_text 9 = .ok (.getfield 103, 3) := by decide +kernel
theorem dX11_text_12 : decode cX11_text 12 = .ok (.if_icmp .le 5, 3) := by decide +kernel
theorem dX11_text_15 : decode cX11_text 15 = .ok (.iconst (-1), 1) := by decide +kernel
theorem dX11_text_16 : decode cX11_text 16 = .ok (.ireturn, 1) := by decide +kernel
theorem dX11_text_17 : decode cX11_text 17 = .ok (.aload_n 0, 1) := by decide +kernel
theorem dX11_text_18 : decode cX11_text 18 = .ok (.getfield 64, 3) := by decide +kernel
theorem dX11_text_21 : decode cX11_text 21 = .ok (.iconst 0, 1) := by decide +kernel
theorem dX11_text_22 : decode cX11_text 22 = .ok (.putfield 103, 3) := by decide +kernel
theorem dX11_text_25 : decode cX11_text 25 = .ok (.aload_n 0, 1) := by decide +kernel
theorem dX11_text_26 : decode cX11_text 26 = .ok (.getfield 71, 3) := by decide +kernel
theorem dX11_text_29 : decode cX11_text 29 = .ok (.aload_n 0, 1) := by decide +kernel
theorem dX11_text_30 : decode cX11_text 30 = .ok (.getfield 64, 3) := by decide +kernel
theorem dX11_text_33 : decode cX11_text 33 = .ok (.getfield 111, 3) := by decide +kernel
theorem dX11_text_36 : decode cX11_text 36 = .ok (.iload_n 1, 1) := by decide +kernel
theorem dX11_text_37 : decode cX11_text 37 = .ok (.aload_n 0, 1) := by decide +kernel
theorem dX11_text_38 : decode cX11_text 38 = .ok (.getfield 16, 3) := by decide +kernel
theorem dX11_text_41 : decode cX11_text 41 = .ok (.invokevirtual 115, 3) := by decide +kernel
theorem dX11_text_44 : decode cX11_text 44 = .ok (.istore_n 2, 1) := by decide +kernel
theorem dX11_text_45 : decode cX11_text 45 = .ok (.iload_n 2, 1) := by decide +kernel
theorem dX11_text_46 : decode cX11_text 46 = .ok (.ifCond .ne 14, 3) := by decide +kernel
theorem dX11_text_49 : decode cX11_text 49 = .ok (.aload_n 0, 1) := by decide +kernel
theorem dX11_text_50 : decode cX11_text 50 = .ok (.aload_n 0, 1) := by decide +kernel
theorem dX11_text_51 : decode cX11_text 51 = .ok (.getfield 16, 3) := by decide +kernel
theorem dX11_text_54 : decode cX11_text 54 = .ok (.invokevirtual 119, 3) := by decide +kernel
theorem dX11_text_57 : decode cX11_text 57 = .ok (.goto 7, 3) := by decide +kernel
theorem dX11_text_60 : decode cX11_text 60 = .ok (.bipush (-2), 2) := by decide +kernel
theorem dX11_text_62 : decode cX11_text 62 = .ok (.iload_n 2, 1) := by decide +kernel
theorem dX11_text_63 : decode cX11_text 63 = .ok (.isub, 1) := by decide +kernel
theorem dX11_text_64 : decode cX11_text 64 = .ok (.ireturn, 1) := by decide +kernel
theorem dX11_count_0 : decode cX11_count 0 = .ok (.iload_n 1, 1) := by decide +kernel
theorem dX11_count_1 : decode cX11_count 1 = .ok (.tableswitch 179 0 12 #[67, 75, 83, 91, 100, 109, 118, 130, 142, 150, 155, 163, 171], 67) := by decide +kernel
theorem dX11_count_68 : decode cX11_count 68 = .ok (.aload_n 0, 1) := by decide +kernel
theorem dX11_count_69 : decode cX11_count 69 = .ok (.getfield 12, 3) := by decide +kernel
theorem dX11_count_72 : decode cX11_count 72 = .ok (.getfield 123, 3) := by decide +kernel
theorem dX11_count_75 : decode cX11_count 75 = .ok (.ireturn, 1) := by decide +kernel
theorem dX11_count_76 : decode cX11_count 76 = .ok (.aload_n 0, 1) := by decide +kernel
theorem dX11_count_77 : decode cX11_count 77 = .ok (.getfield 12, 3) := by decide +kernel
theorem dX11_count_80 : decode cX11_count 80 = .ok (.getfield 126, 3) := by decide +kernel
theorem dX11_count_83 : decode cX11_count 83 = .ok (.ireturn, 1) := by decide +kernel
theorem dX11_count_84 : decode cX11_count 84 = .ok (.aload_n 0, 1) := by decide +kernel
theorem dX11_count_85 : decode cX11_count 85 = .ok (.getfield 12, 3) := by decide +kernel
theorem dX11_count_88 : decode cX11_count 88 = .ok (.getfield 129, 3) := by decide +kernel
theorem dX11_count_91 : decode cX11_count 91 = .ok (.ireturn, 1) := by decide +kernel
theorem dX11_count_92 : decode cX11_count 92 = .ok (.aload_n 0, 1) := by decide +kernel
theorem dX11_count_93 : decode cX11_count 93 = .ok (.getfield 12, 3) := by decide +kernel
theorem dX11_count_96 : decode cX11_count 96 = .ok (.iconst 0, 1) := by decide +kernel
theorem dX11_count_97 : decode cX11_count 97 = .ok (.invokevirtual 132, 3) := by decide +kernel
theorem dX11_count_100 : decode cX11_count 100 = .ok (.ireturn, 1) := by decide +kernel
theorem dX11_count_101 : decode cX11_count 101 = .ok (.aload_n 0, 1) := by decide +kernel
theorem dX11_count_102 : decode cX11_count 102 = .ok (.getfield 12, 3) := by decide +kernel
theorem dX11_count_105 : decode cX11_count 105 = .ok (.iconst 1, 1) := by decide +kernel
theorem dX11_count_106 : decode cX11_count 106 = .ok (.invokevirtual 132, 3) := by decide +kernel
theorem dX11_count_109 : decode cX11_count 109 = .ok (.ireturn, 1) := by decide +kernel
theorem dX11_count_110 : decode cX11_count 110 = .ok (.aload_n 0, 1) := by decide +kernel
theorem dX11_count_111 : decode cX11_count 111 = .ok (.getfield 12, 3) := by decide +kernel
theorem dX11_count_114 : decode cX11_count 114 = .ok (.iconst 2, 1) := by decide +kernel
theorem dX11_count_115 : decode cX11_count 115 = .ok (.invokevirtual 132, 3) := by decide +kernel
theorem dX11_count_118 : decode cX11_count 118 = .ok (.ireturn, 1) := by decide +kernel
theorem dX11_count_119 : decode cX11_count 119 = .ok (.aload_n 0, 1) := by decide +kernel
theorem dX11_count_120 : decode cX11_count 120 = .ok (.getfield 40, 3) := by decide +kernel
theorem dX11_count_123 : decode cX11_count 123 = .ok (.aload_n 0, 1) := by decide +kernel
theorem dX11_count_124 : decode cX11_count 124 = .ok (.getfield 12, 3) := by decide +kernel
theorem dX11_count_127 : decode cX11_count 127 = .ok (.invokevirtual 136, 3) := by decide +kernel
theorem dX11_count_130 : decode cX11_count 130 = .ok (.ireturn, 1) := by decide +kernel
theorem dX11_count_131 : decode cX11_count 131 = .ok (.aload_n 0, 1) := by decide +kernel
theorem dX11_count_132 : decode cX11_count 132 = .ok (.getfield 40, 3) := by decide +kernel
theorem dX11_count_135 : decode cX11_count 135 = .ok (.aload_n 0, 1) := by decide +kernel
theorem dX11_count_136 : decode cX11_count 136 = .ok (.getfield 12, 3) := by decide +kernel
theorem dX11_count_139 : decode cX11_count 139 = .ok (.invokevirtual 139, 3) := by decide +kernel
theorem dX11_count_142 : decode cX11_count 142 = .ok (.ireturn, 1) := by decide +kernel
theorem dX11_count_143 : decode cX11_count 143 = .ok (.aload_n 0, 1) := by decide +kernel
theorem dX11_count_144 : decode cX11_count 144 = .ok (.getfield 33, 3) := by decide +kernel
theorem dX11_count_147 : decode cX11_count 147 = .ok (.getfield 142, 3) := by decide +kernel
theorem dX11_count_150 : decode cX11_count 150 = .ok (.ireturn, 1) := by decide +kernel
theorem dX11_count_151 : decode cX11_count 151 = .ok (.aload_n 0, 1) := by decide +kernel
theorem dX11_count_152 : decode cX11_count 152 = .ok (.invokevirtual 145, 3) := by decide +kernel
theorem dX11_count_155 : decode cX11_count 155 = .ok (.ireturn, 1) := by decide +kernel
theorem dX11_count_156 : decode cX11_count 156 = .ok (.aload_n 0, 1) := by decide +kernel
theorem dX11_count_157 : decode cX11_count 157 = .ok (.getfield 64, 3) := by decide +kernel
theorem dX11_count_160 : decode cX11_count 160 = .ok (.getfield 103, 3) := by decide +kernel
theorem dX11_count_163 : decode cX11_count 163 = .ok (.ireturn, 1) := by decide +kernel
theorem dX11_count_164 : decode cX11_count 164 = .ok (.aload_n 0, 1) := by decide +kernel
theorem dX11_count_165 : decode cX11_count 165 = .ok (.getfield 99, 3) := by decide +kernel
theorem dX11_count_168 : decode cX11_count 168 = .ok (.getfield 149, 3) := by decide +kernel
theorem dX11_count_171 : decode cX11_count 171 = .ok (.ireturn, 1) := by decide +kernel
theorem dX11_count_172 : decode cX11_count 172 = .ok (.aload_n 0, 1) := by decide +kernel
theorem dX11_count_173 : decode cX11_count 173 = .ok (.getfield 99, 3) := by decide +kernel
theorem dX11_count_176 : decode cX11_count 176 = .ok (.getfield 152, 3) := by decide +kernel
theorem dX11_count_179 : decode cX11_count 179 = .ok (.ireturn, 1) := by decide +kernel
theorem dX11_count_180 : decode cX11_count 180 = .ok (.iconst (-1), 1) := by decide +kernel
theorem dX11_count_181 : decode cX11_count 181 = .ok (.ireturn, 1) := by decide +kernel
theorem dX11_node_0 : decode cX11_node 0 = .ok (.aload_n 0, 1) := by decide +kernel
theorem dX11_node_1 : decode cX11_node 1 = .ok (.getfield 12, 3) := by decide +kernel
theorem dX11_node_4 : decode cX11_node 4 = .ok (.iload_n 1, 1) := by decide +kernel
theorem dX11_node_5 : decode cX11_node 5 = .ok (.invokevirtual 155, 3) := by decide +kernel
theorem dX11_node_8 : decode cX11_node 8 = .ok (.ifCond .eq 13, 3) := by decide +kernel
theorem dX11_node_11 : decode cX11_node 11 = .ok (.iload_n 2, 1) := by decide +kernel
theorem dX11_node_12 : decode cX11_node 12 = .ok (.ifCond .lt 9, 3) := by decide +kernel
theorem dX11_node_15 : decode cX11_node 15 = .ok (.iload_n 2, 1) := by decide +kernel
theorem dX11_node_16 : decode cX11_node 16 = .ok (.bipush 6, 2) := by decide +kernel
theorem dX11_node_18 : decode cX11_node 18 = .ok (.if_icmp .le 11, 3) := by decide +kernel
theorem dX11_node_21 : decode cX11_node 21 = .ok (.new 159, 3) := by decide +kernel
theorem dX11_node_24 : decode cX11_node 24 = .ok (.dup, 1) := by decide +kernel
theorem dX11_node_25 : decode cX11_node 25 = .ok (.invokespecial 161, 3) := by decide +kernel
theorem dX11_node_28 : decode cX11_node 28 = .ok (.athrow, 1) := by decide +kernel
theorem dX11_node_29 : decode cX11_node 29 = .ok (.iload_n 2, 1) := by decide +kernel
theorem dX11_node_30 : decode cX11_node 30 = .ok (.tableswitch 167 0 5 #[38, 63, 88, 97, 118, 147], 38) := by decide +kernel
theorem dX11_node_68 : decode cX11_node 68 = .ok (.aload_n 0, 1) := by decide +kernel
theorem dX11_node_69 : decode cX11_node 69 = .ok (.getfield 12, 3) := by decide +kernel
theorem dX11_node_72 : decode cX11_node 72 = .ok (.iload_n 1, 1) := by decide +kernel
theorem dX11_node_73 : decode cX11_node 73 = .ok (.invokevirtual 162, 3) := by decide +kernel
theorem dX11_node_76 : decode cX11_node 76 = .ok (.ifCond .eq 7, 3) := by decide +kernel
theorem dX11_node_79 : decode cX11_node 79 = .ok (.iconst (-1), 1) := by decide +kernel
theorem dX11_node_80 : decode cX11_node 80 = .ok (.goto 12, 3) := by decide +kernel
theorem dX11_node_83 : decode cX11_node 83 = .ok (.aload_n 0, 1) := by decide +kernel
theorem dX11_node_84 : decode cX11_node 84 = .ok (.getfield 12, 3) := by decide +kernel
theorem dX11_node_87 : decode cX11_node 87 = .ok (.getfield 165, 3) := by decide +kernel
theorem dX11_node_90 : decode cX11_node 90 = .ok (.iload_n 1, 1) := by decide +kernel
theorem dX11_node_91 : decode cX11_node 91 = .ok (.iaload, 1) := by decide +kernel
theorem dX11_node_92 : decode cX11_node 92 = .ok (.ireturn, 1) := by decide +kernel
theorem dX11_node_93 : decode cX11_node 93 = .ok (.aload_n 0, 1) := by decide +kernel
theorem dX11_node_94 : decode cX11_node 94 = .ok (.getfield 12, 3) := by decide +kernel
theorem dX11_node_97 : decode cX11_node 97 = .ok (.iload_n 1, 1) := by decide +kernel
theorem dX11_node_98 : decode cX11_node 98 = .ok (.invokevirtual 162, 3) := by decide +kernel
theorem dX11_node_101 : decode cX11_node 101 = .ok (.ifCond .eq 7, 3) := by decide +kernel
theorem dX11_node_104 : decode cX11_node 104 = .ok (.iconst (-1), 1) := by decide +kernel
theorem dX11_node_105 : decode cX11_node 105 = .ok (.goto 12, 3) := by decide +kernel
theorem dX11_node_108 : decode cX11_node 108 = .ok (.aload_n 0, 1) := by decide +kernel
theorem dX11_node_109 : decode cX11_node 109 = .ok (.getfield 12, 3) := by decide +kernel
theorem dX11_node_112 : decode cX11_node 112 = .ok (.getfield 168, 3) := by decide +kernel
theorem dX11_node_115 : decode cX11_node 115 = .ok (.iload_n 1, 1) := by decide +kernel
theorem dX11_node_116 : decode cX11_node 116 = .ok (.iaload, 1) := by decide +kernel
theorem dX11_node_117 : decode cX11_node 117 = .ok (.ireturn, 1) := by decide +kernel
theorem dX11_node_118 : decode cX11_node 118 = .ok (.aload_n 0, 1) := by decide +kernel
theorem dX11_node_119 : decode cX11_node 119 = .ok (.getfield 12, 3) := by decide +kernel
theorem dX11_node_122 : decode cX11_node 122 = .ok (.iload_n 1, 1) := by decide +kernel
theorem dX11_node_123 : decode cX11_node 123 = .ok (.invokevirtual 171, 3) := by decide +kernel
theorem dX11_node_126 : decode cX11_node 126 = .ok (.ireturn, 1) := by decide +kernel
theorem dX11_node_127 : decode cX11_node 127 = .ok (.aload_n 0, 1) := by decide +kernel
theorem dX11_node_128 : decode cX11_node 128 = .ok (.getfield 40, 3) := by decide +kernel
theorem dX11_node_131 : decode cX11_node 131 = .ok (.aload_n 0, 1) := by decide +kernel
theorem dX11_node_132 : decode cX11_node 132 = .ok (.getfield 12, 3) := by decide +kernel
theorem dX11_node_135 : decode cX11_node 135 = .ok (.invokevirtual 174, 3) := by decide +kernel
theorem dX11_node_138 : decode cX11_node 138 = .ok (.aload_n 0, 1) := by decide +kernel
theorem dX11_node_139 : decode cX11_node 139 = .ok (.getfield 40, 3) := by decide +kernel
theorem dX11_node_142 : decode cX11_node 142 = .ok (.getfield 178, 3) := by decide +kernel
theorem dX11_node_145 : decode cX11_node 145 = .ok (.iload_n 1, 1) := by decide +kernel
theorem dX11_node_146 : decode cX11_node 146 = .ok (.iaload, 1) := by decide +kernel
theorem dX11_node_147 : decode cX11_node 147 = .ok (.ireturn, 1) := by decide +kernel
theorem dX11_node_148 : decode cX11_node 148 = .ok (.aload_n 0, 1) := by decide +kernel
theorem dX11_node_149 : decode cX11_node 149 = .ok (.getfield 40, 3) := by decide +kernel
theorem dX11_node_152 : decode cX11_node 152 = .ok (.aload_n 0, 1) := by decide +kernel
theorem dX11_node_153 : decode cX11_node 153 = .ok (.getfield 12, 3) := by decide +kernel
theorem dX11_node_156 : decode cX11_node 156 = .ok (.invokevirtual 181, 3) := by decide +kernel
theorem dX11_node_159 : decode cX11_node 159 = .ok (.aload_n 0, 1) := by decide +kernel
theorem dX11_node_160 : decode cX11_node 160 = .ok (.getfield 40, 3) := by decide +kernel
theorem dX11_node_163 : decode cX11_node 163 = .ok (.getfield 184, 3) := by decide +kernel
theorem dX11_node_166 : decode cX11_node 166 = .ok (.iload_n 1, 1) := by decide +kernel
theorem dX11_node_167 : decode cX11_node 167 = .ok (.baload, 1) := by decide +kernel
theorem dX11_node_168 : decode cX11_node 168 = .ok (.ifCond .eq 7, 3) := by decide +kernel
theorem dX11_node_171 : decode cX11_node 171 = .ok (.iconst 1, 1) := by decide +kernel
theorem dX11_node_172 : decode cX11_node 172 = .ok (.goto 4, 3) := by decide +kernel
theorem dX11_node_175 : decode cX11_node 175 = .ok (.iconst 0, 1) := by decide +kernel
theorem dX11_node_176 : decode cX11_node 176 = .ok (.ireturn, 1) := by decide +kernel
theorem dX11_node_177 : decode cX11_node 177 = .ok (.aload_n 0, 1) := by decide +kernel
theorem dX11_node_178 : decode cX11_node 178 = .ok (.getfield 47, 3) := by decide +kernel
theorem dX11_node_181 : decode cX11_node 181 = .ok (.aload_n 0, 1) := by decide +kernel
theorem dX11_node_182 : decode cX11_node 182 = .ok (.getfield 12, 3) := by decide +kernel
theorem dX11_node_185 : decode cX11_node 185 = .ok (.invokevirtual 187, 3) := by decide +kernel
theorem dX11_node_188 : decode cX11_node 188 = .ok (.aload_n 0, 1) := by decide +kernel
theorem dX11_node_189 : decode cX11_node 189 = .ok (.getfield 47, 3) := by decide +kernel
theorem dX11_node_192 : decode cX11_node 192 = .ok (.iload_n 1, 1) := by decide +kernel
theorem dX11_node_193 : decode cX11_node 193 = .ok (.invokevirtual 190, 3) := by decide +kernel
theorem dX11_node_196 : decode cX11_node 196 = .ok (.ireturn, 1) := by decide +kernel
theorem dX11_node_197 : decode cX11_node 197 = .ok (.aload_n 0, 1) := by decide +kernel
theorem dX11_node_198 : decode cX11_node 198 = .ok (.getfield 12, 3) := by decide +kernel
theorem dX11_node_201 : decode cX11_node 201 = .ok (.iload_n 1, 1) := by decide +kernel
theorem dX11_node_202 : decode cX11_node 202 = .ok (.invokevirtual 193, 3) := by decide +kernel
theorem dX11_node_205 : decode cX11_node 205 = .ok (.ireturn, 1) := by decide +kernel
theorem dX11_exponent_0 : decode cX11_exponent 0 = .ok (.aload_n 0, 1) := by decide +kernel
theorem dX11_exponent_1 : decode cX11_exponent 1 = .ok (.getfield 12, 3) := by decide +kernel
theorem dX11_exponent_4 : decode cX11_exponent 4 = .ok (.iload_n 1, 1) := by decide +kernel
theorem dX11_exponent_5 : decode cX11_exponent 5 = .ok (.invokevirtual 155, 3) := by decide +kernel
theorem dX11_exponent_8 : decode cX11_exponent 8 = .ok (.ifCond .eq 18, 3) := by decide +kernel
theorem dX11_exponent_11 : decode cX11_exponent 11 = .ok (.iload_n 2, 1) := by decide +kernel
theorem dX11_exponent_12 : decode cX11_exponent 12 = .ok (.ifCond .lt 14, 3) := by decide +kernel
theorem dX11_exponent_15 : decode cX11_exponent 15 = .ok (.iload_n 2, 1) := by decide +kernel
theorem dX11_exponent_16 : decode cX11_exponent 16 = .ok (.aload_n 0, 1) := by decide +kernel
theorem dX11_exponent_17 : decode cX11_exponent 17 = .ok (.getfield 12, 3) := by decide +kernel
theorem dX11_exponent_20 : decode cX11_exponent 20 = .ok (.getfield 123, 3) := by decide +kernel
theorem dX11_exponent_23 : decode cX11_exponent 23 = .ok (.if_icmp .lt 7, 3) := by decide +kernel
theorem dX11_exponent_26 : decode cX11_exponent 26 = .ok (.ldc2_w 196, 3) := by decide +kernel
theorem dX11_exponent_29 : decode cX11_exponent 29 = .ok (.lreturn, 1) := by decide +kernel
theorem dX11_exponent_30 : decode cX11_exponent 30 = .ok (.aload_n 0, 1) := by decide +kernel
theorem dX11_exponent_31 : decode cX11_exponent 31 = .ok (.getfield 47, 3) := by decide +kernel
theorem dX11_exponent_34 : decode cX11_exponent 34 = .ok (.aload_n 0, 1) := by decide +kernel
theorem dX11_exponent_35 : decode cX11_exponent 35 = .ok (.getfield 12, 3) := by decide +kernel
theorem dX11_exponent_38 : decode cX11_exponent 38 = .ok (.invokevirtual 187, 3) := by decide +kernel
theorem dX11_exponent_41 : decode cX11_exponent 41 = .ok (.aload_n 0, 1) := by decide +kernel
theorem dX11_exponent_42 : decode cX11_exponent 42 = .ok (.getfield 47, 3) := by decide +kernel
theorem dX11_exponent_45 : decode cX11_exponent 45 = .ok (.iload_n 1, 1) := by decide +kernel
theorem dX11_exponent_46 : decode cX11_exponent 46 = .ok (.iload_n 2, 1) := by decide +kernel
theorem dX11_exponent_47 : decode cX11_exponent 47 = .ok (.invokevirtual 198, 3) := by decide +kernel
theorem dX11_exponent_50 : decode cX11_exponent 50 = .ok (.lreturn, 1) := by decide +kernel
theorem dX11_wanted_0 : decode cX11_wanted 0 = .ok (.iload_n 1, 1) := by decide +kernel
theorem dX11_wanted_1 : decode cX11_wanted 1 = .ok (.ifCond .lt 26, 3) := by decide +kernel
theorem dX11_wanted_4 : decode cX11_wanted 4 = .ok (.iload_n 1, 1) := by decide +kernel
theorem dX11_wanted_5 : decode cX11_wanted 5 = .ok (.aload_n 0, 1) := by decide +kernel
theorem dX11_wanted_6 : decode cX11_wanted 6 = .ok (.getfield 12, 3) := by decide +kernel
theorem dX11_wanted_9 : decode cX11_wanted 9 = .ok (.getfield 129, 3) := by decide +kernel
theorem dX11_wanted_12 : decode cX11_wanted 12 = .ok (.if_icmp .ge 15, 3) := by decide +kernel
theorem dX11_wanted_15 : decode cX11_wanted 15 = .ok (.aload_n 0, 1) := by decide +kernel
theorem dX11_wanted_16 : decode cX11_wanted 16 = .ok (.getfield 12, 3) := by decide +kernel
theorem dX11_wanted_19 : decode cX11_wanted 19 = .ok (.getfield 202, 3) := by decide +kernel
theorem dX11_wanted_22 : decode cX11_wanted 22 = .ok (.iload_n 1, 1) := by decide +kernel
theorem dX11_wanted_23 : decode cX11_wanted 23 = .ok (.iaload, 1) := by decide +kernel
theorem dX11_wanted_24 : decode cX11_wanted 24 = .ok (.goto 4, 3) := by decide +kernel
theorem dX11_wanted_27 : decode cX11_wanted 27 = .ok (.iconst (-1), 1) := by decide +kernel
theorem dX11_wanted_28 : decode cX11_wanted 28 = .ok (.ireturn, 1) := by decide +kernel
theorem dX11_run_0 : decode cX11_run 0 = .ok (.aload_n 0, 1) := by decide +kernel
theorem dX11_run_1 : decode cX11_run 1 = .ok (.getfield 12, 3) := by decide +kernel
theorem dX11_run_4 : decode cX11_run 4 = .ok (.iload_n 1, 1) := by decide +kernel
theorem dX11_run_5 : decode cX11_run 5 = .ok (.invokevirtual 155, 3) := by decide +kernel
theorem dX11_run_8 : decode cX11_run 8 = .ok (.ifCond .eq 14, 3) := by decide +kernel
theorem dX11_run_11 : decode cX11_run 11 = .ok (.iload_n 2, 1) := by decide +kernel
theorem dX11_run_12 : decode cX11_run 12 = .ok (.iconst 2, 1) := by decide +kernel
theorem dX11_run_13 : decode cX11_run 13 = .ok (.if_icmp .lt 9, 3) := by decide +kernel
theorem dX11_run_16 : decode cX11_run 16 = .ok (.iload_n 2, 1) := by decide +kernel
theorem dX11_run_17 : decode cX11_run 17 = .ok (.ldc 205, 2) := by decide +kernel
theorem dX11_run_19 : decode cX11_run 19 = .ok (.if_icmp .le 5, 3) := by decide +kernel
theorem dX11_run_22 : decode cX11_run 22 = .ok (.iconst (-1), 1) := by decide +kernel
theorem dX11_run_23 : decode cX11_run 23 = .ok (.ireturn, 1) := by decide +kernel
theorem dX11_run_24 : decode cX11_run 24 = .ok (.aload_n 0, 1) := by decide +kernel
theorem dX11_run_25 : decode cX11_run 25 = .ok (.getfield 58, 3) := by decide +kernel
theorem dX11_run_28 : decode cX11_run 28 = .ok (.iconst 0, 1) := by decide +kernel
theorem dX11_run_29 : decode cX11_run 29 = .ok (.iload_n 3, 1) := by decide +kernel
theorem dX11_run_30 : decode cX11_run 30 = .ok (.iload_n 2, 1) := by decide +kernel
theorem dX11_run_31 : decode cX11_run 31 = .ok (.invokestatic 206, 3) := by decide +kernel
theorem dX11_run_34 : decode cX11_run 34 = .ok (.iastore, 1) := by decide +kernel
theorem dX11_run_35 : decode cX11_run 35 = .ok (.aload_n 0, 1) := by decide +kernel
theorem dX11_run_36 : decode cX11_run 36 = .ok (.getfield 58, 3) := by decide +kernel
theorem dX11_run_39 : decode cX11_run 39 = .ok (.iconst 1, 1) := by decide +kernel
theorem dX11_run_40 : decode cX11_run 40 = .ok (.iload 4, 2) := by decide +kernel
theorem dX11_run_42 : decode cX11_run 42 = .ok (.iload_n 2, 1) := by decide +kernel
theorem dX11_run_43 : decode cX11_run 43 = .ok (.invokestatic 206, 3) := by decide +kernel
theorem dX11_run_46 : decode cX11_run 46 = .ok (.iastore, 1) := by decide +kernel
theorem dX11_run_47 : decode cX11_run 47 = .ok (.aload_n 0, 1) := by decide +kernel
theorem dX11_run_48 : decode cX11_run 48 = .ok (.getfield 58, 3) := by decide +kernel
theorem dX11_run_51 : decode cX11_run 51 = .ok (.iconst 2, 1) := by decide +kernel
theorem dX11_run_52 : decode cX11_run 52 = .ok (.iload 5, 2) := by decide +kernel
theorem dX11_run_54 : decode cX11_run 54 = .ok (.iload_n 2, 1) := by decide +kernel
theorem dX11_run_55 : decode cX11_run 55 = .ok (.invokestatic 206, 3) := by decide +kernel
theorem dX11_run_58 : decode cX11_run 58 = .ok (.iastore, 1) := by decide +kernel
theorem dX11_run_59 : decode cX11_run 59 = .ok (.aload_n 0, 1) := by decide +kernel
theorem dX11_run_60 : decode cX11_run 60 = .ok (.getfield 58, 3) := by decide +kernel
theorem dX11_run_63 : decode cX11_run 63 = .ok (.iconst 3, 1) := by decide +kernel
theorem dX11_run_64 : decode cX11_run 64 = .ok (.iload 6, 2) := by decide +kernel
theorem dX11_run_66 : decode cX11_run 66 = .ok (.iload_n 2, 1) := by decide +kernel
theorem dX11_run_67 : decode cX11_run 67 = .ok (.invokestatic 206, 3) := by decide +kernel
theorem dX11_run_70 : decode cX11_run 70 = .ok (.iastore, 1) := by decide +kernel
theorem dX11_run_71 : decode cX11_run 71 = .ok (.aload_n 0, 1) := by decide +kernel
theorem dX11_run_72 : decode cX11_run 72 = .ok (.getfield 12, 3) := by decide +kernel
theorem dX11_run_75 : decode cX11_run 75 = .ok (.getfield 123, 3) := by decide +kernel
theorem dX11_run_78 : decode cX11_run 78 = .ok (.istore 7, 2) := by decide +kernel
theorem dX11_run_80 : decode cX11_run 80 = .ok (.iload 7, 2) := by decide +kernel
theorem dX11_run_82 : decode cX11_run 82 = .ok (.iload_n 1, 1) := by decide +kernel
theorem dX11_run_83 : decode cX11_run 83 = .ok (.if_icmp .gt 57, 3) := by decide +kernel
theorem dX11_run_86 : decode cX11_run 86 = .ok (.aload_n 0, 1) := by decide +kernel
theorem dX11_run_87 : decode cX11_run 87 = .ok (.getfield 58, 3) := by decide +kernel
theorem dX11_run_90 : decode cX11_run 90 = .ok (.aload_n 0, 1) := by decide +kernel
theorem dX11_run_91 : decode cX11_run 91 = .ok (.getfield 12, 3) := by decide +kernel
theorem dX11_run_94 : decode cX11_run 94 = .ok (.getfield 165, 3) := by decide +kernel
theorem dX11_run_97 : decode cX11_run 97 = .ok (.iload 7, 2) := by decide +kernel
theorem dX11_run_99 : decode cX11_run 99 = .ok (.iaload, 1) := by decide +kernel
theorem dX11_run_100 : decode cX11_run 100 = .ok (.iaload, 1) := by decide +kernel
theorem dX11_run_101 : decode cX11_run 101 = .ok (.i2l, 1) := by decide +kernel
theorem dX11_run_102 : decode cX11_run 102 = .ok (.aload_n 0, 1) := by decide +kernel
theorem dX11_run_103 : decode cX11_run 103 = .ok (.getfield 58, 3) := by decide +kernel
theorem dX11_run_106 : decode cX11_run 106 = .ok (.aload_n 0, 1) := by decide +kernel
theorem dX11_run_107 : decode cX11_run 107 = .ok (.getfield 12, 3) := by decide +kernel
theorem dX11_run_110 : decode cX11_run 110 = .ok (.getfield 168, 3) := by decide +kernel
theorem dX11_run_113 : decode cX11_run 113 = .ok (.iload 7, 2) := by decide +kernel
theorem dX11_run_115 : decode cX11_run 115 = .ok (.iaload, 1) := by decide +kernel
theorem dX11_run_116 : decode cX11_run 116 = .ok (.iaload, 1) := by decide +kernel
theorem dX11_run_117 : decode cX11_run 117 = .ok (.i2l, 1) := by decide +kernel
theorem dX11_run_118 : decode cX11_run 118 = .ok (.lmul, 1) := by decide +kernel
theorem dX11_run_119 : decode cX11_run 119 = .ok (.lstore 8, 2) := by decide +kernel
theorem dX11_run_121 : decode cX11_run 121 = .ok (.aload_n 0, 1) := by decide +kernel
theorem dX11_run_122 : decode cX11_run 122 = .ok (.getfield 58, 3) := by decide +kernel
theorem dX11_run_125 : decode cX11_run 125 = .ok (.iload 7, 2) := by decide +kernel
theorem dX11_run_127 : decode cX11_run 127 = .ok (.lload 8, 2) := by decide +kernel
theorem dX11_run_129 : decode cX11_run 129 = .ok (.iload_n 2, 1) := by decide +kernel
theorem dX11_run_130 : decode cX11_run 130 = .ok (.i2l, 1) := by decide +kernel
theorem dX11_run_131 : decode cX11_run 131 = .ok (.lrem, 1) := by decide +kernel
theorem dX11_run_132 : decode cX11_run 132 = .ok (.l2i, 1) := by decide +kernel
theorem dX11_run_133 : decode cX11_run 133 = .ok (.iastore, 1) := by decide +kernel
theorem dX11_run_134 : decode cX11_run 134 = .ok (.iinc 7 1, 3) := by decide +kernel
theorem dX11_run_137 : decode cX11_run 137 = .ok (.goto (-57), 3) := by decide +kernel
theorem dX11_run_140 : decode cX11_run 140 = .ok (.aload_n 0, 1) := by decide +kernel
theorem dX11_run_141 : decode cX11_run 141 = .ok (.getfield 58, 3) := by decide +kernel
theorem dX11_run_144 : decode cX11_run 144 = .ok (.iload_n 1, 1) := by decide +kernel
theorem dX11_run_145 : decode cX11_run 145 = .ok (.iaload, 1) := by decide +kernel
theorem dX11_run_146 : decode cX11_run 146 = .ok (.ireturn, 1) := by decide +kernel
theorem dX11_add_0 : decode cX11_add 0 = .ok (.aload_n 0, 1) := by decide +kernel
theorem dX11_add_1 : decode cX11_add 1 = .ok (.getfield 12, 3) := by decide +kernel
theorem dX11_add_4 : decode cX11_add 4 = .ok (.iload_n 1, 1) := by decide +kernel
theorem dX11_add_5 : decode cX11_add 5 = .ok (.invokevirtual 155, 3) := by decide +kernel
theorem dX11_add_8 : decode cX11_add 8 = .ok (.ifCond .eq 26, 3) := by decide +kernel
theorem dX11_add_11 : decode cX11_add 11 = .ok (.aload_n 0, 1) := by decide +kernel
theorem dX11_add_12 : decode cX11_add 12 = .ok (.getfield 12, 3) := by decide +kernel
theorem dX11_add_15 : decode cX11_add 15 = .ok (.iload_n 2, 1) := by decide +kernel
theorem dX11_add_16 : decode cX11_add 16 = .ok (.invokevirtual 155, 3) := by decide +kernel
theorem dX11_add_19 : decode cX11_add 19 = .ok (.ifCond .eq 15, 3) := by decide +kernel
theorem dX11_add_22 : decode cX11_add 22 = .ok (.aload_n 0, 1) := by decide +kernel
theorem dX11_add_23 : decode cX11_add 23 = .ok (.getfield 12, 3) := by decide +kernel
theorem dX11_add_26 : decode cX11_add 26 = .ok (.getfield 126, 3) := by decide +kernel
theorem dX11_add_29 : decode cX11_add 29 = .ok (.bipush 60, 2) := by decide +kernel
theorem dX11_add_31 : decode cX11_add 31 = .ok (.if_icmp .lt 5, 3) := by decide +kernel
theorem dX11_add_34 : decode cX11_add 34 = .ok (.iconst (-1), 1) := by decide +kernel
theorem dX11_add_35 : decode cX11_add 35 = .ok (.ireturn, 1) := by decide +kernel
theorem dX11_add_36 : decode cX11_add 36 = .ok (.aload_n 0, 1) := by decide +kernel
theorem dX11_add_37 : decode cX11_add 37 = .ok (.getfield 47, 3) := by decide +kernel
theorem dX11_add_40 : decode cX11_add 40 = .ok (.aload_n 0, 1) := by decide +kernel
theorem dX11_add_41 : decode cX11_add 41 = .ok (.getfield 12, 3) := by decide +kernel
theorem dX11_add_44 : decode cX11_add 44 = .ok (.invokevirtual 187, 3) := by decide +kernel
theorem dX11_add_47 : decode cX11_add 47 = .ok (.aload_n 0, 1) := by decide +kernel
theorem dX11_add_48 : decode cX11_add 48 = .ok (.getfield 47, 3) := by decide +kernel
theorem dX11_add_51 : decode cX11_add 51 = .ok (.iload_n 1, 1) := by decide +kernel
theorem dX11_add_52 : decode cX11_add 52 = .ok (.iload_n 2, 1) := by decide +kernel
theorem dX11_add_53 : decode cX11_add 53 = .ok (.invokevirtual 212, 3) := by decide +kernel
theorem dX11_add_56 : decode cX11_add 56 = .ok (.ifCond .ne 6, 3) := by decide +kernel
theorem dX11_add_59 : decode cX11_add 59 = .ok (.bipush (-2), 2) := by decide +kernel
theorem dX11_add_61 : decode cX11_add 61 = .ok (.ireturn, 1) := by decide +kernel
theorem dX11_add_62 : decode cX11_add 62 = .ok (.aload_n 0, 1) := by decide +kernel
theorem dX11_add_63 : decode cX11_add 63 = .ok (.getfield 33, 3) := by decide +kernel
theorem dX11_add_66 : decode cX11_add 66 = .ok (.aload_n 0, 1) := by decide +kernel
theorem dX11_add_67 : decode cX11_add 67 = .ok (.getfield 12, 3) := by decide +kernel
theorem dX11_add_70 : decode cX11_add 70 = .ok (.invokevirtual 216, 3) := by decide +kernel
theorem dX11_add_73 : decode cX11_add 73 = .ok (.aload_n 0, 1) := by decide +kernel
theorem dX11_add_74 : decode cX11_add 74 = .ok (.getfield 12, 3) := by decide +kernel
theorem dX11_add_77 : decode cX11_add 77 = .ok (.iload_n 1, 1) := by decide +kernel
theorem dX11_add_78 : decode cX11_add 78 = .ok (.iload_n 2, 1) := by decide +kernel
theorem dX11_add_79 : decode cX11_add 79 = .ok (.invokevirtual 219, 3) := by decide +kernel
theorem dX11_add_82 : decode cX11_add 82 = .ok (.ireturn, 1) := by decide +kernel
theorem dX11_want_0 : decode cX11_want 0 = .ok (.iload_n 1, 1) := by decide +kernel
theorem dX11_want_1 : decode cX11_want 1 = .ok (.ifCond .lt 30, 3) := by decide +kernel
theorem dX11_want_4 : decode cX11_want 4 = .ok (.iload_n 1, 1) := by decide +kernel
theorem dX11_want_5 : decode cX11_want 5 = .ok (.aload_n 0, 1) := by decide +kernel
theorem dX11_want_6 : decode cX11_want 6 = .ok (.getfield 12, 3) := by decide +kernel
theorem dX11_want_9 : decode cX11_want 9 = .ok (.getfield 129, 3) := by decide +kernel
theorem dX11_want_12 : decode cX11_want 12 = .ok (.if_icmp .gt 19, 3) := by decide +kernel
theorem dX11_want_15 : decode cX11_want 15 = .ok (.iload_n 1, 1) := by decide +kernel
theorem dX11_want_16 : decode cX11_want 16 = .ok (.iconst 4, 1) := by decide +kernel
theorem dX11_want_17 : decode cX11_want 17 = .ok (.if_icmp .ge 14, 3) := by decide +kernel
theorem dX11_want_20 : decode cX11_want 20 = .ok (.aload_n 0, 1) := by decide +kernel
theorem dX11_want_21 : decode cX11_want 21 = .ok (.getfield 12, 3) := by decide +kernel
theorem dX11_want_24 : decode cX11_want 24 = .ok (.iload_n 2, 1) := by decide +kernel
theorem dX11_want_25 : decode cX11_want 25 = .ok (.invokevirtual 155, 3) := by decide +kernel
theorem dX11_want_28 : decode cX11_want 28 = .ok (.ifCond .ne 5, 3) := by decide +kernel
theorem dX11_want_31 : decode cX11_want 31 = .ok (.iconst (-1), 1) := by decide +kernel
theorem dX11_want_32 : decode cX11_want 32 = .ok (.ireturn, 1) := by decide +kernel
theorem dX11_want_33 : decode cX11_want 33 = .ok (.aload_n 0, 1) := by decide +kernel
theorem dX11_want_34 : decode cX11_want 34 = .ok (.getfield 33, 3) := by decide +kernel
theorem dX11_want_37 : decode cX11_want 37 = .ok (.aload_n 0, 1) := by decide +kernel
theorem dX11_want_38 : decode cX11_want 38 = .ok (.getfield 12, 3) := by decide +kernel
theorem dX11_want_41 : decode cX11_want 41 = .ok (.invokevirtual 216, 3) := by decide +kernel
theorem dX11_want_44 : decode cX11_want 44 = .ok (.aload_n 0, 1) := by decide +kernel
theorem dX11_want_45 : decode cX11_want 45 = .ok (.getfield 12, 3) := by decide +kernel
theorem dX11_want_48 : decode cX11_want 48 = .ok (.getfield 202, 3) := by decide +kernel
theorem dX11_want_51 : decode cX11_want 51 = .ok (.iload_n 1, 1) := by decide +kernel
theorem dX11_want_52 : decode cX11_want 52 = .ok (.iload_n 2, 1) := by decide +kernel
theorem dX11_want_53 : decode cX11_want 53 = .ok (.iastore, 1) := by decide +kernel
theorem dX11_want_54 : decode cX11_want 54 = .ok (.aload_n 0, 1) := by decide +kernel
theorem dX11_want_55 : decode cX11_want 55 = .ok (.getfield 12, 3) := by decide +kernel
theorem dX11_want_58 : decode cX11_want 58 = .ok (.aload_n 0, 1) := by decide +kernel
theorem dX11_want_59 : decode cX11_want 59 = .ok (.getfield 12, 3) := by decide +kernel
theorem dX11_want_62 : decode cX11_want 62 = .ok (.getfield 129, 3) := by decide +kernel
theorem dX11_want_65 : decode cX11_want 65 = .ok (.iload_n 1, 1) := by decide +kernel
theorem dX11_want_66 : decode cX11_want 66 = .ok (.iconst 1, 1) := by decide +kernel
theorem dX11_want_67 : decode cX11_want 67 = .ok (.iadd, 1) := by decide +kernel
theorem dX11_want_68 : decode cX11_want 68 = .ok (.invokestatic 221, 3) := by decide +kernel
theorem dX11_want_71 : decode cX11_want 71 = .ok (.putfield 129, 3) := by decide +kernel
theorem dX11_want_74 : decode cX11_want 74 = .ok (.aload_n 0, 1) := by decide +kernel
theorem dX11_want_75 : decode cX11_want 75 = .ok (.getfield 12, 3) := by decide +kernel
theorem dX11_want_78 : decode cX11_want 78 = .ok (.getfield 129, 3) := by decide +kernel
theorem dX11_want_81 : decode cX11_want 81 = .ok (.ireturn, 1) := by decide +kernel
theorem dX11_prune_0 : decode cX11_prune 0 = .ok (.aload_n 0, 1) := by decide +kernel
theorem dX11_prune_1 : decode cX11_prune 1 = .ok (.getfield 40, 3) := by decide +kernel
theorem dX11_prune_4 : decode cX11_prune 4 = .ok (.aload_n 0, 1) := by decide +kernel
theorem dX11_prune_5 : decode cX11_prune 5 = .ok (.getfield 12, 3) := by decide +kernel
theorem dX11_prune_8 : decode cX11_prune 8 = .ok (.invokevirtual 181, 3) := by decide +kernel
theorem dX11_prune_11 : decode cX11_prune 11 = .ok (.iconst 0, 1) := by decide +kernel
theorem dX11_prune_12 : decode cX11_prune 12 = .ok (.istore_n 1, 1) := by decide +kernel
theorem dX11_prune_13 : decode cX11_prune 13 = .ok (.iload_n 1, 1) := by decide +kernel
theorem dX11_prune_14 : decode cX11_prune 14 = .ok (.aload_n 0, 1) := by decide +kernel
theorem dX11_prune_15 : decode cX11_prune 15 = .ok (.getfield 12, 3) := by decide +kernel
theorem dX11_prune_18 : decode cX11_prune 18 = .ok (.invokevirtual 224, 3) := by decide +kernel
theorem dX11_prune_21 : decode cX11_prune 21 = .ok (.if_icmp .ge 43, 3) := by decide +kernel
theorem dX11_prune_24 : decode cX11_prune 24 = .ok (.aload_n 0, 1) := by decide +kernel
theorem dX11_prune_25 : decode cX11_prune 25 = .ok (.getfield 54, 3) := by decide +kernel
theorem dX11_prune_28 : decode cX11_prune 28 = .ok (.iload_n 1, 1) := by decide +kernel
theorem dX11_prune_29 : decode cX11_prune 29 = .ok (.aload_n 0, 1) := by decide +kernel
theorem dX11_prune_30 : decode cX11_prune 30 = .ok (.getfield 12, 3) := by decide +kernel
theorem dX11_prune_33 : decode cX11_prune 33 = .ok (.iload_n 1, 1) := by decide +kernel
theorem dX11_prune_34 : decode cX11_prune 34 = .ok (.invokevirtual 162, 3) := by decide +kernel
theorem dX11_prune_37 : decode cX11_prune 37 = .ok (.ifCond .ne 15, 3) := by decide +kernel
theorem dX11_prune_40 : decode cX11_prune 40 = .ok (.aload_n 0, 1) := by decide +kernel
theorem dX11_prune_41 : decode cX11_prune 41 = .ok (.getfield 40, 3) := by decide +kernel
theorem dX11_prune_44 : decode cX11_prune 44 = .ok (.getfield 184, 3) := by decide +kernel
theorem dX11_prune_47 : decode cX11_prune 47 = .ok (.iload_n 1, 1) := by decide +kernel
theorem dX11_prune_48 : decode cX11_prune 48 = .ok (.baload, 1) := by decide +kernel
theorem dX11_prune_49 : decode cX11_prune 49 = .ok (.ifCond .eq 7, 3) := by decide +kernel
theorem dX11_prune_52 : decode cX11_prune 52 = .ok (.iload_n 1, 1) := by decide +kernel
theorem dX11_prune_53 : decode cX11_prune 53 = .ok (.goto 4, 3) := by decide +kernel
theorem dX11_prune_56 : decode cX11_prune 56 = .ok (.iconst (-1), 1) := by decide +kernel
theorem dX11_prune_57 : decode cX11_prune 57 = .ok (.iastore, 1) := by decide +kernel
theorem dX11_prune_58 : decode cX11_prune 58 = .ok (.iinc 1 1, 3) := by decide +kernel
theorem dX11_prune_61 : decode cX11_prune 61 = .ok (.goto (-48), 3) := by decide +kernel
theorem dX11_prune_64 : decode cX11_prune 64 = .ok (.aload_n 0, 1) := by decide +kernel
theorem dX11_prune_65 : decode cX11_prune 65 = .ok (.invokevirtual 227, 3) := by decide +kernel
theorem dX11_prune_68 : decode cX11_prune 68 = .ok (.ireturn, 1) := by decide +kernel
theorem dX11_fold_0 : decode cX11_fold 0 = .ok (.aload_n 0, 1) := by decide +kernel
theorem dX11_fold_1 : decode cX11_fold 1 = .ok (.getfield 47, 3) := by decide +kernel
theorem dX11_fold_4 : decode cX11_fold 4 = .ok (.aload_n 0, 1) := by decide +kernel
theorem dX11_fold_5 : decode cX11_fold 5 = .ok (.getfield 12, 3) := by decide +kernel
theorem dX11_fold_8 : decode cX11_fold 8 = .ok (.invokevirtual 187, 3) := by decide +kernel
theorem dX11_fold_11 : decode cX11_fold 11 = .ok (.iconst 0, 1) := by decide +kernel
theorem dX11_fold_12 : decode cX11_fold 12 = .ok (.istore_n 1, 1) := by decide +kernel
theorem dX11_fold_13 : decode cX11_fold 13 = .ok (.iload_n 1, 1) := by decide +kernel
theorem dX11_fold_14 : decode cX11_fold 14 = .ok (.aload_n 0, 1) := by decide +kernel
theorem dX11_fold_15 : decode cX11_fold 15 = .ok (.getfield 12, 3) := by decide +kernel
theorem dX11_fold_18 : decode cX11_fold 18 = .ok (.invokevirtual 224, 3) := by decide +kernel
theorem dX11_fold_21 : decode cX11_fold 21 = .ok (.if_icmp .ge 23, 3) := by decide +kernel
theorem dX11_fold_24 : decode cX11_fold 24 = .ok (.aload_n 0, 1) := by decide +kernel
theorem dX11_fold_25 : decode cX11_fold 25 = .ok (.getfield 54, 3) := by decide +kernel
theorem dX11_fold_28 : decode cX11_fold 28 = .ok (.iload_n 1, 1) := by decide +kernel
theorem dX11_fold_29 : decode cX11_fold 29 = .ok (.aload_n 0, 1) := by decide +kernel
theorem dX11_fold_30 : decode cX11_fold 30 = .ok (.getfield 47, 3) := by decide +kernel
theorem dX11_fold_33 : decode cX11_fold 33 = .ok (.iload_n 1, 1) := by decide +kernel
theorem dX11_fold_34 : decode cX11_fold 34 = .ok (.invokevirtual 190, 3) := by decide +kernel
theorem dX11_fold_37 : decode cX11_fold 37 = .ok (.iastore, 1) := by decide +kernel
theorem dX11_fold_38 : decode cX11_fold 38 = .ok (.iinc 1 1, 3) := by decide +kernel
theorem dX11_fold_41 : decode cX11_fold 41 = .ok (.goto (-28), 3) := by decide +kernel
theorem dX11_fold_44 : decode cX11_fold 44 = .ok (.aload_n 0, 1) := by decide +kernel
theorem dX11_fold_45 : decode cX11_fold 45 = .ok (.invokevirtual 227, 3) := by decide +kernel
theorem dX11_fold_48 : decode cX11_fold 48 = .ok (.ireturn, 1) := by decide +kernel
theorem dX11_dual_0 : decode cX11_dual 0 = .ok (.aload_n 0, 1) := by decide +kernel
theorem dX11_dual_1 : decode cX11_dual 1 = .ok (.getfield 78, 3) := by decide +kernel
theorem dX11_dual_4 : decode cX11_dual 4 = .ok (.aload_n 0, 1) := by decide +kernel
theorem dX11_dual_5 : decode cX11_dual 5 = .ok (.getfield 12, 3) := by decide +kernel
theorem dX11_dual_8 : decode cX11_dual 8 = .ok (.aload_n 0, 1) := by decide +kernel
theorem dX11_dual_9 : decode cX11_dual 9 = .ok (.getfield 16, 3) := by decide +kernel
theorem dX11_dual_12 : decode cX11_dual 12 = .ok (.invokevirtual 230, 3) := by decide +kernel
theorem dX11_dual_15 : decode cX11_dual 15 = .ok (.ifCond .eq 14, 3) := by decide +kernel
theorem dX11_dual_18 : decode cX11_dual 18 = .ok (.aload_n 0, 1) := by decide +kernel
theorem dX11_dual_19 : decode cX11_dual 19 = .ok (.aload_n 0, 1) := by decide +kernel
theorem dX11_dual_20 : decode cX11_dual 20 = .ok (.getfield 16, 3) := by decide +kernel
theorem dX11_dual_23 : decode cX11_dual 23 = .ok (.invokevirtual 119, 3) := by decide +kernel
theorem dX11_dual_26 : decode cX11_dual 26 = .ok (.goto 4, 3) := by decide +kernel
theorem dX11_dual_29 : decode cX11_dual 29 = .ok (.iconst (-1), 1) := by decide +kernel
theorem dX11_dual_30 : decode cX11_dual 30 = .ok (.ireturn, 1) := by decide +kernel
theorem dX11_dualLong_0 : decode cX11_dualLong 0 = .ok (.aload_n 0, 1) := by decide +kernel
theorem dX11_dualLong_1 : decode cX11_dualLong 1 = .ok (.getfield 78, 3) := by decide +kernel
theorem dX11_dualLong_4 : decode cX11_dualLong 4 = .ok (.aload_n 0, 1) := by decide +kernel
theorem dX11_dualLong_5 : decode cX11_dualLong 5 = .ok (.getfield 12, 3) := by decide +kernel
theorem dX11_dualLong_8 : decode cX11_dualLong 8 = .ok (.aload_n 0, 1) := by decide +kernel
theorem dX11_dualLong_9 : decode cX11_dualLong 9 = .ok (.getfield 16, 3) := by decide +kernel
theorem dX11_dualLong_12 : decode cX11_dualLong 12 = .ok (.invokevirtual 230, 3) := by decide +kernel
theorem dX11_dualLong_15 : decode cX11_dualLong 15 = .ok (.ifCond .eq 13, 3) := by decide +kernel
theorem dX11_dualLong_18 : decode cX11_dualLong 18 = .ok (.aload_n 0, 1) := by decide +kernel
theorem dX11_dualLong_19 : decode cX11_dualLong 19 = .ok (.getfield 16, 3) := by decide +kernel
theorem dX11_dualLong_22 : decode cX11_dualLong 22 = .ok (.getfield 126, 3) := by decide +kernel
theorem dX11_dualLong_25 : decode cX11_dualLong 25 = .ok (.goto 4, 3) := by decide +kernel
theorem dX11_dualLong_28 : decode cX11_dualLong 28 = .ok (.iconst (-1), 1) := by decide +kernel
theorem dX11_dualLong_29 : decode cX11_dualLong 29 = .ok (.ireturn, 1) := by decide +kernel
theorem dX11_sequence_0 : decode cX11_sequence 0 = .ok (.aload_n 0, 1) := by decide +kernel
theorem dX11_sequence_1 : decode cX11_sequence 1 = .ok (.getfield 85, 3) := by decide +kernel
theorem dX11_sequence_4 : decode cX11_sequence 4 = .ok (.iload_n 2, 1) := by decide +kernel
theorem dX11_sequence_5 : decode cX11_sequence 5 = .ok (.iload_n 3, 1) := by decide +kernel
theorem dX11_sequence_6 : decode cX11_sequence 6 = .ok (.iload 4, 2) := by decide +kernel
theorem dX11_sequence_8 : decode cX11_sequence 8 = .ok (.iload 5, 2) := by decide +kernel
theorem dX11_sequence_10 : decode cX11_sequence 10 = .ok (.invokevirtual 234, 3) := by decide +kernel
theorem dX11_sequence_13 : decode cX11_sequence 13 = .ok (.aload_n 0, 1) := by decide +kernel
theorem dX11_sequence_14 : decode cX11_sequence 14 = .ok (.getfield 85, 3) := by decide +kernel
theorem dX11_sequence_17 : decode cX11_sequence 17 = .ok (.iload_n 1, 1) := by decide +kernel
theorem dX11_sequence_18 : decode cX11_sequence 18 = .ok (.aload_n 0, 1) := by decide +kernel
theorem dX11_sequence_19 : decode cX11_sequence 19 = .ok (.getfield 16, 3) := by decide +kernel
theorem dX11_sequence_22 : decode cX11_sequence 22 = .ok (.invokevirtual 238, 3) := by decide +kernel
theorem dX11_sequence_25 : decode cX11_sequence 25 = .ok (.ifCond .eq 14, 3) := by decide +kernel
theorem dX11_sequence_28 : decode cX11_sequence 28 = .ok (.aload_n 0, 1) := by decide +kernel
theorem dX11_sequence_29 : decode cX11_sequence 29 = .ok (.aload_n 0, 1) := by decide +kernel
theorem dX11_sequence_30 : decode cX11_sequence 30 = .ok (.getfield 16, 3) := by decide +kernel
theorem dX11_sequence_33 : decode cX11_sequence 33 = .ok (.invokevirtual 119, 3) := by decide +kernel
theorem dX11_sequence_36 : decode cX11_sequence 36 = .ok (.goto 4, 3) := by decide +kernel
theorem dX11_sequence_39 : decode cX11_sequence 39 = .ok (.iconst (-1), 1) := by decide +kernel
theorem dX11_sequence_40 : decode cX11_sequence 40 = .ok (.ireturn, 1) := by decide +kernel
theorem dX11_vector_0 : decode cX11_vector 0 = .ok (.aload_n 0, 1) := by decide +kernel
theorem dX11_vector_1 : decode cX11_vector 1 = .ok (.getfield 85, 3) := by decide +kernel
theorem dX11_vector_4 : decode cX11_vector 4 = .ok (.iload_n 2, 1) := by decide +kernel
theorem dX11_vector_5 : decode cX11_vector 5 = .ok (.iload_n 3, 1) := by decide +kernel
theorem dX11_vector_6 : decode cX11_vector 6 = .ok (.iload 4, 2) := by decide +kernel
theorem dX11_vector_8 : decode cX11_vector 8 = .ok (.iload 5, 2) := by decide +kernel
theorem dX11_vector_10 : decode cX11_vector 10 = .ok (.invokevirtual 234, 3) := by decide +kernel
theorem dX11_vector_13 : decode cX11_vector 13 = .ok (.aload_n 0, 1) := by decide +kernel
theorem dX11_vector_14 : decode cX11_vector 14 = .ok (.getfield 85, 3) := by decide +kernel
theorem dX11_vector_17 : decode cX11_vector 17 = .ok (.iload_n 1, 1) := by decide +kernel
theorem dX11_vector_18 : decode cX11_vector 18 = .ok (.aload_n 0, 1) := by decide +kernel
theorem dX11_vector_19 : decode cX11_vector 19 = .ok (.getfield 19, 3) := by decide +kernel
theorem dX11_vector_22 : decode cX11_vector 22 = .ok (.invokevirtual 238, 3) := by decide +kernel
theorem dX11_vector_25 : decode cX11_vector 25 = .ok (.ifCond .eq 32, 3) := by decide +kernel
theorem dX11_vector_28 : decode cX11_vector 28 = .ok (.aload_n 0, 1) := by decide +kernel
theorem dX11_vector_29 : decode cX11_vector 29 = .ok (.getfield 78, 3) := by decide +kernel
theorem dX11_vector_32 : decode cX11_vector 32 = .ok (.aload_n 0, 1) := by decide +kernel
theorem dX11_vector_33 : decode cX11_vector 33 = .ok (.getfield 19, 3) := by decide +kernel
theorem dX11_vector_36 : decode cX11_vector 36 = .ok (.aload_n 0, 1) := by decide +kernel
theorem dX11_vector_37 : decode cX11_vector 37 = .ok (.getfield 16, 3) := by decide +kernel
theorem dX11_vector_40 : decode cX11_vector 40 = .ok (.invokevirtual 230, 3) := by decide +kernel
theorem dX11_vector_43 : decode cX11_vector 43 = .ok (.ifCond .eq 14, 3) := by decide +kernel
theorem dX11_vector_46 : decode cX11_vector 46 = .ok (.aload_n 0, 1) := by decide +kernel
theorem dX11_vector_47 : decode cX11_vector 47 = .ok (.aload_n 0, 1) := by decide +kernel
theorem dX11_vector_48 : decode cX11_vector 48 = .ok (.getfield 16, 3) := by decide +kernel
theorem dX11_vector_51 : decode cX11_vector 51 = .ok (.invokevirtual 119, 3) := by decide +kernel
theorem dX11_vector_54 : decode cX11_vector 54 = .ok (.goto 4, 3) := by decide +kernel
theorem dX11_vector_57 : decode cX11_vector 57 = .ok (.iconst (-1), 1) := by decide +kernel
theorem dX11_vector_58 : decode cX11_vector 58 = .ok (.ireturn, 1) := by decide +kernel
theorem dX11_save_0 : decode cX11_save 0 = .ok (.iload_n 1, 1) := by decide +kernel
theorem dX11_save_1 : decode cX11_save 1 = .ok (.ifCond .lt 8, 3) := by decide +kernel
theorem dX11_save_4 : decode cX11_save 4 = .ok (.iload_n 1, 1) := by decide +kernel
theorem dX11_save_5 : decode cX11_save 5 = .ok (.iconst 3, 1) := by decide +kernel
theorem dX11_save_6 : decode cX11_save 6 = .ok (.if_icmp .lt 5, 3) := by decide +kernel
theorem dX11_save_9 : decode cX11_save 9 = .ok (.iconst (-1), 1) := by decide +kernel
theorem dX11_save_10 : decode cX11_save 10 = .ok (.ireturn, 1) := by decide +kernel
theorem dX11_save_11 : decode cX11_save 11 = .ok (.aload_n 0, 1) := by decide +kernel
theorem dX11_save_12 : decode cX11_save 12 = .ok (.getfield 22, 3) := by decide +kernel
theorem dX11_save_15 : decode cX11_save 15 = .ok (.iload_n 1, 1) := by decide +kernel
theorem dX11_save_16 : decode cX11_save 16 = .ok (.aaload, 1) := by decide +kernel
theorem dX11_save_17 : decode cX11_save 17 = .ok (.aload_n 0, 1) := by decide +kernel
theorem dX11_save_18 : decode cX11_save 18 = .ok (.getfield 12, 3) := by decide +kernel
theorem dX11_save_21 : decode cX11_save 21 = .ok (.invokevirtual 242, 3) := by decide +kernel
theorem dX11_save_24 : decode cX11_save 24 = .ok (.aload_n 0, 1) := by decide +kernel
theorem dX11_save_25 : decode cX11_save 25 = .ok (.getfield 26, 3) := by decide +kernel
theorem dX11_save_28 : decode cX11_save 28 = .ok (.iload_n 1, 1) := by decide +kernel
theorem dX11_save_29 : decode cX11_save 29 = .ok (.iconst 1, 1) := by decide +kernel
theorem dX11_save_30 : decode cX11_save 30 = .ok (.bastore, 1) := by decide +kernel
theorem dX11_save_31 : decode cX11_save 31 = .ok (.aload_n 0, 1) := by decide +kernel
theorem dX11_save_32 : decode cX11_save 32 = .ok (.getfield 12, 3) := by decide +kernel
theorem dX11_save_35 : decode cX11_save 35 = .ok (.getfield 126, 3) := by decide +kernel
theorem dX11_save_38 : decode cX11_save 38 = .ok (.ireturn, 1) := by decide +kernel
theorem dX11_load_0 : decode cX11_load 0 = .ok (.aload_n 0, 1) := by decide +kernel
theorem dX11_load_1 : decode cX11_load 1 = .ok (.iload_n 1, 1) := by decide +kernel
theorem dX11_load_2 : decode cX11_load 2 = .ok (.invokevirtual 245, 3) := by decide +kernel
theorem dX11_load_5 : decode cX11_load 5 = .ok (.ifCond .eq 16, 3) := by decide +kernel
theorem dX11_load_8 : decode cX11_load 8 = .ok (.aload_n 0, 1) := by decide +kernel
theorem dX11_load_9 : decode cX11_load 9 = .ok (.aload_n 0, 1) := by decide +kernel
theorem dX11_load_10 : decode cX11_load 10 = .ok (.getfield 22, 3) := by decide +kernel
theorem dX11_load_13 : decode cX11_load 13 = .ok (.iload_n 1, 1) := by decide +kernel
theorem dX11_load_14 : decode cX11_load 14 = .ok (.aaload, 1) := by decide +kernel
theorem dX11_load_15 : decode cX11_load 15 = .ok (.invokevirtual 119, 3) := by decide +kernel
theorem dX11_load_18 : decode cX11_load 18 = .ok (.goto 4, 3) := by decide +kernel
theorem dX11_load_21 : decode cX11_load 21 = .ok (.iconst (-1), 1) := by decide +kernel
theorem dX11_load_22 : decode cX11_load 22 = .ok (.ireturn, 1) := by decide +kernel
theorem dX11_same_0 : decode cX11_same 0 = .ok (.aload_n 0, 1) := by decide +kernel
theorem dX11_same_1 : decode cX11_same 1 = .ok (.iload_n 1, 1) := by decide +kernel
theorem dX11_same_2 : decode cX11_same 2 = .ok (.invokevirtual 245, 3) := by decide +kernel
theorem dX11_same_5 : decode cX11_same 5 = .ok (.ifCond .ne 5, 3) := by decide +kernel
theorem dX11_same_8 : decode cX11_same 8 = .ok (.iconst (-1), 1) := by decide +kernel
theorem dX11_same_9 : decode cX11_same 9 = .ok (.ireturn, 1) := by decide +kernel
theorem dX11_same_10 : decode cX11_same 10 = .ok (.aload_n 0, 1) := by decide +kernel
theorem dX11_same_11 : decode cX11_same 11 = .ok (.getfield 47, 3) := by decide +kernel
theorem dX11_same_14 : decode cX11_same 14 = .ok (.aload_n 0, 1) := by decide +kernel
theorem dX11_same_15 : decode cX11_same 15 = .ok (.getfield 12, 3) := by decide +kernel
theorem dX11_same_18 : decode cX11_same 18 = .ok (.invokevirtual 187, 3) := by decide +kernel
theorem dX11_same_21 : decode cX11_same 21 = .ok (.aload_n 0, 1) := by decide +kernel
theorem dX11_same_22 : decode cX11_same 22 = .ok (.getfield 51, 3) := by decide +kernel
theorem dX11_same_25 : decode cX11_same 25 = .ok (.aload_n 0, 1) := by decide +kernel
theorem dX11_same_26 : decode cX11_same 26 = .ok (.getfield 22, 3) := by decide +kernel
theorem dX11_same_29 : decode cX11_same 29 = .ok (.iload_n 1, 1) := by decide +kernel
theorem dX11_same_30 : decode cX11_same 30 = .ok (.aaload, 1) := by decide +kernel
theorem dX11_same_31 : decode cX11_same 31 = .ok (.invokevirtual 187, 3) := by decide +kernel
theorem dX11_same_34 : decode cX11_same 34 = .ok (.aload_n 0, 1) := by decide +kernel
theorem dX11_same_35 : decode cX11_same 35 = .ok (.aload_n 0, 1) := by decide +kernel
theorem dX11_same_36 : decode cX11_same 36 = .ok (.getfield 22, 3) := by decide +kernel
theorem dX11_same_39 : decode cX11_same 39 = .ok (.iload_n 1, 1) := by decide +kernel
theorem dX11_same_40 : decode cX11_same 40 = .ok (.aaload, 1) := by decide +kernel
theorem dX11_same_41 : decode cX11_same 41 = .ok (.invokevirtual 248, 3) := by decide +kernel
theorem dX11_same_44 : decode cX11_same 44 = .ok (.ifCond .eq 7, 3) := by decide +kernel
theorem dX11_same_47 : decode cX11_same 47 = .ok (.iconst 1, 1) := by decide +kernel
theorem dX11_same_48 : decode cX11_same 48 = .ok (.goto 4, 3) := by decide +kernel
theorem dX11_same_51 : decode cX11_same 51 = .ok (.iconst 0, 1) := by decide +kernel
theorem dX11_same_52 : decode cX11_same 52 = .ok (.ireturn, 1) := by decide +kernel
theorem dX11_undo_0 : decode cX11_undo 0 = .ok (.aload_n 0, 1) := by decide +kernel
theorem dX11_undo_1 : decode cX11_undo 1 = .ok (.getfield 33, 3) := by decide +kernel
theorem dX11_undo_4 : decode cX11_undo 4 = .ok (.aload_n 0, 1) := by decide +kernel
theorem dX11_undo_5 : decode cX11_undo 5 = .ok (.getfield 12, 3) := by decide +kernel
theorem dX11_undo_8 : decode cX11_undo 8 = .ok (.invokevirtual 252, 3) := by decide +kernel
theorem dX11_undo_11 : decode cX11_undo 11 = .ok (.ireturn, 1) := by decide +kernel
theorem dX11_method_0 : decode cX11_method 0 = .ok (.aload_n 0, 1) := by decide +kernel
theorem dX11_method_1 : decode cX11_method 1 = .ok (.getfield 92, 3) := by decide +kernel
theorem dX11_method_4 : decode cX11_method 4 = .ok (.iload_n 1, 1) := by decide +kernel
theorem dX11_method_5 : decode cX11_method 5 = .ok (.iload_n 2, 1) := by decide +kernel
theorem dX11_method_6 : decode cX11_method 6 = .ok (.invokevirtual 255, 3) := by decide +kernel
theorem dX11_method_9 : decode cX11_method 9 = .ok (.ifCond .eq 15, 3) := by decide +kernel
theorem dX11_method_12 : decode cX11_method 12 = .ok (.aload_n 0, 1) := by decide +kernel
theorem dX11_method_13 : decode cX11_method 13 = .ok (.getfield 92, 3) := by decide +kernel
theorem dX11_method_16 : decode cX11_method 16 = .ok (.getfield 258, 3) := by decide +kernel
theorem dX11_method_19 : decode cX11_method 19 = .ok (.iconst 1, 1) := by decide +kernel
theorem dX11_method_20 : decode cX11_method 20 = .ok (.isub, 1) := by decide +kernel
theorem dX11_method_21 : decode cX11_method 21 = .ok (.goto 4, 3) := by decide +kernel
theorem dX11_method_24 : decode cX11_method 24 = .ok (.iconst (-1), 1) := by decide +kernel
theorem dX11_method_25 : decode cX11_method 25 = .ok (.ireturn, 1) := by decide +kernel
theorem dX11_chain_0 : decode cX11_chain 0 = .ok (.aload_n 0, 1) := by decide +kernel
theorem dX11_chain_1 : decode cX11_chain 1 = .ok (.getfield 92, 3) := by decide +kernel
theorem dX11_chain_4 : decode cX11_chain 4 = .ok (.iload_n 1, 1) := by decide +kernel
theorem dX11_chain_5 : decode cX11_chain 5 = .ok (.iload_n 2, 1) := by decide +kernel
theorem dX11_chain_6 : decode cX11_chain 6 = .ok (.invokevirtual 255, 3) := by decide +kernel
theorem dX11_chain_9 : decode cX11_chain 9 = .ok (.ifCond .ne 5, 3) := by decide +kernel
theorem dX11_chain_12 : decode cX11_chain 12 = .ok (.iconst (-1), 1) := by decide +kernel
theorem dX11_chain_13 : decode cX11_chain 13 = .ok (.ireturn, 1) := by decide +kernel
theorem dX11_chain_14 : decode cX11_chain 14 = .ok (.iload_n 3, 1) := by decide +kernel
theorem dX11_chain_15 : decode cX11_chain 15 = .ok (.ifCond .lt 26, 3) := by decide +kernel
theorem dX11_chain_18 : decode cX11_chain 18 = .ok (.iload_n 3, 1) := by decide +kernel
theorem dX11_chain_19 : decode cX11_chain 19 = .ok (.aload_n 0, 1) := by decide +kernel
theorem dX11_chain_20 : decode cX11_chain 20 = .ok (.getfield 92, 3) := by decide +kernel
theorem dX11_chain_23 : decode cX11_chain 23 = .ok (.getfield 258, 3) := by decide +kernel
theorem dX11_chain_26 : decode cX11_chain 26 = .ok (.if_icmp .ge 15, 3) := by decide +kernel
theorem dX11_chain_29 : decode cX11_chain 29 = .ok (.aload_n 0, 1) := by decide +kernel
theorem dX11_chain_30 : decode cX11_chain 30 = .ok (.getfield 92, 3) := by decide +kernel
theorem dX11_chain_33 : decode cX11_chain 33 = .ok (.getfield 260, 3) := by decide +kernel
theorem dX11_chain_36 : decode cX11_chain 36 = .ok (.iload_n 3, 1) := by decide +kernel
theorem dX11_chain_37 : decode cX11_chain 37 = .ok (.iaload, 1) := by decide +kernel
theorem dX11_chain_38 : decode cX11_chain 38 = .ok (.goto 5, 3) := by decide +kernel
theorem dX11_chain_41 : decode cX11_chain 41 = .ok (.bipush (-2), 2) := by decide +kernel
theorem dX11_chain_43 : decode cX11_chain 43 = .ok (.ireturn, 1) := by decide +kernel
theorem dX11_best_0 : decode cX11_best 0 = .ok (.iconst (-1), 1) := by decide +kernel
theorem dX11_best_1 : decode cX11_best 1 = .ok (.istore_n 2, 1) := by decide +kernel
theorem dX11_best_2 : decode cX11_best 2 = .ok (.iconst 0, 1) := by decide +kernel
theorem dX11_best_3 : decode cX11_best 3 = .ok (.istore_n 3, 1) := by decide +kernel
theorem dX11_best_4 : decode cX11_best 4 = .ok (.iconst 0, 1) := by decide +kernel
theorem dX11_best_5 : decode cX11_best 5 = .ok (.istore 4, 2) := by decide +kernel
theorem dX11_best_7 : decode cX11_best 7 = .ok (.iload 4, 2) := by decide +kernel
theorem dX11_best_9 : decode cX11_best 9 = .ok (.iconst 4, 1) := by decide +kernel
theorem dX11_best_10 : decode cX11_best 10 = .ok (.if_icmp .ge 49, 3) := by decide +kernel
theorem dX11_best_13 : decode cX11_best 13 = .ok (.aload_n 0, 1) := by decide +kernel
theorem dX11_best_14 : decode cX11_best 14 = .ok (.getfield 92, 3) := by decide +kernel
theorem dX11_best_17 : decode cX11_best 17 = .ok (.iload_n 1, 1) := by decide +kernel
theorem dX11_best_18 : decode cX11_best 18 = .ok (.iload 4, 2) := by decide +kernel
theorem dX11_best_20 : decode cX11_best 20 = .ok (.invokevirtual 255, 3) := by decide +kernel
theorem dX11_best_23 : decode cX11_best 23 = .ok (.ifCond .eq 30, 3) := by decide +kernel
theorem dX11_best_26 : decode cX11_best 26 = .ok (.iload_n 2, 1) := by decide +kernel
theorem dX11_best_27 : decode cX11_best 27 = .ok (.iconst (-1), 1) := by decide +kernel
theorem dX11_best_28 : decode cX11_best 28 = .ok (.if_icmp .eq 14, 3) := by decide +kernel
theorem dX11_best_31 : decode cX11_best 31 = .ok (.aload_n 0, 1) := by decide +kernel
theorem dX11_best_32 : decode cX11_best 32 = .ok (.getfield 92, 3) := by decide +kernel
theorem dX11_best_35 : decode cX11_best 35 = .ok (.getfield 258, 3) := by decide +kernel
theorem dX11_best_38 : decode cX11_best 38 = .ok (.iload_n 3, 1) := by decide +kernel
theorem dX11_best_39 : decode cX11_best 39 = .ok (.if_icmp .ge 14, 3) := by decide +kernel
theorem dX11_best_42 : decode cX11_best 42 = .ok (.iload 4, 2) := by decide +kernel
theorem dX11_best_44 : decode cX11_best 44 = .ok (.istore_n 2, 1) := by decide +kernel
theorem dX11_best_45 : decode cX11_best 45 = .ok (.aload_n 0, 1) := by decide +kernel
theorem dX11_best_46 : decode cX11_best 46 = .ok (.getfield 92, 3) := by decide +kernel
theorem dX11_best_49 : decode cX11_best 49 = .ok (.getfield 258, 3) := by decide +kernel
theorem dX11_best_52 : decode cX11_best 52 = .ok (.istore_n 3, 1) := by decide +kernel
theorem dX11_best_53 : decode cX11_best 53 = .ok (.iinc 4 1, 3) := by decide +kernel
theorem dX11_best_56 : decode cX11_best 56 = .ok (.goto (-49), 3) := by decide +kernel
theorem dX11_best_59 : decode cX11_best 59 = .ok (.iload_n 2, 1) := by decide +kernel
theorem dX11_best_60 : decode cX11_best 60 = .ok (.ireturn, 1) := by decide +kernel
theorem dX11_star_0 : decode cX11_star 0 = .ok (.aload_n 0, 1) := by decide +kernel
theorem dX11_star_1 : decode cX11_star 1 = .ok (.getfield 92, 3) := by decide +kernel
theorem dX11_star_4 : decode cX11_star 4 = .ok (.iload_n 1, 1) := by decide +kernel
theorem dX11_star_5 : decode cX11_star 5 = .ok (.iload_n 2, 1) := by decide +kernel
theorem dX11_star_6 : decode cX11_star 6 = .ok (.invokevirtual 255, 3) := by decide +kernel
theorem dX11_star_9 : decode cX11_star 9 = .ok (.ifCond .ne 5, 3) := by decide +kernel
theorem dX11_star_12 : decode cX11_star 12 = .ok (.iconst (-1), 1) := by decide +kernel
theorem dX11_star_13 : decode cX11_star 13 = .ok (.ireturn, 1) := by decide +kernel
theorem dX11_star_14 : decode cX11_star 14 = .ok (.aload_n 0, 1) := by decide +kernel
theorem dX11_star_15 : decode cX11_star 15 = .ok (.getfield 92, 3) := by decide +kernel
theorem dX11_star_18 : decode cX11_star 18 = .ok (.invokevirtual 263, 3) := by decide +kernel
theorem dX11_star_21 : decode cX11_star 21 = .ok (.ifCond .eq 7, 3) := by decide +kernel
theorem dX11_star_24 : decode cX11_star 24 = .ok (.iconst 1, 1) := by decide +kernel
theorem dX11_star_25 : decode cX11_star 25 = .ok (.goto 4, 3) := by decide +kernel
theorem dX11_star_28 : decode cX11_star 28 = .ok (.iconst 0, 1) := by decide +kernel
theorem dX11_star_29 : decode cX11_star 29 = .ok (.ireturn, 1) := by decide +kernel
theorem dX11_lower_0 : decode cX11_lower 0 = .ok (.iload_n 1, 1) := by decide +kernel
theorem dX11_lower_1 : decode cX11_lower 1 = .ok (.iconst 1, 1) := by decide +kernel
theorem dX11_lower_2 : decode cX11_lower 2 = .ok (.if_icmp .lt 27, 3) := by decide +kernel
theorem dX11_lower_5 : decode cX11_lower 5 = .ok (.iload_n 1, 1) := by decide +kernel
theorem dX11_lower_6 : decode cX11_lower 6 = .ok (.sipush 9999, 3) := by decide +kernel
theorem dX11_lower_9 : decode cX11_lower 9 = .ok (.if_icmp .gt 20, 3) := by decide +kernel
theorem dX11_lower_12 : decode cX11_lower 12 = .ok (.iload_n 2, 1) := by decide +kernel
theorem dX11_lower_13 : decode cX11_lower 13 = .ok (.ifCond .lt 16, 3) := by decide +kernel
theorem dX11_lower_16 : decode cX11_lower 16 = .ok (.iload_n 2, 1) := by decide +kernel
theorem dX11_lower_17 : decode cX11_lower 17 = .ok (.iconst 2, 1) := by decide +kernel
theorem dX11_lower_18 : decode cX11_lower 18 = .ok (.if_icmp .gt 11, 3) := by decide +kernel
theorem dX11_lower_21 : decode cX11_lower 21 = .ok (.iload_n 1, 1) := by decide +kernel
theorem dX11_lower_22 : decode cX11_lower 22 = .ok (.iload_n 2, 1) := by decide +kernel
theorem dX11_lower_23 : decode cX11_lower 23 = .ok (.invokestatic 267, 3) := by decide +kernel
theorem dX11_lower_26 : decode cX11_lower 26 = .ok (.goto 4, 3) := by decide +kernel
theorem dX11_lower_29 : decode cX11_lower 29 = .ok (.iconst (-1), 1) := by decide +kernel
theorem dX11_lower_30 : decode cX11_lower 30 = .ok (.ireturn, 1) := by decide +kernel
theorem dX11_search_0 : decode cX11_search 0 = .ok (.iload_n 1, 1) := by decide +kernel
theorem dX11_search_1 : decode cX11_search 1 = .ok (.iconst 1, 1) := by decide +kernel
theorem dX11_search_2 : decode cX11_search 2 = .ok (.if_icmp .lt 22, 3) := by decide +kernel
theorem dX11_search_5 : decode cX11_search 5 = .ok (.iload_n 1, 1) := by decide +kernel
theorem dX11_search_6 : decode cX11_search 6 = .ok (.sipush 2047, 3) := by decide +kernel
theorem dX11_search_9 : decode cX11_search 9 = .ok (.if_icmp .gt 15, 3) := by decide +kernel
theorem dX11_search_12 : decode cX11_search 12 = .ok (.iload_n 2, 1) := by decide +kernel
theorem dX11_search_13 : decode cX11_search 13 = .ok (.iconst 1, 1) := by decide +kernel
theorem dX11_search_14 : decode cX11_search 14 = .ok (.if_icmp .lt 10, 3) := by decide +kernel
theorem dX11_search_17 : decode cX11_search 17 = .ok (.iload_n 2, 1) := by decide +kernel
theorem dX11_search_18 : decode cX11_search 18 = .ok (.ldc_w 270, 3) := by decide +kernel
theorem dX11_search_21 : decode cX11_search 21 = .ok (.if_icmp .le 5, 3) := by decide +kernel
theorem dX11_search_24 : decode cX11_search 24 = .ok (.iconst (-1), 1) := by decide +kernel
theorem dX11_search_25 : decode cX11_search 25 = .ok (.ireturn, 1) := by decide +kernel
theorem dX11_search_26 : decode cX11_search 26 = .ok (.aload_n 0, 1) := by decide +kernel
theorem dX11_search_27 : decode cX11_search 27 = .ok (.getfield 99, 3) := by decide +kernel
theorem dX11_search_30 : decode cX11_search 30 = .ok (.iload_n 1, 1) := by decide +kernel
theorem dX11_search_31 : decode cX11_search 31 = .ok (.iload_n 2, 1) := by decide +kernel
theorem dX11_search_32 : decode cX11_search 32 = .ok (.invokevirtual 271, 3) := by decide +kernel
theorem dX11_search_35 : decode cX11_search 35 = .ok (.ifCond .eq 13, 3) := by decide +kernel
theorem dX11_search_38 : decode cX11_search 38 = .ok (.aload_n 0, 1) := by decide +kernel
theorem dX11_search_39 : decode cX11_search 39 = .ok (.getfield 99, 3) := by decide +kernel
theorem dX11_search_42 : decode cX11_search 42 = .ok (.getfield 152, 3) := by decide +kernel
theorem dX11_search_45 : decode cX11_search 45 = .ok (.goto 5, 3) := by decide +kernel
theorem dX11_search_48 : decode cX11_search 48 = .ok (.bipush (-2), 2) := by decide +kernel
theorem dX11_search_50 : decode cX11_search 50 = .ok (.ireturn, 1) := by decide +kernel
theorem dX11_found_0 : decode cX11_found 0 = .ok (.iload_n 1, 1) := by decide +kernel
theorem dX11_found_1 : decode cX11_found 1 = .ok (.ifCond .lt 26, 3) := by decide +kernel
theorem dX11_found_4 : decode cX11_found 4 = .ok (.iload_n 1, 1) := by decide +kernel
theorem dX11_found_5 : decode cX11_found 5 = .ok (.aload_n 0, 1) := by decide +kernel
theorem dX11_found_6 : decode cX11_found 6 = .ok (.getfield 99, 3) := by decide +kernel
theorem dX11_found_9 : decode cX11_found 9 = .ok (.getfield 152, 3) := by decide +kernel
theorem dX11_found_12 : decode cX11_found 12 = .ok (.if_icmp .gt 15, 3) := by decide +kernel
theorem dX11_found_15 : decode cX11_found 15 = .ok (.aload_n 0, 1) := by decide +kernel
theorem dX11_found_16 : decode cX11_found 16 = .ok (.getfield 99, 3) := by decide +kernel
theorem dX11_found_19 : decode cX11_found 19 = .ok (.getfield 274, 3) := by decide +kernel
theorem dX11_found_22 : decode cX11_found 22 = .ok (.iload_n 1, 1) := by decide +kernel
theorem dX11_found_23 : decode cX11_found 23 = .ok (.iaload, 1) := by decide +kernel
theorem dX11_found_24 : decode cX11_found 24 = .ok (.goto 4, 3) := by decide +kernel
theorem dX11_found_27 : decode cX11_found 27 = .ok (.iconst (-1), 1) := by decide +kernel
theorem dX11_found_28 : decode cX11_found 28 = .ok (.ireturn, 1) := by decide +kernel
theorem dX11_isChain_0 : decode cX11_isChain 0 = .ok (.iload_n 1, 1) := by decide +kernel
theorem dX11_isChain_1 : decode cX11_isChain 1 = .ok (.iconst 1, 1) := by decide +kernel
theorem dX11_isChain_2 : decode cX11_isChain 2 = .ok (.if_icmp .lt 9, 3) := by decide +kernel
theorem dX11_isChain_5 : decode cX11_isChain 5 = .ok (.iload_n 1, 1) := by decide +kernel
theorem dX11_isChain_6 : decode cX11_isChain 6 = .ok (.bipush 6, 2) := by decide +kernel
theorem dX11_isChain_8 : decode cX11_isChain 8 = .ok (.if_icmp .le 5, 3) := by decide +kernel
theorem dX11_isChain_11 : decode cX11_isChain 11 = .ok (.iconst (-1), 1) := by decide +kernel
theorem dX11_isChain_12 : decode cX11_isChain 12 = .ok (.ireturn, 1) := by decide +kernel
theorem dX11_isChain_13 : decode cX11_isChain 13 = .ok (.bipush 6, 2) := by decide +kernel
theorem dX11_isChain_15 : decode cX11_isChain 15 = .ok (.newarray .int, 2) := by decide +kernel
theorem dX11_isChain_17 : decode cX11_isChain 17 = .ok (.dup, 1) := by decide +kernel
theorem dX11_isChain_18 : decode cX11_isChain 18 = .ok (.iconst 0, 1) := by decide +kernel
theorem dX11_isChain_19 : decode cX11_isChain 19 = .ok (.iconst 1, 1) := by decide +kernel
theorem dX11_isChain_20 : decode cX11_isChain 20 = .ok (.iastore, 1) := by decide +kernel
theorem dX11_isChain_21 : decode cX11_isChain 21 = .ok (.dup, 1) := by decide +kernel
theorem dX11_isChain_22 : decode cX11_isChain 22 = .ok (.iconst 1, 1) := by decide +kernel
theorem dX11_isChain_23 : decode cX11_isChain 23 = .ok (.iload_n 2, 1) := by decide +kernel
theorem dX11_isChain_24 : decode cX11_isChain 24 = .ok (.iastore, 1) := by decide +kernel
theorem dX11_isChain_25 : decode cX11_isChain 25 = .ok (.dup, 1) := by decide +kernel
theorem dX11_isChain_26 : decode cX11_isChain 26 = .ok (.iconst 2, 1) := by decide +kernel
theorem dX11_isChain_27 : decode cX11_isChain 27 = .ok (.iload_n 3, 1) := by decide +kernel
theorem dX11_isChain_28 : decode cX11_isChain 28 = .ok (.iastore, 1) := by decide +kernel
theorem dX11_isChain_29 : decode cX11_isChain 29 = .ok (.dup, 1) := by decide +kernel
theorem dX11_isChain_30 : decode cX11_isChain 30 = .ok (.iconst 3, 1) := by decide +kernel
theorem dX11_isChain_31 : decode cX11_isChain 31 = .ok (.iload 4, 2) := by decide +kernel
theorem dX11_isChain_33 : decode cX11_isChain 33 = .ok (.iastore, 1) := by decide +kernel
theorem dX11_isChain_34 : decode cX11_isChain 34 = .ok (.dup, 1) := by decide +kernel
theorem dX11_isChain_35 : decode cX11_isChain 35 = .ok (.iconst 4, 1) := by decide +kernel
theorem dX11_isChain_36 : decode cX11_isChain 36 = .ok (.iload 5, 2) := by decide +kernel
theorem dX11_isChain_38 : decode cX11_isChain 38 = .ok (.iastore, 1) := by decide +kernel
theorem dX11_isChain_39 : decode cX11_isChain 39 = .ok (.dup, 1) := by decide +kernel
theorem dX11_isChain_40 : decode cX11_isChain 40 = .ok (.iconst 5, 1) := by decide +kernel
theorem dX11_isChain_41 : decode cX11_isChain 41 = .ok (.iload 6, 2) := by decide +kernel
theorem dX11_isChain_43 : decode cX11_isChain 43 = .ok (.iastore, 1) := by decide +kernel
theorem dX11_isChain_44 : decode cX11_isChain 44 = .ok (.astore 7, 2) := by decide +kernel
theorem dX11_isChain_46 : decode cX11_isChain 46 = .ok (.iconst 1, 1) := by decide +kernel
theorem dX11_isChain_47 : decode cX11_isChain 47 = .ok (.istore 8, 2) := by decide +kernel
theorem dX11_isChain_49 : decode cX11_isChain 49 = .ok (.iload 8, 2) := by decide +kernel
theorem dX11_isChain_51 : decode cX11_isChain 51 = .ok (.iload_n 1, 1) := by decide +kernel
theorem dX11_isChain_52 : decode cX11_isChain 52 = .ok (.if_icmp .ge 36, 3) := by decide +kernel
theorem dX11_isChain_55 : decode cX11_isChain 55 = .ok (.aload 7, 2) := by decide +kernel
theorem dX11_isChain_57 : decode cX11_isChain 57 = .ok (.iload 8, 2) := by decide +kernel
theorem dX11_isChain_59 : decode cX11_isChain 59 = .ok (.iaload, 1) := by decide +kernel
theorem dX11_isChain_60 : decode cX11_isChain 60 = .ok (.aload 7, 2) := by decide +kernel
theorem dX11_isChain_62 : decode cX11_isChain 62 = .ok (.iload 8, 2) := by decide +kernel
theorem dX11_isChain_64 : decode cX11_isChain 64 = .ok (.iconst 1, 1) := by decide +kernel
theorem dX11_isChain_65 : decode cX11_isChain 65 = .ok (.isub, 1) := by decide +kernel
theorem dX11_isChain_66 : decode cX11_isChain 66 = .ok (.iaload, 1) := by decide +kernel
theorem dX11_isChain_67 : decode cX11_isChain 67 = .ok (.if_icmp .le 13, 3) := by decide +kernel
theorem dX11_isChain_70 : decode cX11_isChain 70 = .ok (.aload 7, 2) := by decide +kernel
theorem dX11_isChain_72 : decode cX11_isChain 72 = .ok (.iload 8, 2) := by decide +kernel
theorem dX11_isChain_74 : decode cX11_isChain 74 = .ok (.invokestatic 275, 3) := by decide +kernel
theorem dX11_isChain_77 : decode cX11_isChain 77 = .ok (.ifCond .ne 5, 3) := by decide +kernel
theorem dX11_isChain_80 : decode cX11_isChain 80 = .ok (.iconst 0, 1) := by decide +kernel
theorem dX11_isChain_81 : decode cX11_isChain 81 = .ok (.ireturn, 1) := by decide +kernel
theorem dX11_isChain_82 : decode cX11_isChain 82 = .ok (.iinc 8 1, 3) := by decide +kernel
theorem dX11_isChain_85 : decode cX11_isChain 85 = .ok (.goto (-36), 3) := by decide +kernel
theorem dX11_isChain_88 : decode cX11_isChain 88 = .ok (.iconst 1, 1) := by decide +kernel
theorem dX11_isChain_89 : decode cX11_isChain 89 = .ok (.ireturn, 1) := by decide +kernel
theorem dX11_adopt_0 : decode cX11_adopt 0 = .ok (.aload_n 0, 1) := by decide +kernel
theorem dX11_adopt_1 : decode cX11_adopt 1 = .ok (.getfield 33, 3) := by decide +kernel
theorem dX11_adopt_4 : decode cX11_adopt 4 = .ok (.aload_n 0, 1) := by decide +kernel
theorem dX11_adopt_5 : decode cX11_adopt 5 = .ok (.getfield 12, 3) := by decide +kernel
theorem dX11_adopt_8 : decode cX11_adopt 8 = .ok (.invokevirtual 216, 3) := by decide +kernel
theorem dX11_adopt_11 : decode cX11_adopt 11 = .ok (.aload_n 0, 1) := by decide +kernel
theorem dX11_adopt_12 : decode cX11_adopt 12 = .ok (.getfield 12, 3) := by decide +kernel
theorem dX11_adopt_15 : decode cX11_adopt 15 = .ok (.aload_n 1, 1) := by decide +kernel
theorem dX11_adopt_16 : decode cX11_adopt 16 = .ok (.invokevirtual 242, 3) := by decide +kernel
theorem dX11_adopt_19 : decode cX11_adopt 19 = .ok (.aload_n 0, 1) := by decide +kernel
theorem dX11_adopt_20 : decode cX11_adopt 20 = .ok (.getfield 12, 3) := by decide +kernel
theorem dX11_adopt_23 : decode cX11_adopt 23 = .ok (.getfield 126, 3) := by decide +kernel
theorem dX11_adopt_26 : decode cX11_adopt 26 = .ok (.ireturn, 1) := by decide +kernel
theorem dX11_dropSteps_0 : decode cX11_dropSteps 0 = .ok (.aload_n 0, 1) := by decide +kernel
theorem dX11_dropSteps_1 : decode cX11_dropSteps 1 = .ok (.getfield 16, 3) := by decide +kernel
theorem dX11_dropSteps_4 : decode cX11_dropSteps 4 = .ok (.aload_n 0, 1) := by decide +kernel
theorem dX11_dropSteps_5 : decode cX11_dropSteps 5 = .ok (.getfield 12, 3) := by decide +kernel
theorem dX11_dropSteps_8 : decode cX11_dropSteps 8 = .ok (.invokevirtual 242, 3) := by decide +kernel
theorem dX11_dropSteps_11 : decode cX11_dropSteps 11 = .ok (.aload_n 0, 1) := by decide +kernel
theorem dX11_dropSteps_12 : decode cX11_dropSteps 12 = .ok (.getfield 16, 3) := by decide +kernel
theorem dX11_dropSteps_15 : decode cX11_dropSteps 15 = .ok (.aload_n 0, 1) := by decide +kernel
theorem dX11_dropSteps_16 : decode cX11_dropSteps 16 = .ok (.getfield 54, 3) := by decide +kernel
theorem dX11_dropSteps_19 : decode cX11_dropSteps 19 = .ok (.invokevirtual 279, 3) := by decide +kernel
theorem dX11_dropSteps_22 : decode cX11_dropSteps 22 = .ok (.istore_n 1, 1) := by decide +kernel
theorem dX11_dropSteps_23 : decode cX11_dropSteps 23 = .ok (.iload_n 1, 1) := by decide +kernel
theorem dX11_dropSteps_24 : decode cX11_dropSteps 24 = .ok (.ifCond .le 12, 3) := by decide +kernel
theorem dX11_dropSteps_27 : decode cX11_dropSteps 27 = .ok (.aload_n 0, 1) := by decide +kernel
theorem dX11_dropSteps_28 : decode cX11_dropSteps 28 = .ok (.aload_n 0, 1) := by decide +kernel
theorem dX11_dropSteps_29 : decode cX11_dropSteps 29 = .ok (.getfield 16, 3) := by decide +kernel
theorem dX11_dropSteps_32 : decode cX11_dropSteps 32 = .ok (.invokevirtual 119, 3) := by decide +kernel
theorem dX11_dropSteps_35 : decode cX11_dropSteps 35 = .ok (.pop, 1) := by decide +kernel
theorem dX11_dropSteps_36 : decode cX11_dropSteps 36 = .ok (.iload_n 1, 1) := by decide +kernel
theorem dX11_dropSteps_37 : decode cX11_dropSteps 37 = .ok (.ireturn, 1) := by decide +kernel
theorem dX11_holds_0 : decode cX11_holds 0 = .ok (.iload_n 1, 1) := by decide +kernel
theorem dX11_holds_1 : decode cX11_holds 1 = .ok (.ifCond .lt 21, 3) := by decide +kernel
theorem dX11_holds_4 : decode cX11_holds 4 = .ok (.iload_n 1, 1) := by decide +kernel
theorem dX11_holds_5 : decode cX11_holds 5 = .ok (.iconst 3, 1) := by decide +kernel
theorem dX11_holds_6 : decode cX11_holds 6 = .ok (.if_icmp .ge 16, 3) := by decide +kernel
theorem dX11_holds_9 : decode cX11_holds 9 = .ok (.aload_n 0, 1) := by decide +kernel
theorem dX11_holds_10 : decode cX11_holds 10 = .ok (.getfield 26, 3) := by decide +kernel
theorem dX11_holds_13 : decode cX11_holds 13 = .ok (.iload_n 1, 1) := by decide +kernel
theorem dX11_holds_14 : decode cX11_holds 14 = .ok (.baload, 1) := by decide +kernel
theorem dX11_holds_15 : decode cX11_holds 15 = .ok (.ifCond .eq 7, 3) := by decide +kernel
theorem dX11_holds_18 : decode cX11_holds 18 = .ok (.iconst 1, 1) := by decide +kernel
theorem dX11_holds_19 : decode cX11_holds 19 = .ok (.goto 4, 3) := by decide +kernel
theorem dX11_holds_22 : decode cX11_holds 22 = .ok (.iconst 0, 1) := by decide +kernel
theorem dX11_holds_23 : decode cX11_holds 23 = .ok (.ireturn, 1) := by decide +kernel
theorem dX11_filledShelves_0 : decode cX11_filledShelves 0 = .ok (.iconst 0, 1) := by decide +kernel
theorem dX11_filledShelves_1 : decode cX11_filledShelves 1 = .ok (.istore_n 1, 1) := by decide +kernel
theorem dX11_filledShelves_2 : decode cX11_filledShelves 2 = .ok (.iconst 0, 1) := by decide +kernel
theorem dX11_filledShelves_3 : decode cX11_filledShelves 3 = .ok (.istore_n 2, 1) := by decide +kernel
theorem dX11_filledShelves_4 : decode cX11_filledShelves 4 = .ok (.iload_n 2, 1) := by decide +kernel
theorem dX11_filledShelves_5 : decode cX11_filledShelves 5 = .ok (.iconst 3, 1) := by decide +kernel
theorem dX11_filledShelves_6 : decode cX11_filledShelves 6 = .ok (.if_icmp .ge 21, 3) := by decide +kernel
theorem dX11_filledShelves_9 : decode cX11_filledShelves 9 = .ok (.aload_n 0, 1) := by decide +kernel
theorem dX11_filledShelves_10 : decode cX11_filledShelves 10 = .ok (.getfield 26, 3) := by decide +kernel
theorem dX11_filledShelves_13 : decode cX11_filledShelves 13 = .ok (.iload_n 2, 1) := by decide +kernel
theorem dX11_filledShelves_14 : decode cX11_filledShelves 14 = .ok (.baload, 1) := by decide +kernel
theorem dX11_filledShelves_15 : decode cX11_filledShelves 15 = .ok (.ifCond .eq 6, 3) := by decide +kernel
theorem dX11_filledShelves_18 : decode cX11_filledShelves 18 = .ok (.iinc 1 1, 3) := by decide +kernel
theorem dX11_filledShelves_21 : decode cX11_filledShelves 21 = .ok (.iinc 2 1, 3) := by decide +kernel
theorem dX11_filledShelves_24 : decode cX11_filledShelves 24 = .ok (.goto (-20), 3) := by decide +kernel
theorem dX11_filledShelves_27 : decode cX11_filledShelves 27 = .ok (.iload_n 1, 1) := by decide +kernel
theorem dX11_filledShelves_28 : decode cX11_filledShelves 28 = .ok (.ireturn, 1) := by decide +kernel
theorem dX11_comesToTheSame_0 : decode cX11_comesToTheSame 0 = .ok (.aload_n 0, 1) := by decide +kernel
theorem dX11_comesToTheSame_1 : decode cX11_comesToTheSame 1 = .ok (.getfield 12, 3) := by decide +kernel
theorem dX11_comesToTheSame_4 : decode cX11_comesToTheSame 4 = .ok (.getfield 123, 3) := by decide +kernel
theorem dX11_comesToTheSame_7 : decode cX11_comesToTheSame 7 = .ok (.aload_n 1, 1) := by decide +kernel
theorem dX11_comesToTheSame_8 : decode cX11_comesToTheSame 8 = .ok (.getfield 123, 3) := by decide +kernel
theorem dX11_comesToTheSame_11 : decode cX11_comesToTheSame 11 = .ok (.if_icmp .ne 17, 3) := by decide +kernel
theorem dX11_comesToTheSame_14 : decode cX11_comesToTheSame 14 = .ok (.aload_n 0, 1) := by decide +kernel
theorem dX11_comesToTheSame_15 : decode cX11_comesToTheSame 15 = .ok (.getfield 12, 3) := by decide +kernel
theorem dX11_comesToTheSame_18 : decode cX11_comesToTheSame 18 = .ok (.getfield 129, 3) := by decide +kernel
theorem dX11_comesToTheSame_21 : decode cX11_comesToTheSame 21 = .ok (.aload_n 1, 1) := by decide +kernel
theorem dX11_comesToTheSame_22 : decode cX11_comesToTheSame 22 = .ok (.getfield 129, 3) := by decide +kernel
theorem dX11_comesToTheSame_25 : decode cX11_comesToTheSame 25 = .ok (.if_icmp .eq 5, 3) := by decide +kernel
theorem dX11_comesToTheSame_28 : decode cX11_comesToTheSame 28 = .ok (.iconst 0, 1) := by decide +kernel
theorem dX11_comesToTheSame_29 : decode cX11_comesToTheSame 29 = .ok (.ireturn, 1) := by decide +kernel
theorem dX11_comesToTheSame_30 : decode cX11_comesToTheSame 30 = .ok (.iconst 0, 1) := by decide +kernel
theorem dX11_comesToTheSame_31 : decode cX11_comesToTheSame 31 = .ok (.istore_n 2, 1) := by decide +kernel
theorem dX11_comesToTheSame_32 : decode cX11_comesToTheSame 32 = .ok (.iload_n 2, 1) := by decide +kernel
theorem dX11_comesToTheSame_33 : decode cX11_comesToTheSame 33 = .ok (.aload_n 0, 1) := by decide +kernel
theorem dX11_comesToTheSame_34 : decode cX11_comesToTheSame 34 = .ok (.getfield 12, 3) := by decide +kernel
theorem dX11_comesToTheSame_37 : decode cX11_comesToTheSame 37 = .ok (.getfield 129, 3) := by decide +kernel
theorem dX11_comesToTheSame_40 : decode cX11_comesToTheSame 40 = .ok (.if_icmp .ge 69, 3) := by decide +kernel
theorem dX11_comesToTheSame_43 : decode cX11_comesToTheSame 43 = .ok (.iconst 0, 1) := by decide +kernel
theorem dX11_comesToTheSame_44 : decode cX11_comesToTheSame 44 = .ok (.istore_n 3, 1) := by decide +kernel
theorem dX11_comesToTheSame_45 : decode cX11_comesToTheSame 45 = .ok (.iload_n 3, 1) := by decide +kernel
theorem dX11_comesToTheSame_46 : decode cX11_comesToTheSame 46 = .ok (.aload_n 0, 1) := by decide +kernel
theorem dX11_comesToTheSame_47 : decode cX11_comesToTheSame 47 = .ok (.getfield 12, 3) := by decide +kernel
theorem dX11_comesToTheSame_50 : decode cX11_comesToTheSame 50 = .ok (.getfield 123, 3) := by decide +kernel
theorem dX11_comesToTheSame_53 : decode cX11_comesToTheSame 53 = .ok (.if_icmp .ge 50, 3) := by decide +kernel
theorem dX11_comesToTheSame_56 : decode cX11_comesToTheSame 56 = .ok (.aload_n 0, 1) := by decide +kernel
theorem dX11_comesToTheSame_57 : decode cX11_comesToTheSame 57 = .ok (.getfield 47, 3) := by decide +kernel
theorem dX11_comesToTheSame_60 : decode cX11_comesToTheSame 60 = .ok (.aload_n 0, 1) := by decide +kernel
theorem dX11_comesToTheSame_61 : decode cX11_comesToTheSame 61 = .ok (.getfield 12, 3) := by decide +kernel
theorem dX11_comesToTheSame_64 : decode cX11_comesToTheSame 64 = .ok (.getfield 202, 3) := by decide +kernel
theorem dX11_comesToTheSame_67 : decode cX11_comesToTheSame 67 = .ok (.iload_n 2, 1) := by decide +kernel
theorem dX11_comesToTheSame_68 : decode cX11_comesToTheSame 68 = .ok (.iaload, 1) := by decide +kernel
theorem dX11_comesToTheSame_69 : decode cX11_comesToTheSame 69 = .ok (.iload_n 3, 1) := by decide +kernel
theorem dX11_comesToTheSame_70 : decode cX11_comesToTheSame 70 = .ok (.invokevirtual 198, 3) := by decide +kernel
theorem dX11_comesToTheSame_73 : decode cX11_comesToTheSame 73 = .ok (.lstore 4, 2) := by decide +kernel
theorem dX11_comesToTheSame_75 : decode cX11_comesToTheSame 75 = .ok (.lload 4, 2) := by decide +kernel
theorem dX11_comesToTheSame_77 : decode cX11_comesToTheSame 77 = .ok (.aload_n 0, 1) := by decide +kernel
theorem dX11_comesToTheSame_78 : decode cX11_comesToTheSame 78 = .ok (.getfield 51, 3) := by decide +kernel
theorem dX11_comesToTheSame_81 : decode cX11_comesToTheSame 81 = .ok (.aload_n 1, 1) := by decide +kernel
theorem dX11_comesToTheSame_82 : decode cX11_comesToTheSame 82 = .ok (.getfield 202, 3) := by decide +kernel
theorem dX11_comesToTheSame_85 : decode cX11_comesToTheSame 85 = .ok (.iload_n 2, 1) := by decide +kernel
theorem dX11_comesToTheSame_86 : decode cX11_comesToTheSame 86 = .ok (.iaload, 1) := by decide +kernel
theorem dX11_comesToTheSame_87 : decode cX11_comesToTheSame 87 = .ok (.iload_n 3, 1) := by decide +kernel
theorem dX11_comesToTheSame_88 : decode cX11_comesToTheSame 88 = .ok (.invokevirtual 198, 3) := by decide +kernel
theorem dX11_comesToTheSame_91 : decode cX11_comesToTheSame 91 = .ok (.lcmp, 1) := by decide +kernel
theorem dX11_comesToTheSame_92 : decode cX11_comesToTheSame 92 = .ok (.ifCond .eq 5, 3) := by decide +kernel
theorem dX11_comesToTheSame_95 : decode cX11_comesToTheSame 95 = .ok (.iconst 0, 1) := by decide +kernel
theorem dX11_comesToTheSame_96 : decode cX11_comesToTheSame 96 = .ok (.ireturn, 1) := by decide +kernel
theorem dX11_comesToTheSame_97 : decode cX11_comesToTheSame 97 = .ok (.iinc 3 1, 3) := by decide +kernel
theorem dX11_comesToTheSame_100 : decode cX11_comesToTheSame 100 = .ok (.goto (-55), 3) := by decide +kernel
theorem dX11_comesToTheSame_103 : decode cX11_comesToTheSame 103 = .ok (.iinc 2 1, 3) := by decide +kernel
theorem dX11_comesToTheSame_106 : decode cX11_comesToTheSame 106 = .ok (.goto (-74), 3) := by decide +kernel
theorem dX11_comesToTheSame_109 : decode cX11_comesToTheSame 109 = .ok (.iconst 1, 1) := by decide +kernel
theorem dX11_comesToTheSame_110 : decode cX11_comesToTheSame 110 = .ok (.ireturn, 1) := by decide +kernel
theorem dX11_isSumOfTwoAhead_0 : decode cX11_isSumOfTwoAhead 0 = .ok (.iconst 0, 1) := by decide +kernel
theorem dX11_isSumOfTwoAhead_1 : decode cX11_isSumOfTwoAhead 1 = .ok (.istore_n 2, 1) := by decide +kernel
theorem dX11_isSumOfTwoAhead_2 : decode cX11_isSumOfTwoAhead 2 = .ok (.iload_n 2, 1) := by decide +kernel
theorem dX11_isSumOfTwoAhead_3 : decode cX11_isSumOfTwoAhead 3 = .ok (.iload_n 1, 1) := by decide +kernel
theorem dX11_isSumOfTwoAhead_4 : decode cX11_isSumOfTwoAhead 4 = .ok (.if_icmp .ge 41, 3) := by decide +kernel
theorem dX11_isSumOfTwoAhead_7 : decode cX11_isSumOfTwoAhead 7 = .ok (.iconst 0, 1) := by decide +kernel
theorem dX11_isSumOfTwoAhead_8 : decode cX11_isSumOfTwoAhead 8 = .ok (.istore_n 3, 1) := by decide +kernel
theorem dX11_isSumOfTwoAhead_9 : decode cX11_isSumOfTwoAhead 9 = .ok (.iload_n 3, 1) := by decide +kernel
theorem dX11_isSumOfTwoAhead_10 : decode cX11_isSumOfTwoAhead 10 = .ok (.iload_n 2, 1) := by decide +kernel
theorem dX11_isSumOfTwoAhead_11 : decode cX11_isSumOfTwoAhead 11 = .ok (.if_icmp .gt 28, 3) := by decide +kernel
theorem dX11_isSumOfTwoAhead_14 : decode cX11_isSumOfTwoAhead 14 = .ok (.aload_n 0, 1) := by decide +kernel
theorem dX11_isSumOfTwoAhead_15 : decode cX11_isSumOfTwoAhead 15 = .ok (.iload_n 2, 1) := by decide +kernel
theorem dX11_isSumOfTwoAhead_16 : decode cX11_isSumOfTwoAhead 16 = .ok (.iaload, 1) := by decide +kernel
theorem dX11_isSumOfTwoAhead_17 : decode cX11_isSumOfTwoAhead 17 = .ok (.i2l, 1) := by decide +kernel
theorem dX11_isSumOfTwoAhead_18 : decode cX11_isSumOfTwoAhead 18 = .ok (.aload_n 0, 1) := by decide +kernel
theorem dX11_isSumOfTwoAhead_19 : decode cX11_isSumOfTwoAhead 19 = .ok (.iload_n 3, 1) := by decide +kernel
theorem dX11_isSumOfTwoAhead_20 : decode cX11_isSumOfTwoAhead 20 = .ok (.iaload, 1) := by decide +kernel
theorem dX11_isSumOfTwoAhead_21 : decode cX11_isSumOfTwoAhead 21 = .ok (.i2l, 1) := by decide +kernel
theorem dX11_isSumOfTwoAhead_22 : decode cX11_isSumOfTwoAhead 22 = .ok (.ladd, 1) := by decide +kernel
theorem dX11_isSumOfTwoAhead_23 : decode cX11_isSumOfTwoAhead 23 = .ok (.aload_n 0, 1) := by decide +kernel
theorem dX11_isSumOfTwoAhead_24 : decode cX11_isSumOfTwoAhead 24 = .ok (.iload_n 1, 1) := by decide +kernel
theorem dX11_isSumOfTwoAhead_25 : decode cX11_isSumOfTwoAhead 25 = .ok (.iaload, 1) := by decide +kernel
theorem dX11_isSumOfTwoAhead_26 : decode cX11_isSumOfTwoAhead 26 = .ok (.i2l, 1) := by decide +kernel
theorem dX11_isSumOfTwoAhead_27 : decode cX11_isSumOfTwoAhead 27 = .ok (.lcmp, 1) := by decide +kernel
theorem dX11_isSumOfTwoAhead_28 : decode cX11_isSumOfTwoAhead 28 = .ok (.ifCond .ne 5, 3) := by decide +kernel
theorem dX11_isSumOfTwoAhead_31 : decode cX11_isSumOfTwoAhead 31 = .ok (.iconst 1, 1) := by decide +kernel
theorem dX11_isSumOfTwoAhead_32 : decode cX11_isSumOfTwoAhead 32 = .ok (.ireturn, 1) := by decide +kernel
theorem dX11_isSumOfTwoAhead_33 : decode cX11_isSumOfTwoAhead 33 = .ok (.iinc 3 1, 3) := by decide +kernel
theorem dX11_isSumOfTwoAhead_36 : decode cX11_isSumOfTwoAhead 36 = .ok (.goto (-27), 3) := by decide +kernel
theorem dX11_isSumOfTwoAhead_39 : decode cX11_isSumOfTwoAhead 39 = .ok (.iinc 2 1, 3) := by decide +kernel
theorem dX11_isSumOfTwoAhead_42 : decode cX11_isSumOfTwoAhead 42 = .ok (.goto (-40), 3) := by decide +kernel
theorem dX11_isSumOfTwoAhead_45 : decode cX11_isSumOfTwoAhead 45 = .ok (.iconst 0, 1) := by decide +kernel
theorem dX11_isSumOfTwoAhead_46 : decode cX11_isSumOfTwoAhead 46 = .ok (.ireturn, 1) := by decide +kernel
theorem dX11_highestBitOf_0 : decode cX11_highestBitOf 0 = .ok (.bipush 31, 2) := by decide +kernel
theorem dX11_highestBitOf_2 : decode cX11_highestBitOf 2 = .ok (.iload_n 0, 1) := by decide +kernel
theorem dX11_highestBitOf_3 : decode cX11_highestBitOf 3 = .ok (.invokestatic 283, 3) := by decide +kernel
theorem dX11_highestBitOf_6 : decode cX11_highestBitOf 6 = .ok (.isub, 1) := by decide +kernel
theorem dX11_highestBitOf_7 : decode cX11_highestBitOf 7 = .ok (.ireturn, 1) := by decide +kernel
theorem dX11_bound_0 : decode cX11_bound 0 = .ok (.iload_n 0, 1) := by decide +kernel
theorem dX11_bound_1 : decode cX11_bound 1 = .ok (.invokestatic 288, 3) := by decide +kernel
theorem dX11_bound_4 : decode cX11_bound 4 = .ok (.istore_n 2, 1) := by decide +kernel
theorem dX11_bound_5 : decode cX11_bound 5 = .ok (.iload_n 0, 1) := by decide +kernel
theorem dX11_bound_6 : decode cX11_bound 6 = .ok (.invokestatic 291, 3) := by decide +kernel
theorem dX11_bound_9 : decode cX11_bound 9 = .ok (.istore_n 3, 1) := by decide +kernel
theorem dX11_bound_10 : decode cX11_bound 10 = .ok (.iload_n 1, 1) := by decide +kernel
theorem dX11_bound_11 : decode cX11_bound 11 = .ok (.ifCond .ne 5, 3) := by decide +kernel
theorem dX11_bound_14 : decode cX11_bound 14 = .ok (.iload_n 2, 1) := by decide +kernel
theorem dX11_bound_15 : decode cX11_bound 15 = .ok (.ireturn, 1) := by decide +kernel
theorem dX11_bound_16 : decode cX11_bound 16 = .ok (.iload_n 1, 1) := by decide +kernel
theorem dX11_bound_17 : decode cX11_bound 17 = .ok (.iconst 1, 1) := by decide +kernel
theorem dX11_bound_18 : decode cX11_bound 18 = .ok (.if_icmp .ne 27, 3) := by decide +kernel
theorem dX11_bound_21 : decode cX11_bound 21 = .ok (.iload_n 2, 1) := by decide +kernel
theorem dX11_bound_22 : decode cX11_bound 22 = .ok (.iload_n 3, 1) := by decide +kernel
theorem dX11_bound_23 : decode cX11_bound 23 = .ok (.iconst 2, 1) := by decide +kernel
theorem dX11_bound_24 : decode cX11_bound 24 = .ok (.if_icmp .gt 9, 3) := by decide +kernel
theorem dX11_bound_27 : decode cX11_bound 27 = .ok (.iload_n 3, 1) := by decide +kernel
theorem dX11_bound_28 : decode cX11_bound 28 = .ok (.iconst 1, 1) := by decide +kernel
theorem dX11_bound_29 : decode cX11_bound 29 = .ok (.isub, 1) := by decide +kernel
theorem dX11_bound_30 : decode cX11_bound 30 = .ok (.goto 13, 3) := by decide +kernel
theorem dX11_bound_33 : decode cX11_bound 33 = .ok (.iload_n 3, 1) := by decide +kernel
theorem dX11_bound_34 : decode cX11_bound 34 = .ok (.iconst 4, 1) := by decide +kernel
theorem dX11_bound_35 : decode cX11_bound 35 = .ok (.if_icmp .gt 7, 3) := by decide +kernel
theorem dX11_bound_38 : decode cX11_bound 38 = .ok (.iconst 2, 1) := by decide +kernel
theorem dX11_bound_39 : decode cX11_bound 39 = .ok (.goto 4, 3) := by decide +kernel
theorem dX11_bound_42 : decode cX11_bound 42 = .ok (.iconst 3, 1) := by decide +kernel
theorem dX11_bound_43 : decode cX11_bound 43 = .ok (.iadd, 1) := by decide +kernel
theorem dX11_bound_44 : decode cX11_bound 44 = .ok (.ireturn, 1) := by decide +kernel
theorem dX11_bound_45 : decode cX11_bound 45 = .ok (.iload_n 3, 1) := by decide +kernel
theorem dX11_bound_46 : decode cX11_bound 46 = .ok (.iconst 1, 1) := by decide +kernel
theorem dX11_bound_47 : decode cX11_bound 47 = .ok (.if_icmp .ne 7, 3) := by decide +kernel
theorem dX11_bound_50 : decode cX11_bound 50 = .ok (.iload_n 2, 1) := by decide +kernel
theorem dX11_bound_51 : decode cX11_bound 51 = .ok (.goto 6, 3) := by decide +kernel
theorem dX11_bound_54 : decode cX11_bound 54 = .ok (.iload_n 2, 1) := by decide +kernel
theorem dX11_bound_55 : decode cX11_bound 55 = .ok (.iconst 1, 1) := by decide +kernel
theorem dX11_bound_56 : decode cX11_bound 56 = .ok (.iadd, 1) := by decide +kernel
theorem dX11_bound_57 : decode cX11_bound 57 = .ok (.ireturn, 1) := by decide +kernel
theorem dX12_thrown_0 : decode cX12_thrown 0 = .ok (.aload_n 0, 1) := by decide +kernel
theorem dX12_thrown_1 : decode cX12_thrown 1 = .ok (.getfield 1, 3) := by decide +kernel
theorem dX12_thrown_4 : decode cX12_thrown 4 = .ok (.ireturn, 1) := by decide +kernel
theorem dX12_within_0 : decode cX12_within 0 = .ok (.lload_n 0, 1) := by decide +kernel
theorem dX12_within_1 : decode cX12_within 1 = .ok (.lload_n 2, 1) := by decide +kernel
theorem dX12_within_2 : decode cX12_within 2 = .ok (.lcmp, 1) := by decide +kernel
theorem dX12_within_3 : decode cX12_within 3 = .ok (.ifCond .lt 14, 3) := by decide +kernel
theorem dX12_within_6 : decode cX12_within 6 = .ok (.lload_n 0, 1) := by decide +kernel
theorem dX12_within_7 : decode cX12_within 7 = .ok (.lload 4, 2) := by decide +kernel
theorem dX12_within_9 : decode cX12_within 9 = .ok (.lcmp, 1) := by decide +kernel
theorem dX12_within_10 : decode cX12_within 10 = .ok (.ifCond .gt 7, 3) := by decide +kernel
theorem dX12_within_13 : decode cX12_within 13 = .ok (.iconst 1, 1) := by decide +kernel
theorem dX12_within_14 : decode cX12_within 14 = .ok (.goto 4, 3) := by decide +kernel
theorem dX12_within_17 : decode cX12_within 17 = .ok (.iconst 0, 1) := by decide +kernel
theorem dX12_within_18 : decode cX12_within 18 = .ok (.ireturn, 1) := by decide +kernel
theorem dX12_copies_0 : decode cX12_copies 0 = .ok (.iconst 0, 1) := by decide +kernel
theorem dX12_copies_1 : decode cX12_copies 1 = .ok (.istore 4, 2) := by decide +kernel
theorem dX12_copies_3 : decode cX12_copies 3 = .ok (.iload 4, 2) := by decide +kernel
theorem dX12_copies_5 : decode cX12_copies 5 = .ok (.bipush 127, 2) := by decide +kernel
theorem dX12_copies_7 : decode cX12_copies 7 = .ok (.if_icmp .ge 21, 3) := by decide +kernel
theorem dX12_copies_10 : decode cX12_copies 10 = .ok (.aload_n 2, 1) := by decide +kernel
theorem dX12_copies_11 : decode cX12_copies 11 = .ok (.iload_n 3, 1) := by decide +kernel
theorem dX12_copies_12 : decode cX12_copies 12 = .ok (.iload 4, 2) := by decide +kernel
theorem dX12_copies_14 : decode cX12_copies 14 = .ok (.iadd, 1) := by decide +kernel
theorem dX12_copies_15 : decode cX12_copies 15 = .ok (.aload_n 0, 1) := by decide +kernel
theorem dX12_copies_16 : decode cX12_copies 16 = .ok (.iload_n 1, 1) := by decide +kernel
theorem dX12_copies_17 : decode cX12_copies 17 = .ok (.iload 4, 2) := by decide +kernel
theorem dX12_copies_19 : decode cX12_copies 19 = .ok (.iadd, 1) := by decide +kernel
theorem dX12_copies_20 : decode cX12_copies 20 = .ok (.iaload, 1) := by decide +kernel
theorem dX12_copies_21 : decode cX12_copies 21 = .ok (.iastore, 1) := by decide +kernel
theorem dX12_copies_22 : decode cX12_copies 22 = .ok (.iinc 4 1, 3) := by decide +kernel
theorem dX12_copies_25 : decode cX12_copies 25 = .ok (.goto (-22), 3) := by decide +kernel
theorem dX12_copies_28 : decode cX12_copies 28 = .ok (.return_, 1) := by decide +kernel
theorem dX12_keeps_0 : decode cX12_keeps 0 = .ok (.aload_n 0, 1) := by decide +kernel
theorem dX12_keeps_1 : decode cX12_keeps 1 = .ok (.getfield 7, 3) := by decide +kernel
theorem dX12_keeps_4 : decode cX12_keeps 4 = .ok (.bipush 12, 2) := by decide +kernel
theorem dX12_keeps_6 : decode cX12_keeps 6 = .ok (.if_icmp .ne 43, 3) := by decide +kernel
theorem dX12_keeps_9 : decode cX12_keeps 9 = .ok (.iconst 0, 1) := by decide +kernel
theorem dX12_keeps_10 : decode cX12_keeps 10 = .ok (.istore_n 1, 1) := by decide +kernel
theorem dX12_keeps_11 : decode cX12_keeps 11 = .ok (.iload_n 1, 1) := by decide +kernel
theorem dX12_keeps_12 : decode cX12_keeps 12 = .ok (.sipush 1397, 3) := by decide +kernel
theorem dX12_keeps_15 : decode cX12_keeps 15 = .ok (.if_icmp .ge 24, 3) := by decide +kernel
theorem dX12_keeps_18 : decode cX12_keeps 18 = .ok (.aload_n 0, 1) := by decide +kernel
theorem dX12_keeps_19 : decode cX12_keeps 19 = .ok (.getfield 10, 3) := by decide +kernel
theorem dX12_keeps_22 : decode cX12_keeps 22 = .ok (.iload_n 1, 1) := by decide +kernel
theorem dX12_keeps_23 : decode cX12_keeps 23 = .ok (.aload_n 0, 1) := by decide +kernel
theorem dX12_keeps_24 : decode cX12_keeps 24 = .ok (.getfield 10, 3) := by decide +kernel
theorem dX12_keeps_27 : decode cX12_keeps 27 = .ok (.iload_n 1, 1) := by decide +kernel
theorem dX12_keeps_28 : decode cX12_keeps 28 = .ok (.bipush 127, 2) := by decide +kernel
theorem dX12_keeps_30 : decode cX12_keeps 30 = .ok (.iadd, 1) := by decide +kernel
theorem dX12_keeps_31 : decode cX12_keeps 31 = .ok (.iaload, 1) := by decide +kernel
theorem dX12_keeps_32 : decode cX12_keeps 32 = .ok (.iastore, 1) := by decide +kernel
theorem dX12_keeps_33 : decode cX12_keeps 33 = .ok (.iinc 1 1, 3) := by decide +kernel
theorem dX12_keeps_36 : decode cX12_keeps 36 = .ok (.goto (-25), 3) := by decide +kernel
theorem dX12_keeps_39 : decode cX12_keeps 39 = .ok (.aload_n 0, 1) := by decide +kernel
theorem dX12_keeps_40 : decode cX12_keeps 40 = .ok (.dup, 1) := by decide +kernel
theorem dX12_keeps_41 : decode cX12_keeps 41 = .ok (.getfield 7, 3) := by decide +kernel
theorem dX12_keeps_44 : decode cX12_keeps 44 = .ok (.iconst 1, 1) := by decide +kernel
theorem dX12_keeps_45 : decode cX12_keeps 45 = .ok (.isub, 1) := by decide +kernel
theorem dX12_keeps_46 : decode cX12_keeps 46 = .ok (.putfield 7, 3) := by decide +kernel
theorem dX12_keeps_49 : decode cX12_keeps 49 = .ok (.aload_n 0, 1) := by decide +kernel
theorem dX12_keeps_50 : decode cX12_keeps 50 = .ok (.getfield 14, 3) := by decide +kernel
theorem dX12_keeps_53 : decode cX12_keeps 53 = .ok (.iconst 0, 1) := by decide +kernel
theorem dX12_keeps_54 : decode cX12_keeps 54 = .ok (.aload_n 0, 1) := by decide +kernel
theorem dX12_keeps_55 : decode cX12_keeps 55 = .ok (.getfield 10, 3) := by decide +kernel
theorem dX12_keeps_58 : decode cX12_keeps 58 = .ok (.bipush 127, 2) := by decide +kernel
theorem dX12_keeps_60 : decode cX12_keeps 60 = .ok (.aload_n 0, 1) := by decide +kernel
theorem dX12_keeps_61 : decode cX12_keeps 61 = .ok (.getfield 7, 3) := by decide +kernel
theorem dX12_keeps_64 : decode cX12_keeps 64 = .ok (.imul, 1) := by decide +kernel
theorem dX12_keeps_65 : decode cX12_keeps 65 = .ok (.invokestatic 17, 3) := by decide +kernel
theorem dX12_keeps_68 : decode cX12_keeps 68 = .ok (.aload_n 0, 1) := by decide +kernel
theorem dX12_keeps_69 : decode cX12_keeps 69 = .ok (.dup, 1) := by decide +kernel
theorem dX12_keeps_70 : decode cX12_keeps 70 = .ok (.getfield 7, 3) := by decide +kernel
theorem dX12_keeps_73 : decode cX12_keeps 73 = .ok (.iconst 1, 1) := by decide +kernel
theorem dX12_keeps_74 : decode cX12_keeps 74 = .ok (.iadd, 1) := by decide +kernel
theorem dX12_keeps_75 : decode cX12_keeps 75 = .ok (.putfield 7, 3) := by decide +kernel
theorem dX12_keeps_78 : decode cX12_keeps 78 = .ok (.return_, 1) := by decide +kernel
theorem dX12_becomes_0 : decode cX12_becomes 0 = .ok (.aload_n 0, 1) := by decide +kernel
theorem dX12_becomes_1 : decode cX12_becomes 1 = .ok (.invokevirtual 21, 3) := by decide +kernel
theorem dX12_becomes_4 : decode cX12_becomes 4 = .ok (.aload_n 0, 1) := by decide +kernel
theorem dX12_becomes_5 : decode cX12_becomes 5 = .ok (.getfield 25, 3) := by decide +kernel
theorem dX12_becomes_8 : decode cX12_becomes 8 = .ok (.iconst 0, 1) := by decide +kernel
theorem dX12_becomes_9 : decode cX12_becomes 9 = .ok (.aload_n 0, 1) := by decide +kernel
theorem dX12_becomes_10 : decode cX12_becomes 10 = .ok (.getfield 14, 3) := by decide +kernel
theorem dX12_becomes_13 : decode cX12_becomes 13 = .ok (.iconst 0, 1) := by decide +kernel
theorem dX12_becomes_14 : decode cX12_becomes 14 = .ok (.invokestatic 17, 3) := by decide +kernel
theorem dX12_becomes_17 : decode cX12_becomes 17 = .ok (.aload_n 0, 1) := by decide +kernel
theorem dX12_becomes_18 : decode cX12_becomes 18 = .ok (.getfield 14, 3) := by decide +kernel
theorem dX12_becomes_21 : decode cX12_becomes 21 = .ok (.iconst 1, 1) := by decide +kernel
theorem dX12_becomes_22 : decode cX12_becomes 22 = .ok (.iaload, 1) := by decide +kernel
theorem dX12_becomes_23 : decode cX12_becomes 23 = .ok (.ireturn, 1) := by decide +kernel
theorem dX12_nodes_0 : decode cX12_nodes 0 = .ok (.aload_n 0, 1) := by decide +kernel
theorem dX12_nodes_1 : decode cX12_nodes 1 = .ok (.iconst 0, 1) := by decide +kernel
theorem dX12_nodes_2 : decode cX12_nodes 2 = .ok (.iaload, 1) := by decide +kernel
theorem dX12_nodes_3 : decode cX12_nodes 3 = .ok (.aload_n 0, 1) := by decide +kernel
theorem dX12_nodes_4 : decode cX12_nodes 4 = .ok (.iconst 1, 1) := by decide +kernel
theorem dX12_nodes_5 : decode cX12_nodes 5 = .ok (.iaload, 1) := by decide +kernel
theorem dX12_nodes_6 : decode cX12_nodes 6 = .ok (.iadd, 1) := by decide +kernel
theorem dX12_nodes_7 : decode cX12_nodes 7 = .ok (.ireturn, 1) := by decide +kernel
theorem dX12_leftOf_0 : decode cX12_leftOf 0 = .ok (.iload_n 1, 1) := by decide +kernel
theorem dX12_leftOf_1 : decode cX12_leftOf 1 = .ok (.aload_n 0, 1) := by decide +kernel
theorem dX12_leftOf_2 : decode cX12_leftOf 2 = .ok (.iconst 0, 1) := by decide +kernel
theorem dX12_leftOf_3 : decode cX12_leftOf 3 = .ok (.iaload, 1) := by decide +kernel
theorem dX12_leftOf_4 : decode cX12_leftOf 4 = .ok (.if_icmp .ge 7, 3) := by decide +kernel
theorem dX12_leftOf_7 : decode cX12_leftOf 7 = .ok (.iconst (-1), 1) := by decide +kernel
theorem dX12_leftOf_8 : decode cX12_leftOf 8 = .ok (.goto 12, 3) := by decide +kernel
theorem dX12_leftOf_11 : decode cX12_leftOf 11 = .ok (.aload_n 0, 1) := by decide +kernel
theorem dX12_leftOf_12 : decode cX12_leftOf 12 = .ok (.iconst 3, 1) := by decide +kernel
theorem dX12_leftOf_13 : decode cX12_leftOf 13 = .ok (.iload_n 1, 1) := by decide +kernel
theorem dX12_leftOf_14 : decode cX12_leftOf 14 = .ok (.iadd, 1) := by decide +kernel
theorem dX12_leftOf_15 : decode cX12_leftOf 15 = .ok (.aload_n 0, 1) := by decide +kernel
theorem dX12_leftOf_16 : decode cX12_leftOf 16 = .ok (.iconst 0, 1) := by decide +kernel
theorem dX12_leftOf_17 : decode cX12_leftOf 17 = .ok (.iaload, 1) := by decide +kernel
theorem dX12_leftOf_18 : decode cX12_leftOf 18 = .ok (.isub, 1) := by decide +kernel
theorem dX12_leftOf_19 : decode cX12_leftOf 19 = .ok (.iaload, 1) := by decide +kernel
theorem dX12_leftOf_20 : decode cX12_leftOf 20 = .ok (.ireturn, 1) := by decide +kernel
theorem dX12_rightOf_0 : decode cX12_rightOf 0 = .ok (.iload_n 1, 1) := by decide +kernel
theorem dX12_rightOf_1 : decode cX12_rightOf 1 = .ok (.aload_n 0, 1) := by decide +kernel
theorem dX12_rightOf_2 : decode cX12_rightOf 2 = .ok (.iconst 0, 1) := by decide +kernel
theorem dX12_rightOf_3 : decode cX12_rightOf 3 = .ok (.iaload, 1) := by decide +kernel
theorem dX12_rightOf_4 : decode cX12_rightOf 4 = .ok (.if_icmp .ge 7, 3) := by decide +kernel
theorem dX12_rightOf_7 : decode cX12_rightOf 7 = .ok (.iconst (-1), 1) := by decide +kernel
theorem dX12_rightOf_8 : decode cX12_rightOf 8 = .ok (.goto 13, 3) := by decide +kernel
theorem dX12_rightOf_11 : decode cX12_rightOf 11 = .ok (.aload_n 0, 1) := by decide +kernel
theorem dX12_rightOf_12 : decode cX12_rightOf 12 = .ok (.bipush 63, 2) := by decide +kernel
theorem dX12_rightOf_14 : decode cX12_rightOf 14 = .ok (.iload_n 1, 1) := by decide +kernel
theorem dX12_rightOf_15 : decode cX12_rightOf 15 = .ok (.iadd, 1) := by decide +kernel
theorem dX12_rightOf_16 : decode cX12_rightOf 16 = .ok (.aload_n 0, 1) := by decide +kernel
theorem dX12_rightOf_17 : decode cX12_rightOf 17 = .ok (.iconst 0, 1) := by decide +kernel
theorem dX12_rightOf_18 : decode cX12_rightOf 18 = .ok (.iaload, 1) := by decide +kernel
theorem dX12_rightOf_19 : decode cX12_rightOf 19 = .ok (.isub, 1) := by decide +kernel
theorem dX12_rightOf_20 : decode cX12_rightOf 20 = .ok (.iaload, 1) := by decide +kernel
theorem dX12_rightOf_21 : decode cX12_rightOf 21 = .ok (.ireturn, 1) := by decide +kernel
theorem dX12_puts_0 : decode cX12_puts 0 = .ok (.aload_n 0, 1) := by decide +kernel
theorem dX12_puts_1 : decode cX12_puts 1 = .ok (.iconst 3, 1) := by decide +kernel
theorem dX12_puts_2 : decode cX12_puts 2 = .ok (.aload_n 0, 1) := by decide +kernel
theorem dX12_puts_3 : decode cX12_puts 3 = .ok (.iconst 1, 1) := by decide +kernel
theorem dX12_puts_4 : decode cX12_puts 4 = .ok (.iaload, 1) := by decide +kernel
theorem dX12_puts_5 : decode cX12_puts 5 = .ok (.iadd, 1) := by decide +kernel
theorem dX12_puts_6 : decode cX12_puts 6 = .ok (.iload_n 1, 1) := by decide +kernel
theorem dX12_puts_7 : decode cX12_puts 7 = .ok (.iastore, 1) := by decide +kernel
theorem dX12_puts_8 : decode cX12_puts 8 = .ok (.aload_n 0, 1) := by decide +kernel
theorem dX12_puts_9 : decode cX12_puts 9 = .ok (.bipush 63, 2) := by decide +kernel
theorem dX12_puts_11 : decode cX12_puts 11 = .ok (.aload_n 0, 1) := by decide +kernel
theorem dX12_puts_12 : decode cX12_puts 12 = .ok (.iconst 1, 1) := by decide +kernel
theorem dX12_puts_13 : decode cX12_puts 13 = .ok (.iaload, 1) := by decide +kernel
theorem dX12_puts_14 : decode cX12_puts 14 = .ok (.iadd, 1) := by decide +kernel
theorem dX12_puts_15 : decode cX12_puts 15 = .ok (.iload_n 2, 1) := by decide +kernel
theorem dX12_puts_16 : decode cX12_puts 16 = .ok (.iastore, 1) := by decide +kernel
theorem dX12_puts_17 : decode cX12_puts 17 = .ok (.aload_n 0, 1) := by decide +kernel
theorem dX12_puts_18 : decode cX12_puts 18 = .ok (.iconst 1, 1) := by decide +kernel
theorem dX12_puts_19 : decode cX12_puts 19 = .ok (.dup2, 1) := by decide +kernel
theorem dX12_puts_20 : decode cX12_puts 20 = .ok (.iaload, 1) := by decide +kernel
theorem dX12_puts_21 : decode cX12_puts 21 = .ok (.iconst 1, 1) := by decide +kernel
theorem dX12_puts_22 : decode cX12_puts 22 = .ok (.iadd, 1) := by decide +kernel
theorem dX12_puts_23 : decode cX12_puts 23 = .ok (.iastore, 1) := by decide +kernel
theorem dX12_puts_24 : decode cX12_puts 24 = .ok (.aload_n 0, 1) := by decide +kernel
theorem dX12_puts_25 : decode cX12_puts 25 = .ok (.invokestatic 28, 3) := by decide +kernel
theorem dX12_puts_28 : decode cX12_puts 28 = .ok (.iconst 1, 1) := by decide +kernel
theorem dX12_puts_29 : decode cX12_puts 29 = .ok (.isub, 1) := by decide +kernel
theorem dX12_puts_30 : decode cX12_puts 30 = .ok (.ireturn, 1) := by decide +kernel
theorem dX12_clears_0 : decode cX12_clears 0 = .ok (.iconst 0, 1) := by decide +kernel
theorem dX12_clears_1 : decode cX12_clears 1 = .ok (.istore_n 1, 1) := by decide +kernel
theorem dX12_clears_2 : decode cX12_clears 2 = .ok (.iload_n 1, 1) := by decide +kernel
theorem dX12_clears_3 : decode cX12_clears 3 = .ok (.bipush 127, 2) := by decide +kernel
theorem dX12_clears_5 : decode cX12_clears 5 = .ok (.if_icmp .ge 13, 3) := by decide +kernel
theorem dX12_clears_8 : decode cX12_clears 8 = .ok (.aload_n 0, 1) := by decide +kernel
theorem dX12_clears_9 : decode cX12_clears 9 = .ok (.iload_n 1, 1) := by decide +kernel
theorem dX12_clears_10 : decode cX12_clears 10 = .ok (.iconst 0, 1) := by decide +kernel
theorem dX12_clears_11 : decode cX12_clears 11 = .ok (.iastore, 1) := by decide +kernel
theorem dX12_clears_12 : decode cX12_clears 12 = .ok (.iinc 1 1, 3) := by decide +kernel
theorem dX12_clears_15 : decode cX12_clears 15 = .ok (.goto (-13), 3) := by decide +kernel
theorem dX12_clears_18 : decode cX12_clears 18 = .ok (.return_, 1) := by decide +kernel
theorem dX12_powersOf_0 : decode cX12_powersOf 0 = .ok (.iconst 0, 1) := by decide +kernel
theorem dX12_powersOf_1 : decode cX12_powersOf 1 = .ok (.istore_n 2, 1) := by decide +kernel
theorem dX12_powersOf_2 : decode cX12_powersOf 2 = .ok (.iload_n 2, 1) := by decide +kernel
theorem dX12_powersOf_3 : decode cX12_powersOf 3 = .ok (.aload_n 1, 1) := by decide +kernel
theorem dX12_powersOf_4 : decode cX12_powersOf 4 = .ok (.invokestatic 28, 3) := by decide +kernel
theorem dX12_powersOf_7 : decode cX12_powersOf 7 = .ok (.if_icmp .ge 83, 3) := by decide +kernel
theorem dX12_powersOf_10 : decode cX12_powersOf 10 = .ok (.iconst 0, 1) := by decide +kernel
theorem dX12_powersOf_11 : decode cX12_powersOf 11 = .ok (.istore_n 3, 1) := by decide +kernel
theorem dX12_powersOf_12 : decode cX12_powersOf 12 = .ok (.iload_n 3, 1) := by decide +kernel
theorem dX12_powersOf_13 : decode cX12_powersOf 13 = .ok (.aload_n 1, 1) := by decide +kernel
theorem dX12_powersOf_14 : decode cX12_powersOf 14 = .ok (.iconst 0, 1) := by decide +kernel
theorem dX12_powersOf_15 : decode cX12_powersOf 15 = .ok (.iaload, 1) := by decide +kernel
theorem dX12_powersOf_16 : decode cX12_powersOf 16 = .ok (.if_icmp .ge 68, 3) := by decide +kernel
theorem dX12_powersOf_19 : decode cX12_powersOf 19 = .ok (.aload_n 0, 1) := by decide +kernel
theorem dX12_powersOf_20 : decode cX12_powersOf 20 = .ok (.getfield 32, 3) := by decide +kernel
theorem dX12_powersOf_23 : decode cX12_powersOf 23 = .ok (.iconst 4, 1) := by decide +kernel
theorem dX12_powersOf_24 : decode cX12_powersOf 24 = .ok (.iload_n 2, 1) := by decide +kernel
theorem dX12_powersOf_25 : decode cX12_powersOf 25 = .ok (.imul, 1) := by decide +kernel
theorem dX12_powersOf_26 : decode cX12_powersOf 26 = .ok (.iload_n 3, 1) := by decide +kernel
theorem dX12_powersOf_27 : decode cX12_powersOf 27 = .ok (.iadd, 1) := by decide +kernel
theorem dX12_powersOf_28 : decode cX12_powersOf 28 = .ok (.iload_n 2, 1) := by decide +kernel
theorem dX12_powersOf_29 : decode cX12_powersOf 29 = .ok (.aload_n 1, 1) := by decide +kernel
theorem dX12_powersOf_30 : decode cX12_powersOf 30 = .ok (.iconst 0, 1) := by decide +kernel
theorem dX12_powersOf_31 : decode cX12_powersOf 31 = .ok (.iaload, 1) := by decide +kernel
theorem dX12_powersOf_32 : decode cX12_powersOf 32 = .ok (.if_icmp .ge 16, 3) := by decide +kernel
theorem dX12_powersOf_35 : decode cX12_powersOf 35 = .ok (.iload_n 2, 1) := by decide +kernel
theorem dX12_powersOf_36 : decode cX12_powersOf 36 = .ok (.iload_n 3, 1) := by decide +kernel
theorem dX12_powersOf_37 : decode cX12_powersOf 37 = .ok (.if_icmp .ne 7, 3) := by decide +kernel
theorem dX12_powersOf_40 : decode cX12_powersOf 40 = .ok (.lconst 1, 1) := by decide +kernel
theorem dX12_powersOf_41 : decode cX12_powersOf 41 = .ok (.goto 36, 3) := by decide +kernel
theorem dX12_powersOf_44 : decode cX12_powersOf 44 = .ok (.lconst 0, 1) := by decide +kernel
theorem dX12_powersOf_45 : decode cX12_powersOf 45 = .ok (.goto 32, 3) := by decide +kernel
theorem dX12_powersOf_48 : decode cX12_powersOf 48 = .ok (.aload_n 0, 1) := by decide +kernel
theorem dX12_powersOf_49 : decode cX12_powersOf 49 = .ok (.getfield 32, 3) := by decide +kernel
theorem dX12_powersOf_52 : decode cX12_powersOf 52 = .ok (.iconst 4, 1) := by decide +kernel
theorem dX12_powersOf_53 : decode cX12_powersOf 53 = .ok (.aload_n 1, 1) := by decide +kernel
theorem dX12_powersOf_54 : decode cX12_powersOf 54 = .ok (.iload_n 2, 1) := by decide +kernel
theorem dX12_powersOf_55 : decode cX12_powersOf 55 = .ok (.invokestatic 36, 3) := by decide +kernel
theorem dX12_powersOf_58 : decode cX12_powersOf 58 = .ok (.imul, 1) := by decide +kernel
theorem dX12_powersOf_59 : decode cX12_powersOf 59 = .ok (.iload_n 3, 1) := by decide +kernel
theorem dX12_powersOf_60 : decode cX12_powersOf 60 = .ok (.iadd, 1) := by decide +kernel
theorem dX12_powersOf_61 : decode cX12_powersOf 61 = .ok (.laload, 1) := by decide +kernel
theorem dX12_powersOf_62 : decode cX12_powersOf 62 = .ok (.aload_n 0, 1) := by decide +kernel
theorem dX12_powersOf_63 : decode cX12_powersOf 63 = .ok (.getfield 32, 3) := by decide +kernel
theorem dX12_powersOf_66 : decode cX12_powersOf 66 = .ok (.iconst 4, 1) := by decide +kernel
theorem dX12_powersOf_67 : decode cX12_powersOf 67 = .ok (.aload_n 1, 1) := by decide +kernel
theorem dX12_powersOf_68 : decode cX12_powersOf 68 = .ok (.iload_n 2, 1) := by decide +kernel
theorem dX12_powersOf_69 : decode cX12_powersOf 69 = .ok (.invokestatic 40, 3) := by decide +kernel
theorem dX12_powersOf_72 : decode cX12_powersOf 72 = .ok (.imul, 1) := by decide +kernel
theorem dX12_powersOf_73 : decode cX12_powersOf 73 = .ok (.iload_n 3, 1) := by decide +kernel
theorem dX12_powersOf_74 : decode cX12_powersOf 74 = .ok (.iadd, 1) := by decide +kernel
theorem dX12_powersOf_75 : decode cX12_powersOf 75 = .ok (.laload, 1) := by decide +kernel
theorem dX12_powersOf_76 : decode cX12_powersOf 76 = .ok (.ladd, 1) := by decide +kernel
theorem dX12_powersOf_77 : decode cX12_powersOf 77 = .ok (.lastore, 1) := by decide +kernel
theorem dX12_powersOf_78 : decode cX12_powersOf 78 = .ok (.iinc 3 1, 3) := by decide +kernel
theorem dX12_powersOf_81 : decode cX12_powersOf 81 = .ok (.goto (-69), 3) := by decide +kernel
theorem dX12_powersOf_84 : decode cX12_powersOf 84 = .ok (.iinc 2 1, 3) := by decide +kernel
theorem dX12_powersOf_87 : decode cX12_powersOf 87 = .ok (.goto (-85), 3) := by decide +kernel
theorem dX12_powersOf_90 : decode cX12_powersOf 90 = .ok (.return_, 1) := by decide +kernel
theorem dX12_areHuge_0 : decode cX12_areHuge 0 = .ok (.aload_n 0, 1) := by decide +kernel
theorem dX12_areHuge_1 : decode cX12_areHuge 1 = .ok (.aload_n 1, 1) := by decide +kernel
theorem dX12_areHuge_2 : decode cX12_areHuge 2 = .ok (.invokevirtual 43, 3) := by decide +kernel
theorem dX12_areHuge_5 : decode cX12_areHuge 5 = .ok (.iconst 0, 1) := by decide +kernel
theorem dX12_areHuge_6 : decode cX12_areHuge 6 = .ok (.istore_n 2, 1) := by decide +kernel
theorem dX12_areHuge_7 : decode cX12_areHuge 7 = .ok (.iload_n 2, 1) := by decide +kernel
theorem dX12_areHuge_8 : decode cX12_areHuge 8 = .ok (.aload_n 1, 1) := by decide +kernel
theorem dX12_areHuge_9 : decode cX12_areHuge 9 = .ok (.invokestatic 28, 3) := by decide +kernel
theorem dX12_areHuge_12 : decode cX12_areHuge 12 = .ok (.if_icmp .ge 43, 3) := by decide +kernel
theorem dX12_areHuge_15 : decode cX12_areHuge 15 = .ok (.iconst 0, 1) := by decide +kernel
theorem dX12_areHuge_16 : decode cX12_areHuge 16 = .ok (.istore_n 3, 1) := by decide +kernel
theorem dX12_areHuge_17 : decode cX12_areHuge 17 = .ok (.iload_n 3, 1) := by decide +kernel
theorem dX12_areHuge_18 : decode cX12_areHuge 18 = .ok (.aload_n 1, 1) := by decide +kernel
theorem dX12_areHuge_19 : decode cX12_areHuge 19 = .ok (.iconst 0, 1) := by decide +kernel
theorem dX12_areHuge_20 : decode cX12_areHuge 20 = .ok (.iaload, 1) := by decide +kernel
theorem dX12_areHuge_21 : decode cX12_areHuge 21 = .ok (.if_icmp .ge 28, 3) := by decide +kernel
theorem dX12_areHuge_24 : decode cX12_areHuge 24 = .ok (.aload_n 0, 1) := by decide +kernel
theorem dX12_areHuge_25 : decode cX12_areHuge 25 = .ok (.getfield 32, 3) := by decide +kernel
theorem dX12_areHuge_28 : decode cX12_areHuge 28 = .ok (.iconst 4, 1) := by decide +kernel
theorem dX12_areHuge_29 : decode cX12_areHuge 29 = .ok (.iload_n 2, 1) := by decide +kernel
theorem dX12_areHuge_30 : decode cX12_areHuge 30 = .ok (.imul, 1) := by decide +kernel
theorem dX12_areHuge_31 : decode cX12_areHuge 31 = .ok (.iload_n 3, 1) := by decide +kernel
theorem dX12_areHuge_32 : decode cX12_areHuge 32 = .ok (.iadd, 1) := by decide +kernel
theorem dX12_areHuge_33 : decode cX12_areHuge 33 = .ok (.laload, 1) := by decide +kernel
theorem dX12_areHuge_34 : decode cX12_areHuge 34 = .ok (.ldc2_w 47, 3) := by decide +kernel
theorem dX12_areHuge_37 : decode cX12_areHuge 37 = .ok (.lcmp, 1) := by decide +kernel
theorem dX12_areHuge_38 : decode cX12_areHuge 38 = .ok (.ifCond .le 5, 3) := by decide +kernel
theorem dX12_areHuge_41 : decode cX12_areHuge 41 = .ok (.iconst 1, 1) := by decide +kernel
theorem dX12_areHuge_42 : decode cX12_areHuge 42 = .ok (.ireturn, 1) := by decide +kernel
theorem dX12_areHuge_43 : decode cX12_areHuge 43 = .ok (.iinc 3 1, 3) := by decide +kernel
theorem dX12_areHuge_46 : decode cX12_areHuge 46 = .ok (.goto (-29), 3) := by decide +kernel
theorem dX12_areHuge_49 : decode cX12_areHuge 49 = .ok (.iinc 2 1, 3) := by decide +kernel
theorem dX12_areHuge_52 : decode cX12_areHuge 52 = .ok (.goto (-45), 3) := by decide +kernel
theorem dX12_areHuge_55 : decode cX12_areHuge 55 = .ok (.iconst 0, 1) := by decide +kernel
theorem dX12_areHuge_56 : decode cX12_areHuge 56 = .ok (.ireturn, 1) := by decide +kernel
theorem dX12_areAlike_0 : decode cX12_areAlike 0 = .ok (.iconst 0, 1) := by decide +kernel
theorem dX12_areAlike_1 : decode cX12_areAlike 1 = .ok (.istore 4, 2) := by decide +kernel
theorem dX12_areAlike_3 : decode cX12_areAlike 3 = .ok (.iload 4, 2) := by decide +kernel
theorem dX12_areAlike_5 : decode cX12_areAlike 5 = .ok (.iload_n 3, 1) := by decide +kernel
theorem dX12_areAlike_6 : decode cX12_areAlike 6 = .ok (.if_icmp .ge 37, 3) := by decide +kernel
theorem dX12_areAlike_9 : decode cX12_areAlike 9 = .ok (.aload_n 0, 1) := by decide +kernel
theorem dX12_areAlike_10 : decode cX12_areAlike 10 = .ok (.getfield 32, 3) := by decide +kernel
theorem dX12_areAlike_13 : decode cX12_areAlike 13 = .ok (.iconst 4, 1) := by decide +kernel
theorem dX12_areAlike_14 : decode cX12_areAlike 14 = .ok (.iload_n 1, 1) := by decide +kernel
theorem dX12_areAlike_15 : decode cX12_areAlike 15 = .ok (.imul, 1) := by decide +kernel
theorem dX12_areAlike_16 : decode cX12_areAlike 16 = .ok (.iload 4, 2) := by decide +kernel
theorem dX12_areAlike_18 : decode cX12_areAlike 18 = .ok (.iadd, 1) := by decide +kernel
theorem dX12_areAlike_19 : decode cX12_areAlike 19 = .ok (.laload, 1) := by decide +kernel
theorem dX12_areAlike_20 : decode cX12_areAlike 20 = .ok (.aload_n 0, 1) := by decide +kernel
theorem dX12_areAlike_21 : decode cX12_areAlike 21 = .ok (.getfield 32, 3) := by decide +kernel
theorem dX12_areAlike_24 : decode cX12_areAlike 24 = .ok (.iconst 4, 1) := by decide +kernel
theorem dX12_areAlike_25 : decode cX12_areAlike 25 = .ok (.iload_n 2, 1) := by decide +kernel
theorem dX12_areAlike_26 : decode cX12_areAlike 26 = .ok (.imul, 1) := by decide +kernel
theorem dX12_areAlike_27 : decode cX12_areAlike 27 = .ok (.iload 4, 2) := by decide +kernel
theorem dX12_areAlike_29 : decode cX12_areAlike 29 = .ok (.iadd, 1) := by decide +kernel
theorem dX12_areAlike_30 : decode cX12_areAlike 30 = .ok (.laload, 1) := by decide +kernel
theorem dX12_areAlike_31 : decode cX12_areAlike 31 = .ok (.lcmp, 1) := by decide +kernel
theorem dX12_areAlike_32 : decode cX12_areAlike 32 = .ok (.ifCond .eq 5, 3) := by decide +kernel
theorem dX12_areAlike_35 : decode cX12_areAlike 35 = .ok (.iconst 0, 1) := by decide +kernel
theorem dX12_areAlike_36 : decode cX12_areAlike 36 = .ok (.ireturn, 1) := by decide +kernel
theorem dX12_areAlike_37 : decode cX12_areAlike 37 = .ok (.iinc 4 1, 3) := by decide +kernel
theorem dX12_areAlike_40 : decode cX12_areAlike 40 = .ok (.goto (-37), 3) := by decide +kernel
theorem dX12_areAlike_43 : decode cX12_areAlike 43 = .ok (.iconst 1, 1) := by decide +kernel
theorem dX12_areAlike_44 : decode cX12_areAlike 44 = .ok (.ireturn, 1) := by decide +kernel
theorem dX12_firstAlike_0 : decode cX12_firstAlike 0 = .ok (.iconst 0, 1) := by decide +kernel
theorem dX12_firstAlike_1 : decode cX12_firstAlike 1 = .ok (.istore_n 3, 1) := by decide +kernel
theorem dX12_firstAlike_2 : decode cX12_firstAlike 2 = .ok (.aload_n 0, 1) := by decide +kernel
theorem dX12_firstAlike_3 : decode cX12_firstAlike 3 = .ok (.iload_n 3, 1) := by decide +kernel
theorem dX12_firstAlike_4 : decode cX12_firstAlike 4 = .ok (.iload_n 1, 1) := by decide +kernel
theorem dX12_firstAlike_5 : decode cX12_firstAlike 5 = .ok (.iload_n 2, 1) := by decide +kernel
theorem dX12_firstAlike_6 : decode cX12_firstAlike 6 = .ok (.invokevirtual 49, 3) := by decide +kernel
theorem dX12_firstAlike_9 : decode cX12_firstAlike 9 = .ok (.ifCond .ne 9, 3) := by decide +kernel
theorem dX12_firstAlike_12 : decode cX12_firstAlike 12 = .ok (.iinc 3 1, 3) := by decide +kernel
theorem dX12_firstAlike_15 : decode cX12_firstAlike 15 = .ok (.goto (-13), 3) := by decide +kernel
theorem dX12_firstAlike_18 : decode cX12_firstAlike 18 = .ok (.iload_n 3, 1) := by decide +kernel
theorem dX12_firstAlike_19 : decode cX12_firstAlike 19 = .ok (.ireturn, 1) := by decide +kernel
theorem dX12_feed_0 : decode cX12_feed 0 = .ok (.aload_n 0, 1) := by decide +kernel
theorem dX12_feed_1 : decode cX12_feed 1 = .ok (.iconst 0, 1) := by decide +kernel
theorem dX12_feed_2 : decode cX12_feed 2 = .ok (.putfield 1, 3) := by decide +kernel
theorem dX12_feed_5 : decode cX12_feed 5 = .ok (.aload_n 0, 1) := by decide +kernel
theorem dX12_feed_6 : decode cX12_feed 6 = .ok (.getfield 53, 3) := by decide +kernel
theorem dX12_feed_9 : decode cX12_feed 9 = .ok (.bipush 20, 2) := by decide +kernel
theorem dX12_feed_11 : decode cX12_feed 11 = .ok (.iadd, 1) := by decide +kernel
theorem dX12_feed_12 : decode cX12_feed 12 = .ok (.sipush 500, 3) := by decide +kernel
theorem dX12_feed_15 : decode cX12_feed 15 = .ok (.if_icmp .le 5, 3) := by decide +kernel
theorem dX12_feed_18 : decode cX12_feed 18 = .ok (.iconst (-1), 1) := by decide +kernel
theorem dX12_feed_19 : decode cX12_feed 19 = .ok (.ireturn, 1) := by decide +kernel
theorem dX12_feed_20 : decode cX12_feed 20 = .ok (.aload_n 0, 1) := by decide +kernel
theorem dX12_feed_21 : decode cX12_feed 21 = .ok (.iload_n 1, 1) := by decide +kernel
theorem dX12_feed_22 : decode cX12_feed 22 = .ok (.invokevirtual 56, 3) := by decide +kernel
theorem dX12_feed_25 : decode cX12_feed 25 = .ok (.aload_n 0, 1) := by decide +kernel
theorem dX12_feed_26 : decode cX12_feed 26 = .ok (.iload_n 2, 1) := by decide +kernel
theorem dX12_feed_27 : decode cX12_feed 27 = .ok (.invokevirtual 56, 3) := by decide +kernel
theorem dX12_feed_30 : decode cX12_feed 30 = .ok (.aload_n 0, 1) := by decide +kernel
theorem dX12_feed_31 : decode cX12_feed 31 = .ok (.iload_n 3, 1) := by decide +kernel
theorem dX12_feed_32 : decode cX12_feed 32 = .ok (.invokevirtual 56, 3) := by decide +kernel
theorem dX12_feed_35 : decode cX12_feed 35 = .ok (.aload_n 0, 1) := by decide +kernel
theorem dX12_feed_36 : decode cX12_feed 36 = .ok (.iload 4, 2) := by decide +kernel
theorem dX12_feed_38 : decode cX12_feed 38 = .ok (.invokevirtual 56, 3) := by decide +kernel
theorem dX12_feed_41 : decode cX12_feed 41 = .ok (.aload_n 0, 1) := by decide +kernel
theorem dX12_feed_42 : decode cX12_feed 42 = .ok (.iload 5, 2) := by decide +kernel
theorem dX12_feed_44 : decode cX12_feed 44 = .ok (.invokevirtual 56, 3) := by decide +kernel
theorem dX12_feed_47 : decode cX12_feed 47 = .ok (.aload_n 0, 1) := by decide +kernel
theorem dX12_feed_48 : decode cX12_feed 48 = .ok (.getfield 53, 3) := by decide +kernel
theorem dX12_feed_51 : decode cX12_feed 51 = .ok (.ireturn, 1) := by decide +kernel
theorem dX12_four_0 : decode cX12_four 0 = .ok (.bipush 24, 2) := by decide +kernel
theorem dX12_four_2 : decode cX12_four 2 = .ok (.istore_n 2, 1) := by decide +kernel
theorem dX12_four_3 : decode cX12_four 3 = .ok (.iload_n 2, 1) := by decide +kernel
theorem dX12_four_4 : decode cX12_four 4 = .ok (.ifCond .lt 32, 3) := by decide +kernel
theorem dX12_four_7 : decode cX12_four 7 = .ok (.aload_n 0, 1) := by decide +kernel
theorem dX12_four_8 : decode cX12_four 8 = .ok (.getfield 60, 3) := by decide +kernel
theorem dX12_four_11 : decode cX12_four 11 = .ok (.aload_n 0, 1) := by decide +kernel
theorem dX12_four_12 : decode cX12_four 12 = .ok (.getfield 53, 3) := by decide +kernel
theorem dX12_four_15 : decode cX12_four 15 = .ok (.iload_n 1, 1) := by decide +kernel
theorem dX12_four_16 : decode cX12_four 16 = .ok (.iload_n 2, 1) := by decide +kernel
theorem dX12_four_17 : decode cX12_four 17 = .ok (.ishr, 1) := by decide +kernel
theorem dX12_four_18 : decode cX12_four 18 = .ok (.i2b, 1) := by decide +kernel
theorem dX12_four_19 : decode cX12_four 19 = .ok (.bastore, 1) := by decide +kernel
theorem dX12_four_20 : decode cX12_four 20 = .ok (.aload_n 0, 1) := by decide +kernel
theorem dX12_four_21 : decode cX12_four 21 = .ok (.dup, 1) := by decide +kernel
theorem dX12_four_22 : decode cX12_four 22 = .ok (.getfield 53, 3) := by decide +kernel
theorem dX12_four_25 : decode cX12_four 25 = .ok (.iconst 1, 1) := by decide +kernel
theorem dX12_four_26 : decode cX12_four 26 = .ok (.iadd, 1) := by decide +kernel
theorem dX12_four_27 : decode cX12_four 27 = .ok (.putfield 53, 3) := by decide +kernel
theorem dX12_four_30 : decode cX12_four 30 = .ok (.iinc 2 (-8), 3) := by decide +kernel
theorem dX12_four_33 : decode cX12_four 33 = .ok (.goto (-30), 3) := by decide +kernel
theorem dX12_four_36 : decode cX12_four 36 = .ok (.return_, 1) := by decide +kernel
theorem dX12_byteAt_0 : decode cX12_byteAt 0 = .ok (.iload_n 1, 1) := by decide +kernel
theorem dX12_byteAt_1 : decode cX12_byteAt 1 = .ok (.aload_n 0, 1) := by decide +kernel
theorem dX12_byteAt_2 : decode cX12_byteAt 2 = .ok (.getfield 64, 3) := by decide +kernel
theorem dX12_byteAt_5 : decode cX12_byteAt 5 = .ok (.if_icmp .ge 16, 3) := by decide +kernel
theorem dX12_byteAt_8 : decode cX12_byteAt 8 = .ok (.aload_n 0, 1) := by decide +kernel
theorem dX12_byteAt_9 : decode cX12_byteAt 9 = .ok (.getfield 60, 3) := by decide +kernel
theorem dX12_byteAt_12 : decode cX12_byteAt 12 = .ok (.iload_n 1, 1) := by decide +kernel
theorem dX12_byteAt_13 : decode cX12_byteAt 13 = .ok (.baload, 1) := by decide +kernel
theorem dX12_byteAt_14 : decode cX12_byteAt 14 = .ok (.sipush 255, 3) := by decide +kernel
theorem dX12_byteAt_17 : decode cX12_byteAt 17 = .ok (.iand, 1) := by decide +kernel
theorem dX12_byteAt_18 : decode cX12_byteAt 18 = .ok (.goto 4, 3) := by decide +kernel
theorem dX12_byteAt_21 : decode cX12_byteAt 21 = .ok (.iconst (-1), 1) := by decide +kernel
theorem dX12_byteAt_22 : decode cX12_byteAt 22 = .ok (.ireturn, 1) := by decide +kernel
theorem dX12_go_0 : decode cX12_go 0 = .ok (.aload_n 0, 1) := by decide +kernel
theorem dX12_go_1 : decode cX12_go 1 = .ok (.aload_n 0, 1) := by decide +kernel
theorem dX12_go_2 : decode cX12_go 2 = .ok (.getfield 67, 3) := by decide +kernel
theorem dX12_go_5 : decode cX12_go 5 = .ok (.invokevirtual 70, 3) := by decide +kernel
theorem dX12_go_8 : decode cX12_go 8 = .ok (.bipush 32, 2) := by decide +kernel
theorem dX12_go_10 : decode cX12_go 10 = .ok (.if_icmp .eq 16, 3) := by decide +kernel
theorem dX12_go_13 : decode cX12_go 13 = .ok (.aload_n 0, 1) := by decide +kernel
theorem dX12_go_14 : decode cX12_go 14 = .ok (.aload_n 0, 1) := by decide +kernel
theorem dX12_go_15 : decode cX12_go 15 = .ok (.getfield 67, 3) := by decide +kernel
theorem dX12_go_18 : decode cX12_go 18 = .ok (.invokevirtual 70, 3) := by decide +kernel
theorem dX12_go_21 : decode cX12_go 21 = .ok (.bipush 10, 2) := by decide +kernel
theorem dX12_go_23 : decode cX12_go 23 = .ok (.if_icmp .ne 16, 3) := by decide +kernel
theorem dX12_go_26 : decode cX12_go 26 = .ok (.aload_n 0, 1) := by decide +kernel
theorem dX12_go_27 : decode cX12_go 27 = .ok (.dup, 1) := by decide +kernel
theorem dX12_go_28 : decode cX12_go 28 = .ok (.getfield 67, 3) := by decide +kernel
theorem dX12_go_31 : decode cX12_go 31 = .ok (.iconst 1, 1) := by decide +kernel
theorem dX12_go_32 : decode cX12_go 32 = .ok (.iadd, 1) := by decide +kernel
theorem dX12_go_33 : decode cX12_go 33 = .ok (.putfield 67, 3) := by decide +kernel
theorem dX12_go_36 : decode cX12_go 36 = .ok (.goto (-36), 3) := by decide +kernel
theorem dX12_go_39 : decode cX12_go 39 = .ok (.aload_n 0, 1) := by decide +kernel
theorem dX12_go_40 : decode cX12_go 40 = .ok (.aload_n 0, 1) := by decide +kernel
theorem dX12_go_41 : decode cX12_go 41 = .ok (.getfield 67, 3) := by decide +kernel
theorem dX12_go_44 : decode cX12_go 44 = .ok (.putfield 74, 3) := by decide +kernel
theorem dX12_go_47 : decode cX12_go 47 = .ok (.aload_n 0, 1) := by decide +kernel
theorem dX12_go_48 : decode cX12_go 48 = .ok (.iconst 0, 1) := by decide +kernel
theorem dX12_go_49 : decode cX12_go 49 = .ok (.putfield 77, 3) := by decide +kernel
theorem dX12_go_52 : decode cX12_go 52 = .ok (.aload_n 0, 1) := by decide +kernel
theorem dX12_go_53 : decode cX12_go 53 = .ok (.iconst 0, 1) := by decide +kernel
theorem dX12_go_54 : decode cX12_go 54 = .ok (.putfield 80, 3) := by decide +kernel
theorem dX12_go_57 : decode cX12_go 57 = .ok (.aload_n 0, 1) := by decide +kernel
theorem dX12_go_58 : decode cX12_go 58 = .ok (.iconst 0, 1) := by decide +kernel
theorem dX12_go_59 : decode cX12_go 59 = .ok (.putfield 83, 3) := by decide +kernel
theorem dX12_go_62 : decode cX12_go 62 = .ok (.aload_n 0, 1) := by decide +kernel
theorem dX12_go_63 : decode cX12_go 63 = .ok (.aload_n 0, 1) := by decide +kernel
theorem dX12_go_64 : decode cX12_go 64 = .ok (.getfield 67, 3) := by decide +kernel
theorem dX12_go_67 : decode cX12_go 67 = .ok (.invokevirtual 70, 3) := by decide +kernel
theorem dX12_go_70 : decode cX12_go 70 = .ok (.istore_n 1, 1) := by decide +kernel
theorem dX12_go_71 : decode cX12_go 71 = .ok (.iload_n 1, 1) := by decide +kernel
theorem dX12_go_72 : decode cX12_go 72 = .ok (.ifCond .ge 11, 3) := by decide +kernel
theorem dX12_go_75 : decode cX12_go 75 = .ok (.aload_n 0, 1) := by decide +kernel
theorem dX12_go_76 : decode cX12_go 76 = .ok (.iconst 0, 1) := by decide +kernel
theorem dX12_go_77 : decode cX12_go 77 = .ok (.putfield 86, 3) := by decide +kernel
theorem dX12_go_80 : decode cX12_go 80 = .ok (.goto 215, 3) := by decide +kernel
theorem dX12_go_83 : decode cX12_go 83 = .ok (.iload_n 1, 1) := by decide +kernel
theorem dX12_go_84 : decode cX12_go 84 = .ok (.i2l, 1) := by decide +kernel
theorem dX12_go_85 : decode cX12_go 85 = .ok (.ldc2_w 89, 3) := by decide +kernel
theorem dX12_go_88 : decode cX12_go 88 = .ok (.ldc2_w 91, 3) := by decide +kernel
theorem dX12_go_91 : decode cX12_go 91 = .ok (.invokestatic 93, 3) := by decide +kernel
theorem dX12_go_94 : decode cX12_go 94 = .ok (.ifCond .eq 85, 3) := by decide +kernel
theorem dX12_go_97 : decode cX12_go 97 = .ok (.aload_n 0, 1) := by decide +kernel
theorem dX12_go_98 : decode cX12_go 98 = .ok (.aload_n 0, 1) := by decide +kernel
theorem dX12_go_99 : decode cX12_go 99 = .ok (.getfield 67, 3) := by decide +kernel
theorem dX12_go_102 : decode cX12_go 102 = .ok (.invokevirtual 70, 3) := by decide +kernel
theorem dX12_go_105 : decode cX12_go 105 = .ok (.i2l, 1) := by decide +kernel
theorem dX12_go_106 : decode cX12_go 106 = .ok (.ldc2_w 89, 3) := by decide +kernel
theorem dX12_go_109 : decode cX12_go 109 = .ok (.ldc2_w 91, 3) := by decide +kernel
theorem dX12_go_112 : decode cX12_go 112 = .ok (.invokestatic 93, 3) := by decide +kernel
theorem dX12_go_115 : decode cX12_go 115 = .ok (.ifCond .eq 56, 3) := by decide +kernel
theorem dX12_go_118 : decode cX12_go 118 = .ok (.aload_n 0, 1) := by decide +kernel
theorem dX12_go_119 : decode cX12_go 119 = .ok (.aload_n 0, 1) := by decide +kernel
theorem dX12_go_120 : decode cX12_go 120 = .ok (.getfield 67, 3) := by decide +kernel
theorem dX12_go_123 : decode cX12_go 123 = .ok (.aload_n 0, 1) := by decide +kernel
theorem dX12_go_124 : decode cX12_go 124 = .ok (.getfield 74, 3) := by decide +kernel
theorem dX12_go_127 : decode cX12_go 127 = .ok (.isub, 1) := by decide +kernel
theorem dX12_go_128 : decode cX12_go 128 = .ok (.iconst 4, 1) := by decide +kernel
theorem dX12_go_129 : decode cX12_go 129 = .ok (.if_icmp .ge 25, 3) := by decide +kernel
theorem dX12_go_132 : decode cX12_go 132 = .ok (.bipush 32, 2) := by decide +kernel
theorem dX12_go_134 : decode cX12_go 134 = .ok (.aload_n 0, 1) := by decide +kernel
theorem dX12_go_135 : decode cX12_go 135 = .ok (.getfield 80, 3) := by decide +kernel
theorem dX12_go_138 : decode cX12_go 138 = .ok (.imul, 1) := by decide +kernel
theorem dX12_go_139 : decode cX12_go 139 = .ok (.aload_n 0, 1) := by decide +kernel
theorem dX12_go_140 : decode cX12_go 140 = .ok (.aload_n 0, 1) := by decide +kernel
theorem dX12_go_141 : decode cX12_go 141 = .ok (.getfield 67, 3) := by decide +kernel
theorem dX12_go_144 : decode cX12_go 144 = .ok (.invokevirtual 70, 3) := by decide +kernel
theorem dX12_go_147 : decode cX12_go 147 = .ok (.iadd, 1) := by decide +kernel
theorem dX12_go_148 : decode cX12_go 148 = .ok (.bipush 96, 2) := by decide +kernel
theorem dX12_go_150 : decode cX12_go 150 = .ok (.isub, 1) := by decide +kernel
theorem dX12_go_151 : decode cX12_go 151 = .ok (.goto 4, 3) := by decide +kernel
theorem dX12_go_154 : decode cX12_go 154 = .ok (.iconst (-1), 1) := by decide +kernel
theorem dX12_go_155 : decode cX12_go 155 = .ok (.putfield 80, 3) := by decide +kernel
theorem dX12_go_158 : decode cX12_go 158 = .ok (.aload_n 0, 1) := by decide +kernel
theorem dX12_go_159 : decode cX12_go 159 = .ok (.dup, 1) := by decide +kernel
theorem dX12_go_160 : decode cX12_go 160 = .ok (.getfield 67, 3) := by decide +kernel
theorem dX12_go_163 : decode cX12_go 163 = .ok (.iconst 1, 1) := by decide +kernel
theorem dX12_go_164 : decode cX12_go 164 = .ok (.iadd, 1) := by decide +kernel
theorem dX12_go_165 : decode cX12_go 165 = .ok (.putfield 67, 3) := by decide +kernel
theorem dX12_go_168 : decode cX12_go 168 = .ok (.goto (-71), 3) := by decide +kernel
theorem dX12_go_171 : decode cX12_go 171 = .ok (.aload_n 0, 1) := by decide +kernel
theorem dX12_go_172 : decode cX12_go 172 = .ok (.iconst 1, 1) := by decide +kernel
theorem dX12_go_173 : decode cX12_go 173 = .ok (.putfield 86, 3) := by decide +kernel
theorem dX12_go_176 : decode cX12_go 176 = .ok (.goto 119, 3) := by decide +kernel
theorem dX12_go_179 : decode cX12_go 179 = .ok (.iload_n 1, 1) := by decide +kernel
theorem dX12_go_180 : decode cX12_go 180 = .ok (.i2l, 1) := by decide +kernel
theorem dX12_go_181 : decode cX12_go 181 = .ok (.ldc2_w 97, 3) := by decide +kernel
theorem dX12_go_184 : decode cX12_go 184 = .ok (.ldc2_w 99, 3) := by decide +kernel
theorem dX12_go_187 : decode cX12_go 187 = .ok (.invokestatic 93, 3) := by decide +kernel
theorem dX12_go_190 : decode cX12_go 190 = .ok (.ifCond .eq 85, 3) := by decide +kernel
theorem dX12_go_193 : decode cX12_go 193 = .ok (.aload_n 0, 1) := by decide +kernel
theorem dX12_go_194 : decode cX12_go 194 = .ok (.aload_n 0, 1) := by decide +kernel
theorem dX12_go_195 : decode cX12_go 195 = .ok (.getfield 67, 3) := by decide +kernel
theorem dX12_go_198 : decode cX12_go 198 = .ok (.invokevirtual 70, 3) := by decide +kernel
theorem dX12_go_201 : decode cX12_go 201 = .ok (.i2l, 1) := by decide +kernel
theorem dX12_go_202 : decode cX12_go 202 = .ok (.ldc2_w 97, 3) := by decide +kernel
theorem dX12_go_205 : decode cX12_go 205 = .ok (.ldc2_w 99, 3) := by decide +kernel
theorem dX12_go_208 : decode cX12_go 208 = .ok (.invokestatic 93, 3) := by decide +kernel
theorem dX12_go_211 : decode cX12_go 211 = .ok (.ifCond .eq 56, 3) := by decide +kernel
theorem dX12_go_214 : decode cX12_go 214 = .ok (.aload_n 0, 1) := by decide +kernel
theorem dX12_go_215 : decode cX12_go 215 = .ok (.aload_n 0, 1) := by decide +kernel
theorem dX12_go_216 : decode cX12_go 216 = .ok (.getfield 67, 3) := by decide +kernel
theorem dX12_go_219 : decode cX12_go 219 = .ok (.aload_n 0, 1) := by decide +kernel
theorem dX12_go_220 : decode cX12_go 220 = .ok (.getfield 74, 3) := by decide +kernel
theorem dX12_go_223 : decode cX12_go 223 = .ok (.isub, 1) := by decide +kernel
theorem dX12_go_224 : decode cX12_go 224 = .ok (.iconst 4, 1) := by decide +kernel
theorem dX12_go_225 : decode cX12_go 225 = .ok (.if_icmp .ge 25, 3) := by decide +kernel
theorem dX12_go_228 : decode cX12_go 228 = .ok (.bipush 10, 2) := by decide +kernel
theorem dX12_go_230 : decode cX12_go 230 = .ok (.aload_n 0, 1) := by decide +kernel
theorem dX12_go_231 : decode cX12_go 231 = .ok (.getfield 77, 3) := by decide +kernel
theorem dX12_go_234 : decode cX12_go 234 = .ok (.imul, 1) := by decide +kernel
theorem dX12_go_235 : decode cX12_go 235 = .ok (.aload_n 0, 1) := by decide +kernel
theorem dX12_go_236 : decode cX12_go 236 = .ok (.aload_n 0, 1) := by decide +kernel
theorem dX12_go_237 : decode cX12_go 237 = .ok (.getfield 67, 3) := by decide +kernel
theorem dX12_go_240 : decode cX12_go 240 = .ok (.invokevirtual 70, 3) := by decide +kernel
theorem dX12_go_243 : decode cX12_go 243 = .ok (.iadd, 1) := by decide +kernel
theorem dX12_go_244 : decode cX12_go 244 = .ok (.bipush 48, 2) := by decide +kernel
theorem dX12_go_246 : decode cX12_go 246 = .ok (.isub, 1) := by decide +kernel
theorem dX12_go_247 : decode cX12_go 247 = .ok (.goto 4, 3) := by decide +kernel
theorem dX12_go_250 : decode cX12_go 250 = .ok (.iconst (-1), 1) := by decide +kernel
theorem dX12_go_251 : decode cX12_go 251 = .ok (.putfield 77, 3) := by decide +kernel
theorem dX12_go_254 : decode cX12_go 254 = .ok (.aload_n 0, 1) := by decide +kernel
theorem dX12_go_255 : decode cX12_go 255 = .ok (.dup, 1) := by decide +kernel
theorem dX12_go_256 : decode cX12_go 256 = .ok (.getfield 67, 3) := by decide +kernel
theorem dX12_go_259 : decode cX12_go 259 = .ok (.iconst 1, 1) := by decide +kernel
theorem dX12_go_260 : decode cX12_go 260 = .ok (.iadd, 1) := by decide +kernel
theorem dX12_go_261 : decode cX12_go 261 = .ok (.putfield 67, 3) := by decide +kernel
