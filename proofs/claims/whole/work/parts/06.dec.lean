theorem dX12_save_25 : decode cX12_save 25 = .ok (.iload_n 1, 1) := by decide +kernel
theorem dX12_save_26 : decode cX12_save 26 = .ok (.imul, 1) := by decide +kernel
theorem dX12_save_27 : decode cX12_save 27 = .ok (.invokestatic 17, 3) := by decide +kernel
theorem dX12_save_30 : decode cX12_save 30 = .ok (.aload_n 0, 1) := by decide +kernel
theorem dX12_save_31 : decode cX12_save 31 = .ok (.getfield 184, 3) := by decide +kernel
theorem dX12_save_34 : decode cX12_save 34 = .ok (.iload_n 1, 1) := by decide +kernel
theorem dX12_save_35 : decode cX12_save 35 = .ok (.iconst 1, 1) := by decide +kernel
theorem dX12_save_36 : decode cX12_save 36 = .ok (.bastore, 1) := by decide +kernel
theorem dX12_save_37 : decode cX12_save 37 = .ok (.aload_n 0, 1) := by decide +kernel
theorem dX12_save_38 : decode cX12_save 38 = .ok (.getfield 14, 3) := by decide +kernel
theorem dX12_save_41 : decode cX12_save 41 = .ok (.iconst 1, 1) := by decide +kernel
theorem dX12_save_42 : decode cX12_save 42 = .ok (.iaload, 1) := by decide +kernel
theorem dX12_save_43 : decode cX12_save 43 = .ok (.ireturn, 1) := by decide +kernel
theorem dX12_load_0 : decode cX12_load 0 = .ok (.aload_n 0, 1) := by decide +kernel
theorem dX12_load_1 : decode cX12_load 1 = .ok (.iconst 0, 1) := by decide +kernel
theorem dX12_load_2 : decode cX12_load 2 = .ok (.putfield 1, 3) := by decide +kernel
theorem dX12_load_5 : decode cX12_load 5 = .ok (.iload_n 1, 1) := by decide +kernel
theorem dX12_load_6 : decode cX12_load 6 = .ok (.invokestatic 308, 3) := by decide +kernel
theorem dX12_load_9 : decode cX12_load 9 = .ok (.ifCond .eq 12, 3) := by decide +kernel
theorem dX12_load_12 : decode cX12_load 12 = .ok (.aload_n 0, 1) := by decide +kernel
theorem dX12_load_13 : decode cX12_load 13 = .ok (.getfield 184, 3) := by decide +kernel
theorem dX12_load_16 : decode cX12_load 16 = .ok (.iload_n 1, 1) := by decide +kernel
theorem dX12_load_17 : decode cX12_load 17 = .ok (.baload, 1) := by decide +kernel
theorem dX12_load_18 : decode cX12_load 18 = .ok (.ifCond .ne 5, 3) := by decide +kernel
theorem dX12_load_21 : decode cX12_load 21 = .ok (.iconst (-1), 1) := by decide +kernel
theorem dX12_load_22 : decode cX12_load 22 = .ok (.ireturn, 1) := by decide +kernel
theorem dX12_load_23 : decode cX12_load 23 = .ok (.aload_n 0, 1) := by decide +kernel
theorem dX12_load_24 : decode cX12_load 24 = .ok (.getfield 181, 3) := by decide +kernel
theorem dX12_load_27 : decode cX12_load 27 = .ok (.bipush 127, 2) := by decide +kernel
theorem dX12_load_29 : decode cX12_load 29 = .ok (.iload_n 1, 1) := by decide +kernel
theorem dX12_load_30 : decode cX12_load 30 = .ok (.imul, 1) := by decide +kernel
theorem dX12_load_31 : decode cX12_load 31 = .ok (.aload_n 0, 1) := by decide +kernel
theorem dX12_load_32 : decode cX12_load 32 = .ok (.getfield 25, 3) := by decide +kernel
theorem dX12_load_35 : decode cX12_load 35 = .ok (.iconst 0, 1) := by decide +kernel
theorem dX12_load_36 : decode cX12_load 36 = .ok (.invokestatic 17, 3) := by decide +kernel
theorem dX12_load_39 : decode cX12_load 39 = .ok (.aload_n 0, 1) := by decide +kernel
theorem dX12_load_40 : decode cX12_load 40 = .ok (.invokevirtual 242, 3) := by decide +kernel
theorem dX12_load_43 : decode cX12_load 43 = .ok (.ireturn, 1) := by decide +kernel
theorem dX12_same_0 : decode cX12_same 0 = .ok (.aload_n 0, 1) := by decide +kernel
theorem dX12_same_1 : decode cX12_same 1 = .ok (.iconst 0, 1) := by decide +kernel
theorem dX12_same_2 : decode cX12_same 2 = .ok (.putfield 1, 3) := by decide +kernel
theorem dX12_same_5 : decode cX12_same 5 = .ok (.iload_n 1, 1) := by decide +kernel
theorem dX12_same_6 : decode cX12_same 6 = .ok (.invokestatic 308, 3) := by decide +kernel
theorem dX12_same_9 : decode cX12_same 9 = .ok (.ifCond .eq 12, 3) := by decide +kernel
theorem dX12_same_12 : decode cX12_same 12 = .ok (.aload_n 0, 1) := by decide +kernel
theorem dX12_same_13 : decode cX12_same 13 = .ok (.getfield 184, 3) := by decide +kernel
theorem dX12_same_16 : decode cX12_same 16 = .ok (.iload_n 1, 1) := by decide +kernel
theorem dX12_same_17 : decode cX12_same 17 = .ok (.baload, 1) := by decide +kernel
theorem dX12_same_18 : decode cX12_same 18 = .ok (.ifCond .ne 5, 3) := by decide +kernel
theorem dX12_same_21 : decode cX12_same 21 = .ok (.iconst (-1), 1) := by decide +kernel
theorem dX12_same_22 : decode cX12_same 22 = .ok (.ireturn, 1) := by decide +kernel
theorem dX12_same_23 : decode cX12_same 23 = .ok (.aload_n 0, 1) := by decide +kernel
theorem dX12_same_24 : decode cX12_same 24 = .ok (.getfield 181, 3) := by decide +kernel
theorem dX12_same_27 : decode cX12_same 27 = .ok (.bipush 127, 2) := by decide +kernel
theorem dX12_same_29 : decode cX12_same 29 = .ok (.iload_n 1, 1) := by decide +kernel
theorem dX12_same_30 : decode cX12_same 30 = .ok (.imul, 1) := by decide +kernel
theorem dX12_same_31 : decode cX12_same 31 = .ok (.aload_n 0, 1) := by decide +kernel
theorem dX12_same_32 : decode cX12_same 32 = .ok (.getfield 203, 3) := by decide +kernel
theorem dX12_same_35 : decode cX12_same 35 = .ok (.iconst 0, 1) := by decide +kernel
theorem dX12_same_36 : decode cX12_same 36 = .ok (.invokestatic 17, 3) := by decide +kernel
theorem dX12_same_39 : decode cX12_same 39 = .ok (.aload_n 0, 1) := by decide +kernel
theorem dX12_same_40 : decode cX12_same 40 = .ok (.getfield 203, 3) := by decide +kernel
theorem dX12_same_43 : decode cX12_same 43 = .ok (.iconst 0, 1) := by decide +kernel
theorem dX12_same_44 : decode cX12_same 44 = .ok (.iaload, 1) := by decide +kernel
theorem dX12_same_45 : decode cX12_same 45 = .ok (.aload_n 0, 1) := by decide +kernel
theorem dX12_same_46 : decode cX12_same 46 = .ok (.getfield 14, 3) := by decide +kernel
theorem dX12_same_49 : decode cX12_same 49 = .ok (.iconst 0, 1) := by decide +kernel
theorem dX12_same_50 : decode cX12_same 50 = .ok (.iaload, 1) := by decide +kernel
theorem dX12_same_51 : decode cX12_same 51 = .ok (.if_icmp .ne 18, 3) := by decide +kernel
theorem dX12_same_54 : decode cX12_same 54 = .ok (.aload_n 0, 1) := by decide +kernel
theorem dX12_same_55 : decode cX12_same 55 = .ok (.getfield 203, 3) := by decide +kernel
theorem dX12_same_58 : decode cX12_same 58 = .ok (.iconst 2, 1) := by decide +kernel
theorem dX12_same_59 : decode cX12_same 59 = .ok (.iaload, 1) := by decide +kernel
theorem dX12_same_60 : decode cX12_same 60 = .ok (.aload_n 0, 1) := by decide +kernel
theorem dX12_same_61 : decode cX12_same 61 = .ok (.getfield 14, 3) := by decide +kernel
theorem dX12_same_64 : decode cX12_same 64 = .ok (.iconst 2, 1) := by decide +kernel
theorem dX12_same_65 : decode cX12_same 65 = .ok (.iaload, 1) := by decide +kernel
theorem dX12_same_66 : decode cX12_same 66 = .ok (.if_icmp .eq 5, 3) := by decide +kernel
theorem dX12_same_69 : decode cX12_same 69 = .ok (.iconst 0, 1) := by decide +kernel
theorem dX12_same_70 : decode cX12_same 70 = .ok (.ireturn, 1) := by decide +kernel
theorem dX12_same_71 : decode cX12_same 71 = .ok (.aload_n 0, 1) := by decide +kernel
theorem dX12_same_72 : decode cX12_same 72 = .ok (.aload_n 0, 1) := by decide +kernel
theorem dX12_same_73 : decode cX12_same 73 = .ok (.getfield 203, 3) := by decide +kernel
theorem dX12_same_76 : decode cX12_same 76 = .ok (.invokevirtual 43, 3) := by decide +kernel
theorem dX12_same_79 : decode cX12_same 79 = .ok (.iconst 0, 1) := by decide +kernel
theorem dX12_same_80 : decode cX12_same 80 = .ok (.istore_n 2, 1) := by decide +kernel
theorem dX12_same_81 : decode cX12_same 81 = .ok (.iload_n 2, 1) := by decide +kernel
theorem dX12_same_82 : decode cX12_same 82 = .ok (.aload_n 0, 1) := by decide +kernel
theorem dX12_same_83 : decode cX12_same 83 = .ok (.getfield 203, 3) := by decide +kernel
theorem dX12_same_86 : decode cX12_same 86 = .ok (.iconst 2, 1) := by decide +kernel
theorem dX12_same_87 : decode cX12_same 87 = .ok (.iaload, 1) := by decide +kernel
theorem dX12_same_88 : decode cX12_same 88 = .ok (.if_icmp .ge 55, 3) := by decide +kernel
theorem dX12_same_91 : decode cX12_same 91 = .ok (.iconst 0, 1) := by decide +kernel
theorem dX12_same_92 : decode cX12_same 92 = .ok (.istore_n 3, 1) := by decide +kernel
theorem dX12_same_93 : decode cX12_same 93 = .ok (.iload_n 3, 1) := by decide +kernel
theorem dX12_same_94 : decode cX12_same 94 = .ok (.aload_n 0, 1) := by decide +kernel
theorem dX12_same_95 : decode cX12_same 95 = .ok (.getfield 203, 3) := by decide +kernel
theorem dX12_same_98 : decode cX12_same 98 = .ok (.iconst 0, 1) := by decide +kernel
theorem dX12_same_99 : decode cX12_same 99 = .ok (.iaload, 1) := by decide +kernel
theorem dX12_same_100 : decode cX12_same 100 = .ok (.if_icmp .ge 37, 3) := by decide +kernel
theorem dX12_same_103 : decode cX12_same 103 = .ok (.aload_n 0, 1) := by decide +kernel
theorem dX12_same_104 : decode cX12_same 104 = .ok (.getfield 218, 3) := by decide +kernel
theorem dX12_same_107 : decode cX12_same 107 = .ok (.iconst 4, 1) := by decide +kernel
theorem dX12_same_108 : decode cX12_same 108 = .ok (.iload_n 2, 1) := by decide +kernel
theorem dX12_same_109 : decode cX12_same 109 = .ok (.imul, 1) := by decide +kernel
theorem dX12_same_110 : decode cX12_same 110 = .ok (.iload_n 3, 1) := by decide +kernel
theorem dX12_same_111 : decode cX12_same 111 = .ok (.iadd, 1) := by decide +kernel
theorem dX12_same_112 : decode cX12_same 112 = .ok (.aload_n 0, 1) := by decide +kernel
theorem dX12_same_113 : decode cX12_same 113 = .ok (.getfield 32, 3) := by decide +kernel
theorem dX12_same_116 : decode cX12_same 116 = .ok (.iconst 4, 1) := by decide +kernel
theorem dX12_same_117 : decode cX12_same 117 = .ok (.aload_n 0, 1) := by decide +kernel
theorem dX12_same_118 : decode cX12_same 118 = .ok (.getfield 203, 3) := by decide +kernel
theorem dX12_same_121 : decode cX12_same 121 = .ok (.bipush 123, 2) := by decide +kernel
theorem dX12_same_123 : decode cX12_same 123 = .ok (.iload_n 2, 1) := by decide +kernel
theorem dX12_same_124 : decode cX12_same 124 = .ok (.iadd, 1) := by decide +kernel
theorem dX12_same_125 : decode cX12_same 125 = .ok (.iaload, 1) := by decide +kernel
theorem dX12_same_126 : decode cX12_same 126 = .ok (.imul, 1) := by decide +kernel
theorem dX12_same_127 : decode cX12_same 127 = .ok (.iload_n 3, 1) := by decide +kernel
theorem dX12_same_128 : decode cX12_same 128 = .ok (.iadd, 1) := by decide +kernel
theorem dX12_same_129 : decode cX12_same 129 = .ok (.laload, 1) := by decide +kernel
theorem dX12_same_130 : decode cX12_same 130 = .ok (.lastore, 1) := by decide +kernel
theorem dX12_same_131 : decode cX12_same 131 = .ok (.iinc 3 1, 3) := by decide +kernel
theorem dX12_same_134 : decode cX12_same 134 = .ok (.goto (-41), 3) := by decide +kernel
theorem dX12_same_137 : decode cX12_same 137 = .ok (.iinc 2 1, 3) := by decide +kernel
theorem dX12_same_140 : decode cX12_same 140 = .ok (.goto (-59), 3) := by decide +kernel
theorem dX12_same_143 : decode cX12_same 143 = .ok (.aload_n 0, 1) := by decide +kernel
theorem dX12_same_144 : decode cX12_same 144 = .ok (.aload_n 0, 1) := by decide +kernel
theorem dX12_same_145 : decode cX12_same 145 = .ok (.getfield 14, 3) := by decide +kernel
theorem dX12_same_148 : decode cX12_same 148 = .ok (.invokevirtual 43, 3) := by decide +kernel
theorem dX12_same_151 : decode cX12_same 151 = .ok (.iconst 0, 1) := by decide +kernel
theorem dX12_same_152 : decode cX12_same 152 = .ok (.istore_n 2, 1) := by decide +kernel
theorem dX12_same_153 : decode cX12_same 153 = .ok (.iload_n 2, 1) := by decide +kernel
theorem dX12_same_154 : decode cX12_same 154 = .ok (.aload_n 0, 1) := by decide +kernel
theorem dX12_same_155 : decode cX12_same 155 = .ok (.getfield 14, 3) := by decide +kernel
theorem dX12_same_158 : decode cX12_same 158 = .ok (.iconst 2, 1) := by decide +kernel
theorem dX12_same_159 : decode cX12_same 159 = .ok (.iaload, 1) := by decide +kernel
theorem dX12_same_160 : decode cX12_same 160 = .ok (.if_icmp .ge 61, 3) := by decide +kernel
theorem dX12_same_163 : decode cX12_same 163 = .ok (.iconst 0, 1) := by decide +kernel
theorem dX12_same_164 : decode cX12_same 164 = .ok (.istore_n 3, 1) := by decide +kernel
theorem dX12_same_165 : decode cX12_same 165 = .ok (.iload_n 3, 1) := by decide +kernel
theorem dX12_same_166 : decode cX12_same 166 = .ok (.aload_n 0, 1) := by decide +kernel
theorem dX12_same_167 : decode cX12_same 167 = .ok (.getfield 14, 3) := by decide +kernel
theorem dX12_same_170 : decode cX12_same 170 = .ok (.iconst 0, 1) := by decide +kernel
theorem dX12_same_171 : decode cX12_same 171 = .ok (.iaload, 1) := by decide +kernel
theorem dX12_same_172 : decode cX12_same 172 = .ok (.if_icmp .ge 43, 3) := by decide +kernel
theorem dX12_same_175 : decode cX12_same 175 = .ok (.aload_n 0, 1) := by decide +kernel
theorem dX12_same_176 : decode cX12_same 176 = .ok (.getfield 218, 3) := by decide +kernel
theorem dX12_same_179 : decode cX12_same 179 = .ok (.iconst 4, 1) := by decide +kernel
theorem dX12_same_180 : decode cX12_same 180 = .ok (.iload_n 2, 1) := by decide +kernel
theorem dX12_same_181 : decode cX12_same 181 = .ok (.imul, 1) := by decide +kernel
theorem dX12_same_182 : decode cX12_same 182 = .ok (.iload_n 3, 1) := by decide +kernel
theorem dX12_same_183 : decode cX12_same 183 = .ok (.iadd, 1) := by decide +kernel
theorem dX12_same_184 : decode cX12_same 184 = .ok (.laload, 1) := by decide +kernel
theorem dX12_same_185 : decode cX12_same 185 = .ok (.aload_n 0, 1) := by decide +kernel
theorem dX12_same_186 : decode cX12_same 186 = .ok (.getfield 32, 3) := by decide +kernel
theorem dX12_same_189 : decode cX12_same 189 = .ok (.iconst 4, 1) := by decide +kernel
theorem dX12_same_190 : decode cX12_same 190 = .ok (.aload_n 0, 1) := by decide +kernel
theorem dX12_same_191 : decode cX12_same 191 = .ok (.getfield 14, 3) := by decide +kernel
theorem dX12_same_194 : decode cX12_same 194 = .ok (.bipush 123, 2) := by decide +kernel
theorem dX12_same_196 : decode cX12_same 196 = .ok (.iload_n 2, 1) := by decide +kernel
theorem dX12_same_197 : decode cX12_same 197 = .ok (.iadd, 1) := by decide +kernel
theorem dX12_same_198 : decode cX12_same 198 = .ok (.iaload, 1) := by decide +kernel
theorem dX12_same_199 : decode cX12_same 199 = .ok (.imul, 1) := by decide +kernel
theorem dX12_same_200 : decode cX12_same 200 = .ok (.iload_n 3, 1) := by decide +kernel
theorem dX12_same_201 : decode cX12_same 201 = .ok (.iadd, 1) := by decide +kernel
theorem dX12_same_202 : decode cX12_same 202 = .ok (.laload, 1) := by decide +kernel
theorem dX12_same_203 : decode cX12_same 203 = .ok (.lcmp, 1) := by decide +kernel
theorem dX12_same_204 : decode cX12_same 204 = .ok (.ifCond .eq 5, 3) := by decide +kernel
theorem dX12_same_207 : decode cX12_same 207 = .ok (.iconst 0, 1) := by decide +kernel
theorem dX12_same_208 : decode cX12_same 208 = .ok (.ireturn, 1) := by decide +kernel
theorem dX12_same_209 : decode cX12_same 209 = .ok (.iinc 3 1, 3) := by decide +kernel
theorem dX12_same_212 : decode cX12_same 212 = .ok (.goto (-47), 3) := by decide +kernel
theorem dX12_same_215 : decode cX12_same 215 = .ok (.iinc 2 1, 3) := by decide +kernel
theorem dX12_same_218 : decode cX12_same 218 = .ok (.goto (-65), 3) := by decide +kernel
theorem dX12_same_221 : decode cX12_same 221 = .ok (.iconst 1, 1) := by decide +kernel
theorem dX12_same_222 : decode cX12_same 222 = .ok (.ireturn, 1) := by decide +kernel
theorem dX12_undo_0 : decode cX12_undo 0 = .ok (.aload_n 0, 1) := by decide +kernel
theorem dX12_undo_1 : decode cX12_undo 1 = .ok (.iconst 0, 1) := by decide +kernel
theorem dX12_undo_2 : decode cX12_undo 2 = .ok (.putfield 1, 3) := by decide +kernel
theorem dX12_undo_5 : decode cX12_undo 5 = .ok (.aload_n 0, 1) := by decide +kernel
theorem dX12_undo_6 : decode cX12_undo 6 = .ok (.getfield 7, 3) := by decide +kernel
theorem dX12_undo_9 : decode cX12_undo 9 = .ok (.ifCond .ne 5, 3) := by decide +kernel
theorem dX12_undo_12 : decode cX12_undo 12 = .ok (.iconst (-1), 1) := by decide +kernel
theorem dX12_undo_13 : decode cX12_undo 13 = .ok (.ireturn, 1) := by decide +kernel
theorem dX12_undo_14 : decode cX12_undo 14 = .ok (.aload_n 0, 1) := by decide +kernel
theorem dX12_undo_15 : decode cX12_undo 15 = .ok (.dup, 1) := by decide +kernel
theorem dX12_undo_16 : decode cX12_undo 16 = .ok (.getfield 7, 3) := by decide +kernel
theorem dX12_undo_19 : decode cX12_undo 19 = .ok (.iconst 1, 1) := by decide +kernel
theorem dX12_undo_20 : decode cX12_undo 20 = .ok (.isub, 1) := by decide +kernel
theorem dX12_undo_21 : decode cX12_undo 21 = .ok (.putfield 7, 3) := by decide +kernel
theorem dX12_undo_24 : decode cX12_undo 24 = .ok (.aload_n 0, 1) := by decide +kernel
theorem dX12_undo_25 : decode cX12_undo 25 = .ok (.getfield 10, 3) := by decide +kernel
theorem dX12_undo_28 : decode cX12_undo 28 = .ok (.bipush 127, 2) := by decide +kernel
theorem dX12_undo_30 : decode cX12_undo 30 = .ok (.aload_n 0, 1) := by decide +kernel
theorem dX12_undo_31 : decode cX12_undo 31 = .ok (.getfield 7, 3) := by decide +kernel
theorem dX12_undo_34 : decode cX12_undo 34 = .ok (.imul, 1) := by decide +kernel
theorem dX12_undo_35 : decode cX12_undo 35 = .ok (.aload_n 0, 1) := by decide +kernel
theorem dX12_undo_36 : decode cX12_undo 36 = .ok (.getfield 14, 3) := by decide +kernel
theorem dX12_undo_39 : decode cX12_undo 39 = .ok (.iconst 0, 1) := by decide +kernel
theorem dX12_undo_40 : decode cX12_undo 40 = .ok (.invokestatic 17, 3) := by decide +kernel
theorem dX12_undo_43 : decode cX12_undo 43 = .ok (.aload_n 0, 1) := by decide +kernel
theorem dX12_undo_44 : decode cX12_undo 44 = .ok (.getfield 7, 3) := by decide +kernel
theorem dX12_undo_47 : decode cX12_undo 47 = .ok (.ireturn, 1) := by decide +kernel
theorem dX12_marksBinary_0 : decode cX12_marksBinary 0 = .ok (.iconst 1, 1) := by decide +kernel
theorem dX12_marksBinary_1 : decode cX12_marksBinary 1 = .ok (.istore_n 2, 1) := by decide +kernel
theorem dX12_marksBinary_2 : decode cX12_marksBinary 2 = .ok (.aload_n 0, 1) := by decide +kernel
theorem dX12_marksBinary_3 : decode cX12_marksBinary 3 = .ok (.getfield 221, 3) := by decide +kernel
theorem dX12_marksBinary_6 : decode cX12_marksBinary 6 = .ok (.iconst 1, 1) := by decide +kernel
theorem dX12_marksBinary_7 : decode cX12_marksBinary 7 = .ok (.iconst 1, 1) := by decide +kernel
theorem dX12_marksBinary_8 : decode cX12_marksBinary 8 = .ok (.bastore, 1) := by decide +kernel
theorem dX12_marksBinary_9 : decode cX12_marksBinary 9 = .ok (.aload_n 0, 1) := by decide +kernel
theorem dX12_marksBinary_10 : decode cX12_marksBinary 10 = .ok (.iload_n 1, 1) := by decide +kernel
theorem dX12_marksBinary_11 : decode cX12_marksBinary 11 = .ok (.invokevirtual 155, 3) := by decide +kernel
theorem dX12_marksBinary_14 : decode cX12_marksBinary 14 = .ok (.iconst 2, 1) := by decide +kernel
theorem dX12_marksBinary_15 : decode cX12_marksBinary 15 = .ok (.idiv, 1) := by decide +kernel
theorem dX12_marksBinary_16 : decode cX12_marksBinary 16 = .ok (.istore_n 3, 1) := by decide +kernel
theorem dX12_marksBinary_17 : decode cX12_marksBinary 17 = .ok (.iload_n 3, 1) := by decide +kernel
theorem dX12_marksBinary_18 : decode cX12_marksBinary 18 = .ok (.ifCond .le 37, 3) := by decide +kernel
theorem dX12_marksBinary_21 : decode cX12_marksBinary 21 = .ok (.iload_n 2, 1) := by decide +kernel
theorem dX12_marksBinary_22 : decode cX12_marksBinary 22 = .ok (.iconst 2, 1) := by decide +kernel
theorem dX12_marksBinary_23 : decode cX12_marksBinary 23 = .ok (.imul, 1) := by decide +kernel
theorem dX12_marksBinary_24 : decode cX12_marksBinary 24 = .ok (.istore_n 2, 1) := by decide +kernel
theorem dX12_marksBinary_25 : decode cX12_marksBinary 25 = .ok (.aload_n 0, 1) := by decide +kernel
theorem dX12_marksBinary_26 : decode cX12_marksBinary 26 = .ok (.getfield 221, 3) := by decide +kernel
theorem dX12_marksBinary_29 : decode cX12_marksBinary 29 = .ok (.iload_n 2, 1) := by decide +kernel
theorem dX12_marksBinary_30 : decode cX12_marksBinary 30 = .ok (.iconst 1, 1) := by decide +kernel
theorem dX12_marksBinary_31 : decode cX12_marksBinary 31 = .ok (.bastore, 1) := by decide +kernel
theorem dX12_marksBinary_32 : decode cX12_marksBinary 32 = .ok (.iload_n 1, 1) := by decide +kernel
theorem dX12_marksBinary_33 : decode cX12_marksBinary 33 = .ok (.iload_n 3, 1) := by decide +kernel
theorem dX12_marksBinary_34 : decode cX12_marksBinary 34 = .ok (.iand, 1) := by decide +kernel
theorem dX12_marksBinary_35 : decode cX12_marksBinary 35 = .ok (.ifCond .le 13, 3) := by decide +kernel
theorem dX12_marksBinary_38 : decode cX12_marksBinary 38 = .ok (.iinc 2 1, 3) := by decide +kernel
theorem dX12_marksBinary_41 : decode cX12_marksBinary 41 = .ok (.aload_n 0, 1) := by decide +kernel
theorem dX12_marksBinary_42 : decode cX12_marksBinary 42 = .ok (.getfield 221, 3) := by decide +kernel
theorem dX12_marksBinary_45 : decode cX12_marksBinary 45 = .ok (.iload_n 2, 1) := by decide +kernel
theorem dX12_marksBinary_46 : decode cX12_marksBinary 46 = .ok (.iconst 1, 1) := by decide +kernel
theorem dX12_marksBinary_47 : decode cX12_marksBinary 47 = .ok (.bastore, 1) := by decide +kernel
theorem dX12_marksBinary_48 : decode cX12_marksBinary 48 = .ok (.iload_n 3, 1) := by decide +kernel
theorem dX12_marksBinary_49 : decode cX12_marksBinary 49 = .ok (.iconst 2, 1) := by decide +kernel
theorem dX12_marksBinary_50 : decode cX12_marksBinary 50 = .ok (.idiv, 1) := by decide +kernel
theorem dX12_marksBinary_51 : decode cX12_marksBinary 51 = .ok (.istore_n 3, 1) := by decide +kernel
theorem dX12_marksBinary_52 : decode cX12_marksBinary 52 = .ok (.goto (-35), 3) := by decide +kernel
theorem dX12_marksBinary_55 : decode cX12_marksBinary 55 = .ok (.return_, 1) := by decide +kernel
theorem dX12_marksRight_0 : decode cX12_marksRight 0 = .ok (.iconst 0, 1) := by decide +kernel
theorem dX12_marksRight_1 : decode cX12_marksRight 1 = .ok (.istore_n 2, 1) := by decide +kernel
theorem dX12_marksRight_2 : decode cX12_marksRight 2 = .ok (.iconst 1, 1) := by decide +kernel
theorem dX12_marksRight_3 : decode cX12_marksRight 3 = .ok (.istore_n 3, 1) := by decide +kernel
theorem dX12_marksRight_4 : decode cX12_marksRight 4 = .ok (.iload_n 3, 1) := by decide +kernel
theorem dX12_marksRight_5 : decode cX12_marksRight 5 = .ok (.iload_n 1, 1) := by decide +kernel
theorem dX12_marksRight_6 : decode cX12_marksRight 6 = .ok (.if_icmp .gt 34, 3) := by decide +kernel
theorem dX12_marksRight_9 : decode cX12_marksRight 9 = .ok (.aload_n 0, 1) := by decide +kernel
theorem dX12_marksRight_10 : decode cX12_marksRight 10 = .ok (.getfield 221, 3) := by decide +kernel
theorem dX12_marksRight_13 : decode cX12_marksRight 13 = .ok (.iload_n 3, 1) := by decide +kernel
theorem dX12_marksRight_14 : decode cX12_marksRight 14 = .ok (.iconst 1, 1) := by decide +kernel
theorem dX12_marksRight_15 : decode cX12_marksRight 15 = .ok (.bastore, 1) := by decide +kernel
theorem dX12_marksRight_16 : decode cX12_marksRight 16 = .ok (.iload_n 1, 1) := by decide +kernel
theorem dX12_marksRight_17 : decode cX12_marksRight 17 = .ok (.iload_n 3, 1) := by decide +kernel
theorem dX12_marksRight_18 : decode cX12_marksRight 18 = .ok (.iand, 1) := by decide +kernel
theorem dX12_marksRight_19 : decode cX12_marksRight 19 = .ok (.ifCond .le 14, 3) := by decide +kernel
theorem dX12_marksRight_22 : decode cX12_marksRight 22 = .ok (.iload_n 2, 1) := by decide +kernel
theorem dX12_marksRight_23 : decode cX12_marksRight 23 = .ok (.iload_n 3, 1) := by decide +kernel
theorem dX12_marksRight_24 : decode cX12_marksRight 24 = .ok (.iadd, 1) := by decide +kernel
theorem dX12_marksRight_25 : decode cX12_marksRight 25 = .ok (.istore_n 2, 1) := by decide +kernel
theorem dX12_marksRight_26 : decode cX12_marksRight 26 = .ok (.aload_n 0, 1) := by decide +kernel
theorem dX12_marksRight_27 : decode cX12_marksRight 27 = .ok (.getfield 221, 3) := by decide +kernel
theorem dX12_marksRight_30 : decode cX12_marksRight 30 = .ok (.iload_n 2, 1) := by decide +kernel
theorem dX12_marksRight_31 : decode cX12_marksRight 31 = .ok (.iconst 1, 1) := by decide +kernel
theorem dX12_marksRight_32 : decode cX12_marksRight 32 = .ok (.bastore, 1) := by decide +kernel
theorem dX12_marksRight_33 : decode cX12_marksRight 33 = .ok (.iload_n 3, 1) := by decide +kernel
theorem dX12_marksRight_34 : decode cX12_marksRight 34 = .ok (.iconst 2, 1) := by decide +kernel
theorem dX12_marksRight_35 : decode cX12_marksRight 35 = .ok (.imul, 1) := by decide +kernel
theorem dX12_marksRight_36 : decode cX12_marksRight 36 = .ok (.istore_n 3, 1) := by decide +kernel
theorem dX12_marksRight_37 : decode cX12_marksRight 37 = .ok (.goto (-33), 3) := by decide +kernel
theorem dX12_marksRight_40 : decode cX12_marksRight 40 = .ok (.return_, 1) := by decide +kernel
theorem dX12_leastPrime_0 : decode cX12_leastPrime 0 = .ok (.iconst 2, 1) := by decide +kernel
theorem dX12_leastPrime_1 : decode cX12_leastPrime 1 = .ok (.istore_n 1, 1) := by decide +kernel
theorem dX12_leastPrime_2 : decode cX12_leastPrime 2 = .ok (.iload_n 0, 1) := by decide +kernel
theorem dX12_leastPrime_3 : decode cX12_leastPrime 3 = .ok (.iload_n 1, 1) := by decide +kernel
theorem dX12_leastPrime_4 : decode cX12_leastPrime 4 = .ok (.irem, 1) := by decide +kernel
theorem dX12_leastPrime_5 : decode cX12_leastPrime 5 = .ok (.ifCond .eq 9, 3) := by decide +kernel
theorem dX12_leastPrime_8 : decode cX12_leastPrime 8 = .ok (.iinc 1 1, 3) := by decide +kernel
theorem dX12_leastPrime_11 : decode cX12_leastPrime 11 = .ok (.goto (-9), 3) := by decide +kernel
theorem dX12_leastPrime_14 : decode cX12_leastPrime 14 = .ok (.iload_n 1, 1) := by decide +kernel
theorem dX12_leastPrime_15 : decode cX12_leastPrime 15 = .ok (.ireturn, 1) := by decide +kernel
theorem dX12_marksFactor_0 : decode cX12_marksFactor 0 = .ok (.aload_n 0, 1) := by decide +kernel
theorem dX12_marksFactor_1 : decode cX12_marksFactor 1 = .ok (.getfield 221, 3) := by decide +kernel
theorem dX12_marksFactor_4 : decode cX12_marksFactor 4 = .ok (.iload_n 2, 1) := by decide +kernel
theorem dX12_marksFactor_5 : decode cX12_marksFactor 5 = .ok (.iconst 1, 1) := by decide +kernel
theorem dX12_marksFactor_6 : decode cX12_marksFactor 6 = .ok (.bastore, 1) := by decide +kernel
theorem dX12_marksFactor_7 : decode cX12_marksFactor 7 = .ok (.iload_n 1, 1) := by decide +kernel
theorem dX12_marksFactor_8 : decode cX12_marksFactor 8 = .ok (.iconst 1, 1) := by decide +kernel
theorem dX12_marksFactor_9 : decode cX12_marksFactor 9 = .ok (.if_icmp .ne 4, 3) := by decide +kernel
theorem dX12_marksFactor_12 : decode cX12_marksFactor 12 = .ok (.return_, 1) := by decide +kernel
theorem dX12_marksFactor_13 : decode cX12_marksFactor 13 = .ok (.iload_n 1, 1) := by decide +kernel
theorem dX12_marksFactor_14 : decode cX12_marksFactor 14 = .ok (.invokestatic 311, 3) := by decide +kernel
theorem dX12_marksFactor_17 : decode cX12_marksFactor 17 = .ok (.istore_n 3, 1) := by decide +kernel
theorem dX12_marksFactor_18 : decode cX12_marksFactor 18 = .ok (.iload_n 3, 1) := by decide +kernel
theorem dX12_marksFactor_19 : decode cX12_marksFactor 19 = .ok (.iload_n 1, 1) := by decide +kernel
theorem dX12_marksFactor_20 : decode cX12_marksFactor 20 = .ok (.if_icmp .ne 21, 3) := by decide +kernel
theorem dX12_marksFactor_23 : decode cX12_marksFactor 23 = .ok (.aload_n 0, 1) := by decide +kernel
theorem dX12_marksFactor_24 : decode cX12_marksFactor 24 = .ok (.iload_n 1, 1) := by decide +kernel
theorem dX12_marksFactor_25 : decode cX12_marksFactor 25 = .ok (.iconst 1, 1) := by decide +kernel
theorem dX12_marksFactor_26 : decode cX12_marksFactor 26 = .ok (.isub, 1) := by decide +kernel
theorem dX12_marksFactor_27 : decode cX12_marksFactor 27 = .ok (.iload_n 2, 1) := by decide +kernel
theorem dX12_marksFactor_28 : decode cX12_marksFactor 28 = .ok (.invokevirtual 314, 3) := by decide +kernel
theorem dX12_marksFactor_31 : decode cX12_marksFactor 31 = .ok (.aload_n 0, 1) := by decide +kernel
theorem dX12_marksFactor_32 : decode cX12_marksFactor 32 = .ok (.getfield 221, 3) := by decide +kernel
theorem dX12_marksFactor_35 : decode cX12_marksFactor 35 = .ok (.iload_n 1, 1) := by decide +kernel
theorem dX12_marksFactor_36 : decode cX12_marksFactor 36 = .ok (.iload_n 2, 1) := by decide +kernel
theorem dX12_marksFactor_37 : decode cX12_marksFactor 37 = .ok (.imul, 1) := by decide +kernel
theorem dX12_marksFactor_38 : decode cX12_marksFactor 38 = .ok (.iconst 1, 1) := by decide +kernel
theorem dX12_marksFactor_39 : decode cX12_marksFactor 39 = .ok (.bastore, 1) := by decide +kernel
theorem dX12_marksFactor_40 : decode cX12_marksFactor 40 = .ok (.return_, 1) := by decide +kernel
theorem dX12_marksFactor_41 : decode cX12_marksFactor 41 = .ok (.aload_n 0, 1) := by decide +kernel
theorem dX12_marksFactor_42 : decode cX12_marksFactor 42 = .ok (.iload_n 3, 1) := by decide +kernel
theorem dX12_marksFactor_43 : decode cX12_marksFactor 43 = .ok (.iload_n 2, 1) := by decide +kernel
theorem dX12_marksFactor_44 : decode cX12_marksFactor 44 = .ok (.invokevirtual 314, 3) := by decide +kernel
theorem dX12_marksFactor_47 : decode cX12_marksFactor 47 = .ok (.aload_n 0, 1) := by decide +kernel
theorem dX12_marksFactor_48 : decode cX12_marksFactor 48 = .ok (.iload_n 1, 1) := by decide +kernel
theorem dX12_marksFactor_49 : decode cX12_marksFactor 49 = .ok (.iload_n 3, 1) := by decide +kernel
theorem dX12_marksFactor_50 : decode cX12_marksFactor 50 = .ok (.idiv, 1) := by decide +kernel
theorem dX12_marksFactor_51 : decode cX12_marksFactor 51 = .ok (.iload_n 2, 1) := by decide +kernel
theorem dX12_marksFactor_52 : decode cX12_marksFactor 52 = .ok (.iload_n 3, 1) := by decide +kernel
theorem dX12_marksFactor_53 : decode cX12_marksFactor 53 = .ok (.imul, 1) := by decide +kernel
theorem dX12_marksFactor_54 : decode cX12_marksFactor 54 = .ok (.invokevirtual 314, 3) := by decide +kernel
theorem dX12_marksFactor_57 : decode cX12_marksFactor 57 = .ok (.return_, 1) := by decide +kernel
theorem dX12_marksThrees_0 : decode cX12_marksThrees 0 = .ok (.iload_n 1, 1) := by decide +kernel
theorem dX12_marksThrees_1 : decode cX12_marksThrees 1 = .ok (.iconst 4, 1) := by decide +kernel
theorem dX12_marksThrees_2 : decode cX12_marksThrees 2 = .ok (.if_icmp .ge 9, 3) := by decide +kernel
theorem dX12_marksThrees_5 : decode cX12_marksThrees 5 = .ok (.aload_n 0, 1) := by decide +kernel
theorem dX12_marksThrees_6 : decode cX12_marksThrees 6 = .ok (.iload_n 1, 1) := by decide +kernel
theorem dX12_marksThrees_7 : decode cX12_marksThrees 7 = .ok (.invokevirtual 317, 3) := by decide +kernel
theorem dX12_marksThrees_10 : decode cX12_marksThrees 10 = .ok (.return_, 1) := by decide +kernel
theorem dX12_marksThrees_11 : decode cX12_marksThrees 11 = .ok (.aload_n 0, 1) := by decide +kernel
theorem dX12_marksThrees_12 : decode cX12_marksThrees 12 = .ok (.getfield 221, 3) := by decide +kernel
theorem dX12_marksThrees_15 : decode cX12_marksThrees 15 = .ok (.iconst 1, 1) := by decide +kernel
theorem dX12_marksThrees_16 : decode cX12_marksThrees 16 = .ok (.iconst 1, 1) := by decide +kernel
theorem dX12_marksThrees_17 : decode cX12_marksThrees 17 = .ok (.bastore, 1) := by decide +kernel
theorem dX12_marksThrees_18 : decode cX12_marksThrees 18 = .ok (.aload_n 0, 1) := by decide +kernel
theorem dX12_marksThrees_19 : decode cX12_marksThrees 19 = .ok (.getfield 221, 3) := by decide +kernel
theorem dX12_marksThrees_22 : decode cX12_marksThrees 22 = .ok (.iconst 2, 1) := by decide +kernel
theorem dX12_marksThrees_23 : decode cX12_marksThrees 23 = .ok (.iconst 1, 1) := by decide +kernel
theorem dX12_marksThrees_24 : decode cX12_marksThrees 24 = .ok (.bastore, 1) := by decide +kernel
theorem dX12_marksThrees_25 : decode cX12_marksThrees 25 = .ok (.aload_n 0, 1) := by decide +kernel
theorem dX12_marksThrees_26 : decode cX12_marksThrees 26 = .ok (.getfield 221, 3) := by decide +kernel
theorem dX12_marksThrees_29 : decode cX12_marksThrees 29 = .ok (.iconst 3, 1) := by decide +kernel
theorem dX12_marksThrees_30 : decode cX12_marksThrees 30 = .ok (.iconst 1, 1) := by decide +kernel
theorem dX12_marksThrees_31 : decode cX12_marksThrees 31 = .ok (.bastore, 1) := by decide +kernel
theorem dX12_marksThrees_32 : decode cX12_marksThrees 32 = .ok (.iconst 0, 1) := by decide +kernel
theorem dX12_marksThrees_33 : decode cX12_marksThrees 33 = .ok (.istore_n 2, 1) := by decide +kernel
theorem dX12_marksThrees_34 : decode cX12_marksThrees 34 = .ok (.iload_n 1, 1) := by decide +kernel
theorem dX12_marksThrees_35 : decode cX12_marksThrees 35 = .ok (.iconst 2, 1) := by decide +kernel
theorem dX12_marksThrees_36 : decode cX12_marksThrees 36 = .ok (.iload_n 2, 1) := by decide +kernel
theorem dX12_marksThrees_37 : decode cX12_marksThrees 37 = .ok (.imul, 1) := by decide +kernel
theorem dX12_marksThrees_38 : decode cX12_marksThrees 38 = .ok (.ishr, 1) := by decide +kernel
theorem dX12_marksThrees_39 : decode cX12_marksThrees 39 = .ok (.ifCond .le 9, 3) := by decide +kernel
theorem dX12_marksThrees_42 : decode cX12_marksThrees 42 = .ok (.iinc 2 1, 3) := by decide +kernel
theorem dX12_marksThrees_45 : decode cX12_marksThrees 45 = .ok (.goto (-11), 3) := by decide +kernel
theorem dX12_marksThrees_48 : decode cX12_marksThrees 48 = .ok (.iload_n 1, 1) := by decide +kernel
theorem dX12_marksThrees_49 : decode cX12_marksThrees 49 = .ok (.iconst 2, 1) := by decide +kernel
theorem dX12_marksThrees_50 : decode cX12_marksThrees 50 = .ok (.iload_n 2, 1) := by decide +kernel
theorem dX12_marksThrees_51 : decode cX12_marksThrees 51 = .ok (.imul, 1) := by decide +kernel
theorem dX12_marksThrees_52 : decode cX12_marksThrees 52 = .ok (.iconst 2, 1) := by decide +kernel
theorem dX12_marksThrees_53 : decode cX12_marksThrees 53 = .ok (.isub, 1) := by decide +kernel
theorem dX12_marksThrees_54 : decode cX12_marksThrees 54 = .ok (.ishr, 1) := by decide +kernel
theorem dX12_marksThrees_55 : decode cX12_marksThrees 55 = .ok (.istore_n 3, 1) := by decide +kernel
theorem dX12_marksThrees_56 : decode cX12_marksThrees 56 = .ok (.iload_n 2, 1) := by decide +kernel
theorem dX12_marksThrees_57 : decode cX12_marksThrees 57 = .ok (.iconst 2, 1) := by decide +kernel
theorem dX12_marksThrees_58 : decode cX12_marksThrees 58 = .ok (.isub, 1) := by decide +kernel
theorem dX12_marksThrees_59 : decode cX12_marksThrees 59 = .ok (.istore 4, 2) := by decide +kernel
theorem dX12_marksThrees_61 : decode cX12_marksThrees 61 = .ok (.iload 4, 2) := by decide +kernel
theorem dX12_marksThrees_63 : decode cX12_marksThrees 63 = .ok (.ifCond .lt 47, 3) := by decide +kernel
theorem dX12_marksThrees_66 : decode cX12_marksThrees 66 = .ok (.aload_n 0, 1) := by decide +kernel
theorem dX12_marksThrees_67 : decode cX12_marksThrees 67 = .ok (.getfield 221, 3) := by decide +kernel
theorem dX12_marksThrees_70 : decode cX12_marksThrees 70 = .ok (.iconst 2, 1) := by decide +kernel
theorem dX12_marksThrees_71 : decode cX12_marksThrees 71 = .ok (.iload_n 3, 1) := by decide +kernel
theorem dX12_marksThrees_72 : decode cX12_marksThrees 72 = .ok (.imul, 1) := by decide +kernel
theorem dX12_marksThrees_73 : decode cX12_marksThrees 73 = .ok (.iconst 1, 1) := by decide +kernel
theorem dX12_marksThrees_74 : decode cX12_marksThrees 74 = .ok (.bastore, 1) := by decide +kernel
theorem dX12_marksThrees_75 : decode cX12_marksThrees 75 = .ok (.aload_n 0, 1) := by decide +kernel
theorem dX12_marksThrees_76 : decode cX12_marksThrees 76 = .ok (.getfield 221, 3) := by decide +kernel
theorem dX12_marksThrees_79 : decode cX12_marksThrees 79 = .ok (.iconst 4, 1) := by decide +kernel
theorem dX12_marksThrees_80 : decode cX12_marksThrees 80 = .ok (.iload_n 3, 1) := by decide +kernel
theorem dX12_marksThrees_81 : decode cX12_marksThrees 81 = .ok (.imul, 1) := by decide +kernel
theorem dX12_marksThrees_82 : decode cX12_marksThrees 82 = .ok (.iconst 1, 1) := by decide +kernel
theorem dX12_marksThrees_83 : decode cX12_marksThrees 83 = .ok (.bastore, 1) := by decide +kernel
theorem dX12_marksThrees_84 : decode cX12_marksThrees 84 = .ok (.iconst 4, 1) := by decide +kernel
theorem dX12_marksThrees_85 : decode cX12_marksThrees 85 = .ok (.iload_n 3, 1) := by decide +kernel
theorem dX12_marksThrees_86 : decode cX12_marksThrees 86 = .ok (.imul, 1) := by decide +kernel
theorem dX12_marksThrees_87 : decode cX12_marksThrees 87 = .ok (.iload_n 1, 1) := by decide +kernel
theorem dX12_marksThrees_88 : decode cX12_marksThrees 88 = .ok (.iconst 2, 1) := by decide +kernel
theorem dX12_marksThrees_89 : decode cX12_marksThrees 89 = .ok (.iload 4, 2) := by decide +kernel
theorem dX12_marksThrees_91 : decode cX12_marksThrees 91 = .ok (.imul, 1) := by decide +kernel
theorem dX12_marksThrees_92 : decode cX12_marksThrees 92 = .ok (.ishr, 1) := by decide +kernel
theorem dX12_marksThrees_93 : decode cX12_marksThrees 93 = .ok (.iconst 3, 1) := by decide +kernel
theorem dX12_marksThrees_94 : decode cX12_marksThrees 94 = .ok (.iand, 1) := by decide +kernel
theorem dX12_marksThrees_95 : decode cX12_marksThrees 95 = .ok (.iadd, 1) := by decide +kernel
theorem dX12_marksThrees_96 : decode cX12_marksThrees 96 = .ok (.istore_n 3, 1) := by decide +kernel
theorem dX12_marksThrees_97 : decode cX12_marksThrees 97 = .ok (.aload_n 0, 1) := by decide +kernel
theorem dX12_marksThrees_98 : decode cX12_marksThrees 98 = .ok (.getfield 221, 3) := by decide +kernel
theorem dX12_marksThrees_101 : decode cX12_marksThrees 101 = .ok (.iload_n 3, 1) := by decide +kernel
theorem dX12_marksThrees_102 : decode cX12_marksThrees 102 = .ok (.iconst 1, 1) := by decide +kernel
theorem dX12_marksThrees_103 : decode cX12_marksThrees 103 = .ok (.bastore, 1) := by decide +kernel
theorem dX12_marksThrees_104 : decode cX12_marksThrees 104 = .ok (.iinc 4 (-1), 3) := by decide +kernel
theorem dX12_marksThrees_107 : decode cX12_marksThrees 107 = .ok (.goto (-46), 3) := by decide +kernel
theorem dX12_marksThrees_110 : decode cX12_marksThrees 110 = .ok (.return_, 1) := by decide +kernel
theorem dX12_lays_0 : decode cX12_lays 0 = .ok (.iload_n 1, 1) := by decide +kernel
theorem dX12_lays_1 : decode cX12_lays 1 = .ok (.i2l, 1) := by decide +kernel
theorem dX12_lays_2 : decode cX12_lays 2 = .ok (.lconst 1, 1) := by decide +kernel
theorem dX12_lays_3 : decode cX12_lays 3 = .ok (.ldc2_w 153, 3) := by decide +kernel
theorem dX12_lays_6 : decode cX12_lays 6 = .ok (.invokestatic 93, 3) := by decide +kernel
theorem dX12_lays_9 : decode cX12_lays 9 = .ok (.ifCond .eq 15, 3) := by decide +kernel
theorem dX12_lays_12 : decode cX12_lays 12 = .ok (.iload_n 2, 1) := by decide +kernel
theorem dX12_lays_13 : decode cX12_lays 13 = .ok (.i2l, 1) := by decide +kernel
theorem dX12_lays_14 : decode cX12_lays 14 = .ok (.lconst 0, 1) := by decide +kernel
theorem dX12_lays_15 : decode cX12_lays 15 = .ok (.ldc2_w 320, 3) := by decide +kernel
theorem dX12_lays_18 : decode cX12_lays 18 = .ok (.invokestatic 93, 3) := by decide +kernel
theorem dX12_lays_21 : decode cX12_lays 21 = .ok (.ifCond .ne 5, 3) := by decide +kernel
theorem dX12_lays_24 : decode cX12_lays 24 = .ok (.iconst 0, 1) := by decide +kernel
theorem dX12_lays_25 : decode cX12_lays 25 = .ok (.ireturn, 1) := by decide +kernel
theorem dX12_lays_26 : decode cX12_lays 26 = .ok (.iconst 0, 1) := by decide +kernel
theorem dX12_lays_27 : decode cX12_lays 27 = .ok (.istore_n 3, 1) := by decide +kernel
theorem dX12_lays_28 : decode cX12_lays 28 = .ok (.iload_n 3, 1) := by decide +kernel
theorem dX12_lays_29 : decode cX12_lays 29 = .ok (.iload_n 1, 1) := by decide +kernel
theorem dX12_lays_30 : decode cX12_lays 30 = .ok (.if_icmp .gt 16, 3) := by decide +kernel
theorem dX12_lays_33 : decode cX12_lays 33 = .ok (.aload_n 0, 1) := by decide +kernel
theorem dX12_lays_34 : decode cX12_lays 34 = .ok (.getfield 221, 3) := by decide +kernel
theorem dX12_lays_37 : decode cX12_lays 37 = .ok (.iload_n 3, 1) := by decide +kernel
theorem dX12_lays_38 : decode cX12_lays 38 = .ok (.iconst 0, 1) := by decide +kernel
theorem dX12_lays_39 : decode cX12_lays 39 = .ok (.bastore, 1) := by decide +kernel
theorem dX12_lays_40 : decode cX12_lays 40 = .ok (.iinc 3 1, 3) := by decide +kernel
theorem dX12_lays_43 : decode cX12_lays 43 = .ok (.goto (-15), 3) := by decide +kernel
theorem dX12_lays_46 : decode cX12_lays 46 = .ok (.iload_n 2, 1) := by decide +kernel
theorem dX12_lays_47 : decode cX12_lays 47 = .ok (.ifCond .ne 11, 3) := by decide +kernel
theorem dX12_lays_50 : decode cX12_lays 50 = .ok (.aload_n 0, 1) := by decide +kernel
theorem dX12_lays_51 : decode cX12_lays 51 = .ok (.iload_n 1, 1) := by decide +kernel
theorem dX12_lays_52 : decode cX12_lays 52 = .ok (.invokevirtual 317, 3) := by decide +kernel
theorem dX12_lays_55 : decode cX12_lays 55 = .ok (.goto 35, 3) := by decide +kernel
theorem dX12_lays_58 : decode cX12_lays 58 = .ok (.iload_n 2, 1) := by decide +kernel
theorem dX12_lays_59 : decode cX12_lays 59 = .ok (.iconst 1, 1) := by decide +kernel
theorem dX12_lays_60 : decode cX12_lays 60 = .ok (.if_icmp .ne 11, 3) := by decide +kernel
theorem dX12_lays_63 : decode cX12_lays 63 = .ok (.aload_n 0, 1) := by decide +kernel
theorem dX12_lays_64 : decode cX12_lays 64 = .ok (.iload_n 1, 1) := by decide +kernel
theorem dX12_lays_65 : decode cX12_lays 65 = .ok (.invokevirtual 322, 3) := by decide +kernel
theorem dX12_lays_68 : decode cX12_lays 68 = .ok (.goto 22, 3) := by decide +kernel
theorem dX12_lays_71 : decode cX12_lays 71 = .ok (.iload_n 2, 1) := by decide +kernel
theorem dX12_lays_72 : decode cX12_lays 72 = .ok (.iconst 2, 1) := by decide +kernel
theorem dX12_lays_73 : decode cX12_lays 73 = .ok (.if_icmp .ne 12, 3) := by decide +kernel
theorem dX12_lays_76 : decode cX12_lays 76 = .ok (.aload_n 0, 1) := by decide +kernel
theorem dX12_lays_77 : decode cX12_lays 77 = .ok (.iload_n 1, 1) := by decide +kernel
theorem dX12_lays_78 : decode cX12_lays 78 = .ok (.iconst 1, 1) := by decide +kernel
theorem dX12_lays_79 : decode cX12_lays 79 = .ok (.invokevirtual 314, 3) := by decide +kernel
theorem dX12_lays_82 : decode cX12_lays 82 = .ok (.goto 8, 3) := by decide +kernel
theorem dX12_lays_85 : decode cX12_lays 85 = .ok (.aload_n 0, 1) := by decide +kernel
theorem dX12_lays_86 : decode cX12_lays 86 = .ok (.iload_n 1, 1) := by decide +kernel
theorem dX12_lays_87 : decode cX12_lays 87 = .ok (.invokevirtual 325, 3) := by decide +kernel
theorem dX12_lays_90 : decode cX12_lays 90 = .ok (.aload_n 0, 1) := by decide +kernel
theorem dX12_lays_91 : decode cX12_lays 91 = .ok (.iconst 0, 1) := by decide +kernel
theorem dX12_lays_92 : decode cX12_lays 92 = .ok (.putfield 328, 3) := by decide +kernel
theorem dX12_lays_95 : decode cX12_lays 95 = .ok (.iconst 1, 1) := by decide +kernel
theorem dX12_lays_96 : decode cX12_lays 96 = .ok (.istore_n 3, 1) := by decide +kernel
theorem dX12_lays_97 : decode cX12_lays 97 = .ok (.iload_n 3, 1) := by decide +kernel
theorem dX12_lays_98 : decode cX12_lays 98 = .ok (.iload_n 1, 1) := by decide +kernel
theorem dX12_lays_99 : decode cX12_lays 99 = .ok (.if_icmp .gt 38, 3) := by decide +kernel
theorem dX12_lays_102 : decode cX12_lays 102 = .ok (.aload_n 0, 1) := by decide +kernel
theorem dX12_lays_103 : decode cX12_lays 103 = .ok (.getfield 221, 3) := by decide +kernel
theorem dX12_lays_106 : decode cX12_lays 106 = .ok (.iload_n 3, 1) := by decide +kernel
theorem dX12_lays_107 : decode cX12_lays 107 = .ok (.baload, 1) := by decide +kernel
theorem dX12_lays_108 : decode cX12_lays 108 = .ok (.ifCond .eq 23, 3) := by decide +kernel
theorem dX12_lays_111 : decode cX12_lays 111 = .ok (.aload_n 0, 1) := by decide +kernel
theorem dX12_lays_112 : decode cX12_lays 112 = .ok (.getfield 224, 3) := by decide +kernel
theorem dX12_lays_115 : decode cX12_lays 115 = .ok (.aload_n 0, 1) := by decide +kernel
theorem dX12_lays_116 : decode cX12_lays 116 = .ok (.getfield 328, 3) := by decide +kernel
theorem dX12_lays_119 : decode cX12_lays 119 = .ok (.iload_n 3, 1) := by decide +kernel
theorem dX12_lays_120 : decode cX12_lays 120 = .ok (.iastore, 1) := by decide +kernel
theorem dX12_lays_121 : decode cX12_lays 121 = .ok (.aload_n 0, 1) := by decide +kernel
theorem dX12_lays_122 : decode cX12_lays 122 = .ok (.dup, 1) := by decide +kernel
theorem dX12_lays_123 : decode cX12_lays 123 = .ok (.getfield 328, 3) := by decide +kernel
theorem dX12_lays_126 : decode cX12_lays 126 = .ok (.iconst 1, 1) := by decide +kernel
theorem dX12_lays_127 : decode cX12_lays 127 = .ok (.iadd, 1) := by decide +kernel
theorem dX12_lays_128 : decode cX12_lays 128 = .ok (.putfield 328, 3) := by decide +kernel
theorem dX12_lays_131 : decode cX12_lays 131 = .ok (.iinc 3 1, 3) := by decide +kernel
theorem dX12_lays_134 : decode cX12_lays 134 = .ok (.goto (-37), 3) := by decide +kernel
theorem dX12_lays_137 : decode cX12_lays 137 = .ok (.iconst 1, 1) := by decide +kernel
theorem dX12_lays_138 : decode cX12_lays 138 = .ok (.ireturn, 1) := by decide +kernel
theorem dX12_method_0 : decode cX12_method 0 = .ok (.aload_n 0, 1) := by decide +kernel
theorem dX12_method_1 : decode cX12_method 1 = .ok (.iconst 0, 1) := by decide +kernel
theorem dX12_method_2 : decode cX12_method 2 = .ok (.putfield 1, 3) := by decide +kernel
theorem dX12_method_5 : decode cX12_method 5 = .ok (.aload_n 0, 1) := by decide +kernel
theorem dX12_method_6 : decode cX12_method 6 = .ok (.iload_n 1, 1) := by decide +kernel
theorem dX12_method_7 : decode cX12_method 7 = .ok (.iload_n 2, 1) := by decide +kernel
theorem dX12_method_8 : decode cX12_method 8 = .ok (.invokevirtual 331, 3) := by decide +kernel
theorem dX12_method_11 : decode cX12_method 11 = .ok (.ifCond .eq 12, 3) := by decide +kernel
theorem dX12_method_14 : decode cX12_method 14 = .ok (.aload_n 0, 1) := by decide +kernel
theorem dX12_method_15 : decode cX12_method 15 = .ok (.getfield 328, 3) := by decide +kernel
theorem dX12_method_18 : decode cX12_method 18 = .ok (.iconst 1, 1) := by decide +kernel
theorem dX12_method_19 : decode cX12_method 19 = .ok (.isub, 1) := by decide +kernel
theorem dX12_method_20 : decode cX12_method 20 = .ok (.goto 4, 3) := by decide +kernel
theorem dX12_method_23 : decode cX12_method 23 = .ok (.iconst (-1), 1) := by decide +kernel
theorem dX12_method_24 : decode cX12_method 24 = .ok (.ireturn, 1) := by decide +kernel
theorem dX12_chain_0 : decode cX12_chain 0 = .ok (.aload_n 0, 1) := by decide +kernel
theorem dX12_chain_1 : decode cX12_chain 1 = .ok (.iconst 0, 1) := by decide +kernel
theorem dX12_chain_2 : decode cX12_chain 2 = .ok (.putfield 1, 3) := by decide +kernel
theorem dX12_chain_5 : decode cX12_chain 5 = .ok (.aload_n 0, 1) := by decide +kernel
theorem dX12_chain_6 : decode cX12_chain 6 = .ok (.iload_n 1, 1) := by decide +kernel
theorem dX12_chain_7 : decode cX12_chain 7 = .ok (.iload_n 2, 1) := by decide +kernel
theorem dX12_chain_8 : decode cX12_chain 8 = .ok (.invokevirtual 331, 3) := by decide +kernel
theorem dX12_chain_11 : decode cX12_chain 11 = .ok (.ifCond .ne 5, 3) := by decide +kernel
theorem dX12_chain_14 : decode cX12_chain 14 = .ok (.iconst (-1), 1) := by decide +kernel
theorem dX12_chain_15 : decode cX12_chain 15 = .ok (.ireturn, 1) := by decide +kernel
theorem dX12_chain_16 : decode cX12_chain 16 = .ok (.iload_n 3, 1) := by decide +kernel
theorem dX12_chain_17 : decode cX12_chain 17 = .ok (.i2l, 1) := by decide +kernel
theorem dX12_chain_18 : decode cX12_chain 18 = .ok (.lconst 0, 1) := by decide +kernel
theorem dX12_chain_19 : decode cX12_chain 19 = .ok (.aload_n 0, 1) := by decide +kernel
theorem dX12_chain_20 : decode cX12_chain 20 = .ok (.getfield 328, 3) := by decide +kernel
theorem dX12_chain_23 : decode cX12_chain 23 = .ok (.iconst 1, 1) := by decide +kernel
theorem dX12_chain_24 : decode cX12_chain 24 = .ok (.isub, 1) := by decide +kernel
theorem dX12_chain_25 : decode cX12_chain 25 = .ok (.i2l, 1) := by decide +kernel
theorem dX12_chain_26 : decode cX12_chain 26 = .ok (.invokestatic 93, 3) := by decide +kernel
theorem dX12_chain_29 : decode cX12_chain 29 = .ok (.ifCond .eq 12, 3) := by decide +kernel
theorem dX12_chain_32 : decode cX12_chain 32 = .ok (.aload_n 0, 1) := by decide +kernel
theorem dX12_chain_33 : decode cX12_chain 33 = .ok (.getfield 224, 3) := by decide +kernel
theorem dX12_chain_36 : decode cX12_chain 36 = .ok (.iload_n 3, 1) := by decide +kernel
theorem dX12_chain_37 : decode cX12_chain 37 = .ok (.iaload, 1) := by decide +kernel
theorem dX12_chain_38 : decode cX12_chain 38 = .ok (.goto 5, 3) := by decide +kernel
theorem dX12_chain_41 : decode cX12_chain 41 = .ok (.bipush (-2), 2) := by decide +kernel
theorem dX12_chain_43 : decode cX12_chain 43 = .ok (.ireturn, 1) := by decide +kernel
theorem dX12_best_0 : decode cX12_best 0 = .ok (.aload_n 0, 1) := by decide +kernel
theorem dX12_best_1 : decode cX12_best 1 = .ok (.iconst 0, 1) := by decide +kernel
theorem dX12_best_2 : decode cX12_best 2 = .ok (.putfield 1, 3) := by decide +kernel
theorem dX12_best_5 : decode cX12_best 5 = .ok (.iconst (-1), 1) := by decide +kernel
theorem dX12_best_6 : decode cX12_best 6 = .ok (.istore_n 2, 1) := by decide +kernel
theorem dX12_best_7 : decode cX12_best 7 = .ok (.iconst 0, 1) := by decide +kernel
theorem dX12_best_8 : decode cX12_best 8 = .ok (.istore_n 3, 1) := by decide +kernel
theorem dX12_best_9 : decode cX12_best 9 = .ok (.iconst 0, 1) := by decide +kernel
theorem dX12_best_10 : decode cX12_best 10 = .ok (.istore 4, 2) := by decide +kernel
theorem dX12_best_12 : decode cX12_best 12 = .ok (.iload 4, 2) := by decide +kernel
theorem dX12_best_14 : decode cX12_best 14 = .ok (.iconst 4, 1) := by decide +kernel
theorem dX12_best_15 : decode cX12_best 15 = .ok (.if_icmp .ge 40, 3) := by decide +kernel
theorem dX12_best_18 : decode cX12_best 18 = .ok (.aload_n 0, 1) := by decide +kernel
theorem dX12_best_19 : decode cX12_best 19 = .ok (.iload_n 1, 1) := by decide +kernel
theorem dX12_best_20 : decode cX12_best 20 = .ok (.iload 4, 2) := by decide +kernel
theorem dX12_best_22 : decode cX12_best 22 = .ok (.invokevirtual 331, 3) := by decide +kernel
theorem dX12_best_25 : decode cX12_best 25 = .ok (.ifCond .eq 24, 3) := by decide +kernel
theorem dX12_best_28 : decode cX12_best 28 = .ok (.iload_n 2, 1) := by decide +kernel
theorem dX12_best_29 : decode cX12_best 29 = .ok (.iconst (-1), 1) := by decide +kernel
theorem dX12_best_30 : decode cX12_best 30 = .ok (.if_icmp .eq 11, 3) := by decide +kernel
theorem dX12_best_33 : decode cX12_best 33 = .ok (.aload_n 0, 1) := by decide +kernel
theorem dX12_best_34 : decode cX12_best 34 = .ok (.getfield 328, 3) := by decide +kernel
theorem dX12_best_37 : decode cX12_best 37 = .ok (.iload_n 3, 1) := by decide +kernel
theorem dX12_best_38 : decode cX12_best 38 = .ok (.if_icmp .ge 11, 3) := by decide +kernel
theorem dX12_best_41 : decode cX12_best 41 = .ok (.iload 4, 2) := by decide +kernel
theorem dX12_best_43 : decode cX12_best 43 = .ok (.istore_n 2, 1) := by decide +kernel
theorem dX12_best_44 : decode cX12_best 44 = .ok (.aload_n 0, 1) := by decide +kernel
theorem dX12_best_45 : decode cX12_best 45 = .ok (.getfield 328, 3) := by decide +kernel
theorem dX12_best_48 : decode cX12_best 48 = .ok (.istore_n 3, 1) := by decide +kernel
theorem dX12_best_49 : decode cX12_best 49 = .ok (.iinc 4 1, 3) := by decide +kernel
theorem dX12_best_52 : decode cX12_best 52 = .ok (.goto (-40), 3) := by decide +kernel
theorem dX12_best_55 : decode cX12_best 55 = .ok (.iload_n 2, 1) := by decide +kernel
theorem dX12_best_56 : decode cX12_best 56 = .ok (.ireturn, 1) := by decide +kernel
theorem dX12_star_0 : decode cX12_star 0 = .ok (.aload_n 0, 1) := by decide +kernel
theorem dX12_star_1 : decode cX12_star 1 = .ok (.iconst 0, 1) := by decide +kernel
theorem dX12_star_2 : decode cX12_star 2 = .ok (.putfield 1, 3) := by decide +kernel
theorem dX12_star_5 : decode cX12_star 5 = .ok (.aload_n 0, 1) := by decide +kernel
theorem dX12_star_6 : decode cX12_star 6 = .ok (.iload_n 1, 1) := by decide +kernel
theorem dX12_star_7 : decode cX12_star 7 = .ok (.iload_n 2, 1) := by decide +kernel
theorem dX12_star_8 : decode cX12_star 8 = .ok (.invokevirtual 331, 3) := by decide +kernel
theorem dX12_star_11 : decode cX12_star 11 = .ok (.ifCond .ne 5, 3) := by decide +kernel
theorem dX12_star_14 : decode cX12_star 14 = .ok (.iconst (-1), 1) := by decide +kernel
theorem dX12_star_15 : decode cX12_star 15 = .ok (.ireturn, 1) := by decide +kernel
theorem dX12_star_16 : decode cX12_star 16 = .ok (.iconst 1, 1) := by decide +kernel
theorem dX12_star_17 : decode cX12_star 17 = .ok (.istore_n 3, 1) := by decide +kernel
theorem dX12_star_18 : decode cX12_star 18 = .ok (.iload_n 3, 1) := by decide +kernel
theorem dX12_star_19 : decode cX12_star 19 = .ok (.aload_n 0, 1) := by decide +kernel
theorem dX12_star_20 : decode cX12_star 20 = .ok (.getfield 328, 3) := by decide +kernel
theorem dX12_star_23 : decode cX12_star 23 = .ok (.if_icmp .ge 75, 3) := by decide +kernel
theorem dX12_star_26 : decode cX12_star 26 = .ok (.aload_n 0, 1) := by decide +kernel
theorem dX12_star_27 : decode cX12_star 27 = .ok (.getfield 224, 3) := by decide +kernel
theorem dX12_star_30 : decode cX12_star 30 = .ok (.iload_n 3, 1) := by decide +kernel
theorem dX12_star_31 : decode cX12_star 31 = .ok (.iaload, 1) := by decide +kernel
theorem dX12_star_32 : decode cX12_star 32 = .ok (.aload_n 0, 1) := by decide +kernel
theorem dX12_star_33 : decode cX12_star 33 = .ok (.getfield 224, 3) := by decide +kernel
theorem dX12_star_36 : decode cX12_star 36 = .ok (.iload_n 3, 1) := by decide +kernel
theorem dX12_star_37 : decode cX12_star 37 = .ok (.iconst 1, 1) := by decide +kernel
theorem dX12_star_38 : decode cX12_star 38 = .ok (.isub, 1) := by decide +kernel
theorem dX12_star_39 : decode cX12_star 39 = .ok (.iaload, 1) := by decide +kernel
theorem dX12_star_40 : decode cX12_star 40 = .ok (.isub, 1) := by decide +kernel
theorem dX12_star_41 : decode cX12_star 41 = .ok (.istore 4, 2) := by decide +kernel
theorem dX12_star_43 : decode cX12_star 43 = .ok (.iconst 0, 1) := by decide +kernel
theorem dX12_star_44 : decode cX12_star 44 = .ok (.istore 5, 2) := by decide +kernel
theorem dX12_star_46 : decode cX12_star 46 = .ok (.iconst 0, 1) := by decide +kernel
theorem dX12_star_47 : decode cX12_star 47 = .ok (.istore 6, 2) := by decide +kernel
theorem dX12_star_49 : decode cX12_star 49 = .ok (.iload 6, 2) := by decide +kernel
theorem dX12_star_51 : decode cX12_star 51 = .ok (.iload_n 3, 1) := by decide +kernel
theorem dX12_star_52 : decode cX12_star 52 = .ok (.if_icmp .ge 33, 3) := by decide +kernel
theorem dX12_star_55 : decode cX12_star 55 = .ok (.iload 5, 2) := by decide +kernel
theorem dX12_star_57 : decode cX12_star 57 = .ok (.ifCond .ne 15, 3) := by decide +kernel
theorem dX12_star_60 : decode cX12_star 60 = .ok (.aload_n 0, 1) := by decide +kernel
theorem dX12_star_61 : decode cX12_star 61 = .ok (.getfield 224, 3) := by decide +kernel
theorem dX12_star_64 : decode cX12_star 64 = .ok (.iload 6, 2) := by decide +kernel
theorem dX12_star_66 : decode cX12_star 66 = .ok (.iaload, 1) := by decide +kernel
theorem dX12_star_67 : decode cX12_star 67 = .ok (.iload 4, 2) := by decide +kernel
theorem dX12_star_69 : decode cX12_star 69 = .ok (.if_icmp .ne 7, 3) := by decide +kernel
theorem dX12_star_72 : decode cX12_star 72 = .ok (.iconst 1, 1) := by decide +kernel
theorem dX12_star_73 : decode cX12_star 73 = .ok (.goto 4, 3) := by decide +kernel
theorem dX12_star_76 : decode cX12_star 76 = .ok (.iconst 0, 1) := by decide +kernel
theorem dX12_star_77 : decode cX12_star 77 = .ok (.istore 5, 2) := by decide +kernel
theorem dX12_star_79 : decode cX12_star 79 = .ok (.iinc 6 1, 3) := by decide +kernel
theorem dX12_star_82 : decode cX12_star 82 = .ok (.goto (-33), 3) := by decide +kernel
theorem dX12_star_85 : decode cX12_star 85 = .ok (.iload 5, 2) := by decide +kernel
theorem dX12_star_87 : decode cX12_star 87 = .ok (.ifCond .ne 5, 3) := by decide +kernel
theorem dX12_star_90 : decode cX12_star 90 = .ok (.iconst 0, 1) := by decide +kernel
theorem dX12_star_91 : decode cX12_star 91 = .ok (.ireturn, 1) := by decide +kernel
theorem dX12_star_92 : decode cX12_star 92 = .ok (.iinc 3 1, 3) := by decide +kernel
theorem dX12_star_95 : decode cX12_star 95 = .ok (.goto (-77), 3) := by decide +kernel
theorem dX12_star_98 : decode cX12_star 98 = .ok (.iconst 1, 1) := by decide +kernel
theorem dX12_star_99 : decode cX12_star 99 = .ok (.ireturn, 1) := by decide +kernel
theorem dX12_lowerOf_0 : decode cX12_lowerOf 0 = .ok (.iconst 0, 1) := by decide +kernel
theorem dX12_lowerOf_1 : decode cX12_lowerOf 1 = .ok (.istore_n 3, 1) := by decide +kernel
theorem dX12_lowerOf_2 : decode cX12_lowerOf 2 = .ok (.iconst 0, 1) := by decide +kernel
theorem dX12_lowerOf_3 : decode cX12_lowerOf 3 = .ok (.istore 4, 2) := by decide +kernel
theorem dX12_lowerOf_5 : decode cX12_lowerOf 5 = .ok (.iload_n 1, 1) := by decide +kernel
theorem dX12_lowerOf_6 : decode cX12_lowerOf 6 = .ok (.istore 5, 2) := by decide +kernel
theorem dX12_lowerOf_8 : decode cX12_lowerOf 8 = .ok (.iload 5, 2) := by decide +kernel
theorem dX12_lowerOf_10 : decode cX12_lowerOf 10 = .ok (.ifCond .le 24, 3) := by decide +kernel
theorem dX12_lowerOf_13 : decode cX12_lowerOf 13 = .ok (.iinc 3 1, 3) := by decide +kernel
theorem dX12_lowerOf_16 : decode cX12_lowerOf 16 = .ok (.iload 4, 2) := by decide +kernel
theorem dX12_lowerOf_18 : decode cX12_lowerOf 18 = .ok (.iload 5, 2) := by decide +kernel
theorem dX12_lowerOf_20 : decode cX12_lowerOf 20 = .ok (.iconst 2, 1) := by decide +kernel
theorem dX12_lowerOf_21 : decode cX12_lowerOf 21 = .ok (.irem, 1) := by decide +kernel
theorem dX12_lowerOf_22 : decode cX12_lowerOf 22 = .ok (.iadd, 1) := by decide +kernel
theorem dX12_lowerOf_23 : decode cX12_lowerOf 23 = .ok (.istore 4, 2) := by decide +kernel
theorem dX12_lowerOf_25 : decode cX12_lowerOf 25 = .ok (.iload 5, 2) := by decide +kernel
theorem dX12_lowerOf_27 : decode cX12_lowerOf 27 = .ok (.iconst 2, 1) := by decide +kernel
theorem dX12_lowerOf_28 : decode cX12_lowerOf 28 = .ok (.idiv, 1) := by decide +kernel
theorem dX12_lowerOf_29 : decode cX12_lowerOf 29 = .ok (.istore 5, 2) := by decide +kernel
theorem dX12_lowerOf_31 : decode cX12_lowerOf 31 = .ok (.goto (-23), 3) := by decide +kernel
theorem dX12_lowerOf_34 : decode cX12_lowerOf 34 = .ok (.iinc 3 (-1), 3) := by decide +kernel
theorem dX12_lowerOf_37 : decode cX12_lowerOf 37 = .ok (.iload_n 2, 1) := by decide +kernel
theorem dX12_lowerOf_38 : decode cX12_lowerOf 38 = .ok (.ifCond .ne 5, 3) := by decide +kernel
theorem dX12_lowerOf_41 : decode cX12_lowerOf 41 = .ok (.iload_n 3, 1) := by decide +kernel
theorem dX12_lowerOf_42 : decode cX12_lowerOf 42 = .ok (.ireturn, 1) := by decide +kernel
theorem dX12_lowerOf_43 : decode cX12_lowerOf 43 = .ok (.iload_n 2, 1) := by decide +kernel
theorem dX12_lowerOf_44 : decode cX12_lowerOf 44 = .ok (.iconst 1, 1) := by decide +kernel
theorem dX12_lowerOf_45 : decode cX12_lowerOf 45 = .ok (.if_icmp .ne 39, 3) := by decide +kernel
theorem dX12_lowerOf_48 : decode cX12_lowerOf 48 = .ok (.iload_n 3, 1) := by decide +kernel
theorem dX12_lowerOf_49 : decode cX12_lowerOf 49 = .ok (.iload 4, 2) := by decide +kernel
theorem dX12_lowerOf_51 : decode cX12_lowerOf 51 = .ok (.iconst 1, 1) := by decide +kernel
theorem dX12_lowerOf_52 : decode cX12_lowerOf 52 = .ok (.if_icmp .ne 7, 3) := by decide +kernel
theorem dX12_lowerOf_55 : decode cX12_lowerOf 55 = .ok (.iconst 0, 1) := by decide +kernel
theorem dX12_lowerOf_56 : decode cX12_lowerOf 56 = .ok (.goto 24, 3) := by decide +kernel
theorem dX12_lowerOf_59 : decode cX12_lowerOf 59 = .ok (.iload 4, 2) := by decide +kernel
theorem dX12_lowerOf_61 : decode cX12_lowerOf 61 = .ok (.iconst 2, 1) := by decide +kernel
theorem dX12_lowerOf_62 : decode cX12_lowerOf 62 = .ok (.if_icmp .ne 7, 3) := by decide +kernel
theorem dX12_lowerOf_65 : decode cX12_lowerOf 65 = .ok (.iconst 1, 1) := by decide +kernel
theorem dX12_lowerOf_66 : decode cX12_lowerOf 66 = .ok (.goto 14, 3) := by decide +kernel
theorem dX12_lowerOf_69 : decode cX12_lowerOf 69 = .ok (.iload 4, 2) := by decide +kernel
theorem dX12_lowerOf_71 : decode cX12_lowerOf 71 = .ok (.iconst 5, 1) := by decide +kernel
theorem dX12_lowerOf_72 : decode cX12_lowerOf 72 = .ok (.if_icmp .ge 7, 3) := by decide +kernel
theorem dX12_lowerOf_75 : decode cX12_lowerOf 75 = .ok (.iconst 2, 1) := by decide +kernel
theorem dX12_lowerOf_76 : decode cX12_lowerOf 76 = .ok (.goto 4, 3) := by decide +kernel
theorem dX12_lowerOf_79 : decode cX12_lowerOf 79 = .ok (.iconst 3, 1) := by decide +kernel
theorem dX12_lowerOf_80 : decode cX12_lowerOf 80 = .ok (.iadd, 1) := by decide +kernel
theorem dX12_lowerOf_81 : decode cX12_lowerOf 81 = .ok (.goto 16, 3) := by decide +kernel
theorem dX12_lowerOf_84 : decode cX12_lowerOf 84 = .ok (.iload 4, 2) := by decide +kernel
theorem dX12_lowerOf_86 : decode cX12_lowerOf 86 = .ok (.iconst 1, 1) := by decide +kernel
theorem dX12_lowerOf_87 : decode cX12_lowerOf 87 = .ok (.if_icmp .ne 7, 3) := by decide +kernel
theorem dX12_lowerOf_90 : decode cX12_lowerOf 90 = .ok (.iload_n 3, 1) := by decide +kernel
theorem dX12_lowerOf_91 : decode cX12_lowerOf 91 = .ok (.goto 6, 3) := by decide +kernel
theorem dX12_lowerOf_94 : decode cX12_lowerOf 94 = .ok (.iload_n 3, 1) := by decide +kernel
theorem dX12_lowerOf_95 : decode cX12_lowerOf 95 = .ok (.iconst 1, 1) := by decide +kernel
theorem dX12_lowerOf_96 : decode cX12_lowerOf 96 = .ok (.iadd, 1) := by decide +kernel
theorem dX12_lowerOf_97 : decode cX12_lowerOf 97 = .ok (.ireturn, 1) := by decide +kernel
theorem dX12_lower_0 : decode cX12_lower 0 = .ok (.aload_n 0, 1) := by decide +kernel
theorem dX12_lower_1 : decode cX12_lower 1 = .ok (.iconst 0, 1) := by decide +kernel
theorem dX12_lower_2 : decode cX12_lower 2 = .ok (.putfield 1, 3) := by decide +kernel
theorem dX12_lower_5 : decode cX12_lower 5 = .ok (.iload_n 1, 1) := by decide +kernel
theorem dX12_lower_6 : decode cX12_lower 6 = .ok (.i2l, 1) := by decide +kernel
theorem dX12_lower_7 : decode cX12_lower 7 = .ok (.lconst 1, 1) := by decide +kernel
theorem dX12_lower_8 : decode cX12_lower 8 = .ok (.ldc2_w 153, 3) := by decide +kernel
theorem dX12_lower_11 : decode cX12_lower 11 = .ok (.invokestatic 93, 3) := by decide +kernel
theorem dX12_lower_14 : decode cX12_lower 14 = .ok (.ifCond .eq 24, 3) := by decide +kernel
theorem dX12_lower_17 : decode cX12_lower 17 = .ok (.iload_n 2, 1) := by decide +kernel
theorem dX12_lower_18 : decode cX12_lower 18 = .ok (.i2l, 1) := by decide +kernel
theorem dX12_lower_19 : decode cX12_lower 19 = .ok (.lconst 0, 1) := by decide +kernel
theorem dX12_lower_20 : decode cX12_lower 20 = .ok (.ldc2_w 151, 3) := by decide +kernel
theorem dX12_lower_23 : decode cX12_lower 23 = .ok (.invokestatic 93, 3) := by decide +kernel
theorem dX12_lower_26 : decode cX12_lower 26 = .ok (.ifCond .eq 12, 3) := by decide +kernel
theorem dX12_lower_29 : decode cX12_lower 29 = .ok (.aload_n 0, 1) := by decide +kernel
theorem dX12_lower_30 : decode cX12_lower 30 = .ok (.iload_n 1, 1) := by decide +kernel
theorem dX12_lower_31 : decode cX12_lower 31 = .ok (.iload_n 2, 1) := by decide +kernel
theorem dX12_lower_32 : decode cX12_lower 32 = .ok (.invokevirtual 334, 3) := by decide +kernel
theorem dX12_lower_35 : decode cX12_lower 35 = .ok (.goto 4, 3) := by decide +kernel
theorem dX12_lower_38 : decode cX12_lower 38 = .ok (.iconst (-1), 1) := by decide +kernel
theorem dX12_lower_39 : decode cX12_lower 39 = .ok (.ireturn, 1) := by decide +kernel
theorem dX12_goes_0 : decode cX12_goes 0 = .ok (.aload_n 0, 1) := by decide +kernel
theorem dX12_goes_1 : decode cX12_goes 1 = .ok (.getfield 263, 3) := by decide +kernel
theorem dX12_goes_4 : decode cX12_goes 4 = .ok (.aload_n 0, 1) := by decide +kernel
theorem dX12_goes_5 : decode cX12_goes 5 = .ok (.getfield 337, 3) := by decide +kernel
theorem dX12_goes_8 : decode cX12_goes 8 = .ok (.if_icmp .ne 5, 3) := by decide +kernel
theorem dX12_goes_11 : decode cX12_goes 11 = .ok (.iconst 2, 1) := by decide +kernel
theorem dX12_goes_12 : decode cX12_goes 12 = .ok (.ireturn, 1) := by decide +kernel
theorem dX12_goes_13 : decode cX12_goes 13 = .ok (.aload_n 0, 1) := by decide +kernel
theorem dX12_goes_14 : decode cX12_goes 14 = .ok (.dup, 1) := by decide +kernel
theorem dX12_goes_15 : decode cX12_goes 15 = .ok (.getfield 263, 3) := by decide +kernel
theorem dX12_goes_18 : decode cX12_goes 18 = .ok (.iconst 1, 1) := by decide +kernel
theorem dX12_goes_19 : decode cX12_goes 19 = .ok (.iadd, 1) := by decide +kernel
theorem dX12_goes_20 : decode cX12_goes 20 = .ok (.putfield 263, 3) := by decide +kernel
theorem dX12_goes_23 : decode cX12_goes 23 = .ok (.aload_n 0, 1) := by decide +kernel
theorem dX12_goes_24 : decode cX12_goes 24 = .ok (.getfield 227, 3) := by decide +kernel
theorem dX12_goes_27 : decode cX12_goes 27 = .ok (.iload_n 1, 1) := by decide +kernel
theorem dX12_goes_28 : decode cX12_goes 28 = .ok (.iaload, 1) := by decide +kernel
theorem dX12_goes_29 : decode cX12_goes 29 = .ok (.istore_n 2, 1) := by decide +kernel
theorem dX12_goes_30 : decode cX12_goes 30 = .ok (.iload_n 2, 1) := by decide +kernel
theorem dX12_goes_31 : decode cX12_goes 31 = .ok (.aload_n 0, 1) := by decide +kernel
theorem dX12_goes_32 : decode cX12_goes 32 = .ok (.getfield 340, 3) := by decide +kernel
theorem dX12_goes_35 : decode cX12_goes 35 = .ok (.if_icmp .ne 12, 3) := by decide +kernel
theorem dX12_goes_38 : decode cX12_goes 38 = .ok (.aload_n 0, 1) := by decide +kernel
theorem dX12_goes_39 : decode cX12_goes 39 = .ok (.iload_n 1, 1) := by decide +kernel
theorem dX12_goes_40 : decode cX12_goes 40 = .ok (.iconst 1, 1) := by decide +kernel
theorem dX12_goes_41 : decode cX12_goes 41 = .ok (.iadd, 1) := by decide +kernel
theorem dX12_goes_42 : decode cX12_goes 42 = .ok (.putfield 266, 3) := by decide +kernel
theorem dX12_goes_45 : decode cX12_goes 45 = .ok (.iconst 1, 1) := by decide +kernel
theorem dX12_goes_46 : decode cX12_goes 46 = .ok (.ireturn, 1) := by decide +kernel
theorem dX12_goes_47 : decode cX12_goes 47 = .ok (.iload_n 1, 1) := by decide +kernel
theorem dX12_goes_48 : decode cX12_goes 48 = .ok (.aload_n 0, 1) := by decide +kernel
theorem dX12_goes_49 : decode cX12_goes 49 = .ok (.getfield 343, 3) := by decide +kernel
theorem dX12_goes_52 : decode cX12_goes 52 = .ok (.if_icmp .eq 18, 3) := by decide +kernel
theorem dX12_goes_55 : decode cX12_goes 55 = .ok (.iload_n 2, 1) := by decide +kernel
theorem dX12_goes_56 : decode cX12_goes 56 = .ok (.aload_n 0, 1) := by decide +kernel
theorem dX12_goes_57 : decode cX12_goes 57 = .ok (.getfield 343, 3) := by decide +kernel
theorem dX12_goes_60 : decode cX12_goes 60 = .ok (.iload_n 1, 1) := by decide +kernel
theorem dX12_goes_61 : decode cX12_goes 61 = .ok (.isub, 1) := by decide +kernel
theorem dX12_goes_62 : decode cX12_goes 62 = .ok (.ishl, 1) := by decide +kernel
theorem dX12_goes_63 : decode cX12_goes 63 = .ok (.aload_n 0, 1) := by decide +kernel
theorem dX12_goes_64 : decode cX12_goes 64 = .ok (.getfield 340, 3) := by decide +kernel
theorem dX12_goes_67 : decode cX12_goes 67 = .ok (.if_icmp .ge 5, 3) := by decide +kernel
theorem dX12_goes_70 : decode cX12_goes 70 = .ok (.iconst 0, 1) := by decide +kernel
theorem dX12_goes_71 : decode cX12_goes 71 = .ok (.ireturn, 1) := by decide +kernel
theorem dX12_goes_72 : decode cX12_goes 72 = .ok (.iload_n 1, 1) := by decide +kernel
theorem dX12_goes_73 : decode cX12_goes 73 = .ok (.istore_n 3, 1) := by decide +kernel
theorem dX12_goes_74 : decode cX12_goes 74 = .ok (.iload_n 3, 1) := by decide +kernel
theorem dX12_goes_75 : decode cX12_goes 75 = .ok (.ifCond .lt 60, 3) := by decide +kernel
theorem dX12_goes_78 : decode cX12_goes 78 = .ok (.iload_n 2, 1) := by decide +kernel
theorem dX12_goes_79 : decode cX12_goes 79 = .ok (.aload_n 0, 1) := by decide +kernel
theorem dX12_goes_80 : decode cX12_goes 80 = .ok (.getfield 227, 3) := by decide +kernel
theorem dX12_goes_83 : decode cX12_goes 83 = .ok (.iload_n 3, 1) := by decide +kernel
theorem dX12_goes_84 : decode cX12_goes 84 = .ok (.iaload, 1) := by decide +kernel
theorem dX12_goes_85 : decode cX12_goes 85 = .ok (.iadd, 1) := by decide +kernel
theorem dX12_goes_86 : decode cX12_goes 86 = .ok (.aload_n 0, 1) := by decide +kernel
theorem dX12_goes_87 : decode cX12_goes 87 = .ok (.getfield 340, 3) := by decide +kernel
theorem dX12_goes_90 : decode cX12_goes 90 = .ok (.if_icmp .le 6, 3) := by decide +kernel
theorem dX12_goes_93 : decode cX12_goes 93 = .ok (.goto 36, 3) := by decide +kernel
theorem dX12_goes_96 : decode cX12_goes 96 = .ok (.aload_n 0, 1) := by decide +kernel
theorem dX12_goes_97 : decode cX12_goes 97 = .ok (.getfield 227, 3) := by decide +kernel
theorem dX12_goes_100 : decode cX12_goes 100 = .ok (.iload_n 1, 1) := by decide +kernel
theorem dX12_goes_101 : decode cX12_goes 101 = .ok (.iconst 1, 1) := by decide +kernel
theorem dX12_goes_102 : decode cX12_goes 102 = .ok (.iadd, 1) := by decide +kernel
theorem dX12_goes_103 : decode cX12_goes 103 = .ok (.iload_n 2, 1) := by decide +kernel
theorem dX12_goes_104 : decode cX12_goes 104 = .ok (.aload_n 0, 1) := by decide +kernel
theorem dX12_goes_105 : decode cX12_goes 105 = .ok (.getfield 227, 3) := by decide +kernel
theorem dX12_goes_108 : decode cX12_goes 108 = .ok (.iload_n 3, 1) := by decide +kernel
theorem dX12_goes_109 : decode cX12_goes 109 = .ok (.iaload, 1) := by decide +kernel
theorem dX12_goes_110 : decode cX12_goes 110 = .ok (.iadd, 1) := by decide +kernel
theorem dX12_goes_111 : decode cX12_goes 111 = .ok (.iastore, 1) := by decide +kernel
theorem dX12_goes_112 : decode cX12_goes 112 = .ok (.aload_n 0, 1) := by decide +kernel
theorem dX12_goes_113 : decode cX12_goes 113 = .ok (.iload_n 1, 1) := by decide +kernel
theorem dX12_goes_114 : decode cX12_goes 114 = .ok (.iconst 1, 1) := by decide +kernel
theorem dX12_goes_115 : decode cX12_goes 115 = .ok (.iadd, 1) := by decide +kernel
theorem dX12_goes_116 : decode cX12_goes 116 = .ok (.invokevirtual 346, 3) := by decide +kernel
theorem dX12_goes_119 : decode cX12_goes 119 = .ok (.istore 4, 2) := by decide +kernel
theorem dX12_goes_121 : decode cX12_goes 121 = .ok (.iload 4, 2) := by decide +kernel
theorem dX12_goes_123 : decode cX12_goes 123 = .ok (.ifCond .le 6, 3) := by decide +kernel
theorem dX12_goes_126 : decode cX12_goes 126 = .ok (.iload 4, 2) := by decide +kernel
theorem dX12_goes_128 : decode cX12_goes 128 = .ok (.ireturn, 1) := by decide +kernel
theorem dX12_goes_129 : decode cX12_goes 129 = .ok (.iinc 3 (-1), 3) := by decide +kernel
theorem dX12_goes_132 : decode cX12_goes 132 = .ok (.goto (-58), 3) := by decide +kernel
theorem dX12_goes_135 : decode cX12_goes 135 = .ok (.iconst 0, 1) := by decide +kernel
theorem dX12_goes_136 : decode cX12_goes 136 = .ok (.ireturn, 1) := by decide +kernel
theorem dX12_search_0 : decode cX12_search 0 = .ok (.aload_n 0, 1) := by decide +kernel
theorem dX12_search_1 : decode cX12_search 1 = .ok (.iconst 0, 1) := by decide +kernel
theorem dX12_search_2 : decode cX12_search 2 = .ok (.putfield 1, 3) := by decide +kernel
theorem dX12_search_5 : decode cX12_search 5 = .ok (.iload_n 1, 1) := by decide +kernel
theorem dX12_search_6 : decode cX12_search 6 = .ok (.i2l, 1) := by decide +kernel
theorem dX12_search_7 : decode cX12_search 7 = .ok (.lconst 1, 1) := by decide +kernel
theorem dX12_search_8 : decode cX12_search 8 = .ok (.ldc2_w 349, 3) := by decide +kernel
theorem dX12_search_11 : decode cX12_search 11 = .ok (.invokestatic 93, 3) := by decide +kernel
theorem dX12_search_14 : decode cX12_search 14 = .ok (.ifCond .eq 15, 3) := by decide +kernel
theorem dX12_search_17 : decode cX12_search 17 = .ok (.iload_n 2, 1) := by decide +kernel
theorem dX12_search_18 : decode cX12_search 18 = .ok (.i2l, 1) := by decide +kernel
theorem dX12_search_19 : decode cX12_search 19 = .ok (.lconst 1, 1) := by decide +kernel
theorem dX12_search_20 : decode cX12_search 20 = .ok (.ldc2_w 351, 3) := by decide +kernel
theorem dX12_search_23 : decode cX12_search 23 = .ok (.invokestatic 93, 3) := by decide +kernel
theorem dX12_search_26 : decode cX12_search 26 = .ok (.ifCond .ne 5, 3) := by decide +kernel
theorem dX12_search_29 : decode cX12_search 29 = .ok (.iconst (-1), 1) := by decide +kernel
theorem dX12_search_30 : decode cX12_search 30 = .ok (.ireturn, 1) := by decide +kernel
theorem dX12_search_31 : decode cX12_search 31 = .ok (.aload_n 0, 1) := by decide +kernel
theorem dX12_search_32 : decode cX12_search 32 = .ok (.iconst 0, 1) := by decide +kernel
theorem dX12_search_33 : decode cX12_search 33 = .ok (.putfield 263, 3) := by decide +kernel
theorem dX12_search_36 : decode cX12_search 36 = .ok (.aload_n 0, 1) := by decide +kernel
theorem dX12_search_37 : decode cX12_search 37 = .ok (.iconst 0, 1) := by decide +kernel
theorem dX12_search_38 : decode cX12_search 38 = .ok (.putfield 266, 3) := by decide +kernel
theorem dX12_search_41 : decode cX12_search 41 = .ok (.aload_n 0, 1) := by decide +kernel
theorem dX12_search_42 : decode cX12_search 42 = .ok (.iload_n 2, 1) := by decide +kernel
theorem dX12_search_43 : decode cX12_search 43 = .ok (.putfield 337, 3) := by decide +kernel
theorem dX12_search_46 : decode cX12_search 46 = .ok (.aload_n 0, 1) := by decide +kernel
theorem dX12_search_47 : decode cX12_search 47 = .ok (.iload_n 1, 1) := by decide +kernel
theorem dX12_search_48 : decode cX12_search 48 = .ok (.putfield 340, 3) := by decide +kernel
theorem dX12_search_51 : decode cX12_search 51 = .ok (.aload_n 0, 1) := by decide +kernel
theorem dX12_search_52 : decode cX12_search 52 = .ok (.aload_n 0, 1) := by decide +kernel
theorem dX12_search_53 : decode cX12_search 53 = .ok (.iload_n 1, 1) := by decide +kernel
theorem dX12_search_54 : decode cX12_search 54 = .ok (.iconst 1, 1) := by decide +kernel
theorem dX12_search_55 : decode cX12_search 55 = .ok (.invokevirtual 334, 3) := by decide +kernel
theorem dX12_search_58 : decode cX12_search 58 = .ok (.putfield 343, 3) := by decide +kernel
theorem dX12_search_61 : decode cX12_search 61 = .ok (.aload_n 0, 1) := by decide +kernel
theorem dX12_search_62 : decode cX12_search 62 = .ok (.getfield 227, 3) := by decide +kernel
theorem dX12_search_65 : decode cX12_search 65 = .ok (.iconst 0, 1) := by decide +kernel
theorem dX12_search_66 : decode cX12_search 66 = .ok (.iconst 1, 1) := by decide +kernel
theorem dX12_search_67 : decode cX12_search 67 = .ok (.iastore, 1) := by decide +kernel
theorem dX12_search_68 : decode cX12_search 68 = .ok (.aload_n 0, 1) := by decide +kernel
theorem dX12_search_69 : decode cX12_search 69 = .ok (.iconst 0, 1) := by decide +kernel
theorem dX12_search_70 : decode cX12_search 70 = .ok (.invokevirtual 346, 3) := by decide +kernel
theorem dX12_search_73 : decode cX12_search 73 = .ok (.istore_n 3, 1) := by decide +kernel
theorem dX12_search_74 : decode cX12_search 74 = .ok (.iload_n 3, 1) := by decide +kernel
theorem dX12_search_75 : decode cX12_search 75 = .ok (.ifCond .ne 22, 3) := by decide +kernel
theorem dX12_search_78 : decode cX12_search 78 = .ok (.aload_n 0, 1) := by decide +kernel
theorem dX12_search_79 : decode cX12_search 79 = .ok (.dup, 1) := by decide +kernel
theorem dX12_search_80 : decode cX12_search 80 = .ok (.getfield 343, 3) := by decide +kernel
theorem dX12_search_83 : decode cX12_search 83 = .ok (.iconst 1, 1) := by decide +kernel
theorem dX12_search_84 : decode cX12_search 84 = .ok (.iadd, 1) := by decide +kernel
theorem dX12_search_85 : decode cX12_search 85 = .ok (.putfield 343, 3) := by decide +kernel
theorem dX12_search_88 : decode cX12_search 88 = .ok (.aload_n 0, 1) := by decide +kernel
theorem dX12_search_89 : decode cX12_search 89 = .ok (.iconst 0, 1) := by decide +kernel
theorem dX12_search_90 : decode cX12_search 90 = .ok (.invokevirtual 346, 3) := by decide +kernel
theorem dX12_search_93 : decode cX12_search 93 = .ok (.istore_n 3, 1) := by decide +kernel
theorem dX12_search_94 : decode cX12_search 94 = .ok (.goto (-20), 3) := by decide +kernel
theorem dX12_search_97 : decode cX12_search 97 = .ok (.iload_n 3, 1) := by decide +kernel
theorem dX12_search_98 : decode cX12_search 98 = .ok (.iconst 1, 1) := by decide +kernel
theorem dX12_search_99 : decode cX12_search 99 = .ok (.if_icmp .ne 12, 3) := by decide +kernel
theorem dX12_search_102 : decode cX12_search 102 = .ok (.aload_n 0, 1) := by decide +kernel
theorem dX12_search_103 : decode cX12_search 103 = .ok (.getfield 266, 3) := by decide +kernel
theorem dX12_search_106 : decode cX12_search 106 = .ok (.iconst 1, 1) := by decide +kernel
theorem dX12_search_107 : decode cX12_search 107 = .ok (.isub, 1) := by decide +kernel
theorem dX12_search_108 : decode cX12_search 108 = .ok (.goto 5, 3) := by decide +kernel
theorem dX12_search_111 : decode cX12_search 111 = .ok (.bipush (-2), 2) := by decide +kernel
theorem dX12_search_113 : decode cX12_search 113 = .ok (.ireturn, 1) := by decide +kernel
theorem dX12_found_0 : decode cX12_found 0 = .ok (.aload_n 0, 1) := by decide +kernel
theorem dX12_found_1 : decode cX12_found 1 = .ok (.iconst 0, 1) := by decide +kernel
theorem dX12_found_2 : decode cX12_found 2 = .ok (.putfield 1, 3) := by decide +kernel
theorem dX12_found_5 : decode cX12_found 5 = .ok (.iload_n 1, 1) := by decide +kernel
theorem dX12_found_6 : decode cX12_found 6 = .ok (.i2l, 1) := by decide +kernel
theorem dX12_found_7 : decode cX12_found 7 = .ok (.lconst 0, 1) := by decide +kernel
theorem dX12_found_8 : decode cX12_found 8 = .ok (.aload_n 0, 1) := by decide +kernel
theorem dX12_found_9 : decode cX12_found 9 = .ok (.getfield 266, 3) := by decide +kernel
theorem dX12_found_12 : decode cX12_found 12 = .ok (.iconst 1, 1) := by decide +kernel
theorem dX12_found_13 : decode cX12_found 13 = .ok (.isub, 1) := by decide +kernel
theorem dX12_found_14 : decode cX12_found 14 = .ok (.i2l, 1) := by decide +kernel
theorem dX12_found_15 : decode cX12_found 15 = .ok (.invokestatic 93, 3) := by decide +kernel
theorem dX12_found_18 : decode cX12_found 18 = .ok (.ifCond .eq 12, 3) := by decide +kernel
theorem dX12_found_21 : decode cX12_found 21 = .ok (.aload_n 0, 1) := by decide +kernel
theorem dX12_found_22 : decode cX12_found 22 = .ok (.getfield 227, 3) := by decide +kernel
theorem dX12_found_25 : decode cX12_found 25 = .ok (.iload_n 1, 1) := by decide +kernel
theorem dX12_found_26 : decode cX12_found 26 = .ok (.iaload, 1) := by decide +kernel
theorem dX12_found_27 : decode cX12_found 27 = .ok (.goto 4, 3) := by decide +kernel
theorem dX12_found_30 : decode cX12_found 30 = .ok (.iconst (-1), 1) := by decide +kernel
theorem dX12_found_31 : decode cX12_found 31 = .ok (.ireturn, 1) := by decide +kernel
theorem dX12_isChain_0 : decode cX12_isChain 0 = .ok (.aload_n 0, 1) := by decide +kernel
theorem dX12_isChain_1 : decode cX12_isChain 1 = .ok (.iconst 0, 1) := by decide +kernel
theorem dX12_isChain_2 : decode cX12_isChain 2 = .ok (.putfield 1, 3) := by decide +kernel
theorem dX12_isChain_5 : decode cX12_isChain 5 = .ok (.iload_n 1, 1) := by decide +kernel
theorem dX12_isChain_6 : decode cX12_isChain 6 = .ok (.i2l, 1) := by decide +kernel
theorem dX12_isChain_7 : decode cX12_isChain 7 = .ok (.lconst 1, 1) := by decide +kernel
theorem dX12_isChain_8 : decode cX12_isChain 8 = .ok (.ldc2_w 272, 3) := by decide +kernel
theorem dX12_isChain_11 : decode cX12_isChain 11 = .ok (.invokestatic 93, 3) := by decide +kernel
theorem dX12_isChain_14 : decode cX12_isChain 14 = .ok (.ifCond .ne 5, 3) := by decide +kernel
theorem dX12_isChain_17 : decode cX12_isChain 17 = .ok (.iconst (-1), 1) := by decide +kernel
theorem dX12_isChain_18 : decode cX12_isChain 18 = .ok (.ireturn, 1) := by decide +kernel
theorem dX12_isChain_19 : decode cX12_isChain 19 = .ok (.bipush 6, 2) := by decide +kernel
theorem dX12_isChain_21 : decode cX12_isChain 21 = .ok (.newarray .int, 2) := by decide +kernel
theorem dX12_isChain_23 : decode cX12_isChain 23 = .ok (.dup, 1) := by decide +kernel
theorem dX12_isChain_24 : decode cX12_isChain 24 = .ok (.iconst 0, 1) := by decide +kernel
theorem dX12_isChain_25 : decode cX12_isChain 25 = .ok (.iconst 1, 1) := by decide +kernel
theorem dX12_isChain_26 : decode cX12_isChain 26 = .ok (.iastore, 1) := by decide +kernel
theorem dX12_isChain_27 : decode cX12_isChain 27 = .ok (.dup, 1) := by decide +kernel
theorem dX12_isChain_28 : decode cX12_isChain 28 = .ok (.iconst 1, 1) := by decide +kernel
theorem dX12_isChain_29 : decode cX12_isChain 29 = .ok (.iload_n 2, 1) := by decide +kernel
theorem dX12_isChain_30 : decode cX12_isChain 30 = .ok (.iastore, 1) := by decide +kernel
theorem dX12_isChain_31 : decode cX12_isChain 31 = .ok (.dup, 1) := by decide +kernel
theorem dX12_isChain_32 : decode cX12_isChain 32 = .ok (.iconst 2, 1) := by decide +kernel
theorem dX12_isChain_33 : decode cX12_isChain 33 = .ok (.iload_n 3, 1) := by decide +kernel
theorem dX12_isChain_34 : decode cX12_isChain 34 = .ok (.iastore, 1) := by decide +kernel
theorem dX12_isChain_35 : decode cX12_isChain 35 = .ok (.dup, 1) := by decide +kernel
theorem dX12_isChain_36 : decode cX12_isChain 36 = .ok (.iconst 3, 1) := by decide +kernel
theorem dX12_isChain_37 : decode cX12_isChain 37 = .ok (.iload 4, 2) := by decide +kernel
theorem dX12_isChain_39 : decode cX12_isChain 39 = .ok (.iastore, 1) := by decide +kernel
theorem dX12_isChain_40 : decode cX12_isChain 40 = .ok (.dup, 1) := by decide +kernel
theorem dX12_isChain_41 : decode cX12_isChain 41 = .ok (.iconst 4, 1) := by decide +kernel
theorem dX12_isChain_42 : decode cX12_isChain 42 = .ok (.iload 5, 2) := by decide +kernel
theorem dX12_isChain_44 : decode cX12_isChain 44 = .ok (.iastore, 1) := by decide +kernel
theorem dX12_isChain_45 : decode cX12_isChain 45 = .ok (.dup, 1) := by decide +kernel
theorem dX12_isChain_46 : decode cX12_isChain 46 = .ok (.iconst 5, 1) := by decide +kernel
theorem dX12_isChain_47 : decode cX12_isChain 47 = .ok (.iload 6, 2) := by decide +kernel
theorem dX12_isChain_49 : decode cX12_isChain 49 = .ok (.iastore, 1) := by decide +kernel
theorem dX12_isChain_50 : decode cX12_isChain 50 = .ok (.astore 7, 2) := by decide +kernel
theorem dX12_isChain_52 : decode cX12_isChain 52 = .ok (.iconst 1, 1) := by decide +kernel
theorem dX12_isChain_53 : decode cX12_isChain 53 = .ok (.istore 8, 2) := by decide +kernel
theorem dX12_isChain_55 : decode cX12_isChain 55 = .ok (.iload 8, 2) := by decide +kernel
theorem dX12_isChain_57 : decode cX12_isChain 57 = .ok (.iload_n 1, 1) := by decide +kernel
theorem dX12_isChain_58 : decode cX12_isChain 58 = .ok (.if_icmp .ge 101, 3) := by decide +kernel
theorem dX12_isChain_61 : decode cX12_isChain 61 = .ok (.iconst 0, 1) := by decide +kernel
theorem dX12_isChain_62 : decode cX12_isChain 62 = .ok (.istore 9, 2) := by decide +kernel
theorem dX12_isChain_64 : decode cX12_isChain 64 = .ok (.iconst 0, 1) := by decide +kernel
theorem dX12_isChain_65 : decode cX12_isChain 65 = .ok (.istore 10, 2) := by decide +kernel
theorem dX12_isChain_67 : decode cX12_isChain 67 = .ok (.iload 10, 2) := by decide +kernel
theorem dX12_isChain_69 : decode cX12_isChain 69 = .ok (.iload 8, 2) := by decide +kernel
theorem dX12_isChain_71 : decode cX12_isChain 71 = .ok (.if_icmp .ge 60, 3) := by decide +kernel
theorem dX12_isChain_74 : decode cX12_isChain 74 = .ok (.iconst 0, 1) := by decide +kernel
theorem dX12_isChain_75 : decode cX12_isChain 75 = .ok (.istore 11, 2) := by decide +kernel
theorem dX12_isChain_77 : decode cX12_isChain 77 = .ok (.iload 11, 2) := by decide +kernel
theorem dX12_isChain_79 : decode cX12_isChain 79 = .ok (.iload 10, 2) := by decide +kernel
theorem dX12_isChain_81 : decode cX12_isChain 81 = .ok (.if_icmp .gt 44, 3) := by decide +kernel
theorem dX12_isChain_84 : decode cX12_isChain 84 = .ok (.iload 9, 2) := by decide +kernel
theorem dX12_isChain_86 : decode cX12_isChain 86 = .ok (.ifCond .ne 26, 3) := by decide +kernel
theorem dX12_isChain_89 : decode cX12_isChain 89 = .ok (.aload 7, 2) := by decide +kernel
theorem dX12_isChain_91 : decode cX12_isChain 91 = .ok (.iload 10, 2) := by decide +kernel
theorem dX12_isChain_93 : decode cX12_isChain 93 = .ok (.iaload, 1) := by decide +kernel
theorem dX12_isChain_94 : decode cX12_isChain 94 = .ok (.i2l, 1) := by decide +kernel
theorem dX12_isChain_95 : decode cX12_isChain 95 = .ok (.aload 7, 2) := by decide +kernel
theorem dX12_isChain_97 : decode cX12_isChain 97 = .ok (.iload 11, 2) := by decide +kernel
theorem dX12_isChain_99 : decode cX12_isChain 99 = .ok (.iaload, 1) := by decide +kernel
theorem dX12_isChain_100 : decode cX12_isChain 100 = .ok (.i2l, 1) := by decide +kernel
theorem dX12_isChain_101 : decode cX12_isChain 101 = .ok (.ladd, 1) := by decide +kernel
theorem dX12_isChain_102 : decode cX12_isChain 102 = .ok (.aload 7, 2) := by decide +kernel
theorem dX12_isChain_104 : decode cX12_isChain 104 = .ok (.iload 8, 2) := by decide +kernel
theorem dX12_isChain_106 : decode cX12_isChain 106 = .ok (.iaload, 1) := by decide +kernel
theorem dX12_isChain_107 : decode cX12_isChain 107 = .ok (.i2l, 1) := by decide +kernel
theorem dX12_isChain_108 : decode cX12_isChain 108 = .ok (.lcmp, 1) := by decide +kernel
theorem dX12_isChain_109 : decode cX12_isChain 109 = .ok (.ifCond .ne 7, 3) := by decide +kernel
theorem dX12_isChain_112 : decode cX12_isChain 112 = .ok (.iconst 1, 1) := by decide +kernel
theorem dX12_isChain_113 : decode cX12_isChain 113 = .ok (.goto 4, 3) := by decide +kernel
theorem dX12_isChain_116 : decode cX12_isChain 116 = .ok (.iconst 0, 1) := by decide +kernel
theorem dX12_isChain_117 : decode cX12_isChain 117 = .ok (.istore 9, 2) := by decide +kernel
theorem dX12_isChain_119 : decode cX12_isChain 119 = .ok (.iinc 11 1, 3) := by decide +kernel
theorem dX12_isChain_122 : decode cX12_isChain 122 = .ok (.goto (-45), 3) := by decide +kernel
theorem dX12_isChain_125 : decode cX12_isChain 125 = .ok (.iinc 10 1, 3) := by decide +kernel
theorem dX12_isChain_128 : decode cX12_isChain 128 = .ok (.goto (-61), 3) := by decide +kernel
theorem dX12_isChain_131 : decode cX12_isChain 131 = .ok (.iload 9, 2) := by decide +kernel
theorem dX12_isChain_133 : decode cX12_isChain 133 = .ok (.ifCond .eq 18, 3) := by decide +kernel
theorem dX12_isChain_136 : decode cX12_isChain 136 = .ok (.aload 7, 2) := by decide +kernel
theorem dX12_isChain_138 : decode cX12_isChain 138 = .ok (.iload 8, 2) := by decide +kernel
theorem dX12_isChain_140 : decode cX12_isChain 140 = .ok (.iaload, 1) := by decide +kernel
theorem dX12_isChain_141 : decode cX12_isChain 141 = .ok (.aload 7, 2) := by decide +kernel
theorem dX12_isChain_143 : decode cX12_isChain 143 = .ok (.iload 8, 2) := by decide +kernel
theorem dX12_isChain_145 : decode cX12_isChain 145 = .ok (.iconst 1, 1) := by decide +kernel
theorem dX12_isChain_146 : decode cX12_isChain 146 = .ok (.isub, 1) := by decide +kernel
theorem dX12_isChain_147 : decode cX12_isChain 147 = .ok (.iaload, 1) := by decide +kernel
theorem dX12_isChain_148 : decode cX12_isChain 148 = .ok (.if_icmp .gt 5, 3) := by decide +kernel
theorem dX12_isChain_151 : decode cX12_isChain 151 = .ok (.iconst 0, 1) := by decide +kernel
theorem dX12_isChain_152 : decode cX12_isChain 152 = .ok (.ireturn, 1) := by decide +kernel
theorem dX12_isChain_153 : decode cX12_isChain 153 = .ok (.iinc 8 1, 3) := by decide +kernel
theorem dX12_isChain_156 : decode cX12_isChain 156 = .ok (.goto (-101), 3) := by decide +kernel
theorem dX12_isChain_159 : decode cX12_isChain 159 = .ok (.iconst 1, 1) := by decide +kernel
theorem dX12_isChain_160 : decode cX12_isChain 160 = .ok (.ireturn, 1) := by decide +kernel
theorem dJ6_numberOfLeadingZeros_0f7a4_0 : decode cJ6_numberOfLeadingZeros_0f7a4 0 = .ok (.iload_n 0, 1) := by decide +kernel
theorem dJ6_numberOfLeadingZeros_0f7a4_1 : decode cJ6_numberOfLeadingZeros_0f7a4 1 = .ok (.ifCond .gt 14, 3) := by decide +kernel
theorem dJ6_numberOfLeadingZeros_0f7a4_4 : decode cJ6_numberOfLeadingZeros_0f7a4 4 = .ok (.iload_n 0, 1) := by decide +kernel
theorem dJ6_numberOfLeadingZeros_0f7a4_5 : decode cJ6_numberOfLeadingZeros_0f7a4 5 = .ok (.ifCond .ne 8, 3) := by decide +kernel
theorem dJ6_numberOfLeadingZeros_0f7a4_8 : decode cJ6_numberOfLeadingZeros_0f7a4 8 = .ok (.bipush 32, 2) := by decide +kernel
theorem dJ6_numberOfLeadingZeros_0f7a4_10 : decode cJ6_numberOfLeadingZeros_0f7a4 10 = .ok (.goto 4, 3) := by decide +kernel
theorem dJ6_numberOfLeadingZeros_0f7a4_13 : decode cJ6_numberOfLeadingZeros_0f7a4 13 = .ok (.iconst 0, 1) := by decide +kernel
theorem dJ6_numberOfLeadingZeros_0f7a4_14 : decode cJ6_numberOfLeadingZeros_0f7a4 14 = .ok (.ireturn, 1) := by decide +kernel
theorem dJ6_numberOfLeadingZeros_0f7a4_15 : decode cJ6_numberOfLeadingZeros_0f7a4 15 = .ok (.bipush 31, 2) := by decide +kernel
theorem dJ6_numberOfLeadingZeros_0f7a4_17 : decode cJ6_numberOfLeadingZeros_0f7a4 17 = .ok (.istore_n 1, 1) := by decide +kernel
theorem dJ6_numberOfLeadingZeros_0f7a4_18 : decode cJ6_numberOfLeadingZeros_0f7a4 18 = .ok (.iload_n 0, 1) := by decide +kernel
theorem dJ6_numberOfLeadingZeros_0f7a4_19 : decode cJ6_numberOfLeadingZeros_0f7a4 19 = .ok (.ldc_w 264, 3) := by decide +kernel
theorem dJ6_numberOfLeadingZeros_0f7a4_22 : decode cJ6_numberOfLeadingZeros_0f7a4 22 = .ok (.if_icmp .lt 11, 3) := by decide +kernel
theorem dJ6_numberOfLeadingZeros_0f7a4_25 : decode cJ6_numberOfLeadingZeros_0f7a4 25 = .ok (.iinc 1 (-16), 3) := by decide +kernel
theorem dJ6_numberOfLeadingZeros_0f7a4_28 : decode cJ6_numberOfLeadingZeros_0f7a4 28 = .ok (.iload_n 0, 1) := by decide +kernel
theorem dJ6_numberOfLeadingZeros_0f7a4_29 : decode cJ6_numberOfLeadingZeros_0f7a4 29 = .ok (.bipush 16, 2) := by decide +kernel
theorem dJ6_numberOfLeadingZeros_0f7a4_31 : decode cJ6_numberOfLeadingZeros_0f7a4 31 = .ok (.iushr, 1) := by decide +kernel
theorem dJ6_numberOfLeadingZeros_0f7a4_32 : decode cJ6_numberOfLeadingZeros_0f7a4 32 = .ok (.istore_n 0, 1) := by decide +kernel
theorem dJ6_numberOfLeadingZeros_0f7a4_33 : decode cJ6_numberOfLeadingZeros_0f7a4 33 = .ok (.iload_n 0, 1) := by decide +kernel
theorem dJ6_numberOfLeadingZeros_0f7a4_34 : decode cJ6_numberOfLeadingZeros_0f7a4 34 = .ok (.sipush 256, 3) := by decide +kernel
theorem dJ6_numberOfLeadingZeros_0f7a4_37 : decode cJ6_numberOfLeadingZeros_0f7a4 37 = .ok (.if_icmp .lt 11, 3) := by decide +kernel
theorem dJ6_numberOfLeadingZeros_0f7a4_40 : decode cJ6_numberOfLeadingZeros_0f7a4 40 = .ok (.iinc 1 (-8), 3) := by decide +kernel
theorem dJ6_numberOfLeadingZeros_0f7a4_43 : decode cJ6_numberOfLeadingZeros_0f7a4 43 = .ok (.iload_n 0, 1) := by decide +kernel
theorem dJ6_numberOfLeadingZeros_0f7a4_44 : decode cJ6_numberOfLeadingZeros_0f7a4 44 = .ok (.bipush 8, 2) := by decide +kernel
theorem dJ6_numberOfLeadingZeros_0f7a4_46 : decode cJ6_numberOfLeadingZeros_0f7a4 46 = .ok (.iushr, 1) := by decide +kernel
theorem dJ6_numberOfLeadingZeros_0f7a4_47 : decode cJ6_numberOfLeadingZeros_0f7a4 47 = .ok (.istore_n 0, 1) := by decide +kernel
theorem dJ6_numberOfLeadingZeros_0f7a4_48 : decode cJ6_numberOfLeadingZeros_0f7a4 48 = .ok (.iload_n 0, 1) := by decide +kernel
theorem dJ6_numberOfLeadingZeros_0f7a4_49 : decode cJ6_numberOfLeadingZeros_0f7a4 49 = .ok (.bipush 16, 2) := by decide +kernel
theorem dJ6_numberOfLeadingZeros_0f7a4_51 : decode cJ6_numberOfLeadingZeros_0f7a4 51 = .ok (.if_icmp .lt 10, 3) := by decide +kernel
theorem dJ6_numberOfLeadingZeros_0f7a4_54 : decode cJ6_numberOfLeadingZeros_0f7a4 54 = .ok (.iinc 1 (-4), 3) := by decide +kernel
theorem dJ6_numberOfLeadingZeros_0f7a4_57 : decode cJ6_numberOfLeadingZeros_0f7a4 57 = .ok (.iload_n 0, 1) := by decide +kernel
theorem dJ6_numberOfLeadingZeros_0f7a4_58 : decode cJ6_numberOfLeadingZeros_0f7a4 58 = .ok (.iconst 4, 1) := by decide +kernel
theorem dJ6_numberOfLeadingZeros_0f7a4_59 : decode cJ6_numberOfLeadingZeros_0f7a4 59 = .ok (.iushr, 1) := by decide +kernel
theorem dJ6_numberOfLeadingZeros_0f7a4_60 : decode cJ6_numberOfLeadingZeros_0f7a4 60 = .ok (.istore_n 0, 1) := by decide +kernel
theorem dJ6_numberOfLeadingZeros_0f7a4_61 : decode cJ6_numberOfLeadingZeros_0f7a4 61 = .ok (.iload_n 0, 1) := by decide +kernel
theorem dJ6_numberOfLeadingZeros_0f7a4_62 : decode cJ6_numberOfLeadingZeros_0f7a4 62 = .ok (.iconst 4, 1) := by decide +kernel
theorem dJ6_numberOfLeadingZeros_0f7a4_63 : decode cJ6_numberOfLeadingZeros_0f7a4 63 = .ok (.if_icmp .lt 10, 3) := by decide +kernel
theorem dJ6_numberOfLeadingZeros_0f7a4_66 : decode cJ6_numberOfLeadingZeros_0f7a4 66 = .ok (.iinc 1 (-2), 3) := by decide +kernel
theorem dJ6_numberOfLeadingZeros_0f7a4_69 : decode cJ6_numberOfLeadingZeros_0f7a4 69 = .ok (.iload_n 0, 1) := by decide +kernel
theorem dJ6_numberOfLeadingZeros_0f7a4_70 : decode cJ6_numberOfLeadingZeros_0f7a4 70 = .ok (.iconst 2, 1) := by decide +kernel
theorem dJ6_numberOfLeadingZeros_0f7a4_71 : decode cJ6_numberOfLeadingZeros_0f7a4 71 = .ok (.iushr, 1) := by decide +kernel
theorem dJ6_numberOfLeadingZeros_0f7a4_72 : decode cJ6_numberOfLeadingZeros_0f7a4 72 = .ok (.istore_n 0, 1) := by decide +kernel
theorem dJ6_numberOfLeadingZeros_0f7a4_73 : decode cJ6_numberOfLeadingZeros_0f7a4 73 = .ok (.iload_n 1, 1) := by decide +kernel
theorem dJ6_numberOfLeadingZeros_0f7a4_74 : decode cJ6_numberOfLeadingZeros_0f7a4 74 = .ok (.iload_n 0, 1) := by decide +kernel
theorem dJ6_numberOfLeadingZeros_0f7a4_75 : decode cJ6_numberOfLeadingZeros_0f7a4 75 = .ok (.iconst 1, 1) := by decide +kernel
theorem dJ6_numberOfLeadingZeros_0f7a4_76 : decode cJ6_numberOfLeadingZeros_0f7a4 76 = .ok (.iushr, 1) := by decide +kernel
theorem dJ6_numberOfLeadingZeros_0f7a4_77 : decode cJ6_numberOfLeadingZeros_0f7a4 77 = .ok (.isub, 1) := by decide +kernel
theorem dJ6_numberOfLeadingZeros_0f7a4_78 : decode cJ6_numberOfLeadingZeros_0f7a4 78 = .ok (.ireturn, 1) := by decide +kernel
theorem dJ6_bitCount_0f7a4_0 : decode cJ6_bitCount_0f7a4 0 = .ok (.iload_n 0, 1) := by decide +kernel
theorem dJ6_bitCount_0f7a4_1 : decode cJ6_bitCount_0f7a4 1 = .ok (.iload_n 0, 1) := by decide +kernel
theorem dJ6_bitCount_0f7a4_2 : decode cJ6_bitCount_0f7a4 2 = .ok (.iconst 1, 1) := by decide +kernel
theorem dJ6_bitCount_0f7a4_3 : decode cJ6_bitCount_0f7a4 3 = .ok (.iushr, 1) := by decide +kernel
theorem dJ6_bitCount_0f7a4_4 : decode cJ6_bitCount_0f7a4 4 = .ok (.ldc_w 265, 3) := by decide +kernel
theorem dJ6_bitCount_0f7a4_7 : decode cJ6_bitCount_0f7a4 7 = .ok (.iand, 1) := by decide +kernel
theorem dJ6_bitCount_0f7a4_8 : decode cJ6_bitCount_0f7a4 8 = .ok (.isub, 1) := by decide +kernel
theorem dJ6_bitCount_0f7a4_9 : decode cJ6_bitCount_0f7a4 9 = .ok (.istore_n 0, 1) := by decide +kernel
theorem dJ6_bitCount_0f7a4_10 : decode cJ6_bitCount_0f7a4 10 = .ok (.iload_n 0, 1) := by decide +kernel
theorem dJ6_bitCount_0f7a4_11 : decode cJ6_bitCount_0f7a4 11 = .ok (.ldc_w 266, 3) := by decide +kernel
theorem dJ6_bitCount_0f7a4_14 : decode cJ6_bitCount_0f7a4 14 = .ok (.iand, 1) := by decide +kernel
theorem dJ6_bitCount_0f7a4_15 : decode cJ6_bitCount_0f7a4 15 = .ok (.iload_n 0, 1) := by decide +kernel
theorem dJ6_bitCount_0f7a4_16 : decode cJ6_bitCount_0f7a4 16 = .ok (.iconst 2, 1) := by decide +kernel
theorem dJ6_bitCount_0f7a4_17 : decode cJ6_bitCount_0f7a4 17 = .ok (.iushr, 1) := by decide +kernel
theorem dJ6_bitCount_0f7a4_18 : decode cJ6_bitCount_0f7a4 18 = .ok (.ldc_w 266, 3) := by decide +kernel
theorem dJ6_bitCount_0f7a4_21 : decode cJ6_bitCount_0f7a4 21 = .ok (.iand, 1) := by decide +kernel
theorem dJ6_bitCount_0f7a4_22 : decode cJ6_bitCount_0f7a4 22 = .ok (.iadd, 1) := by decide +kernel
theorem dJ6_bitCount_0f7a4_23 : decode cJ6_bitCount_0f7a4 23 = .ok (.istore_n 0, 1) := by decide +kernel
theorem dJ6_bitCount_0f7a4_24 : decode cJ6_bitCount_0f7a4 24 = .ok (.iload_n 0, 1) := by decide +kernel
theorem dJ6_bitCount_0f7a4_25 : decode cJ6_bitCount_0f7a4 25 = .ok (.iload_n 0, 1) := by decide +kernel
theorem dJ6_bitCount_0f7a4_26 : decode cJ6_bitCount_0f7a4 26 = .ok (.iconst 4, 1) := by decide +kernel
theorem dJ6_bitCount_0f7a4_27 : decode cJ6_bitCount_0f7a4 27 = .ok (.iushr, 1) := by decide +kernel
theorem dJ6_bitCount_0f7a4_28 : decode cJ6_bitCount_0f7a4 28 = .ok (.iadd, 1) := by decide +kernel
theorem dJ6_bitCount_0f7a4_29 : decode cJ6_bitCount_0f7a4 29 = .ok (.ldc_w 267, 3) := by decide +kernel
theorem dJ6_bitCount_0f7a4_32 : decode cJ6_bitCount_0f7a4 32 = .ok (.iand, 1) := by decide +kernel
theorem dJ6_bitCount_0f7a4_33 : decode cJ6_bitCount_0f7a4 33 = .ok (.istore_n 0, 1) := by decide +kernel
theorem dJ6_bitCount_0f7a4_34 : decode cJ6_bitCount_0f7a4 34 = .ok (.iload_n 0, 1) := by decide +kernel
theorem dJ6_bitCount_0f7a4_35 : decode cJ6_bitCount_0f7a4 35 = .ok (.iload_n 0, 1) := by decide +kernel
theorem dJ6_bitCount_0f7a4_36 : decode cJ6_bitCount_0f7a4 36 = .ok (.bipush 8, 2) := by decide +kernel
theorem dJ6_bitCount_0f7a4_38 : decode cJ6_bitCount_0f7a4 38 = .ok (.iushr, 1) := by decide +kernel
theorem dJ6_bitCount_0f7a4_39 : decode cJ6_bitCount_0f7a4 39 = .ok (.iadd, 1) := by decide +kernel
theorem dJ6_bitCount_0f7a4_40 : decode cJ6_bitCount_0f7a4 40 = .ok (.istore_n 0, 1) := by decide +kernel
theorem dJ6_bitCount_0f7a4_41 : decode cJ6_bitCount_0f7a4 41 = .ok (.iload_n 0, 1) := by decide +kernel
theorem dJ6_bitCount_0f7a4_42 : decode cJ6_bitCount_0f7a4 42 = .ok (.iload_n 0, 1) := by decide +kernel
theorem dJ6_bitCount_0f7a4_43 : decode cJ6_bitCount_0f7a4 43 = .ok (.bipush 16, 2) := by decide +kernel
theorem dJ6_bitCount_0f7a4_45 : decode cJ6_bitCount_0f7a4 45 = .ok (.iushr, 1) := by decide +kernel
theorem dJ6_bitCount_0f7a4_46 : decode cJ6_bitCount_0f7a4 46 = .ok (.iadd, 1) := by decide +kernel
theorem dJ6_bitCount_0f7a4_47 : decode cJ6_bitCount_0f7a4 47 = .ok (.istore_n 0, 1) := by decide +kernel
theorem dJ6_bitCount_0f7a4_48 : decode cJ6_bitCount_0f7a4 48 = .ok (.iload_n 0, 1) := by decide +kernel
theorem dJ6_bitCount_0f7a4_49 : decode cJ6_bitCount_0f7a4 49 = .ok (.bipush 63, 2) := by decide +kernel
theorem dJ6_bitCount_0f7a4_51 : decode cJ6_bitCount_0f7a4 51 = .ok (.iand, 1) := by decide +kernel
theorem dJ6_bitCount_0f7a4_52 : decode cJ6_bitCount_0f7a4 52 = .ok (.ireturn, 1) := by decide +kernel
theorem dJ9_floorMod_7cf53_0 : decode cJ9_floorMod_7cf53 0 = .ok (.iload_n 0, 1) := by decide +kernel
theorem dJ9_floorMod_7cf53_1 : decode cJ9_floorMod_7cf53 1 = .ok (.iload_n 1, 1) := by decide +kernel
theorem dJ9_floorMod_7cf53_2 : decode cJ9_floorMod_7cf53 2 = .ok (.irem, 1) := by decide +kernel
theorem dJ9_floorMod_7cf53_3 : decode cJ9_floorMod_7cf53 3 = .ok (.istore_n 2, 1) := by decide +kernel
theorem dJ9_floorMod_7cf53_4 : decode cJ9_floorMod_7cf53 4 = .ok (.iload_n 0, 1) := by decide +kernel
theorem dJ9_floorMod_7cf53_5 : decode cJ9_floorMod_7cf53 5 = .ok (.iload_n 1, 1) := by decide +kernel
theorem dJ9_floorMod_7cf53_6 : decode cJ9_floorMod_7cf53 6 = .ok (.ixor, 1) := by decide +kernel
theorem dJ9_floorMod_7cf53_7 : decode cJ9_floorMod_7cf53 7 = .ok (.ifCond .ge 11, 3) := by decide +kernel
theorem dJ9_floorMod_7cf53_10 : decode cJ9_floorMod_7cf53 10 = .ok (.iload_n 2, 1) := by decide +kernel
theorem dJ9_floorMod_7cf53_11 : decode cJ9_floorMod_7cf53 11 = .ok (.ifCond .eq 7, 3) := by decide +kernel
theorem dJ9_floorMod_7cf53_14 : decode cJ9_floorMod_7cf53 14 = .ok (.iload_n 2, 1) := by decide +kernel
theorem dJ9_floorMod_7cf53_15 : decode cJ9_floorMod_7cf53 15 = .ok (.iload_n 1, 1) := by decide +kernel
theorem dJ9_floorMod_7cf53_16 : decode cJ9_floorMod_7cf53 16 = .ok (.iadd, 1) := by decide +kernel
theorem dJ9_floorMod_7cf53_17 : decode cJ9_floorMod_7cf53 17 = .ok (.ireturn, 1) := by decide +kernel
theorem dJ9_floorMod_7cf53_18 : decode cJ9_floorMod_7cf53 18 = .ok (.iload_n 2, 1) := by decide +kernel
theorem dJ9_floorMod_7cf53_19 : decode cJ9_floorMod_7cf53 19 = .ok (.ireturn, 1) := by decide +kernel
theorem dJ9_max_7cf53_0 : decode cJ9_max_7cf53 0 = .ok (.iload_n 0, 1) := by decide +kernel
theorem dJ9_max_7cf53_1 : decode cJ9_max_7cf53 1 = .ok (.iload_n 1, 1) := by decide +kernel
theorem dJ9_max_7cf53_2 : decode cJ9_max_7cf53 2 = .ok (.if_icmp .lt 7, 3) := by decide +kernel
theorem dJ9_max_7cf53_5 : decode cJ9_max_7cf53 5 = .ok (.iload_n 0, 1) := by decide +kernel
theorem dJ9_max_7cf53_6 : decode cJ9_max_7cf53 6 = .ok (.goto 4, 3) := by decide +kernel
theorem dJ9_max_7cf53_9 : decode cJ9_max_7cf53 9 = .ok (.iload_n 1, 1) := by decide +kernel
theorem dJ9_max_7cf53_10 : decode cJ9_max_7cf53 10 = .ok (.ireturn, 1) := by decide +kernel
theorem dJ9_min_7cf53_0 : decode cJ9_min_7cf53 0 = .ok (.iload_n 0, 1) := by decide +kernel
theorem dJ9_min_7cf53_1 : decode cJ9_min_7cf53 1 = .ok (.iload_n 1, 1) := by decide +kernel
theorem dJ9_min_7cf53_2 : decode cJ9_min_7cf53 2 = .ok (.if_icmp .gt 7, 3) := by decide +kernel
theorem dJ9_min_7cf53_5 : decode cJ9_min_7cf53 5 = .ok (.iload_n 0, 1) := by decide +kernel
theorem dJ9_min_7cf53_6 : decode cJ9_min_7cf53 6 = .ok (.goto 4, 3) := by decide +kernel
theorem dJ9_min_7cf53_9 : decode cJ9_min_7cf53 9 = .ok (.iload_n 1, 1) := by decide +kernel
theorem dJ9_min_7cf53_10 : decode cJ9_min_7cf53 10 = .ok (.ireturn, 1) := by decide +kernel
theorem dL_node_0 : decode cL_node 0 = .ok (.aload_n 3, 1) := by decide +kernel
theorem dL_node_1 : decode cL_node 1 = .ok (.iconst 0, 1) := by decide +kernel
theorem dL_node_2 : decode cL_node 2 = .ok (.aload_n 0, 1) := by decide +kernel
theorem dL_node_3 : decode cL_node 3 = .ok (.iload_n 1, 1) := by decide +kernel
theorem dL_node_4 : decode cL_node 4 = .ok (.iload_n 2, 1) := by decide +kernel
theorem dL_node_5 : decode cL_node 5 = .ok (.invokevirtual 7, 3) := by decide +kernel
theorem dL_node_8 : decode cL_node 8 = .ok (.i2l, 1) := by decide +kernel
theorem dL_node_9 : decode cL_node 9 = .ok (.lastore, 1) := by decide +kernel
theorem dL_node_10 : decode cL_node 10 = .ok (.goto 7, 3) := by decide +kernel
theorem dL_node_13 : decode cL_node 13 = .ok (.astore 4, 2) := by decide +kernel
theorem dL_node_15 : decode cL_node 15 = .ok (.iconst 1, 1) := by decide +kernel
theorem dL_node_16 : decode cL_node 16 = .ok (.ireturn, 1) := by decide +kernel
theorem dL_node_17 : decode cL_node 17 = .ok (.iconst 0, 1) := by decide +kernel
theorem dL_node_18 : decode cL_node 18 = .ok (.ireturn, 1) := by decide +kernel
theorem dL_law_0 : decode cL_law 0 = .ok (.new 8, 3) := by decide +kernel
theorem dL_law_3 : decode cL_law 3 = .ok (.dup, 1) := by decide +kernel
theorem dL_law_4 : decode cL_law 4 = .ok (.invokespecial 15, 3) := by decide +kernel
theorem dL_law_7 : decode cL_law 7 = .ok (.astore_n 1, 1) := by decide +kernel
theorem dL_law_8 : decode cL_law 8 = .ok (.new 16, 3) := by decide +kernel
theorem dL_law_11 : decode cL_law 11 = .ok (.dup, 1) := by decide +kernel
theorem dL_law_12 : decode cL_law 12 = .ok (.invokespecial 18, 3) := by decide +kernel
theorem dL_law_15 : decode cL_law 15 = .ok (.astore_n 2, 1) := by decide +kernel
theorem dL_law_16 : decode cL_law 16 = .ok (.iconst 1, 1) := by decide +kernel
theorem dL_law_17 : decode cL_law 17 = .ok (.newarray .long, 2) := by decide +kernel
theorem dL_law_19 : decode cL_law 19 = .ok (.astore_n 3, 1) := by decide +kernel
theorem dL_law_20 : decode cL_law 20 = .ok (.iconst 0, 1) := by decide +kernel
theorem dL_law_21 : decode cL_law 21 = .ok (.istore 4, 2) := by decide +kernel
theorem dL_law_23 : decode cL_law 23 = .ok (.iload 4, 2) := by decide +kernel
theorem dL_law_25 : decode cL_law 25 = .ok (.aload_n 0, 1) := by decide +kernel
theorem dL_law_26 : decode cL_law 26 = .ok (.arraylength, 1) := by decide +kernel
theorem dL_law_27 : decode cL_law 27 = .ok (.bipush 7, 2) := by decide +kernel
theorem dL_law_29 : decode cL_law 29 = .ok (.isub, 1) := by decide +kernel
theorem dL_law_30 : decode cL_law 30 = .ok (.if_icmp .gt 1175, 3) := by decide +kernel
theorem dL_law_33 : decode cL_law 33 = .ok (.aload_n 0, 1) := by decide +kernel
theorem dL_law_34 : decode cL_law 34 = .ok (.iload 4, 2) := by decide +kernel
theorem dL_law_36 : decode cL_law 36 = .ok (.iaload, 1) := by decide +kernel
theorem dL_law_37 : decode cL_law 37 = .ok (.bipush 31, 2) := by decide +kernel
theorem dL_law_39 : decode cL_law 39 = .ok (.iand, 1) := by decide +kernel
theorem dL_law_40 : decode cL_law 40 = .ok (.tableswitch 1159 0 26 #[124, 197, 222, 247, 315, 353, 378, 465, 502, 539, 552, 565, 578, 591, 664, 737, 762, 787, 812, 825, 862, 911, 936, 973, 1010, 1047, 1072], 124) := by decide +kernel
theorem dL_law_164 : decode cL_law 164 = .ok (.aload_n 1, 1) := by decide +kernel
theorem dL_law_165 : decode cL_law 165 = .ok (.aload_n 0, 1) := by decide +kernel
theorem dL_law_166 : decode cL_law 166 = .ok (.iload 4, 2) := by decide +kernel
theorem dL_law_168 : decode cL_law 168 = .ok (.iconst 1, 1) := by decide +kernel
theorem dL_law_169 : decode cL_law 169 = .ok (.iadd, 1) := by decide +kernel
theorem dL_law_170 : decode cL_law 170 = .ok (.iaload, 1) := by decide +kernel
theorem dL_law_171 : decode cL_law 171 = .ok (.aload_n 0, 1) := by decide +kernel
theorem dL_law_172 : decode cL_law 172 = .ok (.iload 4, 2) := by decide +kernel
theorem dL_law_174 : decode cL_law 174 = .ok (.iconst 2, 1) := by decide +kernel
theorem dL_law_175 : decode cL_law 175 = .ok (.iadd, 1) := by decide +kernel
theorem dL_law_176 : decode cL_law 176 = .ok (.iaload, 1) := by decide +kernel
theorem dL_law_177 : decode cL_law 177 = .ok (.aload_n 0, 1) := by decide +kernel
theorem dL_law_178 : decode cL_law 178 = .ok (.iload 4, 2) := by decide +kernel
theorem dL_law_180 : decode cL_law 180 = .ok (.iconst 3, 1) := by decide +kernel
theorem dL_law_181 : decode cL_law 181 = .ok (.iadd, 1) := by decide +kernel
theorem dL_law_182 : decode cL_law 182 = .ok (.iaload, 1) := by decide +kernel
theorem dL_law_183 : decode cL_law 183 = .ok (.aload_n 0, 1) := by decide +kernel
theorem dL_law_184 : decode cL_law 184 = .ok (.iload 4, 2) := by decide +kernel
theorem dL_law_186 : decode cL_law 186 = .ok (.iconst 4, 1) := by decide +kernel
theorem dL_law_187 : decode cL_law 187 = .ok (.iadd, 1) := by decide +kernel
theorem dL_law_188 : decode cL_law 188 = .ok (.iaload, 1) := by decide +kernel
theorem dL_law_189 : decode cL_law 189 = .ok (.aload_n 0, 1) := by decide +kernel
theorem dL_law_190 : decode cL_law 190 = .ok (.iload 4, 2) := by decide +kernel
theorem dL_law_192 : decode cL_law 192 = .ok (.iconst 5, 1) := by decide +kernel
theorem dL_law_193 : decode cL_law 193 = .ok (.iadd, 1) := by decide +kernel
theorem dL_law_194 : decode cL_law 194 = .ok (.iaload, 1) := by decide +kernel
theorem dL_law_195 : decode cL_law 195 = .ok (.invokevirtual 19, 3) := by decide +kernel
theorem dL_law_198 : decode cL_law 198 = .ok (.aload_n 2, 1) := by decide +kernel
theorem dL_law_199 : decode cL_law 199 = .ok (.aload_n 0, 1) := by decide +kernel
theorem dL_law_200 : decode cL_law 200 = .ok (.iload 4, 2) := by decide +kernel
theorem dL_law_202 : decode cL_law 202 = .ok (.iconst 1, 1) := by decide +kernel
theorem dL_law_203 : decode cL_law 203 = .ok (.iadd, 1) := by decide +kernel
theorem dL_law_204 : decode cL_law 204 = .ok (.iaload, 1) := by decide +kernel
theorem dL_law_205 : decode cL_law 205 = .ok (.aload_n 0, 1) := by decide +kernel
theorem dL_law_206 : decode cL_law 206 = .ok (.iload 4, 2) := by decide +kernel
theorem dL_law_208 : decode cL_law 208 = .ok (.iconst 2, 1) := by decide +kernel
theorem dL_law_209 : decode cL_law 209 = .ok (.iadd, 1) := by decide +kernel
theorem dL_law_210 : decode cL_law 210 = .ok (.iaload, 1) := by decide +kernel
theorem dL_law_211 : decode cL_law 211 = .ok (.aload_n 0, 1) := by decide +kernel
theorem dL_law_212 : decode cL_law 212 = .ok (.iload 4, 2) := by decide +kernel
theorem dL_law_214 : decode cL_law 214 = .ok (.iconst 3, 1) := by decide +kernel
theorem dL_law_215 : decode cL_law 215 = .ok (.iadd, 1) := by decide +kernel
theorem dL_law_216 : decode cL_law 216 = .ok (.iaload, 1) := by decide +kernel
theorem dL_law_217 : decode cL_law 217 = .ok (.aload_n 0, 1) := by decide +kernel
theorem dL_law_218 : decode cL_law 218 = .ok (.iload 4, 2) := by decide +kernel
theorem dL_law_220 : decode cL_law 220 = .ok (.iconst 4, 1) := by decide +kernel
theorem dL_law_221 : decode cL_law 221 = .ok (.iadd, 1) := by decide +kernel
theorem dL_law_222 : decode cL_law 222 = .ok (.iaload, 1) := by decide +kernel
theorem dL_law_223 : decode cL_law 223 = .ok (.aload_n 0, 1) := by decide +kernel
theorem dL_law_224 : decode cL_law 224 = .ok (.iload 4, 2) := by decide +kernel
theorem dL_law_226 : decode cL_law 226 = .ok (.iconst 5, 1) := by decide +kernel
theorem dL_law_227 : decode cL_law 227 = .ok (.iadd, 1) := by decide +kernel
theorem dL_law_228 : decode cL_law 228 = .ok (.iaload, 1) := by decide +kernel
theorem dL_law_229 : decode cL_law 229 = .ok (.invokevirtual 23, 3) := by decide +kernel
theorem dL_law_232 : decode cL_law 232 = .ok (.if_icmp .eq 967, 3) := by decide +kernel
theorem dL_law_235 : decode cL_law 235 = .ok (.iconst 0, 1) := by decide +kernel
theorem dL_law_236 : decode cL_law 236 = .ok (.ireturn, 1) := by decide +kernel
theorem dL_law_237 : decode cL_law 237 = .ok (.aload_n 1, 1) := by decide +kernel
theorem dL_law_238 : decode cL_law 238 = .ok (.aload_n 0, 1) := by decide +kernel
theorem dL_law_239 : decode cL_law 239 = .ok (.iload 4, 2) := by decide +kernel
theorem dL_law_241 : decode cL_law 241 = .ok (.iconst 1, 1) := by decide +kernel
theorem dL_law_242 : decode cL_law 242 = .ok (.iadd, 1) := by decide +kernel
theorem dL_law_243 : decode cL_law 243 = .ok (.iaload, 1) := by decide +kernel
theorem dL_law_244 : decode cL_law 244 = .ok (.invokevirtual 24, 3) := by decide +kernel
theorem dL_law_247 : decode cL_law 247 = .ok (.aload_n 2, 1) := by decide +kernel
theorem dL_law_248 : decode cL_law 248 = .ok (.aload_n 0, 1) := by decide +kernel
theorem dL_law_249 : decode cL_law 249 = .ok (.iload 4, 2) := by decide +kernel
theorem dL_law_251 : decode cL_law 251 = .ok (.iconst 1, 1) := by decide +kernel
theorem dL_law_252 : decode cL_law 252 = .ok (.iadd, 1) := by decide +kernel
theorem dL_law_253 : decode cL_law 253 = .ok (.iaload, 1) := by decide +kernel
theorem dL_law_254 : decode cL_law 254 = .ok (.invokevirtual 28, 3) := by decide +kernel
theorem dL_law_257 : decode cL_law 257 = .ok (.if_icmp .eq 942, 3) := by decide +kernel
theorem dL_law_260 : decode cL_law 260 = .ok (.iconst 0, 1) := by decide +kernel
theorem dL_law_261 : decode cL_law 261 = .ok (.ireturn, 1) := by decide +kernel
theorem dL_law_262 : decode cL_law 262 = .ok (.aload_n 1, 1) := by decide +kernel
theorem dL_law_263 : decode cL_law 263 = .ok (.aload_n 0, 1) := by decide +kernel
theorem dL_law_264 : decode cL_law 264 = .ok (.iload 4, 2) := by decide +kernel
theorem dL_law_266 : decode cL_law 266 = .ok (.iconst 1, 1) := by decide +kernel
theorem dL_law_267 : decode cL_law 267 = .ok (.iadd, 1) := by decide +kernel
theorem dL_law_268 : decode cL_law 268 = .ok (.iaload, 1) := by decide +kernel
theorem dL_law_269 : decode cL_law 269 = .ok (.invokevirtual 29, 3) := by decide +kernel
theorem dL_law_272 : decode cL_law 272 = .ok (.aload_n 2, 1) := by decide +kernel
theorem dL_law_273 : decode cL_law 273 = .ok (.aload_n 0, 1) := by decide +kernel
theorem dL_law_274 : decode cL_law 274 = .ok (.iload 4, 2) := by decide +kernel
theorem dL_law_276 : decode cL_law 276 = .ok (.iconst 1, 1) := by decide +kernel
theorem dL_law_277 : decode cL_law 277 = .ok (.iadd, 1) := by decide +kernel
theorem dL_law_278 : decode cL_law 278 = .ok (.iaload, 1) := by decide +kernel
theorem dL_law_279 : decode cL_law 279 = .ok (.invokevirtual 32, 3) := by decide +kernel
theorem dL_law_282 : decode cL_law 282 = .ok (.if_icmp .eq 917, 3) := by decide +kernel
theorem dL_law_285 : decode cL_law 285 = .ok (.iconst 0, 1) := by decide +kernel
theorem dL_law_286 : decode cL_law 286 = .ok (.ireturn, 1) := by decide +kernel
theorem dL_law_287 : decode cL_law 287 = .ok (.aload_n 1, 1) := by decide +kernel
theorem dL_law_288 : decode cL_law 288 = .ok (.aload_n 0, 1) := by decide +kernel
theorem dL_law_289 : decode cL_law 289 = .ok (.iload 4, 2) := by decide +kernel
theorem dL_law_291 : decode cL_law 291 = .ok (.iconst 1, 1) := by decide +kernel
theorem dL_law_292 : decode cL_law 292 = .ok (.iadd, 1) := by decide +kernel
theorem dL_law_293 : decode cL_law 293 = .ok (.iaload, 1) := by decide +kernel
theorem dL_law_294 : decode cL_law 294 = .ok (.aload_n 0, 1) := by decide +kernel
theorem dL_law_295 : decode cL_law 295 = .ok (.iload 4, 2) := by decide +kernel
theorem dL_law_297 : decode cL_law 297 = .ok (.iconst 2, 1) := by decide +kernel
theorem dL_law_298 : decode cL_law 298 = .ok (.iadd, 1) := by decide +kernel
theorem dL_law_299 : decode cL_law 299 = .ok (.iaload, 1) := by decide +kernel
theorem dL_law_300 : decode cL_law 300 = .ok (.aload_n 3, 1) := by decide +kernel
theorem dL_law_301 : decode cL_law 301 = .ok (.invokestatic 33, 3) := by decide +kernel
theorem dL_law_304 : decode cL_law 304 = .ok (.istore 5, 2) := by decide +kernel
theorem dL_law_306 : decode cL_law 306 = .ok (.aload_n 2, 1) := by decide +kernel
theorem dL_law_307 : decode cL_law 307 = .ok (.aload_n 0, 1) := by decide +kernel
theorem dL_law_308 : decode cL_law 308 = .ok (.iload 4, 2) := by decide +kernel
theorem dL_law_310 : decode cL_law 310 = .ok (.iconst 1, 1) := by decide +kernel
theorem dL_law_311 : decode cL_law 311 = .ok (.iadd, 1) := by decide +kernel
theorem dL_law_312 : decode cL_law 312 = .ok (.iaload, 1) := by decide +kernel
theorem dL_law_313 : decode cL_law 313 = .ok (.aload_n 0, 1) := by decide +kernel
theorem dL_law_314 : decode cL_law 314 = .ok (.iload 4, 2) := by decide +kernel
theorem dL_law_316 : decode cL_law 316 = .ok (.iconst 2, 1) := by decide +kernel
theorem dL_law_317 : decode cL_law 317 = .ok (.iadd, 1) := by decide +kernel
theorem dL_law_318 : decode cL_law 318 = .ok (.iaload, 1) := by decide +kernel
theorem dL_law_319 : decode cL_law 319 = .ok (.invokevirtual 38, 3) := by decide +kernel
theorem dL_law_322 : decode cL_law 322 = .ok (.istore 6, 2) := by decide +kernel
theorem dL_law_324 : decode cL_law 324 = .ok (.aload_n 2, 1) := by decide +kernel
theorem dL_law_325 : decode cL_law 325 = .ok (.invokevirtual 39, 3) := by decide +kernel
theorem dL_law_328 : decode cL_law 328 = .ok (.iload 5, 2) := by decide +kernel
theorem dL_law_330 : decode cL_law 330 = .ok (.if_icmp .eq 5, 3) := by decide +kernel
theorem dL_law_333 : decode cL_law 333 = .ok (.iconst 0, 1) := by decide +kernel
theorem dL_law_334 : decode cL_law 334 = .ok (.ireturn, 1) := by decide +kernel
theorem dL_law_335 : decode cL_law 335 = .ok (.iload 5, 2) := by decide +kernel
theorem dL_law_337 : decode cL_law 337 = .ok (.ifCond .ne 15, 3) := by decide +kernel
theorem dL_law_340 : decode cL_law 340 = .ok (.aload_n 3, 1) := by decide +kernel
theorem dL_law_341 : decode cL_law 341 = .ok (.iconst 0, 1) := by decide +kernel
theorem dL_law_342 : decode cL_law 342 = .ok (.laload, 1) := by decide +kernel
theorem dL_law_343 : decode cL_law 343 = .ok (.iload 6, 2) := by decide +kernel
theorem dL_law_345 : decode cL_law 345 = .ok (.i2l, 1) := by decide +kernel
theorem dL_law_346 : decode cL_law 346 = .ok (.lcmp, 1) := by decide +kernel
theorem dL_law_347 : decode cL_law 347 = .ok (.ifCond .eq 5, 3) := by decide +kernel
theorem dL_law_350 : decode cL_law 350 = .ok (.iconst 0, 1) := by decide +kernel
theorem dL_law_351 : decode cL_law 351 = .ok (.ireturn, 1) := by decide +kernel
theorem dL_law_352 : decode cL_law 352 = .ok (.goto 847, 3) := by decide +kernel
theorem dL_law_355 : decode cL_law 355 = .ok (.aload_n 1, 1) := by decide +kernel
theorem dL_law_356 : decode cL_law 356 = .ok (.aload_n 0, 1) := by decide +kernel
theorem dL_law_357 : decode cL_law 357 = .ok (.iload 4, 2) := by decide +kernel
theorem dL_law_359 : decode cL_law 359 = .ok (.iconst 1, 1) := by decide +kernel
theorem dL_law_360 : decode cL_law 360 = .ok (.iadd, 1) := by decide +kernel
theorem dL_law_361 : decode cL_law 361 = .ok (.iaload, 1) := by decide +kernel
theorem dL_law_362 : decode cL_law 362 = .ok (.aload_n 0, 1) := by decide +kernel
theorem dL_law_363 : decode cL_law 363 = .ok (.iload 4, 2) := by decide +kernel
theorem dL_law_365 : decode cL_law 365 = .ok (.iconst 2, 1) := by decide +kernel
theorem dL_law_366 : decode cL_law 366 = .ok (.iadd, 1) := by decide +kernel
theorem dL_law_367 : decode cL_law 367 = .ok (.iaload, 1) := by decide +kernel
theorem dL_law_368 : decode cL_law 368 = .ok (.invokevirtual 43, 3) := by decide +kernel
theorem dL_law_371 : decode cL_law 371 = .ok (.aload_n 2, 1) := by decide +kernel
theorem dL_law_372 : decode cL_law 372 = .ok (.aload_n 0, 1) := by decide +kernel
theorem dL_law_373 : decode cL_law 373 = .ok (.iload 4, 2) := by decide +kernel
theorem dL_law_375 : decode cL_law 375 = .ok (.iconst 1, 1) := by decide +kernel
theorem dL_law_376 : decode cL_law 376 = .ok (.iadd, 1) := by decide +kernel
theorem dL_law_377 : decode cL_law 377 = .ok (.iaload, 1) := by decide +kernel
theorem dL_law_378 : decode cL_law 378 = .ok (.aload_n 0, 1) := by decide +kernel
theorem dL_law_379 : decode cL_law 379 = .ok (.iload 4, 2) := by decide +kernel
theorem dL_law_381 : decode cL_law 381 = .ok (.iconst 2, 1) := by decide +kernel
theorem dL_law_382 : decode cL_law 382 = .ok (.iadd, 1) := by decide +kernel
theorem dL_law_383 : decode cL_law 383 = .ok (.iaload, 1) := by decide +kernel
theorem dL_law_384 : decode cL_law 384 = .ok (.invokevirtual 47, 3) := by decide +kernel
theorem dL_law_387 : decode cL_law 387 = .ok (.lcmp, 1) := by decide +kernel
theorem dL_law_388 : decode cL_law 388 = .ok (.ifCond .eq 811, 3) := by decide +kernel
theorem dL_law_391 : decode cL_law 391 = .ok (.iconst 0, 1) := by decide +kernel
theorem dL_law_392 : decode cL_law 392 = .ok (.ireturn, 1) := by decide +kernel
theorem dL_law_393 : decode cL_law 393 = .ok (.aload_n 1, 1) := by decide +kernel
theorem dL_law_394 : decode cL_law 394 = .ok (.aload_n 0, 1) := by decide +kernel
theorem dL_law_395 : decode cL_law 395 = .ok (.iload 4, 2) := by decide +kernel
theorem dL_law_397 : decode cL_law 397 = .ok (.iconst 1, 1) := by decide +kernel
theorem dL_law_398 : decode cL_law 398 = .ok (.iadd, 1) := by decide +kernel
theorem dL_law_399 : decode cL_law 399 = .ok (.iaload, 1) := by decide +kernel
theorem dL_law_400 : decode cL_law 400 = .ok (.invokevirtual 48, 3) := by decide +kernel
theorem dL_law_403 : decode cL_law 403 = .ok (.aload_n 2, 1) := by decide +kernel
theorem dL_law_404 : decode cL_law 404 = .ok (.aload_n 0, 1) := by decide +kernel
theorem dL_law_405 : decode cL_law 405 = .ok (.iload 4, 2) := by decide +kernel
theorem dL_law_407 : decode cL_law 407 = .ok (.iconst 1, 1) := by decide +kernel
theorem dL_law_408 : decode cL_law 408 = .ok (.iadd, 1) := by decide +kernel
theorem dL_law_409 : decode cL_law 409 = .ok (.iaload, 1) := by decide +kernel
theorem dL_law_410 : decode cL_law 410 = .ok (.invokevirtual 51, 3) := by decide +kernel
theorem dL_law_413 : decode cL_law 413 = .ok (.if_icmp .eq 786, 3) := by decide +kernel
theorem dL_law_416 : decode cL_law 416 = .ok (.iconst 0, 1) := by decide +kernel
theorem dL_law_417 : decode cL_law 417 = .ok (.ireturn, 1) := by decide +kernel
theorem dL_law_418 : decode cL_law 418 = .ok (.aload_n 1, 1) := by decide +kernel
theorem dL_law_419 : decode cL_law 419 = .ok (.aload_n 0, 1) := by decide +kernel
theorem dL_law_420 : decode cL_law 420 = .ok (.iload 4, 2) := by decide +kernel
theorem dL_law_422 : decode cL_law 422 = .ok (.iconst 1, 1) := by decide +kernel
theorem dL_law_423 : decode cL_law 423 = .ok (.iadd, 1) := by decide +kernel
theorem dL_law_424 : decode cL_law 424 = .ok (.iaload, 1) := by decide +kernel
theorem dL_law_425 : decode cL_law 425 = .ok (.aload_n 0, 1) := by decide +kernel
theorem dL_law_426 : decode cL_law 426 = .ok (.iload 4, 2) := by decide +kernel
theorem dL_law_428 : decode cL_law 428 = .ok (.iconst 2, 1) := by decide +kernel
theorem dL_law_429 : decode cL_law 429 = .ok (.iadd, 1) := by decide +kernel
theorem dL_law_430 : decode cL_law 430 = .ok (.iaload, 1) := by decide +kernel
theorem dL_law_431 : decode cL_law 431 = .ok (.aload_n 0, 1) := by decide +kernel
theorem dL_law_432 : decode cL_law 432 = .ok (.iload 4, 2) := by decide +kernel
theorem dL_law_434 : decode cL_law 434 = .ok (.iconst 3, 1) := by decide +kernel
theorem dL_law_435 : decode cL_law 435 = .ok (.iadd, 1) := by decide +kernel
theorem dL_law_436 : decode cL_law 436 = .ok (.iaload, 1) := by decide +kernel
theorem dL_law_437 : decode cL_law 437 = .ok (.aload_n 0, 1) := by decide +kernel
theorem dL_law_438 : decode cL_law 438 = .ok (.iload 4, 2) := by decide +kernel
theorem dL_law_440 : decode cL_law 440 = .ok (.iconst 4, 1) := by decide +kernel
theorem dL_law_441 : decode cL_law 441 = .ok (.iadd, 1) := by decide +kernel
theorem dL_law_442 : decode cL_law 442 = .ok (.iaload, 1) := by decide +kernel
theorem dL_law_443 : decode cL_law 443 = .ok (.aload_n 0, 1) := by decide +kernel
theorem dL_law_444 : decode cL_law 444 = .ok (.iload 4, 2) := by decide +kernel
theorem dL_law_446 : decode cL_law 446 = .ok (.iconst 5, 1) := by decide +kernel
theorem dL_law_447 : decode cL_law 447 = .ok (.iadd, 1) := by decide +kernel
theorem dL_law_448 : decode cL_law 448 = .ok (.iaload, 1) := by decide +kernel
theorem dL_law_449 : decode cL_law 449 = .ok (.aload_n 0, 1) := by decide +kernel
theorem dL_law_450 : decode cL_law 450 = .ok (.iload 4, 2) := by decide +kernel
theorem dL_law_452 : decode cL_law 452 = .ok (.bipush 6, 2) := by decide +kernel
theorem dL_law_454 : decode cL_law 454 = .ok (.iadd, 1) := by decide +kernel
theorem dL_law_455 : decode cL_law 455 = .ok (.iaload, 1) := by decide +kernel
theorem dL_law_456 : decode cL_law 456 = .ok (.invokevirtual 52, 3) := by decide +kernel
theorem dL_law_459 : decode cL_law 459 = .ok (.aload_n 2, 1) := by decide +kernel
theorem dL_law_460 : decode cL_law 460 = .ok (.aload_n 0, 1) := by decide +kernel
theorem dL_law_461 : decode cL_law 461 = .ok (.iload 4, 2) := by decide +kernel
theorem dL_law_463 : decode cL_law 463 = .ok (.iconst 1, 1) := by decide +kernel
theorem dL_law_464 : decode cL_law 464 = .ok (.iadd, 1) := by decide +kernel
theorem dL_law_465 : decode cL_law 465 = .ok (.iaload, 1) := by decide +kernel
theorem dL_law_466 : decode cL_law 466 = .ok (.aload_n 0, 1) := by decide +kernel
theorem dL_law_467 : decode cL_law 467 = .ok (.iload 4, 2) := by decide +kernel
theorem dL_law_469 : decode cL_law 469 = .ok (.iconst 2, 1) := by decide +kernel
theorem dL_law_470 : decode cL_law 470 = .ok (.iadd, 1) := by decide +kernel
theorem dL_law_471 : decode cL_law 471 = .ok (.iaload, 1) := by decide +kernel
theorem dL_law_472 : decode cL_law 472 = .ok (.aload_n 0, 1) := by decide +kernel
theorem dL_law_473 : decode cL_law 473 = .ok (.iload 4, 2) := by decide +kernel
theorem dL_law_475 : decode cL_law 475 = .ok (.iconst 3, 1) := by decide +kernel
theorem dL_law_476 : decode cL_law 476 = .ok (.iadd, 1) := by decide +kernel
theorem dL_law_477 : decode cL_law 477 = .ok (.iaload, 1) := by decide +kernel
theorem dL_law_478 : decode cL_law 478 = .ok (.aload_n 0, 1) := by decide +kernel
theorem dL_law_479 : decode cL_law 479 = .ok (.iload 4, 2) := by decide +kernel
theorem dL_law_481 : decode cL_law 481 = .ok (.iconst 4, 1) := by decide +kernel
theorem dL_law_482 : decode cL_law 482 = .ok (.iadd, 1) := by decide +kernel
theorem dL_law_483 : decode cL_law 483 = .ok (.iaload, 1) := by decide +kernel
theorem dL_law_484 : decode cL_law 484 = .ok (.aload_n 0, 1) := by decide +kernel
theorem dL_law_485 : decode cL_law 485 = .ok (.iload 4, 2) := by decide +kernel
theorem dL_law_487 : decode cL_law 487 = .ok (.iconst 5, 1) := by decide +kernel
theorem dL_law_488 : decode cL_law 488 = .ok (.iadd, 1) := by decide +kernel
theorem dL_law_489 : decode cL_law 489 = .ok (.iaload, 1) := by decide +kernel
theorem dL_law_490 : decode cL_law 490 = .ok (.aload_n 0, 1) := by decide +kernel
theorem dL_law_491 : decode cL_law 491 = .ok (.iload 4, 2) := by decide +kernel
theorem dL_law_493 : decode cL_law 493 = .ok (.bipush 6, 2) := by decide +kernel
theorem dL_law_495 : decode cL_law 495 = .ok (.iadd, 1) := by decide +kernel
theorem dL_law_496 : decode cL_law 496 = .ok (.iaload, 1) := by decide +kernel
theorem dL_law_497 : decode cL_law 497 = .ok (.invokevirtual 56, 3) := by decide +kernel
theorem dL_law_500 : decode cL_law 500 = .ok (.if_icmp .eq 699, 3) := by decide +kernel
theorem dL_law_503 : decode cL_law 503 = .ok (.iconst 0, 1) := by decide +kernel
theorem dL_law_504 : decode cL_law 504 = .ok (.ireturn, 1) := by decide +kernel
theorem dL_law_505 : decode cL_law 505 = .ok (.aload_n 1, 1) := by decide +kernel
theorem dL_law_506 : decode cL_law 506 = .ok (.aload_n 0, 1) := by decide +kernel
theorem dL_law_507 : decode cL_law 507 = .ok (.iload 4, 2) := by decide +kernel
theorem dL_law_509 : decode cL_law 509 = .ok (.iconst 1, 1) := by decide +kernel
theorem dL_law_510 : decode cL_law 510 = .ok (.iadd, 1) := by decide +kernel
theorem dL_law_511 : decode cL_law 511 = .ok (.iaload, 1) := by decide +kernel
theorem dL_law_512 : decode cL_law 512 = .ok (.aload_n 0, 1) := by decide +kernel
theorem dL_law_513 : decode cL_law 513 = .ok (.iload 4, 2) := by decide +kernel
theorem dL_law_515 : decode cL_law 515 = .ok (.iconst 2, 1) := by decide +kernel
theorem dL_law_516 : decode cL_law 516 = .ok (.iadd, 1) := by decide +kernel
theorem dL_law_517 : decode cL_law 517 = .ok (.iaload, 1) := by decide +kernel
theorem dL_law_518 : decode cL_law 518 = .ok (.invokevirtual 57, 3) := by decide +kernel
theorem dL_law_521 : decode cL_law 521 = .ok (.aload_n 2, 1) := by decide +kernel
theorem dL_law_522 : decode cL_law 522 = .ok (.aload_n 0, 1) := by decide +kernel
theorem dL_law_523 : decode cL_law 523 = .ok (.iload 4, 2) := by decide +kernel
theorem dL_law_525 : decode cL_law 525 = .ok (.iconst 1, 1) := by decide +kernel
theorem dL_law_526 : decode cL_law 526 = .ok (.iadd, 1) := by decide +kernel
theorem dL_law_527 : decode cL_law 527 = .ok (.iaload, 1) := by decide +kernel
theorem dL_law_528 : decode cL_law 528 = .ok (.aload_n 0, 1) := by decide +kernel
theorem dL_law_529 : decode cL_law 529 = .ok (.iload 4, 2) := by decide +kernel
theorem dL_law_531 : decode cL_law 531 = .ok (.iconst 2, 1) := by decide +kernel
theorem dL_law_532 : decode cL_law 532 = .ok (.iadd, 1) := by decide +kernel
theorem dL_law_533 : decode cL_law 533 = .ok (.iaload, 1) := by decide +kernel
theorem dL_law_534 : decode cL_law 534 = .ok (.invokevirtual 60, 3) := by decide +kernel
theorem dL_law_537 : decode cL_law 537 = .ok (.if_icmp .eq 662, 3) := by decide +kernel
theorem dL_law_540 : decode cL_law 540 = .ok (.iconst 0, 1) := by decide +kernel
theorem dL_law_541 : decode cL_law 541 = .ok (.ireturn, 1) := by decide +kernel
theorem dL_law_542 : decode cL_law 542 = .ok (.aload_n 1, 1) := by decide +kernel
theorem dL_law_543 : decode cL_law 543 = .ok (.aload_n 0, 1) := by decide +kernel
theorem dL_law_544 : decode cL_law 544 = .ok (.iload 4, 2) := by decide +kernel
theorem dL_law_546 : decode cL_law 546 = .ok (.iconst 1, 1) := by decide +kernel
theorem dL_law_547 : decode cL_law 547 = .ok (.iadd, 1) := by decide +kernel
theorem dL_law_548 : decode cL_law 548 = .ok (.iaload, 1) := by decide +kernel
theorem dL_law_549 : decode cL_law 549 = .ok (.aload_n 0, 1) := by decide +kernel
theorem dL_law_550 : decode cL_law 550 = .ok (.iload 4, 2) := by decide +kernel
theorem dL_law_552 : decode cL_law 552 = .ok (.iconst 2, 1) := by decide +kernel
theorem dL_law_553 : decode cL_law 553 = .ok (.iadd, 1) := by decide +kernel
theorem dL_law_554 : decode cL_law 554 = .ok (.iaload, 1) := by decide +kernel
theorem dL_law_555 : decode cL_law 555 = .ok (.invokevirtual 61, 3) := by decide +kernel
theorem dL_law_558 : decode cL_law 558 = .ok (.aload_n 2, 1) := by decide +kernel
theorem dL_law_559 : decode cL_law 559 = .ok (.aload_n 0, 1) := by decide +kernel
theorem dL_law_560 : decode cL_law 560 = .ok (.iload 4, 2) := by decide +kernel
theorem dL_law_562 : decode cL_law 562 = .ok (.iconst 1, 1) := by decide +kernel
theorem dL_law_563 : decode cL_law 563 = .ok (.iadd, 1) := by decide +kernel
theorem dL_law_564 : decode cL_law 564 = .ok (.iaload, 1) := by decide +kernel
theorem dL_law_565 : decode cL_law 565 = .ok (.aload_n 0, 1) := by decide +kernel
theorem dL_law_566 : decode cL_law 566 = .ok (.iload 4, 2) := by decide +kernel
theorem dL_law_568 : decode cL_law 568 = .ok (.iconst 2, 1) := by decide +kernel
theorem dL_law_569 : decode cL_law 569 = .ok (.iadd, 1) := by decide +kernel
theorem dL_law_570 : decode cL_law 570 = .ok (.iaload, 1) := by decide +kernel
theorem dL_law_571 : decode cL_law 571 = .ok (.invokevirtual 64, 3) := by decide +kernel
theorem dL_law_574 : decode cL_law 574 = .ok (.if_icmp .eq 625, 3) := by decide +kernel
theorem dL_law_577 : decode cL_law 577 = .ok (.iconst 0, 1) := by decide +kernel
theorem dL_law_578 : decode cL_law 578 = .ok (.ireturn, 1) := by decide +kernel
theorem dL_law_579 : decode cL_law 579 = .ok (.aload_n 1, 1) := by decide +kernel
theorem dL_law_580 : decode cL_law 580 = .ok (.invokevirtual 65, 3) := by decide +kernel
theorem dL_law_583 : decode cL_law 583 = .ok (.aload_n 2, 1) := by decide +kernel
theorem dL_law_584 : decode cL_law 584 = .ok (.invokevirtual 68, 3) := by decide +kernel
theorem dL_law_587 : decode cL_law 587 = .ok (.if_icmp .eq 612, 3) := by decide +kernel
theorem dL_law_590 : decode cL_law 590 = .ok (.iconst 0, 1) := by decide +kernel
theorem dL_law_591 : decode cL_law 591 = .ok (.ireturn, 1) := by decide +kernel
theorem dL_law_592 : decode cL_law 592 = .ok (.aload_n 1, 1) := by decide +kernel
theorem dL_law_593 : decode cL_law 593 = .ok (.invokevirtual 69, 3) := by decide +kernel
theorem dL_law_596 : decode cL_law 596 = .ok (.aload_n 2, 1) := by decide +kernel
theorem dL_law_597 : decode cL_law 597 = .ok (.invokevirtual 72, 3) := by decide +kernel
theorem dL_law_600 : decode cL_law 600 = .ok (.if_icmp .eq 599, 3) := by decide +kernel
theorem dL_law_603 : decode cL_law 603 = .ok (.iconst 0, 1) := by decide +kernel
theorem dL_law_604 : decode cL_law 604 = .ok (.ireturn, 1) := by decide +kernel
theorem dL_law_605 : decode cL_law 605 = .ok (.aload_n 1, 1) := by decide +kernel
theorem dL_law_606 : decode cL_law 606 = .ok (.invokevirtual 73, 3) := by decide +kernel
theorem dL_law_609 : decode cL_law 609 = .ok (.aload_n 2, 1) := by decide +kernel
theorem dL_law_610 : decode cL_law 610 = .ok (.invokevirtual 76, 3) := by decide +kernel
theorem dL_law_613 : decode cL_law 613 = .ok (.if_icmp .eq 586, 3) := by decide +kernel
theorem dL_law_616 : decode cL_law 616 = .ok (.iconst 0, 1) := by decide +kernel
theorem dL_law_617 : decode cL_law 617 = .ok (.ireturn, 1) := by decide +kernel
theorem dL_law_618 : decode cL_law 618 = .ok (.aload_n 1, 1) := by decide +kernel
theorem dL_law_619 : decode cL_law 619 = .ok (.invokevirtual 77, 3) := by decide +kernel
theorem dL_law_622 : decode cL_law 622 = .ok (.aload_n 2, 1) := by decide +kernel
theorem dL_law_623 : decode cL_law 623 = .ok (.invokevirtual 80, 3) := by decide +kernel
theorem dL_law_626 : decode cL_law 626 = .ok (.if_icmp .eq 573, 3) := by decide +kernel
theorem dL_law_629 : decode cL_law 629 = .ok (.iconst 0, 1) := by decide +kernel
theorem dL_law_630 : decode cL_law 630 = .ok (.ireturn, 1) := by decide +kernel
theorem dL_law_631 : decode cL_law 631 = .ok (.aload_n 1, 1) := by decide +kernel
theorem dL_law_632 : decode cL_law 632 = .ok (.aload_n 0, 1) := by decide +kernel
theorem dL_law_633 : decode cL_law 633 = .ok (.iload 4, 2) := by decide +kernel
theorem dL_law_635 : decode cL_law 635 = .ok (.iconst 1, 1) := by decide +kernel
theorem dL_law_636 : decode cL_law 636 = .ok (.iadd, 1) := by decide +kernel
theorem dL_law_637 : decode cL_law 637 = .ok (.iaload, 1) := by decide +kernel
theorem dL_law_638 : decode cL_law 638 = .ok (.aload_n 0, 1) := by decide +kernel
theorem dL_law_639 : decode cL_law 639 = .ok (.iload 4, 2) := by decide +kernel
theorem dL_law_641 : decode cL_law 641 = .ok (.iconst 2, 1) := by decide +kernel
theorem dL_law_642 : decode cL_law 642 = .ok (.iadd, 1) := by decide +kernel
theorem dL_law_643 : decode cL_law 643 = .ok (.iaload, 1) := by decide +kernel
theorem dL_law_644 : decode cL_law 644 = .ok (.aload_n 0, 1) := by decide +kernel
theorem dL_law_645 : decode cL_law 645 = .ok (.iload 4, 2) := by decide +kernel
theorem dL_law_647 : decode cL_law 647 = .ok (.iconst 3, 1) := by decide +kernel
theorem dL_law_648 : decode cL_law 648 = .ok (.iadd, 1) := by decide +kernel
theorem dL_law_649 : decode cL_law 649 = .ok (.iaload, 1) := by decide +kernel
theorem dL_law_650 : decode cL_law 650 = .ok (.aload_n 0, 1) := by decide +kernel
theorem dL_law_651 : decode cL_law 651 = .ok (.iload 4, 2) := by decide +kernel
theorem dL_law_653 : decode cL_law 653 = .ok (.iconst 4, 1) := by decide +kernel
theorem dL_law_654 : decode cL_law 654 = .ok (.iadd, 1) := by decide +kernel
theorem dL_law_655 : decode cL_law 655 = .ok (.iaload, 1) := by decide +kernel
theorem dL_law_656 : decode cL_law 656 = .ok (.aload_n 0, 1) := by decide +kernel
theorem dL_law_657 : decode cL_law 657 = .ok (.iload 4, 2) := by decide +kernel
theorem dL_law_659 : decode cL_law 659 = .ok (.iconst 5, 1) := by decide +kernel
theorem dL_law_660 : decode cL_law 660 = .ok (.iadd, 1) := by decide +kernel
theorem dL_law_661 : decode cL_law 661 = .ok (.iaload, 1) := by decide +kernel
theorem dL_law_662 : decode cL_law 662 = .ok (.invokevirtual 81, 3) := by decide +kernel
theorem dL_law_665 : decode cL_law 665 = .ok (.aload_n 2, 1) := by decide +kernel
theorem dL_law_666 : decode cL_law 666 = .ok (.aload_n 0, 1) := by decide +kernel
theorem dL_law_667 : decode cL_law 667 = .ok (.iload 4, 2) := by decide +kernel
theorem dL_law_669 : decode cL_law 669 = .ok (.iconst 1, 1) := by decide +kernel
theorem dL_law_670 : decode cL_law 670 = .ok (.iadd, 1) := by decide +kernel
theorem dL_law_671 : decode cL_law 671 = .ok (.iaload, 1) := by decide +kernel
theorem dL_law_672 : decode cL_law 672 = .ok (.aload_n 0, 1) := by decide +kernel
theorem dL_law_673 : decode cL_law 673 = .ok (.iload 4, 2) := by decide +kernel
theorem dL_law_675 : decode cL_law 675 = .ok (.iconst 2, 1) := by decide +kernel
theorem dL_law_676 : decode cL_law 676 = .ok (.iadd, 1) := by decide +kernel
theorem dL_law_677 : decode cL_law 677 = .ok (.iaload, 1) := by decide +kernel
theorem dL_law_678 : decode cL_law 678 = .ok (.aload_n 0, 1) := by decide +kernel
theorem dL_law_679 : decode cL_law 679 = .ok (.iload 4, 2) := by decide +kernel
theorem dL_law_681 : decode cL_law 681 = .ok (.iconst 3, 1) := by decide +kernel
theorem dL_law_682 : decode cL_law 682 = .ok (.iadd, 1) := by decide +kernel
theorem dL_law_683 : decode cL_law 683 = .ok (.iaload, 1) := by decide +kernel
theorem dL_law_684 : decode cL_law 684 = .ok (.aload_n 0, 1) := by decide +kernel
theorem dL_law_685 : decode cL_law 685 = .ok (.iload 4, 2) := by decide +kernel
theorem dL_law_687 : decode cL_law 687 = .ok (.iconst 4, 1) := by decide +kernel
theorem dL_law_688 : decode cL_law 688 = .ok (.iadd, 1) := by decide +kernel
theorem dL_law_689 : decode cL_law 689 = .ok (.iaload, 1) := by decide +kernel
theorem dL_law_690 : decode cL_law 690 = .ok (.aload_n 0, 1) := by decide +kernel
theorem dL_law_691 : decode cL_law 691 = .ok (.iload 4, 2) := by decide +kernel
theorem dL_law_693 : decode cL_law 693 = .ok (.iconst 5, 1) := by decide +kernel
theorem dL_law_694 : decode cL_law 694 = .ok (.iadd, 1) := by decide +kernel
theorem dL_law_695 : decode cL_law 695 = .ok (.iaload, 1) := by decide +kernel
theorem dL_law_696 : decode cL_law 696 = .ok (.invokevirtual 84, 3) := by decide +kernel
theorem dL_law_699 : decode cL_law 699 = .ok (.if_icmp .eq 500, 3) := by decide +kernel
theorem dL_law_702 : decode cL_law 702 = .ok (.iconst 0, 1) := by decide +kernel
theorem dL_law_703 : decode cL_law 703 = .ok (.ireturn, 1) := by decide +kernel
theorem dL_law_704 : decode cL_law 704 = .ok (.aload_n 1, 1) := by decide +kernel
theorem dL_law_705 : decode cL_law 705 = .ok (.aload_n 0, 1) := by decide +kernel
theorem dL_law_706 : decode cL_law 706 = .ok (.iload 4, 2) := by decide +kernel
theorem dL_law_708 : decode cL_law 708 = .ok (.iconst 1, 1) := by decide +kernel
theorem dL_law_709 : decode cL_law 709 = .ok (.iadd, 1) := by decide +kernel
theorem dL_law_710 : decode cL_law 710 = .ok (.iaload, 1) := by decide +kernel
theorem dL_law_711 : decode cL_law 711 = .ok (.aload_n 0, 1) := by decide +kernel
theorem dL_law_712 : decode cL_law 712 = .ok (.iload 4, 2) := by decide +kernel
theorem dL_law_714 : decode cL_law 714 = .ok (.iconst 2, 1) := by decide +kernel
theorem dL_law_715 : decode cL_law 715 = .ok (.iadd, 1) := by decide +kernel
theorem dL_law_716 : decode cL_law 716 = .ok (.iaload, 1) := by decide +kernel
theorem dL_law_717 : decode cL_law 717 = .ok (.aload_n 0, 1) := by decide +kernel
theorem dL_law_718 : decode cL_law 718 = .ok (.iload 4, 2) := by decide +kernel
theorem dL_law_720 : decode cL_law 720 = .ok (.iconst 3, 1) := by decide +kernel
theorem dL_law_721 : decode cL_law 721 = .ok (.iadd, 1) := by decide +kernel
theorem dL_law_722 : decode cL_law 722 = .ok (.iaload, 1) := by decide +kernel
theorem dL_law_723 : decode cL_law 723 = .ok (.aload_n 0, 1) := by decide +kernel
theorem dL_law_724 : decode cL_law 724 = .ok (.iload 4, 2) := by decide +kernel
theorem dL_law_726 : decode cL_law 726 = .ok (.iconst 4, 1) := by decide +kernel
theorem dL_law_727 : decode cL_law 727 = .ok (.iadd, 1) := by decide +kernel
theorem dL_law_728 : decode cL_law 728 = .ok (.iaload, 1) := by decide +kernel
theorem dL_law_729 : decode cL_law 729 = .ok (.aload_n 0, 1) := by decide +kernel
theorem dL_law_730 : decode cL_law 730 = .ok (.iload 4, 2) := by decide +kernel
theorem dL_law_732 : decode cL_law 732 = .ok (.iconst 5, 1) := by decide +kernel
theorem dL_law_733 : decode cL_law 733 = .ok (.iadd, 1) := by decide +kernel
theorem dL_law_734 : decode cL_law 734 = .ok (.iaload, 1) := by decide +kernel
theorem dL_law_735 : decode cL_law 735 = .ok (.invokevirtual 85, 3) := by decide +kernel
theorem dL_law_738 : decode cL_law 738 = .ok (.aload_n 2, 1) := by decide +kernel
theorem dL_law_739 : decode cL_law 739 = .ok (.aload_n 0, 1) := by decide +kernel
theorem dL_law_740 : decode cL_law 740 = .ok (.iload 4, 2) := by decide +kernel
theorem dL_law_742 : decode cL_law 742 = .ok (.iconst 1, 1) := by decide +kernel
theorem dL_law_743 : decode cL_law 743 = .ok (.iadd, 1) := by decide +kernel
theorem dL_law_744 : decode cL_law 744 = .ok (.iaload, 1) := by decide +kernel
theorem dL_law_745 : decode cL_law 745 = .ok (.aload_n 0, 1) := by decide +kernel
theorem dL_law_746 : decode cL_law 746 = .ok (.iload 4, 2) := by decide +kernel
theorem dL_law_748 : decode cL_law 748 = .ok (.iconst 2, 1) := by decide +kernel
theorem dL_law_749 : decode cL_law 749 = .ok (.iadd, 1) := by decide +kernel
theorem dL_law_750 : decode cL_law 750 = .ok (.iaload, 1) := by decide +kernel
theorem dL_law_751 : decode cL_law 751 = .ok (.aload_n 0, 1) := by decide +kernel
theorem dL_law_752 : decode cL_law 752 = .ok (.iload 4, 2) := by decide +kernel
theorem dL_law_754 : decode cL_law 754 = .ok (.iconst 3, 1) := by decide +kernel
theorem dL_law_755 : decode cL_law 755 = .ok (.iadd, 1) := by decide +kernel
theorem dL_law_756 : decode cL_law 756 = .ok (.iaload, 1) := by decide +kernel
theorem dL_law_757 : decode cL_law 757 = .ok (.aload_n 0, 1) := by decide +kernel
theorem dL_law_758 : decode cL_law 758 = .ok (.iload 4, 2) := by decide +kernel
theorem dL_law_760 : decode cL_law 760 = .ok (.iconst 4, 1) := by decide +kernel
theorem dL_law_761 : decode cL_law 761 = .ok (.iadd, 1) := by decide +kernel
theorem dL_law_762 : decode cL_law 762 = .ok (.iaload, 1) := by decide +kernel
theorem dL_law_763 : decode cL_law 763 = .ok (.aload_n 0, 1) := by decide +kernel
theorem dL_law_764 : decode cL_law 764 = .ok (.iload 4, 2) := by decide +kernel
theorem dL_law_766 : decode cL_law 766 = .ok (.iconst 5, 1) := by decide +kernel
theorem dL_law_767 : decode cL_law 767 = .ok (.iadd, 1) := by decide +kernel
theorem dL_law_768 : decode cL_law 768 = .ok (.iaload, 1) := by decide +kernel
theorem dL_law_769 : decode cL_law 769 = .ok (.invokevirtual 88, 3) := by decide +kernel
theorem dL_law_772 : decode cL_law 772 = .ok (.if_icmp .eq 427, 3) := by decide +kernel
theorem dL_law_775 : decode cL_law 775 = .ok (.iconst 0, 1) := by decide +kernel
theorem dL_law_776 : decode cL_law 776 = .ok (.ireturn, 1) := by decide +kernel
theorem dL_law_777 : decode cL_law 777 = .ok (.aload_n 1, 1) := by decide +kernel
theorem dL_law_778 : decode cL_law 778 = .ok (.aload_n 0, 1) := by decide +kernel
theorem dL_law_779 : decode cL_law 779 = .ok (.iload 4, 2) := by decide +kernel
theorem dL_law_781 : decode cL_law 781 = .ok (.iconst 1, 1) := by decide +kernel
theorem dL_law_782 : decode cL_law 782 = .ok (.iadd, 1) := by decide +kernel
theorem dL_law_783 : decode cL_law 783 = .ok (.iaload, 1) := by decide +kernel
theorem dL_law_784 : decode cL_law 784 = .ok (.invokevirtual 89, 3) := by decide +kernel
theorem dL_law_787 : decode cL_law 787 = .ok (.aload_n 2, 1) := by decide +kernel
theorem dL_law_788 : decode cL_law 788 = .ok (.aload_n 0, 1) := by decide +kernel
theorem dL_law_789 : decode cL_law 789 = .ok (.iload 4, 2) := by decide +kernel
theorem dL_law_791 : decode cL_law 791 = .ok (.iconst 1, 1) := by decide +kernel
theorem dL_law_792 : decode cL_law 792 = .ok (.iadd, 1) := by decide +kernel
theorem dL_law_793 : decode cL_law 793 = .ok (.iaload, 1) := by decide +kernel
theorem dL_law_794 : decode cL_law 794 = .ok (.invokevirtual 92, 3) := by decide +kernel
theorem dL_law_797 : decode cL_law 797 = .ok (.if_icmp .eq 402, 3) := by decide +kernel
theorem dL_law_800 : decode cL_law 800 = .ok (.iconst 0, 1) := by decide +kernel
theorem dL_law_801 : decode cL_law 801 = .ok (.ireturn, 1) := by decide +kernel
theorem dL_law_802 : decode cL_law 802 = .ok (.aload_n 1, 1) := by decide +kernel
theorem dL_law_803 : decode cL_law 803 = .ok (.aload_n 0, 1) := by decide +kernel
theorem dL_law_804 : decode cL_law 804 = .ok (.iload 4, 2) := by decide +kernel
theorem dL_law_806 : decode cL_law 806 = .ok (.iconst 1, 1) := by decide +kernel
theorem dL_law_807 : decode cL_law 807 = .ok (.iadd, 1) := by decide +kernel
theorem dL_law_808 : decode cL_law 808 = .ok (.iaload, 1) := by decide +kernel
theorem dL_law_809 : decode cL_law 809 = .ok (.invokevirtual 93, 3) := by decide +kernel
theorem dL_law_812 : decode cL_law 812 = .ok (.aload_n 2, 1) := by decide +kernel
theorem dL_law_813 : decode cL_law 813 = .ok (.aload_n 0, 1) := by decide +kernel
theorem dL_law_814 : decode cL_law 814 = .ok (.iload 4, 2) := by decide +kernel
theorem dL_law_816 : decode cL_law 816 = .ok (.iconst 1, 1) := by decide +kernel
theorem dL_law_817 : decode cL_law 817 = .ok (.iadd, 1) := by decide +kernel
theorem dL_law_818 : decode cL_law 818 = .ok (.iaload, 1) := by decide +kernel
theorem dL_law_819 : decode cL_law 819 = .ok (.invokevirtual 96, 3) := by decide +kernel
theorem dL_law_822 : decode cL_law 822 = .ok (.if_icmp .eq 377, 3) := by decide +kernel
theorem dL_law_825 : decode cL_law 825 = .ok (.iconst 0, 1) := by decide +kernel
theorem dL_law_826 : decode cL_law 826 = .ok (.ireturn, 1) := by decide +kernel
theorem dL_law_827 : decode cL_law 827 = .ok (.aload_n 1, 1) := by decide +kernel
theorem dL_law_828 : decode cL_law 828 = .ok (.aload_n 0, 1) := by decide +kernel
theorem dL_law_829 : decode cL_law 829 = .ok (.iload 4, 2) := by decide +kernel
theorem dL_law_831 : decode cL_law 831 = .ok (.iconst 1, 1) := by decide +kernel
theorem dL_law_832 : decode cL_law 832 = .ok (.iadd, 1) := by decide +kernel
theorem dL_law_833 : decode cL_law 833 = .ok (.iaload, 1) := by decide +kernel
theorem dL_law_834 : decode cL_law 834 = .ok (.invokevirtual 97, 3) := by decide +kernel
theorem dL_law_837 : decode cL_law 837 = .ok (.aload_n 2, 1) := by decide +kernel
theorem dL_law_838 : decode cL_law 838 = .ok (.aload_n 0, 1) := by decide +kernel
theorem dL_law_839 : decode cL_law 839 = .ok (.iload 4, 2) := by decide +kernel
theorem dL_law_841 : decode cL_law 841 = .ok (.iconst 1, 1) := by decide +kernel
theorem dL_law_842 : decode cL_law 842 = .ok (.iadd, 1) := by decide +kernel
theorem dL_law_843 : decode cL_law 843 = .ok (.iaload, 1) := by decide +kernel
theorem dL_law_844 : decode cL_law 844 = .ok (.invokevirtual 100, 3) := by decide +kernel
theorem dL_law_847 : decode cL_law 847 = .ok (.if_icmp .eq 352, 3) := by decide +kernel
theorem dL_law_850 : decode cL_law 850 = .ok (.iconst 0, 1) := by decide +kernel
theorem dL_law_851 : decode cL_law 851 = .ok (.ireturn, 1) := by decide +kernel
theorem dL_law_852 : decode cL_law 852 = .ok (.aload_n 1, 1) := by decide +kernel
theorem dL_law_853 : decode cL_law 853 = .ok (.invokevirtual 101, 3) := by decide +kernel
theorem dL_law_856 : decode cL_law 856 = .ok (.aload_n 2, 1) := by decide +kernel
theorem dL_law_857 : decode cL_law 857 = .ok (.invokevirtual 104, 3) := by decide +kernel
theorem dL_law_860 : decode cL_law 860 = .ok (.if_icmp .eq 339, 3) := by decide +kernel
theorem dL_law_863 : decode cL_law 863 = .ok (.iconst 0, 1) := by decide +kernel
theorem dL_law_864 : decode cL_law 864 = .ok (.ireturn, 1) := by decide +kernel
theorem dL_law_865 : decode cL_law 865 = .ok (.aload_n 1, 1) := by decide +kernel
theorem dL_law_866 : decode cL_law 866 = .ok (.aload_n 0, 1) := by decide +kernel
theorem dL_law_867 : decode cL_law 867 = .ok (.iload 4, 2) := by decide +kernel
theorem dL_law_869 : decode cL_law 869 = .ok (.iconst 1, 1) := by decide +kernel
theorem dL_law_870 : decode cL_law 870 = .ok (.iadd, 1) := by decide +kernel
theorem dL_law_871 : decode cL_law 871 = .ok (.iaload, 1) := by decide +kernel
theorem dL_law_872 : decode cL_law 872 = .ok (.aload_n 0, 1) := by decide +kernel
theorem dL_law_873 : decode cL_law 873 = .ok (.iload 4, 2) := by decide +kernel
theorem dL_law_875 : decode cL_law 875 = .ok (.iconst 2, 1) := by decide +kernel
theorem dL_law_876 : decode cL_law 876 = .ok (.iadd, 1) := by decide +kernel
theorem dL_law_877 : decode cL_law 877 = .ok (.iaload, 1) := by decide +kernel
theorem dL_law_878 : decode cL_law 878 = .ok (.invokevirtual 105, 3) := by decide +kernel
theorem dL_law_881 : decode cL_law 881 = .ok (.aload_n 2, 1) := by decide +kernel
theorem dL_law_882 : decode cL_law 882 = .ok (.aload_n 0, 1) := by decide +kernel
theorem dL_law_883 : decode cL_law 883 = .ok (.iload 4, 2) := by decide +kernel
theorem dL_law_885 : decode cL_law 885 = .ok (.iconst 1, 1) := by decide +kernel
theorem dL_law_886 : decode cL_law 886 = .ok (.iadd, 1) := by decide +kernel
theorem dL_law_887 : decode cL_law 887 = .ok (.iaload, 1) := by decide +kernel
theorem dL_law_888 : decode cL_law 888 = .ok (.aload_n 0, 1) := by decide +kernel
theorem dL_law_889 : decode cL_law 889 = .ok (.iload 4, 2) := by decide +kernel
theorem dL_law_891 : decode cL_law 891 = .ok (.iconst 2, 1) := by decide +kernel
theorem dL_law_892 : decode cL_law 892 = .ok (.iadd, 1) := by decide +kernel
theorem dL_law_893 : decode cL_law 893 = .ok (.iaload, 1) := by decide +kernel
theorem dL_law_894 : decode cL_law 894 = .ok (.invokevirtual 108, 3) := by decide +kernel
theorem dL_law_897 : decode cL_law 897 = .ok (.if_icmp .eq 302, 3) := by decide +kernel
theorem dL_law_900 : decode cL_law 900 = .ok (.iconst 0, 1) := by decide +kernel
theorem dL_law_901 : decode cL_law 901 = .ok (.ireturn, 1) := by decide +kernel
theorem dL_law_902 : decode cL_law 902 = .ok (.aload_n 1, 1) := by decide +kernel
theorem dL_law_903 : decode cL_law 903 = .ok (.aload_n 0, 1) := by decide +kernel
theorem dL_law_904 : decode cL_law 904 = .ok (.iload 4, 2) := by decide +kernel
theorem dL_law_906 : decode cL_law 906 = .ok (.iconst 1, 1) := by decide +kernel
theorem dL_law_907 : decode cL_law 907 = .ok (.iadd, 1) := by decide +kernel
theorem dL_law_908 : decode cL_law 908 = .ok (.iaload, 1) := by decide +kernel
theorem dL_law_909 : decode cL_law 909 = .ok (.aload_n 0, 1) := by decide +kernel
theorem dL_law_910 : decode cL_law 910 = .ok (.iload 4, 2) := by decide +kernel
theorem dL_law_912 : decode cL_law 912 = .ok (.iconst 2, 1) := by decide +kernel
theorem dL_law_913 : decode cL_law 913 = .ok (.iadd, 1) := by decide +kernel
theorem dL_law_914 : decode cL_law 914 = .ok (.iaload, 1) := by decide +kernel
theorem dL_law_915 : decode cL_law 915 = .ok (.aload_n 0, 1) := by decide +kernel
theorem dL_law_916 : decode cL_law 916 = .ok (.iload 4, 2) := by decide +kernel
theorem dL_law_918 : decode cL_law 918 = .ok (.iconst 3, 1) := by decide +kernel
theorem dL_law_919 : decode cL_law 919 = .ok (.iadd, 1) := by decide +kernel
theorem dL_law_920 : decode cL_law 920 = .ok (.iaload, 1) := by decide +kernel
theorem dL_law_921 : decode cL_law 921 = .ok (.invokevirtual 109, 3) := by decide +kernel
theorem dL_law_924 : decode cL_law 924 = .ok (.aload_n 2, 1) := by decide +kernel
theorem dL_law_925 : decode cL_law 925 = .ok (.aload_n 0, 1) := by decide +kernel
theorem dL_law_926 : decode cL_law 926 = .ok (.iload 4, 2) := by decide +kernel
theorem dL_law_928 : decode cL_law 928 = .ok (.iconst 1, 1) := by decide +kernel
theorem dL_law_929 : decode cL_law 929 = .ok (.iadd, 1) := by decide +kernel
theorem dL_law_930 : decode cL_law 930 = .ok (.iaload, 1) := by decide +kernel
theorem dL_law_931 : decode cL_law 931 = .ok (.aload_n 0, 1) := by decide +kernel
theorem dL_law_932 : decode cL_law 932 = .ok (.iload 4, 2) := by decide +kernel
theorem dL_law_934 : decode cL_law 934 = .ok (.iconst 2, 1) := by decide +kernel
theorem dL_law_935 : decode cL_law 935 = .ok (.iadd, 1) := by decide +kernel
theorem dL_law_936 : decode cL_law 936 = .ok (.iaload, 1) := by decide +kernel
theorem dL_law_937 : decode cL_law 937 = .ok (.aload_n 0, 1) := by decide +kernel
theorem dL_law_938 : decode cL_law 938 = .ok (.iload 4, 2) := by decide +kernel
theorem dL_law_940 : decode cL_law 940 = .ok (.iconst 3, 1) := by decide +kernel
theorem dL_law_941 : decode cL_law 941 = .ok (.iadd, 1) := by decide +kernel
theorem dL_law_942 : decode cL_law 942 = .ok (.iaload, 1) := by decide +kernel
theorem dL_law_943 : decode cL_law 943 = .ok (.invokevirtual 113, 3) := by decide +kernel
theorem dL_law_946 : decode cL_law 946 = .ok (.if_icmp .eq 253, 3) := by decide +kernel
theorem dL_law_949 : decode cL_law 949 = .ok (.iconst 0, 1) := by decide +kernel
theorem dL_law_950 : decode cL_law 950 = .ok (.ireturn, 1) := by decide +kernel
theorem dL_law_951 : decode cL_law 951 = .ok (.aload_n 1, 1) := by decide +kernel
theorem dL_law_952 : decode cL_law 952 = .ok (.aload_n 0, 1) := by decide +kernel
theorem dL_law_953 : decode cL_law 953 = .ok (.iload 4, 2) := by decide +kernel
theorem dL_law_955 : decode cL_law 955 = .ok (.iconst 1, 1) := by decide +kernel
theorem dL_law_956 : decode cL_law 956 = .ok (.iadd, 1) := by decide +kernel
theorem dL_law_957 : decode cL_law 957 = .ok (.iaload, 1) := by decide +kernel
theorem dL_law_958 : decode cL_law 958 = .ok (.invokevirtual 114, 3) := by decide +kernel
theorem dL_law_961 : decode cL_law 961 = .ok (.aload_n 2, 1) := by decide +kernel
theorem dL_law_962 : decode cL_law 962 = .ok (.aload_n 0, 1) := by decide +kernel
theorem dL_law_963 : decode cL_law 963 = .ok (.iload 4, 2) := by decide +kernel
theorem dL_law_965 : decode cL_law 965 = .ok (.iconst 1, 1) := by decide +kernel
theorem dL_law_966 : decode cL_law 966 = .ok (.iadd, 1) := by decide +kernel
theorem dL_law_967 : decode cL_law 967 = .ok (.iaload, 1) := by decide +kernel
theorem dL_law_968 : decode cL_law 968 = .ok (.invokevirtual 117, 3) := by decide +kernel
theorem dL_law_971 : decode cL_law 971 = .ok (.if_icmp .eq 228, 3) := by decide +kernel
theorem dL_law_974 : decode cL_law 974 = .ok (.iconst 0, 1) := by decide +kernel
theorem dL_law_975 : decode cL_law 975 = .ok (.ireturn, 1) := by decide +kernel
theorem dL_law_976 : decode cL_law 976 = .ok (.aload_n 1, 1) := by decide +kernel
theorem dL_law_977 : decode cL_law 977 = .ok (.aload_n 0, 1) := by decide +kernel
theorem dL_law_978 : decode cL_law 978 = .ok (.iload 4, 2) := by decide +kernel
theorem dL_law_980 : decode cL_law 980 = .ok (.iconst 1, 1) := by decide +kernel
theorem dL_law_981 : decode cL_law 981 = .ok (.iadd, 1) := by decide +kernel
theorem dL_law_982 : decode cL_law 982 = .ok (.iaload, 1) := by decide +kernel
theorem dL_law_983 : decode cL_law 983 = .ok (.aload_n 0, 1) := by decide +kernel
theorem dL_law_984 : decode cL_law 984 = .ok (.iload 4, 2) := by decide +kernel
theorem dL_law_986 : decode cL_law 986 = .ok (.iconst 2, 1) := by decide +kernel
theorem dL_law_987 : decode cL_law 987 = .ok (.iadd, 1) := by decide +kernel
theorem dL_law_988 : decode cL_law 988 = .ok (.iaload, 1) := by decide +kernel
theorem dL_law_989 : decode cL_law 989 = .ok (.invokevirtual 118, 3) := by decide +kernel
theorem dL_law_992 : decode cL_law 992 = .ok (.aload_n 2, 1) := by decide +kernel
theorem dL_law_993 : decode cL_law 993 = .ok (.aload_n 0, 1) := by decide +kernel
theorem dL_law_994 : decode cL_law 994 = .ok (.iload 4, 2) := by decide +kernel
theorem dL_law_996 : decode cL_law 996 = .ok (.iconst 1, 1) := by decide +kernel
theorem dL_law_997 : decode cL_law 997 = .ok (.iadd, 1) := by decide +kernel
theorem dL_law_998 : decode cL_law 998 = .ok (.iaload, 1) := by decide +kernel
theorem dL_law_999 : decode cL_law 999 = .ok (.aload_n 0, 1) := by decide +kernel
theorem dL_law_1000 : decode cL_law 1000 = .ok (.iload 4, 2) := by decide +kernel
theorem dL_law_1002 : decode cL_law 1002 = .ok (.iconst 2, 1) := by decide +kernel
theorem dL_law_1003 : decode cL_law 1003 = .ok (.iadd, 1) := by decide +kernel
theorem dL_law_1004 : decode cL_law 1004 = .ok (.iaload, 1) := by decide +kernel
theorem dL_law_1005 : decode cL_law 1005 = .ok (.invokevirtual 121, 3) := by decide +kernel
theorem dL_law_1008 : decode cL_law 1008 = .ok (.if_icmp .eq 191, 3) := by decide +kernel
theorem dL_law_1011 : decode cL_law 1011 = .ok (.iconst 0, 1) := by decide +kernel
theorem dL_law_1012 : decode cL_law 1012 = .ok (.ireturn, 1) := by decide +kernel
theorem dL_law_1013 : decode cL_law 1013 = .ok (.aload_n 1, 1) := by decide +kernel
theorem dL_law_1014 : decode cL_law 1014 = .ok (.aload_n 0, 1) := by decide +kernel
theorem dL_law_1015 : decode cL_law 1015 = .ok (.iload 4, 2) := by decide +kernel
theorem dL_law_1017 : decode cL_law 1017 = .ok (.iconst 1, 1) := by decide +kernel
theorem dL_law_1018 : decode cL_law 1018 = .ok (.iadd, 1) := by decide +kernel
theorem dL_law_1019 : decode cL_law 1019 = .ok (.iaload, 1) := by decide +kernel
theorem dL_law_1020 : decode cL_law 1020 = .ok (.aload_n 0, 1) := by decide +kernel
theorem dL_law_1021 : decode cL_law 1021 = .ok (.iload 4, 2) := by decide +kernel
theorem dL_law_1023 : decode cL_law 1023 = .ok (.iconst 2, 1) := by decide +kernel
theorem dL_law_1024 : decode cL_law 1024 = .ok (.iadd, 1) := by decide +kernel
theorem dL_law_1025 : decode cL_law 1025 = .ok (.iaload, 1) := by decide +kernel
theorem dL_law_1026 : decode cL_law 1026 = .ok (.invokevirtual 122, 3) := by decide +kernel
theorem dL_law_1029 : decode cL_law 1029 = .ok (.aload_n 2, 1) := by decide +kernel
theorem dL_law_1030 : decode cL_law 1030 = .ok (.aload_n 0, 1) := by decide +kernel
theorem dL_law_1031 : decode cL_law 1031 = .ok (.iload 4, 2) := by decide +kernel
theorem dL_law_1033 : decode cL_law 1033 = .ok (.iconst 1, 1) := by decide +kernel
theorem dL_law_1034 : decode cL_law 1034 = .ok (.iadd, 1) := by decide +kernel
theorem dL_law_1035 : decode cL_law 1035 = .ok (.iaload, 1) := by decide +kernel
theorem dL_law_1036 : decode cL_law 1036 = .ok (.aload_n 0, 1) := by decide +kernel
theorem dL_law_1037 : decode cL_law 1037 = .ok (.iload 4, 2) := by decide +kernel
theorem dL_law_1039 : decode cL_law 1039 = .ok (.iconst 2, 1) := by decide +kernel
theorem dL_law_1040 : decode cL_law 1040 = .ok (.iadd, 1) := by decide +kernel
theorem dL_law_1041 : decode cL_law 1041 = .ok (.iaload, 1) := by decide +kernel
theorem dL_law_1042 : decode cL_law 1042 = .ok (.invokevirtual 125, 3) := by decide +kernel
theorem dL_law_1045 : decode cL_law 1045 = .ok (.if_icmp .eq 154, 3) := by decide +kernel
theorem dL_law_1048 : decode cL_law 1048 = .ok (.iconst 0, 1) := by decide +kernel
theorem dL_law_1049 : decode cL_law 1049 = .ok (.ireturn, 1) := by decide +kernel
theorem dL_law_1050 : decode cL_law 1050 = .ok (.aload_n 1, 1) := by decide +kernel
theorem dL_law_1051 : decode cL_law 1051 = .ok (.aload_n 0, 1) := by decide +kernel
theorem dL_law_1052 : decode cL_law 1052 = .ok (.iload 4, 2) := by decide +kernel
theorem dL_law_1054 : decode cL_law 1054 = .ok (.iconst 1, 1) := by decide +kernel
theorem dL_law_1055 : decode cL_law 1055 = .ok (.iadd, 1) := by decide +kernel
theorem dL_law_1056 : decode cL_law 1056 = .ok (.iaload, 1) := by decide +kernel
theorem dL_law_1057 : decode cL_law 1057 = .ok (.aload_n 0, 1) := by decide +kernel
theorem dL_law_1058 : decode cL_law 1058 = .ok (.iload 4, 2) := by decide +kernel
theorem dL_law_1060 : decode cL_law 1060 = .ok (.iconst 2, 1) := by decide +kernel
theorem dL_law_1061 : decode cL_law 1061 = .ok (.iadd, 1) := by decide +kernel
theorem dL_law_1062 : decode cL_law 1062 = .ok (.iaload, 1) := by decide +kernel
theorem dL_law_1063 : decode cL_law 1063 = .ok (.invokevirtual 126, 3) := by decide +kernel
theorem dL_law_1066 : decode cL_law 1066 = .ok (.aload_n 2, 1) := by decide +kernel
theorem dL_law_1067 : decode cL_law 1067 = .ok (.aload_n 0, 1) := by decide +kernel
theorem dL_law_1068 : decode cL_law 1068 = .ok (.iload 4, 2) := by decide +kernel
theorem dL_law_1070 : decode cL_law 1070 = .ok (.iconst 1, 1) := by decide +kernel
theorem dL_law_1071 : decode cL_law 1071 = .ok (.iadd, 1) := by decide +kernel
theorem dL_law_1072 : decode cL_law 1072 = .ok (.iaload, 1) := by decide +kernel
theorem dL_law_1073 : decode cL_law 1073 = .ok (.aload_n 0, 1) := by decide +kernel
theorem dL_law_1074 : decode cL_law 1074 = .ok (.iload 4, 2) := by decide +kernel
theorem dL_law_1076 : decode cL_law 1076 = .ok (.iconst 2, 1) := by decide +kernel
theorem dL_law_1077 : decode cL_law 1077 = .ok (.iadd, 1) := by decide +kernel
theorem dL_law_1078 : decode cL_law 1078 = .ok (.iaload, 1) := by decide +kernel
theorem dL_law_1079 : decode cL_law 1079 = .ok (.invokevirtual 129, 3) := by decide +kernel
theorem dL_law_1082 : decode cL_law 1082 = .ok (.if_icmp .eq 117, 3) := by decide +kernel
theorem dL_law_1085 : decode cL_law 1085 = .ok (.iconst 0, 1) := by decide +kernel
theorem dL_law_1086 : decode cL_law 1086 = .ok (.ireturn, 1) := by decide +kernel
theorem dL_law_1087 : decode cL_law 1087 = .ok (.aload_n 1, 1) := by decide +kernel
theorem dL_law_1088 : decode cL_law 1088 = .ok (.aload_n 0, 1) := by decide +kernel
theorem dL_law_1089 : decode cL_law 1089 = .ok (.iload 4, 2) := by decide +kernel
theorem dL_law_1091 : decode cL_law 1091 = .ok (.iconst 1, 1) := by decide +kernel
theorem dL_law_1092 : decode cL_law 1092 = .ok (.iadd, 1) := by decide +kernel
theorem dL_law_1093 : decode cL_law 1093 = .ok (.iaload, 1) := by decide +kernel
theorem dL_law_1094 : decode cL_law 1094 = .ok (.invokevirtual 130, 3) := by decide +kernel
theorem dL_law_1097 : decode cL_law 1097 = .ok (.aload_n 2, 1) := by decide +kernel
theorem dL_law_1098 : decode cL_law 1098 = .ok (.aload_n 0, 1) := by decide +kernel
theorem dL_law_1099 : decode cL_law 1099 = .ok (.iload 4, 2) := by decide +kernel
theorem dL_law_1101 : decode cL_law 1101 = .ok (.iconst 1, 1) := by decide +kernel
theorem dL_law_1102 : decode cL_law 1102 = .ok (.iadd, 1) := by decide +kernel
theorem dL_law_1103 : decode cL_law 1103 = .ok (.iaload, 1) := by decide +kernel
theorem dL_law_1104 : decode cL_law 1104 = .ok (.invokevirtual 133, 3) := by decide +kernel
theorem dL_law_1107 : decode cL_law 1107 = .ok (.if_icmp .eq 92, 3) := by decide +kernel
theorem dL_law_1110 : decode cL_law 1110 = .ok (.iconst 0, 1) := by decide +kernel
theorem dL_law_1111 : decode cL_law 1111 = .ok (.ireturn, 1) := by decide +kernel
theorem dL_law_1112 : decode cL_law 1112 = .ok (.aload_n 1, 1) := by decide +kernel
theorem dL_law_1113 : decode cL_law 1113 = .ok (.aload_n 0, 1) := by decide +kernel
theorem dL_law_1114 : decode cL_law 1114 = .ok (.iload 4, 2) := by decide +kernel
theorem dL_law_1116 : decode cL_law 1116 = .ok (.iconst 1, 1) := by decide +kernel
theorem dL_law_1117 : decode cL_law 1117 = .ok (.iadd, 1) := by decide +kernel
theorem dL_law_1118 : decode cL_law 1118 = .ok (.iaload, 1) := by decide +kernel
theorem dL_law_1119 : decode cL_law 1119 = .ok (.aload_n 0, 1) := by decide +kernel
theorem dL_law_1120 : decode cL_law 1120 = .ok (.iload 4, 2) := by decide +kernel
theorem dL_law_1122 : decode cL_law 1122 = .ok (.iconst 2, 1) := by decide +kernel
theorem dL_law_1123 : decode cL_law 1123 = .ok (.iadd, 1) := by decide +kernel
theorem dL_law_1124 : decode cL_law 1124 = .ok (.iaload, 1) := by decide +kernel
theorem dL_law_1125 : decode cL_law 1125 = .ok (.aload_n 0, 1) := by decide +kernel
theorem dL_law_1126 : decode cL_law 1126 = .ok (.iload 4, 2) := by decide +kernel
theorem dL_law_1128 : decode cL_law 1128 = .ok (.iconst 3, 1) := by decide +kernel
theorem dL_law_1129 : decode cL_law 1129 = .ok (.iadd, 1) := by decide +kernel
theorem dL_law_1130 : decode cL_law 1130 = .ok (.iaload, 1) := by decide +kernel
theorem dL_law_1131 : decode cL_law 1131 = .ok (.aload_n 0, 1) := by decide +kernel
theorem dL_law_1132 : decode cL_law 1132 = .ok (.iload 4, 2) := by decide +kernel
theorem dL_law_1134 : decode cL_law 1134 = .ok (.iconst 4, 1) := by decide +kernel
theorem dL_law_1135 : decode cL_law 1135 = .ok (.iadd, 1) := by decide +kernel
theorem dL_law_1136 : decode cL_law 1136 = .ok (.iaload, 1) := by decide +kernel
theorem dL_law_1137 : decode cL_law 1137 = .ok (.aload_n 0, 1) := by decide +kernel
theorem dL_law_1138 : decode cL_law 1138 = .ok (.iload 4, 2) := by decide +kernel
theorem dL_law_1140 : decode cL_law 1140 = .ok (.iconst 5, 1) := by decide +kernel
theorem dL_law_1141 : decode cL_law 1141 = .ok (.iadd, 1) := by decide +kernel
theorem dL_law_1142 : decode cL_law 1142 = .ok (.iaload, 1) := by decide +kernel
theorem dL_law_1143 : decode cL_law 1143 = .ok (.aload_n 0, 1) := by decide +kernel
theorem dL_law_1144 : decode cL_law 1144 = .ok (.iload 4, 2) := by decide +kernel
theorem dL_law_1146 : decode cL_law 1146 = .ok (.bipush 6, 2) := by decide +kernel
theorem dL_law_1148 : decode cL_law 1148 = .ok (.iadd, 1) := by decide +kernel
theorem dL_law_1149 : decode cL_law 1149 = .ok (.iaload, 1) := by decide +kernel
theorem dL_law_1150 : decode cL_law 1150 = .ok (.invokevirtual 134, 3) := by decide +kernel
theorem dL_law_1153 : decode cL_law 1153 = .ok (.aload_n 2, 1) := by decide +kernel
theorem dL_law_1154 : decode cL_law 1154 = .ok (.aload_n 0, 1) := by decide +kernel
theorem dL_law_1155 : decode cL_law 1155 = .ok (.iload 4, 2) := by decide +kernel
theorem dL_law_1157 : decode cL_law 1157 = .ok (.iconst 1, 1) := by decide +kernel
theorem dL_law_1158 : decode cL_law 1158 = .ok (.iadd, 1) := by decide +kernel
theorem dL_law_1159 : decode cL_law 1159 = .ok (.iaload, 1) := by decide +kernel
theorem dL_law_1160 : decode cL_law 1160 = .ok (.aload_n 0, 1) := by decide +kernel
theorem dL_law_1161 : decode cL_law 1161 = .ok (.iload 4, 2) := by decide +kernel
theorem dL_law_1163 : decode cL_law 1163 = .ok (.iconst 2, 1) := by decide +kernel
theorem dL_law_1164 : decode cL_law 1164 = .ok (.iadd, 1) := by decide +kernel
theorem dL_law_1165 : decode cL_law 1165 = .ok (.iaload, 1) := by decide +kernel
theorem dL_law_1166 : decode cL_law 1166 = .ok (.aload_n 0, 1) := by decide +kernel
theorem dL_law_1167 : decode cL_law 1167 = .ok (.iload 4, 2) := by decide +kernel
theorem dL_law_1169 : decode cL_law 1169 = .ok (.iconst 3, 1) := by decide +kernel
theorem dL_law_1170 : decode cL_law 1170 = .ok (.iadd, 1) := by decide +kernel
theorem dL_law_1171 : decode cL_law 1171 = .ok (.iaload, 1) := by decide +kernel
theorem dL_law_1172 : decode cL_law 1172 = .ok (.aload_n 0, 1) := by decide +kernel
theorem dL_law_1173 : decode cL_law 1173 = .ok (.iload 4, 2) := by decide +kernel
theorem dL_law_1175 : decode cL_law 1175 = .ok (.iconst 4, 1) := by decide +kernel
theorem dL_law_1176 : decode cL_law 1176 = .ok (.iadd, 1) := by decide +kernel
theorem dL_law_1177 : decode cL_law 1177 = .ok (.iaload, 1) := by decide +kernel
theorem dL_law_1178 : decode cL_law 1178 = .ok (.aload_n 0, 1) := by decide +kernel
theorem dL_law_1179 : decode cL_law 1179 = .ok (.iload 4, 2) := by decide +kernel
theorem dL_law_1181 : decode cL_law 1181 = .ok (.iconst 5, 1) := by decide +kernel
theorem dL_law_1182 : decode cL_law 1182 = .ok (.iadd, 1) := by decide +kernel
theorem dL_law_1183 : decode cL_law 1183 = .ok (.iaload, 1) := by decide +kernel
theorem dL_law_1184 : decode cL_law 1184 = .ok (.aload_n 0, 1) := by decide +kernel
theorem dL_law_1185 : decode cL_law 1185 = .ok (.iload 4, 2) := by decide +kernel
theorem dL_law_1187 : decode cL_law 1187 = .ok (.bipush 6, 2) := by decide +kernel
theorem dL_law_1189 : decode cL_law 1189 = .ok (.iadd, 1) := by decide +kernel
theorem dL_law_1190 : decode cL_law 1190 = .ok (.iaload, 1) := by decide +kernel
theorem dL_law_1191 : decode cL_law 1191 = .ok (.invokevirtual 137, 3) := by decide +kernel
theorem dL_law_1194 : decode cL_law 1194 = .ok (.if_icmp .eq 5, 3) := by decide +kernel
theorem dL_law_1197 : decode cL_law 1197 = .ok (.iconst 0, 1) := by decide +kernel
theorem dL_law_1198 : decode cL_law 1198 = .ok (.ireturn, 1) := by decide +kernel
theorem dL_law_1199 : decode cL_law 1199 = .ok (.iinc 4 7, 3) := by decide +kernel
theorem dL_law_1202 : decode cL_law 1202 = .ok (.goto (-1179), 3) := by decide +kernel
theorem dL_law_1205 : decode cL_law 1205 = .ok (.iconst 1, 1) := by decide +kernel
theorem dL_law_1206 : decode cL_law 1206 = .ok (.ireturn, 1) := by decide +kernel
