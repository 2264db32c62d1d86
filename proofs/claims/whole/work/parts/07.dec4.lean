theorem dX10_book_168 : decode cX10_book 168 = .ok (.aload_n 0, 1) := by decide +kernel
theorem dX10_book_169 : decode cX10_book 169 = .ok (.iload_n 2, 1) := by decide +kernel
theorem dX10_book_170 : decode cX10_book 170 = .ok (.invokevirtual 234, 3) := by decide +kernel
theorem dX10_book_173 : decode cX10_book 173 = .ok (.istore_n 3, 1) := by decide +kernel
theorem dX10_book_174 : decode cX10_book 174 = .ok (.aload_n 0, 1) := by decide +kernel
theorem dX10_book_175 : decode cX10_book 175 = .ok (.getfield 108, 3) := by decide +kernel
theorem dX10_book_178 : decode cX10_book 178 = .ok (.iconst (-1), 1) := by decide +kernel
theorem dX10_book_179 : decode cX10_book 179 = .ok (.if_icmp .eq 5, 3) := by decide +kernel
theorem dX10_book_182 : decode cX10_book 182 = .ok (.iload_n 3, 1) := by decide +kernel
theorem dX10_book_183 : decode cX10_book 183 = .ok (.ireturn, 1) := by decide +kernel
theorem dX10_book_184 : decode cX10_book 184 = .ok (.aload_n 0, 1) := by decide +kernel
theorem dX10_book_185 : decode cX10_book 185 = .ok (.iload_n 2, 1) := by decide +kernel
theorem dX10_book_186 : decode cX10_book 186 = .ok (.putfield 176, 3) := by decide +kernel
theorem dX10_book_189 : decode cX10_book 189 = .ok (.aload_n 0, 1) := by decide +kernel
theorem dX10_book_190 : decode cX10_book 190 = .ok (.aload_n 0, 1) := by decide +kernel
theorem dX10_book_191 : decode cX10_book 191 = .ok (.getfield 74, 3) := by decide +kernel
theorem dX10_book_194 : decode cX10_book 194 = .ok (.aload_n 0, 1) := by decide +kernel
theorem dX10_book_195 : decode cX10_book 195 = .ok (.getfield 77, 3) := by decide +kernel
theorem dX10_book_198 : decode cX10_book 198 = .ok (.bipush 6, 2) := by decide +kernel
theorem dX10_book_200 : decode cX10_book 200 = .ok (.invokevirtual 169, 3) := by decide +kernel
theorem dX10_book_203 : decode cX10_book 203 = .ok (.iload_n 3, 1) := by decide +kernel
theorem dX10_book_204 : decode cX10_book 204 = .ok (.ireturn, 1) := by decide +kernel
theorem dX10_undo_0 : decode cX10_undo 0 = .ok (.aload_n 0, 1) := by decide +kernel
theorem dX10_undo_1 : decode cX10_undo 1 = .ok (.iconst 0, 1) := by decide +kernel
theorem dX10_undo_2 : decode cX10_undo 2 = .ok (.putfield 3, 3) := by decide +kernel
theorem dX10_undo_5 : decode cX10_undo 5 = .ok (.aload_n 0, 1) := by decide +kernel
theorem dX10_undo_6 : decode cX10_undo 6 = .ok (.getfield 179, 3) := by decide +kernel
theorem dX10_undo_9 : decode cX10_undo 9 = .ok (.ifCond .ne 5, 3) := by decide +kernel
theorem dX10_undo_12 : decode cX10_undo 12 = .ok (.iconst (-1), 1) := by decide +kernel
theorem dX10_undo_13 : decode cX10_undo 13 = .ok (.ireturn, 1) := by decide +kernel
theorem dX10_undo_14 : decode cX10_undo 14 = .ok (.aload_n 0, 1) := by decide +kernel
theorem dX10_undo_15 : decode cX10_undo 15 = .ok (.dup, 1) := by decide +kernel
theorem dX10_undo_16 : decode cX10_undo 16 = .ok (.getfield 179, 3) := by decide +kernel
theorem dX10_undo_19 : decode cX10_undo 19 = .ok (.iconst 1, 1) := by decide +kernel
theorem dX10_undo_20 : decode cX10_undo 20 = .ok (.isub, 1) := by decide +kernel
theorem dX10_undo_21 : decode cX10_undo 21 = .ok (.putfield 179, 3) := by decide +kernel
theorem dX10_undo_24 : decode cX10_undo 24 = .ok (.iconst 0, 1) := by decide +kernel
theorem dX10_undo_25 : decode cX10_undo 25 = .ok (.istore_n 1, 1) := by decide +kernel
theorem dX10_undo_26 : decode cX10_undo 26 = .ok (.iload_n 1, 1) := by decide +kernel
theorem dX10_undo_27 : decode cX10_undo 27 = .ok (.sipush 165, 3) := by decide +kernel
theorem dX10_undo_30 : decode cX10_undo 30 = .ok (.if_icmp .ge 30, 3) := by decide +kernel
theorem dX10_undo_33 : decode cX10_undo 33 = .ok (.aload_n 0, 1) := by decide +kernel
theorem dX10_undo_34 : decode cX10_undo 34 = .ok (.getfield 65, 3) := by decide +kernel
theorem dX10_undo_37 : decode cX10_undo 37 = .ok (.iload_n 1, 1) := by decide +kernel
theorem dX10_undo_38 : decode cX10_undo 38 = .ok (.aload_n 0, 1) := by decide +kernel
theorem dX10_undo_39 : decode cX10_undo 39 = .ok (.getfield 71, 3) := by decide +kernel
theorem dX10_undo_42 : decode cX10_undo 42 = .ok (.sipush 165, 3) := by decide +kernel
theorem dX10_undo_45 : decode cX10_undo 45 = .ok (.aload_n 0, 1) := by decide +kernel
theorem dX10_undo_46 : decode cX10_undo 46 = .ok (.getfield 179, 3) := by decide +kernel
theorem dX10_undo_49 : decode cX10_undo 49 = .ok (.imul, 1) := by decide +kernel
theorem dX10_undo_50 : decode cX10_undo 50 = .ok (.iload_n 1, 1) := by decide +kernel
theorem dX10_undo_51 : decode cX10_undo 51 = .ok (.iadd, 1) := by decide +kernel
theorem dX10_undo_52 : decode cX10_undo 52 = .ok (.iaload, 1) := by decide +kernel
theorem dX10_undo_53 : decode cX10_undo 53 = .ok (.iastore, 1) := by decide +kernel
theorem dX10_undo_54 : decode cX10_undo 54 = .ok (.iinc 1 1, 3) := by decide +kernel
theorem dX10_undo_57 : decode cX10_undo 57 = .ok (.goto (-31), 3) := by decide +kernel
theorem dX10_undo_60 : decode cX10_undo 60 = .ok (.aload_n 0, 1) := by decide +kernel
theorem dX10_undo_61 : decode cX10_undo 61 = .ok (.iconst 0, 1) := by decide +kernel
theorem dX10_undo_62 : decode cX10_undo 62 = .ok (.putfield 185, 3) := by decide +kernel
theorem dX10_undo_65 : decode cX10_undo 65 = .ok (.aload_n 0, 1) := by decide +kernel
theorem dX10_undo_66 : decode cX10_undo 66 = .ok (.getfield 179, 3) := by decide +kernel
theorem dX10_undo_69 : decode cX10_undo 69 = .ok (.ireturn, 1) := by decide +kernel
theorem dX10_sumOf_0 : decode cX10_sumOf 0 = .ok (.iconst 0, 1) := by decide +kernel
theorem dX10_sumOf_1 : decode cX10_sumOf 1 = .ok (.istore_n 3, 1) := by decide +kernel
theorem dX10_sumOf_2 : decode cX10_sumOf 2 = .ok (.iconst 0, 1) := by decide +kernel
theorem dX10_sumOf_3 : decode cX10_sumOf 3 = .ok (.istore 4, 2) := by decide +kernel
theorem dX10_sumOf_5 : decode cX10_sumOf 5 = .ok (.iload 4, 2) := by decide +kernel
theorem dX10_sumOf_7 : decode cX10_sumOf 7 = .ok (.iload_n 2, 1) := by decide +kernel
theorem dX10_sumOf_8 : decode cX10_sumOf 8 = .ok (.if_icmp .ge 21, 3) := by decide +kernel
theorem dX10_sumOf_11 : decode cX10_sumOf 11 = .ok (.iload_n 3, 1) := by decide +kernel
theorem dX10_sumOf_12 : decode cX10_sumOf 12 = .ok (.aload_n 0, 1) := by decide +kernel
theorem dX10_sumOf_13 : decode cX10_sumOf 13 = .ok (.getfield 68, 3) := by decide +kernel
theorem dX10_sumOf_16 : decode cX10_sumOf 16 = .ok (.iload_n 1, 1) := by decide +kernel
theorem dX10_sumOf_17 : decode cX10_sumOf 17 = .ok (.iload 4, 2) := by decide +kernel
theorem dX10_sumOf_19 : decode cX10_sumOf 19 = .ok (.iadd, 1) := by decide +kernel
theorem dX10_sumOf_20 : decode cX10_sumOf 20 = .ok (.iaload, 1) := by decide +kernel
theorem dX10_sumOf_21 : decode cX10_sumOf 21 = .ok (.iadd, 1) := by decide +kernel
theorem dX10_sumOf_22 : decode cX10_sumOf 22 = .ok (.istore_n 3, 1) := by decide +kernel
theorem dX10_sumOf_23 : decode cX10_sumOf 23 = .ok (.iinc 4 1, 3) := by decide +kernel
theorem dX10_sumOf_26 : decode cX10_sumOf 26 = .ok (.goto (-21), 3) := by decide +kernel
theorem dX10_sumOf_29 : decode cX10_sumOf 29 = .ok (.iload_n 3, 1) := by decide +kernel
theorem dX10_sumOf_30 : decode cX10_sumOf 30 = .ok (.ireturn, 1) := by decide +kernel
theorem dX10_leftAll_0 : decode cX10_leftAll 0 = .ok (.iconst 0, 1) := by decide +kernel
theorem dX10_leftAll_1 : decode cX10_leftAll 1 = .ok (.istore_n 1, 1) := by decide +kernel
theorem dX10_leftAll_2 : decode cX10_leftAll 2 = .ok (.iconst 0, 1) := by decide +kernel
theorem dX10_leftAll_3 : decode cX10_leftAll 3 = .ok (.istore_n 2, 1) := by decide +kernel
theorem dX10_leftAll_4 : decode cX10_leftAll 4 = .ok (.iload_n 2, 1) := by decide +kernel
theorem dX10_leftAll_5 : decode cX10_leftAll 5 = .ok (.aload_n 0, 1) := by decide +kernel
theorem dX10_leftAll_6 : decode cX10_leftAll 6 = .ok (.getfield 163, 3) := by decide +kernel
theorem dX10_leftAll_9 : decode cX10_leftAll 9 = .ok (.if_icmp .ge 17, 3) := by decide +kernel
theorem dX10_leftAll_12 : decode cX10_leftAll 12 = .ok (.iload_n 1, 1) := by decide +kernel
theorem dX10_leftAll_13 : decode cX10_leftAll 13 = .ok (.aload_n 0, 1) := by decide +kernel
theorem dX10_leftAll_14 : decode cX10_leftAll 14 = .ok (.iload_n 2, 1) := by decide +kernel
theorem dX10_leftAll_15 : decode cX10_leftAll 15 = .ok (.invokevirtual 336, 3) := by decide +kernel
theorem dX10_leftAll_18 : decode cX10_leftAll 18 = .ok (.iadd, 1) := by decide +kernel
theorem dX10_leftAll_19 : decode cX10_leftAll 19 = .ok (.istore_n 1, 1) := by decide +kernel
theorem dX10_leftAll_20 : decode cX10_leftAll 20 = .ok (.iinc 2 1, 3) := by decide +kernel
theorem dX10_leftAll_23 : decode cX10_leftAll 23 = .ok (.goto (-19), 3) := by decide +kernel
theorem dX10_leftAll_26 : decode cX10_leftAll 26 = .ok (.iload_n 1, 1) := by decide +kernel
theorem dX10_leftAll_27 : decode cX10_leftAll 27 = .ok (.ireturn, 1) := by decide +kernel
theorem dX10_told_0 : decode cX10_told 0 = .ok (.aload_n 0, 1) := by decide +kernel
theorem dX10_told_1 : decode cX10_told 1 = .ok (.iconst 0, 1) := by decide +kernel
theorem dX10_told_2 : decode cX10_told 2 = .ok (.putfield 3, 3) := by decide +kernel
theorem dX10_told_5 : decode cX10_told 5 = .ok (.aload_n 0, 1) := by decide +kernel
theorem dX10_told_6 : decode cX10_told 6 = .ok (.iload_n 1, 1) := by decide +kernel
theorem dX10_told_7 : decode cX10_told 7 = .ok (.iconst 0, 1) := by decide +kernel
theorem dX10_told_8 : decode cX10_told 8 = .ok (.bipush 11, 2) := by decide +kernel
theorem dX10_told_10 : decode cX10_told 10 = .ok (.invokestatic 383, 3) := by decide +kernel
theorem dX10_told_13 : decode cX10_told 13 = .ok (.iconst 1, 1) := by decide +kernel
theorem dX10_told_14 : decode cX10_told 14 = .ok (.iconst 1, 1) := by decide +kernel
theorem dX10_told_15 : decode cX10_told 15 = .ok (.invokevirtual 205, 3) := by decide +kernel
theorem dX10_told_18 : decode cX10_told 18 = .ok (.ifCond .ne 5, 3) := by decide +kernel
theorem dX10_told_21 : decode cX10_told 21 = .ok (.iconst 0, 1) := by decide +kernel
theorem dX10_told_22 : decode cX10_told 22 = .ok (.ireturn, 1) := by decide +kernel
theorem dX10_told_23 : decode cX10_told 23 = .ok (.aload_n 0, 1) := by decide +kernel
theorem dX10_told_24 : decode cX10_told 24 = .ok (.invokevirtual 314, 3) := by decide +kernel
theorem dX10_told_27 : decode cX10_told 27 = .ok (.iload_n 1, 1) := by decide +kernel
theorem dX10_told_28 : decode cX10_told 28 = .ok (.iconst 3, 1) := by decide +kernel
theorem dX10_told_29 : decode cX10_told 29 = .ok (.if_icmp .ge 31, 3) := by decide +kernel
theorem dX10_told_32 : decode cX10_told 32 = .ok (.iload_n 1, 1) := by decide +kernel
theorem dX10_told_33 : decode cX10_told 33 = .ok (.ifCond .ne 10, 3) := by decide +kernel
theorem dX10_told_36 : decode cX10_told 36 = .ok (.aload_n 0, 1) := by decide +kernel
theorem dX10_told_37 : decode cX10_told 37 = .ok (.getfield 160, 3) := by decide +kernel
theorem dX10_told_40 : decode cX10_told 40 = .ok (.goto 19, 3) := by decide +kernel
theorem dX10_told_43 : decode cX10_told 43 = .ok (.iload_n 1, 1) := by decide +kernel
theorem dX10_told_44 : decode cX10_told 44 = .ok (.iconst 1, 1) := by decide +kernel
theorem dX10_told_45 : decode cX10_told 45 = .ok (.if_icmp .ne 10, 3) := by decide +kernel
theorem dX10_told_48 : decode cX10_told 48 = .ok (.aload_n 0, 1) := by decide +kernel
theorem dX10_told_49 : decode cX10_told 49 = .ok (.getfield 163, 3) := by decide +kernel
theorem dX10_told_52 : decode cX10_told 52 = .ok (.goto 7, 3) := by decide +kernel
theorem dX10_told_55 : decode cX10_told 55 = .ok (.aload_n 0, 1) := by decide +kernel
theorem dX10_told_56 : decode cX10_told 56 = .ok (.getfield 166, 3) := by decide +kernel
theorem dX10_told_59 : decode cX10_told 59 = .ok (.ireturn, 1) := by decide +kernel
theorem dX10_told_60 : decode cX10_told 60 = .ok (.iload_n 1, 1) := by decide +kernel
theorem dX10_told_61 : decode cX10_told 61 = .ok (.iconst 5, 1) := by decide +kernel
theorem dX10_told_62 : decode cX10_told 62 = .ok (.if_icmp .ge 23, 3) := by decide +kernel
theorem dX10_told_65 : decode cX10_told 65 = .ok (.aload_n 0, 1) := by decide +kernel
theorem dX10_told_66 : decode cX10_told 66 = .ok (.getfield 68, 3) := by decide +kernel
theorem dX10_told_69 : decode cX10_told 69 = .ok (.iload_n 1, 1) := by decide +kernel
theorem dX10_told_70 : decode cX10_told 70 = .ok (.iconst 3, 1) := by decide +kernel
theorem dX10_told_71 : decode cX10_told 71 = .ok (.if_icmp .ne 9, 3) := by decide +kernel
theorem dX10_told_74 : decode cX10_told 74 = .ok (.sipush 164, 3) := by decide +kernel
theorem dX10_told_77 : decode cX10_told 77 = .ok (.goto 6, 3) := by decide +kernel
theorem dX10_told_80 : decode cX10_told 80 = .ok (.sipush 161, 3) := by decide +kernel
theorem dX10_told_83 : decode cX10_told 83 = .ok (.iaload, 1) := by decide +kernel
theorem dX10_told_84 : decode cX10_told 84 = .ok (.ireturn, 1) := by decide +kernel
theorem dX10_told_85 : decode cX10_told 85 = .ok (.iload_n 1, 1) := by decide +kernel
theorem dX10_told_86 : decode cX10_told 86 = .ok (.bipush 7, 2) := by decide +kernel
theorem dX10_told_88 : decode cX10_told 88 = .ok (.if_icmp .ge 24, 3) := by decide +kernel
theorem dX10_told_91 : decode cX10_told 91 = .ok (.iload_n 1, 1) := by decide +kernel
theorem dX10_told_92 : decode cX10_told 92 = .ok (.iconst 5, 1) := by decide +kernel
theorem dX10_told_93 : decode cX10_told 93 = .ok (.if_icmp .ne 10, 3) := by decide +kernel
theorem dX10_told_96 : decode cX10_told 96 = .ok (.aload_n 0, 1) := by decide +kernel
theorem dX10_told_97 : decode cX10_told 97 = .ok (.invokevirtual 386, 3) := by decide +kernel
theorem dX10_told_100 : decode cX10_told 100 = .ok (.goto 11, 3) := by decide +kernel
theorem dX10_told_103 : decode cX10_told 103 = .ok (.aload_n 0, 1) := by decide +kernel
theorem dX10_told_104 : decode cX10_told 104 = .ok (.bipush 84, 2) := by decide +kernel
theorem dX10_told_106 : decode cX10_told 106 = .ok (.bipush 6, 2) := by decide +kernel
theorem dX10_told_108 : decode cX10_told 108 = .ok (.invokevirtual 389, 3) := by decide +kernel
theorem dX10_told_111 : decode cX10_told 111 = .ok (.ireturn, 1) := by decide +kernel
theorem dX10_told_112 : decode cX10_told 112 = .ok (.iload_n 1, 1) := by decide +kernel
theorem dX10_told_113 : decode cX10_told 113 = .ok (.bipush 9, 2) := by decide +kernel
theorem dX10_told_115 : decode cX10_told 115 = .ok (.if_icmp .ge 24, 3) := by decide +kernel
theorem dX10_told_118 : decode cX10_told 118 = .ok (.aload_n 0, 1) := by decide +kernel
theorem dX10_told_119 : decode cX10_told 119 = .ok (.getfield 68, 3) := by decide +kernel
theorem dX10_told_122 : decode cX10_told 122 = .ok (.iload_n 1, 1) := by decide +kernel
theorem dX10_told_123 : decode cX10_told 123 = .ok (.bipush 7, 2) := by decide +kernel
theorem dX10_told_125 : decode cX10_told 125 = .ok (.if_icmp .ne 9, 3) := by decide +kernel
theorem dX10_told_128 : decode cX10_told 128 = .ok (.sipush 162, 3) := by decide +kernel
theorem dX10_told_131 : decode cX10_told 131 = .ok (.goto 6, 3) := by decide +kernel
theorem dX10_told_134 : decode cX10_told 134 = .ok (.sipush 163, 3) := by decide +kernel
theorem dX10_told_137 : decode cX10_told 137 = .ok (.iaload, 1) := by decide +kernel
theorem dX10_told_138 : decode cX10_told 138 = .ok (.ireturn, 1) := by decide +kernel
theorem dX10_told_139 : decode cX10_told 139 = .ok (.iload_n 1, 1) := by decide +kernel
theorem dX10_told_140 : decode cX10_told 140 = .ok (.bipush 9, 2) := by decide +kernel
theorem dX10_told_142 : decode cX10_told 142 = .ok (.if_icmp .ne 10, 3) := by decide +kernel
theorem dX10_told_145 : decode cX10_told 145 = .ok (.aload_n 0, 1) := by decide +kernel
theorem dX10_told_146 : decode cX10_told 146 = .ok (.getfield 176, 3) := by decide +kernel
theorem dX10_told_149 : decode cX10_told 149 = .ok (.goto 24, 3) := by decide +kernel
theorem dX10_told_152 : decode cX10_told 152 = .ok (.iload_n 1, 1) := by decide +kernel
theorem dX10_told_153 : decode cX10_told 153 = .ok (.bipush 10, 2) := by decide +kernel
theorem dX10_told_155 : decode cX10_told 155 = .ok (.if_icmp .ne 10, 3) := by decide +kernel
theorem dX10_told_158 : decode cX10_told 158 = .ok (.aload_n 0, 1) := by decide +kernel
theorem dX10_told_159 : decode cX10_told 159 = .ok (.getfield 185, 3) := by decide +kernel
theorem dX10_told_162 : decode cX10_told 162 = .ok (.goto 11, 3) := by decide +kernel
theorem dX10_told_165 : decode cX10_told 165 = .ok (.aload_n 0, 1) := by decide +kernel
theorem dX10_told_166 : decode cX10_told 166 = .ok (.getfield 68, 3) := by decide +kernel
theorem dX10_told_169 : decode cX10_told 169 = .ok (.sipush 160, 3) := by decide +kernel
theorem dX10_told_172 : decode cX10_told 172 = .ok (.iaload, 1) := by decide +kernel
theorem dX10_told_173 : decode cX10_told 173 = .ok (.ireturn, 1) := by decide +kernel
theorem dX10_isLetter_0 : decode cX10_isLetter 0 = .ok (.aload_n 0, 1) := by decide +kernel
theorem dX10_isLetter_1 : decode cX10_isLetter 1 = .ok (.iload_n 1, 1) := by decide +kernel
theorem dX10_isLetter_2 : decode cX10_isLetter 2 = .ok (.iconst 0, 1) := by decide +kernel
theorem dX10_isLetter_3 : decode cX10_isLetter 3 = .ok (.aload_n 0, 1) := by decide +kernel
theorem dX10_isLetter_4 : decode cX10_isLetter 4 = .ok (.getfield 163, 3) := by decide +kernel
theorem dX10_isLetter_7 : decode cX10_isLetter 7 = .ok (.iconst 1, 1) := by decide +kernel
theorem dX10_isLetter_8 : decode cX10_isLetter 8 = .ok (.isub, 1) := by decide +kernel
theorem dX10_isLetter_9 : decode cX10_isLetter 9 = .ok (.invokestatic 383, 3) := by decide +kernel
theorem dX10_isLetter_12 : decode cX10_isLetter 12 = .ok (.iload_n 2, 1) := by decide +kernel
theorem dX10_isLetter_13 : decode cX10_isLetter 13 = .ok (.iconst 0, 1) := by decide +kernel
theorem dX10_isLetter_14 : decode cX10_isLetter 14 = .ok (.invokevirtual 205, 3) := by decide +kernel
theorem dX10_isLetter_17 : decode cX10_isLetter 17 = .ok (.ireturn, 1) := by decide +kernel
theorem dX10_isBed_0 : decode cX10_isBed 0 = .ok (.aload_n 0, 1) := by decide +kernel
theorem dX10_isBed_1 : decode cX10_isBed 1 = .ok (.iload_n 1, 1) := by decide +kernel
theorem dX10_isBed_2 : decode cX10_isBed 2 = .ok (.iconst 0, 1) := by decide +kernel
theorem dX10_isBed_3 : decode cX10_isBed 3 = .ok (.aload_n 0, 1) := by decide +kernel
theorem dX10_isBed_4 : decode cX10_isBed 4 = .ok (.getfield 160, 3) := by decide +kernel
theorem dX10_isBed_7 : decode cX10_isBed 7 = .ok (.iconst 1, 1) := by decide +kernel
theorem dX10_isBed_8 : decode cX10_isBed 8 = .ok (.isub, 1) := by decide +kernel
theorem dX10_isBed_9 : decode cX10_isBed 9 = .ok (.invokestatic 383, 3) := by decide +kernel
theorem dX10_isBed_12 : decode cX10_isBed 12 = .ok (.iload_n 2, 1) := by decide +kernel
theorem dX10_isBed_13 : decode cX10_isBed 13 = .ok (.iconst 0, 1) := by decide +kernel
theorem dX10_isBed_14 : decode cX10_isBed 14 = .ok (.invokevirtual 205, 3) := by decide +kernel
theorem dX10_isBed_17 : decode cX10_isBed 17 = .ok (.ireturn, 1) := by decide +kernel
theorem dX10_isReader_0 : decode cX10_isReader 0 = .ok (.aload_n 0, 1) := by decide +kernel
theorem dX10_isReader_1 : decode cX10_isReader 1 = .ok (.iload_n 1, 1) := by decide +kernel
theorem dX10_isReader_2 : decode cX10_isReader 2 = .ok (.iconst 0, 1) := by decide +kernel
theorem dX10_isReader_3 : decode cX10_isReader 3 = .ok (.aload_n 0, 1) := by decide +kernel
theorem dX10_isReader_4 : decode cX10_isReader 4 = .ok (.getfield 166, 3) := by decide +kernel
theorem dX10_isReader_7 : decode cX10_isReader 7 = .ok (.iconst 1, 1) := by decide +kernel
theorem dX10_isReader_8 : decode cX10_isReader 8 = .ok (.isub, 1) := by decide +kernel
theorem dX10_isReader_9 : decode cX10_isReader 9 = .ok (.invokestatic 383, 3) := by decide +kernel
theorem dX10_isReader_12 : decode cX10_isReader 12 = .ok (.iload_n 2, 1) := by decide +kernel
theorem dX10_isReader_13 : decode cX10_isReader 13 = .ok (.iconst 0, 1) := by decide +kernel
theorem dX10_isReader_14 : decode cX10_isReader 14 = .ok (.invokevirtual 205, 3) := by decide +kernel
theorem dX10_isReader_17 : decode cX10_isReader 17 = .ok (.ireturn, 1) := by decide +kernel
theorem dX10_letter_0 : decode cX10_letter 0 = .ok (.aload_n 0, 1) := by decide +kernel
theorem dX10_letter_1 : decode cX10_letter 1 = .ok (.iconst 0, 1) := by decide +kernel
theorem dX10_letter_2 : decode cX10_letter 2 = .ok (.putfield 3, 3) := by decide +kernel
theorem dX10_letter_5 : decode cX10_letter 5 = .ok (.aload_n 0, 1) := by decide +kernel
theorem dX10_letter_6 : decode cX10_letter 6 = .ok (.iload_n 1, 1) := by decide +kernel
theorem dX10_letter_7 : decode cX10_letter 7 = .ok (.iconst 1, 1) := by decide +kernel
theorem dX10_letter_8 : decode cX10_letter 8 = .ok (.invokevirtual 392, 3) := by decide +kernel
theorem dX10_letter_11 : decode cX10_letter 11 = .ok (.ifCond .eq 18, 3) := by decide +kernel
theorem dX10_letter_14 : decode cX10_letter 14 = .ok (.aload_n 0, 1) := by decide +kernel
theorem dX10_letter_15 : decode cX10_letter 15 = .ok (.iload_n 2, 1) := by decide +kernel
theorem dX10_letter_16 : decode cX10_letter 16 = .ok (.iconst 0, 1) := by decide +kernel
theorem dX10_letter_17 : decode cX10_letter 17 = .ok (.iconst 4, 1) := by decide +kernel
theorem dX10_letter_18 : decode cX10_letter 18 = .ok (.invokestatic 383, 3) := by decide +kernel
theorem dX10_letter_21 : decode cX10_letter 21 = .ok (.iconst 2, 1) := by decide +kernel
theorem dX10_letter_22 : decode cX10_letter 22 = .ok (.iconst 1, 1) := by decide +kernel
theorem dX10_letter_23 : decode cX10_letter 23 = .ok (.invokevirtual 205, 3) := by decide +kernel
theorem dX10_letter_26 : decode cX10_letter 26 = .ok (.ifCond .ne 5, 3) := by decide +kernel
theorem dX10_letter_29 : decode cX10_letter 29 = .ok (.iconst 0, 1) := by decide +kernel
theorem dX10_letter_30 : decode cX10_letter 30 = .ok (.ireturn, 1) := by decide +kernel
theorem dX10_letter_31 : decode cX10_letter 31 = .ok (.aload_n 0, 1) := by decide +kernel
theorem dX10_letter_32 : decode cX10_letter 32 = .ok (.invokevirtual 314, 3) := by decide +kernel
theorem dX10_letter_35 : decode cX10_letter 35 = .ok (.iload_n 2, 1) := by decide +kernel
theorem dX10_letter_36 : decode cX10_letter 36 = .ok (.iconst 2, 1) := by decide +kernel
theorem dX10_letter_37 : decode cX10_letter 37 = .ok (.if_icmp .ge 15, 3) := by decide +kernel
theorem dX10_letter_40 : decode cX10_letter 40 = .ok (.aload_n 0, 1) := by decide +kernel
theorem dX10_letter_41 : decode cX10_letter 41 = .ok (.getfield 35, 3) := by decide +kernel
theorem dX10_letter_44 : decode cX10_letter 44 = .ok (.bipush 10, 2) := by decide +kernel
theorem dX10_letter_46 : decode cX10_letter 46 = .ok (.iload_n 1, 1) := by decide +kernel
theorem dX10_letter_47 : decode cX10_letter 47 = .ok (.imul, 1) := by decide +kernel
theorem dX10_letter_48 : decode cX10_letter 48 = .ok (.iload_n 2, 1) := by decide +kernel
theorem dX10_letter_49 : decode cX10_letter 49 = .ok (.iadd, 1) := by decide +kernel
theorem dX10_letter_50 : decode cX10_letter 50 = .ok (.iaload, 1) := by decide +kernel
theorem dX10_letter_51 : decode cX10_letter 51 = .ok (.ireturn, 1) := by decide +kernel
theorem dX10_letter_52 : decode cX10_letter 52 = .ok (.iload_n 2, 1) := by decide +kernel
theorem dX10_letter_53 : decode cX10_letter 53 = .ok (.iconst 2, 1) := by decide +kernel
theorem dX10_letter_54 : decode cX10_letter 54 = .ok (.if_icmp .ne 11, 3) := by decide +kernel
theorem dX10_letter_57 : decode cX10_letter 57 = .ok (.aload_n 0, 1) := by decide +kernel
theorem dX10_letter_58 : decode cX10_letter 58 = .ok (.iload_n 1, 1) := by decide +kernel
theorem dX10_letter_59 : decode cX10_letter 59 = .ok (.invokevirtual 336, 3) := by decide +kernel
theorem dX10_letter_62 : decode cX10_letter 62 = .ok (.goto 38, 3) := by decide +kernel
theorem dX10_letter_65 : decode cX10_letter 65 = .ok (.iload_n 2, 1) := by decide +kernel
theorem dX10_letter_66 : decode cX10_letter 66 = .ok (.iconst 4, 1) := by decide +kernel
theorem dX10_letter_67 : decode cX10_letter 67 = .ok (.if_icmp .ne 15, 3) := by decide +kernel
theorem dX10_letter_70 : decode cX10_letter 70 = .ok (.aload_n 0, 1) := by decide +kernel
theorem dX10_letter_71 : decode cX10_letter 71 = .ok (.getfield 68, 3) := by decide +kernel
theorem dX10_letter_74 : decode cX10_letter 74 = .ok (.bipush 6, 2) := by decide +kernel
theorem dX10_letter_76 : decode cX10_letter 76 = .ok (.iload_n 1, 1) := by decide +kernel
theorem dX10_letter_77 : decode cX10_letter 77 = .ok (.iadd, 1) := by decide +kernel
theorem dX10_letter_78 : decode cX10_letter 78 = .ok (.iaload, 1) := by decide +kernel
theorem dX10_letter_79 : decode cX10_letter 79 = .ok (.goto 21, 3) := by decide +kernel
theorem dX10_letter_82 : decode cX10_letter 82 = .ok (.aload_n 0, 1) := by decide +kernel
theorem dX10_letter_83 : decode cX10_letter 83 = .ok (.iload_n 1, 1) := by decide +kernel
theorem dX10_letter_84 : decode cX10_letter 84 = .ok (.invokevirtual 336, 3) := by decide +kernel
theorem dX10_letter_87 : decode cX10_letter 87 = .ok (.ifCond .ne 7, 3) := by decide +kernel
theorem dX10_letter_90 : decode cX10_letter 90 = .ok (.iconst (-1), 1) := by decide +kernel
theorem dX10_letter_91 : decode cX10_letter 91 = .ok (.goto 9, 3) := by decide +kernel
theorem dX10_letter_94 : decode cX10_letter 94 = .ok (.aload_n 0, 1) := by decide +kernel
theorem dX10_letter_95 : decode cX10_letter 95 = .ok (.iload_n 1, 1) := by decide +kernel
theorem dX10_letter_96 : decode cX10_letter 96 = .ok (.iconst 0, 1) := by decide +kernel
theorem dX10_letter_97 : decode cX10_letter 97 = .ok (.invokevirtual 346, 3) := by decide +kernel
theorem dX10_letter_100 : decode cX10_letter 100 = .ok (.ireturn, 1) := by decide +kernel
theorem dX10_word_0 : decode cX10_word 0 = .ok (.aload_n 0, 1) := by decide +kernel
theorem dX10_word_1 : decode cX10_word 1 = .ok (.iconst 0, 1) := by decide +kernel
theorem dX10_word_2 : decode cX10_word 2 = .ok (.putfield 3, 3) := by decide +kernel
theorem dX10_word_5 : decode cX10_word 5 = .ok (.aload_n 0, 1) := by decide +kernel
theorem dX10_word_6 : decode cX10_word 6 = .ok (.iload_n 1, 1) := by decide +kernel
theorem dX10_word_7 : decode cX10_word 7 = .ok (.iconst 1, 1) := by decide +kernel
theorem dX10_word_8 : decode cX10_word 8 = .ok (.invokevirtual 392, 3) := by decide +kernel
theorem dX10_word_11 : decode cX10_word 11 = .ok (.ifCond .eq 30, 3) := by decide +kernel
theorem dX10_word_14 : decode cX10_word 14 = .ok (.aload_n 0, 1) := by decide +kernel
theorem dX10_word_15 : decode cX10_word 15 = .ok (.iload_n 2, 1) := by decide +kernel
theorem dX10_word_16 : decode cX10_word 16 = .ok (.iconst 0, 1) := by decide +kernel
theorem dX10_word_17 : decode cX10_word 17 = .ok (.aload_n 0, 1) := by decide +kernel
theorem dX10_word_18 : decode cX10_word 18 = .ok (.getfield 35, 3) := by decide +kernel
theorem dX10_word_21 : decode cX10_word 21 = .ok (.bipush 10, 2) := by decide +kernel
theorem dX10_word_23 : decode cX10_word 23 = .ok (.iload_n 1, 1) := by decide +kernel
theorem dX10_word_24 : decode cX10_word 24 = .ok (.imul, 1) := by decide +kernel
theorem dX10_word_25 : decode cX10_word 25 = .ok (.iconst 1, 1) := by decide +kernel
theorem dX10_word_26 : decode cX10_word 26 = .ok (.iadd, 1) := by decide +kernel
theorem dX10_word_27 : decode cX10_word 27 = .ok (.iaload, 1) := by decide +kernel
theorem dX10_word_28 : decode cX10_word 28 = .ok (.iconst 1, 1) := by decide +kernel
theorem dX10_word_29 : decode cX10_word 29 = .ok (.isub, 1) := by decide +kernel
theorem dX10_word_30 : decode cX10_word 30 = .ok (.invokestatic 383, 3) := by decide +kernel
theorem dX10_word_33 : decode cX10_word 33 = .ok (.iconst 2, 1) := by decide +kernel
theorem dX10_word_34 : decode cX10_word 34 = .ok (.iconst 1, 1) := by decide +kernel
theorem dX10_word_35 : decode cX10_word 35 = .ok (.invokevirtual 205, 3) := by decide +kernel
theorem dX10_word_38 : decode cX10_word 38 = .ok (.ifCond .ne 5, 3) := by decide +kernel
theorem dX10_word_41 : decode cX10_word 41 = .ok (.iconst 0, 1) := by decide +kernel
theorem dX10_word_42 : decode cX10_word 42 = .ok (.ireturn, 1) := by decide +kernel
theorem dX10_word_43 : decode cX10_word 43 = .ok (.aload_n 0, 1) := by decide +kernel
theorem dX10_word_44 : decode cX10_word 44 = .ok (.getfield 35, 3) := by decide +kernel
theorem dX10_word_47 : decode cX10_word 47 = .ok (.bipush 10, 2) := by decide +kernel
theorem dX10_word_49 : decode cX10_word 49 = .ok (.iload_n 1, 1) := by decide +kernel
theorem dX10_word_50 : decode cX10_word 50 = .ok (.imul, 1) := by decide +kernel
theorem dX10_word_51 : decode cX10_word 51 = .ok (.iconst 2, 1) := by decide +kernel
theorem dX10_word_52 : decode cX10_word 52 = .ok (.iadd, 1) := by decide +kernel
theorem dX10_word_53 : decode cX10_word 53 = .ok (.iload_n 2, 1) := by decide +kernel
theorem dX10_word_54 : decode cX10_word 54 = .ok (.iadd, 1) := by decide +kernel
theorem dX10_word_55 : decode cX10_word 55 = .ok (.iaload, 1) := by decide +kernel
theorem dX10_word_56 : decode cX10_word 56 = .ok (.ireturn, 1) := by decide +kernel
theorem dX10_firstIn_0 : decode cX10_firstIn 0 = .ok (.aload_n 0, 1) := by decide +kernel
theorem dX10_firstIn_1 : decode cX10_firstIn 1 = .ok (.getfield 68, 3) := by decide +kernel
theorem dX10_firstIn_4 : decode cX10_firstIn 4 = .ok (.bipush 84, 2) := by decide +kernel
theorem dX10_firstIn_6 : decode cX10_firstIn 6 = .ok (.iload_n 1, 1) := by decide +kernel
theorem dX10_firstIn_7 : decode cX10_firstIn 7 = .ok (.iadd, 1) := by decide +kernel
theorem dX10_firstIn_8 : decode cX10_firstIn 8 = .ok (.iaload, 1) := by decide +kernel
theorem dX10_firstIn_9 : decode cX10_firstIn 9 = .ok (.ifCond .ne 7, 3) := by decide +kernel
theorem dX10_firstIn_12 : decode cX10_firstIn 12 = .ok (.iconst (-1), 1) := by decide +kernel
theorem dX10_firstIn_13 : decode cX10_firstIn 13 = .ok (.goto 15, 3) := by decide +kernel
theorem dX10_firstIn_16 : decode cX10_firstIn 16 = .ok (.aload_n 0, 1) := by decide +kernel
theorem dX10_firstIn_17 : decode cX10_firstIn 17 = .ok (.getfield 68, 3) := by decide +kernel
theorem dX10_firstIn_20 : decode cX10_firstIn 20 = .ok (.bipush 12, 2) := by decide +kernel
theorem dX10_firstIn_22 : decode cX10_firstIn 22 = .ok (.bipush 12, 2) := by decide +kernel
theorem dX10_firstIn_24 : decode cX10_firstIn 24 = .ok (.iload_n 1, 1) := by decide +kernel
theorem dX10_firstIn_25 : decode cX10_firstIn 25 = .ok (.imul, 1) := by decide +kernel
theorem dX10_firstIn_26 : decode cX10_firstIn 26 = .ok (.iadd, 1) := by decide +kernel
theorem dX10_firstIn_27 : decode cX10_firstIn 27 = .ok (.iaload, 1) := by decide +kernel
theorem dX10_firstIn_28 : decode cX10_firstIn 28 = .ok (.ireturn, 1) := by decide +kernel
theorem dX10_bed_0 : decode cX10_bed 0 = .ok (.aload_n 0, 1) := by decide +kernel
theorem dX10_bed_1 : decode cX10_bed 1 = .ok (.iconst 0, 1) := by decide +kernel
theorem dX10_bed_2 : decode cX10_bed 2 = .ok (.putfield 3, 3) := by decide +kernel
theorem dX10_bed_5 : decode cX10_bed 5 = .ok (.aload_n 0, 1) := by decide +kernel
theorem dX10_bed_6 : decode cX10_bed 6 = .ok (.iload_n 1, 1) := by decide +kernel
theorem dX10_bed_7 : decode cX10_bed 7 = .ok (.iconst 1, 1) := by decide +kernel
theorem dX10_bed_8 : decode cX10_bed 8 = .ok (.invokevirtual 395, 3) := by decide +kernel
theorem dX10_bed_11 : decode cX10_bed 11 = .ok (.ifCond .eq 18, 3) := by decide +kernel
theorem dX10_bed_14 : decode cX10_bed 14 = .ok (.aload_n 0, 1) := by decide +kernel
theorem dX10_bed_15 : decode cX10_bed 15 = .ok (.iload_n 2, 1) := by decide +kernel
theorem dX10_bed_16 : decode cX10_bed 16 = .ok (.iconst 0, 1) := by decide +kernel
theorem dX10_bed_17 : decode cX10_bed 17 = .ok (.iconst 4, 1) := by decide +kernel
theorem dX10_bed_18 : decode cX10_bed 18 = .ok (.invokestatic 383, 3) := by decide +kernel
theorem dX10_bed_21 : decode cX10_bed 21 = .ok (.iconst 2, 1) := by decide +kernel
theorem dX10_bed_22 : decode cX10_bed 22 = .ok (.iconst 1, 1) := by decide +kernel
theorem dX10_bed_23 : decode cX10_bed 23 = .ok (.invokevirtual 205, 3) := by decide +kernel
theorem dX10_bed_26 : decode cX10_bed 26 = .ok (.ifCond .ne 5, 3) := by decide +kernel
theorem dX10_bed_29 : decode cX10_bed 29 = .ok (.iconst 0, 1) := by decide +kernel
theorem dX10_bed_30 : decode cX10_bed 30 = .ok (.ireturn, 1) := by decide +kernel
theorem dX10_bed_31 : decode cX10_bed 31 = .ok (.aload_n 0, 1) := by decide +kernel
theorem dX10_bed_32 : decode cX10_bed 32 = .ok (.invokevirtual 314, 3) := by decide +kernel
theorem dX10_bed_35 : decode cX10_bed 35 = .ok (.iload_n 2, 1) := by decide +kernel
theorem dX10_bed_36 : decode cX10_bed 36 = .ok (.iconst 2, 1) := by decide +kernel
theorem dX10_bed_37 : decode cX10_bed 37 = .ok (.if_icmp .ge 26, 3) := by decide +kernel
theorem dX10_bed_40 : decode cX10_bed 40 = .ok (.iload_n 2, 1) := by decide +kernel
theorem dX10_bed_41 : decode cX10_bed 41 = .ok (.ifCond .ne 12, 3) := by decide +kernel
theorem dX10_bed_44 : decode cX10_bed 44 = .ok (.aload_n 0, 1) := by decide +kernel
theorem dX10_bed_45 : decode cX10_bed 45 = .ok (.getfield 32, 3) := by decide +kernel
theorem dX10_bed_48 : decode cX10_bed 48 = .ok (.iload_n 1, 1) := by decide +kernel
theorem dX10_bed_49 : decode cX10_bed 49 = .ok (.iaload, 1) := by decide +kernel
theorem dX10_bed_50 : decode cX10_bed 50 = .ok (.goto 12, 3) := by decide +kernel
theorem dX10_bed_53 : decode cX10_bed 53 = .ok (.aload_n 0, 1) := by decide +kernel
theorem dX10_bed_54 : decode cX10_bed 54 = .ok (.getfield 68, 3) := by decide +kernel
theorem dX10_bed_57 : decode cX10_bed 57 = .ok (.bipush 84, 2) := by decide +kernel
theorem dX10_bed_59 : decode cX10_bed 59 = .ok (.iload_n 1, 1) := by decide +kernel
theorem dX10_bed_60 : decode cX10_bed 60 = .ok (.iadd, 1) := by decide +kernel
theorem dX10_bed_61 : decode cX10_bed 61 = .ok (.iaload, 1) := by decide +kernel
theorem dX10_bed_62 : decode cX10_bed 62 = .ok (.ireturn, 1) := by decide +kernel
theorem dX10_bed_63 : decode cX10_bed 63 = .ok (.iload_n 2, 1) := by decide +kernel
theorem dX10_bed_64 : decode cX10_bed 64 = .ok (.iconst 4, 1) := by decide +kernel
theorem dX10_bed_65 : decode cX10_bed 65 = .ok (.if_icmp .ge 22, 3) := by decide +kernel
theorem dX10_bed_68 : decode cX10_bed 68 = .ok (.iload_n 2, 1) := by decide +kernel
theorem dX10_bed_69 : decode cX10_bed 69 = .ok (.iconst 2, 1) := by decide +kernel
theorem dX10_bed_70 : decode cX10_bed 70 = .ok (.if_icmp .ne 11, 3) := by decide +kernel
theorem dX10_bed_73 : decode cX10_bed 73 = .ok (.aload_n 0, 1) := by decide +kernel
theorem dX10_bed_74 : decode cX10_bed 74 = .ok (.iload_n 1, 1) := by decide +kernel
theorem dX10_bed_75 : decode cX10_bed 75 = .ok (.invokevirtual 361, 3) := by decide +kernel
theorem dX10_bed_78 : decode cX10_bed 78 = .ok (.goto 8, 3) := by decide +kernel
theorem dX10_bed_81 : decode cX10_bed 81 = .ok (.aload_n 0, 1) := by decide +kernel
theorem dX10_bed_82 : decode cX10_bed 82 = .ok (.iload_n 1, 1) := by decide +kernel
theorem dX10_bed_83 : decode cX10_bed 83 = .ok (.invokevirtual 398, 3) := by decide +kernel
theorem dX10_bed_86 : decode cX10_bed 86 = .ok (.ireturn, 1) := by decide +kernel
theorem dX10_bed_87 : decode cX10_bed 87 = .ok (.iconst 0, 1) := by decide +kernel
theorem dX10_bed_88 : decode cX10_bed 88 = .ok (.istore_n 3, 1) := by decide +kernel
theorem dX10_bed_89 : decode cX10_bed 89 = .ok (.iconst 0, 1) := by decide +kernel
theorem dX10_bed_90 : decode cX10_bed 90 = .ok (.istore 4, 2) := by decide +kernel
theorem dX10_bed_92 : decode cX10_bed 92 = .ok (.iload 4, 2) := by decide +kernel
theorem dX10_bed_94 : decode cX10_bed 94 = .ok (.aload_n 0, 1) := by decide +kernel
theorem dX10_bed_95 : decode cX10_bed 95 = .ok (.getfield 166, 3) := by decide +kernel
theorem dX10_bed_98 : decode cX10_bed 98 = .ok (.if_icmp .ge 34, 3) := by decide +kernel
theorem dX10_bed_101 : decode cX10_bed 101 = .ok (.iload_n 3, 1) := by decide +kernel
theorem dX10_bed_102 : decode cX10_bed 102 = .ok (.aload_n 0, 1) := by decide +kernel
theorem dX10_bed_103 : decode cX10_bed 103 = .ok (.getfield 68, 3) := by decide +kernel
theorem dX10_bed_106 : decode cX10_bed 106 = .ok (.bipush 90, 2) := by decide +kernel
theorem dX10_bed_108 : decode cX10_bed 108 = .ok (.iload 4, 2) := by decide +kernel
theorem dX10_bed_110 : decode cX10_bed 110 = .ok (.iadd, 1) := by decide +kernel
theorem dX10_bed_111 : decode cX10_bed 111 = .ok (.iaload, 1) := by decide +kernel
theorem dX10_bed_112 : decode cX10_bed 112 = .ok (.iload_n 1, 1) := by decide +kernel
theorem dX10_bed_113 : decode cX10_bed 113 = .ok (.if_icmp .ne 10, 3) := by decide +kernel
theorem dX10_bed_116 : decode cX10_bed 116 = .ok (.iconst 1, 1) := by decide +kernel
theorem dX10_bed_117 : decode cX10_bed 117 = .ok (.iload 4, 2) := by decide +kernel
theorem dX10_bed_119 : decode cX10_bed 119 = .ok (.ishl, 1) := by decide +kernel
theorem dX10_bed_120 : decode cX10_bed 120 = .ok (.goto 4, 3) := by decide +kernel
theorem dX10_bed_123 : decode cX10_bed 123 = .ok (.iconst 0, 1) := by decide +kernel
theorem dX10_bed_124 : decode cX10_bed 124 = .ok (.ior, 1) := by decide +kernel
theorem dX10_bed_125 : decode cX10_bed 125 = .ok (.istore_n 3, 1) := by decide +kernel
theorem dX10_bed_126 : decode cX10_bed 126 = .ok (.iinc 4 1, 3) := by decide +kernel
theorem dX10_bed_129 : decode cX10_bed 129 = .ok (.goto (-37), 3) := by decide +kernel
theorem dX10_bed_132 : decode cX10_bed 132 = .ok (.iload_n 3, 1) := by decide +kernel
theorem dX10_bed_133 : decode cX10_bed 133 = .ok (.ireturn, 1) := by decide +kernel
theorem dX10_lies_0 : decode cX10_lies 0 = .ok (.aload_n 0, 1) := by decide +kernel
theorem dX10_lies_1 : decode cX10_lies 1 = .ok (.iconst 0, 1) := by decide +kernel
theorem dX10_lies_2 : decode cX10_lies 2 = .ok (.putfield 3, 3) := by decide +kernel
theorem dX10_lies_5 : decode cX10_lies 5 = .ok (.aload_n 0, 1) := by decide +kernel
theorem dX10_lies_6 : decode cX10_lies 6 = .ok (.iload_n 1, 1) := by decide +kernel
theorem dX10_lies_7 : decode cX10_lies 7 = .ok (.iconst 1, 1) := by decide +kernel
theorem dX10_lies_8 : decode cX10_lies 8 = .ok (.invokevirtual 395, 3) := by decide +kernel
theorem dX10_lies_11 : decode cX10_lies 11 = .ok (.ifCond .eq 21, 3) := by decide +kernel
theorem dX10_lies_14 : decode cX10_lies 14 = .ok (.aload_n 0, 1) := by decide +kernel
theorem dX10_lies_15 : decode cX10_lies 15 = .ok (.iload_n 2, 1) := by decide +kernel
theorem dX10_lies_16 : decode cX10_lies 16 = .ok (.ifCond .lt 7, 3) := by decide +kernel
theorem dX10_lies_19 : decode cX10_lies 19 = .ok (.iconst 1, 1) := by decide +kernel
theorem dX10_lies_20 : decode cX10_lies 20 = .ok (.goto 4, 3) := by decide +kernel
theorem dX10_lies_23 : decode cX10_lies 23 = .ok (.iconst 0, 1) := by decide +kernel
theorem dX10_lies_24 : decode cX10_lies 24 = .ok (.iconst 2, 1) := by decide +kernel
theorem dX10_lies_25 : decode cX10_lies 25 = .ok (.iconst 1, 1) := by decide +kernel
theorem dX10_lies_26 : decode cX10_lies 26 = .ok (.invokevirtual 205, 3) := by decide +kernel
theorem dX10_lies_29 : decode cX10_lies 29 = .ok (.ifCond .ne 5, 3) := by decide +kernel
theorem dX10_lies_32 : decode cX10_lies 32 = .ok (.iconst 0, 1) := by decide +kernel
theorem dX10_lies_33 : decode cX10_lies 33 = .ok (.ireturn, 1) := by decide +kernel
theorem dX10_lies_34 : decode cX10_lies 34 = .ok (.iload_n 2, 1) := by decide +kernel
theorem dX10_lies_35 : decode cX10_lies 35 = .ok (.aload_n 0, 1) := by decide +kernel
theorem dX10_lies_36 : decode cX10_lies 36 = .ok (.getfield 65, 3) := by decide +kernel
theorem dX10_lies_39 : decode cX10_lies 39 = .ok (.bipush 84, 2) := by decide +kernel
theorem dX10_lies_41 : decode cX10_lies 41 = .ok (.iload_n 1, 1) := by decide +kernel
theorem dX10_lies_42 : decode cX10_lies 42 = .ok (.iadd, 1) := by decide +kernel
theorem dX10_lies_43 : decode cX10_lies 43 = .ok (.iaload, 1) := by decide +kernel
theorem dX10_lies_44 : decode cX10_lies 44 = .ok (.if_icmp .ge 20, 3) := by decide +kernel
theorem dX10_lies_47 : decode cX10_lies 47 = .ok (.aload_n 0, 1) := by decide +kernel
theorem dX10_lies_48 : decode cX10_lies 48 = .ok (.getfield 65, 3) := by decide +kernel
theorem dX10_lies_51 : decode cX10_lies 51 = .ok (.bipush 12, 2) := by decide +kernel
theorem dX10_lies_53 : decode cX10_lies 53 = .ok (.bipush 12, 2) := by decide +kernel
theorem dX10_lies_55 : decode cX10_lies 55 = .ok (.iload_n 1, 1) := by decide +kernel
theorem dX10_lies_56 : decode cX10_lies 56 = .ok (.imul, 1) := by decide +kernel
theorem dX10_lies_57 : decode cX10_lies 57 = .ok (.iadd, 1) := by decide +kernel
theorem dX10_lies_58 : decode cX10_lies 58 = .ok (.iload_n 2, 1) := by decide +kernel
theorem dX10_lies_59 : decode cX10_lies 59 = .ok (.iadd, 1) := by decide +kernel
theorem dX10_lies_60 : decode cX10_lies 60 = .ok (.iaload, 1) := by decide +kernel
theorem dX10_lies_61 : decode cX10_lies 61 = .ok (.goto 4, 3) := by decide +kernel
theorem dX10_lies_64 : decode cX10_lies 64 = .ok (.iconst (-1), 1) := by decide +kernel
theorem dX10_lies_65 : decode cX10_lies 65 = .ok (.ireturn, 1) := by decide +kernel
theorem dX10_reader_0 : decode cX10_reader 0 = .ok (.aload_n 0, 1) := by decide +kernel
theorem dX10_reader_1 : decode cX10_reader 1 = .ok (.iconst 0, 1) := by decide +kernel
theorem dX10_reader_2 : decode cX10_reader 2 = .ok (.putfield 3, 3) := by decide +kernel
theorem dX10_reader_5 : decode cX10_reader 5 = .ok (.aload_n 0, 1) := by decide +kernel
theorem dX10_reader_6 : decode cX10_reader 6 = .ok (.iload_n 1, 1) := by decide +kernel
theorem dX10_reader_7 : decode cX10_reader 7 = .ok (.iconst 1, 1) := by decide +kernel
theorem dX10_reader_8 : decode cX10_reader 8 = .ok (.invokevirtual 401, 3) := by decide +kernel
theorem dX10_reader_11 : decode cX10_reader 11 = .ok (.ifCond .eq 18, 3) := by decide +kernel
theorem dX10_reader_14 : decode cX10_reader 14 = .ok (.aload_n 0, 1) := by decide +kernel
theorem dX10_reader_15 : decode cX10_reader 15 = .ok (.iload_n 2, 1) := by decide +kernel
theorem dX10_reader_16 : decode cX10_reader 16 = .ok (.iconst 0, 1) := by decide +kernel
theorem dX10_reader_17 : decode cX10_reader 17 = .ok (.iconst 1, 1) := by decide +kernel
theorem dX10_reader_18 : decode cX10_reader 18 = .ok (.invokestatic 383, 3) := by decide +kernel
theorem dX10_reader_21 : decode cX10_reader 21 = .ok (.iconst 2, 1) := by decide +kernel
theorem dX10_reader_22 : decode cX10_reader 22 = .ok (.iconst 1, 1) := by decide +kernel
theorem dX10_reader_23 : decode cX10_reader 23 = .ok (.invokevirtual 205, 3) := by decide +kernel
theorem dX10_reader_26 : decode cX10_reader 26 = .ok (.ifCond .ne 5, 3) := by decide +kernel
theorem dX10_reader_29 : decode cX10_reader 29 = .ok (.iconst 0, 1) := by decide +kernel
theorem dX10_reader_30 : decode cX10_reader 30 = .ok (.ireturn, 1) := by decide +kernel
theorem dX10_reader_31 : decode cX10_reader 31 = .ok (.aload_n 0, 1) := by decide +kernel
theorem dX10_reader_32 : decode cX10_reader 32 = .ok (.getfield 65, 3) := by decide +kernel
theorem dX10_reader_35 : decode cX10_reader 35 = .ok (.iload_n 2, 1) := by decide +kernel
theorem dX10_reader_36 : decode cX10_reader 36 = .ok (.ifCond .ne 8, 3) := by decide +kernel
theorem dX10_reader_39 : decode cX10_reader 39 = .ok (.bipush 90, 2) := by decide +kernel
theorem dX10_reader_41 : decode cX10_reader 41 = .ok (.goto 5, 3) := by decide +kernel
theorem dX10_reader_44 : decode cX10_reader 44 = .ok (.bipush 95, 2) := by decide +kernel
theorem dX10_reader_46 : decode cX10_reader 46 = .ok (.iload_n 1, 1) := by decide +kernel
theorem dX10_reader_47 : decode cX10_reader 47 = .ok (.iadd, 1) := by decide +kernel
theorem dX10_reader_48 : decode cX10_reader 48 = .ok (.iaload, 1) := by decide +kernel
theorem dX10_reader_49 : decode cX10_reader 49 = .ok (.ireturn, 1) := by decide +kernel
theorem dX10_grown_0 : decode cX10_grown 0 = .ok (.aload_n 0, 1) := by decide +kernel
theorem dX10_grown_1 : decode cX10_grown 1 = .ok (.iconst 0, 1) := by decide +kernel
theorem dX10_grown_2 : decode cX10_grown 2 = .ok (.putfield 3, 3) := by decide +kernel
theorem dX10_grown_5 : decode cX10_grown 5 = .ok (.aload_n 0, 1) := by decide +kernel
theorem dX10_grown_6 : decode cX10_grown 6 = .ok (.iload_n 1, 1) := by decide +kernel
theorem dX10_grown_7 : decode cX10_grown 7 = .ok (.ifCond .lt 7, 3) := by decide +kernel
theorem dX10_grown_10 : decode cX10_grown 10 = .ok (.iconst 1, 1) := by decide +kernel
theorem dX10_grown_11 : decode cX10_grown 11 = .ok (.goto 4, 3) := by decide +kernel
theorem dX10_grown_14 : decode cX10_grown 14 = .ok (.iconst 0, 1) := by decide +kernel
theorem dX10_grown_15 : decode cX10_grown 15 = .ok (.iconst 1, 1) := by decide +kernel
theorem dX10_grown_16 : decode cX10_grown 16 = .ok (.iconst 1, 1) := by decide +kernel
theorem dX10_grown_17 : decode cX10_grown 17 = .ok (.invokevirtual 205, 3) := by decide +kernel
theorem dX10_grown_20 : decode cX10_grown 20 = .ok (.ifCond .ne 5, 3) := by decide +kernel
theorem dX10_grown_23 : decode cX10_grown 23 = .ok (.iconst 0, 1) := by decide +kernel
theorem dX10_grown_24 : decode cX10_grown 24 = .ok (.ireturn, 1) := by decide +kernel
theorem dX10_grown_25 : decode cX10_grown 25 = .ok (.iload_n 1, 1) := by decide +kernel
theorem dX10_grown_26 : decode cX10_grown 26 = .ok (.aload_n 0, 1) := by decide +kernel
theorem dX10_grown_27 : decode cX10_grown 27 = .ok (.getfield 65, 3) := by decide +kernel
theorem dX10_grown_30 : decode cX10_grown 30 = .ok (.sipush 160, 3) := by decide +kernel
theorem dX10_grown_33 : decode cX10_grown 33 = .ok (.iaload, 1) := by decide +kernel
theorem dX10_grown_34 : decode cX10_grown 34 = .ok (.if_icmp .ge 15, 3) := by decide +kernel
theorem dX10_grown_37 : decode cX10_grown 37 = .ok (.aload_n 0, 1) := by decide +kernel
theorem dX10_grown_38 : decode cX10_grown 38 = .ok (.getfield 65, 3) := by decide +kernel
theorem dX10_grown_41 : decode cX10_grown 41 = .ok (.bipush 100, 2) := by decide +kernel
theorem dX10_grown_43 : decode cX10_grown 43 = .ok (.iload_n 1, 1) := by decide +kernel
theorem dX10_grown_44 : decode cX10_grown 44 = .ok (.iadd, 1) := by decide +kernel
theorem dX10_grown_45 : decode cX10_grown 45 = .ok (.iaload, 1) := by decide +kernel
theorem dX10_grown_46 : decode cX10_grown 46 = .ok (.goto 4, 3) := by decide +kernel
theorem dX10_grown_49 : decode cX10_grown 49 = .ok (.iconst (-1), 1) := by decide +kernel
theorem dX10_grown_50 : decode cX10_grown 50 = .ok (.ireturn, 1) := by decide +kernel
theorem dX10_runs_0 : decode cX10_runs 0 = .ok (.aload_n 0, 1) := by decide +kernel
theorem dX10_runs_1 : decode cX10_runs 1 = .ok (.iconst 0, 1) := by decide +kernel
theorem dX10_runs_2 : decode cX10_runs 2 = .ok (.putfield 3, 3) := by decide +kernel
theorem dX10_runs_5 : decode cX10_runs 5 = .ok (.aload_n 0, 1) := by decide +kernel
theorem dX10_runs_6 : decode cX10_runs 6 = .ok (.iload_n 1, 1) := by decide +kernel
theorem dX10_runs_7 : decode cX10_runs 7 = .ok (.iconst 1, 1) := by decide +kernel
theorem dX10_runs_8 : decode cX10_runs 8 = .ok (.invokevirtual 392, 3) := by decide +kernel
theorem dX10_runs_11 : decode cX10_runs 11 = .ok (.ifCond .eq 19, 3) := by decide +kernel
theorem dX10_runs_14 : decode cX10_runs 14 = .ok (.aload_n 0, 1) := by decide +kernel
theorem dX10_runs_15 : decode cX10_runs 15 = .ok (.iload_n 2, 1) := by decide +kernel
theorem dX10_runs_16 : decode cX10_runs 16 = .ok (.iconst 1, 1) := by decide +kernel
theorem dX10_runs_17 : decode cX10_runs 17 = .ok (.bipush 20, 2) := by decide +kernel
theorem dX10_runs_19 : decode cX10_runs 19 = .ok (.invokestatic 383, 3) := by decide +kernel
theorem dX10_runs_22 : decode cX10_runs 22 = .ok (.iconst 2, 1) := by decide +kernel
theorem dX10_runs_23 : decode cX10_runs 23 = .ok (.iconst 1, 1) := by decide +kernel
theorem dX10_runs_24 : decode cX10_runs 24 = .ok (.invokevirtual 205, 3) := by decide +kernel
theorem dX10_runs_27 : decode cX10_runs 27 = .ok (.ifCond .ne 5, 3) := by decide +kernel
theorem dX10_runs_30 : decode cX10_runs 30 = .ok (.iconst 0, 1) := by decide +kernel
theorem dX10_runs_31 : decode cX10_runs 31 = .ok (.ireturn, 1) := by decide +kernel
theorem dX10_runs_32 : decode cX10_runs 32 = .ok (.aload_n 0, 1) := by decide +kernel
theorem dX10_runs_33 : decode cX10_runs 33 = .ok (.invokevirtual 314, 3) := by decide +kernel
theorem dX10_runs_36 : decode cX10_runs 36 = .ok (.aload_n 0, 1) := by decide +kernel
theorem dX10_runs_37 : decode cX10_runs 37 = .ok (.iload_n 1, 1) := by decide +kernel
theorem dX10_runs_38 : decode cX10_runs 38 = .ok (.iload_n 2, 1) := by decide +kernel
theorem dX10_runs_39 : decode cX10_runs 39 = .ok (.aload_n 0, 1) := by decide +kernel
theorem dX10_runs_40 : decode cX10_runs 40 = .ok (.getfield 68, 3) := by decide +kernel
theorem dX10_runs_43 : decode cX10_runs 43 = .ok (.sipush 161, 3) := by decide +kernel
theorem dX10_runs_46 : decode cX10_runs 46 = .ok (.iaload, 1) := by decide +kernel
theorem dX10_runs_47 : decode cX10_runs 47 = .ok (.iload_n 2, 1) := by decide +kernel
theorem dX10_runs_48 : decode cX10_runs 48 = .ok (.iadd, 1) := by decide +kernel
theorem dX10_runs_49 : decode cX10_runs 49 = .ok (.bipush 99, 2) := by decide +kernel
theorem dX10_runs_51 : decode cX10_runs 51 = .ok (.invokestatic 343, 3) := by decide +kernel
theorem dX10_runs_54 : decode cX10_runs 54 = .ok (.invokevirtual 349, 3) := by decide +kernel
theorem dX10_runs_57 : decode cX10_runs 57 = .ok (.ireturn, 1) := by decide +kernel
theorem dX10_would_0 : decode cX10_would 0 = .ok (.aload_n 0, 1) := by decide +kernel
theorem dX10_would_1 : decode cX10_would 1 = .ok (.iconst 0, 1) := by decide +kernel
theorem dX10_would_2 : decode cX10_would 2 = .ok (.putfield 3, 3) := by decide +kernel
theorem dX10_would_5 : decode cX10_would 5 = .ok (.aload_n 0, 1) := by decide +kernel
theorem dX10_would_6 : decode cX10_would 6 = .ok (.iload_n 1, 1) := by decide +kernel
theorem dX10_would_7 : decode cX10_would 7 = .ok (.iconst 0, 1) := by decide +kernel
theorem dX10_would_8 : decode cX10_would 8 = .ok (.bipush 20, 2) := by decide +kernel
theorem dX10_would_10 : decode cX10_would 10 = .ok (.invokestatic 383, 3) := by decide +kernel
theorem dX10_would_13 : decode cX10_would 13 = .ok (.ifCond .eq 71, 3) := by decide +kernel
theorem dX10_would_16 : decode cX10_would 16 = .ok (.iload_n 2, 1) := by decide +kernel
theorem dX10_would_17 : decode cX10_would 17 = .ok (.iconst 0, 1) := by decide +kernel
theorem dX10_would_18 : decode cX10_would 18 = .ok (.bipush 99, 2) := by decide +kernel
theorem dX10_would_20 : decode cX10_would 20 = .ok (.invokestatic 383, 3) := by decide +kernel
theorem dX10_would_23 : decode cX10_would 23 = .ok (.ifCond .eq 61, 3) := by decide +kernel
theorem dX10_would_26 : decode cX10_would 26 = .ok (.iload_n 3, 1) := by decide +kernel
theorem dX10_would_27 : decode cX10_would 27 = .ok (.iconst 0, 1) := by decide +kernel
theorem dX10_would_28 : decode cX10_would 28 = .ok (.bipush 8, 2) := by decide +kernel
theorem dX10_would_30 : decode cX10_would 30 = .ok (.invokestatic 383, 3) := by decide +kernel
theorem dX10_would_33 : decode cX10_would 33 = .ok (.ifCond .eq 51, 3) := by decide +kernel
theorem dX10_would_36 : decode cX10_would 36 = .ok (.iload 4, 2) := by decide +kernel
theorem dX10_would_38 : decode cX10_would 38 = .ok (.iconst 0, 1) := by decide +kernel
theorem dX10_would_39 : decode cX10_would 39 = .ok (.bipush 30, 2) := by decide +kernel
theorem dX10_would_41 : decode cX10_would 41 = .ok (.invokestatic 383, 3) := by decide +kernel
theorem dX10_would_44 : decode cX10_would 44 = .ok (.ifCond .eq 40, 3) := by decide +kernel
theorem dX10_would_47 : decode cX10_would 47 = .ok (.iload 5, 2) := by decide +kernel
theorem dX10_would_49 : decode cX10_would 49 = .ok (.iconst 0, 1) := by decide +kernel
theorem dX10_would_50 : decode cX10_would 50 = .ok (.bipush 12, 2) := by decide +kernel
theorem dX10_would_52 : decode cX10_would 52 = .ok (.invokestatic 383, 3) := by decide +kernel
theorem dX10_would_55 : decode cX10_would 55 = .ok (.ifCond .eq 29, 3) := by decide +kernel
theorem dX10_would_58 : decode cX10_would 58 = .ok (.iload 6, 2) := by decide +kernel
theorem dX10_would_60 : decode cX10_would 60 = .ok (.iconst 0, 1) := by decide +kernel
theorem dX10_would_61 : decode cX10_would 61 = .ok (.sipush 400, 3) := by decide +kernel
theorem dX10_would_64 : decode cX10_would 64 = .ok (.invokestatic 383, 3) := by decide +kernel
theorem dX10_would_67 : decode cX10_would 67 = .ok (.ifCond .eq 17, 3) := by decide +kernel
theorem dX10_would_70 : decode cX10_would 70 = .ok (.iload 7, 2) := by decide +kernel
theorem dX10_would_72 : decode cX10_would 72 = .ok (.iconst 0, 1) := by decide +kernel
theorem dX10_would_73 : decode cX10_would 73 = .ok (.iconst 5, 1) := by decide +kernel
theorem dX10_would_74 : decode cX10_would 74 = .ok (.invokestatic 383, 3) := by decide +kernel
theorem dX10_would_77 : decode cX10_would 77 = .ok (.ifCond .eq 7, 3) := by decide +kernel
theorem dX10_would_80 : decode cX10_would 80 = .ok (.iconst 1, 1) := by decide +kernel
theorem dX10_would_81 : decode cX10_would 81 = .ok (.goto 4, 3) := by decide +kernel
theorem dX10_would_84 : decode cX10_would 84 = .ok (.iconst 0, 1) := by decide +kernel
theorem dX10_would_85 : decode cX10_would 85 = .ok (.iconst 1, 1) := by decide +kernel
theorem dX10_would_86 : decode cX10_would 86 = .ok (.iconst 1, 1) := by decide +kernel
theorem dX10_would_87 : decode cX10_would 87 = .ok (.invokevirtual 205, 3) := by decide +kernel
theorem dX10_would_90 : decode cX10_would 90 = .ok (.ifCond .ne 5, 3) := by decide +kernel
theorem dX10_would_93 : decode cX10_would 93 = .ok (.iconst 0, 1) := by decide +kernel
theorem dX10_would_94 : decode cX10_would 94 = .ok (.ireturn, 1) := by decide +kernel
theorem dX10_would_95 : decode cX10_would 95 = .ok (.aload_n 0, 1) := by decide +kernel
theorem dX10_would_96 : decode cX10_would 96 = .ok (.iload_n 1, 1) := by decide +kernel
theorem dX10_would_97 : decode cX10_would 97 = .ok (.iload_n 2, 1) := by decide +kernel
theorem dX10_would_98 : decode cX10_would 98 = .ok (.iload_n 3, 1) := by decide +kernel
theorem dX10_would_99 : decode cX10_would 99 = .ok (.iload 4, 2) := by decide +kernel
theorem dX10_would_101 : decode cX10_would 101 = .ok (.iload 5, 2) := by decide +kernel
theorem dX10_would_103 : decode cX10_would 103 = .ok (.iload 6, 2) := by decide +kernel
theorem dX10_would_105 : decode cX10_would 105 = .ok (.iload 7, 2) := by decide +kernel
theorem dX10_would_107 : decode cX10_would 107 = .ok (.invokevirtual 339, 3) := by decide +kernel
theorem dX10_would_110 : decode cX10_would 110 = .ok (.ireturn, 1) := by decide +kernel
theorem dX10_ahead_0 : decode cX10_ahead 0 = .ok (.aload_n 0, 1) := by decide +kernel
theorem dX10_ahead_1 : decode cX10_ahead 1 = .ok (.iconst 0, 1) := by decide +kernel
theorem dX10_ahead_2 : decode cX10_ahead 2 = .ok (.putfield 3, 3) := by decide +kernel
theorem dX10_ahead_5 : decode cX10_ahead 5 = .ok (.aload_n 0, 1) := by decide +kernel
theorem dX10_ahead_6 : decode cX10_ahead 6 = .ok (.iload_n 1, 1) := by decide +kernel
theorem dX10_ahead_7 : decode cX10_ahead 7 = .ok (.iconst 0, 1) := by decide +kernel
theorem dX10_ahead_8 : decode cX10_ahead 8 = .ok (.bipush 99, 2) := by decide +kernel
theorem dX10_ahead_10 : decode cX10_ahead 10 = .ok (.invokestatic 383, 3) := by decide +kernel
theorem dX10_ahead_13 : decode cX10_ahead 13 = .ok (.ifCond .eq 16, 3) := by decide +kernel
theorem dX10_ahead_16 : decode cX10_ahead 16 = .ok (.iload_n 2, 1) := by decide +kernel
theorem dX10_ahead_17 : decode cX10_ahead 17 = .ok (.iconst 0, 1) := by decide +kernel
theorem dX10_ahead_18 : decode cX10_ahead 18 = .ok (.iconst 2, 1) := by decide +kernel
theorem dX10_ahead_19 : decode cX10_ahead 19 = .ok (.invokestatic 383, 3) := by decide +kernel
theorem dX10_ahead_22 : decode cX10_ahead 22 = .ok (.ifCond .eq 7, 3) := by decide +kernel
theorem dX10_ahead_25 : decode cX10_ahead 25 = .ok (.iconst 1, 1) := by decide +kernel
theorem dX10_ahead_26 : decode cX10_ahead 26 = .ok (.goto 4, 3) := by decide +kernel
theorem dX10_ahead_29 : decode cX10_ahead 29 = .ok (.iconst 0, 1) := by decide +kernel
theorem dX10_ahead_30 : decode cX10_ahead 30 = .ok (.iconst 1, 1) := by decide +kernel
theorem dX10_ahead_31 : decode cX10_ahead 31 = .ok (.iconst 1, 1) := by decide +kernel
theorem dX10_ahead_32 : decode cX10_ahead 32 = .ok (.invokevirtual 205, 3) := by decide +kernel
theorem dX10_ahead_35 : decode cX10_ahead 35 = .ok (.ifCond .ne 5, 3) := by decide +kernel
theorem dX10_ahead_38 : decode cX10_ahead 38 = .ok (.iconst 0, 1) := by decide +kernel
theorem dX10_ahead_39 : decode cX10_ahead 39 = .ok (.ireturn, 1) := by decide +kernel
theorem dX10_ahead_40 : decode cX10_ahead 40 = .ok (.aload_n 0, 1) := by decide +kernel
theorem dX10_ahead_41 : decode cX10_ahead 41 = .ok (.invokevirtual 314, 3) := by decide +kernel
theorem dX10_ahead_44 : decode cX10_ahead 44 = .ok (.iconst 0, 1) := by decide +kernel
theorem dX10_ahead_45 : decode cX10_ahead 45 = .ok (.istore_n 3, 1) := by decide +kernel
theorem dX10_ahead_46 : decode cX10_ahead 46 = .ok (.iload_n 3, 1) := by decide +kernel
theorem dX10_ahead_47 : decode cX10_ahead 47 = .ok (.iload_n 1, 1) := by decide +kernel
theorem dX10_ahead_48 : decode cX10_ahead 48 = .ok (.if_icmp .ge 13, 3) := by decide +kernel
theorem dX10_ahead_51 : decode cX10_ahead 51 = .ok (.aload_n 0, 1) := by decide +kernel
theorem dX10_ahead_52 : decode cX10_ahead 52 = .ok (.invokevirtual 380, 3) := by decide +kernel
theorem dX10_ahead_55 : decode cX10_ahead 55 = .ok (.iinc 3 1, 3) := by decide +kernel
theorem dX10_ahead_58 : decode cX10_ahead 58 = .ok (.goto (-12), 3) := by decide +kernel
theorem dX10_ahead_61 : decode cX10_ahead 61 = .ok (.iload_n 2, 1) := by decide +kernel
theorem dX10_ahead_62 : decode cX10_ahead 62 = .ok (.ifCond .ne 14, 3) := by decide +kernel
theorem dX10_ahead_65 : decode cX10_ahead 65 = .ok (.aload_n 0, 1) := by decide +kernel
theorem dX10_ahead_66 : decode cX10_ahead 66 = .ok (.bipush 84, 2) := by decide +kernel
theorem dX10_ahead_68 : decode cX10_ahead 68 = .ok (.bipush 6, 2) := by decide +kernel
theorem dX10_ahead_70 : decode cX10_ahead 70 = .ok (.invokevirtual 389, 3) := by decide +kernel
theorem dX10_ahead_73 : decode cX10_ahead 73 = .ok (.goto 22, 3) := by decide +kernel
theorem dX10_ahead_76 : decode cX10_ahead 76 = .ok (.aload_n 0, 1) := by decide +kernel
theorem dX10_ahead_77 : decode cX10_ahead 77 = .ok (.getfield 68, 3) := by decide +kernel
theorem dX10_ahead_80 : decode cX10_ahead 80 = .ok (.iload_n 2, 1) := by decide +kernel
theorem dX10_ahead_81 : decode cX10_ahead 81 = .ok (.iconst 1, 1) := by decide +kernel
theorem dX10_ahead_82 : decode cX10_ahead 82 = .ok (.if_icmp .ne 9, 3) := by decide +kernel
theorem dX10_ahead_85 : decode cX10_ahead 85 = .ok (.sipush 160, 3) := by decide +kernel
theorem dX10_ahead_88 : decode cX10_ahead 88 = .ok (.goto 6, 3) := by decide +kernel
theorem dX10_ahead_91 : decode cX10_ahead 91 = .ok (.sipush 161, 3) := by decide +kernel
theorem dX10_ahead_94 : decode cX10_ahead 94 = .ok (.iaload, 1) := by decide +kernel
theorem dX10_ahead_95 : decode cX10_ahead 95 = .ok (.ireturn, 1) := by decide +kernel
theorem dX10_rains_0 : decode cX10_rains 0 = .ok (.aload_n 0, 1) := by decide +kernel
theorem dX10_rains_1 : decode cX10_rains 1 = .ok (.iconst 0, 1) := by decide +kernel
theorem dX10_rains_2 : decode cX10_rains 2 = .ok (.putfield 3, 3) := by decide +kernel
theorem dX10_rains_5 : decode cX10_rains 5 = .ok (.aload_n 0, 1) := by decide +kernel
theorem dX10_rains_6 : decode cX10_rains 6 = .ok (.iload_n 1, 1) := by decide +kernel
theorem dX10_rains_7 : decode cX10_rains 7 = .ok (.iconst 1, 1) := by decide +kernel
theorem dX10_rains_8 : decode cX10_rains 8 = .ok (.invokevirtual 395, 3) := by decide +kernel
theorem dX10_rains_11 : decode cX10_rains 11 = .ok (.ifCond .eq 37, 3) := by decide +kernel
theorem dX10_rains_14 : decode cX10_rains 14 = .ok (.aload_n 0, 1) := by decide +kernel
theorem dX10_rains_15 : decode cX10_rains 15 = .ok (.iload_n 2, 1) := by decide +kernel
theorem dX10_rains_16 : decode cX10_rains 16 = .ok (.iconst 0, 1) := by decide +kernel
theorem dX10_rains_17 : decode cX10_rains 17 = .ok (.bipush 15, 2) := by decide +kernel
theorem dX10_rains_19 : decode cX10_rains 19 = .ok (.invokestatic 383, 3) := by decide +kernel
theorem dX10_rains_22 : decode cX10_rains 22 = .ok (.ifCond .eq 17, 3) := by decide +kernel
theorem dX10_rains_25 : decode cX10_rains 25 = .ok (.iload_n 3, 1) := by decide +kernel
theorem dX10_rains_26 : decode cX10_rains 26 = .ok (.iconst 1, 1) := by decide +kernel
theorem dX10_rains_27 : decode cX10_rains 27 = .ok (.bipush 20, 2) := by decide +kernel
theorem dX10_rains_29 : decode cX10_rains 29 = .ok (.invokestatic 383, 3) := by decide +kernel
theorem dX10_rains_32 : decode cX10_rains 32 = .ok (.ifCond .eq 7, 3) := by decide +kernel
theorem dX10_rains_35 : decode cX10_rains 35 = .ok (.iconst 1, 1) := by decide +kernel
theorem dX10_rains_36 : decode cX10_rains 36 = .ok (.goto 4, 3) := by decide +kernel
theorem dX10_rains_39 : decode cX10_rains 39 = .ok (.iconst 0, 1) := by decide +kernel
theorem dX10_rains_40 : decode cX10_rains 40 = .ok (.iconst 2, 1) := by decide +kernel
theorem dX10_rains_41 : decode cX10_rains 41 = .ok (.iconst 1, 1) := by decide +kernel
theorem dX10_rains_42 : decode cX10_rains 42 = .ok (.invokevirtual 205, 3) := by decide +kernel
theorem dX10_rains_45 : decode cX10_rains 45 = .ok (.ifCond .ne 5, 3) := by decide +kernel
theorem dX10_rains_48 : decode cX10_rains 48 = .ok (.iconst 0, 1) := by decide +kernel
theorem dX10_rains_49 : decode cX10_rains 49 = .ok (.ireturn, 1) := by decide +kernel
theorem dX10_rains_50 : decode cX10_rains 50 = .ok (.aload_n 0, 1) := by decide +kernel
theorem dX10_rains_51 : decode cX10_rains 51 = .ok (.invokevirtual 314, 3) := by decide +kernel
theorem dX10_rains_54 : decode cX10_rains 54 = .ok (.iconst 0, 1) := by decide +kernel
theorem dX10_rains_55 : decode cX10_rains 55 = .ok (.istore 4, 2) := by decide +kernel
theorem dX10_rains_57 : decode cX10_rains 57 = .ok (.iload 4, 2) := by decide +kernel
theorem dX10_rains_59 : decode cX10_rains 59 = .ok (.bipush 40, 2) := by decide +kernel
theorem dX10_rains_61 : decode cX10_rains 61 = .ok (.if_icmp .gt 30, 3) := by decide +kernel
theorem dX10_rains_64 : decode cX10_rains 64 = .ok (.aload_n 0, 1) := by decide +kernel
theorem dX10_rains_65 : decode cX10_rains 65 = .ok (.iload_n 1, 1) := by decide +kernel
theorem dX10_rains_66 : decode cX10_rains 66 = .ok (.invokevirtual 361, 3) := by decide +kernel
theorem dX10_rains_69 : decode cX10_rains 69 = .ok (.iload_n 2, 1) := by decide +kernel
theorem dX10_rains_70 : decode cX10_rains 70 = .ok (.ishr, 1) := by decide +kernel
theorem dX10_rains_71 : decode cX10_rains 71 = .ok (.iconst 1, 1) := by decide +kernel
theorem dX10_rains_72 : decode cX10_rains 72 = .ok (.iand, 1) := by decide +kernel
theorem dX10_rains_73 : decode cX10_rains 73 = .ok (.iconst 1, 1) := by decide +kernel
theorem dX10_rains_74 : decode cX10_rains 74 = .ok (.if_icmp .ne 6, 3) := by decide +kernel
theorem dX10_rains_77 : decode cX10_rains 77 = .ok (.iload 4, 2) := by decide +kernel
theorem dX10_rains_79 : decode cX10_rains 79 = .ok (.ireturn, 1) := by decide +kernel
theorem dX10_rains_80 : decode cX10_rains 80 = .ok (.aload_n 0, 1) := by decide +kernel
theorem dX10_rains_81 : decode cX10_rains 81 = .ok (.iload_n 3, 1) := by decide +kernel
theorem dX10_rains_82 : decode cX10_rains 82 = .ok (.invokevirtual 377, 3) := by decide +kernel
theorem dX10_rains_85 : decode cX10_rains 85 = .ok (.iinc 4 1, 3) := by decide +kernel
theorem dX10_rains_88 : decode cX10_rains 88 = .ok (.goto (-31), 3) := by decide +kernel
theorem dX10_rains_91 : decode cX10_rains 91 = .ok (.iconst (-1), 1) := by decide +kernel
theorem dX10_rains_92 : decode cX10_rains 92 = .ok (.ireturn, 1) := by decide +kernel
theorem dX10_seamOf_0 : decode cX10_seamOf 0 = .ok (.aload_n 0, 1) := by decide +kernel
theorem dX10_seamOf_1 : decode cX10_seamOf 1 = .ok (.iload_n 1, 1) := by decide +kernel
theorem dX10_seamOf_2 : decode cX10_seamOf 2 = .ok (.aload_n 0, 1) := by decide +kernel
theorem dX10_seamOf_3 : decode cX10_seamOf 3 = .ok (.iload_n 1, 1) := by decide +kernel
theorem dX10_seamOf_4 : decode cX10_seamOf 4 = .ok (.invokevirtual 336, 3) := by decide +kernel
theorem dX10_seamOf_7 : decode cX10_seamOf 7 = .ok (.iconst 1, 1) := by decide +kernel
theorem dX10_seamOf_8 : decode cX10_seamOf 8 = .ok (.isub, 1) := by decide +kernel
theorem dX10_seamOf_9 : decode cX10_seamOf 9 = .ok (.invokevirtual 346, 3) := by decide +kernel
theorem dX10_seamOf_12 : decode cX10_seamOf 12 = .ok (.aload_n 0, 1) := by decide +kernel
theorem dX10_seamOf_13 : decode cX10_seamOf 13 = .ok (.iload_n 2, 1) := by decide +kernel
theorem dX10_seamOf_14 : decode cX10_seamOf 14 = .ok (.iconst 0, 1) := by decide +kernel
theorem dX10_seamOf_15 : decode cX10_seamOf 15 = .ok (.invokevirtual 346, 3) := by decide +kernel
theorem dX10_seamOf_18 : decode cX10_seamOf 18 = .ok (.if_icmp .ne 7, 3) := by decide +kernel
theorem dX10_seamOf_21 : decode cX10_seamOf 21 = .ok (.iconst 1, 1) := by decide +kernel
theorem dX10_seamOf_22 : decode cX10_seamOf 22 = .ok (.goto 4, 3) := by decide +kernel
theorem dX10_seamOf_25 : decode cX10_seamOf 25 = .ok (.iconst 0, 1) := by decide +kernel
theorem dX10_seamOf_26 : decode cX10_seamOf 26 = .ok (.ireturn, 1) := by decide +kernel
theorem dX10_someLeft_0 : decode cX10_someLeft 0 = .ok (.iconst 0, 1) := by decide +kernel
theorem dX10_someLeft_1 : decode cX10_someLeft 1 = .ok (.istore_n 1, 1) := by decide +kernel
theorem dX10_someLeft_2 : decode cX10_someLeft 2 = .ok (.iconst 0, 1) := by decide +kernel
theorem dX10_someLeft_3 : decode cX10_someLeft 3 = .ok (.istore_n 2, 1) := by decide +kernel
theorem dX10_someLeft_4 : decode cX10_someLeft 4 = .ok (.iload_n 2, 1) := by decide +kernel
theorem dX10_someLeft_5 : decode cX10_someLeft 5 = .ok (.aload_n 0, 1) := by decide +kernel
theorem dX10_someLeft_6 : decode cX10_someLeft 6 = .ok (.getfield 163, 3) := by decide +kernel
theorem dX10_someLeft_9 : decode cX10_someLeft 9 = .ok (.if_icmp .ge 27, 3) := by decide +kernel
theorem dX10_someLeft_12 : decode cX10_someLeft 12 = .ok (.iload_n 1, 1) := by decide +kernel
theorem dX10_someLeft_13 : decode cX10_someLeft 13 = .ok (.aload_n 0, 1) := by decide +kernel
theorem dX10_someLeft_14 : decode cX10_someLeft 14 = .ok (.iload_n 2, 1) := by decide +kernel
theorem dX10_someLeft_15 : decode cX10_someLeft 15 = .ok (.invokevirtual 336, 3) := by decide +kernel
theorem dX10_someLeft_18 : decode cX10_someLeft 18 = .ok (.ifCond .le 9, 3) := by decide +kernel
theorem dX10_someLeft_21 : decode cX10_someLeft 21 = .ok (.iconst 1, 1) := by decide +kernel
theorem dX10_someLeft_22 : decode cX10_someLeft 22 = .ok (.iload_n 2, 1) := by decide +kernel
theorem dX10_someLeft_23 : decode cX10_someLeft 23 = .ok (.ishl, 1) := by decide +kernel
theorem dX10_someLeft_24 : decode cX10_someLeft 24 = .ok (.goto 4, 3) := by decide +kernel
theorem dX10_someLeft_27 : decode cX10_someLeft 27 = .ok (.iconst 0, 1) := by decide +kernel
theorem dX10_someLeft_28 : decode cX10_someLeft 28 = .ok (.ior, 1) := by decide +kernel
theorem dX10_someLeft_29 : decode cX10_someLeft 29 = .ok (.istore_n 1, 1) := by decide +kernel
theorem dX10_someLeft_30 : decode cX10_someLeft 30 = .ok (.iinc 2 1, 3) := by decide +kernel
theorem dX10_someLeft_33 : decode cX10_someLeft 33 = .ok (.goto (-29), 3) := by decide +kernel
theorem dX10_someLeft_36 : decode cX10_someLeft 36 = .ok (.iload_n 1, 1) := by decide +kernel
theorem dX10_someLeft_37 : decode cX10_someLeft 37 = .ok (.ireturn, 1) := by decide +kernel
theorem dX10_laysSeams_0 : decode cX10_laysSeams 0 = .ok (.aload_n 0, 1) := by decide +kernel
theorem dX10_laysSeams_1 : decode cX10_laysSeams 1 = .ok (.invokevirtual 404, 3) := by decide +kernel
theorem dX10_laysSeams_4 : decode cX10_laysSeams 4 = .ok (.istore_n 1, 1) := by decide +kernel
theorem dX10_laysSeams_5 : decode cX10_laysSeams 5 = .ok (.iconst 0, 1) := by decide +kernel
theorem dX10_laysSeams_6 : decode cX10_laysSeams 6 = .ok (.istore_n 2, 1) := by decide +kernel
theorem dX10_laysSeams_7 : decode cX10_laysSeams 7 = .ok (.iload_n 2, 1) := by decide +kernel
theorem dX10_laysSeams_8 : decode cX10_laysSeams 8 = .ok (.iload_n 1, 1) := by decide +kernel
theorem dX10_laysSeams_9 : decode cX10_laysSeams 9 = .ok (.if_icmp .gt 126, 3) := by decide +kernel
theorem dX10_laysSeams_12 : decode cX10_laysSeams 12 = .ok (.iconst 0, 1) := by decide +kernel
theorem dX10_laysSeams_13 : decode cX10_laysSeams 13 = .ok (.istore_n 3, 1) := by decide +kernel
theorem dX10_laysSeams_14 : decode cX10_laysSeams 14 = .ok (.iload_n 3, 1) := by decide +kernel
theorem dX10_laysSeams_15 : decode cX10_laysSeams 15 = .ok (.aload_n 0, 1) := by decide +kernel
theorem dX10_laysSeams_16 : decode cX10_laysSeams 16 = .ok (.getfield 163, 3) := by decide +kernel
theorem dX10_laysSeams_19 : decode cX10_laysSeams 19 = .ok (.if_icmp .ge 110, 3) := by decide +kernel
theorem dX10_laysSeams_22 : decode cX10_laysSeams 22 = .ok (.iconst 0, 1) := by decide +kernel
theorem dX10_laysSeams_23 : decode cX10_laysSeams 23 = .ok (.istore 4, 2) := by decide +kernel
theorem dX10_laysSeams_25 : decode cX10_laysSeams 25 = .ok (.iconst 0, 1) := by decide +kernel
theorem dX10_laysSeams_26 : decode cX10_laysSeams 26 = .ok (.istore 5, 2) := by decide +kernel
theorem dX10_laysSeams_28 : decode cX10_laysSeams 28 = .ok (.iload 5, 2) := by decide +kernel
theorem dX10_laysSeams_30 : decode cX10_laysSeams 30 = .ok (.aload_n 0, 1) := by decide +kernel
theorem dX10_laysSeams_31 : decode cX10_laysSeams 31 = .ok (.getfield 163, 3) := by decide +kernel
theorem dX10_laysSeams_34 : decode cX10_laysSeams 34 = .ok (.if_icmp .ge 76, 3) := by decide +kernel
theorem dX10_laysSeams_37 : decode cX10_laysSeams 37 = .ok (.iload_n 2, 1) := by decide +kernel
theorem dX10_laysSeams_38 : decode cX10_laysSeams 38 = .ok (.iload_n 1, 1) := by decide +kernel
theorem dX10_laysSeams_39 : decode cX10_laysSeams 39 = .ok (.iand, 1) := by decide +kernel
theorem dX10_laysSeams_40 : decode cX10_laysSeams 40 = .ok (.iconst 1, 1) := by decide +kernel
theorem dX10_laysSeams_41 : decode cX10_laysSeams 41 = .ok (.iload 5, 2) := by decide +kernel
theorem dX10_laysSeams_43 : decode cX10_laysSeams 43 = .ok (.ishl, 1) := by decide +kernel
theorem dX10_laysSeams_44 : decode cX10_laysSeams 44 = .ok (.iand, 1) := by decide +kernel
theorem dX10_laysSeams_45 : decode cX10_laysSeams 45 = .ok (.ifCond .eq 59, 3) := by decide +kernel
theorem dX10_laysSeams_48 : decode cX10_laysSeams 48 = .ok (.aload_n 0, 1) := by decide +kernel
theorem dX10_laysSeams_49 : decode cX10_laysSeams 49 = .ok (.iload_n 3, 1) := by decide +kernel
theorem dX10_laysSeams_50 : decode cX10_laysSeams 50 = .ok (.invokevirtual 336, 3) := by decide +kernel
theorem dX10_laysSeams_53 : decode cX10_laysSeams 53 = .ok (.ifCond .ne 6, 3) := by decide +kernel
theorem dX10_laysSeams_56 : decode cX10_laysSeams 56 = .ok (.goto 48, 3) := by decide +kernel
theorem dX10_laysSeams_59 : decode cX10_laysSeams 59 = .ok (.aload_n 0, 1) := by decide +kernel
theorem dX10_laysSeams_60 : decode cX10_laysSeams 60 = .ok (.iload_n 3, 1) := by decide +kernel
theorem dX10_laysSeams_61 : decode cX10_laysSeams 61 = .ok (.iload 5, 2) := by decide +kernel
theorem dX10_laysSeams_63 : decode cX10_laysSeams 63 = .ok (.invokevirtual 407, 3) := by decide +kernel
theorem dX10_laysSeams_66 : decode cX10_laysSeams 66 = .ok (.aload_n 0, 1) := by decide +kernel
theorem dX10_laysSeams_67 : decode cX10_laysSeams 67 = .ok (.getfield 80, 3) := by decide +kernel
theorem dX10_laysSeams_70 : decode cX10_laysSeams 70 = .ok (.iload 5, 2) := by decide +kernel
theorem dX10_laysSeams_72 : decode cX10_laysSeams 72 = .ok (.bipush 6, 2) := by decide +kernel
theorem dX10_laysSeams_74 : decode cX10_laysSeams 74 = .ok (.ishl, 1) := by decide +kernel
theorem dX10_laysSeams_75 : decode cX10_laysSeams 75 = .ok (.iload_n 2, 1) := by decide +kernel
theorem dX10_laysSeams_76 : decode cX10_laysSeams 76 = .ok (.iconst 1, 1) := by decide +kernel
theorem dX10_laysSeams_77 : decode cX10_laysSeams 77 = .ok (.iload 5, 2) := by decide +kernel
theorem dX10_laysSeams_79 : decode cX10_laysSeams 79 = .ok (.ishl, 1) := by decide +kernel
theorem dX10_laysSeams_80 : decode cX10_laysSeams 80 = .ok (.iconst (-1), 1) := by decide +kernel
theorem dX10_laysSeams_81 : decode cX10_laysSeams 81 = .ok (.ixor, 1) := by decide +kernel
theorem dX10_laysSeams_82 : decode cX10_laysSeams 82 = .ok (.iand, 1) := by decide +kernel
theorem dX10_laysSeams_83 : decode cX10_laysSeams 83 = .ok (.ior, 1) := by decide +kernel
theorem dX10_laysSeams_84 : decode cX10_laysSeams 84 = .ok (.iaload, 1) := by decide +kernel
theorem dX10_laysSeams_85 : decode cX10_laysSeams 85 = .ok (.iadd, 1) := by decide +kernel
theorem dX10_laysSeams_86 : decode cX10_laysSeams 86 = .ok (.istore 6, 2) := by decide +kernel
theorem dX10_laysSeams_88 : decode cX10_laysSeams 88 = .ok (.iload 6, 2) := by decide +kernel
theorem dX10_laysSeams_90 : decode cX10_laysSeams 90 = .ok (.iload 4, 2) := by decide +kernel
theorem dX10_laysSeams_92 : decode cX10_laysSeams 92 = .ok (.if_icmp .le 8, 3) := by decide +kernel
theorem dX10_laysSeams_95 : decode cX10_laysSeams 95 = .ok (.iload 6, 2) := by decide +kernel
theorem dX10_laysSeams_97 : decode cX10_laysSeams 97 = .ok (.goto 5, 3) := by decide +kernel
theorem dX10_laysSeams_100 : decode cX10_laysSeams 100 = .ok (.iload 4, 2) := by decide +kernel
theorem dX10_laysSeams_102 : decode cX10_laysSeams 102 = .ok (.istore 4, 2) := by decide +kernel
theorem dX10_laysSeams_104 : decode cX10_laysSeams 104 = .ok (.iinc 5 1, 3) := by decide +kernel
theorem dX10_laysSeams_107 : decode cX10_laysSeams 107 = .ok (.goto (-79), 3) := by decide +kernel
theorem dX10_laysSeams_110 : decode cX10_laysSeams 110 = .ok (.aload_n 0, 1) := by decide +kernel
theorem dX10_laysSeams_111 : decode cX10_laysSeams 111 = .ok (.getfield 80, 3) := by decide +kernel
theorem dX10_laysSeams_114 : decode cX10_laysSeams 114 = .ok (.iload_n 3, 1) := by decide +kernel
theorem dX10_laysSeams_115 : decode cX10_laysSeams 115 = .ok (.bipush 6, 2) := by decide +kernel
theorem dX10_laysSeams_117 : decode cX10_laysSeams 117 = .ok (.ishl, 1) := by decide +kernel
theorem dX10_laysSeams_118 : decode cX10_laysSeams 118 = .ok (.iload_n 2, 1) := by decide +kernel
theorem dX10_laysSeams_119 : decode cX10_laysSeams 119 = .ok (.ior, 1) := by decide +kernel
theorem dX10_laysSeams_120 : decode cX10_laysSeams 120 = .ok (.iload 4, 2) := by decide +kernel
theorem dX10_laysSeams_122 : decode cX10_laysSeams 122 = .ok (.iastore, 1) := by decide +kernel
theorem dX10_laysSeams_123 : decode cX10_laysSeams 123 = .ok (.iinc 3 1, 3) := by decide +kernel
theorem dX10_laysSeams_126 : decode cX10_laysSeams 126 = .ok (.goto (-112), 3) := by decide +kernel
theorem dX10_laysSeams_129 : decode cX10_laysSeams 129 = .ok (.iinc 2 1, 3) := by decide +kernel
theorem dX10_laysSeams_132 : decode cX10_laysSeams 132 = .ok (.goto (-125), 3) := by decide +kernel
theorem dX10_laysSeams_135 : decode cX10_laysSeams 135 = .ok (.aload_n 0, 1) := by decide +kernel
theorem dX10_laysSeams_136 : decode cX10_laysSeams 136 = .ok (.iconst 0, 1) := by decide +kernel
theorem dX10_laysSeams_137 : decode cX10_laysSeams 137 = .ok (.putfield 410, 3) := by decide +kernel
theorem dX10_laysSeams_140 : decode cX10_laysSeams 140 = .ok (.iload_n 1, 1) := by decide +kernel
theorem dX10_laysSeams_141 : decode cX10_laysSeams 141 = .ok (.istore_n 2, 1) := by decide +kernel
theorem dX10_laysSeams_142 : decode cX10_laysSeams 142 = .ok (.iconst (-1), 1) := by decide +kernel
theorem dX10_laysSeams_143 : decode cX10_laysSeams 143 = .ok (.istore_n 3, 1) := by decide +kernel
theorem dX10_laysSeams_144 : decode cX10_laysSeams 144 = .ok (.iconst (-1), 1) := by decide +kernel
theorem dX10_laysSeams_145 : decode cX10_laysSeams 145 = .ok (.istore 4, 2) := by decide +kernel
theorem dX10_laysSeams_147 : decode cX10_laysSeams 147 = .ok (.iload_n 2, 1) := by decide +kernel
theorem dX10_laysSeams_148 : decode cX10_laysSeams 148 = .ok (.ifCond .eq 146, 3) := by decide +kernel
theorem dX10_laysSeams_151 : decode cX10_laysSeams 151 = .ok (.iconst (-1), 1) := by decide +kernel
theorem dX10_laysSeams_152 : decode cX10_laysSeams 152 = .ok (.istore 5, 2) := by decide +kernel
theorem dX10_laysSeams_154 : decode cX10_laysSeams 154 = .ok (.iconst (-1), 1) := by decide +kernel
theorem dX10_laysSeams_155 : decode cX10_laysSeams 155 = .ok (.istore 6, 2) := by decide +kernel
theorem dX10_laysSeams_157 : decode cX10_laysSeams 157 = .ok (.iconst 0, 1) := by decide +kernel
theorem dX10_laysSeams_158 : decode cX10_laysSeams 158 = .ok (.istore 7, 2) := by decide +kernel
theorem dX10_laysSeams_160 : decode cX10_laysSeams 160 = .ok (.iload 7, 2) := by decide +kernel
theorem dX10_laysSeams_162 : decode cX10_laysSeams 162 = .ok (.aload_n 0, 1) := by decide +kernel
theorem dX10_laysSeams_163 : decode cX10_laysSeams 163 = .ok (.getfield 163, 3) := by decide +kernel
theorem dX10_laysSeams_166 : decode cX10_laysSeams 166 = .ok (.if_icmp .ge 77, 3) := by decide +kernel
theorem dX10_laysSeams_169 : decode cX10_laysSeams 169 = .ok (.iload_n 2, 1) := by decide +kernel
theorem dX10_laysSeams_170 : decode cX10_laysSeams 170 = .ok (.iload 7, 2) := by decide +kernel
theorem dX10_laysSeams_172 : decode cX10_laysSeams 172 = .ok (.ishr, 1) := by decide +kernel
theorem dX10_laysSeams_173 : decode cX10_laysSeams 173 = .ok (.iconst 1, 1) := by decide +kernel
theorem dX10_laysSeams_174 : decode cX10_laysSeams 174 = .ok (.iand, 1) := by decide +kernel
theorem dX10_laysSeams_175 : decode cX10_laysSeams 175 = .ok (.ifCond .ne 6, 3) := by decide +kernel
theorem dX10_laysSeams_178 : decode cX10_laysSeams 178 = .ok (.goto 59, 3) := by decide +kernel
theorem dX10_laysSeams_181 : decode cX10_laysSeams 181 = .ok (.iload_n 3, 1) := by decide +kernel
theorem dX10_laysSeams_182 : decode cX10_laysSeams 182 = .ok (.iconst (-1), 1) := by decide +kernel
theorem dX10_laysSeams_183 : decode cX10_laysSeams 183 = .ok (.if_icmp .ne 7, 3) := by decide +kernel
theorem dX10_laysSeams_186 : decode cX10_laysSeams 186 = .ok (.iconst 0, 1) := by decide +kernel
theorem dX10_laysSeams_187 : decode cX10_laysSeams 187 = .ok (.goto 10, 3) := by decide +kernel
theorem dX10_laysSeams_190 : decode cX10_laysSeams 190 = .ok (.aload_n 0, 1) := by decide +kernel
theorem dX10_laysSeams_191 : decode cX10_laysSeams 191 = .ok (.iload_n 3, 1) := by decide +kernel
theorem dX10_laysSeams_192 : decode cX10_laysSeams 192 = .ok (.iload 7, 2) := by decide +kernel
theorem dX10_laysSeams_194 : decode cX10_laysSeams 194 = .ok (.invokevirtual 407, 3) := by decide +kernel
theorem dX10_laysSeams_197 : decode cX10_laysSeams 197 = .ok (.aload_n 0, 1) := by decide +kernel
theorem dX10_laysSeams_198 : decode cX10_laysSeams 198 = .ok (.getfield 80, 3) := by decide +kernel
theorem dX10_laysSeams_201 : decode cX10_laysSeams 201 = .ok (.iload 7, 2) := by decide +kernel
theorem dX10_laysSeams_203 : decode cX10_laysSeams 203 = .ok (.bipush 6, 2) := by decide +kernel
theorem dX10_laysSeams_205 : decode cX10_laysSeams 205 = .ok (.ishl, 1) := by decide +kernel
theorem dX10_laysSeams_206 : decode cX10_laysSeams 206 = .ok (.iload_n 2, 1) := by decide +kernel
theorem dX10_laysSeams_207 : decode cX10_laysSeams 207 = .ok (.iconst 1, 1) := by decide +kernel
theorem dX10_laysSeams_208 : decode cX10_laysSeams 208 = .ok (.iload 7, 2) := by decide +kernel
theorem dX10_laysSeams_210 : decode cX10_laysSeams 210 = .ok (.ishl, 1) := by decide +kernel
theorem dX10_laysSeams_211 : decode cX10_laysSeams 211 = .ok (.iconst (-1), 1) := by decide +kernel
theorem dX10_laysSeams_212 : decode cX10_laysSeams 212 = .ok (.ixor, 1) := by decide +kernel
theorem dX10_laysSeams_213 : decode cX10_laysSeams 213 = .ok (.iand, 1) := by decide +kernel
theorem dX10_laysSeams_214 : decode cX10_laysSeams 214 = .ok (.ior, 1) := by decide +kernel
theorem dX10_laysSeams_215 : decode cX10_laysSeams 215 = .ok (.iaload, 1) := by decide +kernel
theorem dX10_laysSeams_216 : decode cX10_laysSeams 216 = .ok (.iadd, 1) := by decide +kernel
theorem dX10_laysSeams_217 : decode cX10_laysSeams 217 = .ok (.istore 8, 2) := by decide +kernel
theorem dX10_laysSeams_219 : decode cX10_laysSeams 219 = .ok (.iload 8, 2) := by decide +kernel
theorem dX10_laysSeams_221 : decode cX10_laysSeams 221 = .ok (.iload 6, 2) := by decide +kernel
theorem dX10_laysSeams_223 : decode cX10_laysSeams 223 = .ok (.if_icmp .gt 6, 3) := by decide +kernel
theorem dX10_laysSeams_226 : decode cX10_laysSeams 226 = .ok (.goto 11, 3) := by decide +kernel
theorem dX10_laysSeams_229 : decode cX10_laysSeams 229 = .ok (.iload 7, 2) := by decide +kernel
theorem dX10_laysSeams_231 : decode cX10_laysSeams 231 = .ok (.istore 5, 2) := by decide +kernel
theorem dX10_laysSeams_233 : decode cX10_laysSeams 233 = .ok (.iload 8, 2) := by decide +kernel
theorem dX10_laysSeams_235 : decode cX10_laysSeams 235 = .ok (.istore 6, 2) := by decide +kernel
theorem dX10_laysSeams_237 : decode cX10_laysSeams 237 = .ok (.iinc 7 1, 3) := by decide +kernel
theorem dX10_laysSeams_240 : decode cX10_laysSeams 240 = .ok (.goto (-80), 3) := by decide +kernel
theorem dX10_laysSeams_243 : decode cX10_laysSeams 243 = .ok (.iload 4, 2) := by decide +kernel
theorem dX10_laysSeams_245 : decode cX10_laysSeams 245 = .ok (.iconst (-1), 1) := by decide +kernel
theorem dX10_laysSeams_246 : decode cX10_laysSeams 246 = .ok (.if_icmp .ne 8, 3) := by decide +kernel
theorem dX10_laysSeams_249 : decode cX10_laysSeams 249 = .ok (.iload 6, 2) := by decide +kernel
theorem dX10_laysSeams_251 : decode cX10_laysSeams 251 = .ok (.goto 5, 3) := by decide +kernel
theorem dX10_laysSeams_254 : decode cX10_laysSeams 254 = .ok (.iload 4, 2) := by decide +kernel
theorem dX10_laysSeams_256 : decode cX10_laysSeams 256 = .ok (.istore 4, 2) := by decide +kernel
theorem dX10_laysSeams_258 : decode cX10_laysSeams 258 = .ok (.aload_n 0, 1) := by decide +kernel
theorem dX10_laysSeams_259 : decode cX10_laysSeams 259 = .ok (.getfield 83, 3) := by decide +kernel
theorem dX10_laysSeams_262 : decode cX10_laysSeams 262 = .ok (.aload_n 0, 1) := by decide +kernel
theorem dX10_laysSeams_263 : decode cX10_laysSeams 263 = .ok (.getfield 410, 3) := by decide +kernel
theorem dX10_laysSeams_266 : decode cX10_laysSeams 266 = .ok (.iload 5, 2) := by decide +kernel
theorem dX10_laysSeams_268 : decode cX10_laysSeams 268 = .ok (.iastore, 1) := by decide +kernel
theorem dX10_laysSeams_269 : decode cX10_laysSeams 269 = .ok (.aload_n 0, 1) := by decide +kernel
theorem dX10_laysSeams_270 : decode cX10_laysSeams 270 = .ok (.dup, 1) := by decide +kernel
theorem dX10_laysSeams_271 : decode cX10_laysSeams 271 = .ok (.getfield 410, 3) := by decide +kernel
theorem dX10_laysSeams_274 : decode cX10_laysSeams 274 = .ok (.iconst 1, 1) := by decide +kernel
theorem dX10_laysSeams_275 : decode cX10_laysSeams 275 = .ok (.iadd, 1) := by decide +kernel
theorem dX10_laysSeams_276 : decode cX10_laysSeams 276 = .ok (.putfield 410, 3) := by decide +kernel
theorem dX10_laysSeams_279 : decode cX10_laysSeams 279 = .ok (.iload 5, 2) := by decide +kernel
theorem dX10_laysSeams_281 : decode cX10_laysSeams 281 = .ok (.istore_n 3, 1) := by decide +kernel
theorem dX10_laysSeams_282 : decode cX10_laysSeams 282 = .ok (.iload_n 2, 1) := by decide +kernel
theorem dX10_laysSeams_283 : decode cX10_laysSeams 283 = .ok (.iconst 1, 1) := by decide +kernel
theorem dX10_laysSeams_284 : decode cX10_laysSeams 284 = .ok (.iload 5, 2) := by decide +kernel
theorem dX10_laysSeams_286 : decode cX10_laysSeams 286 = .ok (.ishl, 1) := by decide +kernel
theorem dX10_laysSeams_287 : decode cX10_laysSeams 287 = .ok (.iconst (-1), 1) := by decide +kernel
theorem dX10_laysSeams_288 : decode cX10_laysSeams 288 = .ok (.ixor, 1) := by decide +kernel
theorem dX10_laysSeams_289 : decode cX10_laysSeams 289 = .ok (.iand, 1) := by decide +kernel
theorem dX10_laysSeams_290 : decode cX10_laysSeams 290 = .ok (.istore_n 2, 1) := by decide +kernel
theorem dX10_laysSeams_291 : decode cX10_laysSeams 291 = .ok (.goto (-144), 3) := by decide +kernel
theorem dX10_laysSeams_294 : decode cX10_laysSeams 294 = .ok (.iload 4, 2) := by decide +kernel
theorem dX10_laysSeams_296 : decode cX10_laysSeams 296 = .ok (.iconst (-1), 1) := by decide +kernel
theorem dX10_laysSeams_297 : decode cX10_laysSeams 297 = .ok (.if_icmp .ne 7, 3) := by decide +kernel
theorem dX10_laysSeams_300 : decode cX10_laysSeams 300 = .ok (.iconst 0, 1) := by decide +kernel
theorem dX10_laysSeams_301 : decode cX10_laysSeams 301 = .ok (.goto 5, 3) := by decide +kernel
theorem dX10_laysSeams_304 : decode cX10_laysSeams 304 = .ok (.iload 4, 2) := by decide +kernel
theorem dX10_laysSeams_306 : decode cX10_laysSeams 306 = .ok (.ireturn, 1) := by decide +kernel
theorem dX10_stuff_0 : decode cX10_stuff 0 = .ok (.aload_n 0, 1) := by decide +kernel
theorem dX10_stuff_1 : decode cX10_stuff 1 = .ok (.iconst 0, 1) := by decide +kernel
theorem dX10_stuff_2 : decode cX10_stuff 2 = .ok (.putfield 3, 3) := by decide +kernel
theorem dX10_stuff_5 : decode cX10_stuff 5 = .ok (.aload_n 0, 1) := by decide +kernel
theorem dX10_stuff_6 : decode cX10_stuff 6 = .ok (.invokevirtual 314, 3) := by decide +kernel
theorem dX10_stuff_9 : decode cX10_stuff 9 = .ok (.aload_n 0, 1) := by decide +kernel
theorem dX10_stuff_10 : decode cX10_stuff 10 = .ok (.invokevirtual 413, 3) := by decide +kernel
theorem dX10_stuff_13 : decode cX10_stuff 13 = .ok (.ireturn, 1) := by decide +kernel
theorem dX10_stuffed_0 : decode cX10_stuffed 0 = .ok (.aload_n 0, 1) := by decide +kernel
theorem dX10_stuffed_1 : decode cX10_stuffed 1 = .ok (.iconst 0, 1) := by decide +kernel
theorem dX10_stuffed_2 : decode cX10_stuffed 2 = .ok (.putfield 3, 3) := by decide +kernel
theorem dX10_stuffed_5 : decode cX10_stuffed 5 = .ok (.aload_n 0, 1) := by decide +kernel
theorem dX10_stuffed_6 : decode cX10_stuffed 6 = .ok (.iload_n 1, 1) := by decide +kernel
theorem dX10_stuffed_7 : decode cX10_stuffed 7 = .ok (.ifCond .lt 7, 3) := by decide +kernel
theorem dX10_stuffed_10 : decode cX10_stuffed 10 = .ok (.iconst 1, 1) := by decide +kernel
theorem dX10_stuffed_11 : decode cX10_stuffed 11 = .ok (.goto 4, 3) := by decide +kernel
theorem dX10_stuffed_14 : decode cX10_stuffed 14 = .ok (.iconst 0, 1) := by decide +kernel
theorem dX10_stuffed_15 : decode cX10_stuffed 15 = .ok (.iconst 1, 1) := by decide +kernel
theorem dX10_stuffed_16 : decode cX10_stuffed 16 = .ok (.iconst 1, 1) := by decide +kernel
theorem dX10_stuffed_17 : decode cX10_stuffed 17 = .ok (.invokevirtual 205, 3) := by decide +kernel
theorem dX10_stuffed_20 : decode cX10_stuffed 20 = .ok (.ifCond .ne 5, 3) := by decide +kernel
theorem dX10_stuffed_23 : decode cX10_stuffed 23 = .ok (.iconst 0, 1) := by decide +kernel
theorem dX10_stuffed_24 : decode cX10_stuffed 24 = .ok (.ireturn, 1) := by decide +kernel
theorem dX10_stuffed_25 : decode cX10_stuffed 25 = .ok (.aload_n 0, 1) := by decide +kernel
theorem dX10_stuffed_26 : decode cX10_stuffed 26 = .ok (.invokevirtual 314, 3) := by decide +kernel
theorem dX10_stuffed_29 : decode cX10_stuffed 29 = .ok (.aload_n 0, 1) := by decide +kernel
theorem dX10_stuffed_30 : decode cX10_stuffed 30 = .ok (.invokevirtual 413, 3) := by decide +kernel
theorem dX10_stuffed_33 : decode cX10_stuffed 33 = .ok (.pop, 1) := by decide +kernel
theorem dX10_stuffed_34 : decode cX10_stuffed 34 = .ok (.iload_n 1, 1) := by decide +kernel
theorem dX10_stuffed_35 : decode cX10_stuffed 35 = .ok (.aload_n 0, 1) := by decide +kernel
theorem dX10_stuffed_36 : decode cX10_stuffed 36 = .ok (.getfield 410, 3) := by decide +kernel
theorem dX10_stuffed_39 : decode cX10_stuffed 39 = .ok (.if_icmp .ge 12, 3) := by decide +kernel
theorem dX10_stuffed_42 : decode cX10_stuffed 42 = .ok (.aload_n 0, 1) := by decide +kernel
theorem dX10_stuffed_43 : decode cX10_stuffed 43 = .ok (.getfield 83, 3) := by decide +kernel
theorem dX10_stuffed_46 : decode cX10_stuffed 46 = .ok (.iload_n 1, 1) := by decide +kernel
theorem dX10_stuffed_47 : decode cX10_stuffed 47 = .ok (.iaload, 1) := by decide +kernel
theorem dX10_stuffed_48 : decode cX10_stuffed 48 = .ok (.goto 4, 3) := by decide +kernel
theorem dX10_stuffed_51 : decode cX10_stuffed 51 = .ok (.iconst (-1), 1) := by decide +kernel
theorem dX10_stuffed_52 : decode cX10_stuffed 52 = .ok (.ireturn, 1) := by decide +kernel
theorem dX10_bedsWith_0 : decode cX10_bedsWith 0 = .ok (.iconst (-1), 1) := by decide +kernel
theorem dX10_bedsWith_1 : decode cX10_bedsWith 1 = .ok (.istore_n 3, 1) := by decide +kernel
theorem dX10_bedsWith_2 : decode cX10_bedsWith 2 = .ok (.iconst 0, 1) := by decide +kernel
theorem dX10_bedsWith_3 : decode cX10_bedsWith 3 = .ok (.istore 4, 2) := by decide +kernel
theorem dX10_bedsWith_5 : decode cX10_bedsWith 5 = .ok (.iload 4, 2) := by decide +kernel
theorem dX10_bedsWith_7 : decode cX10_bedsWith 7 = .ok (.iconst 1, 1) := by decide +kernel
theorem dX10_bedsWith_8 : decode cX10_bedsWith 8 = .ok (.aload_n 0, 1) := by decide +kernel
theorem dX10_bedsWith_9 : decode cX10_bedsWith 9 = .ok (.getfield 160, 3) := by decide +kernel
theorem dX10_bedsWith_12 : decode cX10_bedsWith 12 = .ok (.ishl, 1) := by decide +kernel
theorem dX10_bedsWith_13 : decode cX10_bedsWith 13 = .ok (.if_icmp .ge 95, 3) := by decide +kernel
theorem dX10_bedsWith_16 : decode cX10_bedsWith 16 = .ok (.iload 4, 2) := by decide +kernel
theorem dX10_bedsWith_18 : decode cX10_bedsWith 18 = .ok (.iload_n 2, 1) := by decide +kernel
theorem dX10_bedsWith_19 : decode cX10_bedsWith 19 = .ok (.iand, 1) := by decide +kernel
theorem dX10_bedsWith_20 : decode cX10_bedsWith 20 = .ok (.ifCond .ne 82, 3) := by decide +kernel
theorem dX10_bedsWith_23 : decode cX10_bedsWith 23 = .ok (.iload_n 3, 1) := by decide +kernel
theorem dX10_bedsWith_24 : decode cX10_bedsWith 24 = .ok (.iconst (-1), 1) := by decide +kernel
theorem dX10_bedsWith_25 : decode cX10_bedsWith 25 = .ok (.if_icmp .eq 18, 3) := by decide +kernel
theorem dX10_bedsWith_28 : decode cX10_bedsWith 28 = .ok (.iload 4, 2) := by decide +kernel
theorem dX10_bedsWith_30 : decode cX10_bedsWith 30 = .ok (.invokestatic 416, 3) := by decide +kernel
theorem dX10_bedsWith_33 : decode cX10_bedsWith 33 = .ok (.iload_n 3, 1) := by decide +kernel
theorem dX10_bedsWith_34 : decode cX10_bedsWith 34 = .ok (.invokestatic 416, 3) := by decide +kernel
theorem dX10_bedsWith_37 : decode cX10_bedsWith 37 = .ok (.if_icmp .lt 6, 3) := by decide +kernel
theorem dX10_bedsWith_40 : decode cX10_bedsWith 40 = .ok (.goto 62, 3) := by decide +kernel
theorem dX10_bedsWith_43 : decode cX10_bedsWith 43 = .ok (.iconst 0, 1) := by decide +kernel
theorem dX10_bedsWith_44 : decode cX10_bedsWith 44 = .ok (.istore 5, 2) := by decide +kernel
theorem dX10_bedsWith_46 : decode cX10_bedsWith 46 = .ok (.iconst 0, 1) := by decide +kernel
theorem dX10_bedsWith_47 : decode cX10_bedsWith 47 = .ok (.istore 6, 2) := by decide +kernel
theorem dX10_bedsWith_49 : decode cX10_bedsWith 49 = .ok (.iload 6, 2) := by decide +kernel
theorem dX10_bedsWith_51 : decode cX10_bedsWith 51 = .ok (.aload_n 0, 1) := by decide +kernel
theorem dX10_bedsWith_52 : decode cX10_bedsWith 52 = .ok (.getfield 160, 3) := by decide +kernel
theorem dX10_bedsWith_55 : decode cX10_bedsWith 55 = .ok (.if_icmp .ge 35, 3) := by decide +kernel
theorem dX10_bedsWith_58 : decode cX10_bedsWith 58 = .ok (.iload 5, 2) := by decide +kernel
theorem dX10_bedsWith_60 : decode cX10_bedsWith 60 = .ok (.iload 4, 2) := by decide +kernel
theorem dX10_bedsWith_62 : decode cX10_bedsWith 62 = .ok (.iload 6, 2) := by decide +kernel
theorem dX10_bedsWith_64 : decode cX10_bedsWith 64 = .ok (.ishr, 1) := by decide +kernel
theorem dX10_bedsWith_65 : decode cX10_bedsWith 65 = .ok (.iconst 1, 1) := by decide +kernel
theorem dX10_bedsWith_66 : decode cX10_bedsWith 66 = .ok (.iand, 1) := by decide +kernel
theorem dX10_bedsWith_67 : decode cX10_bedsWith 67 = .ok (.iconst 1, 1) := by decide +kernel
theorem dX10_bedsWith_68 : decode cX10_bedsWith 68 = .ok (.if_icmp .ne 12, 3) := by decide +kernel
theorem dX10_bedsWith_71 : decode cX10_bedsWith 71 = .ok (.aload_n 0, 1) := by decide +kernel
theorem dX10_bedsWith_72 : decode cX10_bedsWith 72 = .ok (.iload 6, 2) := by decide +kernel
theorem dX10_bedsWith_74 : decode cX10_bedsWith 74 = .ok (.invokevirtual 361, 3) := by decide +kernel
theorem dX10_bedsWith_77 : decode cX10_bedsWith 77 = .ok (.goto 4, 3) := by decide +kernel
theorem dX10_bedsWith_80 : decode cX10_bedsWith 80 = .ok (.iconst 0, 1) := by decide +kernel
theorem dX10_bedsWith_81 : decode cX10_bedsWith 81 = .ok (.ior, 1) := by decide +kernel
theorem dX10_bedsWith_82 : decode cX10_bedsWith 82 = .ok (.istore 5, 2) := by decide +kernel
theorem dX10_bedsWith_84 : decode cX10_bedsWith 84 = .ok (.iinc 6 1, 3) := by decide +kernel
theorem dX10_bedsWith_87 : decode cX10_bedsWith 87 = .ok (.goto (-38), 3) := by decide +kernel
theorem dX10_bedsWith_90 : decode cX10_bedsWith 90 = .ok (.iload_n 1, 1) := by decide +kernel
theorem dX10_bedsWith_91 : decode cX10_bedsWith 91 = .ok (.iload 5, 2) := by decide +kernel
theorem dX10_bedsWith_93 : decode cX10_bedsWith 93 = .ok (.iconst (-1), 1) := by decide +kernel
theorem dX10_bedsWith_94 : decode cX10_bedsWith 94 = .ok (.ixor, 1) := by decide +kernel
theorem dX10_bedsWith_95 : decode cX10_bedsWith 95 = .ok (.iand, 1) := by decide +kernel
theorem dX10_bedsWith_96 : decode cX10_bedsWith 96 = .ok (.ifCond .ne 6, 3) := by decide +kernel
theorem dX10_bedsWith_99 : decode cX10_bedsWith 99 = .ok (.iload 4, 2) := by decide +kernel
theorem dX10_bedsWith_101 : decode cX10_bedsWith 101 = .ok (.istore_n 3, 1) := by decide +kernel
theorem dX10_bedsWith_102 : decode cX10_bedsWith 102 = .ok (.iinc 4 1, 3) := by decide +kernel
theorem dX10_bedsWith_105 : decode cX10_bedsWith 105 = .ok (.goto (-100), 3) := by decide +kernel
theorem dX10_bedsWith_108 : decode cX10_bedsWith 108 = .ok (.iload_n 3, 1) := by decide +kernel
theorem dX10_bedsWith_109 : decode cX10_bedsWith 109 = .ok (.ireturn, 1) := by decide +kernel
theorem dX10_all_0 : decode cX10_all 0 = .ok (.aload_n 0, 1) := by decide +kernel
theorem dX10_all_1 : decode cX10_all 1 = .ok (.iconst 0, 1) := by decide +kernel
theorem dX10_all_2 : decode cX10_all 2 = .ok (.putfield 3, 3) := by decide +kernel
theorem dX10_all_5 : decode cX10_all 5 = .ok (.aload_n 0, 1) := by decide +kernel
theorem dX10_all_6 : decode cX10_all 6 = .ok (.iload_n 1, 1) := by decide +kernel
theorem dX10_all_7 : decode cX10_all 7 = .ok (.iconst 0, 1) := by decide +kernel
theorem dX10_all_8 : decode cX10_all 8 = .ok (.ldc_w 419, 3) := by decide +kernel
theorem dX10_all_11 : decode cX10_all 11 = .ok (.invokestatic 383, 3) := by decide +kernel
theorem dX10_all_14 : decode cX10_all 14 = .ok (.iconst 1, 1) := by decide +kernel
theorem dX10_all_15 : decode cX10_all 15 = .ok (.iconst 1, 1) := by decide +kernel
theorem dX10_all_16 : decode cX10_all 16 = .ok (.invokevirtual 205, 3) := by decide +kernel
theorem dX10_all_19 : decode cX10_all 19 = .ok (.ifCond .ne 5, 3) := by decide +kernel
theorem dX10_all_22 : decode cX10_all 22 = .ok (.iconst 0, 1) := by decide +kernel
theorem dX10_all_23 : decode cX10_all 23 = .ok (.ireturn, 1) := by decide +kernel
theorem dX10_all_24 : decode cX10_all 24 = .ok (.aload_n 0, 1) := by decide +kernel
theorem dX10_all_25 : decode cX10_all 25 = .ok (.invokevirtual 314, 3) := by decide +kernel
theorem dX10_all_28 : decode cX10_all 28 = .ok (.aload_n 0, 1) := by decide +kernel
theorem dX10_all_29 : decode cX10_all 29 = .ok (.iload_n 1, 1) := by decide +kernel
theorem dX10_all_30 : decode cX10_all 30 = .ok (.iconst 0, 1) := by decide +kernel
theorem dX10_all_31 : decode cX10_all 31 = .ok (.invokevirtual 420, 3) := by decide +kernel
theorem dX10_all_34 : decode cX10_all 34 = .ok (.ireturn, 1) := by decide +kernel
theorem dX10_tour_0 : decode cX10_tour 0 = .ok (.aload_n 0, 1) := by decide +kernel
theorem dX10_tour_1 : decode cX10_tour 1 = .ok (.iconst 0, 1) := by decide +kernel
theorem dX10_tour_2 : decode cX10_tour 2 = .ok (.putfield 3, 3) := by decide +kernel
theorem dX10_tour_5 : decode cX10_tour 5 = .ok (.aload_n 0, 1) := by decide +kernel
theorem dX10_tour_6 : decode cX10_tour 6 = .ok (.iload_n 1, 1) := by decide +kernel
theorem dX10_tour_7 : decode cX10_tour 7 = .ok (.iconst 1, 1) := by decide +kernel
theorem dX10_tour_8 : decode cX10_tour 8 = .ok (.invokevirtual 401, 3) := by decide +kernel
theorem dX10_tour_11 : decode cX10_tour 11 = .ok (.ifCond .ne 5, 3) := by decide +kernel
theorem dX10_tour_14 : decode cX10_tour 14 = .ok (.iconst 0, 1) := by decide +kernel
theorem dX10_tour_15 : decode cX10_tour 15 = .ok (.ireturn, 1) := by decide +kernel
theorem dX10_tour_16 : decode cX10_tour 16 = .ok (.aload_n 0, 1) := by decide +kernel
theorem dX10_tour_17 : decode cX10_tour 17 = .ok (.invokevirtual 314, 3) := by decide +kernel
theorem dX10_tour_20 : decode cX10_tour 20 = .ok (.iconst 0, 1) := by decide +kernel
theorem dX10_tour_21 : decode cX10_tour 21 = .ok (.istore_n 2, 1) := by decide +kernel
theorem dX10_tour_22 : decode cX10_tour 22 = .ok (.iconst 0, 1) := by decide +kernel
theorem dX10_tour_23 : decode cX10_tour 23 = .ok (.istore_n 3, 1) := by decide +kernel
theorem dX10_tour_24 : decode cX10_tour 24 = .ok (.iload_n 3, 1) := by decide +kernel
theorem dX10_tour_25 : decode cX10_tour 25 = .ok (.aload_n 0, 1) := by decide +kernel
theorem dX10_tour_26 : decode cX10_tour 26 = .ok (.getfield 160, 3) := by decide +kernel
theorem dX10_tour_29 : decode cX10_tour 29 = .ok (.if_icmp .ge 17, 3) := by decide +kernel
theorem dX10_tour_32 : decode cX10_tour 32 = .ok (.iload_n 2, 1) := by decide +kernel
theorem dX10_tour_33 : decode cX10_tour 33 = .ok (.aload_n 0, 1) := by decide +kernel
theorem dX10_tour_34 : decode cX10_tour 34 = .ok (.iload_n 3, 1) := by decide +kernel
theorem dX10_tour_35 : decode cX10_tour 35 = .ok (.invokevirtual 361, 3) := by decide +kernel
theorem dX10_tour_38 : decode cX10_tour 38 = .ok (.ior, 1) := by decide +kernel
theorem dX10_tour_39 : decode cX10_tour 39 = .ok (.istore_n 2, 1) := by decide +kernel
theorem dX10_tour_40 : decode cX10_tour 40 = .ok (.iinc 3 1, 3) := by decide +kernel
theorem dX10_tour_43 : decode cX10_tour 43 = .ok (.goto (-19), 3) := by decide +kernel
theorem dX10_tour_46 : decode cX10_tour 46 = .ok (.aload_n 0, 1) := by decide +kernel
theorem dX10_tour_47 : decode cX10_tour 47 = .ok (.iload_n 2, 1) := by decide +kernel
theorem dX10_tour_48 : decode cX10_tour 48 = .ok (.aload_n 0, 1) := by decide +kernel
theorem dX10_tour_49 : decode cX10_tour 49 = .ok (.getfield 68, 3) := by decide +kernel
theorem dX10_tour_52 : decode cX10_tour 52 = .ok (.bipush 95, 2) := by decide +kernel
theorem dX10_tour_54 : decode cX10_tour 54 = .ok (.iload_n 1, 1) := by decide +kernel
theorem dX10_tour_55 : decode cX10_tour 55 = .ok (.iadd, 1) := by decide +kernel
theorem dX10_tour_56 : decode cX10_tour 56 = .ok (.iaload, 1) := by decide +kernel
theorem dX10_tour_57 : decode cX10_tour 57 = .ok (.iconst (-1), 1) := by decide +kernel
theorem dX10_tour_58 : decode cX10_tour 58 = .ok (.ixor, 1) := by decide +kernel
theorem dX10_tour_59 : decode cX10_tour 59 = .ok (.iand, 1) := by decide +kernel
theorem dX10_tour_60 : decode cX10_tour 60 = .ok (.iconst 0, 1) := by decide +kernel
theorem dX10_tour_61 : decode cX10_tour 61 = .ok (.invokevirtual 420, 3) := by decide +kernel
theorem dX10_tour_64 : decode cX10_tour 64 = .ok (.ireturn, 1) := by decide +kernel
theorem dX10_laysLasts_0 : decode cX10_laysLasts 0 = .ok (.iconst 0, 1) := by decide +kernel
theorem dX10_laysLasts_1 : decode cX10_laysLasts 1 = .ok (.istore_n 1, 1) := by decide +kernel
theorem dX10_laysLasts_2 : decode cX10_laysLasts 2 = .ok (.iload_n 1, 1) := by decide +kernel
theorem dX10_laysLasts_3 : decode cX10_laysLasts 3 = .ok (.aload_n 0, 1) := by decide +kernel
theorem dX10_laysLasts_4 : decode cX10_laysLasts 4 = .ok (.getfield 163, 3) := by decide +kernel
theorem dX10_laysLasts_7 : decode cX10_laysLasts 7 = .ok (.if_icmp .ge 116, 3) := by decide +kernel
theorem dX10_laysLasts_10 : decode cX10_laysLasts 10 = .ok (.iconst 1, 1) := by decide +kernel
theorem dX10_laysLasts_11 : decode cX10_laysLasts 11 = .ok (.istore_n 2, 1) := by decide +kernel
theorem dX10_laysLasts_12 : decode cX10_laysLasts 12 = .ok (.iload_n 2, 1) := by decide +kernel
theorem dX10_laysLasts_13 : decode cX10_laysLasts 13 = .ok (.bipush 9, 2) := by decide +kernel
theorem dX10_laysLasts_15 : decode cX10_laysLasts 15 = .ok (.if_icmp .gt 102, 3) := by decide +kernel
theorem dX10_laysLasts_18 : decode cX10_laysLasts 18 = .ok (.aload_n 0, 1) := by decide +kernel
theorem dX10_laysLasts_19 : decode cX10_laysLasts 19 = .ok (.invokevirtual 314, 3) := by decide +kernel
theorem dX10_laysLasts_22 : decode cX10_laysLasts 22 = .ok (.aload_n 0, 1) := by decide +kernel
theorem dX10_laysLasts_23 : decode cX10_laysLasts 23 = .ok (.iload_n 1, 1) := by decide +kernel
theorem dX10_laysLasts_24 : decode cX10_laysLasts 24 = .ok (.iload_n 2, 1) := by decide +kernel
theorem dX10_laysLasts_25 : decode cX10_laysLasts 25 = .ok (.aload_n 0, 1) := by decide +kernel
theorem dX10_laysLasts_26 : decode cX10_laysLasts 26 = .ok (.iload_n 1, 1) := by decide +kernel
theorem dX10_laysLasts_27 : decode cX10_laysLasts 27 = .ok (.invokevirtual 336, 3) := by decide +kernel
theorem dX10_laysLasts_30 : decode cX10_laysLasts 30 = .ok (.invokestatic 343, 3) := by decide +kernel
theorem dX10_laysLasts_33 : decode cX10_laysLasts 33 = .ok (.invokevirtual 352, 3) := by decide +kernel
theorem dX10_laysLasts_36 : decode cX10_laysLasts 36 = .ok (.iconst 0, 1) := by decide +kernel
theorem dX10_laysLasts_37 : decode cX10_laysLasts 37 = .ok (.istore_n 3, 1) := by decide +kernel
theorem dX10_laysLasts_38 : decode cX10_laysLasts 38 = .ok (.iload_n 3, 1) := by decide +kernel
theorem dX10_laysLasts_39 : decode cX10_laysLasts 39 = .ok (.aload_n 0, 1) := by decide +kernel
theorem dX10_laysLasts_40 : decode cX10_laysLasts 40 = .ok (.getfield 160, 3) := by decide +kernel
theorem dX10_laysLasts_43 : decode cX10_laysLasts 43 = .ok (.if_icmp .ge 68, 3) := by decide +kernel
theorem dX10_laysLasts_46 : decode cX10_laysLasts 46 = .ok (.aload_n 0, 1) := by decide +kernel
theorem dX10_laysLasts_47 : decode cX10_laysLasts 47 = .ok (.getfield 86, 3) := by decide +kernel
theorem dX10_laysLasts_50 : decode cX10_laysLasts 50 = .ok (.bipush 6, 2) := by decide +kernel
theorem dX10_laysLasts_52 : decode cX10_laysLasts 52 = .ok (.bipush 9, 2) := by decide +kernel
theorem dX10_laysLasts_54 : decode cX10_laysLasts 54 = .ok (.iload_n 1, 1) := by decide +kernel
theorem dX10_laysLasts_55 : decode cX10_laysLasts 55 = .ok (.imul, 1) := by decide +kernel
theorem dX10_laysLasts_56 : decode cX10_laysLasts 56 = .ok (.iload_n 2, 1) := by decide +kernel
theorem dX10_laysLasts_57 : decode cX10_laysLasts 57 = .ok (.iadd, 1) := by decide +kernel
theorem dX10_laysLasts_58 : decode cX10_laysLasts 58 = .ok (.iconst 1, 1) := by decide +kernel
theorem dX10_laysLasts_59 : decode cX10_laysLasts 59 = .ok (.isub, 1) := by decide +kernel
theorem dX10_laysLasts_60 : decode cX10_laysLasts 60 = .ok (.imul, 1) := by decide +kernel
theorem dX10_laysLasts_61 : decode cX10_laysLasts 61 = .ok (.iload_n 3, 1) := by decide +kernel
theorem dX10_laysLasts_62 : decode cX10_laysLasts 62 = .ok (.iadd, 1) := by decide +kernel
theorem dX10_laysLasts_63 : decode cX10_laysLasts 63 = .ok (.aload_n 0, 1) := by decide +kernel
theorem dX10_laysLasts_64 : decode cX10_laysLasts 64 = .ok (.getfield 68, 3) := by decide +kernel
theorem dX10_laysLasts_67 : decode cX10_laysLasts 67 = .ok (.bipush 84, 2) := by decide +kernel
theorem dX10_laysLasts_69 : decode cX10_laysLasts 69 = .ok (.iload_n 3, 1) := by decide +kernel
theorem dX10_laysLasts_70 : decode cX10_laysLasts 70 = .ok (.iadd, 1) := by decide +kernel
theorem dX10_laysLasts_71 : decode cX10_laysLasts 71 = .ok (.iaload, 1) := by decide +kernel
theorem dX10_laysLasts_72 : decode cX10_laysLasts 72 = .ok (.ifCond .ne 8, 3) := by decide +kernel
theorem dX10_laysLasts_75 : decode cX10_laysLasts 75 = .ok (.bipush 16, 2) := by decide +kernel
theorem dX10_laysLasts_77 : decode cX10_laysLasts 77 = .ok (.goto 27, 3) := by decide +kernel
theorem dX10_laysLasts_80 : decode cX10_laysLasts 80 = .ok (.aload_n 0, 1) := by decide +kernel
theorem dX10_laysLasts_81 : decode cX10_laysLasts 81 = .ok (.getfield 68, 3) := by decide +kernel
theorem dX10_laysLasts_84 : decode cX10_laysLasts 84 = .ok (.bipush 12, 2) := by decide +kernel
theorem dX10_laysLasts_86 : decode cX10_laysLasts 86 = .ok (.bipush 12, 2) := by decide +kernel
theorem dX10_laysLasts_88 : decode cX10_laysLasts 88 = .ok (.iload_n 3, 1) := by decide +kernel
theorem dX10_laysLasts_89 : decode cX10_laysLasts 89 = .ok (.imul, 1) := by decide +kernel
theorem dX10_laysLasts_90 : decode cX10_laysLasts 90 = .ok (.iadd, 1) := by decide +kernel
theorem dX10_laysLasts_91 : decode cX10_laysLasts 91 = .ok (.aload_n 0, 1) := by decide +kernel
theorem dX10_laysLasts_92 : decode cX10_laysLasts 92 = .ok (.getfield 68, 3) := by decide +kernel
theorem dX10_laysLasts_95 : decode cX10_laysLasts 95 = .ok (.bipush 84, 2) := by decide +kernel
theorem dX10_laysLasts_97 : decode cX10_laysLasts 97 = .ok (.iload_n 3, 1) := by decide +kernel
theorem dX10_laysLasts_98 : decode cX10_laysLasts 98 = .ok (.iadd, 1) := by decide +kernel
theorem dX10_laysLasts_99 : decode cX10_laysLasts 99 = .ok (.iaload, 1) := by decide +kernel
theorem dX10_laysLasts_100 : decode cX10_laysLasts 100 = .ok (.iadd, 1) := by decide +kernel
theorem dX10_laysLasts_101 : decode cX10_laysLasts 101 = .ok (.iconst 1, 1) := by decide +kernel
theorem dX10_laysLasts_102 : decode cX10_laysLasts 102 = .ok (.isub, 1) := by decide +kernel
theorem dX10_laysLasts_103 : decode cX10_laysLasts 103 = .ok (.iaload, 1) := by decide +kernel
theorem dX10_laysLasts_104 : decode cX10_laysLasts 104 = .ok (.iastore, 1) := by decide +kernel
theorem dX10_laysLasts_105 : decode cX10_laysLasts 105 = .ok (.iinc 3 1, 3) := by decide +kernel
theorem dX10_laysLasts_108 : decode cX10_laysLasts 108 = .ok (.goto (-70), 3) := by decide +kernel
theorem dX10_laysLasts_111 : decode cX10_laysLasts 111 = .ok (.iinc 2 1, 3) := by decide +kernel
theorem dX10_laysLasts_114 : decode cX10_laysLasts 114 = .ok (.goto (-102), 3) := by decide +kernel
theorem dX10_laysLasts_117 : decode cX10_laysLasts 117 = .ok (.iinc 1 1, 3) := by decide +kernel
theorem dX10_laysLasts_120 : decode cX10_laysLasts 120 = .ok (.goto (-118), 3) := by decide +kernel
theorem dX10_laysLasts_123 : decode cX10_laysLasts 123 = .ok (.return_, 1) := by decide +kernel
theorem dX10_isFit_0 : decode cX10_isFit 0 = .ok (.iconst 1, 1) := by decide +kernel
theorem dX10_isFit_1 : decode cX10_isFit 1 = .ok (.istore_n 2, 1) := by decide +kernel
theorem dX10_isFit_2 : decode cX10_isFit 2 = .ok (.iconst 0, 1) := by decide +kernel
theorem dX10_isFit_3 : decode cX10_isFit 3 = .ok (.istore_n 3, 1) := by decide +kernel
theorem dX10_isFit_4 : decode cX10_isFit 4 = .ok (.iload_n 3, 1) := by decide +kernel
theorem dX10_isFit_5 : decode cX10_isFit 5 = .ok (.aload_n 0, 1) := by decide +kernel
theorem dX10_isFit_6 : decode cX10_isFit 6 = .ok (.getfield 160, 3) := by decide +kernel
theorem dX10_isFit_9 : decode cX10_isFit 9 = .ok (.if_icmp .ge 49, 3) := by decide +kernel
theorem dX10_isFit_12 : decode cX10_isFit 12 = .ok (.iload_n 2, 1) := by decide +kernel
theorem dX10_isFit_13 : decode cX10_isFit 13 = .ok (.ifCond .eq 37, 3) := by decide +kernel
theorem dX10_isFit_16 : decode cX10_isFit 16 = .ok (.aload_n 0, 1) := by decide +kernel
theorem dX10_isFit_17 : decode cX10_isFit 17 = .ok (.getfield 77, 3) := by decide +kernel
theorem dX10_isFit_20 : decode cX10_isFit 20 = .ok (.iload_n 3, 1) := by decide +kernel
theorem dX10_isFit_21 : decode cX10_isFit 21 = .ok (.iaload, 1) := by decide +kernel
theorem dX10_isFit_22 : decode cX10_isFit 22 = .ok (.iconst (-1), 1) := by decide +kernel
theorem dX10_isFit_23 : decode cX10_isFit 23 = .ok (.if_icmp .eq 23, 3) := by decide +kernel
theorem dX10_isFit_26 : decode cX10_isFit 26 = .ok (.aload_n 0, 1) := by decide +kernel
theorem dX10_isFit_27 : decode cX10_isFit 27 = .ok (.getfield 86, 3) := by decide +kernel
theorem dX10_isFit_30 : decode cX10_isFit 30 = .ok (.bipush 6, 2) := by decide +kernel
theorem dX10_isFit_32 : decode cX10_isFit 32 = .ok (.iload_n 1, 1) := by decide +kernel
theorem dX10_isFit_33 : decode cX10_isFit 33 = .ok (.imul, 1) := by decide +kernel
theorem dX10_isFit_34 : decode cX10_isFit 34 = .ok (.iload_n 3, 1) := by decide +kernel
theorem dX10_isFit_35 : decode cX10_isFit 35 = .ok (.iadd, 1) := by decide +kernel
theorem dX10_isFit_36 : decode cX10_isFit 36 = .ok (.iaload, 1) := by decide +kernel
theorem dX10_isFit_37 : decode cX10_isFit 37 = .ok (.aload_n 0, 1) := by decide +kernel
theorem dX10_isFit_38 : decode cX10_isFit 38 = .ok (.getfield 77, 3) := by decide +kernel
theorem dX10_isFit_41 : decode cX10_isFit 41 = .ok (.iload_n 3, 1) := by decide +kernel
theorem dX10_isFit_42 : decode cX10_isFit 42 = .ok (.iaload, 1) := by decide +kernel
theorem dX10_isFit_43 : decode cX10_isFit 43 = .ok (.if_icmp .ne 7, 3) := by decide +kernel
theorem dX10_isFit_46 : decode cX10_isFit 46 = .ok (.iconst 1, 1) := by decide +kernel
theorem dX10_isFit_47 : decode cX10_isFit 47 = .ok (.goto 4, 3) := by decide +kernel
theorem dX10_isFit_50 : decode cX10_isFit 50 = .ok (.iconst 0, 1) := by decide +kernel
theorem dX10_isFit_51 : decode cX10_isFit 51 = .ok (.istore_n 2, 1) := by decide +kernel
theorem dX10_isFit_52 : decode cX10_isFit 52 = .ok (.iinc 3 1, 3) := by decide +kernel
theorem dX10_isFit_55 : decode cX10_isFit 55 = .ok (.goto (-51), 3) := by decide +kernel
theorem dX10_isFit_58 : decode cX10_isFit 58 = .ok (.iload_n 2, 1) := by decide +kernel
theorem dX10_isFit_59 : decode cX10_isFit 59 = .ok (.ireturn, 1) := by decide +kernel
theorem dX10_fits_0 : decode cX10_fits 0 = .ok (.aload_n 0, 1) := by decide +kernel
theorem dX10_fits_1 : decode cX10_fits 1 = .ok (.iconst 0, 1) := by decide +kernel
theorem dX10_fits_2 : decode cX10_fits 2 = .ok (.putfield 3, 3) := by decide +kernel
theorem dX10_fits_5 : decode cX10_fits 5 = .ok (.aload_n 0, 1) := by decide +kernel
theorem dX10_fits_6 : decode cX10_fits 6 = .ok (.iload_n 1, 1) := by decide +kernel
theorem dX10_fits_7 : decode cX10_fits 7 = .ok (.iconst 0, 1) := by decide +kernel
theorem dX10_fits_8 : decode cX10_fits 8 = .ok (.iconst 1, 1) := by decide +kernel
theorem dX10_fits_9 : decode cX10_fits 9 = .ok (.invokestatic 383, 3) := by decide +kernel
theorem dX10_fits_12 : decode cX10_fits 12 = .ok (.iconst 1, 1) := by decide +kernel
theorem dX10_fits_13 : decode cX10_fits 13 = .ok (.iconst 1, 1) := by decide +kernel
theorem dX10_fits_14 : decode cX10_fits 14 = .ok (.invokevirtual 205, 3) := by decide +kernel
theorem dX10_fits_17 : decode cX10_fits 17 = .ok (.ifCond .ne 5, 3) := by decide +kernel
theorem dX10_fits_20 : decode cX10_fits 20 = .ok (.iconst 0, 1) := by decide +kernel
theorem dX10_fits_21 : decode cX10_fits 21 = .ok (.ireturn, 1) := by decide +kernel
theorem dX10_fits_22 : decode cX10_fits 22 = .ok (.aload_n 0, 1) := by decide +kernel
theorem dX10_fits_23 : decode cX10_fits 23 = .ok (.invokevirtual 423, 3) := by decide +kernel
theorem dX10_fits_26 : decode cX10_fits 26 = .ok (.iconst 0, 1) := by decide +kernel
theorem dX10_fits_27 : decode cX10_fits 27 = .ok (.istore_n 2, 1) := by decide +kernel
theorem dX10_fits_28 : decode cX10_fits 28 = .ok (.iconst (-1), 1) := by decide +kernel
theorem dX10_fits_29 : decode cX10_fits 29 = .ok (.istore_n 3, 1) := by decide +kernel
theorem dX10_fits_30 : decode cX10_fits 30 = .ok (.iconst 0, 1) := by decide +kernel
theorem dX10_fits_31 : decode cX10_fits 31 = .ok (.istore 4, 2) := by decide +kernel
theorem dX10_fits_33 : decode cX10_fits 33 = .ok (.iload 4, 2) := by decide +kernel
theorem dX10_fits_35 : decode cX10_fits 35 = .ok (.bipush 9, 2) := by decide +kernel
theorem dX10_fits_37 : decode cX10_fits 37 = .ok (.aload_n 0, 1) := by decide +kernel
theorem dX10_fits_38 : decode cX10_fits 38 = .ok (.getfield 163, 3) := by decide +kernel
theorem dX10_fits_41 : decode cX10_fits 41 = .ok (.imul, 1) := by decide +kernel
theorem dX10_fits_42 : decode cX10_fits 42 = .ok (.if_icmp .ge 50, 3) := by decide +kernel
theorem dX10_fits_45 : decode cX10_fits 45 = .ok (.aload_n 0, 1) := by decide +kernel
theorem dX10_fits_46 : decode cX10_fits 46 = .ok (.iload 4, 2) := by decide +kernel
theorem dX10_fits_48 : decode cX10_fits 48 = .ok (.invokevirtual 426, 3) := by decide +kernel
theorem dX10_fits_51 : decode cX10_fits 51 = .ok (.ifCond .ne 6, 3) := by decide +kernel
theorem dX10_fits_54 : decode cX10_fits 54 = .ok (.goto 32, 3) := by decide +kernel
theorem dX10_fits_57 : decode cX10_fits 57 = .ok (.iinc 2 1, 3) := by decide +kernel
theorem dX10_fits_60 : decode cX10_fits 60 = .ok (.iload_n 3, 1) := by decide +kernel
theorem dX10_fits_61 : decode cX10_fits 61 = .ok (.iconst (-1), 1) := by decide +kernel
theorem dX10_fits_62 : decode cX10_fits 62 = .ok (.if_icmp .ne 22, 3) := by decide +kernel
theorem dX10_fits_65 : decode cX10_fits 65 = .ok (.bipush 10, 2) := by decide +kernel
theorem dX10_fits_67 : decode cX10_fits 67 = .ok (.iload 4, 2) := by decide +kernel
theorem dX10_fits_69 : decode cX10_fits 69 = .ok (.bipush 9, 2) := by decide +kernel
theorem dX10_fits_71 : decode cX10_fits 71 = .ok (.idiv, 1) := by decide +kernel
theorem dX10_fits_72 : decode cX10_fits 72 = .ok (.imul, 1) := by decide +kernel
theorem dX10_fits_73 : decode cX10_fits 73 = .ok (.iload 4, 2) := by decide +kernel
theorem dX10_fits_75 : decode cX10_fits 75 = .ok (.bipush 9, 2) := by decide +kernel
theorem dX10_fits_77 : decode cX10_fits 77 = .ok (.irem, 1) := by decide +kernel
theorem dX10_fits_78 : decode cX10_fits 78 = .ok (.iadd, 1) := by decide +kernel
theorem dX10_fits_79 : decode cX10_fits 79 = .ok (.iconst 1, 1) := by decide +kernel
theorem dX10_fits_80 : decode cX10_fits 80 = .ok (.iadd, 1) := by decide +kernel
theorem dX10_fits_81 : decode cX10_fits 81 = .ok (.goto 4, 3) := by decide +kernel
theorem dX10_fits_84 : decode cX10_fits 84 = .ok (.iload_n 3, 1) := by decide +kernel
theorem dX10_fits_85 : decode cX10_fits 85 = .ok (.istore_n 3, 1) := by decide +kernel
theorem dX10_fits_86 : decode cX10_fits 86 = .ok (.iinc 4 1, 3) := by decide +kernel
theorem dX10_fits_89 : decode cX10_fits 89 = .ok (.goto (-56), 3) := by decide +kernel
theorem dX10_fits_92 : decode cX10_fits 92 = .ok (.iload_n 1, 1) := by decide +kernel
theorem dX10_fits_93 : decode cX10_fits 93 = .ok (.ifCond .ne 7, 3) := by decide +kernel
theorem dX10_fits_96 : decode cX10_fits 96 = .ok (.iload_n 2, 1) := by decide +kernel
theorem dX10_fits_97 : decode cX10_fits 97 = .ok (.goto 4, 3) := by decide +kernel
theorem dX10_fits_100 : decode cX10_fits 100 = .ok (.iload_n 3, 1) := by decide +kernel
theorem dX10_fits_101 : decode cX10_fits 101 = .ok (.ireturn, 1) := by decide +kernel
theorem dX10_worstOf_0 : decode cX10_worstOf 0 = .ok (.iconst 0, 1) := by decide +kernel
theorem dX10_worstOf_1 : decode cX10_worstOf 1 = .ok (.istore_n 2, 1) := by decide +kernel
theorem dX10_worstOf_2 : decode cX10_worstOf 2 = .ok (.iload_n 2, 1) := by decide +kernel
theorem dX10_worstOf_3 : decode cX10_worstOf 3 = .ok (.bipush 16, 2) := by decide +kernel
theorem dX10_worstOf_5 : decode cX10_worstOf 5 = .ok (.if_icmp .gt 16, 3) := by decide +kernel
theorem dX10_worstOf_8 : decode cX10_worstOf 8 = .ok (.aload_n 0, 1) := by decide +kernel
theorem dX10_worstOf_9 : decode cX10_worstOf 9 = .ok (.getfield 89, 3) := by decide +kernel
theorem dX10_worstOf_12 : decode cX10_worstOf 12 = .ok (.iload_n 2, 1) := by decide +kernel
theorem dX10_worstOf_13 : decode cX10_worstOf 13 = .ok (.iconst 0, 1) := by decide +kernel
theorem dX10_worstOf_14 : decode cX10_worstOf 14 = .ok (.iastore, 1) := by decide +kernel
theorem dX10_worstOf_15 : decode cX10_worstOf 15 = .ok (.iinc 2 1, 3) := by decide +kernel
theorem dX10_worstOf_18 : decode cX10_worstOf 18 = .ok (.goto (-16), 3) := by decide +kernel
theorem dX10_worstOf_21 : decode cX10_worstOf 21 = .ok (.iconst 0, 1) := by decide +kernel
theorem dX10_worstOf_22 : decode cX10_worstOf 22 = .ok (.istore_n 2, 1) := by decide +kernel
theorem dX10_worstOf_23 : decode cX10_worstOf 23 = .ok (.iconst 0, 1) := by decide +kernel
theorem dX10_worstOf_24 : decode cX10_worstOf 24 = .ok (.istore_n 3, 1) := by decide +kernel
theorem dX10_worstOf_25 : decode cX10_worstOf 25 = .ok (.iload_n 3, 1) := by decide +kernel
theorem dX10_worstOf_26 : decode cX10_worstOf 26 = .ok (.bipush 9, 2) := by decide +kernel
theorem dX10_worstOf_28 : decode cX10_worstOf 28 = .ok (.aload_n 0, 1) := by decide +kernel
theorem dX10_worstOf_29 : decode cX10_worstOf 29 = .ok (.getfield 163, 3) := by decide +kernel
theorem dX10_worstOf_32 : decode cX10_worstOf 32 = .ok (.imul, 1) := by decide +kernel
theorem dX10_worstOf_33 : decode cX10_worstOf 33 = .ok (.if_icmp .ge 67, 3) := by decide +kernel
theorem dX10_worstOf_36 : decode cX10_worstOf 36 = .ok (.aload_n 0, 1) := by decide +kernel
theorem dX10_worstOf_37 : decode cX10_worstOf 37 = .ok (.iload_n 3, 1) := by decide +kernel
theorem dX10_worstOf_38 : decode cX10_worstOf 38 = .ok (.invokevirtual 426, 3) := by decide +kernel
theorem dX10_worstOf_41 : decode cX10_worstOf 41 = .ok (.ifCond .ne 6, 3) := by decide +kernel
theorem dX10_worstOf_44 : decode cX10_worstOf 44 = .ok (.goto 50, 3) := by decide +kernel
theorem dX10_worstOf_47 : decode cX10_worstOf 47 = .ok (.aload_n 0, 1) := by decide +kernel
theorem dX10_worstOf_48 : decode cX10_worstOf 48 = .ok (.getfield 86, 3) := by decide +kernel
theorem dX10_worstOf_51 : decode cX10_worstOf 51 = .ok (.bipush 6, 2) := by decide +kernel
theorem dX10_worstOf_53 : decode cX10_worstOf 53 = .ok (.iload_n 3, 1) := by decide +kernel
theorem dX10_worstOf_54 : decode cX10_worstOf 54 = .ok (.imul, 1) := by decide +kernel
theorem dX10_worstOf_55 : decode cX10_worstOf 55 = .ok (.iload_n 1, 1) := by decide +kernel
theorem dX10_worstOf_56 : decode cX10_worstOf 56 = .ok (.iadd, 1) := by decide +kernel
theorem dX10_worstOf_57 : decode cX10_worstOf 57 = .ok (.iaload, 1) := by decide +kernel
theorem dX10_worstOf_58 : decode cX10_worstOf 58 = .ok (.istore 4, 2) := by decide +kernel
theorem dX10_worstOf_60 : decode cX10_worstOf 60 = .ok (.aload_n 0, 1) := by decide +kernel
theorem dX10_worstOf_61 : decode cX10_worstOf 61 = .ok (.getfield 89, 3) := by decide +kernel
theorem dX10_worstOf_64 : decode cX10_worstOf 64 = .ok (.iload 4, 2) := by decide +kernel
theorem dX10_worstOf_66 : decode cX10_worstOf 66 = .ok (.dup2, 1) := by decide +kernel
theorem dX10_worstOf_67 : decode cX10_worstOf 67 = .ok (.iaload, 1) := by decide +kernel
theorem dX10_worstOf_68 : decode cX10_worstOf 68 = .ok (.iconst 1, 1) := by decide +kernel
theorem dX10_worstOf_69 : decode cX10_worstOf 69 = .ok (.iadd, 1) := by decide +kernel
theorem dX10_worstOf_70 : decode cX10_worstOf 70 = .ok (.iastore, 1) := by decide +kernel
theorem dX10_worstOf_71 : decode cX10_worstOf 71 = .ok (.aload_n 0, 1) := by decide +kernel
theorem dX10_worstOf_72 : decode cX10_worstOf 72 = .ok (.getfield 89, 3) := by decide +kernel
theorem dX10_worstOf_75 : decode cX10_worstOf 75 = .ok (.iload 4, 2) := by decide +kernel
theorem dX10_worstOf_77 : decode cX10_worstOf 77 = .ok (.iaload, 1) := by decide +kernel
theorem dX10_worstOf_78 : decode cX10_worstOf 78 = .ok (.iload_n 2, 1) := by decide +kernel
theorem dX10_worstOf_79 : decode cX10_worstOf 79 = .ok (.if_icmp .le 13, 3) := by decide +kernel
theorem dX10_worstOf_82 : decode cX10_worstOf 82 = .ok (.aload_n 0, 1) := by decide +kernel
theorem dX10_worstOf_83 : decode cX10_worstOf 83 = .ok (.getfield 89, 3) := by decide +kernel
theorem dX10_worstOf_86 : decode cX10_worstOf 86 = .ok (.iload 4, 2) := by decide +kernel
theorem dX10_worstOf_88 : decode cX10_worstOf 88 = .ok (.iaload, 1) := by decide +kernel
theorem dX10_worstOf_89 : decode cX10_worstOf 89 = .ok (.goto 4, 3) := by decide +kernel
theorem dX10_worstOf_92 : decode cX10_worstOf 92 = .ok (.iload_n 2, 1) := by decide +kernel
theorem dX10_worstOf_93 : decode cX10_worstOf 93 = .ok (.istore_n 2, 1) := by decide +kernel
theorem dX10_worstOf_94 : decode cX10_worstOf 94 = .ok (.iinc 3 1, 3) := by decide +kernel
theorem dX10_worstOf_97 : decode cX10_worstOf 97 = .ok (.goto (-72), 3) := by decide +kernel
theorem dX10_worstOf_100 : decode cX10_worstOf 100 = .ok (.iload_n 2, 1) := by decide +kernel
theorem dX10_worstOf_101 : decode cX10_worstOf 101 = .ok (.ireturn, 1) := by decide +kernel
theorem dX10_look_0 : decode cX10_look 0 = .ok (.aload_n 0, 1) := by decide +kernel
theorem dX10_look_1 : decode cX10_look 1 = .ok (.iconst 0, 1) := by decide +kernel
theorem dX10_look_2 : decode cX10_look 2 = .ok (.putfield 3, 3) := by decide +kernel
theorem dX10_look_5 : decode cX10_look 5 = .ok (.aload_n 0, 1) := by decide +kernel
theorem dX10_look_6 : decode cX10_look 6 = .ok (.iload_n 1, 1) := by decide +kernel
theorem dX10_look_7 : decode cX10_look 7 = .ok (.iconst 0, 1) := by decide +kernel
theorem dX10_look_8 : decode cX10_look 8 = .ok (.iconst 1, 1) := by decide +kernel
theorem dX10_look_9 : decode cX10_look 9 = .ok (.invokestatic 383, 3) := by decide +kernel
theorem dX10_look_12 : decode cX10_look 12 = .ok (.iconst 1, 1) := by decide +kernel
theorem dX10_look_13 : decode cX10_look 13 = .ok (.iconst 1, 1) := by decide +kernel
theorem dX10_look_14 : decode cX10_look 14 = .ok (.invokevirtual 205, 3) := by decide +kernel
theorem dX10_look_17 : decode cX10_look 17 = .ok (.ifCond .ne 5, 3) := by decide +kernel
theorem dX10_look_20 : decode cX10_look 20 = .ok (.iconst 0, 1) := by decide +kernel
theorem dX10_look_21 : decode cX10_look 21 = .ok (.ireturn, 1) := by decide +kernel
theorem dX10_look_22 : decode cX10_look 22 = .ok (.aload_n 0, 1) := by decide +kernel
theorem dX10_look_23 : decode cX10_look 23 = .ok (.invokevirtual 423, 3) := by decide +kernel
theorem dX10_look_26 : decode cX10_look 26 = .ok (.iconst (-1), 1) := by decide +kernel
theorem dX10_look_27 : decode cX10_look 27 = .ok (.istore_n 2, 1) := by decide +kernel
theorem dX10_look_28 : decode cX10_look 28 = .ok (.iconst (-1), 1) := by decide +kernel
theorem dX10_look_29 : decode cX10_look 29 = .ok (.istore_n 3, 1) := by decide +kernel
theorem dX10_look_30 : decode cX10_look 30 = .ok (.iconst 0, 1) := by decide +kernel
theorem dX10_look_31 : decode cX10_look 31 = .ok (.istore 4, 2) := by decide +kernel
theorem dX10_look_33 : decode cX10_look 33 = .ok (.iload 4, 2) := by decide +kernel
theorem dX10_look_35 : decode cX10_look 35 = .ok (.aload_n 0, 1) := by decide +kernel
theorem dX10_look_36 : decode cX10_look 36 = .ok (.getfield 160, 3) := by decide +kernel
theorem dX10_look_39 : decode cX10_look 39 = .ok (.if_icmp .ge 51, 3) := by decide +kernel
theorem dX10_look_42 : decode cX10_look 42 = .ok (.aload_n 0, 1) := by decide +kernel
theorem dX10_look_43 : decode cX10_look 43 = .ok (.getfield 77, 3) := by decide +kernel
theorem dX10_look_46 : decode cX10_look 46 = .ok (.iload 4, 2) := by decide +kernel
theorem dX10_look_48 : decode cX10_look 48 = .ok (.iaload, 1) := by decide +kernel
theorem dX10_look_49 : decode cX10_look 49 = .ok (.iconst (-1), 1) := by decide +kernel
theorem dX10_look_50 : decode cX10_look 50 = .ok (.if_icmp .eq 6, 3) := by decide +kernel
theorem dX10_look_53 : decode cX10_look 53 = .ok (.goto 31, 3) := by decide +kernel
theorem dX10_look_56 : decode cX10_look 56 = .ok (.aload_n 0, 1) := by decide +kernel
theorem dX10_look_57 : decode cX10_look 57 = .ok (.iload 4, 2) := by decide +kernel
theorem dX10_look_59 : decode cX10_look 59 = .ok (.invokevirtual 429, 3) := by decide +kernel
theorem dX10_look_62 : decode cX10_look 62 = .ok (.istore 5, 2) := by decide +kernel
theorem dX10_look_64 : decode cX10_look 64 = .ok (.iload_n 2, 1) := by decide +kernel
theorem dX10_look_65 : decode cX10_look 65 = .ok (.iconst (-1), 1) := by decide +kernel
theorem dX10_look_66 : decode cX10_look 66 = .ok (.if_icmp .eq 12, 3) := by decide +kernel
theorem dX10_look_69 : decode cX10_look 69 = .ok (.iload 5, 2) := by decide +kernel
theorem dX10_look_71 : decode cX10_look 71 = .ok (.iload_n 3, 1) := by decide +kernel
theorem dX10_look_72 : decode cX10_look 72 = .ok (.if_icmp .lt 6, 3) := by decide +kernel
theorem dX10_look_75 : decode cX10_look 75 = .ok (.goto 9, 3) := by decide +kernel
theorem dX10_look_78 : decode cX10_look 78 = .ok (.iload 4, 2) := by decide +kernel
theorem dX10_look_80 : decode cX10_look 80 = .ok (.istore_n 2, 1) := by decide +kernel
theorem dX10_look_81 : decode cX10_look 81 = .ok (.iload 5, 2) := by decide +kernel
theorem dX10_look_83 : decode cX10_look 83 = .ok (.istore_n 3, 1) := by decide +kernel
theorem dX10_look_84 : decode cX10_look 84 = .ok (.iinc 4 1, 3) := by decide +kernel
theorem dX10_look_87 : decode cX10_look 87 = .ok (.goto (-54), 3) := by decide +kernel
theorem dX10_look_90 : decode cX10_look 90 = .ok (.iload_n 1, 1) := by decide +kernel
theorem dX10_look_91 : decode cX10_look 91 = .ok (.ifCond .ne 7, 3) := by decide +kernel
theorem dX10_look_94 : decode cX10_look 94 = .ok (.iload_n 2, 1) := by decide +kernel
theorem dX10_look_95 : decode cX10_look 95 = .ok (.goto 4, 3) := by decide +kernel
theorem dX10_look_98 : decode cX10_look 98 = .ok (.iload_n 3, 1) := by decide +kernel
theorem dX10_look_99 : decode cX10_look 99 = .ok (.ireturn, 1) := by decide +kernel
theorem dX10_least_0 : decode cX10_least 0 = .ok (.lload_n 0, 1) := by decide +kernel
theorem dX10_least_1 : decode cX10_least 1 = .ok (.lstore 5, 2) := by decide +kernel
theorem dX10_least_3 : decode cX10_least 3 = .ok (.lload_n 2, 1) := by decide +kernel
theorem dX10_least_4 : decode cX10_least 4 = .ok (.lstore 7, 2) := by decide +kernel
theorem dX10_least_6 : decode cX10_least 6 = .ok (.lload 7, 2) := by decide +kernel
theorem dX10_least_8 : decode cX10_least 8 = .ok (.lconst 0, 1) := by decide +kernel
theorem dX10_least_9 : decode cX10_least 9 = .ok (.lcmp, 1) := by decide +kernel
theorem dX10_least_10 : decode cX10_least 10 = .ok (.ifCond .eq 21, 3) := by decide +kernel
theorem dX10_least_13 : decode cX10_least 13 = .ok (.lload 5, 2) := by decide +kernel
theorem dX10_least_15 : decode cX10_least 15 = .ok (.lload 7, 2) := by decide +kernel
theorem dX10_least_17 : decode cX10_least 17 = .ok (.lrem, 1) := by decide +kernel
theorem dX10_least_18 : decode cX10_least 18 = .ok (.lstore 9, 2) := by decide +kernel
theorem dX10_least_20 : decode cX10_least 20 = .ok (.lload 7, 2) := by decide +kernel
theorem dX10_least_22 : decode cX10_least 22 = .ok (.lstore 5, 2) := by decide +kernel
theorem dX10_least_24 : decode cX10_least 24 = .ok (.lload 9, 2) := by decide +kernel
theorem dX10_least_26 : decode cX10_least 26 = .ok (.lstore 7, 2) := by decide +kernel
theorem dX10_least_28 : decode cX10_least 28 = .ok (.goto (-22), 3) := by decide +kernel
theorem dX10_least_31 : decode cX10_least 31 = .ok (.iload 4, 2) := by decide +kernel
theorem dX10_least_33 : decode cX10_least 33 = .ok (.ifCond .ne 7, 3) := by decide +kernel
theorem dX10_least_36 : decode cX10_least 36 = .ok (.lload_n 0, 1) := by decide +kernel
theorem dX10_least_37 : decode cX10_least 37 = .ok (.goto 4, 3) := by decide +kernel
theorem dX10_least_40 : decode cX10_least 40 = .ok (.lload_n 2, 1) := by decide +kernel
theorem dX10_least_41 : decode cX10_least 41 = .ok (.lload 5, 2) := by decide +kernel
theorem dX10_least_43 : decode cX10_least 43 = .ok (.ldiv, 1) := by decide +kernel
theorem dX10_least_44 : decode cX10_least 44 = .ok (.lreturn, 1) := by decide +kernel
theorem dX10_pods_0 : decode cX10_pods 0 = .ok (.aload_n 0, 1) := by decide +kernel
theorem dX10_pods_1 : decode cX10_pods 1 = .ok (.iconst 0, 1) := by decide +kernel
theorem dX10_pods_2 : decode cX10_pods 2 = .ok (.putfield 3, 3) := by decide +kernel
theorem dX10_pods_5 : decode cX10_pods 5 = .ok (.aload_n 0, 1) := by decide +kernel
theorem dX10_pods_6 : decode cX10_pods 6 = .ok (.iload_n 1, 1) := by decide +kernel
theorem dX10_pods_7 : decode cX10_pods 7 = .ok (.iconst 0, 1) := by decide +kernel
theorem dX10_pods_8 : decode cX10_pods 8 = .ok (.bipush 12, 2) := by decide +kernel
theorem dX10_pods_10 : decode cX10_pods 10 = .ok (.invokestatic 383, 3) := by decide +kernel
theorem dX10_pods_13 : decode cX10_pods 13 = .ok (.ifCond .eq 37, 3) := by decide +kernel
theorem dX10_pods_16 : decode cX10_pods 16 = .ok (.iload_n 2, 1) := by decide +kernel
theorem dX10_pods_17 : decode cX10_pods 17 = .ok (.iconst 0, 1) := by decide +kernel
theorem dX10_pods_18 : decode cX10_pods 18 = .ok (.bipush 13, 2) := by decide +kernel
theorem dX10_pods_20 : decode cX10_pods 20 = .ok (.invokestatic 383, 3) := by decide +kernel
theorem dX10_pods_23 : decode cX10_pods 23 = .ok (.ifCond .eq 27, 3) := by decide +kernel
theorem dX10_pods_26 : decode cX10_pods 26 = .ok (.iload_n 3, 1) := by decide +kernel
theorem dX10_pods_27 : decode cX10_pods 27 = .ok (.iconst 0, 1) := by decide +kernel
theorem dX10_pods_28 : decode cX10_pods 28 = .ok (.bipush 16, 2) := by decide +kernel
theorem dX10_pods_30 : decode cX10_pods 30 = .ok (.invokestatic 383, 3) := by decide +kernel
theorem dX10_pods_33 : decode cX10_pods 33 = .ok (.ifCond .eq 17, 3) := by decide +kernel
theorem dX10_pods_36 : decode cX10_pods 36 = .ok (.iload 4, 2) := by decide +kernel
theorem dX10_pods_38 : decode cX10_pods 38 = .ok (.iconst 0, 1) := by decide +kernel
theorem dX10_pods_39 : decode cX10_pods 39 = .ok (.iconst 1, 1) := by decide +kernel
theorem dX10_pods_40 : decode cX10_pods 40 = .ok (.invokestatic 383, 3) := by decide +kernel
theorem dX10_pods_43 : decode cX10_pods 43 = .ok (.ifCond .eq 7, 3) := by decide +kernel
theorem dX10_pods_46 : decode cX10_pods 46 = .ok (.iconst 1, 1) := by decide +kernel
theorem dX10_pods_47 : decode cX10_pods 47 = .ok (.goto 4, 3) := by decide +kernel
theorem dX10_pods_50 : decode cX10_pods 50 = .ok (.iconst 0, 1) := by decide +kernel
theorem dX10_pods_51 : decode cX10_pods 51 = .ok (.iconst 1, 1) := by decide +kernel
theorem dX10_pods_52 : decode cX10_pods 52 = .ok (.iconst 1, 1) := by decide +kernel
theorem dX10_pods_53 : decode cX10_pods 53 = .ok (.invokevirtual 205, 3) := by decide +kernel
theorem dX10_pods_56 : decode cX10_pods 56 = .ok (.ifCond .ne 5, 3) := by decide +kernel
theorem dX10_pods_59 : decode cX10_pods 59 = .ok (.lconst 0, 1) := by decide +kernel
theorem dX10_pods_60 : decode cX10_pods 60 = .ok (.lreturn, 1) := by decide +kernel
theorem dX10_pods_61 : decode cX10_pods 61 = .ok (.iconst 0, 1) := by decide +kernel
theorem dX10_pods_62 : decode cX10_pods 62 = .ok (.istore 5, 2) := by decide +kernel
theorem dX10_pods_64 : decode cX10_pods 64 = .ok (.iload 5, 2) := by decide +kernel
theorem dX10_pods_66 : decode cX10_pods 66 = .ok (.bipush 14, 2) := by decide +kernel
theorem dX10_pods_68 : decode cX10_pods 68 = .ok (.if_icmp .ge 26, 3) := by decide +kernel
theorem dX10_pods_71 : decode cX10_pods 71 = .ok (.aload_n 0, 1) := by decide +kernel
theorem dX10_pods_72 : decode cX10_pods 72 = .ok (.getfield 92, 3) := by decide +kernel
theorem dX10_pods_75 : decode cX10_pods 75 = .ok (.iload 5, 2) := by decide +kernel
theorem dX10_pods_77 : decode cX10_pods 77 = .ok (.iload 5, 2) := by decide +kernel
theorem dX10_pods_79 : decode cX10_pods 79 = .ok (.ifCond .ne 7, 3) := by decide +kernel
theorem dX10_pods_82 : decode cX10_pods 82 = .ok (.lconst 1, 1) := by decide +kernel
theorem dX10_pods_83 : decode cX10_pods 83 = .ok (.goto 4, 3) := by decide +kernel
theorem dX10_pods_86 : decode cX10_pods 86 = .ok (.lconst 0, 1) := by decide +kernel
theorem dX10_pods_87 : decode cX10_pods 87 = .ok (.lastore, 1) := by decide +kernel
theorem dX10_pods_88 : decode cX10_pods 88 = .ok (.iinc 5 1, 3) := by decide +kernel
theorem dX10_pods_91 : decode cX10_pods 91 = .ok (.goto (-27), 3) := by decide +kernel
theorem dX10_pods_94 : decode cX10_pods 94 = .ok (.lconst 1, 1) := by decide +kernel
theorem dX10_pods_95 : decode cX10_pods 95 = .ok (.lstore 5, 2) := by decide +kernel
theorem dX10_pods_97 : decode cX10_pods 97 = .ok (.iconst 0, 1) := by decide +kernel
theorem dX10_pods_98 : decode cX10_pods 98 = .ok (.istore 7, 2) := by decide +kernel
theorem dX10_pods_100 : decode cX10_pods 100 = .ok (.iload 7, 2) := by decide +kernel
theorem dX10_pods_102 : decode cX10_pods 102 = .ok (.iload_n 1, 1) := by decide +kernel
theorem dX10_pods_103 : decode cX10_pods 103 = .ok (.if_icmp .ge 74, 3) := by decide +kernel
theorem dX10_pods_106 : decode cX10_pods 106 = .ok (.bipush 13, 2) := by decide +kernel
theorem dX10_pods_108 : decode cX10_pods 108 = .ok (.istore 8, 2) := by decide +kernel
theorem dX10_pods_110 : decode cX10_pods 110 = .ok (.iload 8, 2) := by decide +kernel
theorem dX10_pods_112 : decode cX10_pods 112 = .ok (.ifCond .lt 51, 3) := by decide +kernel
theorem dX10_pods_115 : decode cX10_pods 115 = .ok (.aload_n 0, 1) := by decide +kernel
theorem dX10_pods_116 : decode cX10_pods 116 = .ok (.getfield 92, 3) := by decide +kernel
theorem dX10_pods_119 : decode cX10_pods 119 = .ok (.iload 8, 2) := by decide +kernel
theorem dX10_pods_121 : decode cX10_pods 121 = .ok (.aload_n 0, 1) := by decide +kernel
theorem dX10_pods_122 : decode cX10_pods 122 = .ok (.getfield 92, 3) := by decide +kernel
theorem dX10_pods_125 : decode cX10_pods 125 = .ok (.iload 8, 2) := by decide +kernel
theorem dX10_pods_127 : decode cX10_pods 127 = .ok (.laload, 1) := by decide +kernel
theorem dX10_pods_128 : decode cX10_pods 128 = .ok (.bipush 16, 2) := by decide +kernel
theorem dX10_pods_130 : decode cX10_pods 130 = .ok (.iload_n 3, 1) := by decide +kernel
theorem dX10_pods_131 : decode cX10_pods 131 = .ok (.isub, 1) := by decide +kernel
theorem dX10_pods_132 : decode cX10_pods 132 = .ok (.i2l, 1) := by decide +kernel
theorem dX10_pods_133 : decode cX10_pods 133 = .ok (.lmul, 1) := by decide +kernel
theorem dX10_pods_134 : decode cX10_pods 134 = .ok (.iload 8, 2) := by decide +kernel
theorem dX10_pods_136 : decode cX10_pods 136 = .ok (.ifCond .le 18, 3) := by decide +kernel
theorem dX10_pods_139 : decode cX10_pods 139 = .ok (.aload_n 0, 1) := by decide +kernel
theorem dX10_pods_140 : decode cX10_pods 140 = .ok (.getfield 92, 3) := by decide +kernel
theorem dX10_pods_143 : decode cX10_pods 143 = .ok (.iload 8, 2) := by decide +kernel
theorem dX10_pods_145 : decode cX10_pods 145 = .ok (.iconst 1, 1) := by decide +kernel
theorem dX10_pods_146 : decode cX10_pods 146 = .ok (.isub, 1) := by decide +kernel
theorem dX10_pods_147 : decode cX10_pods 147 = .ok (.laload, 1) := by decide +kernel
theorem dX10_pods_148 : decode cX10_pods 148 = .ok (.iload_n 3, 1) := by decide +kernel
theorem dX10_pods_149 : decode cX10_pods 149 = .ok (.i2l, 1) := by decide +kernel
theorem dX10_pods_150 : decode cX10_pods 150 = .ok (.lmul, 1) := by decide +kernel
theorem dX10_pods_151 : decode cX10_pods 151 = .ok (.goto 4, 3) := by decide +kernel
theorem dX10_pods_154 : decode cX10_pods 154 = .ok (.lconst 0, 1) := by decide +kernel
theorem dX10_pods_155 : decode cX10_pods 155 = .ok (.ladd, 1) := by decide +kernel
theorem dX10_pods_156 : decode cX10_pods 156 = .ok (.lastore, 1) := by decide +kernel
theorem dX10_pods_157 : decode cX10_pods 157 = .ok (.iinc 8 (-1), 3) := by decide +kernel
theorem dX10_pods_160 : decode cX10_pods 160 = .ok (.goto (-50), 3) := by decide +kernel
theorem dX10_pods_163 : decode cX10_pods 163 = .ok (.lload 5, 2) := by decide +kernel
theorem dX10_pods_165 : decode cX10_pods 165 = .ok (.ldc2_w 432, 3) := by decide +kernel
theorem dX10_pods_168 : decode cX10_pods 168 = .ok (.lmul, 1) := by decide +kernel
theorem dX10_pods_169 : decode cX10_pods 169 = .ok (.lstore 5, 2) := by decide +kernel
theorem dX10_pods_171 : decode cX10_pods 171 = .ok (.iinc 7 1, 3) := by decide +kernel
theorem dX10_pods_174 : decode cX10_pods 174 = .ok (.goto (-74), 3) := by decide +kernel
theorem dX10_pods_177 : decode cX10_pods 177 = .ok (.lconst 0, 1) := by decide +kernel
theorem dX10_pods_178 : decode cX10_pods 178 = .ok (.lstore 7, 2) := by decide +kernel
theorem dX10_pods_180 : decode cX10_pods 180 = .ok (.iload_n 2, 1) := by decide +kernel
theorem dX10_pods_181 : decode cX10_pods 181 = .ok (.istore 9, 2) := by decide +kernel
theorem dX10_pods_183 : decode cX10_pods 183 = .ok (.iload 9, 2) := by decide +kernel
theorem dX10_pods_185 : decode cX10_pods 185 = .ok (.bipush 14, 2) := by decide +kernel
theorem dX10_pods_187 : decode cX10_pods 187 = .ok (.if_icmp .ge 21, 3) := by decide +kernel
theorem dX10_pods_190 : decode cX10_pods 190 = .ok (.lload 7, 2) := by decide +kernel
theorem dX10_pods_192 : decode cX10_pods 192 = .ok (.aload_n 0, 1) := by decide +kernel
theorem dX10_pods_193 : decode cX10_pods 193 = .ok (.getfield 92, 3) := by decide +kernel
theorem dX10_pods_196 : decode cX10_pods 196 = .ok (.iload 9, 2) := by decide +kernel
theorem dX10_pods_198 : decode cX10_pods 198 = .ok (.laload, 1) := by decide +kernel
theorem dX10_pods_199 : decode cX10_pods 199 = .ok (.ladd, 1) := by decide +kernel
theorem dX10_pods_200 : decode cX10_pods 200 = .ok (.lstore 7, 2) := by decide +kernel
theorem dX10_pods_202 : decode cX10_pods 202 = .ok (.iinc 9 1, 3) := by decide +kernel
theorem dX10_pods_205 : decode cX10_pods 205 = .ok (.goto (-22), 3) := by decide +kernel
theorem dX10_pods_208 : decode cX10_pods 208 = .ok (.lload 7, 2) := by decide +kernel
theorem dX10_pods_210 : decode cX10_pods 210 = .ok (.lload 5, 2) := by decide +kernel
theorem dX10_pods_212 : decode cX10_pods 212 = .ok (.iload 4, 2) := by decide +kernel
theorem dX10_pods_214 : decode cX10_pods 214 = .ok (.invokestatic 434, 3) := by decide +kernel
theorem dX10_pods_217 : decode cX10_pods 217 = .ok (.lreturn, 1) := by decide +kernel
theorem dX10_hasBy_0 : decode cX10_hasBy 0 = .ok (.iload_n 0, 1) := by decide +kernel
theorem dX10_hasBy_1 : decode cX10_hasBy 1 = .ok (.iload_n 1, 1) := by decide +kernel
theorem dX10_hasBy_2 : decode cX10_hasBy 2 = .ok (.if_icmp .ne 18, 3) := by decide +kernel
theorem dX10_hasBy_5 : decode cX10_hasBy 5 = .ok (.iload_n 0, 1) := by decide +kernel
theorem dX10_hasBy_6 : decode cX10_hasBy 6 = .ok (.ifCond .ne 8, 3) := by decide +kernel
theorem dX10_hasBy_9 : decode cX10_hasBy 9 = .ok (.iload_n 3, 1) := by decide +kernel
theorem dX10_hasBy_10 : decode cX10_hasBy 10 = .ok (.ineg, 1) := by decide +kernel
theorem dX10_hasBy_11 : decode cX10_hasBy 11 = .ok (.goto 18, 3) := by decide +kernel
theorem dX10_hasBy_14 : decode cX10_hasBy 14 = .ok (.iload_n 2, 1) := by decide +kernel
theorem dX10_hasBy_15 : decode cX10_hasBy 15 = .ok (.iload_n 3, 1) := by decide +kernel
theorem dX10_hasBy_16 : decode cX10_hasBy 16 = .ok (.isub, 1) := by decide +kernel
theorem dX10_hasBy_17 : decode cX10_hasBy 17 = .ok (.goto 12, 3) := by decide +kernel
theorem dX10_hasBy_20 : decode cX10_hasBy 20 = .ok (.iload_n 0, 1) := by decide +kernel
theorem dX10_hasBy_21 : decode cX10_hasBy 21 = .ok (.ifCond .ne 7, 3) := by decide +kernel
theorem dX10_hasBy_24 : decode cX10_hasBy 24 = .ok (.iconst 0, 1) := by decide +kernel
theorem dX10_hasBy_25 : decode cX10_hasBy 25 = .ok (.goto 4, 3) := by decide +kernel
theorem dX10_hasBy_28 : decode cX10_hasBy 28 = .ok (.iload_n 2, 1) := by decide +kernel
theorem dX10_hasBy_29 : decode cX10_hasBy 29 = .ok (.ireturn, 1) := by decide +kernel
theorem dX10_she_0 : decode cX10_she 0 = .ok (.aload_n 0, 1) := by decide +kernel
theorem dX10_she_1 : decode cX10_she 1 = .ok (.iconst 0, 1) := by decide +kernel
theorem dX10_she_2 : decode cX10_she 2 = .ok (.putfield 3, 3) := by decide +kernel
theorem dX10_she_5 : decode cX10_she 5 = .ok (.aload_n 0, 1) := by decide +kernel
theorem dX10_she_6 : decode cX10_she 6 = .ok (.iload_n 1, 1) := by decide +kernel
theorem dX10_she_7 : decode cX10_she 7 = .ok (.iconst 0, 1) := by decide +kernel
theorem dX10_she_8 : decode cX10_she 8 = .ok (.bipush 99, 2) := by decide +kernel
theorem dX10_she_10 : decode cX10_she 10 = .ok (.invokestatic 383, 3) := by decide +kernel
theorem dX10_she_13 : decode cX10_she 13 = .ok (.ifCond .eq 26, 3) := by decide +kernel
theorem dX10_she_16 : decode cX10_she 16 = .ok (.iload_n 2, 1) := by decide +kernel
theorem dX10_she_17 : decode cX10_she 17 = .ok (.iconst 0, 1) := by decide +kernel
theorem dX10_she_18 : decode cX10_she 18 = .ok (.bipush 99, 2) := by decide +kernel
theorem dX10_she_20 : decode cX10_she 20 = .ok (.invokestatic 383, 3) := by decide +kernel
theorem dX10_she_23 : decode cX10_she 23 = .ok (.ifCond .eq 16, 3) := by decide +kernel
theorem dX10_she_26 : decode cX10_she 26 = .ok (.iload_n 3, 1) := by decide +kernel
theorem dX10_she_27 : decode cX10_she 27 = .ok (.iconst 0, 1) := by decide +kernel
theorem dX10_she_28 : decode cX10_she 28 = .ok (.iconst 2, 1) := by decide +kernel
theorem dX10_she_29 : decode cX10_she 29 = .ok (.invokestatic 383, 3) := by decide +kernel
theorem dX10_she_32 : decode cX10_she 32 = .ok (.ifCond .eq 7, 3) := by decide +kernel
theorem dX10_she_35 : decode cX10_she 35 = .ok (.iconst 1, 1) := by decide +kernel
theorem dX10_she_36 : decode cX10_she 36 = .ok (.goto 4, 3) := by decide +kernel
theorem dX10_she_39 : decode cX10_she 39 = .ok (.iconst 0, 1) := by decide +kernel
theorem dX10_she_40 : decode cX10_she 40 = .ok (.iconst 1, 1) := by decide +kernel
theorem dX10_she_41 : decode cX10_she 41 = .ok (.iconst 1, 1) := by decide +kernel
theorem dX10_she_42 : decode cX10_she 42 = .ok (.invokevirtual 205, 3) := by decide +kernel
theorem dX10_she_45 : decode cX10_she 45 = .ok (.ifCond .ne 5, 3) := by decide +kernel
theorem dX10_she_48 : decode cX10_she 48 = .ok (.iconst 0, 1) := by decide +kernel
theorem dX10_she_49 : decode cX10_she 49 = .ok (.ireturn, 1) := by decide +kernel
theorem dX10_she_50 : decode cX10_she 50 = .ok (.iconst 0, 1) := by decide +kernel
theorem dX10_she_51 : decode cX10_she 51 = .ok (.istore 4, 2) := by decide +kernel
theorem dX10_she_53 : decode cX10_she 53 = .ok (.iconst (-1), 1) := by decide +kernel
theorem dX10_she_54 : decode cX10_she 54 = .ok (.istore 5, 2) := by decide +kernel
theorem dX10_she_56 : decode cX10_she 56 = .ok (.iconst 0, 1) := by decide +kernel
theorem dX10_she_57 : decode cX10_she 57 = .ok (.istore 6, 2) := by decide +kernel
theorem dX10_she_59 : decode cX10_she 59 = .ok (.iload 6, 2) := by decide +kernel
theorem dX10_she_61 : decode cX10_she 61 = .ok (.iconst 4, 1) := by decide +kernel
theorem dX10_she_62 : decode cX10_she 62 = .ok (.if_icmp .ge 94, 3) := by decide +kernel
theorem dX10_she_65 : decode cX10_she 65 = .ok (.iload 6, 2) := by decide +kernel
theorem dX10_she_67 : decode cX10_she 67 = .ok (.iconst 2, 1) := by decide +kernel
theorem dX10_she_68 : decode cX10_she 68 = .ok (.idiv, 1) := by decide +kernel
theorem dX10_she_69 : decode cX10_she 69 = .ok (.istore 7, 2) := by decide +kernel
theorem dX10_she_71 : decode cX10_she 71 = .ok (.iload 6, 2) := by decide +kernel
theorem dX10_she_73 : decode cX10_she 73 = .ok (.iconst 2, 1) := by decide +kernel
theorem dX10_she_74 : decode cX10_she 74 = .ok (.irem, 1) := by decide +kernel
theorem dX10_she_75 : decode cX10_she 75 = .ok (.istore 8, 2) := by decide +kernel
theorem dX10_she_77 : decode cX10_she 77 = .ok (.iconst 1, 1) := by decide +kernel
theorem dX10_she_78 : decode cX10_she 78 = .ok (.iload 7, 2) := by decide +kernel
theorem dX10_she_80 : decode cX10_she 80 = .ok (.isub, 1) := by decide +kernel
theorem dX10_she_81 : decode cX10_she 81 = .ok (.iload 8, 2) := by decide +kernel
theorem dX10_she_83 : decode cX10_she 83 = .ok (.iload_n 1, 1) := by decide +kernel
theorem dX10_she_84 : decode cX10_she 84 = .ok (.iload_n 2, 1) := by decide +kernel
theorem dX10_she_85 : decode cX10_she 85 = .ok (.invokestatic 437, 3) := by decide +kernel
theorem dX10_she_88 : decode cX10_she 88 = .ok (.iload 7, 2) := by decide +kernel
theorem dX10_she_90 : decode cX10_she 90 = .ok (.iload 8, 2) := by decide +kernel
theorem dX10_she_92 : decode cX10_she 92 = .ok (.iload_n 1, 1) := by decide +kernel
theorem dX10_she_93 : decode cX10_she 93 = .ok (.iload_n 2, 1) := by decide +kernel
theorem dX10_she_94 : decode cX10_she 94 = .ok (.invokestatic 437, 3) := by decide +kernel
theorem dX10_she_97 : decode cX10_she 97 = .ok (.if_icmp .gt 53, 3) := by decide +kernel
theorem dX10_she_100 : decode cX10_she 100 = .ok (.iconst 1, 1) := by decide +kernel
theorem dX10_she_101 : decode cX10_she 101 = .ok (.iload 8, 2) := by decide +kernel
theorem dX10_she_103 : decode cX10_she 103 = .ok (.isub, 1) := by decide +kernel
theorem dX10_she_104 : decode cX10_she 104 = .ok (.iload 7, 2) := by decide +kernel
theorem dX10_she_106 : decode cX10_she 106 = .ok (.iload_n 1, 1) := by decide +kernel
theorem dX10_she_107 : decode cX10_she 107 = .ok (.iload_n 2, 1) := by decide +kernel
theorem dX10_she_108 : decode cX10_she 108 = .ok (.invokestatic 437, 3) := by decide +kernel
theorem dX10_she_111 : decode cX10_she 111 = .ok (.iload 8, 2) := by decide +kernel
theorem dX10_she_113 : decode cX10_she 113 = .ok (.iload 7, 2) := by decide +kernel
theorem dX10_she_115 : decode cX10_she 115 = .ok (.iload_n 1, 1) := by decide +kernel
theorem dX10_she_116 : decode cX10_she 116 = .ok (.iload_n 2, 1) := by decide +kernel
theorem dX10_she_117 : decode cX10_she 117 = .ok (.invokestatic 437, 3) := by decide +kernel
theorem dX10_she_120 : decode cX10_she 120 = .ok (.if_icmp .le 6, 3) := by decide +kernel
theorem dX10_she_123 : decode cX10_she 123 = .ok (.goto 27, 3) := by decide +kernel
theorem dX10_she_126 : decode cX10_she 126 = .ok (.iinc 4 1, 3) := by decide +kernel
theorem dX10_she_129 : decode cX10_she 129 = .ok (.iload 5, 2) := by decide +kernel
theorem dX10_she_131 : decode cX10_she 131 = .ok (.iconst (-1), 1) := by decide +kernel
theorem dX10_she_132 : decode cX10_she 132 = .ok (.if_icmp .ne 14, 3) := by decide +kernel
theorem dX10_she_135 : decode cX10_she 135 = .ok (.bipush 10, 2) := by decide +kernel
theorem dX10_she_137 : decode cX10_she 137 = .ok (.iload 7, 2) := by decide +kernel
theorem dX10_she_139 : decode cX10_she 139 = .ok (.imul, 1) := by decide +kernel
theorem dX10_she_140 : decode cX10_she 140 = .ok (.iload 8, 2) := by decide +kernel
theorem dX10_she_142 : decode cX10_she 142 = .ok (.iadd, 1) := by decide +kernel
theorem dX10_she_143 : decode cX10_she 143 = .ok (.goto 5, 3) := by decide +kernel
theorem dX10_she_146 : decode cX10_she 146 = .ok (.iload 5, 2) := by decide +kernel
theorem dX10_she_148 : decode cX10_she 148 = .ok (.istore 5, 2) := by decide +kernel
theorem dX10_she_150 : decode cX10_she 150 = .ok (.iinc 6 1, 3) := by decide +kernel
theorem dX10_she_153 : decode cX10_she 153 = .ok (.goto (-94), 3) := by decide +kernel
theorem dX10_she_156 : decode cX10_she 156 = .ok (.iload_n 3, 1) := by decide +kernel
theorem dX10_she_157 : decode cX10_she 157 = .ok (.ifCond .ne 8, 3) := by decide +kernel
theorem dX10_she_160 : decode cX10_she 160 = .ok (.iload 4, 2) := by decide +kernel
theorem dX10_she_162 : decode cX10_she 162 = .ok (.goto 54, 3) := by decide +kernel
theorem dX10_she_165 : decode cX10_she 165 = .ok (.iload_n 3, 1) := by decide +kernel
theorem dX10_she_166 : decode cX10_she 166 = .ok (.iconst 1, 1) := by decide +kernel
theorem dX10_she_167 : decode cX10_she 167 = .ok (.if_icmp .ne 8, 3) := by decide +kernel
theorem dX10_she_170 : decode cX10_she 170 = .ok (.iload 5, 2) := by decide +kernel
theorem dX10_she_172 : decode cX10_she 172 = .ok (.goto 44, 3) := by decide +kernel
theorem dX10_she_175 : decode cX10_she 175 = .ok (.iload 5, 2) := by decide +kernel
theorem dX10_she_177 : decode cX10_she 177 = .ok (.iconst (-1), 1) := by decide +kernel
theorem dX10_she_178 : decode cX10_she 178 = .ok (.if_icmp .ne 7, 3) := by decide +kernel
theorem dX10_she_181 : decode cX10_she 181 = .ok (.iconst 0, 1) := by decide +kernel
theorem dX10_she_182 : decode cX10_she 182 = .ok (.goto 34, 3) := by decide +kernel
theorem dX10_she_185 : decode cX10_she 185 = .ok (.iload 5, 2) := by decide +kernel
theorem dX10_she_187 : decode cX10_she 187 = .ok (.bipush 10, 2) := by decide +kernel
theorem dX10_she_189 : decode cX10_she 189 = .ok (.idiv, 1) := by decide +kernel
theorem dX10_she_190 : decode cX10_she 190 = .ok (.iload 5, 2) := by decide +kernel
theorem dX10_she_192 : decode cX10_she 192 = .ok (.bipush 10, 2) := by decide +kernel
theorem dX10_she_194 : decode cX10_she 194 = .ok (.irem, 1) := by decide +kernel
theorem dX10_she_195 : decode cX10_she 195 = .ok (.iload_n 1, 1) := by decide +kernel
theorem dX10_she_196 : decode cX10_she 196 = .ok (.iload_n 2, 1) := by decide +kernel
theorem dX10_she_197 : decode cX10_she 197 = .ok (.invokestatic 437, 3) := by decide +kernel
theorem dX10_she_200 : decode cX10_she 200 = .ok (.iload 5, 2) := by decide +kernel
theorem dX10_she_202 : decode cX10_she 202 = .ok (.bipush 10, 2) := by decide +kernel
theorem dX10_she_204 : decode cX10_she 204 = .ok (.irem, 1) := by decide +kernel
theorem dX10_she_205 : decode cX10_she 205 = .ok (.iload 5, 2) := by decide +kernel
theorem dX10_she_207 : decode cX10_she 207 = .ok (.bipush 10, 2) := by decide +kernel
theorem dX10_she_209 : decode cX10_she 209 = .ok (.idiv, 1) := by decide +kernel
theorem dX10_she_210 : decode cX10_she 210 = .ok (.iload_n 1, 1) := by decide +kernel
theorem dX10_she_211 : decode cX10_she 211 = .ok (.iload_n 2, 1) := by decide +kernel
theorem dX10_she_212 : decode cX10_she 212 = .ok (.invokestatic 437, 3) := by decide +kernel
theorem dX10_she_215 : decode cX10_she 215 = .ok (.iadd, 1) := by decide +kernel
theorem dX10_she_216 : decode cX10_she 216 = .ok (.ireturn, 1) := by decide +kernel
theorem dX10_seedBy_0 : decode cX10_seedBy 0 = .ok (.iconst 0, 1) := by decide +kernel
theorem dX10_seedBy_1 : decode cX10_seedBy 1 = .ok (.istore_n 3, 1) := by decide +kernel
theorem dX10_seedBy_2 : decode cX10_seedBy 2 = .ok (.iconst 0, 1) := by decide +kernel
theorem dX10_seedBy_3 : decode cX10_seedBy 3 = .ok (.istore 4, 2) := by decide +kernel
theorem dX10_seedBy_5 : decode cX10_seedBy 5 = .ok (.iload 4, 2) := by decide +kernel
theorem dX10_seedBy_7 : decode cX10_seedBy 7 = .ok (.aload_n 0, 1) := by decide +kernel
theorem dX10_seedBy_8 : decode cX10_seedBy 8 = .ok (.getfield 160, 3) := by decide +kernel
theorem dX10_seedBy_11 : decode cX10_seedBy 11 = .ok (.if_icmp .ge 33, 3) := by decide +kernel
theorem dX10_seedBy_14 : decode cX10_seedBy 14 = .ok (.iload_n 3, 1) := by decide +kernel
theorem dX10_seedBy_15 : decode cX10_seedBy 15 = .ok (.iload_n 1, 1) := by decide +kernel
theorem dX10_seedBy_16 : decode cX10_seedBy 16 = .ok (.iload 4, 2) := by decide +kernel
theorem dX10_seedBy_18 : decode cX10_seedBy 18 = .ok (.ishr, 1) := by decide +kernel
theorem dX10_seedBy_19 : decode cX10_seedBy 19 = .ok (.iconst 1, 1) := by decide +kernel
theorem dX10_seedBy_20 : decode cX10_seedBy 20 = .ok (.iand, 1) := by decide +kernel
theorem dX10_seedBy_21 : decode cX10_seedBy 21 = .ok (.aload_n 0, 1) := by decide +kernel
theorem dX10_seedBy_22 : decode cX10_seedBy 22 = .ok (.getfield 65, 3) := by decide +kernel
theorem dX10_seedBy_25 : decode cX10_seedBy 25 = .ok (.bipush 84, 2) := by decide +kernel
theorem dX10_seedBy_27 : decode cX10_seedBy 27 = .ok (.iload 4, 2) := by decide +kernel
theorem dX10_seedBy_29 : decode cX10_seedBy 29 = .ok (.iadd, 1) := by decide +kernel
theorem dX10_seedBy_30 : decode cX10_seedBy 30 = .ok (.iaload, 1) := by decide +kernel
theorem dX10_seedBy_31 : decode cX10_seedBy 31 = .ok (.iload_n 2, 1) := by decide +kernel
theorem dX10_seedBy_32 : decode cX10_seedBy 32 = .ok (.invokestatic 343, 3) := by decide +kernel
theorem dX10_seedBy_35 : decode cX10_seedBy 35 = .ok (.imul, 1) := by decide +kernel
theorem dX10_seedBy_36 : decode cX10_seedBy 36 = .ok (.iadd, 1) := by decide +kernel
theorem dX10_seedBy_37 : decode cX10_seedBy 37 = .ok (.istore_n 3, 1) := by decide +kernel
theorem dX10_seedBy_38 : decode cX10_seedBy 38 = .ok (.iinc 4 1, 3) := by decide +kernel
theorem dX10_seedBy_41 : decode cX10_seedBy 41 = .ok (.goto (-36), 3) := by decide +kernel
theorem dX10_seedBy_44 : decode cX10_seedBy 44 = .ok (.iload_n 3, 1) := by decide +kernel
theorem dX10_seedBy_45 : decode cX10_seedBy 45 = .ok (.ireturn, 1) := by decide +kernel
theorem dX10_seed_0 : decode cX10_seed 0 = .ok (.aload_n 0, 1) := by decide +kernel
theorem dX10_seed_1 : decode cX10_seed 1 = .ok (.iconst 0, 1) := by decide +kernel
theorem dX10_seed_2 : decode cX10_seed 2 = .ok (.putfield 3, 3) := by decide +kernel
theorem dX10_seed_5 : decode cX10_seed 5 = .ok (.aload_n 0, 1) := by decide +kernel
theorem dX10_seed_6 : decode cX10_seed 6 = .ok (.iload_n 1, 1) := by decide +kernel
theorem dX10_seed_7 : decode cX10_seed 7 = .ok (.iconst 1, 1) := by decide +kernel
theorem dX10_seed_8 : decode cX10_seed 8 = .ok (.invokevirtual 395, 3) := by decide +kernel
theorem dX10_seed_11 : decode cX10_seed 11 = .ok (.ifCond .eq 41, 3) := by decide +kernel
theorem dX10_seed_14 : decode cX10_seed 14 = .ok (.aload_n 0, 1) := by decide +kernel
theorem dX10_seed_15 : decode cX10_seed 15 = .ok (.iload_n 2, 1) := by decide +kernel
theorem dX10_seed_16 : decode cX10_seed 16 = .ok (.ifCond .lt 27, 3) := by decide +kernel
theorem dX10_seed_19 : decode cX10_seed 19 = .ok (.iload_n 2, 1) := by decide +kernel
theorem dX10_seed_20 : decode cX10_seed 20 = .ok (.iconst 1, 1) := by decide +kernel
theorem dX10_seed_21 : decode cX10_seed 21 = .ok (.aload_n 0, 1) := by decide +kernel
theorem dX10_seed_22 : decode cX10_seed 22 = .ok (.getfield 160, 3) := by decide +kernel
theorem dX10_seed_25 : decode cX10_seed 25 = .ok (.ishl, 1) := by decide +kernel
theorem dX10_seed_26 : decode cX10_seed 26 = .ok (.if_icmp .ge 17, 3) := by decide +kernel
theorem dX10_seed_29 : decode cX10_seed 29 = .ok (.iload_n 3, 1) := by decide +kernel
theorem dX10_seed_30 : decode cX10_seed 30 = .ok (.iconst 0, 1) := by decide +kernel
theorem dX10_seed_31 : decode cX10_seed 31 = .ok (.bipush 99, 2) := by decide +kernel
theorem dX10_seed_33 : decode cX10_seed 33 = .ok (.invokestatic 383, 3) := by decide +kernel
theorem dX10_seed_36 : decode cX10_seed 36 = .ok (.ifCond .eq 7, 3) := by decide +kernel
theorem dX10_seed_39 : decode cX10_seed 39 = .ok (.iconst 1, 1) := by decide +kernel
theorem dX10_seed_40 : decode cX10_seed 40 = .ok (.goto 4, 3) := by decide +kernel
theorem dX10_seed_43 : decode cX10_seed 43 = .ok (.iconst 0, 1) := by decide +kernel
theorem dX10_seed_44 : decode cX10_seed 44 = .ok (.iconst 2, 1) := by decide +kernel
theorem dX10_seed_45 : decode cX10_seed 45 = .ok (.iconst 1, 1) := by decide +kernel
theorem dX10_seed_46 : decode cX10_seed 46 = .ok (.invokevirtual 205, 3) := by decide +kernel
theorem dX10_seed_49 : decode cX10_seed 49 = .ok (.ifCond .ne 5, 3) := by decide +kernel
theorem dX10_seed_52 : decode cX10_seed 52 = .ok (.iconst 0, 1) := by decide +kernel
theorem dX10_seed_53 : decode cX10_seed 53 = .ok (.ireturn, 1) := by decide +kernel
theorem dX10_seed_54 : decode cX10_seed 54 = .ok (.bipush 12, 2) := by decide +kernel
theorem dX10_seed_56 : decode cX10_seed 56 = .ok (.istore 4, 2) := by decide +kernel
theorem dX10_seed_58 : decode cX10_seed 58 = .ok (.aload_n 0, 1) := by decide +kernel
theorem dX10_seed_59 : decode cX10_seed 59 = .ok (.iload_n 2, 1) := by decide +kernel
theorem dX10_seed_60 : decode cX10_seed 60 = .ok (.iload 4, 2) := by decide +kernel
theorem dX10_seed_62 : decode cX10_seed 62 = .ok (.invokevirtual 441, 3) := by decide +kernel
theorem dX10_seed_65 : decode cX10_seed 65 = .ok (.iload_n 3, 1) := by decide +kernel
theorem dX10_seed_66 : decode cX10_seed 66 = .ok (.if_icmp .le 9, 3) := by decide +kernel
theorem dX10_seed_69 : decode cX10_seed 69 = .ok (.iinc 4 (-1), 3) := by decide +kernel
theorem dX10_seed_72 : decode cX10_seed 72 = .ok (.goto (-14), 3) := by decide +kernel
theorem dX10_seed_75 : decode cX10_seed 75 = .ok (.iload_n 2, 1) := by decide +kernel
theorem dX10_seed_76 : decode cX10_seed 76 = .ok (.iload_n 1, 1) := by decide +kernel
theorem dX10_seed_77 : decode cX10_seed 77 = .ok (.ishr, 1) := by decide +kernel
theorem dX10_seed_78 : decode cX10_seed 78 = .ok (.iconst 1, 1) := by decide +kernel
theorem dX10_seed_79 : decode cX10_seed 79 = .ok (.iand, 1) := by decide +kernel
theorem dX10_seed_80 : decode cX10_seed 80 = .ok (.ifCond .ne 7, 3) := by decide +kernel
theorem dX10_seed_83 : decode cX10_seed 83 = .ok (.iconst 0, 1) := by decide +kernel
theorem dX10_seed_84 : decode cX10_seed 84 = .ok (.goto 17, 3) := by decide +kernel
theorem dX10_seed_87 : decode cX10_seed 87 = .ok (.aload_n 0, 1) := by decide +kernel
theorem dX10_seed_88 : decode cX10_seed 88 = .ok (.getfield 65, 3) := by decide +kernel
theorem dX10_seed_91 : decode cX10_seed 91 = .ok (.bipush 84, 2) := by decide +kernel
theorem dX10_seed_93 : decode cX10_seed 93 = .ok (.iload_n 1, 1) := by decide +kernel
theorem dX10_seed_94 : decode cX10_seed 94 = .ok (.iadd, 1) := by decide +kernel
theorem dX10_seed_95 : decode cX10_seed 95 = .ok (.iaload, 1) := by decide +kernel
theorem dX10_seed_96 : decode cX10_seed 96 = .ok (.iload 4, 2) := by decide +kernel
theorem dX10_seed_98 : decode cX10_seed 98 = .ok (.invokestatic 343, 3) := by decide +kernel
theorem dX10_seed_101 : decode cX10_seed 101 = .ok (.ireturn, 1) := by decide +kernel
theorem dX10_oftenOf_0 : decode cX10_oftenOf 0 = .ok (.iconst 0, 1) := by decide +kernel
theorem dX10_oftenOf_1 : decode cX10_oftenOf 1 = .ok (.istore_n 2, 1) := by decide +kernel
theorem dX10_oftenOf_2 : decode cX10_oftenOf 2 = .ok (.iconst 0, 1) := by decide +kernel
theorem dX10_oftenOf_3 : decode cX10_oftenOf 3 = .ok (.istore_n 3, 1) := by decide +kernel
theorem dX10_oftenOf_4 : decode cX10_oftenOf 4 = .ok (.iload_n 3, 1) := by decide +kernel
theorem dX10_oftenOf_5 : decode cX10_oftenOf 5 = .ok (.aload_n 0, 1) := by decide +kernel
theorem dX10_oftenOf_6 : decode cX10_oftenOf 6 = .ok (.getfield 160, 3) := by decide +kernel
theorem dX10_oftenOf_9 : decode cX10_oftenOf 9 = .ok (.if_icmp .ge 59, 3) := by decide +kernel
theorem dX10_oftenOf_12 : decode cX10_oftenOf 12 = .ok (.iconst 0, 1) := by decide +kernel
theorem dX10_oftenOf_13 : decode cX10_oftenOf 13 = .ok (.istore 4, 2) := by decide +kernel
theorem dX10_oftenOf_15 : decode cX10_oftenOf 15 = .ok (.iload 4, 2) := by decide +kernel
theorem dX10_oftenOf_17 : decode cX10_oftenOf 17 = .ok (.aload_n 0, 1) := by decide +kernel
theorem dX10_oftenOf_18 : decode cX10_oftenOf 18 = .ok (.getfield 65, 3) := by decide +kernel
theorem dX10_oftenOf_21 : decode cX10_oftenOf 21 = .ok (.bipush 84, 2) := by decide +kernel
theorem dX10_oftenOf_23 : decode cX10_oftenOf 23 = .ok (.iload_n 3, 1) := by decide +kernel
theorem dX10_oftenOf_24 : decode cX10_oftenOf 24 = .ok (.iadd, 1) := by decide +kernel
theorem dX10_oftenOf_25 : decode cX10_oftenOf 25 = .ok (.iaload, 1) := by decide +kernel
theorem dX10_oftenOf_26 : decode cX10_oftenOf 26 = .ok (.if_icmp .ge 36, 3) := by decide +kernel
theorem dX10_oftenOf_29 : decode cX10_oftenOf 29 = .ok (.iload_n 2, 1) := by decide +kernel
theorem dX10_oftenOf_30 : decode cX10_oftenOf 30 = .ok (.aload_n 0, 1) := by decide +kernel
theorem dX10_oftenOf_31 : decode cX10_oftenOf 31 = .ok (.getfield 65, 3) := by decide +kernel
theorem dX10_oftenOf_34 : decode cX10_oftenOf 34 = .ok (.bipush 12, 2) := by decide +kernel
theorem dX10_oftenOf_36 : decode cX10_oftenOf 36 = .ok (.bipush 12, 2) := by decide +kernel
theorem dX10_oftenOf_38 : decode cX10_oftenOf 38 = .ok (.iload_n 3, 1) := by decide +kernel
theorem dX10_oftenOf_39 : decode cX10_oftenOf 39 = .ok (.imul, 1) := by decide +kernel
theorem dX10_oftenOf_40 : decode cX10_oftenOf 40 = .ok (.iadd, 1) := by decide +kernel
theorem dX10_oftenOf_41 : decode cX10_oftenOf 41 = .ok (.iload 4, 2) := by decide +kernel
theorem dX10_oftenOf_43 : decode cX10_oftenOf 43 = .ok (.iadd, 1) := by decide +kernel
theorem dX10_oftenOf_44 : decode cX10_oftenOf 44 = .ok (.iaload, 1) := by decide +kernel
theorem dX10_oftenOf_45 : decode cX10_oftenOf 45 = .ok (.iload_n 1, 1) := by decide +kernel
theorem dX10_oftenOf_46 : decode cX10_oftenOf 46 = .ok (.if_icmp .ne 7, 3) := by decide +kernel
theorem dX10_oftenOf_49 : decode cX10_oftenOf 49 = .ok (.iconst 1, 1) := by decide +kernel
theorem dX10_oftenOf_50 : decode cX10_oftenOf 50 = .ok (.goto 4, 3) := by decide +kernel
theorem dX10_oftenOf_53 : decode cX10_oftenOf 53 = .ok (.iconst 0, 1) := by decide +kernel
theorem dX10_oftenOf_54 : decode cX10_oftenOf 54 = .ok (.iadd, 1) := by decide +kernel
theorem dX10_oftenOf_55 : decode cX10_oftenOf 55 = .ok (.istore_n 2, 1) := by decide +kernel
theorem dX10_oftenOf_56 : decode cX10_oftenOf 56 = .ok (.iinc 4 1, 3) := by decide +kernel
theorem dX10_oftenOf_59 : decode cX10_oftenOf 59 = .ok (.goto (-44), 3) := by decide +kernel
theorem dX10_oftenOf_62 : decode cX10_oftenOf 62 = .ok (.iinc 3 1, 3) := by decide +kernel
theorem dX10_oftenOf_65 : decode cX10_oftenOf 65 = .ok (.goto (-61), 3) := by decide +kernel
theorem dX10_oftenOf_68 : decode cX10_oftenOf 68 = .ok (.iload_n 2, 1) := by decide +kernel
theorem dX10_oftenOf_69 : decode cX10_oftenOf 69 = .ok (.ireturn, 1) := by decide +kernel
theorem dX10_often_0 : decode cX10_often 0 = .ok (.aload_n 0, 1) := by decide +kernel
theorem dX10_often_1 : decode cX10_often 1 = .ok (.iconst 0, 1) := by decide +kernel
theorem dX10_often_2 : decode cX10_often 2 = .ok (.putfield 3, 3) := by decide +kernel
theorem dX10_often_5 : decode cX10_often 5 = .ok (.aload_n 0, 1) := by decide +kernel
theorem dX10_often_6 : decode cX10_often 6 = .ok (.iload_n 1, 1) := by decide +kernel
theorem dX10_often_7 : decode cX10_often 7 = .ok (.iconst 0, 1) := by decide +kernel
theorem dX10_often_8 : decode cX10_often 8 = .ok (.iconst 1, 1) := by decide +kernel
theorem dX10_often_9 : decode cX10_often 9 = .ok (.invokestatic 383, 3) := by decide +kernel
theorem dX10_often_12 : decode cX10_often 12 = .ok (.iconst 1, 1) := by decide +kernel
theorem dX10_often_13 : decode cX10_often 13 = .ok (.iconst 1, 1) := by decide +kernel
theorem dX10_often_14 : decode cX10_often 14 = .ok (.invokevirtual 205, 3) := by decide +kernel
theorem dX10_often_17 : decode cX10_often 17 = .ok (.ifCond .ne 5, 3) := by decide +kernel
theorem dX10_often_20 : decode cX10_often 20 = .ok (.iconst 0, 1) := by decide +kernel
theorem dX10_often_21 : decode cX10_often 21 = .ok (.ireturn, 1) := by decide +kernel
theorem dX10_often_22 : decode cX10_often 22 = .ok (.iconst (-1), 1) := by decide +kernel
theorem dX10_often_23 : decode cX10_often 23 = .ok (.istore_n 2, 1) := by decide +kernel
theorem dX10_often_24 : decode cX10_often 24 = .ok (.iconst 0, 1) := by decide +kernel
theorem dX10_often_25 : decode cX10_often 25 = .ok (.istore_n 3, 1) := by decide +kernel
theorem dX10_often_26 : decode cX10_often 26 = .ok (.iload_n 3, 1) := by decide +kernel
theorem dX10_often_27 : decode cX10_often 27 = .ok (.bipush 16, 2) := by decide +kernel
theorem dX10_often_29 : decode cX10_often 29 = .ok (.if_icmp .ge 33, 3) := by decide +kernel
theorem dX10_often_32 : decode cX10_often 32 = .ok (.aload_n 0, 1) := by decide +kernel
theorem dX10_often_33 : decode cX10_often 33 = .ok (.iload_n 3, 1) := by decide +kernel
theorem dX10_often_34 : decode cX10_often 34 = .ok (.invokevirtual 444, 3) := by decide +kernel
theorem dX10_often_37 : decode cX10_often 37 = .ok (.iload_n 2, 1) := by decide +kernel
theorem dX10_often_38 : decode cX10_often 38 = .ok (.iconst (-1), 1) := by decide +kernel
theorem dX10_often_39 : decode cX10_often 39 = .ok (.if_icmp .ne 7, 3) := by decide +kernel
theorem dX10_often_42 : decode cX10_often 42 = .ok (.iconst 0, 1) := by decide +kernel
theorem dX10_often_43 : decode cX10_often 43 = .ok (.goto 8, 3) := by decide +kernel
theorem dX10_often_46 : decode cX10_often 46 = .ok (.aload_n 0, 1) := by decide +kernel
theorem dX10_often_47 : decode cX10_often 47 = .ok (.iload_n 2, 1) := by decide +kernel
theorem dX10_often_48 : decode cX10_often 48 = .ok (.invokevirtual 444, 3) := by decide +kernel
theorem dX10_often_51 : decode cX10_often 51 = .ok (.if_icmp .le 5, 3) := by decide +kernel
theorem dX10_often_54 : decode cX10_often 54 = .ok (.iload_n 3, 1) := by decide +kernel
theorem dX10_often_55 : decode cX10_often 55 = .ok (.istore_n 2, 1) := by decide +kernel
theorem dX10_often_56 : decode cX10_often 56 = .ok (.iinc 3 1, 3) := by decide +kernel
theorem dX10_often_59 : decode cX10_often 59 = .ok (.goto (-33), 3) := by decide +kernel
theorem dX10_often_62 : decode cX10_often 62 = .ok (.iload_n 1, 1) := by decide +kernel
theorem dX10_often_63 : decode cX10_often 63 = .ok (.ifCond .eq 8, 3) := by decide +kernel
theorem dX10_often_66 : decode cX10_often 66 = .ok (.iload_n 2, 1) := by decide +kernel
theorem dX10_often_67 : decode cX10_often 67 = .ok (.iconst (-1), 1) := by decide +kernel
theorem dX10_often_68 : decode cX10_often 68 = .ok (.if_icmp .ne 7, 3) := by decide +kernel
theorem dX10_often_71 : decode cX10_often 71 = .ok (.iload_n 2, 1) := by decide +kernel
theorem dX10_often_72 : decode cX10_often 72 = .ok (.goto 8, 3) := by decide +kernel
theorem dX10_often_75 : decode cX10_often 75 = .ok (.aload_n 0, 1) := by decide +kernel
theorem dX10_often_76 : decode cX10_often 76 = .ok (.iload_n 2, 1) := by decide +kernel
theorem dX10_often_77 : decode cX10_often 77 = .ok (.invokevirtual 444, 3) := by decide +kernel
theorem dX10_often_80 : decode cX10_often 80 = .ok (.ireturn, 1) := by decide +kernel
theorem dX10_hearers_0 : decode cX10_hearers 0 = .ok (.aload_n 0, 1) := by decide +kernel
theorem dX10_hearers_1 : decode cX10_hearers 1 = .ok (.iconst 0, 1) := by decide +kernel
theorem dX10_hearers_2 : decode cX10_hearers 2 = .ok (.putfield 3, 3) := by decide +kernel
theorem dX10_hearers_5 : decode cX10_hearers 5 = .ok (.aload_n 0, 1) := by decide +kernel
theorem dX10_hearers_6 : decode cX10_hearers 6 = .ok (.iload_n 1, 1) := by decide +kernel
theorem dX10_hearers_7 : decode cX10_hearers 7 = .ok (.iconst 0, 1) := by decide +kernel
theorem dX10_hearers_8 : decode cX10_hearers 8 = .ok (.bipush 15, 2) := by decide +kernel
theorem dX10_hearers_10 : decode cX10_hearers 10 = .ok (.invokestatic 383, 3) := by decide +kernel
theorem dX10_hearers_13 : decode cX10_hearers 13 = .ok (.iconst 1, 1) := by decide +kernel
theorem dX10_hearers_14 : decode cX10_hearers 14 = .ok (.iconst 1, 1) := by decide +kernel
theorem dX10_hearers_15 : decode cX10_hearers 15 = .ok (.invokevirtual 205, 3) := by decide +kernel
theorem dX10_hearers_18 : decode cX10_hearers 18 = .ok (.ifCond .ne 5, 3) := by decide +kernel
theorem dX10_hearers_21 : decode cX10_hearers 21 = .ok (.iconst 0, 1) := by decide +kernel
theorem dX10_hearers_22 : decode cX10_hearers 22 = .ok (.ireturn, 1) := by decide +kernel
theorem dX10_hearers_23 : decode cX10_hearers 23 = .ok (.iconst 0, 1) := by decide +kernel
theorem dX10_hearers_24 : decode cX10_hearers 24 = .ok (.istore_n 2, 1) := by decide +kernel
theorem dX10_hearers_25 : decode cX10_hearers 25 = .ok (.iconst 0, 1) := by decide +kernel
theorem dX10_hearers_26 : decode cX10_hearers 26 = .ok (.istore_n 3, 1) := by decide +kernel
theorem dX10_hearers_27 : decode cX10_hearers 27 = .ok (.iload_n 3, 1) := by decide +kernel
theorem dX10_hearers_28 : decode cX10_hearers 28 = .ok (.aload_n 0, 1) := by decide +kernel
theorem dX10_hearers_29 : decode cX10_hearers 29 = .ok (.getfield 166, 3) := by decide +kernel
theorem dX10_hearers_32 : decode cX10_hearers 32 = .ok (.if_icmp .ge 27, 3) := by decide +kernel
theorem dX10_hearers_35 : decode cX10_hearers 35 = .ok (.iload_n 2, 1) := by decide +kernel
theorem dX10_hearers_36 : decode cX10_hearers 36 = .ok (.aload_n 0, 1) := by decide +kernel
theorem dX10_hearers_37 : decode cX10_hearers 37 = .ok (.getfield 65, 3) := by decide +kernel
theorem dX10_hearers_40 : decode cX10_hearers 40 = .ok (.bipush 95, 2) := by decide +kernel
theorem dX10_hearers_42 : decode cX10_hearers 42 = .ok (.iload_n 3, 1) := by decide +kernel
theorem dX10_hearers_43 : decode cX10_hearers 43 = .ok (.iadd, 1) := by decide +kernel
theorem dX10_hearers_44 : decode cX10_hearers 44 = .ok (.iaload, 1) := by decide +kernel
theorem dX10_hearers_45 : decode cX10_hearers 45 = .ok (.iload_n 1, 1) := by decide +kernel
theorem dX10_hearers_46 : decode cX10_hearers 46 = .ok (.ishr, 1) := by decide +kernel
theorem dX10_hearers_47 : decode cX10_hearers 47 = .ok (.iconst 1, 1) := by decide +kernel
theorem dX10_hearers_48 : decode cX10_hearers 48 = .ok (.iand, 1) := by decide +kernel
theorem dX10_hearers_49 : decode cX10_hearers 49 = .ok (.iload_n 3, 1) := by decide +kernel
theorem dX10_hearers_50 : decode cX10_hearers 50 = .ok (.ishl, 1) := by decide +kernel
theorem dX10_hearers_51 : decode cX10_hearers 51 = .ok (.ior, 1) := by decide +kernel
theorem dX10_hearers_52 : decode cX10_hearers 52 = .ok (.istore_n 2, 1) := by decide +kernel
theorem dX10_hearers_53 : decode cX10_hearers 53 = .ok (.iinc 3 1, 3) := by decide +kernel
theorem dX10_hearers_56 : decode cX10_hearers 56 = .ok (.goto (-29), 3) := by decide +kernel
theorem dX10_hearers_59 : decode cX10_hearers 59 = .ok (.iload_n 2, 1) := by decide +kernel
theorem dX10_hearers_60 : decode cX10_hearers 60 = .ok (.ireturn, 1) := by decide +kernel
theorem dX10_news_0 : decode cX10_news 0 = .ok (.aload_n 0, 1) := by decide +kernel
theorem dX10_news_1 : decode cX10_news 1 = .ok (.iconst 0, 1) := by decide +kernel
theorem dX10_news_2 : decode cX10_news 2 = .ok (.putfield 3, 3) := by decide +kernel
theorem dX10_news_5 : decode cX10_news 5 = .ok (.aload_n 0, 1) := by decide +kernel
theorem dX10_news_6 : decode cX10_news 6 = .ok (.iload_n 1, 1) := by decide +kernel
theorem dX10_news_7 : decode cX10_news 7 = .ok (.iconst 1, 1) := by decide +kernel
theorem dX10_news_8 : decode cX10_news 8 = .ok (.invokevirtual 401, 3) := by decide +kernel
theorem dX10_news_11 : decode cX10_news 11 = .ok (.ifCond .eq 19, 3) := by decide +kernel
theorem dX10_news_14 : decode cX10_news 14 = .ok (.aload_n 0, 1) := by decide +kernel
theorem dX10_news_15 : decode cX10_news 15 = .ok (.iload_n 2, 1) := by decide +kernel
theorem dX10_news_16 : decode cX10_news 16 = .ok (.iconst 1, 1) := by decide +kernel
theorem dX10_news_17 : decode cX10_news 17 = .ok (.bipush 30, 2) := by decide +kernel
theorem dX10_news_19 : decode cX10_news 19 = .ok (.invokestatic 383, 3) := by decide +kernel
theorem dX10_news_22 : decode cX10_news 22 = .ok (.iconst 2, 1) := by decide +kernel
theorem dX10_news_23 : decode cX10_news 23 = .ok (.iconst 1, 1) := by decide +kernel
theorem dX10_news_24 : decode cX10_news 24 = .ok (.invokevirtual 205, 3) := by decide +kernel
theorem dX10_news_27 : decode cX10_news 27 = .ok (.ifCond .ne 5, 3) := by decide +kernel
theorem dX10_news_30 : decode cX10_news 30 = .ok (.iconst 0, 1) := by decide +kernel
theorem dX10_news_31 : decode cX10_news 31 = .ok (.ireturn, 1) := by decide +kernel
theorem dX10_news_32 : decode cX10_news 32 = .ok (.aload_n 0, 1) := by decide +kernel
theorem dX10_news_33 : decode cX10_news 33 = .ok (.invokevirtual 314, 3) := by decide +kernel
theorem dX10_news_36 : decode cX10_news 36 = .ok (.aload_n 0, 1) := by decide +kernel
theorem dX10_news_37 : decode cX10_news 37 = .ok (.iload_n 1, 1) := by decide +kernel
theorem dX10_news_38 : decode cX10_news 38 = .ok (.iload_n 2, 1) := by decide +kernel
theorem dX10_news_39 : decode cX10_news 39 = .ok (.invokevirtual 358, 3) := by decide +kernel
theorem dX10_news_42 : decode cX10_news 42 = .ok (.ireturn, 1) := by decide +kernel
theorem dX10_full_0 : decode cX10_full 0 = .ok (.aload_n 0, 1) := by decide +kernel
theorem dX10_full_1 : decode cX10_full 1 = .ok (.iconst 0, 1) := by decide +kernel
theorem dX10_full_2 : decode cX10_full 2 = .ok (.putfield 3, 3) := by decide +kernel
theorem dX10_full_5 : decode cX10_full 5 = .ok (.aload_n 0, 1) := by decide +kernel
theorem dX10_full_6 : decode cX10_full 6 = .ok (.iload_n 1, 1) := by decide +kernel
theorem dX10_full_7 : decode cX10_full 7 = .ok (.iconst 0, 1) := by decide +kernel
theorem dX10_full_8 : decode cX10_full 8 = .ok (.iconst 1, 1) := by decide +kernel
theorem dX10_full_9 : decode cX10_full 9 = .ok (.invokestatic 383, 3) := by decide +kernel
theorem dX10_full_12 : decode cX10_full 12 = .ok (.iconst 1, 1) := by decide +kernel
theorem dX10_full_13 : decode cX10_full 13 = .ok (.iconst 1, 1) := by decide +kernel
theorem dX10_full_14 : decode cX10_full 14 = .ok (.invokevirtual 205, 3) := by decide +kernel
theorem dX10_full_17 : decode cX10_full 17 = .ok (.ifCond .ne 5, 3) := by decide +kernel
theorem dX10_full_20 : decode cX10_full 20 = .ok (.iconst 0, 1) := by decide +kernel
theorem dX10_full_21 : decode cX10_full 21 = .ok (.ireturn, 1) := by decide +kernel
theorem dX10_full_22 : decode cX10_full 22 = .ok (.iconst 0, 1) := by decide +kernel
theorem dX10_full_23 : decode cX10_full 23 = .ok (.istore_n 2, 1) := by decide +kernel
theorem dX10_full_24 : decode cX10_full 24 = .ok (.iconst 0, 1) := by decide +kernel
theorem dX10_full_25 : decode cX10_full 25 = .ok (.istore_n 3, 1) := by decide +kernel
theorem dX10_full_26 : decode cX10_full 26 = .ok (.iload_n 3, 1) := by decide +kernel
theorem dX10_full_27 : decode cX10_full 27 = .ok (.aload_n 0, 1) := by decide +kernel
theorem dX10_full_28 : decode cX10_full 28 = .ok (.getfield 160, 3) := by decide +kernel
theorem dX10_full_31 : decode cX10_full 31 = .ok (.if_icmp .ge 41, 3) := by decide +kernel
theorem dX10_full_34 : decode cX10_full 34 = .ok (.iload_n 2, 1) := by decide +kernel
theorem dX10_full_35 : decode cX10_full 35 = .ok (.aload_n 0, 1) := by decide +kernel
theorem dX10_full_36 : decode cX10_full 36 = .ok (.getfield 65, 3) := by decide +kernel
theorem dX10_full_39 : decode cX10_full 39 = .ok (.bipush 84, 2) := by decide +kernel
theorem dX10_full_41 : decode cX10_full 41 = .ok (.iload_n 3, 1) := by decide +kernel
theorem dX10_full_42 : decode cX10_full 42 = .ok (.iadd, 1) := by decide +kernel
theorem dX10_full_43 : decode cX10_full 43 = .ok (.iaload, 1) := by decide +kernel
theorem dX10_full_44 : decode cX10_full 44 = .ok (.iload_n 1, 1) := by decide +kernel
theorem dX10_full_45 : decode cX10_full 45 = .ok (.ifCond .ne 8, 3) := by decide +kernel
theorem dX10_full_48 : decode cX10_full 48 = .ok (.bipush 12, 2) := by decide +kernel
theorem dX10_full_50 : decode cX10_full 50 = .ok (.goto 4, 3) := by decide +kernel
theorem dX10_full_53 : decode cX10_full 53 = .ok (.iconst 0, 1) := by decide +kernel
theorem dX10_full_54 : decode cX10_full 54 = .ok (.if_icmp .ne 9, 3) := by decide +kernel
theorem dX10_full_57 : decode cX10_full 57 = .ok (.iconst 1, 1) := by decide +kernel
theorem dX10_full_58 : decode cX10_full 58 = .ok (.iload_n 3, 1) := by decide +kernel
theorem dX10_full_59 : decode cX10_full 59 = .ok (.ishl, 1) := by decide +kernel
theorem dX10_full_60 : decode cX10_full 60 = .ok (.goto 4, 3) := by decide +kernel
theorem dX10_full_63 : decode cX10_full 63 = .ok (.iconst 0, 1) := by decide +kernel
theorem dX10_full_64 : decode cX10_full 64 = .ok (.ior, 1) := by decide +kernel
theorem dX10_full_65 : decode cX10_full 65 = .ok (.istore_n 2, 1) := by decide +kernel
theorem dX10_full_66 : decode cX10_full 66 = .ok (.iinc 3 1, 3) := by decide +kernel
theorem dX10_full_69 : decode cX10_full 69 = .ok (.goto (-43), 3) := by decide +kernel
theorem dX10_full_72 : decode cX10_full 72 = .ok (.iload_n 2, 1) := by decide +kernel
theorem dX10_full_73 : decode cX10_full 73 = .ok (.ireturn, 1) := by decide +kernel
theorem dX10_drains_0 : decode cX10_drains 0 = .ok (.aload_n 0, 1) := by decide +kernel
theorem dX10_drains_1 : decode cX10_drains 1 = .ok (.iconst 0, 1) := by decide +kernel
theorem dX10_drains_2 : decode cX10_drains 2 = .ok (.putfield 3, 3) := by decide +kernel
theorem dX10_drains_5 : decode cX10_drains 5 = .ok (.aload_n 0, 1) := by decide +kernel
theorem dX10_drains_6 : decode cX10_drains 6 = .ok (.iload_n 1, 1) := by decide +kernel
theorem dX10_drains_7 : decode cX10_drains 7 = .ok (.iconst 1, 1) := by decide +kernel
theorem dX10_drains_8 : decode cX10_drains 8 = .ok (.invokevirtual 395, 3) := by decide +kernel
theorem dX10_drains_11 : decode cX10_drains 11 = .ok (.ifCond .ne 5, 3) := by decide +kernel
theorem dX10_drains_14 : decode cX10_drains 14 = .ok (.iconst 0, 1) := by decide +kernel
theorem dX10_drains_15 : decode cX10_drains 15 = .ok (.ireturn, 1) := by decide +kernel
theorem dX10_drains_16 : decode cX10_drains 16 = .ok (.aload_n 0, 1) := by decide +kernel
theorem dX10_drains_17 : decode cX10_drains 17 = .ok (.invokevirtual 314, 3) := by decide +kernel
theorem dX10_drains_20 : decode cX10_drains 20 = .ok (.iconst 0, 1) := by decide +kernel
theorem dX10_drains_21 : decode cX10_drains 21 = .ok (.istore_n 2, 1) := by decide +kernel
theorem dX10_drains_22 : decode cX10_drains 22 = .ok (.iconst 0, 1) := by decide +kernel
theorem dX10_drains_23 : decode cX10_drains 23 = .ok (.istore_n 3, 1) := by decide +kernel
theorem dX10_drains_24 : decode cX10_drains 24 = .ok (.iload_n 3, 1) := by decide +kernel
theorem dX10_drains_25 : decode cX10_drains 25 = .ok (.aload_n 0, 1) := by decide +kernel
theorem dX10_drains_26 : decode cX10_drains 26 = .ok (.getfield 163, 3) := by decide +kernel
theorem dX10_drains_29 : decode cX10_drains 29 = .ok (.if_icmp .ge 40, 3) := by decide +kernel
theorem dX10_drains_32 : decode cX10_drains 32 = .ok (.iload_n 2, 1) := by decide +kernel
theorem dX10_drains_33 : decode cX10_drains 33 = .ok (.aload_n 0, 1) := by decide +kernel
theorem dX10_drains_34 : decode cX10_drains 34 = .ok (.getfield 35, 3) := by decide +kernel
theorem dX10_drains_37 : decode cX10_drains 37 = .ok (.bipush 10, 2) := by decide +kernel
theorem dX10_drains_39 : decode cX10_drains 39 = .ok (.iload_n 3, 1) := by decide +kernel
theorem dX10_drains_40 : decode cX10_drains 40 = .ok (.imul, 1) := by decide +kernel
theorem dX10_drains_41 : decode cX10_drains 41 = .ok (.iaload, 1) := by decide +kernel
theorem dX10_drains_42 : decode cX10_drains 42 = .ok (.iload_n 1, 1) := by decide +kernel
theorem dX10_drains_43 : decode cX10_drains 43 = .ok (.if_icmp .ne 17, 3) := by decide +kernel
theorem dX10_drains_46 : decode cX10_drains 46 = .ok (.aload_n 0, 1) := by decide +kernel
theorem dX10_drains_47 : decode cX10_drains 47 = .ok (.iload_n 3, 1) := by decide +kernel
theorem dX10_drains_48 : decode cX10_drains 48 = .ok (.invokevirtual 336, 3) := by decide +kernel
theorem dX10_drains_51 : decode cX10_drains 51 = .ok (.ifCond .le 9, 3) := by decide +kernel
theorem dX10_drains_54 : decode cX10_drains 54 = .ok (.iconst 1, 1) := by decide +kernel
theorem dX10_drains_55 : decode cX10_drains 55 = .ok (.iload_n 3, 1) := by decide +kernel
theorem dX10_drains_56 : decode cX10_drains 56 = .ok (.ishl, 1) := by decide +kernel
theorem dX10_drains_57 : decode cX10_drains 57 = .ok (.goto 4, 3) := by decide +kernel
theorem dX10_drains_60 : decode cX10_drains 60 = .ok (.iconst 0, 1) := by decide +kernel
theorem dX10_drains_61 : decode cX10_drains 61 = .ok (.ior, 1) := by decide +kernel
theorem dX10_drains_62 : decode cX10_drains 62 = .ok (.istore_n 2, 1) := by decide +kernel
theorem dX10_drains_63 : decode cX10_drains 63 = .ok (.iinc 3 1, 3) := by decide +kernel
theorem dX10_drains_66 : decode cX10_drains 66 = .ok (.goto (-42), 3) := by decide +kernel
theorem dX10_drains_69 : decode cX10_drains 69 = .ok (.iload_n 2, 1) := by decide +kernel
theorem dX10_drains_70 : decode cX10_drains 70 = .ok (.ireturn, 1) := by decide +kernel
theorem dX10_unread_0 : decode cX10_unread 0 = .ok (.aload_n 0, 1) := by decide +kernel
theorem dX10_unread_1 : decode cX10_unread 1 = .ok (.iconst 0, 1) := by decide +kernel
theorem dX10_unread_2 : decode cX10_unread 2 = .ok (.putfield 3, 3) := by decide +kernel
theorem dX10_unread_5 : decode cX10_unread 5 = .ok (.aload_n 0, 1) := by decide +kernel
theorem dX10_unread_6 : decode cX10_unread 6 = .ok (.iload_n 1, 1) := by decide +kernel
theorem dX10_unread_7 : decode cX10_unread 7 = .ok (.iconst 1, 1) := by decide +kernel
theorem dX10_unread_8 : decode cX10_unread 8 = .ok (.invokevirtual 401, 3) := by decide +kernel
theorem dX10_unread_11 : decode cX10_unread 11 = .ok (.ifCond .ne 5, 3) := by decide +kernel
theorem dX10_unread_14 : decode cX10_unread 14 = .ok (.iconst 0, 1) := by decide +kernel
theorem dX10_unread_15 : decode cX10_unread 15 = .ok (.ireturn, 1) := by decide +kernel
theorem dX10_unread_16 : decode cX10_unread 16 = .ok (.aload_n 0, 1) := by decide +kernel
theorem dX10_unread_17 : decode cX10_unread 17 = .ok (.invokevirtual 314, 3) := by decide +kernel
theorem dX10_unread_20 : decode cX10_unread 20 = .ok (.aload_n 0, 1) := by decide +kernel
theorem dX10_unread_21 : decode cX10_unread 21 = .ok (.aload_n 0, 1) := by decide +kernel
theorem dX10_unread_22 : decode cX10_unread 22 = .ok (.getfield 68, 3) := by decide +kernel
theorem dX10_unread_25 : decode cX10_unread 25 = .ok (.bipush 90, 2) := by decide +kernel
theorem dX10_unread_27 : decode cX10_unread 27 = .ok (.iload_n 1, 1) := by decide +kernel
theorem dX10_unread_28 : decode cX10_unread 28 = .ok (.iadd, 1) := by decide +kernel
theorem dX10_unread_29 : decode cX10_unread 29 = .ok (.iaload, 1) := by decide +kernel
theorem dX10_unread_30 : decode cX10_unread 30 = .ok (.invokevirtual 361, 3) := by decide +kernel
theorem dX10_unread_33 : decode cX10_unread 33 = .ok (.aload_n 0, 1) := by decide +kernel
theorem dX10_unread_34 : decode cX10_unread 34 = .ok (.getfield 68, 3) := by decide +kernel
theorem dX10_unread_37 : decode cX10_unread 37 = .ok (.bipush 95, 2) := by decide +kernel
theorem dX10_unread_39 : decode cX10_unread 39 = .ok (.iload_n 1, 1) := by decide +kernel
theorem dX10_unread_40 : decode cX10_unread 40 = .ok (.iadd, 1) := by decide +kernel
theorem dX10_unread_41 : decode cX10_unread 41 = .ok (.iaload, 1) := by decide +kernel
theorem dX10_unread_42 : decode cX10_unread 42 = .ok (.iconst (-1), 1) := by decide +kernel
theorem dX10_unread_43 : decode cX10_unread 43 = .ok (.ixor, 1) := by decide +kernel
theorem dX10_unread_44 : decode cX10_unread 44 = .ok (.iand, 1) := by decide +kernel
theorem dX10_unread_45 : decode cX10_unread 45 = .ok (.ireturn, 1) := by decide +kernel
theorem dX10_coming_0 : decode cX10_coming 0 = .ok (.aload_n 0, 1) := by decide +kernel
theorem dX10_coming_1 : decode cX10_coming 1 = .ok (.iconst 0, 1) := by decide +kernel
theorem dX10_coming_2 : decode cX10_coming 2 = .ok (.putfield 3, 3) := by decide +kernel
theorem dX10_coming_5 : decode cX10_coming 5 = .ok (.aload_n 0, 1) := by decide +kernel
theorem dX10_coming_6 : decode cX10_coming 6 = .ok (.iload_n 1, 1) := by decide +kernel
theorem dX10_coming_7 : decode cX10_coming 7 = .ok (.iconst 1, 1) := by decide +kernel
theorem dX10_coming_8 : decode cX10_coming 8 = .ok (.invokevirtual 395, 3) := by decide +kernel
theorem dX10_coming_11 : decode cX10_coming 11 = .ok (.ifCond .eq 18, 3) := by decide +kernel
theorem dX10_coming_14 : decode cX10_coming 14 = .ok (.aload_n 0, 1) := by decide +kernel
theorem dX10_coming_15 : decode cX10_coming 15 = .ok (.iload_n 2, 1) := by decide +kernel
theorem dX10_coming_16 : decode cX10_coming 16 = .ok (.iconst 0, 1) := by decide +kernel
theorem dX10_coming_17 : decode cX10_coming 17 = .ok (.iconst 1, 1) := by decide +kernel
theorem dX10_coming_18 : decode cX10_coming 18 = .ok (.invokestatic 383, 3) := by decide +kernel
theorem dX10_coming_21 : decode cX10_coming 21 = .ok (.iconst 2, 1) := by decide +kernel
theorem dX10_coming_22 : decode cX10_coming 22 = .ok (.iconst 1, 1) := by decide +kernel
theorem dX10_coming_23 : decode cX10_coming 23 = .ok (.invokevirtual 205, 3) := by decide +kernel
theorem dX10_coming_26 : decode cX10_coming 26 = .ok (.ifCond .ne 5, 3) := by decide +kernel
theorem dX10_coming_29 : decode cX10_coming 29 = .ok (.iconst 0, 1) := by decide +kernel
theorem dX10_coming_30 : decode cX10_coming 30 = .ok (.ireturn, 1) := by decide +kernel
theorem dX10_coming_31 : decode cX10_coming 31 = .ok (.aload_n 0, 1) := by decide +kernel
theorem dX10_coming_32 : decode cX10_coming 32 = .ok (.invokevirtual 314, 3) := by decide +kernel
theorem dX10_coming_35 : decode cX10_coming 35 = .ok (.iconst 0, 1) := by decide +kernel
theorem dX10_coming_36 : decode cX10_coming 36 = .ok (.istore_n 3, 1) := by decide +kernel
theorem dX10_coming_37 : decode cX10_coming 37 = .ok (.iconst 0, 1) := by decide +kernel
theorem dX10_coming_38 : decode cX10_coming 38 = .ok (.istore 4, 2) := by decide +kernel
theorem dX10_coming_40 : decode cX10_coming 40 = .ok (.iload 4, 2) := by decide +kernel
theorem dX10_coming_42 : decode cX10_coming 42 = .ok (.aload_n 0, 1) := by decide +kernel
theorem dX10_coming_43 : decode cX10_coming 43 = .ok (.getfield 163, 3) := by decide +kernel
theorem dX10_coming_46 : decode cX10_coming 46 = .ok (.if_icmp .ge 52, 3) := by decide +kernel
theorem dX10_coming_49 : decode cX10_coming 49 = .ok (.iload_n 3, 1) := by decide +kernel
theorem dX10_coming_50 : decode cX10_coming 50 = .ok (.aload_n 0, 1) := by decide +kernel
theorem dX10_coming_51 : decode cX10_coming 51 = .ok (.getfield 35, 3) := by decide +kernel
theorem dX10_coming_54 : decode cX10_coming 54 = .ok (.bipush 10, 2) := by decide +kernel
theorem dX10_coming_56 : decode cX10_coming 56 = .ok (.iload 4, 2) := by decide +kernel
theorem dX10_coming_58 : decode cX10_coming 58 = .ok (.imul, 1) := by decide +kernel
theorem dX10_coming_59 : decode cX10_coming 59 = .ok (.iaload, 1) := by decide +kernel
theorem dX10_coming_60 : decode cX10_coming 60 = .ok (.iload_n 1, 1) := by decide +kernel
theorem dX10_coming_61 : decode cX10_coming 61 = .ok (.if_icmp .ne 28, 3) := by decide +kernel
theorem dX10_coming_64 : decode cX10_coming 64 = .ok (.aload_n 0, 1) := by decide +kernel
theorem dX10_coming_65 : decode cX10_coming 65 = .ok (.getfield 68, 3) := by decide +kernel
theorem dX10_coming_68 : decode cX10_coming 68 = .ok (.bipush 6, 2) := by decide +kernel
theorem dX10_coming_70 : decode cX10_coming 70 = .ok (.iload 4, 2) := by decide +kernel
theorem dX10_coming_72 : decode cX10_coming 72 = .ok (.iadd, 1) := by decide +kernel
theorem dX10_coming_73 : decode cX10_coming 73 = .ok (.iaload, 1) := by decide +kernel
theorem dX10_coming_74 : decode cX10_coming 74 = .ok (.iconst 1, 1) := by decide +kernel
theorem dX10_coming_75 : decode cX10_coming 75 = .ok (.iload_n 2, 1) := by decide +kernel
theorem dX10_coming_76 : decode cX10_coming 76 = .ok (.isub, 1) := by decide +kernel
theorem dX10_coming_77 : decode cX10_coming 77 = .ok (.if_icmp .ne 12, 3) := by decide +kernel
theorem dX10_coming_80 : decode cX10_coming 80 = .ok (.aload_n 0, 1) := by decide +kernel
theorem dX10_coming_81 : decode cX10_coming 81 = .ok (.iload 4, 2) := by decide +kernel
theorem dX10_coming_83 : decode cX10_coming 83 = .ok (.invokevirtual 336, 3) := by decide +kernel
theorem dX10_coming_86 : decode cX10_coming 86 = .ok (.goto 4, 3) := by decide +kernel
theorem dX10_coming_89 : decode cX10_coming 89 = .ok (.iconst 0, 1) := by decide +kernel
theorem dX10_coming_90 : decode cX10_coming 90 = .ok (.iadd, 1) := by decide +kernel
theorem dX10_coming_91 : decode cX10_coming 91 = .ok (.istore_n 3, 1) := by decide +kernel
theorem dX10_coming_92 : decode cX10_coming 92 = .ok (.iinc 4 1, 3) := by decide +kernel
theorem dX10_coming_95 : decode cX10_coming 95 = .ok (.goto (-55), 3) := by decide +kernel
theorem dX10_coming_98 : decode cX10_coming 98 = .ok (.iload_n 3, 1) := by decide +kernel
theorem dX10_coming_99 : decode cX10_coming 99 = .ok (.ireturn, 1) := by decide +kernel
theorem dX10_shared_0 : decode cX10_shared 0 = .ok (.aload_n 0, 1) := by decide +kernel
theorem dX10_shared_1 : decode cX10_shared 1 = .ok (.iconst 0, 1) := by decide +kernel
theorem dX10_shared_2 : decode cX10_shared 2 = .ok (.putfield 3, 3) := by decide +kernel
theorem dX10_shared_5 : decode cX10_shared 5 = .ok (.aload_n 0, 1) := by decide +kernel
theorem dX10_shared_6 : decode cX10_shared 6 = .ok (.iload_n 1, 1) := by decide +kernel
theorem dX10_shared_7 : decode cX10_shared 7 = .ok (.iconst 1, 1) := by decide +kernel
theorem dX10_shared_8 : decode cX10_shared 8 = .ok (.invokevirtual 401, 3) := by decide +kernel
theorem dX10_shared_11 : decode cX10_shared 11 = .ok (.ifCond .eq 12, 3) := by decide +kernel
theorem dX10_shared_14 : decode cX10_shared 14 = .ok (.aload_n 0, 1) := by decide +kernel
theorem dX10_shared_15 : decode cX10_shared 15 = .ok (.iload_n 2, 1) := by decide +kernel
theorem dX10_shared_16 : decode cX10_shared 16 = .ok (.iconst 1, 1) := by decide +kernel
theorem dX10_shared_17 : decode cX10_shared 17 = .ok (.invokevirtual 401, 3) := by decide +kernel
theorem dX10_shared_20 : decode cX10_shared 20 = .ok (.ifCond .ne 5, 3) := by decide +kernel
theorem dX10_shared_23 : decode cX10_shared 23 = .ok (.iconst 0, 1) := by decide +kernel
theorem dX10_shared_24 : decode cX10_shared 24 = .ok (.ireturn, 1) := by decide +kernel
theorem dX10_shared_25 : decode cX10_shared 25 = .ok (.aload_n 0, 1) := by decide +kernel
theorem dX10_shared_26 : decode cX10_shared 26 = .ok (.getfield 65, 3) := by decide +kernel
theorem dX10_shared_29 : decode cX10_shared 29 = .ok (.bipush 95, 2) := by decide +kernel
theorem dX10_shared_31 : decode cX10_shared 31 = .ok (.iload_n 1, 1) := by decide +kernel
theorem dX10_shared_32 : decode cX10_shared 32 = .ok (.iadd, 1) := by decide +kernel
theorem dX10_shared_33 : decode cX10_shared 33 = .ok (.iaload, 1) := by decide +kernel
theorem dX10_shared_34 : decode cX10_shared 34 = .ok (.aload_n 0, 1) := by decide +kernel
theorem dX10_shared_35 : decode cX10_shared 35 = .ok (.getfield 65, 3) := by decide +kernel
theorem dX10_shared_38 : decode cX10_shared 38 = .ok (.bipush 95, 2) := by decide +kernel
theorem dX10_shared_40 : decode cX10_shared 40 = .ok (.iload_n 2, 1) := by decide +kernel
theorem dX10_shared_41 : decode cX10_shared 41 = .ok (.iadd, 1) := by decide +kernel
theorem dX10_shared_42 : decode cX10_shared 42 = .ok (.iaload, 1) := by decide +kernel
theorem dX10_shared_43 : decode cX10_shared 43 = .ok (.iand, 1) := by decide +kernel
theorem dX10_shared_44 : decode cX10_shared 44 = .ok (.invokestatic 416, 3) := by decide +kernel
theorem dX10_shared_47 : decode cX10_shared 47 = .ok (.ireturn, 1) := by decide +kernel
theorem dX10_draws_0 : decode cX10_draws 0 = .ok (.aload_n 0, 1) := by decide +kernel
theorem dX10_draws_1 : decode cX10_draws 1 = .ok (.aload_n 0, 1) := by decide +kernel
theorem dX10_draws_2 : decode cX10_draws 2 = .ok (.getfield 447, 3) := by decide +kernel
theorem dX10_draws_5 : decode cX10_draws 5 = .ok (.ldc_w 450, 3) := by decide +kernel
theorem dX10_draws_8 : decode cX10_draws 8 = .ok (.imul, 1) := by decide +kernel
theorem dX10_draws_9 : decode cX10_draws 9 = .ok (.sipush 12345, 3) := by decide +kernel
theorem dX10_draws_12 : decode cX10_draws 12 = .ok (.iadd, 1) := by decide +kernel
theorem dX10_draws_13 : decode cX10_draws 13 = .ok (.putfield 447, 3) := by decide +kernel
theorem dX10_draws_16 : decode cX10_draws 16 = .ok (.aload_n 0, 1) := by decide +kernel
theorem dX10_draws_17 : decode cX10_draws 17 = .ok (.getfield 447, 3) := by decide +kernel
theorem dX10_draws_20 : decode cX10_draws 20 = .ok (.bipush 16, 2) := by decide +kernel
theorem dX10_draws_22 : decode cX10_draws 22 = .ok (.ishr, 1) := by decide +kernel
theorem dX10_draws_23 : decode cX10_draws 23 = .ok (.sipush 32767, 3) := by decide +kernel
theorem dX10_draws_26 : decode cX10_draws 26 = .ok (.iand, 1) := by decide +kernel
theorem dX10_draws_27 : decode cX10_draws 27 = .ok (.iload_n 1, 1) := by decide +kernel
theorem dX10_draws_28 : decode cX10_draws 28 = .ok (.irem, 1) := by decide +kernel
theorem dX10_draws_29 : decode cX10_draws 29 = .ok (.ireturn, 1) := by decide +kernel
theorem dX10_summerGoes_0 : decode cX10_summerGoes 0 = .ok (.aload_n 0, 1) := by decide +kernel
theorem dX10_summerGoes_1 : decode cX10_summerGoes 1 = .ok (.invokevirtual 314, 3) := by decide +kernel
theorem dX10_summerGoes_4 : decode cX10_summerGoes 4 = .ok (.aload_n 0, 1) := by decide +kernel
theorem dX10_summerGoes_5 : decode cX10_summerGoes 5 = .ok (.iload_n 1, 1) := by decide +kernel
theorem dX10_summerGoes_6 : decode cX10_summerGoes 6 = .ok (.putfield 447, 3) := by decide +kernel
theorem dX10_summerGoes_9 : decode cX10_summerGoes 9 = .ok (.iconst 0, 1) := by decide +kernel
theorem dX10_summerGoes_10 : decode cX10_summerGoes 10 = .ok (.istore 4, 2) := by decide +kernel
theorem dX10_summerGoes_12 : decode cX10_summerGoes 12 = .ok (.iload 4, 2) := by decide +kernel
theorem dX10_summerGoes_14 : decode cX10_summerGoes 14 = .ok (.iconst 2, 1) := by decide +kernel
theorem dX10_summerGoes_15 : decode cX10_summerGoes 15 = .ok (.iload_n 3, 1) := by decide +kernel
theorem dX10_summerGoes_16 : decode cX10_summerGoes 16 = .ok (.imul, 1) := by decide +kernel
theorem dX10_summerGoes_17 : decode cX10_summerGoes 17 = .ok (.if_icmp .ge 91, 3) := by decide +kernel
theorem dX10_summerGoes_20 : decode cX10_summerGoes 20 = .ok (.aload_n 0, 1) := by decide +kernel
theorem dX10_summerGoes_21 : decode cX10_summerGoes 21 = .ok (.bipush 16, 2) := by decide +kernel
theorem dX10_summerGoes_23 : decode cX10_summerGoes 23 = .ok (.invokevirtual 451, 3) := by decide +kernel
theorem dX10_summerGoes_26 : decode cX10_summerGoes 26 = .ok (.iload_n 2, 1) := by decide +kernel
theorem dX10_summerGoes_27 : decode cX10_summerGoes 27 = .ok (.if_icmp .ge 18, 3) := by decide +kernel
theorem dX10_summerGoes_30 : decode cX10_summerGoes 30 = .ok (.aload_n 0, 1) := by decide +kernel
theorem dX10_summerGoes_31 : decode cX10_summerGoes 31 = .ok (.iconst 1, 1) := by decide +kernel
theorem dX10_summerGoes_32 : decode cX10_summerGoes 32 = .ok (.aload_n 0, 1) := by decide +kernel
theorem dX10_summerGoes_33 : decode cX10_summerGoes 33 = .ok (.bipush 20, 2) := by decide +kernel
theorem dX10_summerGoes_35 : decode cX10_summerGoes 35 = .ok (.invokevirtual 451, 3) := by decide +kernel
theorem dX10_summerGoes_38 : decode cX10_summerGoes 38 = .ok (.iadd, 1) := by decide +kernel
theorem dX10_summerGoes_39 : decode cX10_summerGoes 39 = .ok (.invokevirtual 377, 3) := by decide +kernel
theorem dX10_summerGoes_42 : decode cX10_summerGoes 42 = .ok (.goto 16, 3) := by decide +kernel
theorem dX10_summerGoes_45 : decode cX10_summerGoes 45 = .ok (.aload_n 0, 1) := by decide +kernel
theorem dX10_summerGoes_46 : decode cX10_summerGoes 46 = .ok (.iconst 1, 1) := by decide +kernel
theorem dX10_summerGoes_47 : decode cX10_summerGoes 47 = .ok (.aload_n 0, 1) := by decide +kernel
theorem dX10_summerGoes_48 : decode cX10_summerGoes 48 = .ok (.bipush 30, 2) := by decide +kernel
theorem dX10_summerGoes_50 : decode cX10_summerGoes 50 = .ok (.invokevirtual 451, 3) := by decide +kernel
theorem dX10_summerGoes_53 : decode cX10_summerGoes 53 = .ok (.iadd, 1) := by decide +kernel
theorem dX10_summerGoes_54 : decode cX10_summerGoes 54 = .ok (.invokevirtual 367, 3) := by decide +kernel
theorem dX10_summerGoes_57 : decode cX10_summerGoes 57 = .ok (.pop, 1) := by decide +kernel
theorem dX10_summerGoes_58 : decode cX10_summerGoes 58 = .ok (.aload_n 0, 1) := by decide +kernel
theorem dX10_summerGoes_59 : decode cX10_summerGoes 59 = .ok (.getfield 166, 3) := by decide +kernel
theorem dX10_summerGoes_62 : decode cX10_summerGoes 62 = .ok (.ifCond .le 28, 3) := by decide +kernel
theorem dX10_summerGoes_65 : decode cX10_summerGoes 65 = .ok (.aload_n 0, 1) := by decide +kernel
theorem dX10_summerGoes_66 : decode cX10_summerGoes 66 = .ok (.aload_n 0, 1) := by decide +kernel
theorem dX10_summerGoes_67 : decode cX10_summerGoes 67 = .ok (.getfield 166, 3) := by decide +kernel
theorem dX10_summerGoes_70 : decode cX10_summerGoes 70 = .ok (.invokevirtual 451, 3) := by decide +kernel
theorem dX10_summerGoes_73 : decode cX10_summerGoes 73 = .ok (.istore 5, 2) := by decide +kernel
theorem dX10_summerGoes_75 : decode cX10_summerGoes 75 = .ok (.aload_n 0, 1) := by decide +kernel
theorem dX10_summerGoes_76 : decode cX10_summerGoes 76 = .ok (.iload 5, 2) := by decide +kernel
theorem dX10_summerGoes_78 : decode cX10_summerGoes 78 = .ok (.aload_n 0, 1) := by decide +kernel
theorem dX10_summerGoes_79 : decode cX10_summerGoes 79 = .ok (.aload_n 0, 1) := by decide +kernel
theorem dX10_summerGoes_80 : decode cX10_summerGoes 80 = .ok (.getfield 160, 3) := by decide +kernel
theorem dX10_summerGoes_83 : decode cX10_summerGoes 83 = .ok (.invokevirtual 451, 3) := by decide +kernel
theorem dX10_summerGoes_86 : decode cX10_summerGoes 86 = .ok (.invokevirtual 370, 3) := by decide +kernel
theorem dX10_summerGoes_89 : decode cX10_summerGoes 89 = .ok (.pop, 1) := by decide +kernel
theorem dX10_summerGoes_90 : decode cX10_summerGoes 90 = .ok (.iload 4, 2) := by decide +kernel
theorem dX10_summerGoes_92 : decode cX10_summerGoes 92 = .ok (.iconst 2, 1) := by decide +kernel
theorem dX10_summerGoes_93 : decode cX10_summerGoes 93 = .ok (.irem, 1) := by decide +kernel
theorem dX10_summerGoes_94 : decode cX10_summerGoes 94 = .ok (.iconst 1, 1) := by decide +kernel
theorem dX10_summerGoes_95 : decode cX10_summerGoes 95 = .ok (.if_icmp .ne 7, 3) := by decide +kernel
theorem dX10_summerGoes_98 : decode cX10_summerGoes 98 = .ok (.aload_n 0, 1) := by decide +kernel
theorem dX10_summerGoes_99 : decode cX10_summerGoes 99 = .ok (.invokevirtual 380, 3) := by decide +kernel
theorem dX10_summerGoes_102 : decode cX10_summerGoes 102 = .ok (.iinc 4 1, 3) := by decide +kernel
theorem dX10_summerGoes_105 : decode cX10_summerGoes 105 = .ok (.goto (-93), 3) := by decide +kernel
theorem dX10_summerGoes_108 : decode cX10_summerGoes 108 = .ok (.return_, 1) := by decide +kernel
theorem dX10_isSummer_0 : decode cX10_isSummer 0 = .ok (.iload_n 0, 1) := by decide +kernel
theorem dX10_isSummer_1 : decode cX10_isSummer 1 = .ok (.ifCond .lt 24, 3) := by decide +kernel
theorem dX10_isSummer_4 : decode cX10_isSummer 4 = .ok (.iload_n 0, 1) := by decide +kernel
theorem dX10_isSummer_5 : decode cX10_isSummer 5 = .ok (.bipush 16, 2) := by decide +kernel
theorem dX10_isSummer_7 : decode cX10_isSummer 7 = .ok (.if_icmp .gt 18, 3) := by decide +kernel
theorem dX10_isSummer_10 : decode cX10_isSummer 10 = .ok (.iload_n 1, 1) := by decide +kernel
theorem dX10_isSummer_11 : decode cX10_isSummer 11 = .ok (.iconst 1, 1) := by decide +kernel
theorem dX10_isSummer_12 : decode cX10_isSummer 12 = .ok (.if_icmp .lt 13, 3) := by decide +kernel
theorem dX10_isSummer_15 : decode cX10_isSummer 15 = .ok (.iload_n 1, 1) := by decide +kernel
theorem dX10_isSummer_16 : decode cX10_isSummer 16 = .ok (.bipush 48, 2) := by decide +kernel
theorem dX10_isSummer_18 : decode cX10_isSummer 18 = .ok (.if_icmp .gt 7, 3) := by decide +kernel
theorem dX10_isSummer_21 : decode cX10_isSummer 21 = .ok (.iconst 1, 1) := by decide +kernel
theorem dX10_isSummer_22 : decode cX10_isSummer 22 = .ok (.goto 4, 3) := by decide +kernel
theorem dX10_isSummer_25 : decode cX10_isSummer 25 = .ok (.iconst 0, 1) := by decide +kernel
theorem dX10_isSummer_26 : decode cX10_isSummer 26 = .ok (.ireturn, 1) := by decide +kernel
theorem dX10_heardAny_0 : decode cX10_heardAny 0 = .ok (.iconst 0, 1) := by decide +kernel
theorem dX10_heardAny_1 : decode cX10_heardAny 1 = .ok (.istore_n 1, 1) := by decide +kernel
theorem dX10_heardAny_2 : decode cX10_heardAny 2 = .ok (.iconst 0, 1) := by decide +kernel
theorem dX10_heardAny_3 : decode cX10_heardAny 3 = .ok (.istore_n 2, 1) := by decide +kernel
theorem dX10_heardAny_4 : decode cX10_heardAny 4 = .ok (.iload_n 2, 1) := by decide +kernel
theorem dX10_heardAny_5 : decode cX10_heardAny 5 = .ok (.aload_n 0, 1) := by decide +kernel
theorem dX10_heardAny_6 : decode cX10_heardAny 6 = .ok (.getfield 166, 3) := by decide +kernel
theorem dX10_heardAny_9 : decode cX10_heardAny 9 = .ok (.if_icmp .ge 21, 3) := by decide +kernel
theorem dX10_heardAny_12 : decode cX10_heardAny 12 = .ok (.iload_n 1, 1) := by decide +kernel
theorem dX10_heardAny_13 : decode cX10_heardAny 13 = .ok (.aload_n 0, 1) := by decide +kernel
theorem dX10_heardAny_14 : decode cX10_heardAny 14 = .ok (.getfield 68, 3) := by decide +kernel
theorem dX10_heardAny_17 : decode cX10_heardAny 17 = .ok (.bipush 95, 2) := by decide +kernel
theorem dX10_heardAny_19 : decode cX10_heardAny 19 = .ok (.iload_n 2, 1) := by decide +kernel
theorem dX10_heardAny_20 : decode cX10_heardAny 20 = .ok (.iadd, 1) := by decide +kernel
theorem dX10_heardAny_21 : decode cX10_heardAny 21 = .ok (.iaload, 1) := by decide +kernel
theorem dX10_heardAny_22 : decode cX10_heardAny 22 = .ok (.ior, 1) := by decide +kernel
theorem dX10_heardAny_23 : decode cX10_heardAny 23 = .ok (.istore_n 1, 1) := by decide +kernel
theorem dX10_heardAny_24 : decode cX10_heardAny 24 = .ok (.iinc 2 1, 3) := by decide +kernel
theorem dX10_heardAny_27 : decode cX10_heardAny 27 = .ok (.goto (-23), 3) := by decide +kernel
theorem dX10_heardAny_30 : decode cX10_heardAny 30 = .ok (.iload_n 1, 1) := by decide +kernel
theorem dX10_heardAny_31 : decode cX10_heardAny 31 = .ok (.ireturn, 1) := by decide +kernel
theorem dX10_summer_0 : decode cX10_summer 0 = .ok (.aload_n 0, 1) := by decide +kernel
theorem dX10_summer_1 : decode cX10_summer 1 = .ok (.iconst 0, 1) := by decide +kernel
theorem dX10_summer_2 : decode cX10_summer 2 = .ok (.putfield 3, 3) := by decide +kernel
theorem dX10_summer_5 : decode cX10_summer 5 = .ok (.aload_n 0, 1) := by decide +kernel
theorem dX10_summer_6 : decode cX10_summer 6 = .ok (.iload_n 2, 1) := by decide +kernel
theorem dX10_summer_7 : decode cX10_summer 7 = .ok (.iload_n 3, 1) := by decide +kernel
theorem dX10_summer_8 : decode cX10_summer 8 = .ok (.invokestatic 454, 3) := by decide +kernel
theorem dX10_summer_11 : decode cX10_summer 11 = .ok (.ifCond .eq 17, 3) := by decide +kernel
theorem dX10_summer_14 : decode cX10_summer 14 = .ok (.iload 4, 2) := by decide +kernel
theorem dX10_summer_16 : decode cX10_summer 16 = .ok (.iconst 0, 1) := by decide +kernel
theorem dX10_summer_17 : decode cX10_summer 17 = .ok (.iconst 3, 1) := by decide +kernel
theorem dX10_summer_18 : decode cX10_summer 18 = .ok (.invokestatic 383, 3) := by decide +kernel
theorem dX10_summer_21 : decode cX10_summer 21 = .ok (.ifCond .eq 7, 3) := by decide +kernel
theorem dX10_summer_24 : decode cX10_summer 24 = .ok (.iconst 1, 1) := by decide +kernel
theorem dX10_summer_25 : decode cX10_summer 25 = .ok (.goto 4, 3) := by decide +kernel
theorem dX10_summer_28 : decode cX10_summer 28 = .ok (.iconst 0, 1) := by decide +kernel
theorem dX10_summer_29 : decode cX10_summer 29 = .ok (.iconst 1, 1) := by decide +kernel
theorem dX10_summer_30 : decode cX10_summer 30 = .ok (.iconst 1, 1) := by decide +kernel
theorem dX10_summer_31 : decode cX10_summer 31 = .ok (.invokevirtual 205, 3) := by decide +kernel
theorem dX10_summer_34 : decode cX10_summer 34 = .ok (.ifCond .ne 5, 3) := by decide +kernel
theorem dX10_summer_37 : decode cX10_summer 37 = .ok (.iconst 0, 1) := by decide +kernel
theorem dX10_summer_38 : decode cX10_summer 38 = .ok (.ireturn, 1) := by decide +kernel
theorem dX10_summer_39 : decode cX10_summer 39 = .ok (.aload_n 0, 1) := by decide +kernel
theorem dX10_summer_40 : decode cX10_summer 40 = .ok (.iload_n 1, 1) := by decide +kernel
theorem dX10_summer_41 : decode cX10_summer 41 = .ok (.iload_n 2, 1) := by decide +kernel
theorem dX10_summer_42 : decode cX10_summer 42 = .ok (.iload_n 3, 1) := by decide +kernel
theorem dX10_summer_43 : decode cX10_summer 43 = .ok (.invokevirtual 457, 3) := by decide +kernel
theorem dX10_summer_46 : decode cX10_summer 46 = .ok (.iload 4, 2) := by decide +kernel
theorem dX10_summer_48 : decode cX10_summer 48 = .ok (.ifCond .ne 10, 3) := by decide +kernel
theorem dX10_summer_51 : decode cX10_summer 51 = .ok (.aload_n 0, 1) := by decide +kernel
theorem dX10_summer_52 : decode cX10_summer 52 = .ok (.invokevirtual 386, 3) := by decide +kernel
theorem dX10_summer_55 : decode cX10_summer 55 = .ok (.goto 41, 3) := by decide +kernel
theorem dX10_summer_58 : decode cX10_summer 58 = .ok (.iload 4, 2) := by decide +kernel
theorem dX10_summer_60 : decode cX10_summer 60 = .ok (.iconst 1, 1) := by decide +kernel
theorem dX10_summer_61 : decode cX10_summer 61 = .ok (.if_icmp .ne 14, 3) := by decide +kernel
theorem dX10_summer_64 : decode cX10_summer 64 = .ok (.aload_n 0, 1) := by decide +kernel
theorem dX10_summer_65 : decode cX10_summer 65 = .ok (.getfield 68, 3) := by decide +kernel
theorem dX10_summer_68 : decode cX10_summer 68 = .ok (.sipush 160, 3) := by decide +kernel
theorem dX10_summer_71 : decode cX10_summer 71 = .ok (.iaload, 1) := by decide +kernel
theorem dX10_summer_72 : decode cX10_summer 72 = .ok (.goto 24, 3) := by decide +kernel
theorem dX10_summer_75 : decode cX10_summer 75 = .ok (.iload 4, 2) := by decide +kernel
theorem dX10_summer_77 : decode cX10_summer 77 = .ok (.iconst 2, 1) := by decide +kernel
theorem dX10_summer_78 : decode cX10_summer 78 = .ok (.if_icmp .ne 14, 3) := by decide +kernel
theorem dX10_summer_81 : decode cX10_summer 81 = .ok (.aload_n 0, 1) := by decide +kernel
theorem dX10_summer_82 : decode cX10_summer 82 = .ok (.bipush 84, 2) := by decide +kernel
theorem dX10_summer_84 : decode cX10_summer 84 = .ok (.bipush 6, 2) := by decide +kernel
theorem dX10_summer_86 : decode cX10_summer 86 = .ok (.invokevirtual 389, 3) := by decide +kernel
theorem dX10_summer_89 : decode cX10_summer 89 = .ok (.goto 7, 3) := by decide +kernel
theorem dX10_summer_92 : decode cX10_summer 92 = .ok (.aload_n 0, 1) := by decide +kernel
theorem dX10_summer_93 : decode cX10_summer 93 = .ok (.invokevirtual 460, 3) := by decide +kernel
theorem dX10_summer_96 : decode cX10_summer 96 = .ok (.ireturn, 1) := by decide +kernel
theorem dX10_span_0 : decode cX10_span 0 = .ok (.aload_n 0, 1) := by decide +kernel
theorem dX10_span_1 : decode cX10_span 1 = .ok (.iconst 0, 1) := by decide +kernel
theorem dX10_span_2 : decode cX10_span 2 = .ok (.putfield 3, 3) := by decide +kernel
theorem dX10_span_5 : decode cX10_span 5 = .ok (.aload_n 0, 1) := by decide +kernel
theorem dX10_span_6 : decode cX10_span 6 = .ok (.iload_n 2, 1) := by decide +kernel
theorem dX10_span_7 : decode cX10_span 7 = .ok (.iconst 1, 1) := by decide +kernel
theorem dX10_span_8 : decode cX10_span 8 = .ok (.bipush 10, 2) := by decide +kernel
theorem dX10_span_10 : decode cX10_span 10 = .ok (.invokestatic 383, 3) := by decide +kernel
theorem dX10_span_13 : decode cX10_span 13 = .ok (.ifCond .eq 41, 3) := by decide +kernel
theorem dX10_span_16 : decode cX10_span 16 = .ok (.iload_n 3, 1) := by decide +kernel
theorem dX10_span_17 : decode cX10_span 17 = .ok (.iload 4, 2) := by decide +kernel
theorem dX10_span_19 : decode cX10_span 19 = .ok (.invokestatic 454, 3) := by decide +kernel
theorem dX10_span_22 : decode cX10_span 22 = .ok (.ifCond .eq 32, 3) := by decide +kernel
theorem dX10_span_25 : decode cX10_span 25 = .ok (.iload 5, 2) := by decide +kernel
theorem dX10_span_27 : decode cX10_span 27 = .ok (.iconst 0, 1) := by decide +kernel
theorem dX10_span_28 : decode cX10_span 28 = .ok (.iconst 2, 1) := by decide +kernel
theorem dX10_span_29 : decode cX10_span 29 = .ok (.invokestatic 383, 3) := by decide +kernel
theorem dX10_span_32 : decode cX10_span 32 = .ok (.ifCond .eq 22, 3) := by decide +kernel
theorem dX10_span_35 : decode cX10_span 35 = .ok (.iload 6, 2) := by decide +kernel
theorem dX10_span_37 : decode cX10_span 37 = .ok (.iconst 0, 1) := by decide +kernel
theorem dX10_span_38 : decode cX10_span 38 = .ok (.aload_n 0, 1) := by decide +kernel
theorem dX10_span_39 : decode cX10_span 39 = .ok (.getfield 160, 3) := by decide +kernel
theorem dX10_span_42 : decode cX10_span 42 = .ok (.iconst 1, 1) := by decide +kernel
theorem dX10_span_43 : decode cX10_span 43 = .ok (.isub, 1) := by decide +kernel
theorem dX10_span_44 : decode cX10_span 44 = .ok (.invokestatic 383, 3) := by decide +kernel
theorem dX10_span_47 : decode cX10_span 47 = .ok (.ifCond .eq 7, 3) := by decide +kernel
theorem dX10_span_50 : decode cX10_span 50 = .ok (.iconst 1, 1) := by decide +kernel
theorem dX10_span_51 : decode cX10_span 51 = .ok (.goto 4, 3) := by decide +kernel
theorem dX10_span_54 : decode cX10_span 54 = .ok (.iconst 0, 1) := by decide +kernel
theorem dX10_span_55 : decode cX10_span 55 = .ok (.iconst 1, 1) := by decide +kernel
theorem dX10_span_56 : decode cX10_span 56 = .ok (.iconst 1, 1) := by decide +kernel
theorem dX10_span_57 : decode cX10_span 57 = .ok (.invokevirtual 205, 3) := by decide +kernel
theorem dX10_span_60 : decode cX10_span 60 = .ok (.ifCond .ne 5, 3) := by decide +kernel
theorem dX10_span_63 : decode cX10_span 63 = .ok (.iconst 0, 1) := by decide +kernel
theorem dX10_span_64 : decode cX10_span 64 = .ok (.ireturn, 1) := by decide +kernel
theorem dX10_span_65 : decode cX10_span 65 = .ok (.iconst (-1), 1) := by decide +kernel
theorem dX10_span_66 : decode cX10_span 66 = .ok (.istore 7, 2) := by decide +kernel
theorem dX10_span_68 : decode cX10_span 68 = .ok (.iconst 0, 1) := by decide +kernel
theorem dX10_span_69 : decode cX10_span 69 = .ok (.istore 8, 2) := by decide +kernel
theorem dX10_span_71 : decode cX10_span 71 = .ok (.iconst 0, 1) := by decide +kernel
theorem dX10_span_72 : decode cX10_span 72 = .ok (.istore 9, 2) := by decide +kernel
theorem dX10_span_74 : decode cX10_span 74 = .ok (.iconst 0, 1) := by decide +kernel
theorem dX10_span_75 : decode cX10_span 75 = .ok (.istore 10, 2) := by decide +kernel
theorem dX10_span_77 : decode cX10_span 77 = .ok (.iload 10, 2) := by decide +kernel
theorem dX10_span_79 : decode cX10_span 79 = .ok (.iload_n 2, 1) := by decide +kernel
theorem dX10_span_80 : decode cX10_span 80 = .ok (.if_icmp .ge 87, 3) := by decide +kernel
theorem dX10_span_83 : decode cX10_span 83 = .ok (.aload_n 0, 1) := by decide +kernel
theorem dX10_span_84 : decode cX10_span 84 = .ok (.iload_n 1, 1) := by decide +kernel
theorem dX10_span_85 : decode cX10_span 85 = .ok (.iload 10, 2) := by decide +kernel
theorem dX10_span_87 : decode cX10_span 87 = .ok (.iadd, 1) := by decide +kernel
theorem dX10_span_88 : decode cX10_span 88 = .ok (.iload_n 3, 1) := by decide +kernel
theorem dX10_span_89 : decode cX10_span 89 = .ok (.iload 4, 2) := by decide +kernel
theorem dX10_span_91 : decode cX10_span 91 = .ok (.invokevirtual 457, 3) := by decide +kernel
theorem dX10_span_94 : decode cX10_span 94 = .ok (.aload_n 0, 1) := by decide +kernel
theorem dX10_span_95 : decode cX10_span 95 = .ok (.invokevirtual 386, 3) := by decide +kernel
theorem dX10_span_98 : decode cX10_span 98 = .ok (.istore 11, 2) := by decide +kernel
theorem dX10_span_100 : decode cX10_span 100 = .ok (.iload 7, 2) := by decide +kernel
theorem dX10_span_102 : decode cX10_span 102 = .ok (.iconst (-1), 1) := by decide +kernel
theorem dX10_span_103 : decode cX10_span 103 = .ok (.if_icmp .eq 10, 3) := by decide +kernel
theorem dX10_span_106 : decode cX10_span 106 = .ok (.iload 11, 2) := by decide +kernel
theorem dX10_span_108 : decode cX10_span 108 = .ok (.iload 7, 2) := by decide +kernel
theorem dX10_span_110 : decode cX10_span 110 = .ok (.if_icmp .ge 8, 3) := by decide +kernel
theorem dX10_span_113 : decode cX10_span 113 = .ok (.iload 11, 2) := by decide +kernel
theorem dX10_span_115 : decode cX10_span 115 = .ok (.goto 5, 3) := by decide +kernel
theorem dX10_span_118 : decode cX10_span 118 = .ok (.iload 7, 2) := by decide +kernel
theorem dX10_span_120 : decode cX10_span 120 = .ok (.istore 7, 2) := by decide +kernel
theorem dX10_span_122 : decode cX10_span 122 = .ok (.iload 11, 2) := by decide +kernel
theorem dX10_span_124 : decode cX10_span 124 = .ok (.iload 8, 2) := by decide +kernel
theorem dX10_span_126 : decode cX10_span 126 = .ok (.if_icmp .le 8, 3) := by decide +kernel
theorem dX10_span_129 : decode cX10_span 129 = .ok (.iload 11, 2) := by decide +kernel
theorem dX10_span_131 : decode cX10_span 131 = .ok (.goto 5, 3) := by decide +kernel
theorem dX10_span_134 : decode cX10_span 134 = .ok (.iload 8, 2) := by decide +kernel
theorem dX10_span_136 : decode cX10_span 136 = .ok (.istore 8, 2) := by decide +kernel
theorem dX10_span_138 : decode cX10_span 138 = .ok (.iload 9, 2) := by decide +kernel
theorem dX10_span_140 : decode cX10_span 140 = .ok (.aload_n 0, 1) := by decide +kernel
theorem dX10_span_141 : decode cX10_span 141 = .ok (.getfield 68, 3) := by decide +kernel
theorem dX10_span_144 : decode cX10_span 144 = .ok (.bipush 84, 2) := by decide +kernel
theorem dX10_span_146 : decode cX10_span 146 = .ok (.iload 6, 2) := by decide +kernel
theorem dX10_span_148 : decode cX10_span 148 = .ok (.iadd, 1) := by decide +kernel
theorem dX10_span_149 : decode cX10_span 149 = .ok (.iaload, 1) := by decide +kernel
theorem dX10_span_150 : decode cX10_span 150 = .ok (.ifCond .le 7, 3) := by decide +kernel
theorem dX10_span_153 : decode cX10_span 153 = .ok (.iconst 1, 1) := by decide +kernel
theorem dX10_span_154 : decode cX10_span 154 = .ok (.goto 4, 3) := by decide +kernel
theorem dX10_span_157 : decode cX10_span 157 = .ok (.iconst 0, 1) := by decide +kernel
theorem dX10_span_158 : decode cX10_span 158 = .ok (.iadd, 1) := by decide +kernel
theorem dX10_span_159 : decode cX10_span 159 = .ok (.istore 9, 2) := by decide +kernel
theorem dX10_span_161 : decode cX10_span 161 = .ok (.iinc 10 1, 3) := by decide +kernel
theorem dX10_span_164 : decode cX10_span 164 = .ok (.goto (-87), 3) := by decide +kernel
theorem dX10_span_167 : decode cX10_span 167 = .ok (.iload 5, 2) := by decide +kernel
theorem dX10_span_169 : decode cX10_span 169 = .ok (.ifCond .ne 8, 3) := by decide +kernel
theorem dX10_span_172 : decode cX10_span 172 = .ok (.iload 7, 2) := by decide +kernel
theorem dX10_span_174 : decode cX10_span 174 = .ok (.goto 16, 3) := by decide +kernel
theorem dX10_span_177 : decode cX10_span 177 = .ok (.iload 5, 2) := by decide +kernel
theorem dX10_span_179 : decode cX10_span 179 = .ok (.iconst 1, 1) := by decide +kernel
theorem dX10_span_180 : decode cX10_span 180 = .ok (.if_icmp .ne 8, 3) := by decide +kernel
theorem dX10_span_183 : decode cX10_span 183 = .ok (.iload 8, 2) := by decide +kernel
theorem dX10_span_185 : decode cX10_span 185 = .ok (.goto 5, 3) := by decide +kernel
theorem dX10_span_188 : decode cX10_span 188 = .ok (.iload 9, 2) := by decide +kernel
theorem dX10_span_190 : decode cX10_span 190 = .ok (.ireturn, 1) := by decide +kernel
theorem dX10_keepsRow_0 : decode cX10_keepsRow 0 = .ok (.iconst 0, 1) := by decide +kernel
theorem dX10_keepsRow_1 : decode cX10_keepsRow 1 = .ok (.istore 5, 2) := by decide +kernel
theorem dX10_keepsRow_3 : decode cX10_keepsRow 3 = .ok (.iload 5, 2) := by decide +kernel
theorem dX10_keepsRow_5 : decode cX10_keepsRow 5 = .ok (.iload_n 3, 1) := by decide +kernel
theorem dX10_keepsRow_6 : decode cX10_keepsRow 6 = .ok (.if_icmp .ge 43, 3) := by decide +kernel
theorem dX10_keepsRow_9 : decode cX10_keepsRow 9 = .ok (.iload 4, 2) := by decide +kernel
theorem dX10_keepsRow_11 : decode cX10_keepsRow 11 = .ok (.ifCond .eq 19, 3) := by decide +kernel
theorem dX10_keepsRow_14 : decode cX10_keepsRow 14 = .ok (.aload_n 0, 1) := by decide +kernel
theorem dX10_keepsRow_15 : decode cX10_keepsRow 15 = .ok (.getfield 96, 3) := by decide +kernel
theorem dX10_keepsRow_18 : decode cX10_keepsRow 18 = .ok (.iload_n 1, 1) := by decide +kernel
theorem dX10_keepsRow_19 : decode cX10_keepsRow 19 = .ok (.iload 5, 2) := by decide +kernel
theorem dX10_keepsRow_21 : decode cX10_keepsRow 21 = .ok (.iadd, 1) := by decide +kernel
theorem dX10_keepsRow_22 : decode cX10_keepsRow 22 = .ok (.aload_n 2, 1) := by decide +kernel
theorem dX10_keepsRow_23 : decode cX10_keepsRow 23 = .ok (.iload 5, 2) := by decide +kernel
theorem dX10_keepsRow_25 : decode cX10_keepsRow 25 = .ok (.iaload, 1) := by decide +kernel
theorem dX10_keepsRow_26 : decode cX10_keepsRow 26 = .ok (.iastore, 1) := by decide +kernel
theorem dX10_keepsRow_27 : decode cX10_keepsRow 27 = .ok (.goto 16, 3) := by decide +kernel
theorem dX10_keepsRow_30 : decode cX10_keepsRow 30 = .ok (.aload_n 2, 1) := by decide +kernel
theorem dX10_keepsRow_31 : decode cX10_keepsRow 31 = .ok (.iload 5, 2) := by decide +kernel
theorem dX10_keepsRow_33 : decode cX10_keepsRow 33 = .ok (.aload_n 0, 1) := by decide +kernel
theorem dX10_keepsRow_34 : decode cX10_keepsRow 34 = .ok (.getfield 96, 3) := by decide +kernel
theorem dX10_keepsRow_37 : decode cX10_keepsRow 37 = .ok (.iload_n 1, 1) := by decide +kernel
theorem dX10_keepsRow_38 : decode cX10_keepsRow 38 = .ok (.iload 5, 2) := by decide +kernel
theorem dX10_keepsRow_40 : decode cX10_keepsRow 40 = .ok (.iadd, 1) := by decide +kernel
theorem dX10_keepsRow_41 : decode cX10_keepsRow 41 = .ok (.iaload, 1) := by decide +kernel
theorem dX10_keepsRow_42 : decode cX10_keepsRow 42 = .ok (.iastore, 1) := by decide +kernel
theorem dX10_keepsRow_43 : decode cX10_keepsRow 43 = .ok (.iinc 5 1, 3) := by decide +kernel
theorem dX10_keepsRow_46 : decode cX10_keepsRow 46 = .ok (.goto (-43), 3) := by decide +kernel
theorem dX10_keepsRow_49 : decode cX10_keepsRow 49 = .ok (.iload_n 1, 1) := by decide +kernel
theorem dX10_keepsRow_50 : decode cX10_keepsRow 50 = .ok (.iload_n 3, 1) := by decide +kernel
theorem dX10_keepsRow_51 : decode cX10_keepsRow 51 = .ok (.iadd, 1) := by decide +kernel
theorem dX10_keepsRow_52 : decode cX10_keepsRow 52 = .ok (.ireturn, 1) := by decide +kernel
theorem dX10_keepsAll_0 : decode cX10_keepsAll 0 = .ok (.aload_n 0, 1) := by decide +kernel
theorem dX10_keepsAll_1 : decode cX10_keepsAll 1 = .ok (.sipush 2806, 3) := by decide +kernel
theorem dX10_keepsAll_4 : decode cX10_keepsAll 4 = .ok (.iload_n 1, 1) := by decide +kernel
theorem dX10_keepsAll_5 : decode cX10_keepsAll 5 = .ok (.imul, 1) := by decide +kernel
theorem dX10_keepsAll_6 : decode cX10_keepsAll 6 = .ok (.aload_n 0, 1) := by decide +kernel
theorem dX10_keepsAll_7 : decode cX10_keepsAll 7 = .ok (.getfield 65, 3) := by decide +kernel
theorem dX10_keepsAll_10 : decode cX10_keepsAll 10 = .ok (.sipush 165, 3) := by decide +kernel
theorem dX10_keepsAll_13 : decode cX10_keepsAll 13 = .ok (.iload_n 2, 1) := by decide +kernel
theorem dX10_keepsAll_14 : decode cX10_keepsAll 14 = .ok (.invokevirtual 463, 3) := by decide +kernel
theorem dX10_keepsAll_17 : decode cX10_keepsAll 17 = .ok (.istore_n 3, 1) := by decide +kernel
theorem dX10_keepsAll_18 : decode cX10_keepsAll 18 = .ok (.aload_n 0, 1) := by decide +kernel
theorem dX10_keepsAll_19 : decode cX10_keepsAll 19 = .ok (.iload_n 3, 1) := by decide +kernel
theorem dX10_keepsAll_20 : decode cX10_keepsAll 20 = .ok (.aload_n 0, 1) := by decide +kernel
theorem dX10_keepsAll_21 : decode cX10_keepsAll 21 = .ok (.getfield 71, 3) := by decide +kernel
theorem dX10_keepsAll_24 : decode cX10_keepsAll 24 = .ok (.sipush 2640, 3) := by decide +kernel
theorem dX10_keepsAll_27 : decode cX10_keepsAll 27 = .ok (.iload_n 2, 1) := by decide +kernel
theorem dX10_keepsAll_28 : decode cX10_keepsAll 28 = .ok (.invokevirtual 463, 3) := by decide +kernel
theorem dX10_keepsAll_31 : decode cX10_keepsAll 31 = .ok (.istore_n 3, 1) := by decide +kernel
theorem dX10_keepsAll_32 : decode cX10_keepsAll 32 = .ok (.iload_n 2, 1) := by decide +kernel
theorem dX10_keepsAll_33 : decode cX10_keepsAll 33 = .ok (.ifCond .eq 16, 3) := by decide +kernel
theorem dX10_keepsAll_36 : decode cX10_keepsAll 36 = .ok (.aload_n 0, 1) := by decide +kernel
theorem dX10_keepsAll_37 : decode cX10_keepsAll 37 = .ok (.getfield 96, 3) := by decide +kernel
theorem dX10_keepsAll_40 : decode cX10_keepsAll 40 = .ok (.iload_n 3, 1) := by decide +kernel
theorem dX10_keepsAll_41 : decode cX10_keepsAll 41 = .ok (.aload_n 0, 1) := by decide +kernel
theorem dX10_keepsAll_42 : decode cX10_keepsAll 42 = .ok (.getfield 179, 3) := by decide +kernel
theorem dX10_keepsAll_45 : decode cX10_keepsAll 45 = .ok (.iastore, 1) := by decide +kernel
theorem dX10_keepsAll_46 : decode cX10_keepsAll 46 = .ok (.goto 13, 3) := by decide +kernel
theorem dX10_keepsAll_49 : decode cX10_keepsAll 49 = .ok (.aload_n 0, 1) := by decide +kernel
theorem dX10_keepsAll_50 : decode cX10_keepsAll 50 = .ok (.aload_n 0, 1) := by decide +kernel
theorem dX10_keepsAll_51 : decode cX10_keepsAll 51 = .ok (.getfield 96, 3) := by decide +kernel
theorem dX10_keepsAll_54 : decode cX10_keepsAll 54 = .ok (.iload_n 3, 1) := by decide +kernel
theorem dX10_keepsAll_55 : decode cX10_keepsAll 55 = .ok (.iaload, 1) := by decide +kernel
theorem dX10_keepsAll_56 : decode cX10_keepsAll 56 = .ok (.putfield 179, 3) := by decide +kernel
theorem dX10_keepsAll_59 : decode cX10_keepsAll 59 = .ok (.return_, 1) := by decide +kernel
theorem dX10_image_0 : decode cX10_image 0 = .ok (.aload_n 0, 1) := by decide +kernel
theorem dX10_image_1 : decode cX10_image 1 = .ok (.iconst 0, 1) := by decide +kernel
theorem dX10_image_2 : decode cX10_image 2 = .ok (.putfield 3, 3) := by decide +kernel
theorem dX10_image_5 : decode cX10_image 5 = .ok (.aload_n 0, 1) := by decide +kernel
theorem dX10_image_6 : decode cX10_image 6 = .ok (.getfield 182, 3) := by decide +kernel
theorem dX10_image_9 : decode cX10_image 9 = .ok (.iconst 3, 1) := by decide +kernel
theorem dX10_image_10 : decode cX10_image 10 = .ok (.if_icmp .ne 5, 3) := by decide +kernel
theorem dX10_image_13 : decode cX10_image 13 = .ok (.iconst (-1), 1) := by decide +kernel
theorem dX10_image_14 : decode cX10_image 14 = .ok (.ireturn, 1) := by decide +kernel
theorem dX10_image_15 : decode cX10_image 15 = .ok (.aload_n 0, 1) := by decide +kernel
theorem dX10_image_16 : decode cX10_image 16 = .ok (.aload_n 0, 1) := by decide +kernel
theorem dX10_image_17 : decode cX10_image 17 = .ok (.getfield 182, 3) := by decide +kernel
theorem dX10_image_20 : decode cX10_image 20 = .ok (.iconst 1, 1) := by decide +kernel
theorem dX10_image_21 : decode cX10_image 21 = .ok (.invokevirtual 467, 3) := by decide +kernel
theorem dX10_image_24 : decode cX10_image 24 = .ok (.aload_n 0, 1) := by decide +kernel
theorem dX10_image_25 : decode cX10_image 25 = .ok (.dup, 1) := by decide +kernel
theorem dX10_image_26 : decode cX10_image 26 = .ok (.getfield 182, 3) := by decide +kernel
theorem dX10_image_29 : decode cX10_image 29 = .ok (.iconst 1, 1) := by decide +kernel
theorem dX10_image_30 : decode cX10_image 30 = .ok (.iadd, 1) := by decide +kernel
theorem dX10_image_31 : decode cX10_image 31 = .ok (.putfield 182, 3) := by decide +kernel
theorem dX10_image_34 : decode cX10_image 34 = .ok (.aload_n 0, 1) := by decide +kernel
theorem dX10_image_35 : decode cX10_image 35 = .ok (.getfield 182, 3) := by decide +kernel
theorem dX10_image_38 : decode cX10_image 38 = .ok (.ireturn, 1) := by decide +kernel
theorem dX10_restore_0 : decode cX10_restore 0 = .ok (.aload_n 0, 1) := by decide +kernel
theorem dX10_restore_1 : decode cX10_restore 1 = .ok (.iconst 0, 1) := by decide +kernel
theorem dX10_restore_2 : decode cX10_restore 2 = .ok (.putfield 3, 3) := by decide +kernel
theorem dX10_restore_5 : decode cX10_restore 5 = .ok (.aload_n 0, 1) := by decide +kernel
theorem dX10_restore_6 : decode cX10_restore 6 = .ok (.getfield 182, 3) := by decide +kernel
theorem dX10_restore_9 : decode cX10_restore 9 = .ok (.ifCond .ne 5, 3) := by decide +kernel
theorem dX10_restore_12 : decode cX10_restore 12 = .ok (.iconst (-1), 1) := by decide +kernel
theorem dX10_restore_13 : decode cX10_restore 13 = .ok (.ireturn, 1) := by decide +kernel
theorem dX10_restore_14 : decode cX10_restore 14 = .ok (.aload_n 0, 1) := by decide +kernel
theorem dX10_restore_15 : decode cX10_restore 15 = .ok (.dup, 1) := by decide +kernel
theorem dX10_restore_16 : decode cX10_restore 16 = .ok (.getfield 182, 3) := by decide +kernel
theorem dX10_restore_19 : decode cX10_restore 19 = .ok (.iconst 1, 1) := by decide +kernel
theorem dX10_restore_20 : decode cX10_restore 20 = .ok (.isub, 1) := by decide +kernel
theorem dX10_restore_21 : decode cX10_restore 21 = .ok (.putfield 182, 3) := by decide +kernel
theorem dX10_restore_24 : decode cX10_restore 24 = .ok (.aload_n 0, 1) := by decide +kernel
theorem dX10_restore_25 : decode cX10_restore 25 = .ok (.aload_n 0, 1) := by decide +kernel
theorem dX10_restore_26 : decode cX10_restore 26 = .ok (.getfield 182, 3) := by decide +kernel
theorem dX10_restore_29 : decode cX10_restore 29 = .ok (.iconst 0, 1) := by decide +kernel
theorem dX10_restore_30 : decode cX10_restore 30 = .ok (.invokevirtual 467, 3) := by decide +kernel
theorem dX10_restore_33 : decode cX10_restore 33 = .ok (.aload_n 0, 1) := by decide +kernel
theorem dX10_restore_34 : decode cX10_restore 34 = .ok (.iconst 0, 1) := by decide +kernel
theorem dX10_restore_35 : decode cX10_restore 35 = .ok (.putfield 185, 3) := by decide +kernel
theorem dX10_restore_38 : decode cX10_restore 38 = .ok (.aload_n 0, 1) := by decide +kernel
theorem dX10_restore_39 : decode cX10_restore 39 = .ok (.getfield 182, 3) := by decide +kernel
theorem dX10_restore_42 : decode cX10_restore 42 = .ok (.ireturn, 1) := by decide +kernel
theorem dX10_status_0 : decode cX10_status 0 = .ok (.aload_n 0, 1) := by decide +kernel
theorem dX10_status_1 : decode cX10_status 1 = .ok (.iconst 0, 1) := by decide +kernel
theorem dX10_status_2 : decode cX10_status 2 = .ok (.putfield 3, 3) := by decide +kernel
theorem dX10_status_5 : decode cX10_status 5 = .ok (.iload_n 1, 1) := by decide +kernel
theorem dX10_status_6 : decode cX10_status 6 = .ok (.iconst 0, 1) := by decide +kernel
theorem dX10_status_7 : decode cX10_status 7 = .ok (.iconst 1, 1) := by decide +kernel
theorem dX10_status_8 : decode cX10_status 8 = .ok (.invokestatic 383, 3) := by decide +kernel
theorem dX10_status_11 : decode cX10_status 11 = .ok (.ifCond .eq 12, 3) := by decide +kernel
theorem dX10_status_14 : decode cX10_status 14 = .ok (.aload_n 0, 1) := by decide +kernel
theorem dX10_status_15 : decode cX10_status 15 = .ok (.getfield 7, 3) := by decide +kernel
theorem dX10_status_18 : decode cX10_status 18 = .ok (.iload_n 1, 1) := by decide +kernel
theorem dX10_status_19 : decode cX10_status 19 = .ok (.iaload, 1) := by decide +kernel
theorem dX10_status_20 : decode cX10_status 20 = .ok (.goto 4, 3) := by decide +kernel
theorem dX10_status_23 : decode cX10_status 23 = .ok (.iconst (-1), 1) := by decide +kernel
theorem dX10_status_24 : decode cX10_status 24 = .ok (.ireturn, 1) := by decide +kernel
theorem dX10_count_0 : decode cX10_count 0 = .ok (.aload_n 0, 1) := by decide +kernel
theorem dX10_count_1 : decode cX10_count 1 = .ok (.iconst 0, 1) := by decide +kernel
theorem dX10_count_2 : decode cX10_count 2 = .ok (.putfield 3, 3) := by decide +kernel
theorem dX10_count_5 : decode cX10_count 5 = .ok (.iload_n 1, 1) := by decide +kernel
theorem dX10_count_6 : decode cX10_count 6 = .ok (.ifCond .ne 10, 3) := by decide +kernel
theorem dX10_count_9 : decode cX10_count 9 = .ok (.aload_n 0, 1) := by decide +kernel
theorem dX10_count_10 : decode cX10_count 10 = .ok (.getfield 182, 3) := by decide +kernel
theorem dX10_count_13 : decode cX10_count 13 = .ok (.goto 28, 3) := by decide +kernel
theorem dX10_count_16 : decode cX10_count 16 = .ok (.iload_n 1, 1) := by decide +kernel
theorem dX10_count_17 : decode cX10_count 17 = .ok (.iconst 1, 1) := by decide +kernel
theorem dX10_count_18 : decode cX10_count 18 = .ok (.if_icmp .ne 10, 3) := by decide +kernel
theorem dX10_count_21 : decode cX10_count 21 = .ok (.aload_n 0, 1) := by decide +kernel
theorem dX10_count_22 : decode cX10_count 22 = .ok (.getfield 105, 3) := by decide +kernel
theorem dX10_count_25 : decode cX10_count 25 = .ok (.goto 16, 3) := by decide +kernel
theorem dX10_count_28 : decode cX10_count 28 = .ok (.iload_n 1, 1) := by decide +kernel
theorem dX10_count_29 : decode cX10_count 29 = .ok (.iconst 2, 1) := by decide +kernel
theorem dX10_count_30 : decode cX10_count 30 = .ok (.if_icmp .ne 10, 3) := by decide +kernel
theorem dX10_count_33 : decode cX10_count 33 = .ok (.aload_n 0, 1) := by decide +kernel
theorem dX10_count_34 : decode cX10_count 34 = .ok (.getfield 179, 3) := by decide +kernel
theorem dX10_count_37 : decode cX10_count 37 = .ok (.goto 4, 3) := by decide +kernel
theorem dX10_count_40 : decode cX10_count 40 = .ok (.iconst (-1), 1) := by decide +kernel
theorem dX10_count_41 : decode cX10_count 41 = .ok (.ireturn, 1) := by decide +kernel
