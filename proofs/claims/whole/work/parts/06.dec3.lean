theorem dX10_thrown_0 : decode cX10_thrown 0 = .ok (.aload_n 0, 1) := by decide +kernel
theorem dX10_thrown_1 : decode cX10_thrown 1 = .ok (.getfield 3, 3) := by decide +kernel
theorem dX10_thrown_4 : decode cX10_thrown 4 = .ok (.ireturn, 1) := by decide +kernel
theorem dX10_may_0 : decode cX10_may 0 = .ok (.iload_n 1, 1) := by decide +kernel
theorem dX10_may_1 : decode cX10_may 1 = .ok (.ifCond .ne 25, 3) := by decide +kernel
theorem dX10_may_4 : decode cX10_may 4 = .ok (.aload_n 0, 1) := by decide +kernel
theorem dX10_may_5 : decode cX10_may 5 = .ok (.getfield 3, 3) := by decide +kernel
theorem dX10_may_8 : decode cX10_may 8 = .ok (.ifCond .ne 18, 3) := by decide +kernel
theorem dX10_may_11 : decode cX10_may 11 = .ok (.aload_n 0, 1) := by decide +kernel
theorem dX10_may_12 : decode cX10_may 12 = .ok (.iload_n 2, 1) := by decide +kernel
theorem dX10_may_13 : decode cX10_may 13 = .ok (.putfield 3, 3) := by decide +kernel
theorem dX10_may_16 : decode cX10_may 16 = .ok (.aload_n 0, 1) := by decide +kernel
theorem dX10_may_17 : decode cX10_may 17 = .ok (.getfield 7, 3) := by decide +kernel
theorem dX10_may_20 : decode cX10_may 20 = .ok (.iload_n 3, 1) := by decide +kernel
theorem dX10_may_21 : decode cX10_may 21 = .ok (.dup2, 1) := by decide +kernel
theorem dX10_may_22 : decode cX10_may 22 = .ok (.iaload, 1) := by decide +kernel
theorem dX10_may_23 : decode cX10_may 23 = .ok (.iconst 1, 1) := by decide +kernel
theorem dX10_may_24 : decode cX10_may 24 = .ok (.iadd, 1) := by decide +kernel
theorem dX10_may_25 : decode cX10_may 25 = .ok (.iastore, 1) := by decide +kernel
theorem dX10_may_26 : decode cX10_may 26 = .ok (.aload_n 0, 1) := by decide +kernel
theorem dX10_may_27 : decode cX10_may 27 = .ok (.getfield 3, 3) := by decide +kernel
theorem dX10_may_30 : decode cX10_may 30 = .ok (.ifCond .ne 7, 3) := by decide +kernel
theorem dX10_may_33 : decode cX10_may 33 = .ok (.iconst 1, 1) := by decide +kernel
theorem dX10_may_34 : decode cX10_may 34 = .ok (.goto 4, 3) := by decide +kernel
theorem dX10_may_37 : decode cX10_may 37 = .ok (.iconst 0, 1) := by decide +kernel
theorem dX10_may_38 : decode cX10_may 38 = .ok (.ireturn, 1) := by decide +kernel
theorem dX10_within_0 : decode cX10_within 0 = .ok (.iload_n 0, 1) := by decide +kernel
theorem dX10_within_1 : decode cX10_within 1 = .ok (.iload_n 1, 1) := by decide +kernel
theorem dX10_within_2 : decode cX10_within 2 = .ok (.if_icmp .lt 12, 3) := by decide +kernel
theorem dX10_within_5 : decode cX10_within 5 = .ok (.iload_n 0, 1) := by decide +kernel
theorem dX10_within_6 : decode cX10_within 6 = .ok (.iload_n 2, 1) := by decide +kernel
theorem dX10_within_7 : decode cX10_within 7 = .ok (.if_icmp .gt 7, 3) := by decide +kernel
theorem dX10_within_10 : decode cX10_within 10 = .ok (.iconst 1, 1) := by decide +kernel
theorem dX10_within_11 : decode cX10_within 11 = .ok (.goto 4, 3) := by decide +kernel
theorem dX10_within_14 : decode cX10_within 14 = .ok (.iconst 0, 1) := by decide +kernel
theorem dX10_within_15 : decode cX10_within 15 = .ok (.ireturn, 1) := by decide +kernel
theorem dX10_init_0 : decode cX10_init 0 = .ok (.aload_n 0, 1) := by decide +kernel
theorem dX10_init_1 : decode cX10_init 1 = .ok (.invokespecial 11, 3) := by decide +kernel
theorem dX10_init_4 : decode cX10_init 4 = .ok (.aload_n 0, 1) := by decide +kernel
theorem dX10_init_5 : decode cX10_init 5 = .ok (.iconst 2, 1) := by decide +kernel
theorem dX10_init_6 : decode cX10_init 6 = .ok (.newarray .int, 2) := by decide +kernel
theorem dX10_init_8 : decode cX10_init 8 = .ok (.putfield 7, 3) := by decide +kernel
theorem dX10_init_11 : decode cX10_init 11 = .ok (.aload_n 0, 1) := by decide +kernel
theorem dX10_init_12 : decode cX10_init 12 = .ok (.iconst (-1), 1) := by decide +kernel
theorem dX10_init_13 : decode cX10_init 13 = .ok (.putfield 17, 3) := by decide +kernel
theorem dX10_init_16 : decode cX10_init 16 = .ok (.aload_n 0, 1) := by decide +kernel
theorem dX10_init_17 : decode cX10_init 17 = .ok (.sipush 600, 3) := by decide +kernel
theorem dX10_init_20 : decode cX10_init 20 = .ok (.newarray .int, 2) := by decide +kernel
theorem dX10_init_22 : decode cX10_init 22 = .ok (.putfield 20, 3) := by decide +kernel
theorem dX10_init_25 : decode cX10_init 25 = .ok (.aload_n 0, 1) := by decide +kernel
theorem dX10_init_26 : decode cX10_init 26 = .ok (.bipush 6, 2) := by decide +kernel
theorem dX10_init_28 : decode cX10_init 28 = .ok (.newarray .int, 2) := by decide +kernel
theorem dX10_init_30 : decode cX10_init 30 = .ok (.putfield 23, 3) := by decide +kernel
theorem dX10_init_33 : decode cX10_init 33 = .ok (.aload_n 0, 1) := by decide +kernel
theorem dX10_init_34 : decode cX10_init 34 = .ok (.bipush 60, 2) := by decide +kernel
theorem dX10_init_36 : decode cX10_init 36 = .ok (.newarray .int, 2) := by decide +kernel
theorem dX10_init_38 : decode cX10_init 38 = .ok (.putfield 26, 3) := by decide +kernel
theorem dX10_init_41 : decode cX10_init 41 = .ok (.aload_n 0, 1) := by decide +kernel
theorem dX10_init_42 : decode cX10_init 42 = .ok (.iconst 5, 1) := by decide +kernel
theorem dX10_init_43 : decode cX10_init 43 = .ok (.newarray .int, 2) := by decide +kernel
theorem dX10_init_45 : decode cX10_init 45 = .ok (.putfield 29, 3) := by decide +kernel
theorem dX10_init_48 : decode cX10_init 48 = .ok (.aload_n 0, 1) := by decide +kernel
theorem dX10_init_49 : decode cX10_init 49 = .ok (.bipush 6, 2) := by decide +kernel
theorem dX10_init_51 : decode cX10_init 51 = .ok (.newarray .int, 2) := by decide +kernel
theorem dX10_init_53 : decode cX10_init 53 = .ok (.putfield 32, 3) := by decide +kernel
theorem dX10_init_56 : decode cX10_init 56 = .ok (.aload_n 0, 1) := by decide +kernel
theorem dX10_init_57 : decode cX10_init 57 = .ok (.bipush 60, 2) := by decide +kernel
theorem dX10_init_59 : decode cX10_init 59 = .ok (.newarray .int, 2) := by decide +kernel
theorem dX10_init_61 : decode cX10_init 61 = .ok (.putfield 35, 3) := by decide +kernel
theorem dX10_init_64 : decode cX10_init 64 = .ok (.aload_n 0, 1) := by decide +kernel
theorem dX10_init_65 : decode cX10_init 65 = .ok (.iconst 5, 1) := by decide +kernel
theorem dX10_init_66 : decode cX10_init 66 = .ok (.newarray .int, 2) := by decide +kernel
theorem dX10_init_68 : decode cX10_init 68 = .ok (.putfield 38, 3) := by decide +kernel
theorem dX10_init_71 : decode cX10_init 71 = .ok (.aload_n 0, 1) := by decide +kernel
theorem dX10_init_72 : decode cX10_init 72 = .ok (.sipush 150, 3) := by decide +kernel
theorem dX10_init_75 : decode cX10_init 75 = .ok (.newarray .int, 2) := by decide +kernel
theorem dX10_init_77 : decode cX10_init 77 = .ok (.putfield 41, 3) := by decide +kernel
theorem dX10_init_80 : decode cX10_init 80 = .ok (.aload_n 0, 1) := by decide +kernel
theorem dX10_init_81 : decode cX10_init 81 = .ok (.sipush 150, 3) := by decide +kernel
theorem dX10_init_84 : decode cX10_init 84 = .ok (.newarray .int, 2) := by decide +kernel
theorem dX10_init_86 : decode cX10_init 86 = .ok (.putfield 44, 3) := by decide +kernel
theorem dX10_init_89 : decode cX10_init 89 = .ok (.aload_n 0, 1) := by decide +kernel
theorem dX10_init_90 : decode cX10_init 90 = .ok (.sipush 150, 3) := by decide +kernel
theorem dX10_init_93 : decode cX10_init 93 = .ok (.newarray .int, 2) := by decide +kernel
theorem dX10_init_95 : decode cX10_init 95 = .ok (.putfield 47, 3) := by decide +kernel
theorem dX10_init_98 : decode cX10_init 98 = .ok (.aload_n 0, 1) := by decide +kernel
theorem dX10_init_99 : decode cX10_init 99 = .ok (.sipush 150, 3) := by decide +kernel
theorem dX10_init_102 : decode cX10_init 102 = .ok (.newarray .int, 2) := by decide +kernel
theorem dX10_init_104 : decode cX10_init 104 = .ok (.putfield 50, 3) := by decide +kernel
theorem dX10_init_107 : decode cX10_init 107 = .ok (.aload_n 0, 1) := by decide +kernel
theorem dX10_init_108 : decode cX10_init 108 = .ok (.sipush 150, 3) := by decide +kernel
theorem dX10_init_111 : decode cX10_init 111 = .ok (.newarray .int, 2) := by decide +kernel
theorem dX10_init_113 : decode cX10_init 113 = .ok (.putfield 53, 3) := by decide +kernel
theorem dX10_init_116 : decode cX10_init 116 = .ok (.aload_n 0, 1) := by decide +kernel
theorem dX10_init_117 : decode cX10_init 117 = .ok (.bipush 7, 2) := by decide +kernel
theorem dX10_init_119 : decode cX10_init 119 = .ok (.newarray .int, 2) := by decide +kernel
theorem dX10_init_121 : decode cX10_init 121 = .ok (.putfield 56, 3) := by decide +kernel
theorem dX10_init_124 : decode cX10_init 124 = .ok (.aload_n 0, 1) := by decide +kernel
theorem dX10_init_125 : decode cX10_init 125 = .ok (.sipush 150, 3) := by decide +kernel
theorem dX10_init_128 : decode cX10_init 128 = .ok (.newarray .int, 2) := by decide +kernel
theorem dX10_init_130 : decode cX10_init 130 = .ok (.putfield 59, 3) := by decide +kernel
theorem dX10_init_133 : decode cX10_init 133 = .ok (.aload_n 0, 1) := by decide +kernel
theorem dX10_init_134 : decode cX10_init 134 = .ok (.sipush 150, 3) := by decide +kernel
theorem dX10_init_137 : decode cX10_init 137 = .ok (.newarray .int, 2) := by decide +kernel
theorem dX10_init_139 : decode cX10_init 139 = .ok (.putfield 62, 3) := by decide +kernel
theorem dX10_init_142 : decode cX10_init 142 = .ok (.aload_n 0, 1) := by decide +kernel
theorem dX10_init_143 : decode cX10_init 143 = .ok (.sipush 165, 3) := by decide +kernel
theorem dX10_init_146 : decode cX10_init 146 = .ok (.newarray .int, 2) := by decide +kernel
theorem dX10_init_148 : decode cX10_init 148 = .ok (.putfield 65, 3) := by decide +kernel
theorem dX10_init_151 : decode cX10_init 151 = .ok (.aload_n 0, 1) := by decide +kernel
theorem dX10_init_152 : decode cX10_init 152 = .ok (.sipush 165, 3) := by decide +kernel
theorem dX10_init_155 : decode cX10_init 155 = .ok (.newarray .int, 2) := by decide +kernel
theorem dX10_init_157 : decode cX10_init 157 = .ok (.putfield 68, 3) := by decide +kernel
theorem dX10_init_160 : decode cX10_init 160 = .ok (.aload_n 0, 1) := by decide +kernel
theorem dX10_init_161 : decode cX10_init 161 = .ok (.sipush 2640, 3) := by decide +kernel
theorem dX10_init_164 : decode cX10_init 164 = .ok (.newarray .int, 2) := by decide +kernel
theorem dX10_init_166 : decode cX10_init 166 = .ok (.putfield 71, 3) := by decide +kernel
theorem dX10_init_169 : decode cX10_init 169 = .ok (.aload_n 0, 1) := by decide +kernel
theorem dX10_init_170 : decode cX10_init 170 = .ok (.bipush 6, 2) := by decide +kernel
theorem dX10_init_172 : decode cX10_init 172 = .ok (.newarray .int, 2) := by decide +kernel
theorem dX10_init_174 : decode cX10_init 174 = .ok (.putfield 74, 3) := by decide +kernel
theorem dX10_init_177 : decode cX10_init 177 = .ok (.aload_n 0, 1) := by decide +kernel
theorem dX10_init_178 : decode cX10_init 178 = .ok (.bipush 6, 2) := by decide +kernel
theorem dX10_init_180 : decode cX10_init 180 = .ok (.newarray .int, 2) := by decide +kernel
theorem dX10_init_182 : decode cX10_init 182 = .ok (.putfield 77, 3) := by decide +kernel
theorem dX10_init_185 : decode cX10_init 185 = .ok (.aload_n 0, 1) := by decide +kernel
theorem dX10_init_186 : decode cX10_init 186 = .ok (.sipush 384, 3) := by decide +kernel
theorem dX10_init_189 : decode cX10_init 189 = .ok (.newarray .int, 2) := by decide +kernel
theorem dX10_init_191 : decode cX10_init 191 = .ok (.putfield 80, 3) := by decide +kernel
theorem dX10_init_194 : decode cX10_init 194 = .ok (.aload_n 0, 1) := by decide +kernel
theorem dX10_init_195 : decode cX10_init 195 = .ok (.bipush 6, 2) := by decide +kernel
theorem dX10_init_197 : decode cX10_init 197 = .ok (.newarray .int, 2) := by decide +kernel
theorem dX10_init_199 : decode cX10_init 199 = .ok (.putfield 83, 3) := by decide +kernel
theorem dX10_init_202 : decode cX10_init 202 = .ok (.aload_n 0, 1) := by decide +kernel
theorem dX10_init_203 : decode cX10_init 203 = .ok (.sipush 324, 3) := by decide +kernel
theorem dX10_init_206 : decode cX10_init 206 = .ok (.newarray .int, 2) := by decide +kernel
theorem dX10_init_208 : decode cX10_init 208 = .ok (.putfield 86, 3) := by decide +kernel
theorem dX10_init_211 : decode cX10_init 211 = .ok (.aload_n 0, 1) := by decide +kernel
theorem dX10_init_212 : decode cX10_init 212 = .ok (.bipush 17, 2) := by decide +kernel
theorem dX10_init_214 : decode cX10_init 214 = .ok (.newarray .int, 2) := by decide +kernel
theorem dX10_init_216 : decode cX10_init 216 = .ok (.putfield 89, 3) := by decide +kernel
theorem dX10_init_219 : decode cX10_init 219 = .ok (.aload_n 0, 1) := by decide +kernel
theorem dX10_init_220 : decode cX10_init 220 = .ok (.bipush 14, 2) := by decide +kernel
theorem dX10_init_222 : decode cX10_init 222 = .ok (.newarray .long, 2) := by decide +kernel
theorem dX10_init_224 : decode cX10_init 224 = .ok (.putfield 92, 3) := by decide +kernel
theorem dX10_init_227 : decode cX10_init 227 = .ok (.aload_n 0, 1) := by decide +kernel
theorem dX10_init_228 : decode cX10_init 228 = .ok (.sipush 8418, 3) := by decide +kernel
theorem dX10_init_231 : decode cX10_init 231 = .ok (.newarray .int, 2) := by decide +kernel
theorem dX10_init_233 : decode cX10_init 233 = .ok (.putfield 96, 3) := by decide +kernel
theorem dX10_init_236 : decode cX10_init 236 = .ok (.aload_n 0, 1) := by decide +kernel
theorem dX10_init_237 : decode cX10_init 237 = .ok (.invokevirtual 99, 3) := by decide +kernel
theorem dX10_init_240 : decode cX10_init 240 = .ok (.aload_n 0, 1) := by decide +kernel
theorem dX10_init_241 : decode cX10_init 241 = .ok (.invokevirtual 102, 3) := by decide +kernel
theorem dX10_init_244 : decode cX10_init 244 = .ok (.return_, 1) := by decide +kernel
theorem dX10_feed_0 : decode cX10_feed 0 = .ok (.aload_n 0, 1) := by decide +kernel
theorem dX10_feed_1 : decode cX10_feed 1 = .ok (.iconst 0, 1) := by decide +kernel
theorem dX10_feed_2 : decode cX10_feed 2 = .ok (.putfield 3, 3) := by decide +kernel
theorem dX10_feed_5 : decode cX10_feed 5 = .ok (.aload_n 0, 1) := by decide +kernel
theorem dX10_feed_6 : decode cX10_feed 6 = .ok (.getfield 105, 3) := by decide +kernel
theorem dX10_feed_9 : decode cX10_feed 9 = .ok (.bipush 20, 2) := by decide +kernel
theorem dX10_feed_11 : decode cX10_feed 11 = .ok (.iadd, 1) := by decide +kernel
theorem dX10_feed_12 : decode cX10_feed 12 = .ok (.sipush 600, 3) := by decide +kernel
theorem dX10_feed_15 : decode cX10_feed 15 = .ok (.if_icmp .le 5, 3) := by decide +kernel
theorem dX10_feed_18 : decode cX10_feed 18 = .ok (.iconst (-1), 1) := by decide +kernel
theorem dX10_feed_19 : decode cX10_feed 19 = .ok (.ireturn, 1) := by decide +kernel
theorem dX10_feed_20 : decode cX10_feed 20 = .ok (.iconst 0, 1) := by decide +kernel
theorem dX10_feed_21 : decode cX10_feed 21 = .ok (.istore 6, 2) := by decide +kernel
theorem dX10_feed_23 : decode cX10_feed 23 = .ok (.iload 6, 2) := by decide +kernel
theorem dX10_feed_25 : decode cX10_feed 25 = .ok (.bipush 20, 2) := by decide +kernel
theorem dX10_feed_27 : decode cX10_feed 27 = .ok (.if_icmp .ge 93, 3) := by decide +kernel
theorem dX10_feed_30 : decode cX10_feed 30 = .ok (.iload 6, 2) := by decide +kernel
theorem dX10_feed_32 : decode cX10_feed 32 = .ok (.iconst 4, 1) := by decide +kernel
theorem dX10_feed_33 : decode cX10_feed 33 = .ok (.if_icmp .ge 7, 3) := by decide +kernel
theorem dX10_feed_36 : decode cX10_feed 36 = .ok (.iload_n 1, 1) := by decide +kernel
theorem dX10_feed_37 : decode cX10_feed 37 = .ok (.goto 39, 3) := by decide +kernel
theorem dX10_feed_40 : decode cX10_feed 40 = .ok (.iload 6, 2) := by decide +kernel
theorem dX10_feed_42 : decode cX10_feed 42 = .ok (.bipush 8, 2) := by decide +kernel
theorem dX10_feed_44 : decode cX10_feed 44 = .ok (.if_icmp .ge 7, 3) := by decide +kernel
theorem dX10_feed_47 : decode cX10_feed 47 = .ok (.iload_n 2, 1) := by decide +kernel
theorem dX10_feed_48 : decode cX10_feed 48 = .ok (.goto 28, 3) := by decide +kernel
theorem dX10_feed_51 : decode cX10_feed 51 = .ok (.iload 6, 2) := by decide +kernel
theorem dX10_feed_53 : decode cX10_feed 53 = .ok (.bipush 12, 2) := by decide +kernel
theorem dX10_feed_55 : decode cX10_feed 55 = .ok (.if_icmp .ge 7, 3) := by decide +kernel
theorem dX10_feed_58 : decode cX10_feed 58 = .ok (.iload_n 3, 1) := by decide +kernel
theorem dX10_feed_59 : decode cX10_feed 59 = .ok (.goto 17, 3) := by decide +kernel
theorem dX10_feed_62 : decode cX10_feed 62 = .ok (.iload 6, 2) := by decide +kernel
theorem dX10_feed_64 : decode cX10_feed 64 = .ok (.bipush 16, 2) := by decide +kernel
theorem dX10_feed_66 : decode cX10_feed 66 = .ok (.if_icmp .ge 8, 3) := by decide +kernel
theorem dX10_feed_69 : decode cX10_feed 69 = .ok (.iload 4, 2) := by decide +kernel
theorem dX10_feed_71 : decode cX10_feed 71 = .ok (.goto 5, 3) := by decide +kernel
theorem dX10_feed_74 : decode cX10_feed 74 = .ok (.iload 5, 2) := by decide +kernel
theorem dX10_feed_76 : decode cX10_feed 76 = .ok (.istore 7, 2) := by decide +kernel
theorem dX10_feed_78 : decode cX10_feed 78 = .ok (.aload_n 0, 1) := by decide +kernel
theorem dX10_feed_79 : decode cX10_feed 79 = .ok (.getfield 20, 3) := by decide +kernel
theorem dX10_feed_82 : decode cX10_feed 82 = .ok (.aload_n 0, 1) := by decide +kernel
theorem dX10_feed_83 : decode cX10_feed 83 = .ok (.getfield 105, 3) := by decide +kernel
theorem dX10_feed_86 : decode cX10_feed 86 = .ok (.iload 7, 2) := by decide +kernel
theorem dX10_feed_88 : decode cX10_feed 88 = .ok (.bipush 24, 2) := by decide +kernel
theorem dX10_feed_90 : decode cX10_feed 90 = .ok (.bipush 8, 2) := by decide +kernel
theorem dX10_feed_92 : decode cX10_feed 92 = .ok (.iload 6, 2) := by decide +kernel
theorem dX10_feed_94 : decode cX10_feed 94 = .ok (.iconst 4, 1) := by decide +kernel
theorem dX10_feed_95 : decode cX10_feed 95 = .ok (.irem, 1) := by decide +kernel
theorem dX10_feed_96 : decode cX10_feed 96 = .ok (.imul, 1) := by decide +kernel
theorem dX10_feed_97 : decode cX10_feed 97 = .ok (.isub, 1) := by decide +kernel
theorem dX10_feed_98 : decode cX10_feed 98 = .ok (.ishr, 1) := by decide +kernel
theorem dX10_feed_99 : decode cX10_feed 99 = .ok (.sipush 255, 3) := by decide +kernel
theorem dX10_feed_102 : decode cX10_feed 102 = .ok (.iand, 1) := by decide +kernel
theorem dX10_feed_103 : decode cX10_feed 103 = .ok (.iastore, 1) := by decide +kernel
theorem dX10_feed_104 : decode cX10_feed 104 = .ok (.aload_n 0, 1) := by decide +kernel
theorem dX10_feed_105 : decode cX10_feed 105 = .ok (.dup, 1) := by decide +kernel
theorem dX10_feed_106 : decode cX10_feed 106 = .ok (.getfield 105, 3) := by decide +kernel
theorem dX10_feed_109 : decode cX10_feed 109 = .ok (.iconst 1, 1) := by decide +kernel
theorem dX10_feed_110 : decode cX10_feed 110 = .ok (.iadd, 1) := by decide +kernel
theorem dX10_feed_111 : decode cX10_feed 111 = .ok (.putfield 105, 3) := by decide +kernel
theorem dX10_feed_114 : decode cX10_feed 114 = .ok (.iinc 6 1, 3) := by decide +kernel
theorem dX10_feed_117 : decode cX10_feed 117 = .ok (.goto (-94), 3) := by decide +kernel
theorem dX10_feed_120 : decode cX10_feed 120 = .ok (.aload_n 0, 1) := by decide +kernel
theorem dX10_feed_121 : decode cX10_feed 121 = .ok (.getfield 105, 3) := by decide +kernel
theorem dX10_feed_124 : decode cX10_feed 124 = .ok (.ireturn, 1) := by decide +kernel
theorem dX10_fine_0 : decode cX10_fine 0 = .ok (.aload_n 0, 1) := by decide +kernel
theorem dX10_fine_1 : decode cX10_fine 1 = .ok (.getfield 108, 3) := by decide +kernel
theorem dX10_fine_4 : decode cX10_fine 4 = .ok (.iconst (-1), 1) := by decide +kernel
theorem dX10_fine_5 : decode cX10_fine 5 = .ok (.if_icmp .ne 7, 3) := by decide +kernel
theorem dX10_fine_8 : decode cX10_fine 8 = .ok (.iconst 1, 1) := by decide +kernel
theorem dX10_fine_9 : decode cX10_fine 9 = .ok (.goto 4, 3) := by decide +kernel
theorem dX10_fine_12 : decode cX10_fine 12 = .ok (.iconst 0, 1) := by decide +kernel
theorem dX10_fine_13 : decode cX10_fine 13 = .ok (.ireturn, 1) := by decide +kernel
theorem dX10_wrong_0 : decode cX10_wrong 0 = .ok (.aload_n 0, 1) := by decide +kernel
theorem dX10_wrong_1 : decode cX10_wrong 1 = .ok (.getfield 108, 3) := by decide +kernel
theorem dX10_wrong_4 : decode cX10_wrong 4 = .ok (.iconst (-1), 1) := by decide +kernel
theorem dX10_wrong_5 : decode cX10_wrong 5 = .ok (.if_icmp .eq 4, 3) := by decide +kernel
theorem dX10_wrong_8 : decode cX10_wrong 8 = .ok (.return_, 1) := by decide +kernel
theorem dX10_wrong_9 : decode cX10_wrong 9 = .ok (.aload_n 0, 1) := by decide +kernel
theorem dX10_wrong_10 : decode cX10_wrong 10 = .ok (.iload_n 2, 1) := by decide +kernel
theorem dX10_wrong_11 : decode cX10_wrong 11 = .ok (.putfield 108, 3) := by decide +kernel
theorem dX10_wrong_14 : decode cX10_wrong 14 = .ok (.aload_n 0, 1) := by decide +kernel
theorem dX10_wrong_15 : decode cX10_wrong 15 = .ok (.iload_n 1, 1) := by decide +kernel
theorem dX10_wrong_16 : decode cX10_wrong 16 = .ok (.putfield 111, 3) := by decide +kernel
theorem dX10_wrong_19 : decode cX10_wrong 19 = .ok (.return_, 1) := by decide +kernel
theorem dX10_here_0 : decode cX10_here 0 = .ok (.aload_n 0, 1) := by decide +kernel
theorem dX10_here_1 : decode cX10_here 1 = .ok (.getfield 114, 3) := by decide +kernel
theorem dX10_here_4 : decode cX10_here 4 = .ok (.aload_n 0, 1) := by decide +kernel
theorem dX10_here_5 : decode cX10_here 5 = .ok (.getfield 117, 3) := by decide +kernel
theorem dX10_here_8 : decode cX10_here 8 = .ok (.if_icmp .ge 30, 3) := by decide +kernel
theorem dX10_here_11 : decode cX10_here 11 = .ok (.aload_n 0, 1) := by decide +kernel
theorem dX10_here_12 : decode cX10_here 12 = .ok (.getfield 20, 3) := by decide +kernel
theorem dX10_here_15 : decode cX10_here 15 = .ok (.aload_n 0, 1) := by decide +kernel
theorem dX10_here_16 : decode cX10_here 16 = .ok (.getfield 114, 3) := by decide +kernel
theorem dX10_here_19 : decode cX10_here 19 = .ok (.iaload, 1) := by decide +kernel
theorem dX10_here_20 : decode cX10_here 20 = .ok (.bipush 32, 2) := by decide +kernel
theorem dX10_here_22 : decode cX10_here 22 = .ok (.if_icmp .ne 16, 3) := by decide +kernel
theorem dX10_here_25 : decode cX10_here 25 = .ok (.aload_n 0, 1) := by decide +kernel
theorem dX10_here_26 : decode cX10_here 26 = .ok (.dup, 1) := by decide +kernel
theorem dX10_here_27 : decode cX10_here 27 = .ok (.getfield 114, 3) := by decide +kernel
theorem dX10_here_30 : decode cX10_here 30 = .ok (.iconst 1, 1) := by decide +kernel
theorem dX10_here_31 : decode cX10_here 31 = .ok (.iadd, 1) := by decide +kernel
theorem dX10_here_32 : decode cX10_here 32 = .ok (.putfield 114, 3) := by decide +kernel
theorem dX10_here_35 : decode cX10_here 35 = .ok (.goto (-35), 3) := by decide +kernel
theorem dX10_here_38 : decode cX10_here 38 = .ok (.aload_n 0, 1) := by decide +kernel
theorem dX10_here_39 : decode cX10_here 39 = .ok (.getfield 114, 3) := by decide +kernel
theorem dX10_here_42 : decode cX10_here 42 = .ok (.aload_n 0, 1) := by decide +kernel
theorem dX10_here_43 : decode cX10_here 43 = .ok (.getfield 117, 3) := by decide +kernel
theorem dX10_here_46 : decode cX10_here 46 = .ok (.if_icmp .ge 15, 3) := by decide +kernel
theorem dX10_here_49 : decode cX10_here 49 = .ok (.aload_n 0, 1) := by decide +kernel
theorem dX10_here_50 : decode cX10_here 50 = .ok (.getfield 20, 3) := by decide +kernel
theorem dX10_here_53 : decode cX10_here 53 = .ok (.aload_n 0, 1) := by decide +kernel
theorem dX10_here_54 : decode cX10_here 54 = .ok (.getfield 114, 3) := by decide +kernel
theorem dX10_here_57 : decode cX10_here 57 = .ok (.iaload, 1) := by decide +kernel
theorem dX10_here_58 : decode cX10_here 58 = .ok (.goto 4, 3) := by decide +kernel
theorem dX10_here_61 : decode cX10_here 61 = .ok (.iconst 0, 1) := by decide +kernel
theorem dX10_here_62 : decode cX10_here 62 = .ok (.ireturn, 1) := by decide +kernel
theorem dX10_isSmall_0 : decode cX10_isSmall 0 = .ok (.iload_n 0, 1) := by decide +kernel
theorem dX10_isSmall_1 : decode cX10_isSmall 1 = .ok (.bipush 97, 2) := by decide +kernel
theorem dX10_isSmall_3 : decode cX10_isSmall 3 = .ok (.if_icmp .lt 13, 3) := by decide +kernel
theorem dX10_isSmall_6 : decode cX10_isSmall 6 = .ok (.iload_n 0, 1) := by decide +kernel
theorem dX10_isSmall_7 : decode cX10_isSmall 7 = .ok (.bipush 122, 2) := by decide +kernel
theorem dX10_isSmall_9 : decode cX10_isSmall 9 = .ok (.if_icmp .gt 7, 3) := by decide +kernel
theorem dX10_isSmall_12 : decode cX10_isSmall 12 = .ok (.iconst 1, 1) := by decide +kernel
theorem dX10_isSmall_13 : decode cX10_isSmall 13 = .ok (.goto 4, 3) := by decide +kernel
theorem dX10_isSmall_16 : decode cX10_isSmall 16 = .ok (.iconst 0, 1) := by decide +kernel
theorem dX10_isSmall_17 : decode cX10_isSmall 17 = .ok (.ireturn, 1) := by decide +kernel
theorem dX10_isDigit_0 : decode cX10_isDigit 0 = .ok (.iload_n 0, 1) := by decide +kernel
theorem dX10_isDigit_1 : decode cX10_isDigit 1 = .ok (.bipush 48, 2) := by decide +kernel
theorem dX10_isDigit_3 : decode cX10_isDigit 3 = .ok (.if_icmp .lt 13, 3) := by decide +kernel
theorem dX10_isDigit_6 : decode cX10_isDigit 6 = .ok (.iload_n 0, 1) := by decide +kernel
theorem dX10_isDigit_7 : decode cX10_isDigit 7 = .ok (.bipush 57, 2) := by decide +kernel
theorem dX10_isDigit_9 : decode cX10_isDigit 9 = .ok (.if_icmp .gt 7, 3) := by decide +kernel
theorem dX10_isDigit_12 : decode cX10_isDigit 12 = .ok (.iconst 1, 1) := by decide +kernel
theorem dX10_isDigit_13 : decode cX10_isDigit 13 = .ok (.goto 4, 3) := by decide +kernel
theorem dX10_isDigit_16 : decode cX10_isDigit 16 = .ok (.iconst 0, 1) := by decide +kernel
theorem dX10_isDigit_17 : decode cX10_isDigit 17 = .ok (.ireturn, 1) := by decide +kernel
theorem dX10_wordHere_0 : decode cX10_wordHere 0 = .ok (.aload_n 0, 1) := by decide +kernel
theorem dX10_wordHere_1 : decode cX10_wordHere 1 = .ok (.invokevirtual 120, 3) := by decide +kernel
theorem dX10_wordHere_4 : decode cX10_wordHere 4 = .ok (.pop, 1) := by decide +kernel
theorem dX10_wordHere_5 : decode cX10_wordHere 5 = .ok (.iconst 0, 1) := by decide +kernel
theorem dX10_wordHere_6 : decode cX10_wordHere 6 = .ok (.istore_n 1, 1) := by decide +kernel
theorem dX10_wordHere_7 : decode cX10_wordHere 7 = .ok (.iconst 0, 1) := by decide +kernel
theorem dX10_wordHere_8 : decode cX10_wordHere 8 = .ok (.istore_n 2, 1) := by decide +kernel
theorem dX10_wordHere_9 : decode cX10_wordHere 9 = .ok (.aload_n 0, 1) := by decide +kernel
theorem dX10_wordHere_10 : decode cX10_wordHere 10 = .ok (.getfield 114, 3) := by decide +kernel
theorem dX10_wordHere_13 : decode cX10_wordHere 13 = .ok (.istore_n 3, 1) := by decide +kernel
theorem dX10_wordHere_14 : decode cX10_wordHere 14 = .ok (.iload_n 3, 1) := by decide +kernel
theorem dX10_wordHere_15 : decode cX10_wordHere 15 = .ok (.aload_n 0, 1) := by decide +kernel
theorem dX10_wordHere_16 : decode cX10_wordHere 16 = .ok (.getfield 117, 3) := by decide +kernel
theorem dX10_wordHere_19 : decode cX10_wordHere 19 = .ok (.if_icmp .ge 48, 3) := by decide +kernel
theorem dX10_wordHere_22 : decode cX10_wordHere 22 = .ok (.aload_n 0, 1) := by decide +kernel
theorem dX10_wordHere_23 : decode cX10_wordHere 23 = .ok (.getfield 20, 3) := by decide +kernel
theorem dX10_wordHere_26 : decode cX10_wordHere 26 = .ok (.iload_n 3, 1) := by decide +kernel
theorem dX10_wordHere_27 : decode cX10_wordHere 27 = .ok (.iaload, 1) := by decide +kernel
theorem dX10_wordHere_28 : decode cX10_wordHere 28 = .ok (.invokestatic 124, 3) := by decide +kernel
theorem dX10_wordHere_31 : decode cX10_wordHere 31 = .ok (.ifCond .eq 36, 3) := by decide +kernel
theorem dX10_wordHere_34 : decode cX10_wordHere 34 = .ok (.iload_n 2, 1) := by decide +kernel
theorem dX10_wordHere_35 : decode cX10_wordHere 35 = .ok (.bipush 6, 2) := by decide +kernel
theorem dX10_wordHere_37 : decode cX10_wordHere 37 = .ok (.if_icmp .ge 19, 3) := by decide +kernel
theorem dX10_wordHere_40 : decode cX10_wordHere 40 = .ok (.iload_n 1, 1) := by decide +kernel
theorem dX10_wordHere_41 : decode cX10_wordHere 41 = .ok (.iconst 5, 1) := by decide +kernel
theorem dX10_wordHere_42 : decode cX10_wordHere 42 = .ok (.ishl, 1) := by decide +kernel
theorem dX10_wordHere_43 : decode cX10_wordHere 43 = .ok (.aload_n 0, 1) := by decide +kernel
theorem dX10_wordHere_44 : decode cX10_wordHere 44 = .ok (.getfield 20, 3) := by decide +kernel
theorem dX10_wordHere_47 : decode cX10_wordHere 47 = .ok (.iload_n 3, 1) := by decide +kernel
theorem dX10_wordHere_48 : decode cX10_wordHere 48 = .ok (.iaload, 1) := by decide +kernel
theorem dX10_wordHere_49 : decode cX10_wordHere 49 = .ok (.bipush 96, 2) := by decide +kernel
theorem dX10_wordHere_51 : decode cX10_wordHere 51 = .ok (.isub, 1) := by decide +kernel
theorem dX10_wordHere_52 : decode cX10_wordHere 52 = .ok (.ior, 1) := by decide +kernel
theorem dX10_wordHere_53 : decode cX10_wordHere 53 = .ok (.goto 4, 3) := by decide +kernel
theorem dX10_wordHere_56 : decode cX10_wordHere 56 = .ok (.iconst 0, 1) := by decide +kernel
theorem dX10_wordHere_57 : decode cX10_wordHere 57 = .ok (.istore_n 1, 1) := by decide +kernel
theorem dX10_wordHere_58 : decode cX10_wordHere 58 = .ok (.iinc 2 1, 3) := by decide +kernel
theorem dX10_wordHere_61 : decode cX10_wordHere 61 = .ok (.iinc 3 1, 3) := by decide +kernel
theorem dX10_wordHere_64 : decode cX10_wordHere 64 = .ok (.goto (-50), 3) := by decide +kernel
theorem dX10_wordHere_67 : decode cX10_wordHere 67 = .ok (.iload_n 2, 1) := by decide +kernel
theorem dX10_wordHere_68 : decode cX10_wordHere 68 = .ok (.bipush 6, 2) := by decide +kernel
theorem dX10_wordHere_70 : decode cX10_wordHere 70 = .ok (.if_icmp .le 7, 3) := by decide +kernel
theorem dX10_wordHere_73 : decode cX10_wordHere 73 = .ok (.iconst 0, 1) := by decide +kernel
theorem dX10_wordHere_74 : decode cX10_wordHere 74 = .ok (.goto 4, 3) := by decide +kernel
theorem dX10_wordHere_77 : decode cX10_wordHere 77 = .ok (.iload_n 1, 1) := by decide +kernel
theorem dX10_wordHere_78 : decode cX10_wordHere 78 = .ok (.ireturn, 1) := by decide +kernel
theorem dX10_of_0 : decode cX10_of 0 = .ok (.iconst 0, 1) := by decide +kernel
theorem dX10_of_1 : decode cX10_of 1 = .ok (.istore_n 1, 1) := by decide +kernel
theorem dX10_of_2 : decode cX10_of 2 = .ok (.iconst 0, 1) := by decide +kernel
theorem dX10_of_3 : decode cX10_of 3 = .ok (.istore_n 2, 1) := by decide +kernel
theorem dX10_of_4 : decode cX10_of 4 = .ok (.iload_n 2, 1) := by decide +kernel
theorem dX10_of_5 : decode cX10_of 5 = .ok (.aload_n 0, 1) := by decide +kernel
theorem dX10_of_6 : decode cX10_of 6 = .ok (.invokevirtual 128, 3) := by decide +kernel
theorem dX10_of_9 : decode cX10_of 9 = .ok (.if_icmp .ge 22, 3) := by decide +kernel
theorem dX10_of_12 : decode cX10_of 12 = .ok (.iload_n 1, 1) := by decide +kernel
theorem dX10_of_13 : decode cX10_of 13 = .ok (.iconst 5, 1) := by decide +kernel
theorem dX10_of_14 : decode cX10_of 14 = .ok (.ishl, 1) := by decide +kernel
theorem dX10_of_15 : decode cX10_of 15 = .ok (.aload_n 0, 1) := by decide +kernel
theorem dX10_of_16 : decode cX10_of 16 = .ok (.iload_n 2, 1) := by decide +kernel
theorem dX10_of_17 : decode cX10_of 17 = .ok (.invokevirtual 133, 3) := by decide +kernel
theorem dX10_of_20 : decode cX10_of 20 = .ok (.bipush 96, 2) := by decide +kernel
theorem dX10_of_22 : decode cX10_of 22 = .ok (.isub, 1) := by decide +kernel
theorem dX10_of_23 : decode cX10_of 23 = .ok (.ior, 1) := by decide +kernel
theorem dX10_of_24 : decode cX10_of 24 = .ok (.istore_n 1, 1) := by decide +kernel
theorem dX10_of_25 : decode cX10_of 25 = .ok (.iinc 2 1, 3) := by decide +kernel
theorem dX10_of_28 : decode cX10_of 28 = .ok (.goto (-24), 3) := by decide +kernel
theorem dX10_of_31 : decode cX10_of 31 = .ok (.iload_n 1, 1) := by decide +kernel
theorem dX10_of_32 : decode cX10_of 32 = .ok (.ireturn, 1) := by decide +kernel
theorem dX10_pass_0 : decode cX10_pass 0 = .ok (.aload_n 0, 1) := by decide +kernel
theorem dX10_pass_1 : decode cX10_pass 1 = .ok (.getfield 114, 3) := by decide +kernel
theorem dX10_pass_4 : decode cX10_pass 4 = .ok (.aload_n 0, 1) := by decide +kernel
theorem dX10_pass_5 : decode cX10_pass 5 = .ok (.getfield 117, 3) := by decide +kernel
theorem dX10_pass_8 : decode cX10_pass 8 = .ok (.if_icmp .ge 31, 3) := by decide +kernel
theorem dX10_pass_11 : decode cX10_pass 11 = .ok (.aload_n 0, 1) := by decide +kernel
theorem dX10_pass_12 : decode cX10_pass 12 = .ok (.getfield 20, 3) := by decide +kernel
theorem dX10_pass_15 : decode cX10_pass 15 = .ok (.aload_n 0, 1) := by decide +kernel
theorem dX10_pass_16 : decode cX10_pass 16 = .ok (.getfield 114, 3) := by decide +kernel
theorem dX10_pass_19 : decode cX10_pass 19 = .ok (.iaload, 1) := by decide +kernel
theorem dX10_pass_20 : decode cX10_pass 20 = .ok (.invokestatic 124, 3) := by decide +kernel
theorem dX10_pass_23 : decode cX10_pass 23 = .ok (.ifCond .eq 16, 3) := by decide +kernel
theorem dX10_pass_26 : decode cX10_pass 26 = .ok (.aload_n 0, 1) := by decide +kernel
theorem dX10_pass_27 : decode cX10_pass 27 = .ok (.dup, 1) := by decide +kernel
theorem dX10_pass_28 : decode cX10_pass 28 = .ok (.getfield 114, 3) := by decide +kernel
theorem dX10_pass_31 : decode cX10_pass 31 = .ok (.iconst 1, 1) := by decide +kernel
theorem dX10_pass_32 : decode cX10_pass 32 = .ok (.iadd, 1) := by decide +kernel
theorem dX10_pass_33 : decode cX10_pass 33 = .ok (.putfield 114, 3) := by decide +kernel
theorem dX10_pass_36 : decode cX10_pass 36 = .ok (.goto (-36), 3) := by decide +kernel
theorem dX10_pass_39 : decode cX10_pass 39 = .ok (.return_, 1) := by decide +kernel
theorem dX10_readNumber_0 : decode cX10_readNumber 0 = .ok (.aload_n 0, 1) := by decide +kernel
theorem dX10_readNumber_1 : decode cX10_readNumber 1 = .ok (.invokevirtual 137, 3) := by decide +kernel
theorem dX10_readNumber_4 : decode cX10_readNumber 4 = .ok (.ifCond .ne 5, 3) := by decide +kernel
theorem dX10_readNumber_7 : decode cX10_readNumber 7 = .ok (.iconst 0, 1) := by decide +kernel
theorem dX10_readNumber_8 : decode cX10_readNumber 8 = .ok (.ireturn, 1) := by decide +kernel
theorem dX10_readNumber_9 : decode cX10_readNumber 9 = .ok (.aload_n 0, 1) := by decide +kernel
theorem dX10_readNumber_10 : decode cX10_readNumber 10 = .ok (.invokevirtual 120, 3) := by decide +kernel
theorem dX10_readNumber_13 : decode cX10_readNumber 13 = .ok (.istore_n 3, 1) := by decide +kernel
theorem dX10_readNumber_14 : decode cX10_readNumber 14 = .ok (.aload_n 0, 1) := by decide +kernel
theorem dX10_readNumber_15 : decode cX10_readNumber 15 = .ok (.getfield 114, 3) := by decide +kernel
theorem dX10_readNumber_18 : decode cX10_readNumber 18 = .ok (.istore 4, 2) := by decide +kernel
theorem dX10_readNumber_20 : decode cX10_readNumber 20 = .ok (.iconst 0, 1) := by decide +kernel
theorem dX10_readNumber_21 : decode cX10_readNumber 21 = .ok (.istore 5, 2) := by decide +kernel
theorem dX10_readNumber_23 : decode cX10_readNumber 23 = .ok (.iload_n 3, 1) := by decide +kernel
theorem dX10_readNumber_24 : decode cX10_readNumber 24 = .ok (.invokestatic 141, 3) := by decide +kernel
theorem dX10_readNumber_27 : decode cX10_readNumber 27 = .ok (.ifCond .ne 14, 3) := by decide +kernel
theorem dX10_readNumber_30 : decode cX10_readNumber 30 = .ok (.aload_n 0, 1) := by decide +kernel
theorem dX10_readNumber_31 : decode cX10_readNumber 31 = .ok (.iconst 1, 1) := by decide +kernel
theorem dX10_readNumber_32 : decode cX10_readNumber 32 = .ok (.aload_n 0, 1) := by decide +kernel
theorem dX10_readNumber_33 : decode cX10_readNumber 33 = .ok (.getfield 114, 3) := by decide +kernel
theorem dX10_readNumber_36 : decode cX10_readNumber 36 = .ok (.invokevirtual 144, 3) := by decide +kernel
theorem dX10_readNumber_39 : decode cX10_readNumber 39 = .ok (.iconst 0, 1) := by decide +kernel
theorem dX10_readNumber_40 : decode cX10_readNumber 40 = .ok (.ireturn, 1) := by decide +kernel
theorem dX10_readNumber_41 : decode cX10_readNumber 41 = .ok (.aload_n 0, 1) := by decide +kernel
theorem dX10_readNumber_42 : decode cX10_readNumber 42 = .ok (.getfield 114, 3) := by decide +kernel
theorem dX10_readNumber_45 : decode cX10_readNumber 45 = .ok (.aload_n 0, 1) := by decide +kernel
theorem dX10_readNumber_46 : decode cX10_readNumber 46 = .ok (.getfield 117, 3) := by decide +kernel
theorem dX10_readNumber_49 : decode cX10_readNumber 49 = .ok (.if_icmp .ge 65, 3) := by decide +kernel
theorem dX10_readNumber_52 : decode cX10_readNumber 52 = .ok (.aload_n 0, 1) := by decide +kernel
theorem dX10_readNumber_53 : decode cX10_readNumber 53 = .ok (.getfield 20, 3) := by decide +kernel
theorem dX10_readNumber_56 : decode cX10_readNumber 56 = .ok (.aload_n 0, 1) := by decide +kernel
theorem dX10_readNumber_57 : decode cX10_readNumber 57 = .ok (.getfield 114, 3) := by decide +kernel
theorem dX10_readNumber_60 : decode cX10_readNumber 60 = .ok (.iaload, 1) := by decide +kernel
theorem dX10_readNumber_61 : decode cX10_readNumber 61 = .ok (.invokestatic 141, 3) := by decide +kernel
theorem dX10_readNumber_64 : decode cX10_readNumber 64 = .ok (.ifCond .eq 50, 3) := by decide +kernel
theorem dX10_readNumber_67 : decode cX10_readNumber 67 = .ok (.iload 5, 2) := by decide +kernel
theorem dX10_readNumber_69 : decode cX10_readNumber 69 = .ok (.sipush 9999, 3) := by decide +kernel
theorem dX10_readNumber_72 : decode cX10_readNumber 72 = .ok (.if_icmp .le 9, 3) := by decide +kernel
theorem dX10_readNumber_75 : decode cX10_readNumber 75 = .ok (.sipush 10000, 3) := by decide +kernel
theorem dX10_readNumber_78 : decode cX10_readNumber 78 = .ok (.goto 21, 3) := by decide +kernel
theorem dX10_readNumber_81 : decode cX10_readNumber 81 = .ok (.bipush 10, 2) := by decide +kernel
theorem dX10_readNumber_83 : decode cX10_readNumber 83 = .ok (.iload 5, 2) := by decide +kernel
theorem dX10_readNumber_85 : decode cX10_readNumber 85 = .ok (.imul, 1) := by decide +kernel
theorem dX10_readNumber_86 : decode cX10_readNumber 86 = .ok (.aload_n 0, 1) := by decide +kernel
theorem dX10_readNumber_87 : decode cX10_readNumber 87 = .ok (.getfield 20, 3) := by decide +kernel
theorem dX10_readNumber_90 : decode cX10_readNumber 90 = .ok (.aload_n 0, 1) := by decide +kernel
theorem dX10_readNumber_91 : decode cX10_readNumber 91 = .ok (.getfield 114, 3) := by decide +kernel
theorem dX10_readNumber_94 : decode cX10_readNumber 94 = .ok (.iaload, 1) := by decide +kernel
theorem dX10_readNumber_95 : decode cX10_readNumber 95 = .ok (.iadd, 1) := by decide +kernel
theorem dX10_readNumber_96 : decode cX10_readNumber 96 = .ok (.bipush 48, 2) := by decide +kernel
theorem dX10_readNumber_98 : decode cX10_readNumber 98 = .ok (.isub, 1) := by decide +kernel
theorem dX10_readNumber_99 : decode cX10_readNumber 99 = .ok (.istore 5, 2) := by decide +kernel
theorem dX10_readNumber_101 : decode cX10_readNumber 101 = .ok (.aload_n 0, 1) := by decide +kernel
theorem dX10_readNumber_102 : decode cX10_readNumber 102 = .ok (.dup, 1) := by decide +kernel
theorem dX10_readNumber_103 : decode cX10_readNumber 103 = .ok (.getfield 114, 3) := by decide +kernel
theorem dX10_readNumber_106 : decode cX10_readNumber 106 = .ok (.iconst 1, 1) := by decide +kernel
theorem dX10_readNumber_107 : decode cX10_readNumber 107 = .ok (.iadd, 1) := by decide +kernel
theorem dX10_readNumber_108 : decode cX10_readNumber 108 = .ok (.putfield 114, 3) := by decide +kernel
theorem dX10_readNumber_111 : decode cX10_readNumber 111 = .ok (.goto (-70), 3) := by decide +kernel
theorem dX10_readNumber_114 : decode cX10_readNumber 114 = .ok (.iload 5, 2) := by decide +kernel
theorem dX10_readNumber_116 : decode cX10_readNumber 116 = .ok (.iload_n 1, 1) := by decide +kernel
theorem dX10_readNumber_117 : decode cX10_readNumber 117 = .ok (.if_icmp .lt 9, 3) := by decide +kernel
theorem dX10_readNumber_120 : decode cX10_readNumber 120 = .ok (.iload 5, 2) := by decide +kernel
theorem dX10_readNumber_122 : decode cX10_readNumber 122 = .ok (.iload_n 2, 1) := by decide +kernel
theorem dX10_readNumber_123 : decode cX10_readNumber 123 = .ok (.if_icmp .le 12, 3) := by decide +kernel
theorem dX10_readNumber_126 : decode cX10_readNumber 126 = .ok (.aload_n 0, 1) := by decide +kernel
theorem dX10_readNumber_127 : decode cX10_readNumber 127 = .ok (.iconst 2, 1) := by decide +kernel
theorem dX10_readNumber_128 : decode cX10_readNumber 128 = .ok (.iload 4, 2) := by decide +kernel
theorem dX10_readNumber_130 : decode cX10_readNumber 130 = .ok (.invokevirtual 144, 3) := by decide +kernel
theorem dX10_readNumber_133 : decode cX10_readNumber 133 = .ok (.iconst 0, 1) := by decide +kernel
theorem dX10_readNumber_134 : decode cX10_readNumber 134 = .ok (.ireturn, 1) := by decide +kernel
theorem dX10_readNumber_135 : decode cX10_readNumber 135 = .ok (.iload 5, 2) := by decide +kernel
theorem dX10_readNumber_137 : decode cX10_readNumber 137 = .ok (.ireturn, 1) := by decide +kernel
theorem dX10_sign_0 : decode cX10_sign 0 = .ok (.aload_n 0, 1) := by decide +kernel
theorem dX10_sign_1 : decode cX10_sign 1 = .ok (.invokevirtual 137, 3) := by decide +kernel
theorem dX10_sign_4 : decode cX10_sign 4 = .ok (.ifCond .eq 20, 3) := by decide +kernel
theorem dX10_sign_7 : decode cX10_sign 7 = .ok (.aload_n 0, 1) := by decide +kernel
theorem dX10_sign_8 : decode cX10_sign 8 = .ok (.invokevirtual 120, 3) := by decide +kernel
theorem dX10_sign_11 : decode cX10_sign 11 = .ok (.iload_n 1, 1) := by decide +kernel
theorem dX10_sign_12 : decode cX10_sign 12 = .ok (.if_icmp .eq 12, 3) := by decide +kernel
theorem dX10_sign_15 : decode cX10_sign 15 = .ok (.aload_n 0, 1) := by decide +kernel
theorem dX10_sign_16 : decode cX10_sign 16 = .ok (.iconst 1, 1) := by decide +kernel
theorem dX10_sign_17 : decode cX10_sign 17 = .ok (.aload_n 0, 1) := by decide +kernel
theorem dX10_sign_18 : decode cX10_sign 18 = .ok (.getfield 114, 3) := by decide +kernel
theorem dX10_sign_21 : decode cX10_sign 21 = .ok (.invokevirtual 144, 3) := by decide +kernel
theorem dX10_sign_24 : decode cX10_sign 24 = .ok (.aload_n 0, 1) := by decide +kernel
theorem dX10_sign_25 : decode cX10_sign 25 = .ok (.invokevirtual 137, 3) := by decide +kernel
theorem dX10_sign_28 : decode cX10_sign 28 = .ok (.ifCond .eq 13, 3) := by decide +kernel
theorem dX10_sign_31 : decode cX10_sign 31 = .ok (.aload_n 0, 1) := by decide +kernel
theorem dX10_sign_32 : decode cX10_sign 32 = .ok (.dup, 1) := by decide +kernel
theorem dX10_sign_33 : decode cX10_sign 33 = .ok (.getfield 114, 3) := by decide +kernel
theorem dX10_sign_36 : decode cX10_sign 36 = .ok (.iconst 1, 1) := by decide +kernel
theorem dX10_sign_37 : decode cX10_sign 37 = .ok (.iadd, 1) := by decide +kernel
theorem dX10_sign_38 : decode cX10_sign 38 = .ok (.putfield 114, 3) := by decide +kernel
theorem dX10_sign_41 : decode cX10_sign 41 = .ok (.return_, 1) := by decide +kernel
theorem dX10_isMore_0 : decode cX10_isMore 0 = .ok (.aload_n 0, 1) := by decide +kernel
theorem dX10_isMore_1 : decode cX10_isMore 1 = .ok (.invokevirtual 120, 3) := by decide +kernel
theorem dX10_isMore_4 : decode cX10_isMore 4 = .ok (.pop, 1) := by decide +kernel
theorem dX10_isMore_5 : decode cX10_isMore 5 = .ok (.aload_n 0, 1) := by decide +kernel
theorem dX10_isMore_6 : decode cX10_isMore 6 = .ok (.getfield 114, 3) := by decide +kernel
theorem dX10_isMore_9 : decode cX10_isMore 9 = .ok (.aload_n 0, 1) := by decide +kernel
theorem dX10_isMore_10 : decode cX10_isMore 10 = .ok (.getfield 117, 3) := by decide +kernel
theorem dX10_isMore_13 : decode cX10_isMore 13 = .ok (.if_icmp .ge 7, 3) := by decide +kernel
theorem dX10_isMore_16 : decode cX10_isMore 16 = .ok (.iconst 1, 1) := by decide +kernel
theorem dX10_isMore_17 : decode cX10_isMore 17 = .ok (.goto 4, 3) := by decide +kernel
theorem dX10_isMore_20 : decode cX10_isMore 20 = .ok (.iconst 0, 1) := by decide +kernel
theorem dX10_isMore_21 : decode cX10_isMore 21 = .ok (.ireturn, 1) := by decide +kernel
theorem dX10_begins_0 : decode cX10_begins 0 = .ok (.aload_n 0, 1) := by decide +kernel
theorem dX10_begins_1 : decode cX10_begins 1 = .ok (.iconst 0, 1) := by decide +kernel
theorem dX10_begins_2 : decode cX10_begins 2 = .ok (.putfield 105, 3) := by decide +kernel
theorem dX10_begins_5 : decode cX10_begins 5 = .ok (.aload_n 0, 1) := by decide +kernel
theorem dX10_begins_6 : decode cX10_begins 6 = .ok (.iconst (-1), 1) := by decide +kernel
theorem dX10_begins_7 : decode cX10_begins 7 = .ok (.putfield 17, 3) := by decide +kernel
theorem dX10_begins_10 : decode cX10_begins 10 = .ok (.aload_n 0, 1) := by decide +kernel
theorem dX10_begins_11 : decode cX10_begins 11 = .ok (.iload_n 1, 1) := by decide +kernel
theorem dX10_begins_12 : decode cX10_begins 12 = .ok (.putfield 117, 3) := by decide +kernel
theorem dX10_begins_15 : decode cX10_begins 15 = .ok (.aload_n 0, 1) := by decide +kernel
theorem dX10_begins_16 : decode cX10_begins 16 = .ok (.iconst 0, 1) := by decide +kernel
theorem dX10_begins_17 : decode cX10_begins 17 = .ok (.putfield 114, 3) := by decide +kernel
theorem dX10_begins_20 : decode cX10_begins 20 = .ok (.aload_n 0, 1) := by decide +kernel
theorem dX10_begins_21 : decode cX10_begins 21 = .ok (.iconst (-1), 1) := by decide +kernel
theorem dX10_begins_22 : decode cX10_begins 22 = .ok (.putfield 108, 3) := by decide +kernel
theorem dX10_begins_25 : decode cX10_begins 25 = .ok (.aload_n 0, 1) := by decide +kernel
theorem dX10_begins_26 : decode cX10_begins 26 = .ok (.iconst 0, 1) := by decide +kernel
theorem dX10_begins_27 : decode cX10_begins 27 = .ok (.putfield 148, 3) := by decide +kernel
theorem dX10_begins_30 : decode cX10_begins 30 = .ok (.return_, 1) := by decide +kernel
theorem dX10_result_0 : decode cX10_result 0 = .ok (.aload_n 0, 1) := by decide +kernel
theorem dX10_result_1 : decode cX10_result 1 = .ok (.aload_n 0, 1) := by decide +kernel
theorem dX10_result_2 : decode cX10_result 2 = .ok (.getfield 108, 3) := by decide +kernel
theorem dX10_result_5 : decode cX10_result 5 = .ok (.putfield 17, 3) := by decide +kernel
theorem dX10_result_8 : decode cX10_result 8 = .ok (.aload_n 0, 1) := by decide +kernel
theorem dX10_result_9 : decode cX10_result 9 = .ok (.invokevirtual 137, 3) := by decide +kernel
theorem dX10_result_12 : decode cX10_result 12 = .ok (.ifCond .eq 7, 3) := by decide +kernel
theorem dX10_result_15 : decode cX10_result 15 = .ok (.iload_n 1, 1) := by decide +kernel
theorem dX10_result_16 : decode cX10_result 16 = .ok (.goto 10, 3) := by decide +kernel
theorem dX10_result_19 : decode cX10_result 19 = .ok (.aload_n 0, 1) := by decide +kernel
theorem dX10_result_20 : decode cX10_result 20 = .ok (.getfield 111, 3) := by decide +kernel
theorem dX10_result_23 : decode cX10_result 23 = .ok (.bipush 10, 2) := by decide +kernel
theorem dX10_result_25 : decode cX10_result 25 = .ok (.isub, 1) := by decide +kernel
theorem dX10_result_26 : decode cX10_result 26 = .ok (.ireturn, 1) := by decide +kernel
theorem dX10_fault_0 : decode cX10_fault 0 = .ok (.aload_n 0, 1) := by decide +kernel
theorem dX10_fault_1 : decode cX10_fault 1 = .ok (.iconst 0, 1) := by decide +kernel
theorem dX10_fault_2 : decode cX10_fault 2 = .ok (.putfield 3, 3) := by decide +kernel
theorem dX10_fault_5 : decode cX10_fault 5 = .ok (.aload_n 0, 1) := by decide +kernel
theorem dX10_fault_6 : decode cX10_fault 6 = .ok (.getfield 17, 3) := by decide +kernel
theorem dX10_fault_9 : decode cX10_fault 9 = .ok (.ireturn, 1) := by decide +kernel
theorem dX10_copies_0 : decode cX10_copies 0 = .ok (.iconst 0, 1) := by decide +kernel
theorem dX10_copies_1 : decode cX10_copies 1 = .ok (.istore 4, 2) := by decide +kernel
theorem dX10_copies_3 : decode cX10_copies 3 = .ok (.iload 4, 2) := by decide +kernel
theorem dX10_copies_5 : decode cX10_copies 5 = .ok (.iload_n 3, 1) := by decide +kernel
theorem dX10_copies_6 : decode cX10_copies 6 = .ok (.if_icmp .ge 17, 3) := by decide +kernel
theorem dX10_copies_9 : decode cX10_copies 9 = .ok (.aload_n 2, 1) := by decide +kernel
theorem dX10_copies_10 : decode cX10_copies 10 = .ok (.iload 4, 2) := by decide +kernel
theorem dX10_copies_12 : decode cX10_copies 12 = .ok (.aload_n 1, 1) := by decide +kernel
theorem dX10_copies_13 : decode cX10_copies 13 = .ok (.iload 4, 2) := by decide +kernel
theorem dX10_copies_15 : decode cX10_copies 15 = .ok (.iaload, 1) := by decide +kernel
theorem dX10_copies_16 : decode cX10_copies 16 = .ok (.iastore, 1) := by decide +kernel
theorem dX10_copies_17 : decode cX10_copies 17 = .ok (.iinc 4 1, 3) := by decide +kernel
theorem dX10_copies_20 : decode cX10_copies 20 = .ok (.goto (-17), 3) := by decide +kernel
theorem dX10_copies_23 : decode cX10_copies 23 = .ok (.return_, 1) := by decide +kernel
theorem dX10_clears_0 : decode cX10_clears 0 = .ok (.aload_n 0, 1) := by decide +kernel
theorem dX10_clears_1 : decode cX10_clears 1 = .ok (.iconst 0, 1) := by decide +kernel
theorem dX10_clears_2 : decode cX10_clears 2 = .ok (.putfield 151, 3) := by decide +kernel
theorem dX10_clears_5 : decode cX10_clears 5 = .ok (.aload_n 0, 1) := by decide +kernel
theorem dX10_clears_6 : decode cX10_clears 6 = .ok (.iconst 0, 1) := by decide +kernel
theorem dX10_clears_7 : decode cX10_clears 7 = .ok (.putfield 154, 3) := by decide +kernel
theorem dX10_clears_10 : decode cX10_clears 10 = .ok (.aload_n 0, 1) := by decide +kernel
theorem dX10_clears_11 : decode cX10_clears 11 = .ok (.iconst 0, 1) := by decide +kernel
theorem dX10_clears_12 : decode cX10_clears 12 = .ok (.putfield 157, 3) := by decide +kernel
theorem dX10_clears_15 : decode cX10_clears 15 = .ok (.return_, 1) := by decide +kernel
theorem dX10_sets_0 : decode cX10_sets 0 = .ok (.aload_n 0, 1) := by decide +kernel
theorem dX10_sets_1 : decode cX10_sets 1 = .ok (.aload_n 0, 1) := by decide +kernel
theorem dX10_sets_2 : decode cX10_sets 2 = .ok (.getfield 151, 3) := by decide +kernel
theorem dX10_sets_5 : decode cX10_sets 5 = .ok (.putfield 160, 3) := by decide +kernel
theorem dX10_sets_8 : decode cX10_sets 8 = .ok (.aload_n 0, 1) := by decide +kernel
theorem dX10_sets_9 : decode cX10_sets 9 = .ok (.aload_n 0, 1) := by decide +kernel
theorem dX10_sets_10 : decode cX10_sets 10 = .ok (.getfield 154, 3) := by decide +kernel
theorem dX10_sets_13 : decode cX10_sets 13 = .ok (.putfield 163, 3) := by decide +kernel
theorem dX10_sets_16 : decode cX10_sets 16 = .ok (.aload_n 0, 1) := by decide +kernel
theorem dX10_sets_17 : decode cX10_sets 17 = .ok (.aload_n 0, 1) := by decide +kernel
theorem dX10_sets_18 : decode cX10_sets 18 = .ok (.getfield 157, 3) := by decide +kernel
theorem dX10_sets_21 : decode cX10_sets 21 = .ok (.putfield 166, 3) := by decide +kernel
theorem dX10_sets_24 : decode cX10_sets 24 = .ok (.aload_n 0, 1) := by decide +kernel
theorem dX10_sets_25 : decode cX10_sets 25 = .ok (.aload_n 0, 1) := by decide +kernel
theorem dX10_sets_26 : decode cX10_sets 26 = .ok (.getfield 23, 3) := by decide +kernel
theorem dX10_sets_29 : decode cX10_sets 29 = .ok (.aload_n 0, 1) := by decide +kernel
theorem dX10_sets_30 : decode cX10_sets 30 = .ok (.getfield 32, 3) := by decide +kernel
theorem dX10_sets_33 : decode cX10_sets 33 = .ok (.bipush 6, 2) := by decide +kernel
theorem dX10_sets_35 : decode cX10_sets 35 = .ok (.invokevirtual 169, 3) := by decide +kernel
theorem dX10_sets_38 : decode cX10_sets 38 = .ok (.aload_n 0, 1) := by decide +kernel
theorem dX10_sets_39 : decode cX10_sets 39 = .ok (.aload_n 0, 1) := by decide +kernel
theorem dX10_sets_40 : decode cX10_sets 40 = .ok (.getfield 26, 3) := by decide +kernel
theorem dX10_sets_43 : decode cX10_sets 43 = .ok (.aload_n 0, 1) := by decide +kernel
theorem dX10_sets_44 : decode cX10_sets 44 = .ok (.getfield 35, 3) := by decide +kernel
theorem dX10_sets_47 : decode cX10_sets 47 = .ok (.bipush 60, 2) := by decide +kernel
theorem dX10_sets_49 : decode cX10_sets 49 = .ok (.invokevirtual 169, 3) := by decide +kernel
theorem dX10_sets_52 : decode cX10_sets 52 = .ok (.aload_n 0, 1) := by decide +kernel
theorem dX10_sets_53 : decode cX10_sets 53 = .ok (.aload_n 0, 1) := by decide +kernel
theorem dX10_sets_54 : decode cX10_sets 54 = .ok (.getfield 29, 3) := by decide +kernel
theorem dX10_sets_57 : decode cX10_sets 57 = .ok (.aload_n 0, 1) := by decide +kernel
theorem dX10_sets_58 : decode cX10_sets 58 = .ok (.getfield 38, 3) := by decide +kernel
theorem dX10_sets_61 : decode cX10_sets 61 = .ok (.iconst 5, 1) := by decide +kernel
theorem dX10_sets_62 : decode cX10_sets 62 = .ok (.invokevirtual 169, 3) := by decide +kernel
theorem dX10_sets_65 : decode cX10_sets 65 = .ok (.aload_n 0, 1) := by decide +kernel
theorem dX10_sets_66 : decode cX10_sets 66 = .ok (.iconst 0, 1) := by decide +kernel
theorem dX10_sets_67 : decode cX10_sets 67 = .ok (.putfield 173, 3) := by decide +kernel
theorem dX10_sets_70 : decode cX10_sets 70 = .ok (.aload_n 0, 1) := by decide +kernel
theorem dX10_sets_71 : decode cX10_sets 71 = .ok (.iconst 0, 1) := by decide +kernel
theorem dX10_sets_72 : decode cX10_sets 72 = .ok (.putfield 176, 3) := by decide +kernel
theorem dX10_sets_75 : decode cX10_sets 75 = .ok (.aload_n 0, 1) := by decide +kernel
theorem dX10_sets_76 : decode cX10_sets 76 = .ok (.iconst 0, 1) := by decide +kernel
theorem dX10_sets_77 : decode cX10_sets 77 = .ok (.putfield 179, 3) := by decide +kernel
theorem dX10_sets_80 : decode cX10_sets 80 = .ok (.aload_n 0, 1) := by decide +kernel
theorem dX10_sets_81 : decode cX10_sets 81 = .ok (.iconst 0, 1) := by decide +kernel
theorem dX10_sets_82 : decode cX10_sets 82 = .ok (.putfield 182, 3) := by decide +kernel
theorem dX10_sets_85 : decode cX10_sets 85 = .ok (.aload_n 0, 1) := by decide +kernel
theorem dX10_sets_86 : decode cX10_sets 86 = .ok (.iconst 0, 1) := by decide +kernel
theorem dX10_sets_87 : decode cX10_sets 87 = .ok (.putfield 185, 3) := by decide +kernel
theorem dX10_sets_90 : decode cX10_sets 90 = .ok (.iconst 0, 1) := by decide +kernel
theorem dX10_sets_91 : decode cX10_sets 91 = .ok (.istore_n 1, 1) := by decide +kernel
theorem dX10_sets_92 : decode cX10_sets 92 = .ok (.iload_n 1, 1) := by decide +kernel
theorem dX10_sets_93 : decode cX10_sets 93 = .ok (.bipush 6, 2) := by decide +kernel
theorem dX10_sets_95 : decode cX10_sets 95 = .ok (.if_icmp .ge 16, 3) := by decide +kernel
theorem dX10_sets_98 : decode cX10_sets 98 = .ok (.aload_n 0, 1) := by decide +kernel
theorem dX10_sets_99 : decode cX10_sets 99 = .ok (.getfield 77, 3) := by decide +kernel
theorem dX10_sets_102 : decode cX10_sets 102 = .ok (.iload_n 1, 1) := by decide +kernel
theorem dX10_sets_103 : decode cX10_sets 103 = .ok (.iconst (-1), 1) := by decide +kernel
theorem dX10_sets_104 : decode cX10_sets 104 = .ok (.iastore, 1) := by decide +kernel
theorem dX10_sets_105 : decode cX10_sets 105 = .ok (.iinc 1 1, 3) := by decide +kernel
theorem dX10_sets_108 : decode cX10_sets 108 = .ok (.goto (-16), 3) := by decide +kernel
theorem dX10_sets_111 : decode cX10_sets 111 = .ok (.iconst 0, 1) := by decide +kernel
theorem dX10_sets_112 : decode cX10_sets 112 = .ok (.istore_n 1, 1) := by decide +kernel
theorem dX10_sets_113 : decode cX10_sets 113 = .ok (.iload_n 1, 1) := by decide +kernel
theorem dX10_sets_114 : decode cX10_sets 114 = .ok (.sipush 165, 3) := by decide +kernel
theorem dX10_sets_117 : decode cX10_sets 117 = .ok (.if_icmp .ge 16, 3) := by decide +kernel
theorem dX10_sets_120 : decode cX10_sets 120 = .ok (.aload_n 0, 1) := by decide +kernel
theorem dX10_sets_121 : decode cX10_sets 121 = .ok (.getfield 65, 3) := by decide +kernel
theorem dX10_sets_124 : decode cX10_sets 124 = .ok (.iload_n 1, 1) := by decide +kernel
theorem dX10_sets_125 : decode cX10_sets 125 = .ok (.iconst 0, 1) := by decide +kernel
theorem dX10_sets_126 : decode cX10_sets 126 = .ok (.iastore, 1) := by decide +kernel
theorem dX10_sets_127 : decode cX10_sets 127 = .ok (.iinc 1 1, 3) := by decide +kernel
theorem dX10_sets_130 : decode cX10_sets 130 = .ok (.goto (-17), 3) := by decide +kernel
theorem dX10_sets_133 : decode cX10_sets 133 = .ok (.iconst 0, 1) := by decide +kernel
theorem dX10_sets_134 : decode cX10_sets 134 = .ok (.istore_n 1, 1) := by decide +kernel
theorem dX10_sets_135 : decode cX10_sets 135 = .ok (.iload_n 1, 1) := by decide +kernel
theorem dX10_sets_136 : decode cX10_sets 136 = .ok (.aload_n 0, 1) := by decide +kernel
theorem dX10_sets_137 : decode cX10_sets 137 = .ok (.getfield 166, 3) := by decide +kernel
theorem dX10_sets_140 : decode cX10_sets 140 = .ok (.if_icmp .ge 24, 3) := by decide +kernel
theorem dX10_sets_143 : decode cX10_sets 143 = .ok (.aload_n 0, 1) := by decide +kernel
theorem dX10_sets_144 : decode cX10_sets 144 = .ok (.getfield 65, 3) := by decide +kernel
theorem dX10_sets_147 : decode cX10_sets 147 = .ok (.bipush 90, 2) := by decide +kernel
theorem dX10_sets_149 : decode cX10_sets 149 = .ok (.iload_n 1, 1) := by decide +kernel
theorem dX10_sets_150 : decode cX10_sets 150 = .ok (.iadd, 1) := by decide +kernel
theorem dX10_sets_151 : decode cX10_sets 151 = .ok (.aload_n 0, 1) := by decide +kernel
theorem dX10_sets_152 : decode cX10_sets 152 = .ok (.getfield 38, 3) := by decide +kernel
theorem dX10_sets_155 : decode cX10_sets 155 = .ok (.iload_n 1, 1) := by decide +kernel
theorem dX10_sets_156 : decode cX10_sets 156 = .ok (.iaload, 1) := by decide +kernel
theorem dX10_sets_157 : decode cX10_sets 157 = .ok (.iastore, 1) := by decide +kernel
theorem dX10_sets_158 : decode cX10_sets 158 = .ok (.iinc 1 1, 3) := by decide +kernel
theorem dX10_sets_161 : decode cX10_sets 161 = .ok (.goto (-26), 3) := by decide +kernel
theorem dX10_sets_164 : decode cX10_sets 164 = .ok (.return_, 1) := by decide +kernel
theorem dX10_readBedTold_0 : decode cX10_readBedTold 0 = .ok (.aload_n 0, 1) := by decide +kernel
theorem dX10_readBedTold_1 : decode cX10_readBedTold 1 = .ok (.iconst 0, 1) := by decide +kernel
theorem dX10_readBedTold_2 : decode cX10_readBedTold 2 = .ok (.aload_n 0, 1) := by decide +kernel
theorem dX10_readBedTold_3 : decode cX10_readBedTold 3 = .ok (.getfield 151, 3) := by decide +kernel
theorem dX10_readBedTold_6 : decode cX10_readBedTold 6 = .ok (.iconst 1, 1) := by decide +kernel
theorem dX10_readBedTold_7 : decode cX10_readBedTold 7 = .ok (.isub, 1) := by decide +kernel
theorem dX10_readBedTold_8 : decode cX10_readBedTold 8 = .ok (.invokevirtual 188, 3) := by decide +kernel
theorem dX10_readBedTold_11 : decode cX10_readBedTold 11 = .ok (.ireturn, 1) := by decide +kernel
theorem dX10_readLetter_0 : decode cX10_readLetter 0 = .ok (.bipush 10, 2) := by decide +kernel
theorem dX10_readLetter_2 : decode cX10_readLetter 2 = .ok (.aload_n 0, 1) := by decide +kernel
theorem dX10_readLetter_3 : decode cX10_readLetter 3 = .ok (.getfield 154, 3) := by decide +kernel
theorem dX10_readLetter_6 : decode cX10_readLetter 6 = .ok (.imul, 1) := by decide +kernel
theorem dX10_readLetter_7 : decode cX10_readLetter 7 = .ok (.istore_n 1, 1) := by decide +kernel
theorem dX10_readLetter_8 : decode cX10_readLetter 8 = .ok (.aload_n 0, 1) := by decide +kernel
theorem dX10_readLetter_9 : decode cX10_readLetter 9 = .ok (.getfield 26, 3) := by decide +kernel
theorem dX10_readLetter_12 : decode cX10_readLetter 12 = .ok (.iload_n 1, 1) := by decide +kernel
theorem dX10_readLetter_13 : decode cX10_readLetter 13 = .ok (.aload_n 0, 1) := by decide +kernel
theorem dX10_readLetter_14 : decode cX10_readLetter 14 = .ok (.invokevirtual 192, 3) := by decide +kernel
theorem dX10_readLetter_17 : decode cX10_readLetter 17 = .ok (.iastore, 1) := by decide +kernel
theorem dX10_readLetter_18 : decode cX10_readLetter 18 = .ok (.iconst 0, 1) := by decide +kernel
theorem dX10_readLetter_19 : decode cX10_readLetter 19 = .ok (.istore_n 2, 1) := by decide +kernel
theorem dX10_readLetter_20 : decode cX10_readLetter 20 = .ok (.aload_n 0, 1) := by decide +kernel
theorem dX10_readLetter_21 : decode cX10_readLetter 21 = .ok (.invokevirtual 120, 3) := by decide +kernel
theorem dX10_readLetter_24 : decode cX10_readLetter 24 = .ok (.pop, 1) := by decide +kernel
theorem dX10_readLetter_25 : decode cX10_readLetter 25 = .ok (.aload_n 0, 1) := by decide +kernel
theorem dX10_readLetter_26 : decode cX10_readLetter 26 = .ok (.getfield 114, 3) := by decide +kernel
theorem dX10_readLetter_29 : decode cX10_readLetter 29 = .ok (.istore_n 3, 1) := by decide +kernel
theorem dX10_readLetter_30 : decode cX10_readLetter 30 = .ok (.aload_n 0, 1) := by decide +kernel
theorem dX10_readLetter_31 : decode cX10_readLetter 31 = .ok (.iconst 0, 1) := by decide +kernel
theorem dX10_readLetter_32 : decode cX10_readLetter 32 = .ok (.bipush 15, 2) := by decide +kernel
theorem dX10_readLetter_34 : decode cX10_readLetter 34 = .ok (.invokevirtual 188, 3) := by decide +kernel
theorem dX10_readLetter_37 : decode cX10_readLetter 37 = .ok (.istore 4, 2) := by decide +kernel
theorem dX10_readLetter_39 : decode cX10_readLetter 39 = .ok (.aload_n 0, 1) := by decide +kernel
theorem dX10_readLetter_40 : decode cX10_readLetter 40 = .ok (.invokevirtual 137, 3) := by decide +kernel
theorem dX10_readLetter_43 : decode cX10_readLetter 43 = .ok (.ifCond .eq 15, 3) := by decide +kernel
theorem dX10_readLetter_46 : decode cX10_readLetter 46 = .ok (.iload_n 2, 1) := by decide +kernel
theorem dX10_readLetter_47 : decode cX10_readLetter 47 = .ok (.bipush 8, 2) := by decide +kernel
theorem dX10_readLetter_49 : decode cX10_readLetter 49 = .ok (.if_icmp .ne 9, 3) := by decide +kernel
theorem dX10_readLetter_52 : decode cX10_readLetter 52 = .ok (.aload_n 0, 1) := by decide +kernel
theorem dX10_readLetter_53 : decode cX10_readLetter 53 = .ok (.iconst 3, 1) := by decide +kernel
theorem dX10_readLetter_54 : decode cX10_readLetter 54 = .ok (.iload_n 3, 1) := by decide +kernel
theorem dX10_readLetter_55 : decode cX10_readLetter 55 = .ok (.invokevirtual 144, 3) := by decide +kernel
theorem dX10_readLetter_58 : decode cX10_readLetter 58 = .ok (.aload_n 0, 1) := by decide +kernel
theorem dX10_readLetter_59 : decode cX10_readLetter 59 = .ok (.invokevirtual 137, 3) := by decide +kernel
theorem dX10_readLetter_62 : decode cX10_readLetter 62 = .ok (.ifCond .ne 4, 3) := by decide +kernel
theorem dX10_readLetter_65 : decode cX10_readLetter 65 = .ok (.return_, 1) := by decide +kernel
theorem dX10_readLetter_66 : decode cX10_readLetter 66 = .ok (.aload_n 0, 1) := by decide +kernel
theorem dX10_readLetter_67 : decode cX10_readLetter 67 = .ok (.getfield 26, 3) := by decide +kernel
theorem dX10_readLetter_70 : decode cX10_readLetter 70 = .ok (.iload_n 1, 1) := by decide +kernel
theorem dX10_readLetter_71 : decode cX10_readLetter 71 = .ok (.iconst 2, 1) := by decide +kernel
theorem dX10_readLetter_72 : decode cX10_readLetter 72 = .ok (.iadd, 1) := by decide +kernel
theorem dX10_readLetter_73 : decode cX10_readLetter 73 = .ok (.iload_n 2, 1) := by decide +kernel
theorem dX10_readLetter_74 : decode cX10_readLetter 74 = .ok (.iadd, 1) := by decide +kernel
theorem dX10_readLetter_75 : decode cX10_readLetter 75 = .ok (.iload 4, 2) := by decide +kernel
theorem dX10_readLetter_77 : decode cX10_readLetter 77 = .ok (.iastore, 1) := by decide +kernel
theorem dX10_readLetter_78 : decode cX10_readLetter 78 = .ok (.iinc 2 1, 3) := by decide +kernel
theorem dX10_readLetter_81 : decode cX10_readLetter 81 = .ok (.aload_n 0, 1) := by decide +kernel
theorem dX10_readLetter_82 : decode cX10_readLetter 82 = .ok (.invokevirtual 120, 3) := by decide +kernel
theorem dX10_readLetter_85 : decode cX10_readLetter 85 = .ok (.bipush 59, 2) := by decide +kernel
theorem dX10_readLetter_87 : decode cX10_readLetter 87 = .ok (.if_icmp .ne (-67), 3) := by decide +kernel
theorem dX10_readLetter_90 : decode cX10_readLetter 90 = .ok (.aload_n 0, 1) := by decide +kernel
theorem dX10_readLetter_91 : decode cX10_readLetter 91 = .ok (.getfield 26, 3) := by decide +kernel
theorem dX10_readLetter_94 : decode cX10_readLetter 94 = .ok (.iload_n 1, 1) := by decide +kernel
theorem dX10_readLetter_95 : decode cX10_readLetter 95 = .ok (.iconst 1, 1) := by decide +kernel
theorem dX10_readLetter_96 : decode cX10_readLetter 96 = .ok (.iadd, 1) := by decide +kernel
theorem dX10_readLetter_97 : decode cX10_readLetter 97 = .ok (.iload_n 2, 1) := by decide +kernel
theorem dX10_readLetter_98 : decode cX10_readLetter 98 = .ok (.iastore, 1) := by decide +kernel
theorem dX10_readLetter_99 : decode cX10_readLetter 99 = .ok (.aload_n 0, 1) := by decide +kernel
theorem dX10_readLetter_100 : decode cX10_readLetter 100 = .ok (.dup, 1) := by decide +kernel
theorem dX10_readLetter_101 : decode cX10_readLetter 101 = .ok (.getfield 154, 3) := by decide +kernel
theorem dX10_readLetter_104 : decode cX10_readLetter 104 = .ok (.iconst 1, 1) := by decide +kernel
theorem dX10_readLetter_105 : decode cX10_readLetter 105 = .ok (.iadd, 1) := by decide +kernel
theorem dX10_readLetter_106 : decode cX10_readLetter 106 = .ok (.putfield 154, 3) := by decide +kernel
theorem dX10_readLetter_109 : decode cX10_readLetter 109 = .ok (.return_, 1) := by decide +kernel
theorem dX10_isRow_0 : decode cX10_isRow 0 = .ok (.iload_n 0, 1) := by decide +kernel
theorem dX10_isRow_1 : decode cX10_isRow 1 = .ok (.ldc 195, 2) := by decide +kernel
theorem dX10_isRow_3 : decode cX10_isRow 3 = .ok (.invokestatic 196, 3) := by decide +kernel
theorem dX10_isRow_6 : decode cX10_isRow 6 = .ok (.if_icmp .eq 21, 3) := by decide +kernel
theorem dX10_isRow_9 : decode cX10_isRow 9 = .ok (.iload_n 0, 1) := by decide +kernel
theorem dX10_isRow_10 : decode cX10_isRow 10 = .ok (.ldc 200, 2) := by decide +kernel
theorem dX10_isRow_12 : decode cX10_isRow 12 = .ok (.invokestatic 196, 3) := by decide +kernel
theorem dX10_isRow_15 : decode cX10_isRow 15 = .ok (.if_icmp .eq 12, 3) := by decide +kernel
theorem dX10_isRow_18 : decode cX10_isRow 18 = .ok (.iload_n 0, 1) := by decide +kernel
theorem dX10_isRow_19 : decode cX10_isRow 19 = .ok (.ldc 201, 2) := by decide +kernel
theorem dX10_isRow_21 : decode cX10_isRow 21 = .ok (.invokestatic 196, 3) := by decide +kernel
theorem dX10_isRow_24 : decode cX10_isRow 24 = .ok (.if_icmp .ne 7, 3) := by decide +kernel
theorem dX10_isRow_27 : decode cX10_isRow 27 = .ok (.iconst 1, 1) := by decide +kernel
theorem dX10_isRow_28 : decode cX10_isRow 28 = .ok (.goto 4, 3) := by decide +kernel
theorem dX10_isRow_31 : decode cX10_isRow 31 = .ok (.iconst 0, 1) := by decide +kernel
theorem dX10_isRow_32 : decode cX10_isRow 32 = .ok (.ireturn, 1) := by decide +kernel
theorem dX10_isFull_0 : decode cX10_isFull 0 = .ok (.iload_n 1, 1) := by decide +kernel
theorem dX10_isFull_1 : decode cX10_isFull 1 = .ok (.ldc 195, 2) := by decide +kernel
theorem dX10_isFull_3 : decode cX10_isFull 3 = .ok (.invokestatic 196, 3) := by decide +kernel
theorem dX10_isFull_6 : decode cX10_isFull 6 = .ok (.if_icmp .ne 20, 3) := by decide +kernel
theorem dX10_isFull_9 : decode cX10_isFull 9 = .ok (.aload_n 0, 1) := by decide +kernel
theorem dX10_isFull_10 : decode cX10_isFull 10 = .ok (.getfield 151, 3) := by decide +kernel
theorem dX10_isFull_13 : decode cX10_isFull 13 = .ok (.bipush 6, 2) := by decide +kernel
theorem dX10_isFull_15 : decode cX10_isFull 15 = .ok (.if_icmp .ne 7, 3) := by decide +kernel
theorem dX10_isFull_18 : decode cX10_isFull 18 = .ok (.iconst 1, 1) := by decide +kernel
theorem dX10_isFull_19 : decode cX10_isFull 19 = .ok (.goto 46, 3) := by decide +kernel
theorem dX10_isFull_22 : decode cX10_isFull 22 = .ok (.iconst 0, 1) := by decide +kernel
theorem dX10_isFull_23 : decode cX10_isFull 23 = .ok (.goto 42, 3) := by decide +kernel
theorem dX10_isFull_26 : decode cX10_isFull 26 = .ok (.iload_n 1, 1) := by decide +kernel
theorem dX10_isFull_27 : decode cX10_isFull 27 = .ok (.ldc 200, 2) := by decide +kernel
theorem dX10_isFull_29 : decode cX10_isFull 29 = .ok (.invokestatic 196, 3) := by decide +kernel
theorem dX10_isFull_32 : decode cX10_isFull 32 = .ok (.if_icmp .ne 20, 3) := by decide +kernel
theorem dX10_isFull_35 : decode cX10_isFull 35 = .ok (.aload_n 0, 1) := by decide +kernel
theorem dX10_isFull_36 : decode cX10_isFull 36 = .ok (.getfield 154, 3) := by decide +kernel
theorem dX10_isFull_39 : decode cX10_isFull 39 = .ok (.bipush 6, 2) := by decide +kernel
theorem dX10_isFull_41 : decode cX10_isFull 41 = .ok (.if_icmp .ne 7, 3) := by decide +kernel
theorem dX10_isFull_44 : decode cX10_isFull 44 = .ok (.iconst 1, 1) := by decide +kernel
theorem dX10_isFull_45 : decode cX10_isFull 45 = .ok (.goto 20, 3) := by decide +kernel
theorem dX10_isFull_48 : decode cX10_isFull 48 = .ok (.iconst 0, 1) := by decide +kernel
theorem dX10_isFull_49 : decode cX10_isFull 49 = .ok (.goto 16, 3) := by decide +kernel
theorem dX10_isFull_52 : decode cX10_isFull 52 = .ok (.aload_n 0, 1) := by decide +kernel
theorem dX10_isFull_53 : decode cX10_isFull 53 = .ok (.getfield 157, 3) := by decide +kernel
theorem dX10_isFull_56 : decode cX10_isFull 56 = .ok (.iconst 5, 1) := by decide +kernel
theorem dX10_isFull_57 : decode cX10_isFull 57 = .ok (.if_icmp .ne 7, 3) := by decide +kernel
theorem dX10_isFull_60 : decode cX10_isFull 60 = .ok (.iconst 1, 1) := by decide +kernel
theorem dX10_isFull_61 : decode cX10_isFull 61 = .ok (.goto 4, 3) := by decide +kernel
theorem dX10_isFull_64 : decode cX10_isFull 64 = .ok (.iconst 0, 1) := by decide +kernel
theorem dX10_isFull_65 : decode cX10_isFull 65 = .ok (.ireturn, 1) := by decide +kernel
theorem dX10_readRow_0 : decode cX10_readRow 0 = .ok (.iload_n 1, 1) := by decide +kernel
theorem dX10_readRow_1 : decode cX10_readRow 1 = .ok (.ldc 195, 2) := by decide +kernel
theorem dX10_readRow_3 : decode cX10_readRow 3 = .ok (.invokestatic 196, 3) := by decide +kernel
theorem dX10_readRow_6 : decode cX10_readRow 6 = .ok (.if_icmp .ne 32, 3) := by decide +kernel
theorem dX10_readRow_9 : decode cX10_readRow 9 = .ok (.aload_n 0, 1) := by decide +kernel
theorem dX10_readRow_10 : decode cX10_readRow 10 = .ok (.getfield 23, 3) := by decide +kernel
theorem dX10_readRow_13 : decode cX10_readRow 13 = .ok (.aload_n 0, 1) := by decide +kernel
theorem dX10_readRow_14 : decode cX10_readRow 14 = .ok (.getfield 151, 3) := by decide +kernel
theorem dX10_readRow_17 : decode cX10_readRow 17 = .ok (.aload_n 0, 1) := by decide +kernel
theorem dX10_readRow_18 : decode cX10_readRow 18 = .ok (.iconst 0, 1) := by decide +kernel
theorem dX10_readRow_19 : decode cX10_readRow 19 = .ok (.bipush 30, 2) := by decide +kernel
theorem dX10_readRow_21 : decode cX10_readRow 21 = .ok (.invokevirtual 188, 3) := by decide +kernel
theorem dX10_readRow_24 : decode cX10_readRow 24 = .ok (.iastore, 1) := by decide +kernel
theorem dX10_readRow_25 : decode cX10_readRow 25 = .ok (.aload_n 0, 1) := by decide +kernel
theorem dX10_readRow_26 : decode cX10_readRow 26 = .ok (.dup, 1) := by decide +kernel
theorem dX10_readRow_27 : decode cX10_readRow 27 = .ok (.getfield 151, 3) := by decide +kernel
theorem dX10_readRow_30 : decode cX10_readRow 30 = .ok (.iconst 1, 1) := by decide +kernel
theorem dX10_readRow_31 : decode cX10_readRow 31 = .ok (.iadd, 1) := by decide +kernel
theorem dX10_readRow_32 : decode cX10_readRow 32 = .ok (.putfield 151, 3) := by decide +kernel
theorem dX10_readRow_35 : decode cX10_readRow 35 = .ok (.goto 42, 3) := by decide +kernel
theorem dX10_readRow_38 : decode cX10_readRow 38 = .ok (.iload_n 1, 1) := by decide +kernel
theorem dX10_readRow_39 : decode cX10_readRow 39 = .ok (.ldc 200, 2) := by decide +kernel
theorem dX10_readRow_41 : decode cX10_readRow 41 = .ok (.invokestatic 196, 3) := by decide +kernel
theorem dX10_readRow_44 : decode cX10_readRow 44 = .ok (.if_icmp .ne 10, 3) := by decide +kernel
theorem dX10_readRow_47 : decode cX10_readRow 47 = .ok (.aload_n 0, 1) := by decide +kernel
theorem dX10_readRow_48 : decode cX10_readRow 48 = .ok (.invokevirtual 202, 3) := by decide +kernel
theorem dX10_readRow_51 : decode cX10_readRow 51 = .ok (.goto 26, 3) := by decide +kernel
theorem dX10_readRow_54 : decode cX10_readRow 54 = .ok (.aload_n 0, 1) := by decide +kernel
theorem dX10_readRow_55 : decode cX10_readRow 55 = .ok (.getfield 29, 3) := by decide +kernel
theorem dX10_readRow_58 : decode cX10_readRow 58 = .ok (.aload_n 0, 1) := by decide +kernel
theorem dX10_readRow_59 : decode cX10_readRow 59 = .ok (.getfield 157, 3) := by decide +kernel
theorem dX10_readRow_62 : decode cX10_readRow 62 = .ok (.aload_n 0, 1) := by decide +kernel
theorem dX10_readRow_63 : decode cX10_readRow 63 = .ok (.invokevirtual 192, 3) := by decide +kernel
theorem dX10_readRow_66 : decode cX10_readRow 66 = .ok (.iastore, 1) := by decide +kernel
theorem dX10_readRow_67 : decode cX10_readRow 67 = .ok (.aload_n 0, 1) := by decide +kernel
theorem dX10_readRow_68 : decode cX10_readRow 68 = .ok (.dup, 1) := by decide +kernel
theorem dX10_readRow_69 : decode cX10_readRow 69 = .ok (.getfield 157, 3) := by decide +kernel
theorem dX10_readRow_72 : decode cX10_readRow 72 = .ok (.iconst 1, 1) := by decide +kernel
theorem dX10_readRow_73 : decode cX10_readRow 73 = .ok (.iadd, 1) := by decide +kernel
theorem dX10_readRow_74 : decode cX10_readRow 74 = .ok (.putfield 157, 3) := by decide +kernel
theorem dX10_readRow_77 : decode cX10_readRow 77 = .ok (.return_, 1) := by decide +kernel
theorem dX10_garden_0 : decode cX10_garden 0 = .ok (.aload_n 0, 1) := by decide +kernel
theorem dX10_garden_1 : decode cX10_garden 1 = .ok (.iconst 0, 1) := by decide +kernel
theorem dX10_garden_2 : decode cX10_garden 2 = .ok (.putfield 3, 3) := by decide +kernel
theorem dX10_garden_5 : decode cX10_garden 5 = .ok (.aload_n 0, 1) := by decide +kernel
theorem dX10_garden_6 : decode cX10_garden 6 = .ok (.iload_n 1, 1) := by decide +kernel
theorem dX10_garden_7 : decode cX10_garden 7 = .ok (.ifCond .lt 15, 3) := by decide +kernel
theorem dX10_garden_10 : decode cX10_garden 10 = .ok (.iload_n 1, 1) := by decide +kernel
theorem dX10_garden_11 : decode cX10_garden 11 = .ok (.aload_n 0, 1) := by decide +kernel
theorem dX10_garden_12 : decode cX10_garden 12 = .ok (.getfield 105, 3) := by decide +kernel
theorem dX10_garden_15 : decode cX10_garden 15 = .ok (.if_icmp .gt 7, 3) := by decide +kernel
theorem dX10_garden_18 : decode cX10_garden 18 = .ok (.iconst 1, 1) := by decide +kernel
theorem dX10_garden_19 : decode cX10_garden 19 = .ok (.goto 4, 3) := by decide +kernel
theorem dX10_garden_22 : decode cX10_garden 22 = .ok (.iconst 0, 1) := by decide +kernel
theorem dX10_garden_23 : decode cX10_garden 23 = .ok (.iconst 1, 1) := by decide +kernel
theorem dX10_garden_24 : decode cX10_garden 24 = .ok (.iconst 1, 1) := by decide +kernel
theorem dX10_garden_25 : decode cX10_garden 25 = .ok (.invokevirtual 205, 3) := by decide +kernel
theorem dX10_garden_28 : decode cX10_garden 28 = .ok (.ifCond .ne 5, 3) := by decide +kernel
theorem dX10_garden_31 : decode cX10_garden 31 = .ok (.iconst 0, 1) := by decide +kernel
theorem dX10_garden_32 : decode cX10_garden 32 = .ok (.ireturn, 1) := by decide +kernel
theorem dX10_garden_33 : decode cX10_garden 33 = .ok (.aload_n 0, 1) := by decide +kernel
theorem dX10_garden_34 : decode cX10_garden 34 = .ok (.iload_n 1, 1) := by decide +kernel
theorem dX10_garden_35 : decode cX10_garden 35 = .ok (.invokevirtual 209, 3) := by decide +kernel
theorem dX10_garden_38 : decode cX10_garden 38 = .ok (.aload_n 0, 1) := by decide +kernel
theorem dX10_garden_39 : decode cX10_garden 39 = .ok (.invokevirtual 99, 3) := by decide +kernel
theorem dX10_garden_42 : decode cX10_garden 42 = .ok (.iconst 0, 1) := by decide +kernel
theorem dX10_garden_43 : decode cX10_garden 43 = .ok (.istore_n 2, 1) := by decide +kernel
theorem dX10_garden_44 : decode cX10_garden 44 = .ok (.aload_n 0, 1) := by decide +kernel
theorem dX10_garden_45 : decode cX10_garden 45 = .ok (.invokevirtual 137, 3) := by decide +kernel
theorem dX10_garden_48 : decode cX10_garden 48 = .ok (.ifCond .eq 88, 3) := by decide +kernel
theorem dX10_garden_51 : decode cX10_garden 51 = .ok (.aload_n 0, 1) := by decide +kernel
theorem dX10_garden_52 : decode cX10_garden 52 = .ok (.invokevirtual 213, 3) := by decide +kernel
theorem dX10_garden_55 : decode cX10_garden 55 = .ok (.ifCond .eq 81, 3) := by decide +kernel
theorem dX10_garden_58 : decode cX10_garden 58 = .ok (.aload_n 0, 1) := by decide +kernel
theorem dX10_garden_59 : decode cX10_garden 59 = .ok (.invokevirtual 216, 3) := by decide +kernel
theorem dX10_garden_62 : decode cX10_garden 62 = .ok (.istore_n 3, 1) := by decide +kernel
theorem dX10_garden_63 : decode cX10_garden 63 = .ok (.iload_n 3, 1) := by decide +kernel
theorem dX10_garden_64 : decode cX10_garden 64 = .ok (.invokestatic 219, 3) := by decide +kernel
theorem dX10_garden_67 : decode cX10_garden 67 = .ok (.ifCond .ne 15, 3) := by decide +kernel
theorem dX10_garden_70 : decode cX10_garden 70 = .ok (.aload_n 0, 1) := by decide +kernel
theorem dX10_garden_71 : decode cX10_garden 71 = .ok (.iconst 1, 1) := by decide +kernel
theorem dX10_garden_72 : decode cX10_garden 72 = .ok (.aload_n 0, 1) := by decide +kernel
theorem dX10_garden_73 : decode cX10_garden 73 = .ok (.getfield 114, 3) := by decide +kernel
theorem dX10_garden_76 : decode cX10_garden 76 = .ok (.invokevirtual 144, 3) := by decide +kernel
theorem dX10_garden_79 : decode cX10_garden 79 = .ok (.goto 26, 3) := by decide +kernel
theorem dX10_garden_82 : decode cX10_garden 82 = .ok (.iload_n 2, 1) := by decide +kernel
theorem dX10_garden_83 : decode cX10_garden 83 = .ok (.bipush 60, 2) := by decide +kernel
theorem dX10_garden_85 : decode cX10_garden 85 = .ok (.if_icmp .eq 11, 3) := by decide +kernel
theorem dX10_garden_88 : decode cX10_garden 88 = .ok (.aload_n 0, 1) := by decide +kernel
theorem dX10_garden_89 : decode cX10_garden 89 = .ok (.iload_n 3, 1) := by decide +kernel
theorem dX10_garden_90 : decode cX10_garden 90 = .ok (.invokevirtual 222, 3) := by decide +kernel
theorem dX10_garden_93 : decode cX10_garden 93 = .ok (.ifCond .eq 12, 3) := by decide +kernel
theorem dX10_garden_96 : decode cX10_garden 96 = .ok (.aload_n 0, 1) := by decide +kernel
theorem dX10_garden_97 : decode cX10_garden 97 = .ok (.iconst 3, 1) := by decide +kernel
theorem dX10_garden_98 : decode cX10_garden 98 = .ok (.aload_n 0, 1) := by decide +kernel
theorem dX10_garden_99 : decode cX10_garden 99 = .ok (.getfield 114, 3) := by decide +kernel
theorem dX10_garden_102 : decode cX10_garden 102 = .ok (.invokevirtual 144, 3) := by decide +kernel
theorem dX10_garden_105 : decode cX10_garden 105 = .ok (.aload_n 0, 1) := by decide +kernel
theorem dX10_garden_106 : decode cX10_garden 106 = .ok (.invokevirtual 137, 3) := by decide +kernel
theorem dX10_garden_109 : decode cX10_garden 109 = .ok (.ifCond .ne 6, 3) := by decide +kernel
theorem dX10_garden_112 : decode cX10_garden 112 = .ok (.goto 24, 3) := by decide +kernel
theorem dX10_garden_115 : decode cX10_garden 115 = .ok (.aload_n 0, 1) := by decide +kernel
theorem dX10_garden_116 : decode cX10_garden 116 = .ok (.invokevirtual 225, 3) := by decide +kernel
theorem dX10_garden_119 : decode cX10_garden 119 = .ok (.aload_n 0, 1) := by decide +kernel
theorem dX10_garden_120 : decode cX10_garden 120 = .ok (.iload_n 3, 1) := by decide +kernel
theorem dX10_garden_121 : decode cX10_garden 121 = .ok (.invokevirtual 228, 3) := by decide +kernel
theorem dX10_garden_124 : decode cX10_garden 124 = .ok (.aload_n 0, 1) := by decide +kernel
theorem dX10_garden_125 : decode cX10_garden 125 = .ok (.bipush 59, 2) := by decide +kernel
theorem dX10_garden_127 : decode cX10_garden 127 = .ok (.invokevirtual 231, 3) := by decide +kernel
theorem dX10_garden_130 : decode cX10_garden 130 = .ok (.iinc 2 1, 3) := by decide +kernel
theorem dX10_garden_133 : decode cX10_garden 133 = .ok (.goto (-89), 3) := by decide +kernel
theorem dX10_garden_136 : decode cX10_garden 136 = .ok (.aload_n 0, 1) := by decide +kernel
theorem dX10_garden_137 : decode cX10_garden 137 = .ok (.aload_n 0, 1) := by decide +kernel
theorem dX10_garden_138 : decode cX10_garden 138 = .ok (.getfield 154, 3) := by decide +kernel
theorem dX10_garden_141 : decode cX10_garden 141 = .ok (.invokevirtual 234, 3) := by decide +kernel
theorem dX10_garden_144 : decode cX10_garden 144 = .ok (.istore_n 3, 1) := by decide +kernel
theorem dX10_garden_145 : decode cX10_garden 145 = .ok (.aload_n 0, 1) := by decide +kernel
theorem dX10_garden_146 : decode cX10_garden 146 = .ok (.getfield 108, 3) := by decide +kernel
theorem dX10_garden_149 : decode cX10_garden 149 = .ok (.iconst (-1), 1) := by decide +kernel
theorem dX10_garden_150 : decode cX10_garden 150 = .ok (.if_icmp .ne 7, 3) := by decide +kernel
theorem dX10_garden_153 : decode cX10_garden 153 = .ok (.aload_n 0, 1) := by decide +kernel
theorem dX10_garden_154 : decode cX10_garden 154 = .ok (.invokevirtual 102, 3) := by decide +kernel
theorem dX10_garden_157 : decode cX10_garden 157 = .ok (.iload_n 3, 1) := by decide +kernel
theorem dX10_garden_158 : decode cX10_garden 158 = .ok (.ireturn, 1) := by decide +kernel
theorem dX10_emit_0 : decode cX10_emit 0 = .ok (.aload_n 0, 1) := by decide +kernel
theorem dX10_emit_1 : decode cX10_emit 1 = .ok (.invokevirtual 137, 3) := by decide +kernel
theorem dX10_emit_4 : decode cX10_emit 4 = .ok (.ifCond .ne 4, 3) := by decide +kernel
theorem dX10_emit_7 : decode cX10_emit 7 = .ok (.return_, 1) := by decide +kernel
theorem dX10_emit_8 : decode cX10_emit 8 = .ok (.aload_n 0, 1) := by decide +kernel
theorem dX10_emit_9 : decode cX10_emit 9 = .ok (.getfield 41, 3) := by decide +kernel
theorem dX10_emit_12 : decode cX10_emit 12 = .ok (.aload_n 0, 1) := by decide +kernel
theorem dX10_emit_13 : decode cX10_emit 13 = .ok (.getfield 238, 3) := by decide +kernel
theorem dX10_emit_16 : decode cX10_emit 16 = .ok (.iload_n 1, 1) := by decide +kernel
theorem dX10_emit_17 : decode cX10_emit 17 = .ok (.iastore, 1) := by decide +kernel
theorem dX10_emit_18 : decode cX10_emit 18 = .ok (.aload_n 0, 1) := by decide +kernel
theorem dX10_emit_19 : decode cX10_emit 19 = .ok (.getfield 44, 3) := by decide +kernel
theorem dX10_emit_22 : decode cX10_emit 22 = .ok (.aload_n 0, 1) := by decide +kernel
theorem dX10_emit_23 : decode cX10_emit 23 = .ok (.getfield 238, 3) := by decide +kernel
theorem dX10_emit_26 : decode cX10_emit 26 = .ok (.iload_n 2, 1) := by decide +kernel
theorem dX10_emit_27 : decode cX10_emit 27 = .ok (.iastore, 1) := by decide +kernel
theorem dX10_emit_28 : decode cX10_emit 28 = .ok (.aload_n 0, 1) := by decide +kernel
theorem dX10_emit_29 : decode cX10_emit 29 = .ok (.dup, 1) := by decide +kernel
theorem dX10_emit_30 : decode cX10_emit 30 = .ok (.getfield 238, 3) := by decide +kernel
theorem dX10_emit_33 : decode cX10_emit 33 = .ok (.iconst 1, 1) := by decide +kernel
theorem dX10_emit_34 : decode cX10_emit 34 = .ok (.iadd, 1) := by decide +kernel
theorem dX10_emit_35 : decode cX10_emit 35 = .ok (.putfield 238, 3) := by decide +kernel
theorem dX10_emit_38 : decode cX10_emit 38 = .ok (.return_, 1) := by decide +kernel
theorem dX10_opensOne_0 : decode cX10_opensOne 0 = .ok (.aload_n 0, 1) := by decide +kernel
theorem dX10_opensOne_1 : decode cX10_opensOne 1 = .ok (.invokevirtual 137, 3) := by decide +kernel
theorem dX10_opensOne_4 : decode cX10_opensOne 4 = .ok (.ifCond .eq 21, 3) := by decide +kernel
theorem dX10_opensOne_7 : decode cX10_opensOne 7 = .ok (.aload_n 0, 1) := by decide +kernel
theorem dX10_opensOne_8 : decode cX10_opensOne 8 = .ok (.getfield 148, 3) := by decide +kernel
theorem dX10_opensOne_11 : decode cX10_opensOne 11 = .ok (.bipush 6, 2) := by decide +kernel
theorem dX10_opensOne_13 : decode cX10_opensOne 13 = .ok (.if_icmp .ne 12, 3) := by decide +kernel
theorem dX10_opensOne_16 : decode cX10_opensOne 16 = .ok (.aload_n 0, 1) := by decide +kernel
theorem dX10_opensOne_17 : decode cX10_opensOne 17 = .ok (.iconst 3, 1) := by decide +kernel
theorem dX10_opensOne_18 : decode cX10_opensOne 18 = .ok (.aload_n 0, 1) := by decide +kernel
theorem dX10_opensOne_19 : decode cX10_opensOne 19 = .ok (.getfield 114, 3) := by decide +kernel
theorem dX10_opensOne_22 : decode cX10_opensOne 22 = .ok (.invokevirtual 144, 3) := by decide +kernel
theorem dX10_opensOne_25 : decode cX10_opensOne 25 = .ok (.aload_n 0, 1) := by decide +kernel
theorem dX10_opensOne_26 : decode cX10_opensOne 26 = .ok (.invokevirtual 137, 3) := by decide +kernel
theorem dX10_opensOne_29 : decode cX10_opensOne 29 = .ok (.ifCond .eq 13, 3) := by decide +kernel
theorem dX10_opensOne_32 : decode cX10_opensOne 32 = .ok (.aload_n 0, 1) := by decide +kernel
theorem dX10_opensOne_33 : decode cX10_opensOne 33 = .ok (.dup, 1) := by decide +kernel
theorem dX10_opensOne_34 : decode cX10_opensOne 34 = .ok (.getfield 114, 3) := by decide +kernel
theorem dX10_opensOne_37 : decode cX10_opensOne 37 = .ok (.iload_n 1, 1) := by decide +kernel
theorem dX10_opensOne_38 : decode cX10_opensOne 38 = .ok (.iadd, 1) := by decide +kernel
theorem dX10_opensOne_39 : decode cX10_opensOne 39 = .ok (.putfield 114, 3) := by decide +kernel
theorem dX10_opensOne_42 : decode cX10_opensOne 42 = .ok (.aload_n 0, 1) := by decide +kernel
theorem dX10_opensOne_43 : decode cX10_opensOne 43 = .ok (.dup, 1) := by decide +kernel
theorem dX10_opensOne_44 : decode cX10_opensOne 44 = .ok (.getfield 148, 3) := by decide +kernel
theorem dX10_opensOne_47 : decode cX10_opensOne 47 = .ok (.iconst 1, 1) := by decide +kernel
theorem dX10_opensOne_48 : decode cX10_opensOne 48 = .ok (.iadd, 1) := by decide +kernel
theorem dX10_opensOne_49 : decode cX10_opensOne 49 = .ok (.putfield 148, 3) := by decide +kernel
theorem dX10_opensOne_52 : decode cX10_opensOne 52 = .ok (.return_, 1) := by decide +kernel
theorem dX10_readSum_0 : decode cX10_readSum 0 = .ok (.aload_n 0, 1) := by decide +kernel
theorem dX10_readSum_1 : decode cX10_readSum 1 = .ok (.invokevirtual 241, 3) := by decide +kernel
theorem dX10_readSum_4 : decode cX10_readSum 4 = .ok (.aload_n 0, 1) := by decide +kernel
theorem dX10_readSum_5 : decode cX10_readSum 5 = .ok (.invokevirtual 137, 3) := by decide +kernel
theorem dX10_readSum_8 : decode cX10_readSum 8 = .ok (.ifCond .eq 59, 3) := by decide +kernel
theorem dX10_readSum_11 : decode cX10_readSum 11 = .ok (.aload_n 0, 1) := by decide +kernel
theorem dX10_readSum_12 : decode cX10_readSum 12 = .ok (.invokevirtual 120, 3) := by decide +kernel
theorem dX10_readSum_15 : decode cX10_readSum 15 = .ok (.bipush 43, 2) := by decide +kernel
theorem dX10_readSum_17 : decode cX10_readSum 17 = .ok (.if_icmp .eq 12, 3) := by decide +kernel
theorem dX10_readSum_20 : decode cX10_readSum 20 = .ok (.aload_n 0, 1) := by decide +kernel
theorem dX10_readSum_21 : decode cX10_readSum 21 = .ok (.invokevirtual 120, 3) := by decide +kernel
theorem dX10_readSum_24 : decode cX10_readSum 24 = .ok (.bipush 45, 2) := by decide +kernel
theorem dX10_readSum_26 : decode cX10_readSum 26 = .ok (.if_icmp .ne 41, 3) := by decide +kernel
theorem dX10_readSum_29 : decode cX10_readSum 29 = .ok (.aload_n 0, 1) := by decide +kernel
theorem dX10_readSum_30 : decode cX10_readSum 30 = .ok (.invokevirtual 120, 3) := by decide +kernel
theorem dX10_readSum_33 : decode cX10_readSum 33 = .ok (.bipush 43, 2) := by decide +kernel
theorem dX10_readSum_35 : decode cX10_readSum 35 = .ok (.if_icmp .ne 7, 3) := by decide +kernel
theorem dX10_readSum_38 : decode cX10_readSum 38 = .ok (.iconst 2, 1) := by decide +kernel
theorem dX10_readSum_39 : decode cX10_readSum 39 = .ok (.goto 4, 3) := by decide +kernel
theorem dX10_readSum_42 : decode cX10_readSum 42 = .ok (.iconst 3, 1) := by decide +kernel
theorem dX10_readSum_43 : decode cX10_readSum 43 = .ok (.istore_n 1, 1) := by decide +kernel
theorem dX10_readSum_44 : decode cX10_readSum 44 = .ok (.aload_n 0, 1) := by decide +kernel
theorem dX10_readSum_45 : decode cX10_readSum 45 = .ok (.dup, 1) := by decide +kernel
theorem dX10_readSum_46 : decode cX10_readSum 46 = .ok (.getfield 114, 3) := by decide +kernel
theorem dX10_readSum_49 : decode cX10_readSum 49 = .ok (.iconst 1, 1) := by decide +kernel
theorem dX10_readSum_50 : decode cX10_readSum 50 = .ok (.iadd, 1) := by decide +kernel
theorem dX10_readSum_51 : decode cX10_readSum 51 = .ok (.putfield 114, 3) := by decide +kernel
theorem dX10_readSum_54 : decode cX10_readSum 54 = .ok (.aload_n 0, 1) := by decide +kernel
theorem dX10_readSum_55 : decode cX10_readSum 55 = .ok (.invokevirtual 241, 3) := by decide +kernel
theorem dX10_readSum_58 : decode cX10_readSum 58 = .ok (.aload_n 0, 1) := by decide +kernel
theorem dX10_readSum_59 : decode cX10_readSum 59 = .ok (.iload_n 1, 1) := by decide +kernel
theorem dX10_readSum_60 : decode cX10_readSum 60 = .ok (.iconst 0, 1) := by decide +kernel
theorem dX10_readSum_61 : decode cX10_readSum 61 = .ok (.invokevirtual 244, 3) := by decide +kernel
theorem dX10_readSum_64 : decode cX10_readSum 64 = .ok (.goto (-60), 3) := by decide +kernel
theorem dX10_readSum_67 : decode cX10_readSum 67 = .ok (.return_, 1) := by decide +kernel
theorem dX10_readProduct_0 : decode cX10_readProduct 0 = .ok (.aload_n 0, 1) := by decide +kernel
theorem dX10_readProduct_1 : decode cX10_readProduct 1 = .ok (.invokevirtual 247, 3) := by decide +kernel
theorem dX10_readProduct_4 : decode cX10_readProduct 4 = .ok (.aload_n 0, 1) := by decide +kernel
theorem dX10_readProduct_5 : decode cX10_readProduct 5 = .ok (.invokevirtual 137, 3) := by decide +kernel
theorem dX10_readProduct_8 : decode cX10_readProduct 8 = .ok (.ifCond .eq 82, 3) := by decide +kernel
theorem dX10_readProduct_11 : decode cX10_readProduct 11 = .ok (.aload_n 0, 1) := by decide +kernel
theorem dX10_readProduct_12 : decode cX10_readProduct 12 = .ok (.invokevirtual 120, 3) := by decide +kernel
theorem dX10_readProduct_15 : decode cX10_readProduct 15 = .ok (.bipush 42, 2) := by decide +kernel
theorem dX10_readProduct_17 : decode cX10_readProduct 17 = .ok (.if_icmp .eq 21, 3) := by decide +kernel
theorem dX10_readProduct_20 : decode cX10_readProduct 20 = .ok (.aload_n 0, 1) := by decide +kernel
theorem dX10_readProduct_21 : decode cX10_readProduct 21 = .ok (.invokevirtual 120, 3) := by decide +kernel
theorem dX10_readProduct_24 : decode cX10_readProduct 24 = .ok (.bipush 47, 2) := by decide +kernel
theorem dX10_readProduct_26 : decode cX10_readProduct 26 = .ok (.if_icmp .eq 12, 3) := by decide +kernel
theorem dX10_readProduct_29 : decode cX10_readProduct 29 = .ok (.aload_n 0, 1) := by decide +kernel
theorem dX10_readProduct_30 : decode cX10_readProduct 30 = .ok (.invokevirtual 120, 3) := by decide +kernel
theorem dX10_readProduct_33 : decode cX10_readProduct 33 = .ok (.bipush 37, 2) := by decide +kernel
theorem dX10_readProduct_35 : decode cX10_readProduct 35 = .ok (.if_icmp .ne 55, 3) := by decide +kernel
theorem dX10_readProduct_38 : decode cX10_readProduct 38 = .ok (.aload_n 0, 1) := by decide +kernel
theorem dX10_readProduct_39 : decode cX10_readProduct 39 = .ok (.invokevirtual 120, 3) := by decide +kernel
theorem dX10_readProduct_42 : decode cX10_readProduct 42 = .ok (.bipush 42, 2) := by decide +kernel
theorem dX10_readProduct_44 : decode cX10_readProduct 44 = .ok (.if_icmp .ne 7, 3) := by decide +kernel
theorem dX10_readProduct_47 : decode cX10_readProduct 47 = .ok (.iconst 4, 1) := by decide +kernel
theorem dX10_readProduct_48 : decode cX10_readProduct 48 = .ok (.goto 18, 3) := by decide +kernel
theorem dX10_readProduct_51 : decode cX10_readProduct 51 = .ok (.aload_n 0, 1) := by decide +kernel
theorem dX10_readProduct_52 : decode cX10_readProduct 52 = .ok (.invokevirtual 120, 3) := by decide +kernel
theorem dX10_readProduct_55 : decode cX10_readProduct 55 = .ok (.bipush 47, 2) := by decide +kernel
theorem dX10_readProduct_57 : decode cX10_readProduct 57 = .ok (.if_icmp .ne 7, 3) := by decide +kernel
theorem dX10_readProduct_60 : decode cX10_readProduct 60 = .ok (.iconst 5, 1) := by decide +kernel
theorem dX10_readProduct_61 : decode cX10_readProduct 61 = .ok (.goto 5, 3) := by decide +kernel
theorem dX10_readProduct_64 : decode cX10_readProduct 64 = .ok (.bipush 8, 2) := by decide +kernel
theorem dX10_readProduct_66 : decode cX10_readProduct 66 = .ok (.istore_n 1, 1) := by decide +kernel
theorem dX10_readProduct_67 : decode cX10_readProduct 67 = .ok (.aload_n 0, 1) := by decide +kernel
theorem dX10_readProduct_68 : decode cX10_readProduct 68 = .ok (.dup, 1) := by decide +kernel
theorem dX10_readProduct_69 : decode cX10_readProduct 69 = .ok (.getfield 114, 3) := by decide +kernel
theorem dX10_readProduct_72 : decode cX10_readProduct 72 = .ok (.iconst 1, 1) := by decide +kernel
theorem dX10_readProduct_73 : decode cX10_readProduct 73 = .ok (.iadd, 1) := by decide +kernel
theorem dX10_readProduct_74 : decode cX10_readProduct 74 = .ok (.putfield 114, 3) := by decide +kernel
theorem dX10_readProduct_77 : decode cX10_readProduct 77 = .ok (.aload_n 0, 1) := by decide +kernel
theorem dX10_readProduct_78 : decode cX10_readProduct 78 = .ok (.invokevirtual 247, 3) := by decide +kernel
theorem dX10_readProduct_81 : decode cX10_readProduct 81 = .ok (.aload_n 0, 1) := by decide +kernel
theorem dX10_readProduct_82 : decode cX10_readProduct 82 = .ok (.iload_n 1, 1) := by decide +kernel
theorem dX10_readProduct_83 : decode cX10_readProduct 83 = .ok (.iconst 0, 1) := by decide +kernel
theorem dX10_readProduct_84 : decode cX10_readProduct 84 = .ok (.invokevirtual 244, 3) := by decide +kernel
theorem dX10_readProduct_87 : decode cX10_readProduct 87 = .ok (.goto (-83), 3) := by decide +kernel
theorem dX10_readProduct_90 : decode cX10_readProduct 90 = .ok (.return_, 1) := by decide +kernel
theorem dX10_readTwo_0 : decode cX10_readTwo 0 = .ok (.aload_n 0, 1) := by decide +kernel
theorem dX10_readTwo_1 : decode cX10_readTwo 1 = .ok (.iload_n 1, 1) := by decide +kernel
theorem dX10_readTwo_2 : decode cX10_readTwo 2 = .ok (.invokevirtual 250, 3) := by decide +kernel
theorem dX10_readTwo_5 : decode cX10_readTwo 5 = .ok (.aload_n 0, 1) := by decide +kernel
theorem dX10_readTwo_6 : decode cX10_readTwo 6 = .ok (.bipush 91, 2) := by decide +kernel
theorem dX10_readTwo_8 : decode cX10_readTwo 8 = .ok (.invokevirtual 231, 3) := by decide +kernel
theorem dX10_readTwo_11 : decode cX10_readTwo 11 = .ok (.aload_n 0, 1) := by decide +kernel
theorem dX10_readTwo_12 : decode cX10_readTwo 12 = .ok (.invokevirtual 253, 3) := by decide +kernel
theorem dX10_readTwo_15 : decode cX10_readTwo 15 = .ok (.aload_n 0, 1) := by decide +kernel
theorem dX10_readTwo_16 : decode cX10_readTwo 16 = .ok (.bipush 44, 2) := by decide +kernel
theorem dX10_readTwo_18 : decode cX10_readTwo 18 = .ok (.invokevirtual 231, 3) := by decide +kernel
theorem dX10_readTwo_21 : decode cX10_readTwo 21 = .ok (.aload_n 0, 1) := by decide +kernel
theorem dX10_readTwo_22 : decode cX10_readTwo 22 = .ok (.invokevirtual 253, 3) := by decide +kernel
theorem dX10_readTwo_25 : decode cX10_readTwo 25 = .ok (.aload_n 0, 1) := by decide +kernel
theorem dX10_readTwo_26 : decode cX10_readTwo 26 = .ok (.bipush 93, 2) := by decide +kernel
theorem dX10_readTwo_28 : decode cX10_readTwo 28 = .ok (.invokevirtual 231, 3) := by decide +kernel
theorem dX10_readTwo_31 : decode cX10_readTwo 31 = .ok (.aload_n 0, 1) := by decide +kernel
theorem dX10_readTwo_32 : decode cX10_readTwo 32 = .ok (.dup, 1) := by decide +kernel
theorem dX10_readTwo_33 : decode cX10_readTwo 33 = .ok (.getfield 148, 3) := by decide +kernel
theorem dX10_readTwo_36 : decode cX10_readTwo 36 = .ok (.iconst 1, 1) := by decide +kernel
theorem dX10_readTwo_37 : decode cX10_readTwo 37 = .ok (.isub, 1) := by decide +kernel
theorem dX10_readTwo_38 : decode cX10_readTwo 38 = .ok (.putfield 148, 3) := by decide +kernel
theorem dX10_readTwo_41 : decode cX10_readTwo 41 = .ok (.aload_n 0, 1) := by decide +kernel
theorem dX10_readTwo_42 : decode cX10_readTwo 42 = .ok (.iload_n 2, 1) := by decide +kernel
theorem dX10_readTwo_43 : decode cX10_readTwo 43 = .ok (.iconst 0, 1) := by decide +kernel
theorem dX10_readTwo_44 : decode cX10_readTwo 44 = .ok (.invokevirtual 244, 3) := by decide +kernel
theorem dX10_readTwo_47 : decode cX10_readTwo 47 = .ok (.return_, 1) := by decide +kernel
theorem dX10_factHere_0 : decode cX10_factHere 0 = .ok (.aload_n 0, 1) := by decide +kernel
theorem dX10_factHere_1 : decode cX10_factHere 1 = .ok (.invokevirtual 216, 3) := by decide +kernel
theorem dX10_factHere_4 : decode cX10_factHere 4 = .ok (.istore_n 1, 1) := by decide +kernel
theorem dX10_factHere_5 : decode cX10_factHere 5 = .ok (.iload_n 1, 1) := by decide +kernel
theorem dX10_factHere_6 : decode cX10_factHere 6 = .ok (.ldc_w 256, 3) := by decide +kernel
theorem dX10_factHere_9 : decode cX10_factHere 9 = .ok (.invokestatic 196, 3) := by decide +kernel
theorem dX10_factHere_12 : decode cX10_factHere 12 = .ok (.if_icmp .ne 7, 3) := by decide +kernel
theorem dX10_factHere_15 : decode cX10_factHere 15 = .ok (.iconst 0, 1) := by decide +kernel
theorem dX10_factHere_16 : decode cX10_factHere 16 = .ok (.goto 88, 3) := by decide +kernel
theorem dX10_factHere_19 : decode cX10_factHere 19 = .ok (.iload_n 1, 1) := by decide +kernel
theorem dX10_factHere_20 : decode cX10_factHere 20 = .ok (.ldc_w 258, 3) := by decide +kernel
theorem dX10_factHere_23 : decode cX10_factHere 23 = .ok (.invokestatic 196, 3) := by decide +kernel
theorem dX10_factHere_26 : decode cX10_factHere 26 = .ok (.if_icmp .ne 7, 3) := by decide +kernel
theorem dX10_factHere_29 : decode cX10_factHere 29 = .ok (.iconst 1, 1) := by decide +kernel
theorem dX10_factHere_30 : decode cX10_factHere 30 = .ok (.goto 74, 3) := by decide +kernel
theorem dX10_factHere_33 : decode cX10_factHere 33 = .ok (.iload_n 1, 1) := by decide +kernel
theorem dX10_factHere_34 : decode cX10_factHere 34 = .ok (.ldc_w 260, 3) := by decide +kernel
theorem dX10_factHere_37 : decode cX10_factHere 37 = .ok (.invokestatic 196, 3) := by decide +kernel
theorem dX10_factHere_40 : decode cX10_factHere 40 = .ok (.if_icmp .ne 7, 3) := by decide +kernel
theorem dX10_factHere_43 : decode cX10_factHere 43 = .ok (.iconst 2, 1) := by decide +kernel
theorem dX10_factHere_44 : decode cX10_factHere 44 = .ok (.goto 60, 3) := by decide +kernel
theorem dX10_factHere_47 : decode cX10_factHere 47 = .ok (.iload_n 1, 1) := by decide +kernel
theorem dX10_factHere_48 : decode cX10_factHere 48 = .ok (.ldc_w 262, 3) := by decide +kernel
theorem dX10_factHere_51 : decode cX10_factHere 51 = .ok (.invokestatic 196, 3) := by decide +kernel
theorem dX10_factHere_54 : decode cX10_factHere 54 = .ok (.if_icmp .ne 7, 3) := by decide +kernel
theorem dX10_factHere_57 : decode cX10_factHere 57 = .ok (.iconst 3, 1) := by decide +kernel
theorem dX10_factHere_58 : decode cX10_factHere 58 = .ok (.goto 46, 3) := by decide +kernel
theorem dX10_factHere_61 : decode cX10_factHere 61 = .ok (.iload_n 1, 1) := by decide +kernel
theorem dX10_factHere_62 : decode cX10_factHere 62 = .ok (.ldc_w 264, 3) := by decide +kernel
theorem dX10_factHere_65 : decode cX10_factHere 65 = .ok (.invokestatic 196, 3) := by decide +kernel
theorem dX10_factHere_68 : decode cX10_factHere 68 = .ok (.if_icmp .ne 7, 3) := by decide +kernel
theorem dX10_factHere_71 : decode cX10_factHere 71 = .ok (.iconst 4, 1) := by decide +kernel
theorem dX10_factHere_72 : decode cX10_factHere 72 = .ok (.goto 32, 3) := by decide +kernel
theorem dX10_factHere_75 : decode cX10_factHere 75 = .ok (.iload_n 1, 1) := by decide +kernel
theorem dX10_factHere_76 : decode cX10_factHere 76 = .ok (.ldc_w 266, 3) := by decide +kernel
theorem dX10_factHere_79 : decode cX10_factHere 79 = .ok (.invokestatic 196, 3) := by decide +kernel
theorem dX10_factHere_82 : decode cX10_factHere 82 = .ok (.if_icmp .ne 7, 3) := by decide +kernel
theorem dX10_factHere_85 : decode cX10_factHere 85 = .ok (.iconst 5, 1) := by decide +kernel
theorem dX10_factHere_86 : decode cX10_factHere 86 = .ok (.goto 18, 3) := by decide +kernel
theorem dX10_factHere_89 : decode cX10_factHere 89 = .ok (.iload_n 1, 1) := by decide +kernel
theorem dX10_factHere_90 : decode cX10_factHere 90 = .ok (.ldc 200, 2) := by decide +kernel
theorem dX10_factHere_92 : decode cX10_factHere 92 = .ok (.invokestatic 196, 3) := by decide +kernel
theorem dX10_factHere_95 : decode cX10_factHere 95 = .ok (.if_icmp .ne 8, 3) := by decide +kernel
theorem dX10_factHere_98 : decode cX10_factHere 98 = .ok (.bipush 6, 2) := by decide +kernel
theorem dX10_factHere_100 : decode cX10_factHere 100 = .ok (.goto 4, 3) := by decide +kernel
theorem dX10_factHere_103 : decode cX10_factHere 103 = .ok (.iconst (-1), 1) := by decide +kernel
theorem dX10_factHere_104 : decode cX10_factHere 104 = .ok (.ireturn, 1) := by decide +kernel
theorem dX10_readUnit_0 : decode cX10_readUnit 0 = .ok (.aload_n 0, 1) := by decide +kernel
theorem dX10_readUnit_1 : decode cX10_readUnit 1 = .ok (.invokevirtual 137, 3) := by decide +kernel
theorem dX10_readUnit_4 : decode cX10_readUnit 4 = .ok (.ifCond .ne 4, 3) := by decide +kernel
theorem dX10_readUnit_7 : decode cX10_readUnit 7 = .ok (.return_, 1) := by decide +kernel
theorem dX10_readUnit_8 : decode cX10_readUnit 8 = .ok (.aload_n 0, 1) := by decide +kernel
theorem dX10_readUnit_9 : decode cX10_readUnit 9 = .ok (.invokevirtual 120, 3) := by decide +kernel
theorem dX10_readUnit_12 : decode cX10_readUnit 12 = .ok (.bipush 40, 2) := by decide +kernel
theorem dX10_readUnit_14 : decode cX10_readUnit 14 = .ok (.if_icmp .ne 31, 3) := by decide +kernel
theorem dX10_readUnit_17 : decode cX10_readUnit 17 = .ok (.aload_n 0, 1) := by decide +kernel
theorem dX10_readUnit_18 : decode cX10_readUnit 18 = .ok (.iconst 1, 1) := by decide +kernel
theorem dX10_readUnit_19 : decode cX10_readUnit 19 = .ok (.invokevirtual 250, 3) := by decide +kernel
theorem dX10_readUnit_22 : decode cX10_readUnit 22 = .ok (.aload_n 0, 1) := by decide +kernel
theorem dX10_readUnit_23 : decode cX10_readUnit 23 = .ok (.invokevirtual 253, 3) := by decide +kernel
theorem dX10_readUnit_26 : decode cX10_readUnit 26 = .ok (.aload_n 0, 1) := by decide +kernel
theorem dX10_readUnit_27 : decode cX10_readUnit 27 = .ok (.bipush 41, 2) := by decide +kernel
theorem dX10_readUnit_29 : decode cX10_readUnit 29 = .ok (.invokevirtual 231, 3) := by decide +kernel
theorem dX10_readUnit_32 : decode cX10_readUnit 32 = .ok (.aload_n 0, 1) := by decide +kernel
theorem dX10_readUnit_33 : decode cX10_readUnit 33 = .ok (.dup, 1) := by decide +kernel
theorem dX10_readUnit_34 : decode cX10_readUnit 34 = .ok (.getfield 148, 3) := by decide +kernel
theorem dX10_readUnit_37 : decode cX10_readUnit 37 = .ok (.iconst 1, 1) := by decide +kernel
theorem dX10_readUnit_38 : decode cX10_readUnit 38 = .ok (.isub, 1) := by decide +kernel
theorem dX10_readUnit_39 : decode cX10_readUnit 39 = .ok (.putfield 148, 3) := by decide +kernel
theorem dX10_readUnit_42 : decode cX10_readUnit 42 = .ok (.goto 112, 3) := by decide +kernel
theorem dX10_readUnit_45 : decode cX10_readUnit 45 = .ok (.aload_n 0, 1) := by decide +kernel
theorem dX10_readUnit_46 : decode cX10_readUnit 46 = .ok (.invokevirtual 120, 3) := by decide +kernel
theorem dX10_readUnit_49 : decode cX10_readUnit 49 = .ok (.invokestatic 141, 3) := by decide +kernel
theorem dX10_readUnit_52 : decode cX10_readUnit 52 = .ok (.ifCond .eq 19, 3) := by decide +kernel
theorem dX10_readUnit_55 : decode cX10_readUnit 55 = .ok (.aload_n 0, 1) := by decide +kernel
theorem dX10_readUnit_56 : decode cX10_readUnit 56 = .ok (.iconst 0, 1) := by decide +kernel
theorem dX10_readUnit_57 : decode cX10_readUnit 57 = .ok (.aload_n 0, 1) := by decide +kernel
theorem dX10_readUnit_58 : decode cX10_readUnit 58 = .ok (.iconst 0, 1) := by decide +kernel
theorem dX10_readUnit_59 : decode cX10_readUnit 59 = .ok (.sipush 999, 3) := by decide +kernel
theorem dX10_readUnit_62 : decode cX10_readUnit 62 = .ok (.invokevirtual 188, 3) := by decide +kernel
theorem dX10_readUnit_65 : decode cX10_readUnit 65 = .ok (.invokevirtual 244, 3) := by decide +kernel
theorem dX10_readUnit_68 : decode cX10_readUnit 68 = .ok (.goto 86, 3) := by decide +kernel
theorem dX10_readUnit_71 : decode cX10_readUnit 71 = .ok (.aload_n 0, 1) := by decide +kernel
theorem dX10_readUnit_72 : decode cX10_readUnit 72 = .ok (.invokevirtual 216, 3) := by decide +kernel
theorem dX10_readUnit_75 : decode cX10_readUnit 75 = .ok (.ldc_w 268, 3) := by decide +kernel
theorem dX10_readUnit_78 : decode cX10_readUnit 78 = .ok (.invokestatic 196, 3) := by decide +kernel
theorem dX10_readUnit_81 : decode cX10_readUnit 81 = .ok (.if_icmp .ne 13, 3) := by decide +kernel
theorem dX10_readUnit_84 : decode cX10_readUnit 84 = .ok (.aload_n 0, 1) := by decide +kernel
theorem dX10_readUnit_85 : decode cX10_readUnit 85 = .ok (.iconst 5, 1) := by decide +kernel
theorem dX10_readUnit_86 : decode cX10_readUnit 86 = .ok (.bipush 6, 2) := by decide +kernel
theorem dX10_readUnit_88 : decode cX10_readUnit 88 = .ok (.invokevirtual 270, 3) := by decide +kernel
theorem dX10_readUnit_91 : decode cX10_readUnit 91 = .ok (.goto 63, 3) := by decide +kernel
theorem dX10_readUnit_94 : decode cX10_readUnit 94 = .ok (.aload_n 0, 1) := by decide +kernel
theorem dX10_readUnit_95 : decode cX10_readUnit 95 = .ok (.invokevirtual 216, 3) := by decide +kernel
theorem dX10_readUnit_98 : decode cX10_readUnit 98 = .ok (.ldc_w 273, 3) := by decide +kernel
theorem dX10_readUnit_101 : decode cX10_readUnit 101 = .ok (.invokestatic 196, 3) := by decide +kernel
theorem dX10_readUnit_104 : decode cX10_readUnit 104 = .ok (.if_icmp .ne 13, 3) := by decide +kernel
theorem dX10_readUnit_107 : decode cX10_readUnit 107 = .ok (.aload_n 0, 1) := by decide +kernel
theorem dX10_readUnit_108 : decode cX10_readUnit 108 = .ok (.iconst 4, 1) := by decide +kernel
theorem dX10_readUnit_109 : decode cX10_readUnit 109 = .ok (.bipush 7, 2) := by decide +kernel
theorem dX10_readUnit_111 : decode cX10_readUnit 111 = .ok (.invokevirtual 270, 3) := by decide +kernel
theorem dX10_readUnit_114 : decode cX10_readUnit 114 = .ok (.goto 40, 3) := by decide +kernel
theorem dX10_readUnit_117 : decode cX10_readUnit 117 = .ok (.aload_n 0, 1) := by decide +kernel
theorem dX10_readUnit_118 : decode cX10_readUnit 118 = .ok (.invokevirtual 275, 3) := by decide +kernel
theorem dX10_readUnit_121 : decode cX10_readUnit 121 = .ok (.istore_n 1, 1) := by decide +kernel
theorem dX10_readUnit_122 : decode cX10_readUnit 122 = .ok (.iload_n 1, 1) := by decide +kernel
theorem dX10_readUnit_123 : decode cX10_readUnit 123 = .ok (.iconst (-1), 1) := by decide +kernel
theorem dX10_readUnit_124 : decode cX10_readUnit 124 = .ok (.if_icmp .ne 12, 3) := by decide +kernel
theorem dX10_readUnit_127 : decode cX10_readUnit 127 = .ok (.aload_n 0, 1) := by decide +kernel
theorem dX10_readUnit_128 : decode cX10_readUnit 128 = .ok (.iconst 1, 1) := by decide +kernel
theorem dX10_readUnit_129 : decode cX10_readUnit 129 = .ok (.aload_n 0, 1) := by decide +kernel
theorem dX10_readUnit_130 : decode cX10_readUnit 130 = .ok (.getfield 114, 3) := by decide +kernel
theorem dX10_readUnit_133 : decode cX10_readUnit 133 = .ok (.invokevirtual 144, 3) := by decide +kernel
theorem dX10_readUnit_136 : decode cX10_readUnit 136 = .ok (.aload_n 0, 1) := by decide +kernel
theorem dX10_readUnit_137 : decode cX10_readUnit 137 = .ok (.invokevirtual 137, 3) := by decide +kernel
theorem dX10_readUnit_140 : decode cX10_readUnit 140 = .ok (.ifCond .ne 4, 3) := by decide +kernel
theorem dX10_readUnit_143 : decode cX10_readUnit 143 = .ok (.return_, 1) := by decide +kernel
theorem dX10_readUnit_144 : decode cX10_readUnit 144 = .ok (.aload_n 0, 1) := by decide +kernel
theorem dX10_readUnit_145 : decode cX10_readUnit 145 = .ok (.invokevirtual 225, 3) := by decide +kernel
theorem dX10_readUnit_148 : decode cX10_readUnit 148 = .ok (.aload_n 0, 1) := by decide +kernel
theorem dX10_readUnit_149 : decode cX10_readUnit 149 = .ok (.iconst 1, 1) := by decide +kernel
theorem dX10_readUnit_150 : decode cX10_readUnit 150 = .ok (.iload_n 1, 1) := by decide +kernel
theorem dX10_readUnit_151 : decode cX10_readUnit 151 = .ok (.invokevirtual 244, 3) := by decide +kernel
theorem dX10_readUnit_154 : decode cX10_readUnit 154 = .ok (.return_, 1) := by decide +kernel
theorem dX10_law_0 : decode cX10_law 0 = .ok (.aload_n 0, 1) := by decide +kernel
theorem dX10_law_1 : decode cX10_law 1 = .ok (.iconst 0, 1) := by decide +kernel
theorem dX10_law_2 : decode cX10_law 2 = .ok (.putfield 3, 3) := by decide +kernel
theorem dX10_law_5 : decode cX10_law 5 = .ok (.aload_n 0, 1) := by decide +kernel
theorem dX10_law_6 : decode cX10_law 6 = .ok (.iload_n 1, 1) := by decide +kernel
theorem dX10_law_7 : decode cX10_law 7 = .ok (.ifCond .lt 22, 3) := by decide +kernel
theorem dX10_law_10 : decode cX10_law 10 = .ok (.iload_n 1, 1) := by decide +kernel
theorem dX10_law_11 : decode cX10_law 11 = .ok (.aload_n 0, 1) := by decide +kernel
theorem dX10_law_12 : decode cX10_law 12 = .ok (.getfield 105, 3) := by decide +kernel
theorem dX10_law_15 : decode cX10_law 15 = .ok (.if_icmp .gt 14, 3) := by decide +kernel
theorem dX10_law_18 : decode cX10_law 18 = .ok (.iload_n 1, 1) := by decide +kernel
theorem dX10_law_19 : decode cX10_law 19 = .ok (.sipush 150, 3) := by decide +kernel
theorem dX10_law_22 : decode cX10_law 22 = .ok (.if_icmp .gt 7, 3) := by decide +kernel
theorem dX10_law_25 : decode cX10_law 25 = .ok (.iconst 1, 1) := by decide +kernel
theorem dX10_law_26 : decode cX10_law 26 = .ok (.goto 4, 3) := by decide +kernel
theorem dX10_law_29 : decode cX10_law 29 = .ok (.iconst 0, 1) := by decide +kernel
theorem dX10_law_30 : decode cX10_law 30 = .ok (.iconst 1, 1) := by decide +kernel
theorem dX10_law_31 : decode cX10_law 31 = .ok (.iconst 1, 1) := by decide +kernel
theorem dX10_law_32 : decode cX10_law 32 = .ok (.invokevirtual 205, 3) := by decide +kernel
theorem dX10_law_35 : decode cX10_law 35 = .ok (.ifCond .ne 5, 3) := by decide +kernel
theorem dX10_law_38 : decode cX10_law 38 = .ok (.iconst 0, 1) := by decide +kernel
theorem dX10_law_39 : decode cX10_law 39 = .ok (.ireturn, 1) := by decide +kernel
theorem dX10_law_40 : decode cX10_law 40 = .ok (.aload_n 0, 1) := by decide +kernel
theorem dX10_law_41 : decode cX10_law 41 = .ok (.iload_n 1, 1) := by decide +kernel
theorem dX10_law_42 : decode cX10_law 42 = .ok (.invokevirtual 209, 3) := by decide +kernel
theorem dX10_law_45 : decode cX10_law 45 = .ok (.aload_n 0, 1) := by decide +kernel
theorem dX10_law_46 : decode cX10_law 46 = .ok (.iconst 0, 1) := by decide +kernel
theorem dX10_law_47 : decode cX10_law 47 = .ok (.putfield 238, 3) := by decide +kernel
theorem dX10_law_50 : decode cX10_law 50 = .ok (.aload_n 0, 1) := by decide +kernel
theorem dX10_law_51 : decode cX10_law 51 = .ok (.invokevirtual 253, 3) := by decide +kernel
theorem dX10_law_54 : decode cX10_law 54 = .ok (.aload_n 0, 1) := by decide +kernel
theorem dX10_law_55 : decode cX10_law 55 = .ok (.invokevirtual 137, 3) := by decide +kernel
theorem dX10_law_58 : decode cX10_law 58 = .ok (.ifCond .eq 19, 3) := by decide +kernel
theorem dX10_law_61 : decode cX10_law 61 = .ok (.aload_n 0, 1) := by decide +kernel
theorem dX10_law_62 : decode cX10_law 62 = .ok (.invokevirtual 213, 3) := by decide +kernel
theorem dX10_law_65 : decode cX10_law 65 = .ok (.ifCond .eq 12, 3) := by decide +kernel
theorem dX10_law_68 : decode cX10_law 68 = .ok (.aload_n 0, 1) := by decide +kernel
theorem dX10_law_69 : decode cX10_law 69 = .ok (.iconst 1, 1) := by decide +kernel
theorem dX10_law_70 : decode cX10_law 70 = .ok (.aload_n 0, 1) := by decide +kernel
theorem dX10_law_71 : decode cX10_law 71 = .ok (.getfield 114, 3) := by decide +kernel
theorem dX10_law_74 : decode cX10_law 74 = .ok (.invokevirtual 144, 3) := by decide +kernel
theorem dX10_law_77 : decode cX10_law 77 = .ok (.aload_n 0, 1) := by decide +kernel
theorem dX10_law_78 : decode cX10_law 78 = .ok (.iconst 1, 1) := by decide +kernel
theorem dX10_law_79 : decode cX10_law 79 = .ok (.invokevirtual 234, 3) := by decide +kernel
theorem dX10_law_82 : decode cX10_law 82 = .ok (.istore_n 2, 1) := by decide +kernel
theorem dX10_law_83 : decode cX10_law 83 = .ok (.aload_n 0, 1) := by decide +kernel
theorem dX10_law_84 : decode cX10_law 84 = .ok (.getfield 108, 3) := by decide +kernel
theorem dX10_law_87 : decode cX10_law 87 = .ok (.iconst (-1), 1) := by decide +kernel
theorem dX10_law_88 : decode cX10_law 88 = .ok (.if_icmp .eq 5, 3) := by decide +kernel
theorem dX10_law_91 : decode cX10_law 91 = .ok (.iload_n 2, 1) := by decide +kernel
theorem dX10_law_92 : decode cX10_law 92 = .ok (.ireturn, 1) := by decide +kernel
theorem dX10_law_93 : decode cX10_law 93 = .ok (.aload_n 0, 1) := by decide +kernel
theorem dX10_law_94 : decode cX10_law 94 = .ok (.aload_n 0, 1) := by decide +kernel
theorem dX10_law_95 : decode cX10_law 95 = .ok (.getfield 238, 3) := by decide +kernel
theorem dX10_law_98 : decode cX10_law 98 = .ok (.putfield 173, 3) := by decide +kernel
theorem dX10_law_101 : decode cX10_law 101 = .ok (.aload_n 0, 1) := by decide +kernel
theorem dX10_law_102 : decode cX10_law 102 = .ok (.aload_n 0, 1) := by decide +kernel
theorem dX10_law_103 : decode cX10_law 103 = .ok (.getfield 41, 3) := by decide +kernel
theorem dX10_law_106 : decode cX10_law 106 = .ok (.aload_n 0, 1) := by decide +kernel
theorem dX10_law_107 : decode cX10_law 107 = .ok (.getfield 47, 3) := by decide +kernel
theorem dX10_law_110 : decode cX10_law 110 = .ok (.aload_n 0, 1) := by decide +kernel
theorem dX10_law_111 : decode cX10_law 111 = .ok (.getfield 238, 3) := by decide +kernel
theorem dX10_law_114 : decode cX10_law 114 = .ok (.invokevirtual 169, 3) := by decide +kernel
theorem dX10_law_117 : decode cX10_law 117 = .ok (.aload_n 0, 1) := by decide +kernel
theorem dX10_law_118 : decode cX10_law 118 = .ok (.aload_n 0, 1) := by decide +kernel
theorem dX10_law_119 : decode cX10_law 119 = .ok (.getfield 44, 3) := by decide +kernel
theorem dX10_law_122 : decode cX10_law 122 = .ok (.aload_n 0, 1) := by decide +kernel
theorem dX10_law_123 : decode cX10_law 123 = .ok (.getfield 50, 3) := by decide +kernel
theorem dX10_law_126 : decode cX10_law 126 = .ok (.aload_n 0, 1) := by decide +kernel
theorem dX10_law_127 : decode cX10_law 127 = .ok (.getfield 238, 3) := by decide +kernel
theorem dX10_law_130 : decode cX10_law 130 = .ok (.invokevirtual 169, 3) := by decide +kernel
theorem dX10_law_133 : decode cX10_law 133 = .ok (.iload_n 2, 1) := by decide +kernel
theorem dX10_law_134 : decode cX10_law 134 = .ok (.ireturn, 1) := by decide +kernel
theorem dX10_valueNow_0 : decode cX10_valueNow 0 = .ok (.iconst 0, 1) := by decide +kernel
theorem dX10_valueNow_1 : decode cX10_valueNow 1 = .ok (.istore_n 1, 1) := by decide +kernel
theorem dX10_valueNow_2 : decode cX10_valueNow 2 = .ok (.iconst 0, 1) := by decide +kernel
theorem dX10_valueNow_3 : decode cX10_valueNow 3 = .ok (.istore_n 2, 1) := by decide +kernel
theorem dX10_valueNow_4 : decode cX10_valueNow 4 = .ok (.iload_n 2, 1) := by decide +kernel
theorem dX10_valueNow_5 : decode cX10_valueNow 5 = .ok (.aload_n 0, 1) := by decide +kernel
theorem dX10_valueNow_6 : decode cX10_valueNow 6 = .ok (.getfield 173, 3) := by decide +kernel
theorem dX10_valueNow_9 : decode cX10_valueNow 9 = .ok (.if_icmp .ge 86, 3) := by decide +kernel
theorem dX10_valueNow_12 : decode cX10_valueNow 12 = .ok (.aload_n 0, 1) := by decide +kernel
theorem dX10_valueNow_13 : decode cX10_valueNow 13 = .ok (.getfield 47, 3) := by decide +kernel
theorem dX10_valueNow_16 : decode cX10_valueNow 16 = .ok (.iload_n 2, 1) := by decide +kernel
theorem dX10_valueNow_17 : decode cX10_valueNow 17 = .ok (.iaload, 1) := by decide +kernel
theorem dX10_valueNow_18 : decode cX10_valueNow 18 = .ok (.istore_n 3, 1) := by decide +kernel
theorem dX10_valueNow_19 : decode cX10_valueNow 19 = .ok (.iload_n 3, 1) := by decide +kernel
theorem dX10_valueNow_20 : decode cX10_valueNow 20 = .ok (.iconst 1, 1) := by decide +kernel
theorem dX10_valueNow_21 : decode cX10_valueNow 21 = .ok (.if_icmp .gt 39, 3) := by decide +kernel
theorem dX10_valueNow_24 : decode cX10_valueNow 24 = .ok (.aload_n 0, 1) := by decide +kernel
theorem dX10_valueNow_25 : decode cX10_valueNow 25 = .ok (.getfield 53, 3) := by decide +kernel
theorem dX10_valueNow_28 : decode cX10_valueNow 28 = .ok (.iload_n 1, 1) := by decide +kernel
theorem dX10_valueNow_29 : decode cX10_valueNow 29 = .ok (.iload_n 3, 1) := by decide +kernel
theorem dX10_valueNow_30 : decode cX10_valueNow 30 = .ok (.ifCond .ne 12, 3) := by decide +kernel
theorem dX10_valueNow_33 : decode cX10_valueNow 33 = .ok (.aload_n 0, 1) := by decide +kernel
theorem dX10_valueNow_34 : decode cX10_valueNow 34 = .ok (.getfield 50, 3) := by decide +kernel
theorem dX10_valueNow_37 : decode cX10_valueNow 37 = .ok (.iload_n 2, 1) := by decide +kernel
theorem dX10_valueNow_38 : decode cX10_valueNow 38 = .ok (.iaload, 1) := by decide +kernel
theorem dX10_valueNow_39 : decode cX10_valueNow 39 = .ok (.goto 14, 3) := by decide +kernel
theorem dX10_valueNow_42 : decode cX10_valueNow 42 = .ok (.aload_n 0, 1) := by decide +kernel
theorem dX10_valueNow_43 : decode cX10_valueNow 43 = .ok (.getfield 56, 3) := by decide +kernel
theorem dX10_valueNow_46 : decode cX10_valueNow 46 = .ok (.aload_n 0, 1) := by decide +kernel
theorem dX10_valueNow_47 : decode cX10_valueNow 47 = .ok (.getfield 50, 3) := by decide +kernel
theorem dX10_valueNow_50 : decode cX10_valueNow 50 = .ok (.iload_n 2, 1) := by decide +kernel
theorem dX10_valueNow_51 : decode cX10_valueNow 51 = .ok (.iaload, 1) := by decide +kernel
theorem dX10_valueNow_52 : decode cX10_valueNow 52 = .ok (.iaload, 1) := by decide +kernel
theorem dX10_valueNow_53 : decode cX10_valueNow 53 = .ok (.iastore, 1) := by decide +kernel
theorem dX10_valueNow_54 : decode cX10_valueNow 54 = .ok (.iinc 1 1, 3) := by decide +kernel
theorem dX10_valueNow_57 : decode cX10_valueNow 57 = .ok (.goto 32, 3) := by decide +kernel
theorem dX10_valueNow_60 : decode cX10_valueNow 60 = .ok (.iinc 1 (-1), 3) := by decide +kernel
theorem dX10_valueNow_63 : decode cX10_valueNow 63 = .ok (.aload_n 0, 1) := by decide +kernel
theorem dX10_valueNow_64 : decode cX10_valueNow 64 = .ok (.getfield 53, 3) := by decide +kernel
theorem dX10_valueNow_67 : decode cX10_valueNow 67 = .ok (.iload_n 1, 1) := by decide +kernel
theorem dX10_valueNow_68 : decode cX10_valueNow 68 = .ok (.iconst 1, 1) := by decide +kernel
theorem dX10_valueNow_69 : decode cX10_valueNow 69 = .ok (.isub, 1) := by decide +kernel
theorem dX10_valueNow_70 : decode cX10_valueNow 70 = .ok (.iload_n 3, 1) := by decide +kernel
theorem dX10_valueNow_71 : decode cX10_valueNow 71 = .ok (.aload_n 0, 1) := by decide +kernel
theorem dX10_valueNow_72 : decode cX10_valueNow 72 = .ok (.getfield 53, 3) := by decide +kernel
theorem dX10_valueNow_75 : decode cX10_valueNow 75 = .ok (.iload_n 1, 1) := by decide +kernel
theorem dX10_valueNow_76 : decode cX10_valueNow 76 = .ok (.iconst 1, 1) := by decide +kernel
theorem dX10_valueNow_77 : decode cX10_valueNow 77 = .ok (.isub, 1) := by decide +kernel
theorem dX10_valueNow_78 : decode cX10_valueNow 78 = .ok (.iaload, 1) := by decide +kernel
theorem dX10_valueNow_79 : decode cX10_valueNow 79 = .ok (.aload_n 0, 1) := by decide +kernel
theorem dX10_valueNow_80 : decode cX10_valueNow 80 = .ok (.getfield 53, 3) := by decide +kernel
theorem dX10_valueNow_83 : decode cX10_valueNow 83 = .ok (.iload_n 1, 1) := by decide +kernel
theorem dX10_valueNow_84 : decode cX10_valueNow 84 = .ok (.iaload, 1) := by decide +kernel
theorem dX10_valueNow_85 : decode cX10_valueNow 85 = .ok (.invokestatic 278, 3) := by decide +kernel
theorem dX10_valueNow_88 : decode cX10_valueNow 88 = .ok (.iastore, 1) := by decide +kernel
theorem dX10_valueNow_89 : decode cX10_valueNow 89 = .ok (.iinc 2 1, 3) := by decide +kernel
theorem dX10_valueNow_92 : decode cX10_valueNow 92 = .ok (.goto (-88), 3) := by decide +kernel
theorem dX10_valueNow_95 : decode cX10_valueNow 95 = .ok (.aload_n 0, 1) := by decide +kernel
theorem dX10_valueNow_96 : decode cX10_valueNow 96 = .ok (.getfield 53, 3) := by decide +kernel
theorem dX10_valueNow_99 : decode cX10_valueNow 99 = .ok (.iconst 0, 1) := by decide +kernel
theorem dX10_valueNow_100 : decode cX10_valueNow 100 = .ok (.iaload, 1) := by decide +kernel
theorem dX10_valueNow_101 : decode cX10_valueNow 101 = .ok (.ireturn, 1) := by decide +kernel
theorem dX10_both_0 : decode cX10_both 0 = .ok (.iload_n 0, 1) := by decide +kernel
theorem dX10_both_1 : decode cX10_both 1 = .ok (.iconst 2, 1) := by decide +kernel
theorem dX10_both_2 : decode cX10_both 2 = .ok (.if_icmp .ne 7, 3) := by decide +kernel
theorem dX10_both_5 : decode cX10_both 5 = .ok (.iload_n 1, 1) := by decide +kernel
theorem dX10_both_6 : decode cX10_both 6 = .ok (.iload_n 2, 1) := by decide +kernel
theorem dX10_both_7 : decode cX10_both 7 = .ok (.iadd, 1) := by decide +kernel
theorem dX10_both_8 : decode cX10_both 8 = .ok (.ireturn, 1) := by decide +kernel
theorem dX10_both_9 : decode cX10_both 9 = .ok (.iload_n 0, 1) := by decide +kernel
theorem dX10_both_10 : decode cX10_both 10 = .ok (.iconst 3, 1) := by decide +kernel
theorem dX10_both_11 : decode cX10_both 11 = .ok (.if_icmp .ne 7, 3) := by decide +kernel
theorem dX10_both_14 : decode cX10_both 14 = .ok (.iload_n 1, 1) := by decide +kernel
theorem dX10_both_15 : decode cX10_both 15 = .ok (.iload_n 2, 1) := by decide +kernel
theorem dX10_both_16 : decode cX10_both 16 = .ok (.isub, 1) := by decide +kernel
theorem dX10_both_17 : decode cX10_both 17 = .ok (.ireturn, 1) := by decide +kernel
theorem dX10_both_18 : decode cX10_both 18 = .ok (.iload_n 0, 1) := by decide +kernel
theorem dX10_both_19 : decode cX10_both 19 = .ok (.iconst 4, 1) := by decide +kernel
theorem dX10_both_20 : decode cX10_both 20 = .ok (.if_icmp .ne 7, 3) := by decide +kernel
theorem dX10_both_23 : decode cX10_both 23 = .ok (.iload_n 1, 1) := by decide +kernel
theorem dX10_both_24 : decode cX10_both 24 = .ok (.iload_n 2, 1) := by decide +kernel
theorem dX10_both_25 : decode cX10_both 25 = .ok (.imul, 1) := by decide +kernel
theorem dX10_both_26 : decode cX10_both 26 = .ok (.ireturn, 1) := by decide +kernel
theorem dX10_both_27 : decode cX10_both 27 = .ok (.iload_n 0, 1) := by decide +kernel
theorem dX10_both_28 : decode cX10_both 28 = .ok (.iconst 5, 1) := by decide +kernel
theorem dX10_both_29 : decode cX10_both 29 = .ok (.if_icmp .eq 9, 3) := by decide +kernel
theorem dX10_both_32 : decode cX10_both 32 = .ok (.iload_n 0, 1) := by decide +kernel
theorem dX10_both_33 : decode cX10_both 33 = .ok (.bipush 8, 2) := by decide +kernel
theorem dX10_both_35 : decode cX10_both 35 = .ok (.if_icmp .ne 26, 3) := by decide +kernel
theorem dX10_both_38 : decode cX10_both 38 = .ok (.iload_n 2, 1) := by decide +kernel
theorem dX10_both_39 : decode cX10_both 39 = .ok (.ifCond .ne 7, 3) := by decide +kernel
theorem dX10_both_42 : decode cX10_both 42 = .ok (.iconst 0, 1) := by decide +kernel
theorem dX10_both_43 : decode cX10_both 43 = .ok (.goto 17, 3) := by decide +kernel
theorem dX10_both_46 : decode cX10_both 46 = .ok (.iload_n 0, 1) := by decide +kernel
theorem dX10_both_47 : decode cX10_both 47 = .ok (.iconst 5, 1) := by decide +kernel
theorem dX10_both_48 : decode cX10_both 48 = .ok (.if_icmp .ne 9, 3) := by decide +kernel
theorem dX10_both_51 : decode cX10_both 51 = .ok (.iload_n 1, 1) := by decide +kernel
theorem dX10_both_52 : decode cX10_both 52 = .ok (.iload_n 2, 1) := by decide +kernel
theorem dX10_both_53 : decode cX10_both 53 = .ok (.idiv, 1) := by decide +kernel
theorem dX10_both_54 : decode cX10_both 54 = .ok (.goto 6, 3) := by decide +kernel
theorem dX10_both_57 : decode cX10_both 57 = .ok (.iload_n 1, 1) := by decide +kernel
theorem dX10_both_58 : decode cX10_both 58 = .ok (.iload_n 2, 1) := by decide +kernel
theorem dX10_both_59 : decode cX10_both 59 = .ok (.irem, 1) := by decide +kernel
theorem dX10_both_60 : decode cX10_both 60 = .ok (.ireturn, 1) := by decide +kernel
theorem dX10_both_61 : decode cX10_both 61 = .ok (.iload_n 1, 1) := by decide +kernel
theorem dX10_both_62 : decode cX10_both 62 = .ok (.iload_n 2, 1) := by decide +kernel
theorem dX10_both_63 : decode cX10_both 63 = .ok (.if_icmp .ge 7, 3) := by decide +kernel
theorem dX10_both_66 : decode cX10_both 66 = .ok (.iconst 1, 1) := by decide +kernel
theorem dX10_both_67 : decode cX10_both 67 = .ok (.goto 4, 3) := by decide +kernel
theorem dX10_both_70 : decode cX10_both 70 = .ok (.iconst 0, 1) := by decide +kernel
theorem dX10_both_71 : decode cX10_both 71 = .ok (.iload_n 0, 1) := by decide +kernel
theorem dX10_both_72 : decode cX10_both 72 = .ok (.bipush 6, 2) := by decide +kernel
theorem dX10_both_74 : decode cX10_both 74 = .ok (.if_icmp .ne 7, 3) := by decide +kernel
theorem dX10_both_77 : decode cX10_both 77 = .ok (.iconst 1, 1) := by decide +kernel
theorem dX10_both_78 : decode cX10_both 78 = .ok (.goto 4, 3) := by decide +kernel
theorem dX10_both_81 : decode cX10_both 81 = .ok (.iconst 0, 1) := by decide +kernel
theorem dX10_both_82 : decode cX10_both 82 = .ok (.if_icmp .ne 7, 3) := by decide +kernel
theorem dX10_both_85 : decode cX10_both 85 = .ok (.iload_n 1, 1) := by decide +kernel
theorem dX10_both_86 : decode cX10_both 86 = .ok (.goto 4, 3) := by decide +kernel
theorem dX10_both_89 : decode cX10_both 89 = .ok (.iload_n 2, 1) := by decide +kernel
theorem dX10_both_90 : decode cX10_both 90 = .ok (.ireturn, 1) := by decide +kernel
theorem dX10_runNow_0 : decode cX10_runNow 0 = .ok (.aload_n 0, 1) := by decide +kernel
theorem dX10_runNow_1 : decode cX10_runNow 1 = .ok (.getfield 173, 3) := by decide +kernel
theorem dX10_runNow_4 : decode cX10_runNow 4 = .ok (.ifCond .ne 16, 3) := by decide +kernel
theorem dX10_runNow_7 : decode cX10_runNow 7 = .ok (.aload_n 0, 1) := by decide +kernel
theorem dX10_runNow_8 : decode cX10_runNow 8 = .ok (.getfield 56, 3) := by decide +kernel
theorem dX10_runNow_11 : decode cX10_runNow 11 = .ok (.iconst 0, 1) := by decide +kernel
theorem dX10_runNow_12 : decode cX10_runNow 12 = .ok (.iaload, 1) := by decide +kernel
theorem dX10_runNow_13 : decode cX10_runNow 13 = .ok (.iconst 4, 1) := by decide +kernel
theorem dX10_runNow_14 : decode cX10_runNow 14 = .ok (.idiv, 1) := by decide +kernel
theorem dX10_runNow_15 : decode cX10_runNow 15 = .ok (.iconst 1, 1) := by decide +kernel
theorem dX10_runNow_16 : decode cX10_runNow 16 = .ok (.iadd, 1) := by decide +kernel
theorem dX10_runNow_17 : decode cX10_runNow 17 = .ok (.goto 7, 3) := by decide +kernel
theorem dX10_runNow_20 : decode cX10_runNow 20 = .ok (.aload_n 0, 1) := by decide +kernel
theorem dX10_runNow_21 : decode cX10_runNow 21 = .ok (.invokevirtual 282, 3) := by decide +kernel
theorem dX10_runNow_24 : decode cX10_runNow 24 = .ok (.istore_n 1, 1) := by decide +kernel
theorem dX10_runNow_25 : decode cX10_runNow 25 = .ok (.iload_n 1, 1) := by decide +kernel
theorem dX10_runNow_26 : decode cX10_runNow 26 = .ok (.ifCond .ge 7, 3) := by decide +kernel
theorem dX10_runNow_29 : decode cX10_runNow 29 = .ok (.iconst 0, 1) := by decide +kernel
theorem dX10_runNow_30 : decode cX10_runNow 30 = .ok (.goto 15, 3) := by decide +kernel
theorem dX10_runNow_33 : decode cX10_runNow 33 = .ok (.iload_n 1, 1) := by decide +kernel
theorem dX10_runNow_34 : decode cX10_runNow 34 = .ok (.bipush 8, 2) := by decide +kernel
theorem dX10_runNow_36 : decode cX10_runNow 36 = .ok (.if_icmp .le 8, 3) := by decide +kernel
theorem dX10_runNow_39 : decode cX10_runNow 39 = .ok (.bipush 8, 2) := by decide +kernel
theorem dX10_runNow_41 : decode cX10_runNow 41 = .ok (.goto 4, 3) := by decide +kernel
theorem dX10_runNow_44 : decode cX10_runNow 44 = .ok (.iload_n 1, 1) := by decide +kernel
theorem dX10_runNow_45 : decode cX10_runNow 45 = .ok (.ireturn, 1) := by decide +kernel
theorem dX10_tellsStep_0 : decode cX10_tellsStep 0 = .ok (.aload_n 0, 1) := by decide +kernel
theorem dX10_tellsStep_1 : decode cX10_tellsStep 1 = .ok (.invokevirtual 137, 3) := by decide +kernel
theorem dX10_tellsStep_4 : decode cX10_tellsStep 4 = .ok (.ifCond .ne 4, 3) := by decide +kernel
theorem dX10_tellsStep_7 : decode cX10_tellsStep 7 = .ok (.return_, 1) := by decide +kernel
theorem dX10_tellsStep_8 : decode cX10_tellsStep 8 = .ok (.aload_n 0, 1) := by decide +kernel
theorem dX10_tellsStep_9 : decode cX10_tellsStep 9 = .ok (.getfield 59, 3) := by decide +kernel
theorem dX10_tellsStep_12 : decode cX10_tellsStep 12 = .ok (.aload_n 0, 1) := by decide +kernel
theorem dX10_tellsStep_13 : decode cX10_tellsStep 13 = .ok (.getfield 285, 3) := by decide +kernel
theorem dX10_tellsStep_16 : decode cX10_tellsStep 16 = .ok (.iload_n 1, 1) := by decide +kernel
theorem dX10_tellsStep_17 : decode cX10_tellsStep 17 = .ok (.iastore, 1) := by decide +kernel
theorem dX10_tellsStep_18 : decode cX10_tellsStep 18 = .ok (.aload_n 0, 1) := by decide +kernel
theorem dX10_tellsStep_19 : decode cX10_tellsStep 19 = .ok (.getfield 59, 3) := by decide +kernel
theorem dX10_tellsStep_22 : decode cX10_tellsStep 22 = .ok (.aload_n 0, 1) := by decide +kernel
theorem dX10_tellsStep_23 : decode cX10_tellsStep 23 = .ok (.getfield 285, 3) := by decide +kernel
theorem dX10_tellsStep_26 : decode cX10_tellsStep 26 = .ok (.iconst 1, 1) := by decide +kernel
theorem dX10_tellsStep_27 : decode cX10_tellsStep 27 = .ok (.iadd, 1) := by decide +kernel
theorem dX10_tellsStep_28 : decode cX10_tellsStep 28 = .ok (.iload_n 2, 1) := by decide +kernel
theorem dX10_tellsStep_29 : decode cX10_tellsStep 29 = .ok (.iastore, 1) := by decide +kernel
theorem dX10_tellsStep_30 : decode cX10_tellsStep 30 = .ok (.aload_n 0, 1) := by decide +kernel
theorem dX10_tellsStep_31 : decode cX10_tellsStep 31 = .ok (.getfield 59, 3) := by decide +kernel
theorem dX10_tellsStep_34 : decode cX10_tellsStep 34 = .ok (.aload_n 0, 1) := by decide +kernel
theorem dX10_tellsStep_35 : decode cX10_tellsStep 35 = .ok (.getfield 285, 3) := by decide +kernel
theorem dX10_tellsStep_38 : decode cX10_tellsStep 38 = .ok (.iconst 2, 1) := by decide +kernel
theorem dX10_tellsStep_39 : decode cX10_tellsStep 39 = .ok (.iadd, 1) := by decide +kernel
theorem dX10_tellsStep_40 : decode cX10_tellsStep 40 = .ok (.iload_n 3, 1) := by decide +kernel
theorem dX10_tellsStep_41 : decode cX10_tellsStep 41 = .ok (.iastore, 1) := by decide +kernel
theorem dX10_tellsStep_42 : decode cX10_tellsStep 42 = .ok (.aload_n 0, 1) := by decide +kernel
theorem dX10_tellsStep_43 : decode cX10_tellsStep 43 = .ok (.dup, 1) := by decide +kernel
theorem dX10_tellsStep_44 : decode cX10_tellsStep 44 = .ok (.getfield 285, 3) := by decide +kernel
theorem dX10_tellsStep_47 : decode cX10_tellsStep 47 = .ok (.iconst 3, 1) := by decide +kernel
theorem dX10_tellsStep_48 : decode cX10_tellsStep 48 = .ok (.iadd, 1) := by decide +kernel
theorem dX10_tellsStep_49 : decode cX10_tellsStep 49 = .ok (.putfield 285, 3) := by decide +kernel
theorem dX10_tellsStep_52 : decode cX10_tellsStep 52 = .ok (.return_, 1) := by decide +kernel
theorem dX10_stepOf_0 : decode cX10_stepOf 0 = .ok (.iload_n 0, 1) := by decide +kernel
theorem dX10_stepOf_1 : decode cX10_stepOf 1 = .ok (.ldc_w 288, 3) := by decide +kernel
theorem dX10_stepOf_4 : decode cX10_stepOf 4 = .ok (.invokestatic 196, 3) := by decide +kernel
theorem dX10_stepOf_7 : decode cX10_stepOf 7 = .ok (.if_icmp .ne 7, 3) := by decide +kernel
theorem dX10_stepOf_10 : decode cX10_stepOf 10 = .ok (.iconst 0, 1) := by decide +kernel
theorem dX10_stepOf_11 : decode cX10_stepOf 11 = .ok (.goto 89, 3) := by decide +kernel
theorem dX10_stepOf_14 : decode cX10_stepOf 14 = .ok (.iload_n 0, 1) := by decide +kernel
theorem dX10_stepOf_15 : decode cX10_stepOf 15 = .ok (.ldc_w 256, 3) := by decide +kernel
theorem dX10_stepOf_18 : decode cX10_stepOf 18 = .ok (.invokestatic 196, 3) := by decide +kernel
theorem dX10_stepOf_21 : decode cX10_stepOf 21 = .ok (.if_icmp .ne 7, 3) := by decide +kernel
theorem dX10_stepOf_24 : decode cX10_stepOf 24 = .ok (.iconst 1, 1) := by decide +kernel
theorem dX10_stepOf_25 : decode cX10_stepOf 25 = .ok (.goto 75, 3) := by decide +kernel
theorem dX10_stepOf_28 : decode cX10_stepOf 28 = .ok (.iload_n 0, 1) := by decide +kernel
theorem dX10_stepOf_29 : decode cX10_stepOf 29 = .ok (.ldc_w 290, 3) := by decide +kernel
theorem dX10_stepOf_32 : decode cX10_stepOf 32 = .ok (.invokestatic 196, 3) := by decide +kernel
theorem dX10_stepOf_35 : decode cX10_stepOf 35 = .ok (.if_icmp .ne 7, 3) := by decide +kernel
theorem dX10_stepOf_38 : decode cX10_stepOf 38 = .ok (.iconst 2, 1) := by decide +kernel
theorem dX10_stepOf_39 : decode cX10_stepOf 39 = .ok (.goto 61, 3) := by decide +kernel
theorem dX10_stepOf_42 : decode cX10_stepOf 42 = .ok (.iload_n 0, 1) := by decide +kernel
theorem dX10_stepOf_43 : decode cX10_stepOf 43 = .ok (.ldc_w 292, 3) := by decide +kernel
theorem dX10_stepOf_46 : decode cX10_stepOf 46 = .ok (.invokestatic 196, 3) := by decide +kernel
theorem dX10_stepOf_49 : decode cX10_stepOf 49 = .ok (.if_icmp .ne 7, 3) := by decide +kernel
theorem dX10_stepOf_52 : decode cX10_stepOf 52 = .ok (.iconst 3, 1) := by decide +kernel
theorem dX10_stepOf_53 : decode cX10_stepOf 53 = .ok (.goto 47, 3) := by decide +kernel
theorem dX10_stepOf_56 : decode cX10_stepOf 56 = .ok (.iload_n 0, 1) := by decide +kernel
theorem dX10_stepOf_57 : decode cX10_stepOf 57 = .ok (.ldc_w 294, 3) := by decide +kernel
theorem dX10_stepOf_60 : decode cX10_stepOf 60 = .ok (.invokestatic 196, 3) := by decide +kernel
theorem dX10_stepOf_63 : decode cX10_stepOf 63 = .ok (.if_icmp .ne 7, 3) := by decide +kernel
theorem dX10_stepOf_66 : decode cX10_stepOf 66 = .ok (.iconst 4, 1) := by decide +kernel
theorem dX10_stepOf_67 : decode cX10_stepOf 67 = .ok (.goto 33, 3) := by decide +kernel
theorem dX10_stepOf_70 : decode cX10_stepOf 70 = .ok (.iload_n 0, 1) := by decide +kernel
theorem dX10_stepOf_71 : decode cX10_stepOf 71 = .ok (.ldc_w 266, 3) := by decide +kernel
theorem dX10_stepOf_74 : decode cX10_stepOf 74 = .ok (.invokestatic 196, 3) := by decide +kernel
theorem dX10_stepOf_77 : decode cX10_stepOf 77 = .ok (.if_icmp .ne 7, 3) := by decide +kernel
theorem dX10_stepOf_80 : decode cX10_stepOf 80 = .ok (.iconst 5, 1) := by decide +kernel
theorem dX10_stepOf_81 : decode cX10_stepOf 81 = .ok (.goto 19, 3) := by decide +kernel
theorem dX10_stepOf_84 : decode cX10_stepOf 84 = .ok (.iload_n 0, 1) := by decide +kernel
theorem dX10_stepOf_85 : decode cX10_stepOf 85 = .ok (.ldc_w 296, 3) := by decide +kernel
theorem dX10_stepOf_88 : decode cX10_stepOf 88 = .ok (.invokestatic 196, 3) := by decide +kernel
theorem dX10_stepOf_91 : decode cX10_stepOf 91 = .ok (.if_icmp .ne 8, 3) := by decide +kernel
theorem dX10_stepOf_94 : decode cX10_stepOf 94 = .ok (.bipush 6, 2) := by decide +kernel
theorem dX10_stepOf_96 : decode cX10_stepOf 96 = .ok (.goto 4, 3) := by decide +kernel
theorem dX10_stepOf_99 : decode cX10_stepOf 99 = .ok (.iconst (-1), 1) := by decide +kernel
theorem dX10_stepOf_100 : decode cX10_stepOf 100 = .ok (.ireturn, 1) := by decide +kernel
theorem dX10_readFirst_0 : decode cX10_readFirst 0 = .ok (.iload_n 1, 1) := by decide +kernel
theorem dX10_readFirst_1 : decode cX10_readFirst 1 = .ok (.iconst 5, 1) := by decide +kernel
theorem dX10_readFirst_2 : decode cX10_readFirst 2 = .ok (.if_icmp .ne 7, 3) := by decide +kernel
theorem dX10_readFirst_5 : decode cX10_readFirst 5 = .ok (.iconst 0, 1) := by decide +kernel
theorem dX10_readFirst_6 : decode cX10_readFirst 6 = .ok (.goto 67, 3) := by decide +kernel
theorem dX10_readFirst_9 : decode cX10_readFirst 9 = .ok (.iload_n 1, 1) := by decide +kernel
theorem dX10_readFirst_10 : decode cX10_readFirst 10 = .ok (.ifCond .ne 13, 3) := by decide +kernel
theorem dX10_readFirst_13 : decode cX10_readFirst 13 = .ok (.aload_n 0, 1) := by decide +kernel
theorem dX10_readFirst_14 : decode cX10_readFirst 14 = .ok (.iconst 1, 1) := by decide +kernel
theorem dX10_readFirst_15 : decode cX10_readFirst 15 = .ok (.bipush 30, 2) := by decide +kernel
theorem dX10_readFirst_17 : decode cX10_readFirst 17 = .ok (.invokevirtual 188, 3) := by decide +kernel
theorem dX10_readFirst_20 : decode cX10_readFirst 20 = .ok (.goto 53, 3) := by decide +kernel
theorem dX10_readFirst_23 : decode cX10_readFirst 23 = .ok (.iload_n 1, 1) := by decide +kernel
theorem dX10_readFirst_24 : decode cX10_readFirst 24 = .ok (.iconst 1, 1) := by decide +kernel
theorem dX10_readFirst_25 : decode cX10_readFirst 25 = .ok (.if_icmp .ne 13, 3) := by decide +kernel
theorem dX10_readFirst_28 : decode cX10_readFirst 28 = .ok (.aload_n 0, 1) := by decide +kernel
theorem dX10_readFirst_29 : decode cX10_readFirst 29 = .ok (.iconst 1, 1) := by decide +kernel
theorem dX10_readFirst_30 : decode cX10_readFirst 30 = .ok (.bipush 20, 2) := by decide +kernel
theorem dX10_readFirst_32 : decode cX10_readFirst 32 = .ok (.invokevirtual 188, 3) := by decide +kernel
theorem dX10_readFirst_35 : decode cX10_readFirst 35 = .ok (.goto 38, 3) := by decide +kernel
theorem dX10_readFirst_38 : decode cX10_readFirst 38 = .ok (.aload_n 0, 1) := by decide +kernel
theorem dX10_readFirst_39 : decode cX10_readFirst 39 = .ok (.iconst 0, 1) := by decide +kernel
theorem dX10_readFirst_40 : decode cX10_readFirst 40 = .ok (.iload_n 1, 1) := by decide +kernel
theorem dX10_readFirst_41 : decode cX10_readFirst 41 = .ok (.iconst 2, 1) := by decide +kernel
theorem dX10_readFirst_42 : decode cX10_readFirst 42 = .ok (.if_icmp .ne 10, 3) := by decide +kernel
theorem dX10_readFirst_45 : decode cX10_readFirst 45 = .ok (.aload_n 0, 1) := by decide +kernel
theorem dX10_readFirst_46 : decode cX10_readFirst 46 = .ok (.getfield 163, 3) := by decide +kernel
theorem dX10_readFirst_49 : decode cX10_readFirst 49 = .ok (.goto 19, 3) := by decide +kernel
theorem dX10_readFirst_52 : decode cX10_readFirst 52 = .ok (.iload_n 1, 1) := by decide +kernel
theorem dX10_readFirst_53 : decode cX10_readFirst 53 = .ok (.iconst 3, 1) := by decide +kernel
theorem dX10_readFirst_54 : decode cX10_readFirst 54 = .ok (.if_icmp .ne 10, 3) := by decide +kernel
theorem dX10_readFirst_57 : decode cX10_readFirst 57 = .ok (.aload_n 0, 1) := by decide +kernel
theorem dX10_readFirst_58 : decode cX10_readFirst 58 = .ok (.getfield 166, 3) := by decide +kernel
theorem dX10_readFirst_61 : decode cX10_readFirst 61 = .ok (.goto 7, 3) := by decide +kernel
theorem dX10_readFirst_64 : decode cX10_readFirst 64 = .ok (.aload_n 0, 1) := by decide +kernel
theorem dX10_readFirst_65 : decode cX10_readFirst 65 = .ok (.getfield 160, 3) := by decide +kernel
theorem dX10_readFirst_68 : decode cX10_readFirst 68 = .ok (.iconst 1, 1) := by decide +kernel
theorem dX10_readFirst_69 : decode cX10_readFirst 69 = .ok (.isub, 1) := by decide +kernel
theorem dX10_readFirst_70 : decode cX10_readFirst 70 = .ok (.invokevirtual 188, 3) := by decide +kernel
theorem dX10_readFirst_73 : decode cX10_readFirst 73 = .ok (.ireturn, 1) := by decide +kernel
theorem dX10_readAgain_0 : decode cX10_readAgain 0 = .ok (.aload_n 0, 1) := by decide +kernel
theorem dX10_readAgain_1 : decode cX10_readAgain 1 = .ok (.iconst 5, 1) := by decide +kernel
theorem dX10_readAgain_2 : decode cX10_readAgain 2 = .ok (.invokevirtual 250, 3) := by decide +kernel
theorem dX10_readAgain_5 : decode cX10_readAgain 5 = .ok (.aload_n 0, 1) := by decide +kernel
theorem dX10_readAgain_6 : decode cX10_readAgain 6 = .ok (.iconst 0, 1) := by decide +kernel
theorem dX10_readAgain_7 : decode cX10_readAgain 7 = .ok (.bipush 30, 2) := by decide +kernel
theorem dX10_readAgain_9 : decode cX10_readAgain 9 = .ok (.invokevirtual 188, 3) := by decide +kernel
theorem dX10_readAgain_12 : decode cX10_readAgain 12 = .ok (.istore_n 1, 1) := by decide +kernel
theorem dX10_readAgain_13 : decode cX10_readAgain 13 = .ok (.aload_n 0, 1) := by decide +kernel
theorem dX10_readAgain_14 : decode cX10_readAgain 14 = .ok (.bipush 91, 2) := by decide +kernel
theorem dX10_readAgain_16 : decode cX10_readAgain 16 = .ok (.invokevirtual 231, 3) := by decide +kernel
theorem dX10_readAgain_19 : decode cX10_readAgain 19 = .ok (.aload_n 0, 1) := by decide +kernel
theorem dX10_readAgain_20 : decode cX10_readAgain 20 = .ok (.getfield 285, 3) := by decide +kernel
theorem dX10_readAgain_23 : decode cX10_readAgain 23 = .ok (.istore_n 2, 1) := by decide +kernel
theorem dX10_readAgain_24 : decode cX10_readAgain 24 = .ok (.aload_n 0, 1) := by decide +kernel
theorem dX10_readAgain_25 : decode cX10_readAgain 25 = .ok (.bipush 6, 2) := by decide +kernel
theorem dX10_readAgain_27 : decode cX10_readAgain 27 = .ok (.iload_n 1, 1) := by decide +kernel
theorem dX10_readAgain_28 : decode cX10_readAgain 28 = .ok (.iconst 0, 1) := by decide +kernel
theorem dX10_readAgain_29 : decode cX10_readAgain 29 = .ok (.invokevirtual 298, 3) := by decide +kernel
theorem dX10_readAgain_32 : decode cX10_readAgain 32 = .ok (.aload_n 0, 1) := by decide +kernel
theorem dX10_readAgain_33 : decode cX10_readAgain 33 = .ok (.invokevirtual 137, 3) := by decide +kernel
theorem dX10_readAgain_36 : decode cX10_readAgain 36 = .ok (.ifCond .eq 19, 3) := by decide +kernel
theorem dX10_readAgain_39 : decode cX10_readAgain 39 = .ok (.aload_n 0, 1) := by decide +kernel
theorem dX10_readAgain_40 : decode cX10_readAgain 40 = .ok (.invokevirtual 120, 3) := by decide +kernel
theorem dX10_readAgain_43 : decode cX10_readAgain 43 = .ok (.bipush 93, 2) := by decide +kernel
theorem dX10_readAgain_45 : decode cX10_readAgain 45 = .ok (.if_icmp .eq 10, 3) := by decide +kernel
theorem dX10_readAgain_48 : decode cX10_readAgain 48 = .ok (.aload_n 0, 1) := by decide +kernel
theorem dX10_readAgain_49 : decode cX10_readAgain 49 = .ok (.invokevirtual 302, 3) := by decide +kernel
theorem dX10_readAgain_52 : decode cX10_readAgain 52 = .ok (.goto (-20), 3) := by decide +kernel
theorem dX10_readAgain_55 : decode cX10_readAgain 55 = .ok (.aload_n 0, 1) := by decide +kernel
theorem dX10_readAgain_56 : decode cX10_readAgain 56 = .ok (.bipush 93, 2) := by decide +kernel
theorem dX10_readAgain_58 : decode cX10_readAgain 58 = .ok (.invokevirtual 231, 3) := by decide +kernel
theorem dX10_readAgain_61 : decode cX10_readAgain 61 = .ok (.aload_n 0, 1) := by decide +kernel
theorem dX10_readAgain_62 : decode cX10_readAgain 62 = .ok (.dup, 1) := by decide +kernel
theorem dX10_readAgain_63 : decode cX10_readAgain 63 = .ok (.getfield 148, 3) := by decide +kernel
theorem dX10_readAgain_66 : decode cX10_readAgain 66 = .ok (.iconst 1, 1) := by decide +kernel
theorem dX10_readAgain_67 : decode cX10_readAgain 67 = .ok (.isub, 1) := by decide +kernel
theorem dX10_readAgain_68 : decode cX10_readAgain 68 = .ok (.putfield 148, 3) := by decide +kernel
theorem dX10_readAgain_71 : decode cX10_readAgain 71 = .ok (.aload_n 0, 1) := by decide +kernel
theorem dX10_readAgain_72 : decode cX10_readAgain 72 = .ok (.invokevirtual 137, 3) := by decide +kernel
theorem dX10_readAgain_75 : decode cX10_readAgain 75 = .ok (.ifCond .eq 15, 3) := by decide +kernel
theorem dX10_readAgain_78 : decode cX10_readAgain 78 = .ok (.aload_n 0, 1) := by decide +kernel
theorem dX10_readAgain_79 : decode cX10_readAgain 79 = .ok (.getfield 59, 3) := by decide +kernel
theorem dX10_readAgain_82 : decode cX10_readAgain 82 = .ok (.iload_n 2, 1) := by decide +kernel
theorem dX10_readAgain_83 : decode cX10_readAgain 83 = .ok (.iconst 2, 1) := by decide +kernel
theorem dX10_readAgain_84 : decode cX10_readAgain 84 = .ok (.iadd, 1) := by decide +kernel
theorem dX10_readAgain_85 : decode cX10_readAgain 85 = .ok (.aload_n 0, 1) := by decide +kernel
theorem dX10_readAgain_86 : decode cX10_readAgain 86 = .ok (.getfield 285, 3) := by decide +kernel
theorem dX10_readAgain_89 : decode cX10_readAgain 89 = .ok (.iastore, 1) := by decide +kernel
theorem dX10_readAgain_90 : decode cX10_readAgain 90 = .ok (.return_, 1) := by decide +kernel
theorem dX10_readStep_0 : decode cX10_readStep 0 = .ok (.aload_n 0, 1) := by decide +kernel
theorem dX10_readStep_1 : decode cX10_readStep 1 = .ok (.invokevirtual 216, 3) := by decide +kernel
theorem dX10_readStep_4 : decode cX10_readStep 4 = .ok (.invokestatic 305, 3) := by decide +kernel
theorem dX10_readStep_7 : decode cX10_readStep 7 = .ok (.istore_n 1, 1) := by decide +kernel
theorem dX10_readStep_8 : decode cX10_readStep 8 = .ok (.iload_n 1, 1) := by decide +kernel
theorem dX10_readStep_9 : decode cX10_readStep 9 = .ok (.iconst (-1), 1) := by decide +kernel
theorem dX10_readStep_10 : decode cX10_readStep 10 = .ok (.if_icmp .ne 15, 3) := by decide +kernel
theorem dX10_readStep_13 : decode cX10_readStep 13 = .ok (.aload_n 0, 1) := by decide +kernel
theorem dX10_readStep_14 : decode cX10_readStep 14 = .ok (.iconst 1, 1) := by decide +kernel
theorem dX10_readStep_15 : decode cX10_readStep 15 = .ok (.aload_n 0, 1) := by decide +kernel
theorem dX10_readStep_16 : decode cX10_readStep 16 = .ok (.getfield 114, 3) := by decide +kernel
theorem dX10_readStep_19 : decode cX10_readStep 19 = .ok (.invokevirtual 144, 3) := by decide +kernel
theorem dX10_readStep_22 : decode cX10_readStep 22 = .ok (.goto 52, 3) := by decide +kernel
theorem dX10_readStep_25 : decode cX10_readStep 25 = .ok (.iload_n 1, 1) := by decide +kernel
theorem dX10_readStep_26 : decode cX10_readStep 26 = .ok (.bipush 6, 2) := by decide +kernel
theorem dX10_readStep_28 : decode cX10_readStep 28 = .ok (.if_icmp .ne 10, 3) := by decide +kernel
theorem dX10_readStep_31 : decode cX10_readStep 31 = .ok (.aload_n 0, 1) := by decide +kernel
theorem dX10_readStep_32 : decode cX10_readStep 32 = .ok (.invokevirtual 308, 3) := by decide +kernel
theorem dX10_readStep_35 : decode cX10_readStep 35 = .ok (.goto 39, 3) := by decide +kernel
theorem dX10_readStep_38 : decode cX10_readStep 38 = .ok (.aload_n 0, 1) := by decide +kernel
theorem dX10_readStep_39 : decode cX10_readStep 39 = .ok (.invokevirtual 225, 3) := by decide +kernel
theorem dX10_readStep_42 : decode cX10_readStep 42 = .ok (.aload_n 0, 1) := by decide +kernel
theorem dX10_readStep_43 : decode cX10_readStep 43 = .ok (.iload_n 1, 1) := by decide +kernel
theorem dX10_readStep_44 : decode cX10_readStep 44 = .ok (.invokevirtual 311, 3) := by decide +kernel
theorem dX10_readStep_47 : decode cX10_readStep 47 = .ok (.istore_n 2, 1) := by decide +kernel
theorem dX10_readStep_48 : decode cX10_readStep 48 = .ok (.aload_n 0, 1) := by decide +kernel
theorem dX10_readStep_49 : decode cX10_readStep 49 = .ok (.iload_n 1, 1) := by decide +kernel
theorem dX10_readStep_50 : decode cX10_readStep 50 = .ok (.iload_n 2, 1) := by decide +kernel
theorem dX10_readStep_51 : decode cX10_readStep 51 = .ok (.iload_n 1, 1) := by decide +kernel
theorem dX10_readStep_52 : decode cX10_readStep 52 = .ok (.iconst 3, 1) := by decide +kernel
theorem dX10_readStep_53 : decode cX10_readStep 53 = .ok (.if_icmp .ne 17, 3) := by decide +kernel
theorem dX10_readStep_56 : decode cX10_readStep 56 = .ok (.aload_n 0, 1) := by decide +kernel
theorem dX10_readStep_57 : decode cX10_readStep 57 = .ok (.iconst 0, 1) := by decide +kernel
theorem dX10_readStep_58 : decode cX10_readStep 58 = .ok (.aload_n 0, 1) := by decide +kernel
theorem dX10_readStep_59 : decode cX10_readStep 59 = .ok (.getfield 160, 3) := by decide +kernel
theorem dX10_readStep_62 : decode cX10_readStep 62 = .ok (.iconst 1, 1) := by decide +kernel
theorem dX10_readStep_63 : decode cX10_readStep 63 = .ok (.isub, 1) := by decide +kernel
theorem dX10_readStep_64 : decode cX10_readStep 64 = .ok (.invokevirtual 188, 3) := by decide +kernel
theorem dX10_readStep_67 : decode cX10_readStep 67 = .ok (.goto 4, 3) := by decide +kernel
theorem dX10_readStep_70 : decode cX10_readStep 70 = .ok (.iconst 0, 1) := by decide +kernel
theorem dX10_readStep_71 : decode cX10_readStep 71 = .ok (.invokevirtual 298, 3) := by decide +kernel
theorem dX10_readStep_74 : decode cX10_readStep 74 = .ok (.aload_n 0, 1) := by decide +kernel
theorem dX10_readStep_75 : decode cX10_readStep 75 = .ok (.bipush 59, 2) := by decide +kernel
theorem dX10_readStep_77 : decode cX10_readStep 77 = .ok (.invokevirtual 231, 3) := by decide +kernel
theorem dX10_readStep_80 : decode cX10_readStep 80 = .ok (.return_, 1) := by decide +kernel
theorem dX10_work_0 : decode cX10_work 0 = .ok (.aload_n 0, 1) := by decide +kernel
theorem dX10_work_1 : decode cX10_work 1 = .ok (.iconst 0, 1) := by decide +kernel
theorem dX10_work_2 : decode cX10_work 2 = .ok (.putfield 3, 3) := by decide +kernel
theorem dX10_work_5 : decode cX10_work 5 = .ok (.aload_n 0, 1) := by decide +kernel
theorem dX10_work_6 : decode cX10_work 6 = .ok (.iload_n 1, 1) := by decide +kernel
theorem dX10_work_7 : decode cX10_work 7 = .ok (.ifCond .lt 22, 3) := by decide +kernel
theorem dX10_work_10 : decode cX10_work 10 = .ok (.iload_n 1, 1) := by decide +kernel
theorem dX10_work_11 : decode cX10_work 11 = .ok (.aload_n 0, 1) := by decide +kernel
theorem dX10_work_12 : decode cX10_work 12 = .ok (.getfield 105, 3) := by decide +kernel
theorem dX10_work_15 : decode cX10_work 15 = .ok (.if_icmp .gt 14, 3) := by decide +kernel
theorem dX10_work_18 : decode cX10_work 18 = .ok (.iload_n 1, 1) := by decide +kernel
theorem dX10_work_19 : decode cX10_work 19 = .ok (.sipush 150, 3) := by decide +kernel
theorem dX10_work_22 : decode cX10_work 22 = .ok (.if_icmp .gt 7, 3) := by decide +kernel
theorem dX10_work_25 : decode cX10_work 25 = .ok (.iconst 1, 1) := by decide +kernel
theorem dX10_work_26 : decode cX10_work 26 = .ok (.goto 4, 3) := by decide +kernel
theorem dX10_work_29 : decode cX10_work 29 = .ok (.iconst 0, 1) := by decide +kernel
theorem dX10_work_30 : decode cX10_work 30 = .ok (.iconst 1, 1) := by decide +kernel
theorem dX10_work_31 : decode cX10_work 31 = .ok (.iconst 1, 1) := by decide +kernel
theorem dX10_work_32 : decode cX10_work 32 = .ok (.invokevirtual 205, 3) := by decide +kernel
theorem dX10_work_35 : decode cX10_work 35 = .ok (.ifCond .ne 5, 3) := by decide +kernel
theorem dX10_work_38 : decode cX10_work 38 = .ok (.iconst 0, 1) := by decide +kernel
theorem dX10_work_39 : decode cX10_work 39 = .ok (.ireturn, 1) := by decide +kernel
theorem dX10_work_40 : decode cX10_work 40 = .ok (.aload_n 0, 1) := by decide +kernel
theorem dX10_work_41 : decode cX10_work 41 = .ok (.iload_n 1, 1) := by decide +kernel
theorem dX10_work_42 : decode cX10_work 42 = .ok (.invokevirtual 209, 3) := by decide +kernel
theorem dX10_work_45 : decode cX10_work 45 = .ok (.aload_n 0, 1) := by decide +kernel
theorem dX10_work_46 : decode cX10_work 46 = .ok (.getfield 179, 3) := by decide +kernel
theorem dX10_work_49 : decode cX10_work 49 = .ok (.bipush 16, 2) := by decide +kernel
theorem dX10_work_51 : decode cX10_work 51 = .ok (.if_icmp .ne 12, 3) := by decide +kernel
theorem dX10_work_54 : decode cX10_work 54 = .ok (.aload_n 0, 1) := by decide +kernel
theorem dX10_work_55 : decode cX10_work 55 = .ok (.iconst 0, 1) := by decide +kernel
theorem dX10_work_56 : decode cX10_work 56 = .ok (.invokevirtual 234, 3) := by decide +kernel
theorem dX10_work_59 : decode cX10_work 59 = .ok (.pop, 1) := by decide +kernel
theorem dX10_work_60 : decode cX10_work 60 = .ok (.bipush (-20), 2) := by decide +kernel
theorem dX10_work_62 : decode cX10_work 62 = .ok (.ireturn, 1) := by decide +kernel
theorem dX10_work_63 : decode cX10_work 63 = .ok (.aload_n 0, 1) := by decide +kernel
theorem dX10_work_64 : decode cX10_work 64 = .ok (.iconst 0, 1) := by decide +kernel
theorem dX10_work_65 : decode cX10_work 65 = .ok (.putfield 285, 3) := by decide +kernel
theorem dX10_work_68 : decode cX10_work 68 = .ok (.aload_n 0, 1) := by decide +kernel
theorem dX10_work_69 : decode cX10_work 69 = .ok (.invokevirtual 137, 3) := by decide +kernel
theorem dX10_work_72 : decode cX10_work 72 = .ok (.ifCond .eq 17, 3) := by decide +kernel
theorem dX10_work_75 : decode cX10_work 75 = .ok (.aload_n 0, 1) := by decide +kernel
theorem dX10_work_76 : decode cX10_work 76 = .ok (.invokevirtual 213, 3) := by decide +kernel
theorem dX10_work_79 : decode cX10_work 79 = .ok (.ifCond .eq 10, 3) := by decide +kernel
theorem dX10_work_82 : decode cX10_work 82 = .ok (.aload_n 0, 1) := by decide +kernel
theorem dX10_work_83 : decode cX10_work 83 = .ok (.invokevirtual 302, 3) := by decide +kernel
theorem dX10_work_86 : decode cX10_work 86 = .ok (.goto (-18), 3) := by decide +kernel
theorem dX10_work_89 : decode cX10_work 89 = .ok (.aload_n 0, 1) := by decide +kernel
theorem dX10_work_90 : decode cX10_work 90 = .ok (.iconst 0, 1) := by decide +kernel
theorem dX10_work_91 : decode cX10_work 91 = .ok (.invokevirtual 234, 3) := by decide +kernel
theorem dX10_work_94 : decode cX10_work 94 = .ok (.istore_n 2, 1) := by decide +kernel
theorem dX10_work_95 : decode cX10_work 95 = .ok (.aload_n 0, 1) := by decide +kernel
theorem dX10_work_96 : decode cX10_work 96 = .ok (.getfield 108, 3) := by decide +kernel
theorem dX10_work_99 : decode cX10_work 99 = .ok (.iconst (-1), 1) := by decide +kernel
theorem dX10_work_100 : decode cX10_work 100 = .ok (.if_icmp .eq 5, 3) := by decide +kernel
theorem dX10_work_103 : decode cX10_work 103 = .ok (.iload_n 2, 1) := by decide +kernel
theorem dX10_work_104 : decode cX10_work 104 = .ok (.ireturn, 1) := by decide +kernel
theorem dX10_work_105 : decode cX10_work 105 = .ok (.aload_n 0, 1) := by decide +kernel
theorem dX10_work_106 : decode cX10_work 106 = .ok (.aload_n 0, 1) := by decide +kernel
theorem dX10_work_107 : decode cX10_work 107 = .ok (.getfield 59, 3) := by decide +kernel
theorem dX10_work_110 : decode cX10_work 110 = .ok (.aload_n 0, 1) := by decide +kernel
theorem dX10_work_111 : decode cX10_work 111 = .ok (.getfield 62, 3) := by decide +kernel
theorem dX10_work_114 : decode cX10_work 114 = .ok (.aload_n 0, 1) := by decide +kernel
theorem dX10_work_115 : decode cX10_work 115 = .ok (.getfield 285, 3) := by decide +kernel
theorem dX10_work_118 : decode cX10_work 118 = .ok (.invokevirtual 169, 3) := by decide +kernel
theorem dX10_work_121 : decode cX10_work 121 = .ok (.iconst 0, 1) := by decide +kernel
theorem dX10_work_122 : decode cX10_work 122 = .ok (.istore_n 3, 1) := by decide +kernel
theorem dX10_work_123 : decode cX10_work 123 = .ok (.iload_n 3, 1) := by decide +kernel
theorem dX10_work_124 : decode cX10_work 124 = .ok (.sipush 165, 3) := by decide +kernel
theorem dX10_work_127 : decode cX10_work 127 = .ok (.if_icmp .ge 30, 3) := by decide +kernel
theorem dX10_work_130 : decode cX10_work 130 = .ok (.aload_n 0, 1) := by decide +kernel
theorem dX10_work_131 : decode cX10_work 131 = .ok (.getfield 71, 3) := by decide +kernel
theorem dX10_work_134 : decode cX10_work 134 = .ok (.sipush 165, 3) := by decide +kernel
theorem dX10_work_137 : decode cX10_work 137 = .ok (.aload_n 0, 1) := by decide +kernel
theorem dX10_work_138 : decode cX10_work 138 = .ok (.getfield 179, 3) := by decide +kernel
theorem dX10_work_141 : decode cX10_work 141 = .ok (.imul, 1) := by decide +kernel
theorem dX10_work_142 : decode cX10_work 142 = .ok (.iload_n 3, 1) := by decide +kernel
theorem dX10_work_143 : decode cX10_work 143 = .ok (.iadd, 1) := by decide +kernel
theorem dX10_work_144 : decode cX10_work 144 = .ok (.aload_n 0, 1) := by decide +kernel
theorem dX10_work_145 : decode cX10_work 145 = .ok (.getfield 65, 3) := by decide +kernel
theorem dX10_work_148 : decode cX10_work 148 = .ok (.iload_n 3, 1) := by decide +kernel
theorem dX10_work_149 : decode cX10_work 149 = .ok (.iaload, 1) := by decide +kernel
theorem dX10_work_150 : decode cX10_work 150 = .ok (.iastore, 1) := by decide +kernel
theorem dX10_work_151 : decode cX10_work 151 = .ok (.iinc 3 1, 3) := by decide +kernel
theorem dX10_work_154 : decode cX10_work 154 = .ok (.goto (-31), 3) := by decide +kernel
theorem dX10_work_157 : decode cX10_work 157 = .ok (.aload_n 0, 1) := by decide +kernel
theorem dX10_work_158 : decode cX10_work 158 = .ok (.dup, 1) := by decide +kernel
theorem dX10_work_159 : decode cX10_work 159 = .ok (.getfield 179, 3) := by decide +kernel
theorem dX10_work_162 : decode cX10_work 162 = .ok (.iconst 1, 1) := by decide +kernel
theorem dX10_work_163 : decode cX10_work 163 = .ok (.iadd, 1) := by decide +kernel
theorem dX10_work_164 : decode cX10_work 164 = .ok (.putfield 179, 3) := by decide +kernel
theorem dX10_work_167 : decode cX10_work 167 = .ok (.aload_n 0, 1) := by decide +kernel
theorem dX10_work_168 : decode cX10_work 168 = .ok (.invokevirtual 314, 3) := by decide +kernel
theorem dX10_work_171 : decode cX10_work 171 = .ok (.aload_n 0, 1) := by decide +kernel
theorem dX10_work_172 : decode cX10_work 172 = .ok (.iconst 0, 1) := by decide +kernel
theorem dX10_work_173 : decode cX10_work 173 = .ok (.putfield 317, 3) := by decide +kernel
theorem dX10_work_176 : decode cX10_work 176 = .ok (.aload_n 0, 1) := by decide +kernel
theorem dX10_work_177 : decode cX10_work 177 = .ok (.iconst 0, 1) := by decide +kernel
theorem dX10_work_178 : decode cX10_work 178 = .ok (.putfield 320, 3) := by decide +kernel
theorem dX10_work_181 : decode cX10_work 181 = .ok (.aload_n 0, 1) := by decide +kernel
theorem dX10_work_182 : decode cX10_work 182 = .ok (.iconst 0, 1) := by decide +kernel
theorem dX10_work_183 : decode cX10_work 183 = .ok (.putfield 323, 3) := by decide +kernel
theorem dX10_work_186 : decode cX10_work 186 = .ok (.aload_n 0, 1) := by decide +kernel
theorem dX10_work_187 : decode cX10_work 187 = .ok (.iconst 0, 1) := by decide +kernel
theorem dX10_work_188 : decode cX10_work 188 = .ok (.aload_n 0, 1) := by decide +kernel
theorem dX10_work_189 : decode cX10_work 189 = .ok (.getfield 285, 3) := by decide +kernel
theorem dX10_work_192 : decode cX10_work 192 = .ok (.invokevirtual 326, 3) := by decide +kernel
theorem dX10_work_195 : decode cX10_work 195 = .ok (.aload_n 0, 1) := by decide +kernel
theorem dX10_work_196 : decode cX10_work 196 = .ok (.aload_n 0, 1) := by decide +kernel
theorem dX10_work_197 : decode cX10_work 197 = .ok (.getfield 68, 3) := by decide +kernel
theorem dX10_work_200 : decode cX10_work 200 = .ok (.aload_n 0, 1) := by decide +kernel
theorem dX10_work_201 : decode cX10_work 201 = .ok (.getfield 65, 3) := by decide +kernel
theorem dX10_work_204 : decode cX10_work 204 = .ok (.sipush 165, 3) := by decide +kernel
theorem dX10_work_207 : decode cX10_work 207 = .ok (.invokevirtual 169, 3) := by decide +kernel
theorem dX10_work_210 : decode cX10_work 210 = .ok (.aload_n 0, 1) := by decide +kernel
theorem dX10_work_211 : decode cX10_work 211 = .ok (.aload_n 0, 1) := by decide +kernel
theorem dX10_work_212 : decode cX10_work 212 = .ok (.getfield 323, 3) := by decide +kernel
theorem dX10_work_215 : decode cX10_work 215 = .ok (.putfield 185, 3) := by decide +kernel
theorem dX10_work_218 : decode cX10_work 218 = .ok (.aload_n 0, 1) := by decide +kernel
theorem dX10_work_219 : decode cX10_work 219 = .ok (.getfield 320, 3) := by decide +kernel
theorem dX10_work_222 : decode cX10_work 222 = .ok (.ireturn, 1) := by decide +kernel
theorem dX10_goesSteps_0 : decode cX10_goesSteps 0 = .ok (.iload_n 1, 1) := by decide +kernel
theorem dX10_goesSteps_1 : decode cX10_goesSteps 1 = .ok (.istore_n 3, 1) := by decide +kernel
theorem dX10_goesSteps_2 : decode cX10_goesSteps 2 = .ok (.iload_n 3, 1) := by decide +kernel
theorem dX10_goesSteps_3 : decode cX10_goesSteps 3 = .ok (.iload_n 2, 1) := by decide +kernel
theorem dX10_goesSteps_4 : decode cX10_goesSteps 4 = .ok (.if_icmp .ge 149, 3) := by decide +kernel
theorem dX10_goesSteps_7 : decode cX10_goesSteps 7 = .ok (.aload_n 0, 1) := by decide +kernel
theorem dX10_goesSteps_8 : decode cX10_goesSteps 8 = .ok (.getfield 317, 3) := by decide +kernel
theorem dX10_goesSteps_11 : decode cX10_goesSteps 11 = .ok (.sipush 200, 3) := by decide +kernel
theorem dX10_goesSteps_14 : decode cX10_goesSteps 14 = .ok (.if_icmp .ge 139, 3) := by decide +kernel
theorem dX10_goesSteps_17 : decode cX10_goesSteps 17 = .ok (.aload_n 0, 1) := by decide +kernel
theorem dX10_goesSteps_18 : decode cX10_goesSteps 18 = .ok (.dup, 1) := by decide +kernel
theorem dX10_goesSteps_19 : decode cX10_goesSteps 19 = .ok (.getfield 317, 3) := by decide +kernel
theorem dX10_goesSteps_22 : decode cX10_goesSteps 22 = .ok (.iconst 1, 1) := by decide +kernel
theorem dX10_goesSteps_23 : decode cX10_goesSteps 23 = .ok (.iadd, 1) := by decide +kernel
theorem dX10_goesSteps_24 : decode cX10_goesSteps 24 = .ok (.putfield 317, 3) := by decide +kernel
theorem dX10_goesSteps_27 : decode cX10_goesSteps 27 = .ok (.aload_n 0, 1) := by decide +kernel
theorem dX10_goesSteps_28 : decode cX10_goesSteps 28 = .ok (.getfield 62, 3) := by decide +kernel
theorem dX10_goesSteps_31 : decode cX10_goesSteps 31 = .ok (.iload_n 3, 1) := by decide +kernel
theorem dX10_goesSteps_32 : decode cX10_goesSteps 32 = .ok (.iaload, 1) := by decide +kernel
theorem dX10_goesSteps_33 : decode cX10_goesSteps 33 = .ok (.bipush 6, 2) := by decide +kernel
theorem dX10_goesSteps_35 : decode cX10_goesSteps 35 = .ok (.if_icmp .ne 60, 3) := by decide +kernel
theorem dX10_goesSteps_38 : decode cX10_goesSteps 38 = .ok (.aload_n 0, 1) := by decide +kernel
theorem dX10_goesSteps_39 : decode cX10_goesSteps 39 = .ok (.getfield 62, 3) := by decide +kernel
theorem dX10_goesSteps_42 : decode cX10_goesSteps 42 = .ok (.iload_n 3, 1) := by decide +kernel
theorem dX10_goesSteps_43 : decode cX10_goesSteps 43 = .ok (.iconst 2, 1) := by decide +kernel
theorem dX10_goesSteps_44 : decode cX10_goesSteps 44 = .ok (.iadd, 1) := by decide +kernel
theorem dX10_goesSteps_45 : decode cX10_goesSteps 45 = .ok (.iaload, 1) := by decide +kernel
theorem dX10_goesSteps_46 : decode cX10_goesSteps 46 = .ok (.istore 4, 2) := by decide +kernel
theorem dX10_goesSteps_48 : decode cX10_goesSteps 48 = .ok (.iconst 0, 1) := by decide +kernel
theorem dX10_goesSteps_49 : decode cX10_goesSteps 49 = .ok (.istore 5, 2) := by decide +kernel
theorem dX10_goesSteps_51 : decode cX10_goesSteps 51 = .ok (.iload 5, 2) := by decide +kernel
theorem dX10_goesSteps_53 : decode cX10_goesSteps 53 = .ok (.aload_n 0, 1) := by decide +kernel
theorem dX10_goesSteps_54 : decode cX10_goesSteps 54 = .ok (.getfield 62, 3) := by decide +kernel
theorem dX10_goesSteps_57 : decode cX10_goesSteps 57 = .ok (.iload_n 3, 1) := by decide +kernel
theorem dX10_goesSteps_58 : decode cX10_goesSteps 58 = .ok (.iconst 1, 1) := by decide +kernel
theorem dX10_goesSteps_59 : decode cX10_goesSteps 59 = .ok (.iadd, 1) := by decide +kernel
theorem dX10_goesSteps_60 : decode cX10_goesSteps 60 = .ok (.iaload, 1) := by decide +kernel
theorem dX10_goesSteps_61 : decode cX10_goesSteps 61 = .ok (.if_icmp .ge 28, 3) := by decide +kernel
theorem dX10_goesSteps_64 : decode cX10_goesSteps 64 = .ok (.aload_n 0, 1) := by decide +kernel
theorem dX10_goesSteps_65 : decode cX10_goesSteps 65 = .ok (.getfield 317, 3) := by decide +kernel
theorem dX10_goesSteps_68 : decode cX10_goesSteps 68 = .ok (.sipush 200, 3) := by decide +kernel
theorem dX10_goesSteps_71 : decode cX10_goesSteps 71 = .ok (.if_icmp .ge 18, 3) := by decide +kernel
theorem dX10_goesSteps_74 : decode cX10_goesSteps 74 = .ok (.aload_n 0, 1) := by decide +kernel
theorem dX10_goesSteps_75 : decode cX10_goesSteps 75 = .ok (.iload_n 3, 1) := by decide +kernel
theorem dX10_goesSteps_76 : decode cX10_goesSteps 76 = .ok (.iconst 3, 1) := by decide +kernel
theorem dX10_goesSteps_77 : decode cX10_goesSteps 77 = .ok (.iadd, 1) := by decide +kernel
theorem dX10_goesSteps_78 : decode cX10_goesSteps 78 = .ok (.iload 4, 2) := by decide +kernel
theorem dX10_goesSteps_80 : decode cX10_goesSteps 80 = .ok (.invokevirtual 326, 3) := by decide +kernel
theorem dX10_goesSteps_83 : decode cX10_goesSteps 83 = .ok (.iinc 5 1, 3) := by decide +kernel
theorem dX10_goesSteps_86 : decode cX10_goesSteps 86 = .ok (.goto (-35), 3) := by decide +kernel
theorem dX10_goesSteps_89 : decode cX10_goesSteps 89 = .ok (.iload 4, 2) := by decide +kernel
theorem dX10_goesSteps_91 : decode cX10_goesSteps 91 = .ok (.istore_n 3, 1) := by decide +kernel
theorem dX10_goesSteps_92 : decode cX10_goesSteps 92 = .ok (.goto (-90), 3) := by decide +kernel
theorem dX10_goesSteps_95 : decode cX10_goesSteps 95 = .ok (.aload_n 0, 1) := by decide +kernel
theorem dX10_goesSteps_96 : decode cX10_goesSteps 96 = .ok (.aload_n 0, 1) := by decide +kernel
theorem dX10_goesSteps_97 : decode cX10_goesSteps 97 = .ok (.getfield 62, 3) := by decide +kernel
theorem dX10_goesSteps_100 : decode cX10_goesSteps 100 = .ok (.iload_n 3, 1) := by decide +kernel
theorem dX10_goesSteps_101 : decode cX10_goesSteps 101 = .ok (.iaload, 1) := by decide +kernel
theorem dX10_goesSteps_102 : decode cX10_goesSteps 102 = .ok (.aload_n 0, 1) := by decide +kernel
theorem dX10_goesSteps_103 : decode cX10_goesSteps 103 = .ok (.getfield 62, 3) := by decide +kernel
theorem dX10_goesSteps_106 : decode cX10_goesSteps 106 = .ok (.iload_n 3, 1) := by decide +kernel
theorem dX10_goesSteps_107 : decode cX10_goesSteps 107 = .ok (.iconst 1, 1) := by decide +kernel
theorem dX10_goesSteps_108 : decode cX10_goesSteps 108 = .ok (.iadd, 1) := by decide +kernel
theorem dX10_goesSteps_109 : decode cX10_goesSteps 109 = .ok (.iaload, 1) := by decide +kernel
theorem dX10_goesSteps_110 : decode cX10_goesSteps 110 = .ok (.aload_n 0, 1) := by decide +kernel
theorem dX10_goesSteps_111 : decode cX10_goesSteps 111 = .ok (.getfield 62, 3) := by decide +kernel
theorem dX10_goesSteps_114 : decode cX10_goesSteps 114 = .ok (.iload_n 3, 1) := by decide +kernel
theorem dX10_goesSteps_115 : decode cX10_goesSteps 115 = .ok (.iconst 2, 1) := by decide +kernel
theorem dX10_goesSteps_116 : decode cX10_goesSteps 116 = .ok (.iadd, 1) := by decide +kernel
theorem dX10_goesSteps_117 : decode cX10_goesSteps 117 = .ok (.iaload, 1) := by decide +kernel
theorem dX10_goesSteps_118 : decode cX10_goesSteps 118 = .ok (.invokevirtual 329, 3) := by decide +kernel
theorem dX10_goesSteps_121 : decode cX10_goesSteps 121 = .ok (.ifCond .eq 16, 3) := by decide +kernel
theorem dX10_goesSteps_124 : decode cX10_goesSteps 124 = .ok (.aload_n 0, 1) := by decide +kernel
theorem dX10_goesSteps_125 : decode cX10_goesSteps 125 = .ok (.dup, 1) := by decide +kernel
theorem dX10_goesSteps_126 : decode cX10_goesSteps 126 = .ok (.getfield 320, 3) := by decide +kernel
theorem dX10_goesSteps_129 : decode cX10_goesSteps 129 = .ok (.iconst 1, 1) := by decide +kernel
theorem dX10_goesSteps_130 : decode cX10_goesSteps 130 = .ok (.iadd, 1) := by decide +kernel
theorem dX10_goesSteps_131 : decode cX10_goesSteps 131 = .ok (.putfield 320, 3) := by decide +kernel
theorem dX10_goesSteps_134 : decode cX10_goesSteps 134 = .ok (.goto 13, 3) := by decide +kernel
theorem dX10_goesSteps_137 : decode cX10_goesSteps 137 = .ok (.aload_n 0, 1) := by decide +kernel
theorem dX10_goesSteps_138 : decode cX10_goesSteps 138 = .ok (.dup, 1) := by decide +kernel
theorem dX10_goesSteps_139 : decode cX10_goesSteps 139 = .ok (.getfield 323, 3) := by decide +kernel
theorem dX10_goesSteps_142 : decode cX10_goesSteps 142 = .ok (.iconst 1, 1) := by decide +kernel
theorem dX10_goesSteps_143 : decode cX10_goesSteps 143 = .ok (.iadd, 1) := by decide +kernel
theorem dX10_goesSteps_144 : decode cX10_goesSteps 144 = .ok (.putfield 323, 3) := by decide +kernel
theorem dX10_goesSteps_147 : decode cX10_goesSteps 147 = .ok (.iinc 3 3, 3) := by decide +kernel
theorem dX10_goesSteps_150 : decode cX10_goesSteps 150 = .ok (.goto (-148), 3) := by decide +kernel
theorem dX10_goesSteps_153 : decode cX10_goesSteps 153 = .ok (.return_, 1) := by decide +kernel
theorem dX10_take_0 : decode cX10_take 0 = .ok (.aload_n 0, 1) := by decide +kernel
theorem dX10_take_1 : decode cX10_take 1 = .ok (.aload_n 0, 1) := by decide +kernel
theorem dX10_take_2 : decode cX10_take 2 = .ok (.getfield 65, 3) := by decide +kernel
theorem dX10_take_5 : decode cX10_take 5 = .ok (.aload_n 0, 1) := by decide +kernel
theorem dX10_take_6 : decode cX10_take 6 = .ok (.getfield 68, 3) := by decide +kernel
theorem dX10_take_9 : decode cX10_take 9 = .ok (.sipush 165, 3) := by decide +kernel
theorem dX10_take_12 : decode cX10_take 12 = .ok (.invokevirtual 169, 3) := by decide +kernel
theorem dX10_take_15 : decode cX10_take 15 = .ok (.return_, 1) := by decide +kernel
theorem dX10_ones_0 : decode cX10_ones 0 = .ok (.iconst 0, 1) := by decide +kernel
theorem dX10_ones_1 : decode cX10_ones 1 = .ok (.istore_n 1, 1) := by decide +kernel
theorem dX10_ones_2 : decode cX10_ones 2 = .ok (.iconst 0, 1) := by decide +kernel
theorem dX10_ones_3 : decode cX10_ones 3 = .ok (.istore_n 2, 1) := by decide +kernel
theorem dX10_ones_4 : decode cX10_ones 4 = .ok (.iload_n 2, 1) := by decide +kernel
theorem dX10_ones_5 : decode cX10_ones 5 = .ok (.bipush 16, 2) := by decide +kernel
theorem dX10_ones_7 : decode cX10_ones 7 = .ok (.if_icmp .ge 17, 3) := by decide +kernel
theorem dX10_ones_10 : decode cX10_ones 10 = .ok (.iload_n 1, 1) := by decide +kernel
theorem dX10_ones_11 : decode cX10_ones 11 = .ok (.iload_n 0, 1) := by decide +kernel
theorem dX10_ones_12 : decode cX10_ones 12 = .ok (.iload_n 2, 1) := by decide +kernel
theorem dX10_ones_13 : decode cX10_ones 13 = .ok (.ishr, 1) := by decide +kernel
theorem dX10_ones_14 : decode cX10_ones 14 = .ok (.iconst 1, 1) := by decide +kernel
theorem dX10_ones_15 : decode cX10_ones 15 = .ok (.iand, 1) := by decide +kernel
theorem dX10_ones_16 : decode cX10_ones 16 = .ok (.iadd, 1) := by decide +kernel
theorem dX10_ones_17 : decode cX10_ones 17 = .ok (.istore_n 1, 1) := by decide +kernel
theorem dX10_ones_18 : decode cX10_ones 18 = .ok (.iinc 2 1, 3) := by decide +kernel
theorem dX10_ones_21 : decode cX10_ones 21 = .ok (.goto (-17), 3) := by decide +kernel
theorem dX10_ones_24 : decode cX10_ones 24 = .ok (.iload_n 1, 1) := by decide +kernel
theorem dX10_ones_25 : decode cX10_ones 25 = .ok (.ireturn, 1) := by decide +kernel
theorem dX10_leftOf_0 : decode cX10_leftOf 0 = .ok (.aload_n 0, 1) := by decide +kernel
theorem dX10_leftOf_1 : decode cX10_leftOf 1 = .ok (.getfield 35, 3) := by decide +kernel
theorem dX10_leftOf_4 : decode cX10_leftOf 4 = .ok (.bipush 10, 2) := by decide +kernel
theorem dX10_leftOf_6 : decode cX10_leftOf 6 = .ok (.iload_n 1, 1) := by decide +kernel
theorem dX10_leftOf_7 : decode cX10_leftOf 7 = .ok (.imul, 1) := by decide +kernel
theorem dX10_leftOf_8 : decode cX10_leftOf 8 = .ok (.iconst 1, 1) := by decide +kernel
theorem dX10_leftOf_9 : decode cX10_leftOf 9 = .ok (.iadd, 1) := by decide +kernel
theorem dX10_leftOf_10 : decode cX10_leftOf 10 = .ok (.iaload, 1) := by decide +kernel
theorem dX10_leftOf_11 : decode cX10_leftOf 11 = .ok (.aload_n 0, 1) := by decide +kernel
theorem dX10_leftOf_12 : decode cX10_leftOf 12 = .ok (.getfield 68, 3) := by decide +kernel
theorem dX10_leftOf_15 : decode cX10_leftOf 15 = .ok (.iconst 0, 1) := by decide +kernel
theorem dX10_leftOf_16 : decode cX10_leftOf 16 = .ok (.iload_n 1, 1) := by decide +kernel
theorem dX10_leftOf_17 : decode cX10_leftOf 17 = .ok (.iadd, 1) := by decide +kernel
theorem dX10_leftOf_18 : decode cX10_leftOf 18 = .ok (.iaload, 1) := by decide +kernel
theorem dX10_leftOf_19 : decode cX10_leftOf 19 = .ok (.isub, 1) := by decide +kernel
theorem dX10_leftOf_20 : decode cX10_leftOf 20 = .ok (.ireturn, 1) := by decide +kernel
theorem dX10_wordOf_0 : decode cX10_wordOf 0 = .ok (.aload_n 0, 1) := by decide +kernel
theorem dX10_wordOf_1 : decode cX10_wordOf 1 = .ok (.getfield 35, 3) := by decide +kernel
theorem dX10_wordOf_4 : decode cX10_wordOf 4 = .ok (.bipush 10, 2) := by decide +kernel
theorem dX10_wordOf_6 : decode cX10_wordOf 6 = .ok (.iload_n 1, 1) := by decide +kernel
theorem dX10_wordOf_7 : decode cX10_wordOf 7 = .ok (.imul, 1) := by decide +kernel
theorem dX10_wordOf_8 : decode cX10_wordOf 8 = .ok (.iconst 2, 1) := by decide +kernel
theorem dX10_wordOf_9 : decode cX10_wordOf 9 = .ok (.iadd, 1) := by decide +kernel
theorem dX10_wordOf_10 : decode cX10_wordOf 10 = .ok (.aload_n 0, 1) := by decide +kernel
theorem dX10_wordOf_11 : decode cX10_wordOf 11 = .ok (.getfield 68, 3) := by decide +kernel
theorem dX10_wordOf_14 : decode cX10_wordOf 14 = .ok (.iconst 0, 1) := by decide +kernel
theorem dX10_wordOf_15 : decode cX10_wordOf 15 = .ok (.iload_n 1, 1) := by decide +kernel
theorem dX10_wordOf_16 : decode cX10_wordOf 16 = .ok (.iadd, 1) := by decide +kernel
theorem dX10_wordOf_17 : decode cX10_wordOf 17 = .ok (.iaload, 1) := by decide +kernel
theorem dX10_wordOf_18 : decode cX10_wordOf 18 = .ok (.iadd, 1) := by decide +kernel
theorem dX10_wordOf_19 : decode cX10_wordOf 19 = .ok (.iload_n 2, 1) := by decide +kernel
theorem dX10_wordOf_20 : decode cX10_wordOf 20 = .ok (.iadd, 1) := by decide +kernel
theorem dX10_wordOf_21 : decode cX10_wordOf 21 = .ok (.iaload, 1) := by decide +kernel
theorem dX10_wordOf_22 : decode cX10_wordOf 22 = .ok (.ireturn, 1) := by decide +kernel
theorem dX10_runOf_0 : decode cX10_runOf 0 = .ok (.aload_n 0, 1) := by decide +kernel
theorem dX10_runOf_1 : decode cX10_runOf 1 = .ok (.getfield 56, 3) := by decide +kernel
theorem dX10_runOf_4 : decode cX10_runOf 4 = .ok (.iconst 0, 1) := by decide +kernel
theorem dX10_runOf_5 : decode cX10_runOf 5 = .ok (.iload_n 1, 1) := by decide +kernel
theorem dX10_runOf_6 : decode cX10_runOf 6 = .ok (.iastore, 1) := by decide +kernel
theorem dX10_runOf_7 : decode cX10_runOf 7 = .ok (.aload_n 0, 1) := by decide +kernel
theorem dX10_runOf_8 : decode cX10_runOf 8 = .ok (.getfield 56, 3) := by decide +kernel
theorem dX10_runOf_11 : decode cX10_runOf 11 = .ok (.iconst 1, 1) := by decide +kernel
theorem dX10_runOf_12 : decode cX10_runOf 12 = .ok (.iload_n 2, 1) := by decide +kernel
theorem dX10_runOf_13 : decode cX10_runOf 13 = .ok (.iastore, 1) := by decide +kernel
theorem dX10_runOf_14 : decode cX10_runOf 14 = .ok (.aload_n 0, 1) := by decide +kernel
theorem dX10_runOf_15 : decode cX10_runOf 15 = .ok (.getfield 56, 3) := by decide +kernel
theorem dX10_runOf_18 : decode cX10_runOf 18 = .ok (.iconst 2, 1) := by decide +kernel
theorem dX10_runOf_19 : decode cX10_runOf 19 = .ok (.iload_n 3, 1) := by decide +kernel
theorem dX10_runOf_20 : decode cX10_runOf 20 = .ok (.iastore, 1) := by decide +kernel
theorem dX10_runOf_21 : decode cX10_runOf 21 = .ok (.aload_n 0, 1) := by decide +kernel
theorem dX10_runOf_22 : decode cX10_runOf 22 = .ok (.getfield 56, 3) := by decide +kernel
theorem dX10_runOf_25 : decode cX10_runOf 25 = .ok (.iconst 3, 1) := by decide +kernel
theorem dX10_runOf_26 : decode cX10_runOf 26 = .ok (.iload 4, 2) := by decide +kernel
theorem dX10_runOf_28 : decode cX10_runOf 28 = .ok (.iastore, 1) := by decide +kernel
theorem dX10_runOf_29 : decode cX10_runOf 29 = .ok (.aload_n 0, 1) := by decide +kernel
theorem dX10_runOf_30 : decode cX10_runOf 30 = .ok (.getfield 56, 3) := by decide +kernel
theorem dX10_runOf_33 : decode cX10_runOf 33 = .ok (.iconst 4, 1) := by decide +kernel
theorem dX10_runOf_34 : decode cX10_runOf 34 = .ok (.iload 5, 2) := by decide +kernel
theorem dX10_runOf_36 : decode cX10_runOf 36 = .ok (.iastore, 1) := by decide +kernel
theorem dX10_runOf_37 : decode cX10_runOf 37 = .ok (.aload_n 0, 1) := by decide +kernel
theorem dX10_runOf_38 : decode cX10_runOf 38 = .ok (.getfield 56, 3) := by decide +kernel
theorem dX10_runOf_41 : decode cX10_runOf 41 = .ok (.iconst 5, 1) := by decide +kernel
theorem dX10_runOf_42 : decode cX10_runOf 42 = .ok (.iload 6, 2) := by decide +kernel
theorem dX10_runOf_44 : decode cX10_runOf 44 = .ok (.iastore, 1) := by decide +kernel
theorem dX10_runOf_45 : decode cX10_runOf 45 = .ok (.aload_n 0, 1) := by decide +kernel
theorem dX10_runOf_46 : decode cX10_runOf 46 = .ok (.getfield 56, 3) := by decide +kernel
theorem dX10_runOf_49 : decode cX10_runOf 49 = .ok (.bipush 6, 2) := by decide +kernel
theorem dX10_runOf_51 : decode cX10_runOf 51 = .ok (.iload 7, 2) := by decide +kernel
theorem dX10_runOf_53 : decode cX10_runOf 53 = .ok (.iastore, 1) := by decide +kernel
theorem dX10_runOf_54 : decode cX10_runOf 54 = .ok (.aload_n 0, 1) := by decide +kernel
theorem dX10_runOf_55 : decode cX10_runOf 55 = .ok (.invokevirtual 333, 3) := by decide +kernel
theorem dX10_runOf_58 : decode cX10_runOf 58 = .ok (.ireturn, 1) := by decide +kernel
theorem dX10_held_0 : decode cX10_held 0 = .ok (.iload_n 0, 1) := by decide +kernel
theorem dX10_held_1 : decode cX10_held 1 = .ok (.iload_n 1, 1) := by decide +kernel
theorem dX10_held_2 : decode cX10_held 2 = .ok (.if_icmp .le 7, 3) := by decide +kernel
theorem dX10_held_5 : decode cX10_held 5 = .ok (.iload_n 1, 1) := by decide +kernel
theorem dX10_held_6 : decode cX10_held 6 = .ok (.goto 4, 3) := by decide +kernel
theorem dX10_held_9 : decode cX10_held 9 = .ok (.iload_n 0, 1) := by decide +kernel
theorem dX10_held_10 : decode cX10_held 10 = .ok (.ireturn, 1) := by decide +kernel
theorem dX10_runBy_0 : decode cX10_runBy 0 = .ok (.aload_n 0, 1) := by decide +kernel
theorem dX10_runBy_1 : decode cX10_runBy 1 = .ok (.getfield 35, 3) := by decide +kernel
theorem dX10_runBy_4 : decode cX10_runBy 4 = .ok (.bipush 10, 2) := by decide +kernel
theorem dX10_runBy_6 : decode cX10_runBy 6 = .ok (.iload_n 1, 1) := by decide +kernel
theorem dX10_runBy_7 : decode cX10_runBy 7 = .ok (.imul, 1) := by decide +kernel
theorem dX10_runBy_8 : decode cX10_runBy 8 = .ok (.iaload, 1) := by decide +kernel
theorem dX10_runBy_9 : decode cX10_runBy 9 = .ok (.istore 4, 2) := by decide +kernel
theorem dX10_runBy_11 : decode cX10_runBy 11 = .ok (.aload_n 0, 1) := by decide +kernel
theorem dX10_runBy_12 : decode cX10_runBy 12 = .ok (.iload_n 2, 1) := by decide +kernel
theorem dX10_runBy_13 : decode cX10_runBy 13 = .ok (.iload_n 3, 1) := by decide +kernel
theorem dX10_runBy_14 : decode cX10_runBy 14 = .ok (.aload_n 0, 1) := by decide +kernel
theorem dX10_runBy_15 : decode cX10_runBy 15 = .ok (.iload_n 1, 1) := by decide +kernel
theorem dX10_runBy_16 : decode cX10_runBy 16 = .ok (.invokevirtual 336, 3) := by decide +kernel
theorem dX10_runBy_19 : decode cX10_runBy 19 = .ok (.aload_n 0, 1) := by decide +kernel
theorem dX10_runBy_20 : decode cX10_runBy 20 = .ok (.getfield 32, 3) := by decide +kernel
theorem dX10_runBy_23 : decode cX10_runBy 23 = .ok (.iload 4, 2) := by decide +kernel
theorem dX10_runBy_25 : decode cX10_runBy 25 = .ok (.iaload, 1) := by decide +kernel
theorem dX10_runBy_26 : decode cX10_runBy 26 = .ok (.aload_n 0, 1) := by decide +kernel
theorem dX10_runBy_27 : decode cX10_runBy 27 = .ok (.getfield 68, 3) := by decide +kernel
theorem dX10_runBy_30 : decode cX10_runBy 30 = .ok (.bipush 84, 2) := by decide +kernel
theorem dX10_runBy_32 : decode cX10_runBy 32 = .ok (.iload 4, 2) := by decide +kernel
theorem dX10_runBy_34 : decode cX10_runBy 34 = .ok (.iadd, 1) := by decide +kernel
theorem dX10_runBy_35 : decode cX10_runBy 35 = .ok (.iaload, 1) := by decide +kernel
theorem dX10_runBy_36 : decode cX10_runBy 36 = .ok (.aload_n 0, 1) := by decide +kernel
theorem dX10_runBy_37 : decode cX10_runBy 37 = .ok (.getfield 68, 3) := by decide +kernel
theorem dX10_runBy_40 : decode cX10_runBy 40 = .ok (.sipush 164, 3) := by decide +kernel
theorem dX10_runBy_43 : decode cX10_runBy 43 = .ok (.iaload, 1) := by decide +kernel
theorem dX10_runBy_44 : decode cX10_runBy 44 = .ok (.iload_n 1, 1) := by decide +kernel
theorem dX10_runBy_45 : decode cX10_runBy 45 = .ok (.invokevirtual 339, 3) := by decide +kernel
theorem dX10_runBy_48 : decode cX10_runBy 48 = .ok (.aload_n 0, 1) := by decide +kernel
theorem dX10_runBy_49 : decode cX10_runBy 49 = .ok (.iload_n 1, 1) := by decide +kernel
theorem dX10_runBy_50 : decode cX10_runBy 50 = .ok (.invokevirtual 336, 3) := by decide +kernel
theorem dX10_runBy_53 : decode cX10_runBy 53 = .ok (.invokestatic 343, 3) := by decide +kernel
theorem dX10_runBy_56 : decode cX10_runBy 56 = .ok (.ireturn, 1) := by decide +kernel
theorem dX10_runsOut_0 : decode cX10_runsOut 0 = .ok (.aload_n 0, 1) := by decide +kernel
theorem dX10_runsOut_1 : decode cX10_runsOut 1 = .ok (.getfield 35, 3) := by decide +kernel
theorem dX10_runsOut_4 : decode cX10_runsOut 4 = .ok (.bipush 10, 2) := by decide +kernel
theorem dX10_runsOut_6 : decode cX10_runsOut 6 = .ok (.iload_n 1, 1) := by decide +kernel
theorem dX10_runsOut_7 : decode cX10_runsOut 7 = .ok (.imul, 1) := by decide +kernel
theorem dX10_runsOut_8 : decode cX10_runsOut 8 = .ok (.iaload, 1) := by decide +kernel
theorem dX10_runsOut_9 : decode cX10_runsOut 9 = .ok (.istore_n 3, 1) := by decide +kernel
theorem dX10_runsOut_10 : decode cX10_runsOut 10 = .ok (.iconst 0, 1) := by decide +kernel
theorem dX10_runsOut_11 : decode cX10_runsOut 11 = .ok (.istore 4, 2) := by decide +kernel
theorem dX10_runsOut_13 : decode cX10_runsOut 13 = .ok (.iload 4, 2) := by decide +kernel
theorem dX10_runsOut_15 : decode cX10_runsOut 15 = .ok (.iload_n 2, 1) := by decide +kernel
theorem dX10_runsOut_16 : decode cX10_runsOut 16 = .ok (.if_icmp .ge 91, 3) := by decide +kernel
theorem dX10_runsOut_19 : decode cX10_runsOut 19 = .ok (.aload_n 0, 1) := by decide +kernel
theorem dX10_runsOut_20 : decode cX10_runsOut 20 = .ok (.getfield 68, 3) := by decide +kernel
theorem dX10_runsOut_23 : decode cX10_runsOut 23 = .ok (.bipush 84, 2) := by decide +kernel
theorem dX10_runsOut_25 : decode cX10_runsOut 25 = .ok (.iload_n 3, 1) := by decide +kernel
theorem dX10_runsOut_26 : decode cX10_runsOut 26 = .ok (.iadd, 1) := by decide +kernel
theorem dX10_runsOut_27 : decode cX10_runsOut 27 = .ok (.iaload, 1) := by decide +kernel
theorem dX10_runsOut_28 : decode cX10_runsOut 28 = .ok (.bipush 12, 2) := by decide +kernel
theorem dX10_runsOut_30 : decode cX10_runsOut 30 = .ok (.if_icmp .ne 18, 3) := by decide +kernel
theorem dX10_runsOut_33 : decode cX10_runsOut 33 = .ok (.aload_n 0, 1) := by decide +kernel
theorem dX10_runsOut_34 : decode cX10_runsOut 34 = .ok (.getfield 68, 3) := by decide +kernel
theorem dX10_runsOut_37 : decode cX10_runsOut 37 = .ok (.sipush 162, 3) := by decide +kernel
theorem dX10_runsOut_40 : decode cX10_runsOut 40 = .ok (.dup2, 1) := by decide +kernel
theorem dX10_runsOut_41 : decode cX10_runsOut 41 = .ok (.iaload, 1) := by decide +kernel
theorem dX10_runsOut_42 : decode cX10_runsOut 42 = .ok (.iconst 1, 1) := by decide +kernel
theorem dX10_runsOut_43 : decode cX10_runsOut 43 = .ok (.iadd, 1) := by decide +kernel
theorem dX10_runsOut_44 : decode cX10_runsOut 44 = .ok (.iastore, 1) := by decide +kernel
theorem dX10_runsOut_45 : decode cX10_runsOut 45 = .ok (.goto 44, 3) := by decide +kernel
theorem dX10_runsOut_48 : decode cX10_runsOut 48 = .ok (.aload_n 0, 1) := by decide +kernel
theorem dX10_runsOut_49 : decode cX10_runsOut 49 = .ok (.getfield 68, 3) := by decide +kernel
theorem dX10_runsOut_52 : decode cX10_runsOut 52 = .ok (.bipush 12, 2) := by decide +kernel
theorem dX10_runsOut_54 : decode cX10_runsOut 54 = .ok (.bipush 12, 2) := by decide +kernel
theorem dX10_runsOut_56 : decode cX10_runsOut 56 = .ok (.iload_n 3, 1) := by decide +kernel
theorem dX10_runsOut_57 : decode cX10_runsOut 57 = .ok (.imul, 1) := by decide +kernel
theorem dX10_runsOut_58 : decode cX10_runsOut 58 = .ok (.iadd, 1) := by decide +kernel
theorem dX10_runsOut_59 : decode cX10_runsOut 59 = .ok (.aload_n 0, 1) := by decide +kernel
theorem dX10_runsOut_60 : decode cX10_runsOut 60 = .ok (.getfield 68, 3) := by decide +kernel
theorem dX10_runsOut_63 : decode cX10_runsOut 63 = .ok (.bipush 84, 2) := by decide +kernel
theorem dX10_runsOut_65 : decode cX10_runsOut 65 = .ok (.iload_n 3, 1) := by decide +kernel
theorem dX10_runsOut_66 : decode cX10_runsOut 66 = .ok (.iadd, 1) := by decide +kernel
theorem dX10_runsOut_67 : decode cX10_runsOut 67 = .ok (.iaload, 1) := by decide +kernel
theorem dX10_runsOut_68 : decode cX10_runsOut 68 = .ok (.iadd, 1) := by decide +kernel
theorem dX10_runsOut_69 : decode cX10_runsOut 69 = .ok (.aload_n 0, 1) := by decide +kernel
theorem dX10_runsOut_70 : decode cX10_runsOut 70 = .ok (.iload_n 1, 1) := by decide +kernel
theorem dX10_runsOut_71 : decode cX10_runsOut 71 = .ok (.iconst 0, 1) := by decide +kernel
theorem dX10_runsOut_72 : decode cX10_runsOut 72 = .ok (.invokevirtual 346, 3) := by decide +kernel
theorem dX10_runsOut_75 : decode cX10_runsOut 75 = .ok (.iastore, 1) := by decide +kernel
theorem dX10_runsOut_76 : decode cX10_runsOut 76 = .ok (.aload_n 0, 1) := by decide +kernel
theorem dX10_runsOut_77 : decode cX10_runsOut 77 = .ok (.getfield 68, 3) := by decide +kernel
theorem dX10_runsOut_80 : decode cX10_runsOut 80 = .ok (.bipush 84, 2) := by decide +kernel
theorem dX10_runsOut_82 : decode cX10_runsOut 82 = .ok (.iload_n 3, 1) := by decide +kernel
theorem dX10_runsOut_83 : decode cX10_runsOut 83 = .ok (.iadd, 1) := by decide +kernel
theorem dX10_runsOut_84 : decode cX10_runsOut 84 = .ok (.dup2, 1) := by decide +kernel
theorem dX10_runsOut_85 : decode cX10_runsOut 85 = .ok (.iaload, 1) := by decide +kernel
theorem dX10_runsOut_86 : decode cX10_runsOut 86 = .ok (.iconst 1, 1) := by decide +kernel
theorem dX10_runsOut_87 : decode cX10_runsOut 87 = .ok (.iadd, 1) := by decide +kernel
theorem dX10_runsOut_88 : decode cX10_runsOut 88 = .ok (.iastore, 1) := by decide +kernel
theorem dX10_runsOut_89 : decode cX10_runsOut 89 = .ok (.aload_n 0, 1) := by decide +kernel
theorem dX10_runsOut_90 : decode cX10_runsOut 90 = .ok (.getfield 68, 3) := by decide +kernel
theorem dX10_runsOut_93 : decode cX10_runsOut 93 = .ok (.iconst 0, 1) := by decide +kernel
theorem dX10_runsOut_94 : decode cX10_runsOut 94 = .ok (.iload_n 1, 1) := by decide +kernel
theorem dX10_runsOut_95 : decode cX10_runsOut 95 = .ok (.iadd, 1) := by decide +kernel
theorem dX10_runsOut_96 : decode cX10_runsOut 96 = .ok (.dup2, 1) := by decide +kernel
theorem dX10_runsOut_97 : decode cX10_runsOut 97 = .ok (.iaload, 1) := by decide +kernel
theorem dX10_runsOut_98 : decode cX10_runsOut 98 = .ok (.iconst 1, 1) := by decide +kernel
theorem dX10_runsOut_99 : decode cX10_runsOut 99 = .ok (.iadd, 1) := by decide +kernel
theorem dX10_runsOut_100 : decode cX10_runsOut 100 = .ok (.iastore, 1) := by decide +kernel
theorem dX10_runsOut_101 : decode cX10_runsOut 101 = .ok (.iinc 4 1, 3) := by decide +kernel
theorem dX10_runsOut_104 : decode cX10_runsOut 104 = .ok (.goto (-91), 3) := by decide +kernel
theorem dX10_runsOut_107 : decode cX10_runsOut 107 = .ok (.return_, 1) := by decide +kernel
theorem dX10_pours_0 : decode cX10_pours 0 = .ok (.aload_n 0, 1) := by decide +kernel
theorem dX10_pours_1 : decode cX10_pours 1 = .ok (.getfield 68, 3) := by decide +kernel
theorem dX10_pours_4 : decode cX10_pours 4 = .ok (.sipush 161, 3) := by decide +kernel
theorem dX10_pours_7 : decode cX10_pours 7 = .ok (.aload_n 0, 1) := by decide +kernel
theorem dX10_pours_8 : decode cX10_pours 8 = .ok (.getfield 68, 3) := by decide +kernel
theorem dX10_pours_11 : decode cX10_pours 11 = .ok (.sipush 161, 3) := by decide +kernel
theorem dX10_pours_14 : decode cX10_pours 14 = .ok (.iaload, 1) := by decide +kernel
theorem dX10_pours_15 : decode cX10_pours 15 = .ok (.iload_n 1, 1) := by decide +kernel
theorem dX10_pours_16 : decode cX10_pours 16 = .ok (.iadd, 1) := by decide +kernel
theorem dX10_pours_17 : decode cX10_pours 17 = .ok (.bipush 99, 2) := by decide +kernel
theorem dX10_pours_19 : decode cX10_pours 19 = .ok (.invokestatic 343, 3) := by decide +kernel
theorem dX10_pours_22 : decode cX10_pours 22 = .ok (.iastore, 1) := by decide +kernel
theorem dX10_pours_23 : decode cX10_pours 23 = .ok (.iconst 0, 1) := by decide +kernel
theorem dX10_pours_24 : decode cX10_pours 24 = .ok (.istore_n 2, 1) := by decide +kernel
theorem dX10_pours_25 : decode cX10_pours 25 = .ok (.iload_n 2, 1) := by decide +kernel
theorem dX10_pours_26 : decode cX10_pours 26 = .ok (.aload_n 0, 1) := by decide +kernel
theorem dX10_pours_27 : decode cX10_pours 27 = .ok (.getfield 163, 3) := by decide +kernel
theorem dX10_pours_30 : decode cX10_pours 30 = .ok (.if_icmp .ge 40, 3) := by decide +kernel
theorem dX10_pours_33 : decode cX10_pours 33 = .ok (.aload_n 0, 1) := by decide +kernel
theorem dX10_pours_34 : decode cX10_pours 34 = .ok (.getfield 68, 3) := by decide +kernel
theorem dX10_pours_37 : decode cX10_pours 37 = .ok (.bipush 6, 2) := by decide +kernel
theorem dX10_pours_39 : decode cX10_pours 39 = .ok (.iload_n 2, 1) := by decide +kernel
theorem dX10_pours_40 : decode cX10_pours 40 = .ok (.iadd, 1) := by decide +kernel
theorem dX10_pours_41 : decode cX10_pours 41 = .ok (.iaload, 1) := by decide +kernel
theorem dX10_pours_42 : decode cX10_pours 42 = .ok (.ifCond .ne 22, 3) := by decide +kernel
theorem dX10_pours_45 : decode cX10_pours 45 = .ok (.aload_n 0, 1) := by decide +kernel
theorem dX10_pours_46 : decode cX10_pours 46 = .ok (.iload_n 2, 1) := by decide +kernel
theorem dX10_pours_47 : decode cX10_pours 47 = .ok (.aload_n 0, 1) := by decide +kernel
theorem dX10_pours_48 : decode cX10_pours 48 = .ok (.iload_n 2, 1) := by decide +kernel
theorem dX10_pours_49 : decode cX10_pours 49 = .ok (.iload_n 1, 1) := by decide +kernel
theorem dX10_pours_50 : decode cX10_pours 50 = .ok (.aload_n 0, 1) := by decide +kernel
theorem dX10_pours_51 : decode cX10_pours 51 = .ok (.getfield 68, 3) := by decide +kernel
theorem dX10_pours_54 : decode cX10_pours 54 = .ok (.sipush 161, 3) := by decide +kernel
theorem dX10_pours_57 : decode cX10_pours 57 = .ok (.iaload, 1) := by decide +kernel
theorem dX10_pours_58 : decode cX10_pours 58 = .ok (.invokevirtual 349, 3) := by decide +kernel
theorem dX10_pours_61 : decode cX10_pours 61 = .ok (.invokevirtual 352, 3) := by decide +kernel
theorem dX10_pours_64 : decode cX10_pours 64 = .ok (.iinc 2 1, 3) := by decide +kernel
theorem dX10_pours_67 : decode cX10_pours 67 = .ok (.goto (-42), 3) := by decide +kernel
theorem dX10_pours_70 : decode cX10_pours 70 = .ok (.return_, 1) := by decide +kernel
theorem dX10_nextWords_0 : decode cX10_nextWords 0 = .ok (.iconst 0, 1) := by decide +kernel
theorem dX10_nextWords_1 : decode cX10_nextWords 1 = .ok (.istore_n 1, 1) := by decide +kernel
theorem dX10_nextWords_2 : decode cX10_nextWords 2 = .ok (.iconst 0, 1) := by decide +kernel
theorem dX10_nextWords_3 : decode cX10_nextWords 3 = .ok (.istore_n 2, 1) := by decide +kernel
theorem dX10_nextWords_4 : decode cX10_nextWords 4 = .ok (.iload_n 2, 1) := by decide +kernel
theorem dX10_nextWords_5 : decode cX10_nextWords 5 = .ok (.aload_n 0, 1) := by decide +kernel
theorem dX10_nextWords_6 : decode cX10_nextWords 6 = .ok (.getfield 163, 3) := by decide +kernel
theorem dX10_nextWords_9 : decode cX10_nextWords 9 = .ok (.if_icmp .ge 32, 3) := by decide +kernel
theorem dX10_nextWords_12 : decode cX10_nextWords 12 = .ok (.iload_n 1, 1) := by decide +kernel
theorem dX10_nextWords_13 : decode cX10_nextWords 13 = .ok (.aload_n 0, 1) := by decide +kernel
theorem dX10_nextWords_14 : decode cX10_nextWords 14 = .ok (.iload_n 2, 1) := by decide +kernel
theorem dX10_nextWords_15 : decode cX10_nextWords 15 = .ok (.invokevirtual 336, 3) := by decide +kernel
theorem dX10_nextWords_18 : decode cX10_nextWords 18 = .ok (.ifCond .le 14, 3) := by decide +kernel
theorem dX10_nextWords_21 : decode cX10_nextWords 21 = .ok (.iconst 1, 1) := by decide +kernel
theorem dX10_nextWords_22 : decode cX10_nextWords 22 = .ok (.aload_n 0, 1) := by decide +kernel
theorem dX10_nextWords_23 : decode cX10_nextWords 23 = .ok (.iload_n 2, 1) := by decide +kernel
theorem dX10_nextWords_24 : decode cX10_nextWords 24 = .ok (.iconst 0, 1) := by decide +kernel
theorem dX10_nextWords_25 : decode cX10_nextWords 25 = .ok (.invokevirtual 346, 3) := by decide +kernel
theorem dX10_nextWords_28 : decode cX10_nextWords 28 = .ok (.ishl, 1) := by decide +kernel
theorem dX10_nextWords_29 : decode cX10_nextWords 29 = .ok (.goto 4, 3) := by decide +kernel
theorem dX10_nextWords_32 : decode cX10_nextWords 32 = .ok (.iconst 0, 1) := by decide +kernel
theorem dX10_nextWords_33 : decode cX10_nextWords 33 = .ok (.ior, 1) := by decide +kernel
theorem dX10_nextWords_34 : decode cX10_nextWords 34 = .ok (.istore_n 1, 1) := by decide +kernel
theorem dX10_nextWords_35 : decode cX10_nextWords 35 = .ok (.iinc 2 1, 3) := by decide +kernel
theorem dX10_nextWords_38 : decode cX10_nextWords 38 = .ok (.goto (-34), 3) := by decide +kernel
theorem dX10_nextWords_41 : decode cX10_nextWords 41 = .ok (.iload_n 1, 1) := by decide +kernel
theorem dX10_nextWords_42 : decode cX10_nextWords 42 = .ok (.ireturn, 1) := by decide +kernel
theorem dX10_newsOf_0 : decode cX10_newsOf 0 = .ok (.aload_n 0, 1) := by decide +kernel
theorem dX10_newsOf_1 : decode cX10_newsOf 1 = .ok (.getfield 32, 3) := by decide +kernel
theorem dX10_newsOf_4 : decode cX10_newsOf 4 = .ok (.aload_n 0, 1) := by decide +kernel
theorem dX10_newsOf_5 : decode cX10_newsOf 5 = .ok (.getfield 68, 3) := by decide +kernel
theorem dX10_newsOf_8 : decode cX10_newsOf 8 = .ok (.bipush 90, 2) := by decide +kernel
theorem dX10_newsOf_10 : decode cX10_newsOf 10 = .ok (.iload_n 1, 1) := by decide +kernel
theorem dX10_newsOf_11 : decode cX10_newsOf 11 = .ok (.iadd, 1) := by decide +kernel
theorem dX10_newsOf_12 : decode cX10_newsOf 12 = .ok (.iaload, 1) := by decide +kernel
theorem dX10_newsOf_13 : decode cX10_newsOf 13 = .ok (.iaload, 1) := by decide +kernel
theorem dX10_newsOf_14 : decode cX10_newsOf 14 = .ok (.iload_n 2, 1) := by decide +kernel
theorem dX10_newsOf_15 : decode cX10_newsOf 15 = .ok (.if_icmp .gt 22, 3) := by decide +kernel
theorem dX10_newsOf_18 : decode cX10_newsOf 18 = .ok (.aload_n 0, 1) := by decide +kernel
theorem dX10_newsOf_19 : decode cX10_newsOf 19 = .ok (.invokevirtual 355, 3) := by decide +kernel
theorem dX10_newsOf_22 : decode cX10_newsOf 22 = .ok (.aload_n 0, 1) := by decide +kernel
theorem dX10_newsOf_23 : decode cX10_newsOf 23 = .ok (.getfield 68, 3) := by decide +kernel
theorem dX10_newsOf_26 : decode cX10_newsOf 26 = .ok (.bipush 95, 2) := by decide +kernel
theorem dX10_newsOf_28 : decode cX10_newsOf 28 = .ok (.iload_n 1, 1) := by decide +kernel
theorem dX10_newsOf_29 : decode cX10_newsOf 29 = .ok (.iadd, 1) := by decide +kernel
theorem dX10_newsOf_30 : decode cX10_newsOf 30 = .ok (.iaload, 1) := by decide +kernel
theorem dX10_newsOf_31 : decode cX10_newsOf 31 = .ok (.iconst (-1), 1) := by decide +kernel
theorem dX10_newsOf_32 : decode cX10_newsOf 32 = .ok (.ixor, 1) := by decide +kernel
theorem dX10_newsOf_33 : decode cX10_newsOf 33 = .ok (.iand, 1) := by decide +kernel
theorem dX10_newsOf_34 : decode cX10_newsOf 34 = .ok (.goto 4, 3) := by decide +kernel
theorem dX10_newsOf_37 : decode cX10_newsOf 37 = .ok (.iconst 0, 1) := by decide +kernel
theorem dX10_newsOf_38 : decode cX10_newsOf 38 = .ok (.ireturn, 1) := by decide +kernel
theorem dX10_isBlown_0 : decode cX10_isBlown 0 = .ok (.iconst 0, 1) := by decide +kernel
theorem dX10_isBlown_1 : decode cX10_isBlown 1 = .ok (.istore_n 2, 1) := by decide +kernel
theorem dX10_isBlown_2 : decode cX10_isBlown 2 = .ok (.iconst 0, 1) := by decide +kernel
theorem dX10_isBlown_3 : decode cX10_isBlown 3 = .ok (.istore_n 3, 1) := by decide +kernel
theorem dX10_isBlown_4 : decode cX10_isBlown 4 = .ok (.iload_n 3, 1) := by decide +kernel
theorem dX10_isBlown_5 : decode cX10_isBlown 5 = .ok (.aload_n 0, 1) := by decide +kernel
theorem dX10_isBlown_6 : decode cX10_isBlown 6 = .ok (.getfield 166, 3) := by decide +kernel
theorem dX10_isBlown_9 : decode cX10_isBlown 9 = .ok (.if_icmp .ge 46, 3) := by decide +kernel
theorem dX10_isBlown_12 : decode cX10_isBlown 12 = .ok (.aload_n 0, 1) := by decide +kernel
theorem dX10_isBlown_13 : decode cX10_isBlown 13 = .ok (.iload_n 3, 1) := by decide +kernel
theorem dX10_isBlown_14 : decode cX10_isBlown 14 = .ok (.iload_n 1, 1) := by decide +kernel
theorem dX10_isBlown_15 : decode cX10_isBlown 15 = .ok (.invokevirtual 358, 3) := by decide +kernel
theorem dX10_isBlown_18 : decode cX10_isBlown 18 = .ok (.istore 4, 2) := by decide +kernel
theorem dX10_isBlown_20 : decode cX10_isBlown 20 = .ok (.iload 4, 2) := by decide +kernel
theorem dX10_isBlown_22 : decode cX10_isBlown 22 = .ok (.ifCond .ne 7, 3) := by decide +kernel
theorem dX10_isBlown_25 : decode cX10_isBlown 25 = .ok (.iload_n 2, 1) := by decide +kernel
theorem dX10_isBlown_26 : decode cX10_isBlown 26 = .ok (.ifCond .eq 7, 3) := by decide +kernel
theorem dX10_isBlown_29 : decode cX10_isBlown 29 = .ok (.iconst 1, 1) := by decide +kernel
theorem dX10_isBlown_30 : decode cX10_isBlown 30 = .ok (.goto 4, 3) := by decide +kernel
theorem dX10_isBlown_33 : decode cX10_isBlown 33 = .ok (.iconst 0, 1) := by decide +kernel
theorem dX10_isBlown_34 : decode cX10_isBlown 34 = .ok (.istore_n 2, 1) := by decide +kernel
theorem dX10_isBlown_35 : decode cX10_isBlown 35 = .ok (.aload_n 0, 1) := by decide +kernel
theorem dX10_isBlown_36 : decode cX10_isBlown 36 = .ok (.getfield 68, 3) := by decide +kernel
theorem dX10_isBlown_39 : decode cX10_isBlown 39 = .ok (.bipush 95, 2) := by decide +kernel
theorem dX10_isBlown_41 : decode cX10_isBlown 41 = .ok (.iload_n 3, 1) := by decide +kernel
theorem dX10_isBlown_42 : decode cX10_isBlown 42 = .ok (.iadd, 1) := by decide +kernel
theorem dX10_isBlown_43 : decode cX10_isBlown 43 = .ok (.dup2, 1) := by decide +kernel
theorem dX10_isBlown_44 : decode cX10_isBlown 44 = .ok (.iaload, 1) := by decide +kernel
theorem dX10_isBlown_45 : decode cX10_isBlown 45 = .ok (.iload 4, 2) := by decide +kernel
theorem dX10_isBlown_47 : decode cX10_isBlown 47 = .ok (.ior, 1) := by decide +kernel
theorem dX10_isBlown_48 : decode cX10_isBlown 48 = .ok (.iastore, 1) := by decide +kernel
theorem dX10_isBlown_49 : decode cX10_isBlown 49 = .ok (.iinc 3 1, 3) := by decide +kernel
theorem dX10_isBlown_52 : decode cX10_isBlown 52 = .ok (.goto (-48), 3) := by decide +kernel
theorem dX10_isBlown_55 : decode cX10_isBlown 55 = .ok (.iload_n 2, 1) := by decide +kernel
theorem dX10_isBlown_56 : decode cX10_isBlown 56 = .ok (.ireturn, 1) := by decide +kernel
theorem dX10_wordsIn_0 : decode cX10_wordsIn 0 = .ok (.iconst 0, 1) := by decide +kernel
theorem dX10_wordsIn_1 : decode cX10_wordsIn 1 = .ok (.istore_n 2, 1) := by decide +kernel
theorem dX10_wordsIn_2 : decode cX10_wordsIn 2 = .ok (.iconst 0, 1) := by decide +kernel
theorem dX10_wordsIn_3 : decode cX10_wordsIn 3 = .ok (.istore_n 3, 1) := by decide +kernel
theorem dX10_wordsIn_4 : decode cX10_wordsIn 4 = .ok (.iload_n 3, 1) := by decide +kernel
theorem dX10_wordsIn_5 : decode cX10_wordsIn 5 = .ok (.aload_n 0, 1) := by decide +kernel
theorem dX10_wordsIn_6 : decode cX10_wordsIn 6 = .ok (.getfield 68, 3) := by decide +kernel
theorem dX10_wordsIn_9 : decode cX10_wordsIn 9 = .ok (.bipush 84, 2) := by decide +kernel
theorem dX10_wordsIn_11 : decode cX10_wordsIn 11 = .ok (.iload_n 1, 1) := by decide +kernel
theorem dX10_wordsIn_12 : decode cX10_wordsIn 12 = .ok (.iadd, 1) := by decide +kernel
theorem dX10_wordsIn_13 : decode cX10_wordsIn 13 = .ok (.iaload, 1) := by decide +kernel
theorem dX10_wordsIn_14 : decode cX10_wordsIn 14 = .ok (.if_icmp .ge 28, 3) := by decide +kernel
theorem dX10_wordsIn_17 : decode cX10_wordsIn 17 = .ok (.iload_n 2, 1) := by decide +kernel
theorem dX10_wordsIn_18 : decode cX10_wordsIn 18 = .ok (.iconst 1, 1) := by decide +kernel
theorem dX10_wordsIn_19 : decode cX10_wordsIn 19 = .ok (.aload_n 0, 1) := by decide +kernel
theorem dX10_wordsIn_20 : decode cX10_wordsIn 20 = .ok (.getfield 68, 3) := by decide +kernel
theorem dX10_wordsIn_23 : decode cX10_wordsIn 23 = .ok (.bipush 12, 2) := by decide +kernel
theorem dX10_wordsIn_25 : decode cX10_wordsIn 25 = .ok (.bipush 12, 2) := by decide +kernel
theorem dX10_wordsIn_27 : decode cX10_wordsIn 27 = .ok (.iload_n 1, 1) := by decide +kernel
theorem dX10_wordsIn_28 : decode cX10_wordsIn 28 = .ok (.imul, 1) := by decide +kernel
theorem dX10_wordsIn_29 : decode cX10_wordsIn 29 = .ok (.iadd, 1) := by decide +kernel
theorem dX10_wordsIn_30 : decode cX10_wordsIn 30 = .ok (.iload_n 3, 1) := by decide +kernel
theorem dX10_wordsIn_31 : decode cX10_wordsIn 31 = .ok (.iadd, 1) := by decide +kernel
theorem dX10_wordsIn_32 : decode cX10_wordsIn 32 = .ok (.iaload, 1) := by decide +kernel
theorem dX10_wordsIn_33 : decode cX10_wordsIn 33 = .ok (.ishl, 1) := by decide +kernel
theorem dX10_wordsIn_34 : decode cX10_wordsIn 34 = .ok (.ior, 1) := by decide +kernel
theorem dX10_wordsIn_35 : decode cX10_wordsIn 35 = .ok (.istore_n 2, 1) := by decide +kernel
theorem dX10_wordsIn_36 : decode cX10_wordsIn 36 = .ok (.iinc 3 1, 3) := by decide +kernel
theorem dX10_wordsIn_39 : decode cX10_wordsIn 39 = .ok (.goto (-35), 3) := by decide +kernel
theorem dX10_wordsIn_42 : decode cX10_wordsIn 42 = .ok (.iload_n 2, 1) := by decide +kernel
theorem dX10_wordsIn_43 : decode cX10_wordsIn 43 = .ok (.ireturn, 1) := by decide +kernel
theorem dX10_isWalked_0 : decode cX10_isWalked 0 = .ok (.aload_n 0, 1) := by decide +kernel
theorem dX10_isWalked_1 : decode cX10_isWalked 1 = .ok (.getfield 68, 3) := by decide +kernel
theorem dX10_isWalked_4 : decode cX10_isWalked 4 = .ok (.bipush 90, 2) := by decide +kernel
theorem dX10_isWalked_6 : decode cX10_isWalked 6 = .ok (.iload_n 1, 1) := by decide +kernel
theorem dX10_isWalked_7 : decode cX10_isWalked 7 = .ok (.iadd, 1) := by decide +kernel
theorem dX10_isWalked_8 : decode cX10_isWalked 8 = .ok (.iaload, 1) := by decide +kernel
theorem dX10_isWalked_9 : decode cX10_isWalked 9 = .ok (.iload_n 2, 1) := by decide +kernel
theorem dX10_isWalked_10 : decode cX10_isWalked 10 = .ok (.if_icmp .ne 5, 3) := by decide +kernel
theorem dX10_isWalked_13 : decode cX10_isWalked 13 = .ok (.iconst 0, 1) := by decide +kernel
theorem dX10_isWalked_14 : decode cX10_isWalked 14 = .ok (.ireturn, 1) := by decide +kernel
theorem dX10_isWalked_15 : decode cX10_isWalked 15 = .ok (.aload_n 0, 1) := by decide +kernel
theorem dX10_isWalked_16 : decode cX10_isWalked 16 = .ok (.getfield 68, 3) := by decide +kernel
theorem dX10_isWalked_19 : decode cX10_isWalked 19 = .ok (.bipush 90, 2) := by decide +kernel
theorem dX10_isWalked_21 : decode cX10_isWalked 21 = .ok (.iload_n 1, 1) := by decide +kernel
theorem dX10_isWalked_22 : decode cX10_isWalked 22 = .ok (.iadd, 1) := by decide +kernel
theorem dX10_isWalked_23 : decode cX10_isWalked 23 = .ok (.iload_n 2, 1) := by decide +kernel
theorem dX10_isWalked_24 : decode cX10_isWalked 24 = .ok (.iastore, 1) := by decide +kernel
theorem dX10_isWalked_25 : decode cX10_isWalked 25 = .ok (.aload_n 0, 1) := by decide +kernel
theorem dX10_isWalked_26 : decode cX10_isWalked 26 = .ok (.getfield 68, 3) := by decide +kernel
theorem dX10_isWalked_29 : decode cX10_isWalked 29 = .ok (.bipush 95, 2) := by decide +kernel
theorem dX10_isWalked_31 : decode cX10_isWalked 31 = .ok (.iload_n 1, 1) := by decide +kernel
theorem dX10_isWalked_32 : decode cX10_isWalked 32 = .ok (.iadd, 1) := by decide +kernel
theorem dX10_isWalked_33 : decode cX10_isWalked 33 = .ok (.dup2, 1) := by decide +kernel
theorem dX10_isWalked_34 : decode cX10_isWalked 34 = .ok (.iaload, 1) := by decide +kernel
theorem dX10_isWalked_35 : decode cX10_isWalked 35 = .ok (.aload_n 0, 1) := by decide +kernel
theorem dX10_isWalked_36 : decode cX10_isWalked 36 = .ok (.iload_n 2, 1) := by decide +kernel
theorem dX10_isWalked_37 : decode cX10_isWalked 37 = .ok (.invokevirtual 361, 3) := by decide +kernel
theorem dX10_isWalked_40 : decode cX10_isWalked 40 = .ok (.ior, 1) := by decide +kernel
theorem dX10_isWalked_41 : decode cX10_isWalked 41 = .ok (.iastore, 1) := by decide +kernel
theorem dX10_isWalked_42 : decode cX10_isWalked 42 = .ok (.iconst 1, 1) := by decide +kernel
theorem dX10_isWalked_43 : decode cX10_isWalked 43 = .ok (.ireturn, 1) := by decide +kernel
theorem dX10_isEaten_0 : decode cX10_isEaten 0 = .ok (.aload_n 0, 1) := by decide +kernel
theorem dX10_isEaten_1 : decode cX10_isEaten 1 = .ok (.getfield 68, 3) := by decide +kernel
theorem dX10_isEaten_4 : decode cX10_isEaten 4 = .ok (.bipush 84, 2) := by decide +kernel
theorem dX10_isEaten_6 : decode cX10_isEaten 6 = .ok (.iload_n 1, 1) := by decide +kernel
theorem dX10_isEaten_7 : decode cX10_isEaten 7 = .ok (.iadd, 1) := by decide +kernel
theorem dX10_isEaten_8 : decode cX10_isEaten 8 = .ok (.iaload, 1) := by decide +kernel
theorem dX10_isEaten_9 : decode cX10_isEaten 9 = .ok (.ifCond .ne 5, 3) := by decide +kernel
theorem dX10_isEaten_12 : decode cX10_isEaten 12 = .ok (.iconst 0, 1) := by decide +kernel
theorem dX10_isEaten_13 : decode cX10_isEaten 13 = .ok (.ireturn, 1) := by decide +kernel
theorem dX10_isEaten_14 : decode cX10_isEaten 14 = .ok (.aload_n 0, 1) := by decide +kernel
theorem dX10_isEaten_15 : decode cX10_isEaten 15 = .ok (.getfield 68, 3) := by decide +kernel
theorem dX10_isEaten_18 : decode cX10_isEaten 18 = .ok (.sipush 163, 3) := by decide +kernel
theorem dX10_isEaten_21 : decode cX10_isEaten 21 = .ok (.dup2, 1) := by decide +kernel
theorem dX10_isEaten_22 : decode cX10_isEaten 22 = .ok (.iaload, 1) := by decide +kernel
theorem dX10_isEaten_23 : decode cX10_isEaten 23 = .ok (.aload_n 0, 1) := by decide +kernel
theorem dX10_isEaten_24 : decode cX10_isEaten 24 = .ok (.getfield 68, 3) := by decide +kernel
theorem dX10_isEaten_27 : decode cX10_isEaten 27 = .ok (.bipush 84, 2) := by decide +kernel
theorem dX10_isEaten_29 : decode cX10_isEaten 29 = .ok (.iload_n 1, 1) := by decide +kernel
theorem dX10_isEaten_30 : decode cX10_isEaten 30 = .ok (.iadd, 1) := by decide +kernel
theorem dX10_isEaten_31 : decode cX10_isEaten 31 = .ok (.iaload, 1) := by decide +kernel
theorem dX10_isEaten_32 : decode cX10_isEaten 32 = .ok (.iadd, 1) := by decide +kernel
theorem dX10_isEaten_33 : decode cX10_isEaten 33 = .ok (.iastore, 1) := by decide +kernel
theorem dX10_isEaten_34 : decode cX10_isEaten 34 = .ok (.aload_n 0, 1) := by decide +kernel
theorem dX10_isEaten_35 : decode cX10_isEaten 35 = .ok (.getfield 68, 3) := by decide +kernel
theorem dX10_isEaten_38 : decode cX10_isEaten 38 = .ok (.bipush 84, 2) := by decide +kernel
theorem dX10_isEaten_40 : decode cX10_isEaten 40 = .ok (.iload_n 1, 1) := by decide +kernel
theorem dX10_isEaten_41 : decode cX10_isEaten 41 = .ok (.iadd, 1) := by decide +kernel
theorem dX10_isEaten_42 : decode cX10_isEaten 42 = .ok (.iconst 0, 1) := by decide +kernel
theorem dX10_isEaten_43 : decode cX10_isEaten 43 = .ok (.iastore, 1) := by decide +kernel
theorem dX10_isEaten_44 : decode cX10_isEaten 44 = .ok (.iconst 1, 1) := by decide +kernel
theorem dX10_isEaten_45 : decode cX10_isEaten 45 = .ok (.ireturn, 1) := by decide +kernel
theorem dX10_grows_0 : decode cX10_grows 0 = .ok (.aload_n 0, 1) := by decide +kernel
theorem dX10_grows_1 : decode cX10_grows 1 = .ok (.getfield 68, 3) := by decide +kernel
theorem dX10_grows_4 : decode cX10_grows 4 = .ok (.sipush 160, 3) := by decide +kernel
theorem dX10_grows_7 : decode cX10_grows 7 = .ok (.iaload, 1) := by decide +kernel
theorem dX10_grows_8 : decode cX10_grows 8 = .ok (.bipush 60, 2) := by decide +kernel
theorem dX10_grows_10 : decode cX10_grows 10 = .ok (.if_icmp .ne 49, 3) := by decide +kernel
theorem dX10_grows_13 : decode cX10_grows 13 = .ok (.iconst 1, 1) := by decide +kernel
theorem dX10_grows_14 : decode cX10_grows 14 = .ok (.istore_n 2, 1) := by decide +kernel
theorem dX10_grows_15 : decode cX10_grows 15 = .ok (.iload_n 2, 1) := by decide +kernel
theorem dX10_grows_16 : decode cX10_grows 16 = .ok (.bipush 60, 2) := by decide +kernel
theorem dX10_grows_18 : decode cX10_grows 18 = .ok (.if_icmp .ge 29, 3) := by decide +kernel
theorem dX10_grows_21 : decode cX10_grows 21 = .ok (.aload_n 0, 1) := by decide +kernel
theorem dX10_grows_22 : decode cX10_grows 22 = .ok (.getfield 68, 3) := by decide +kernel
theorem dX10_grows_25 : decode cX10_grows 25 = .ok (.bipush 100, 2) := by decide +kernel
theorem dX10_grows_27 : decode cX10_grows 27 = .ok (.iload_n 2, 1) := by decide +kernel
theorem dX10_grows_28 : decode cX10_grows 28 = .ok (.iadd, 1) := by decide +kernel
theorem dX10_grows_29 : decode cX10_grows 29 = .ok (.iconst 1, 1) := by decide +kernel
theorem dX10_grows_30 : decode cX10_grows 30 = .ok (.isub, 1) := by decide +kernel
theorem dX10_grows_31 : decode cX10_grows 31 = .ok (.aload_n 0, 1) := by decide +kernel
theorem dX10_grows_32 : decode cX10_grows 32 = .ok (.getfield 68, 3) := by decide +kernel
theorem dX10_grows_35 : decode cX10_grows 35 = .ok (.bipush 100, 2) := by decide +kernel
theorem dX10_grows_37 : decode cX10_grows 37 = .ok (.iload_n 2, 1) := by decide +kernel
theorem dX10_grows_38 : decode cX10_grows 38 = .ok (.iadd, 1) := by decide +kernel
theorem dX10_grows_39 : decode cX10_grows 39 = .ok (.iaload, 1) := by decide +kernel
theorem dX10_grows_40 : decode cX10_grows 40 = .ok (.iastore, 1) := by decide +kernel
theorem dX10_grows_41 : decode cX10_grows 41 = .ok (.iinc 2 1, 3) := by decide +kernel
theorem dX10_grows_44 : decode cX10_grows 44 = .ok (.goto (-29), 3) := by decide +kernel
theorem dX10_grows_47 : decode cX10_grows 47 = .ok (.aload_n 0, 1) := by decide +kernel
theorem dX10_grows_48 : decode cX10_grows 48 = .ok (.getfield 68, 3) := by decide +kernel
theorem dX10_grows_51 : decode cX10_grows 51 = .ok (.sipush 160, 3) := by decide +kernel
theorem dX10_grows_54 : decode cX10_grows 54 = .ok (.dup2, 1) := by decide +kernel
theorem dX10_grows_55 : decode cX10_grows 55 = .ok (.iaload, 1) := by decide +kernel
theorem dX10_grows_56 : decode cX10_grows 56 = .ok (.iconst 1, 1) := by decide +kernel
theorem dX10_grows_57 : decode cX10_grows 57 = .ok (.isub, 1) := by decide +kernel
theorem dX10_grows_58 : decode cX10_grows 58 = .ok (.iastore, 1) := by decide +kernel
theorem dX10_grows_59 : decode cX10_grows 59 = .ok (.aload_n 0, 1) := by decide +kernel
theorem dX10_grows_60 : decode cX10_grows 60 = .ok (.getfield 68, 3) := by decide +kernel
theorem dX10_grows_63 : decode cX10_grows 63 = .ok (.bipush 100, 2) := by decide +kernel
theorem dX10_grows_65 : decode cX10_grows 65 = .ok (.aload_n 0, 1) := by decide +kernel
theorem dX10_grows_66 : decode cX10_grows 66 = .ok (.getfield 68, 3) := by decide +kernel
theorem dX10_grows_69 : decode cX10_grows 69 = .ok (.sipush 160, 3) := by decide +kernel
theorem dX10_grows_72 : decode cX10_grows 72 = .ok (.iaload, 1) := by decide +kernel
theorem dX10_grows_73 : decode cX10_grows 73 = .ok (.iadd, 1) := by decide +kernel
theorem dX10_grows_74 : decode cX10_grows 74 = .ok (.iload_n 1, 1) := by decide +kernel
theorem dX10_grows_75 : decode cX10_grows 75 = .ok (.iastore, 1) := by decide +kernel
theorem dX10_grows_76 : decode cX10_grows 76 = .ok (.aload_n 0, 1) := by decide +kernel
theorem dX10_grows_77 : decode cX10_grows 77 = .ok (.getfield 68, 3) := by decide +kernel
theorem dX10_grows_80 : decode cX10_grows 80 = .ok (.sipush 160, 3) := by decide +kernel
theorem dX10_grows_83 : decode cX10_grows 83 = .ok (.dup2, 1) := by decide +kernel
theorem dX10_grows_84 : decode cX10_grows 84 = .ok (.iaload, 1) := by decide +kernel
theorem dX10_grows_85 : decode cX10_grows 85 = .ok (.iconst 1, 1) := by decide +kernel
theorem dX10_grows_86 : decode cX10_grows 86 = .ok (.iadd, 1) := by decide +kernel
theorem dX10_grows_87 : decode cX10_grows 87 = .ok (.iastore, 1) := by decide +kernel
theorem dX10_grows_88 : decode cX10_grows 88 = .ok (.return_, 1) := by decide +kernel
theorem dX10_passes_0 : decode cX10_passes 0 = .ok (.iconst 0, 1) := by decide +kernel
theorem dX10_passes_1 : decode cX10_passes 1 = .ok (.istore_n 1, 1) := by decide +kernel
theorem dX10_passes_2 : decode cX10_passes 2 = .ok (.iload_n 1, 1) := by decide +kernel
theorem dX10_passes_3 : decode cX10_passes 3 = .ok (.aload_n 0, 1) := by decide +kernel
theorem dX10_passes_4 : decode cX10_passes 4 = .ok (.getfield 160, 3) := by decide +kernel
theorem dX10_passes_7 : decode cX10_passes 7 = .ok (.if_icmp .ge 104, 3) := by decide +kernel
theorem dX10_passes_10 : decode cX10_passes 10 = .ok (.aload_n 0, 1) := by decide +kernel
theorem dX10_passes_11 : decode cX10_passes 11 = .ok (.getfield 68, 3) := by decide +kernel
theorem dX10_passes_14 : decode cX10_passes 14 = .ok (.bipush 84, 2) := by decide +kernel
theorem dX10_passes_16 : decode cX10_passes 16 = .ok (.iload_n 1, 1) := by decide +kernel
theorem dX10_passes_17 : decode cX10_passes 17 = .ok (.iadd, 1) := by decide +kernel
theorem dX10_passes_18 : decode cX10_passes 18 = .ok (.iaload, 1) := by decide +kernel
theorem dX10_passes_19 : decode cX10_passes 19 = .ok (.ifCond .ne 6, 3) := by decide +kernel
theorem dX10_passes_22 : decode cX10_passes 22 = .ok (.goto 83, 3) := by decide +kernel
theorem dX10_passes_25 : decode cX10_passes 25 = .ok (.aload_n 0, 1) := by decide +kernel
theorem dX10_passes_26 : decode cX10_passes 26 = .ok (.aload_n 0, 1) := by decide +kernel
theorem dX10_passes_27 : decode cX10_passes 27 = .ok (.getfield 68, 3) := by decide +kernel
theorem dX10_passes_30 : decode cX10_passes 30 = .ok (.bipush 12, 2) := by decide +kernel
theorem dX10_passes_32 : decode cX10_passes 32 = .ok (.bipush 12, 2) := by decide +kernel
theorem dX10_passes_34 : decode cX10_passes 34 = .ok (.iload_n 1, 1) := by decide +kernel
theorem dX10_passes_35 : decode cX10_passes 35 = .ok (.imul, 1) := by decide +kernel
theorem dX10_passes_36 : decode cX10_passes 36 = .ok (.iadd, 1) := by decide +kernel
theorem dX10_passes_37 : decode cX10_passes 37 = .ok (.iaload, 1) := by decide +kernel
theorem dX10_passes_38 : decode cX10_passes 38 = .ok (.invokevirtual 364, 3) := by decide +kernel
theorem dX10_passes_41 : decode cX10_passes 41 = .ok (.aload_n 0, 1) := by decide +kernel
theorem dX10_passes_42 : decode cX10_passes 42 = .ok (.getfield 68, 3) := by decide +kernel
theorem dX10_passes_45 : decode cX10_passes 45 = .ok (.bipush 84, 2) := by decide +kernel
theorem dX10_passes_47 : decode cX10_passes 47 = .ok (.iload_n 1, 1) := by decide +kernel
theorem dX10_passes_48 : decode cX10_passes 48 = .ok (.iadd, 1) := by decide +kernel
theorem dX10_passes_49 : decode cX10_passes 49 = .ok (.dup2, 1) := by decide +kernel
theorem dX10_passes_50 : decode cX10_passes 50 = .ok (.iaload, 1) := by decide +kernel
theorem dX10_passes_51 : decode cX10_passes 51 = .ok (.iconst 1, 1) := by decide +kernel
theorem dX10_passes_52 : decode cX10_passes 52 = .ok (.isub, 1) := by decide +kernel
theorem dX10_passes_53 : decode cX10_passes 53 = .ok (.iastore, 1) := by decide +kernel
theorem dX10_passes_54 : decode cX10_passes 54 = .ok (.iconst 0, 1) := by decide +kernel
theorem dX10_passes_55 : decode cX10_passes 55 = .ok (.istore_n 2, 1) := by decide +kernel
theorem dX10_passes_56 : decode cX10_passes 56 = .ok (.iload_n 2, 1) := by decide +kernel
theorem dX10_passes_57 : decode cX10_passes 57 = .ok (.aload_n 0, 1) := by decide +kernel
theorem dX10_passes_58 : decode cX10_passes 58 = .ok (.getfield 68, 3) := by decide +kernel
theorem dX10_passes_61 : decode cX10_passes 61 = .ok (.bipush 84, 2) := by decide +kernel
theorem dX10_passes_63 : decode cX10_passes 63 = .ok (.iload_n 1, 1) := by decide +kernel
theorem dX10_passes_64 : decode cX10_passes 64 = .ok (.iadd, 1) := by decide +kernel
theorem dX10_passes_65 : decode cX10_passes 65 = .ok (.iaload, 1) := by decide +kernel
theorem dX10_passes_66 : decode cX10_passes 66 = .ok (.if_icmp .ge 39, 3) := by decide +kernel
theorem dX10_passes_69 : decode cX10_passes 69 = .ok (.aload_n 0, 1) := by decide +kernel
theorem dX10_passes_70 : decode cX10_passes 70 = .ok (.getfield 68, 3) := by decide +kernel
theorem dX10_passes_73 : decode cX10_passes 73 = .ok (.bipush 12, 2) := by decide +kernel
theorem dX10_passes_75 : decode cX10_passes 75 = .ok (.bipush 12, 2) := by decide +kernel
theorem dX10_passes_77 : decode cX10_passes 77 = .ok (.iload_n 1, 1) := by decide +kernel
theorem dX10_passes_78 : decode cX10_passes 78 = .ok (.imul, 1) := by decide +kernel
theorem dX10_passes_79 : decode cX10_passes 79 = .ok (.iadd, 1) := by decide +kernel
theorem dX10_passes_80 : decode cX10_passes 80 = .ok (.iload_n 2, 1) := by decide +kernel
theorem dX10_passes_81 : decode cX10_passes 81 = .ok (.iadd, 1) := by decide +kernel
theorem dX10_passes_82 : decode cX10_passes 82 = .ok (.aload_n 0, 1) := by decide +kernel
theorem dX10_passes_83 : decode cX10_passes 83 = .ok (.getfield 68, 3) := by decide +kernel
theorem dX10_passes_86 : decode cX10_passes 86 = .ok (.bipush 12, 2) := by decide +kernel
theorem dX10_passes_88 : decode cX10_passes 88 = .ok (.bipush 12, 2) := by decide +kernel
theorem dX10_passes_90 : decode cX10_passes 90 = .ok (.iload_n 1, 1) := by decide +kernel
theorem dX10_passes_91 : decode cX10_passes 91 = .ok (.imul, 1) := by decide +kernel
theorem dX10_passes_92 : decode cX10_passes 92 = .ok (.iadd, 1) := by decide +kernel
theorem dX10_passes_93 : decode cX10_passes 93 = .ok (.iload_n 2, 1) := by decide +kernel
theorem dX10_passes_94 : decode cX10_passes 94 = .ok (.iadd, 1) := by decide +kernel
theorem dX10_passes_95 : decode cX10_passes 95 = .ok (.iconst 1, 1) := by decide +kernel
theorem dX10_passes_96 : decode cX10_passes 96 = .ok (.iadd, 1) := by decide +kernel
theorem dX10_passes_97 : decode cX10_passes 97 = .ok (.iaload, 1) := by decide +kernel
theorem dX10_passes_98 : decode cX10_passes 98 = .ok (.iastore, 1) := by decide +kernel
theorem dX10_passes_99 : decode cX10_passes 99 = .ok (.iinc 2 1, 3) := by decide +kernel
theorem dX10_passes_102 : decode cX10_passes 102 = .ok (.goto (-46), 3) := by decide +kernel
theorem dX10_passes_105 : decode cX10_passes 105 = .ok (.iinc 1 1, 3) := by decide +kernel
theorem dX10_passes_108 : decode cX10_passes 108 = .ok (.goto (-106), 3) := by decide +kernel
theorem dX10_passes_111 : decode cX10_passes 111 = .ok (.aload_n 0, 1) := by decide +kernel
theorem dX10_passes_112 : decode cX10_passes 112 = .ok (.getfield 68, 3) := by decide +kernel
theorem dX10_passes_115 : decode cX10_passes 115 = .ok (.sipush 161, 3) := by decide +kernel
theorem dX10_passes_118 : decode cX10_passes 118 = .ok (.dup2, 1) := by decide +kernel
theorem dX10_passes_119 : decode cX10_passes 119 = .ok (.iaload, 1) := by decide +kernel
theorem dX10_passes_120 : decode cX10_passes 120 = .ok (.iconst 2, 1) := by decide +kernel
theorem dX10_passes_121 : decode cX10_passes 121 = .ok (.idiv, 1) := by decide +kernel
theorem dX10_passes_122 : decode cX10_passes 122 = .ok (.iastore, 1) := by decide +kernel
theorem dX10_passes_123 : decode cX10_passes 123 = .ok (.aload_n 0, 1) := by decide +kernel
theorem dX10_passes_124 : decode cX10_passes 124 = .ok (.getfield 68, 3) := by decide +kernel
theorem dX10_passes_127 : decode cX10_passes 127 = .ok (.sipush 164, 3) := by decide +kernel
theorem dX10_passes_130 : decode cX10_passes 130 = .ok (.dup2, 1) := by decide +kernel
theorem dX10_passes_131 : decode cX10_passes 131 = .ok (.iaload, 1) := by decide +kernel
theorem dX10_passes_132 : decode cX10_passes 132 = .ok (.iconst 1, 1) := by decide +kernel
theorem dX10_passes_133 : decode cX10_passes 133 = .ok (.iadd, 1) := by decide +kernel
theorem dX10_passes_134 : decode cX10_passes 134 = .ok (.iastore, 1) := by decide +kernel
theorem dX10_passes_135 : decode cX10_passes 135 = .ok (.return_, 1) := by decide +kernel
theorem dX10_isDone_0 : decode cX10_isDone 0 = .ok (.iload_n 1, 1) := by decide +kernel
theorem dX10_isDone_1 : decode cX10_isDone 1 = .ok (.ifCond .ne 9, 3) := by decide +kernel
theorem dX10_isDone_4 : decode cX10_isDone 4 = .ok (.aload_n 0, 1) := by decide +kernel
theorem dX10_isDone_5 : decode cX10_isDone 5 = .ok (.iload_n 2, 1) := by decide +kernel
theorem dX10_isDone_6 : decode cX10_isDone 6 = .ok (.invokevirtual 367, 3) := by decide +kernel
theorem dX10_isDone_9 : decode cX10_isDone 9 = .ok (.ireturn, 1) := by decide +kernel
theorem dX10_isDone_10 : decode cX10_isDone 10 = .ok (.iload_n 1, 1) := by decide +kernel
theorem dX10_isDone_11 : decode cX10_isDone 11 = .ok (.iconst 3, 1) := by decide +kernel
theorem dX10_isDone_12 : decode cX10_isDone 12 = .ok (.if_icmp .ne 10, 3) := by decide +kernel
theorem dX10_isDone_15 : decode cX10_isDone 15 = .ok (.aload_n 0, 1) := by decide +kernel
theorem dX10_isDone_16 : decode cX10_isDone 16 = .ok (.iload_n 2, 1) := by decide +kernel
theorem dX10_isDone_17 : decode cX10_isDone 17 = .ok (.iload_n 3, 1) := by decide +kernel
theorem dX10_isDone_18 : decode cX10_isDone 18 = .ok (.invokevirtual 370, 3) := by decide +kernel
theorem dX10_isDone_21 : decode cX10_isDone 21 = .ok (.ireturn, 1) := by decide +kernel
theorem dX10_isDone_22 : decode cX10_isDone 22 = .ok (.iload_n 1, 1) := by decide +kernel
theorem dX10_isDone_23 : decode cX10_isDone 23 = .ok (.iconst 4, 1) := by decide +kernel
theorem dX10_isDone_24 : decode cX10_isDone 24 = .ok (.if_icmp .ne 9, 3) := by decide +kernel
theorem dX10_isDone_27 : decode cX10_isDone 27 = .ok (.aload_n 0, 1) := by decide +kernel
theorem dX10_isDone_28 : decode cX10_isDone 28 = .ok (.iload_n 2, 1) := by decide +kernel
theorem dX10_isDone_29 : decode cX10_isDone 29 = .ok (.invokevirtual 374, 3) := by decide +kernel
theorem dX10_isDone_32 : decode cX10_isDone 32 = .ok (.ireturn, 1) := by decide +kernel
theorem dX10_isDone_33 : decode cX10_isDone 33 = .ok (.iload_n 1, 1) := by decide +kernel
theorem dX10_isDone_34 : decode cX10_isDone 34 = .ok (.iconst 5, 1) := by decide +kernel
theorem dX10_isDone_35 : decode cX10_isDone 35 = .ok (.if_icmp .ne 19, 3) := by decide +kernel
theorem dX10_isDone_38 : decode cX10_isDone 38 = .ok (.aload_n 0, 1) := by decide +kernel
theorem dX10_isDone_39 : decode cX10_isDone 39 = .ok (.getfield 68, 3) := by decide +kernel
theorem dX10_isDone_42 : decode cX10_isDone 42 = .ok (.sipush 164, 3) := by decide +kernel
theorem dX10_isDone_45 : decode cX10_isDone 45 = .ok (.iaload, 1) := by decide +kernel
theorem dX10_isDone_46 : decode cX10_isDone 46 = .ok (.sipush 400, 3) := by decide +kernel
theorem dX10_isDone_49 : decode cX10_isDone 49 = .ok (.if_icmp .lt 5, 3) := by decide +kernel
theorem dX10_isDone_52 : decode cX10_isDone 52 = .ok (.iconst 0, 1) := by decide +kernel
theorem dX10_isDone_53 : decode cX10_isDone 53 = .ok (.ireturn, 1) := by decide +kernel
theorem dX10_isDone_54 : decode cX10_isDone 54 = .ok (.iload_n 1, 1) := by decide +kernel
theorem dX10_isDone_55 : decode cX10_isDone 55 = .ok (.iconst 1, 1) := by decide +kernel
theorem dX10_isDone_56 : decode cX10_isDone 56 = .ok (.if_icmp .ne 11, 3) := by decide +kernel
theorem dX10_isDone_59 : decode cX10_isDone 59 = .ok (.aload_n 0, 1) := by decide +kernel
theorem dX10_isDone_60 : decode cX10_isDone 60 = .ok (.iload_n 2, 1) := by decide +kernel
theorem dX10_isDone_61 : decode cX10_isDone 61 = .ok (.invokevirtual 377, 3) := by decide +kernel
theorem dX10_isDone_64 : decode cX10_isDone 64 = .ok (.goto 35, 3) := by decide +kernel
theorem dX10_isDone_67 : decode cX10_isDone 67 = .ok (.iload_n 1, 1) := by decide +kernel
theorem dX10_isDone_68 : decode cX10_isDone 68 = .ok (.iconst 2, 1) := by decide +kernel
theorem dX10_isDone_69 : decode cX10_isDone 69 = .ok (.if_icmp .ne 26, 3) := by decide +kernel
theorem dX10_isDone_72 : decode cX10_isDone 72 = .ok (.aload_n 0, 1) := by decide +kernel
theorem dX10_isDone_73 : decode cX10_isDone 73 = .ok (.getfield 68, 3) := by decide +kernel
theorem dX10_isDone_76 : decode cX10_isDone 76 = .ok (.bipush 6, 2) := by decide +kernel
theorem dX10_isDone_78 : decode cX10_isDone 78 = .ok (.iload_n 2, 1) := by decide +kernel
theorem dX10_isDone_79 : decode cX10_isDone 79 = .ok (.iadd, 1) := by decide +kernel
theorem dX10_isDone_80 : decode cX10_isDone 80 = .ok (.iconst 1, 1) := by decide +kernel
theorem dX10_isDone_81 : decode cX10_isDone 81 = .ok (.aload_n 0, 1) := by decide +kernel
theorem dX10_isDone_82 : decode cX10_isDone 82 = .ok (.getfield 68, 3) := by decide +kernel
theorem dX10_isDone_85 : decode cX10_isDone 85 = .ok (.bipush 6, 2) := by decide +kernel
theorem dX10_isDone_87 : decode cX10_isDone 87 = .ok (.iload_n 2, 1) := by decide +kernel
theorem dX10_isDone_88 : decode cX10_isDone 88 = .ok (.iadd, 1) := by decide +kernel
theorem dX10_isDone_89 : decode cX10_isDone 89 = .ok (.iaload, 1) := by decide +kernel
theorem dX10_isDone_90 : decode cX10_isDone 90 = .ok (.isub, 1) := by decide +kernel
theorem dX10_isDone_91 : decode cX10_isDone 91 = .ok (.iastore, 1) := by decide +kernel
theorem dX10_isDone_92 : decode cX10_isDone 92 = .ok (.goto 7, 3) := by decide +kernel
theorem dX10_isDone_95 : decode cX10_isDone 95 = .ok (.aload_n 0, 1) := by decide +kernel
theorem dX10_isDone_96 : decode cX10_isDone 96 = .ok (.invokevirtual 380, 3) := by decide +kernel
theorem dX10_isDone_99 : decode cX10_isDone 99 = .ok (.iconst 1, 1) := by decide +kernel
theorem dX10_isDone_100 : decode cX10_isDone 100 = .ok (.ireturn, 1) := by decide +kernel
theorem dX10_book_0 : decode cX10_book 0 = .ok (.aload_n 0, 1) := by decide +kernel
theorem dX10_book_1 : decode cX10_book 1 = .ok (.iconst 0, 1) := by decide +kernel
theorem dX10_book_2 : decode cX10_book 2 = .ok (.putfield 3, 3) := by decide +kernel
theorem dX10_book_5 : decode cX10_book 5 = .ok (.aload_n 0, 1) := by decide +kernel
theorem dX10_book_6 : decode cX10_book 6 = .ok (.iload_n 1, 1) := by decide +kernel
theorem dX10_book_7 : decode cX10_book 7 = .ok (.ifCond .lt 21, 3) := by decide +kernel
theorem dX10_book_10 : decode cX10_book 10 = .ok (.iload_n 1, 1) := by decide +kernel
theorem dX10_book_11 : decode cX10_book 11 = .ok (.aload_n 0, 1) := by decide +kernel
theorem dX10_book_12 : decode cX10_book 12 = .ok (.getfield 105, 3) := by decide +kernel
theorem dX10_book_15 : decode cX10_book 15 = .ok (.if_icmp .gt 13, 3) := by decide +kernel
theorem dX10_book_18 : decode cX10_book 18 = .ok (.iload_n 1, 1) := by decide +kernel
theorem dX10_book_19 : decode cX10_book 19 = .ok (.bipush 60, 2) := by decide +kernel
theorem dX10_book_21 : decode cX10_book 21 = .ok (.if_icmp .gt 7, 3) := by decide +kernel
theorem dX10_book_24 : decode cX10_book 24 = .ok (.iconst 1, 1) := by decide +kernel
theorem dX10_book_25 : decode cX10_book 25 = .ok (.goto 4, 3) := by decide +kernel
theorem dX10_book_28 : decode cX10_book 28 = .ok (.iconst 0, 1) := by decide +kernel
theorem dX10_book_29 : decode cX10_book 29 = .ok (.iconst 1, 1) := by decide +kernel
theorem dX10_book_30 : decode cX10_book 30 = .ok (.iconst 1, 1) := by decide +kernel
theorem dX10_book_31 : decode cX10_book 31 = .ok (.invokevirtual 205, 3) := by decide +kernel
theorem dX10_book_34 : decode cX10_book 34 = .ok (.ifCond .ne 5, 3) := by decide +kernel
theorem dX10_book_37 : decode cX10_book 37 = .ok (.iconst 0, 1) := by decide +kernel
theorem dX10_book_38 : decode cX10_book 38 = .ok (.ireturn, 1) := by decide +kernel
theorem dX10_book_39 : decode cX10_book 39 = .ok (.aload_n 0, 1) := by decide +kernel
theorem dX10_book_40 : decode cX10_book 40 = .ok (.iload_n 1, 1) := by decide +kernel
theorem dX10_book_41 : decode cX10_book 41 = .ok (.invokevirtual 209, 3) := by decide +kernel
theorem dX10_book_44 : decode cX10_book 44 = .ok (.iconst 0, 1) := by decide +kernel
theorem dX10_book_45 : decode cX10_book 45 = .ok (.istore_n 2, 1) := by decide +kernel
theorem dX10_book_46 : decode cX10_book 46 = .ok (.iload_n 2, 1) := by decide +kernel
theorem dX10_book_47 : decode cX10_book 47 = .ok (.bipush 6, 2) := by decide +kernel
theorem dX10_book_49 : decode cX10_book 49 = .ok (.if_icmp .ge 16, 3) := by decide +kernel
theorem dX10_book_52 : decode cX10_book 52 = .ok (.aload_n 0, 1) := by decide +kernel
theorem dX10_book_53 : decode cX10_book 53 = .ok (.getfield 74, 3) := by decide +kernel
theorem dX10_book_56 : decode cX10_book 56 = .ok (.iload_n 2, 1) := by decide +kernel
theorem dX10_book_57 : decode cX10_book 57 = .ok (.iconst (-1), 1) := by decide +kernel
theorem dX10_book_58 : decode cX10_book 58 = .ok (.iastore, 1) := by decide +kernel
theorem dX10_book_59 : decode cX10_book 59 = .ok (.iinc 2 1, 3) := by decide +kernel
theorem dX10_book_62 : decode cX10_book 62 = .ok (.goto (-16), 3) := by decide +kernel
theorem dX10_book_65 : decode cX10_book 65 = .ok (.iconst 0, 1) := by decide +kernel
theorem dX10_book_66 : decode cX10_book 66 = .ok (.istore_n 2, 1) := by decide +kernel
theorem dX10_book_67 : decode cX10_book 67 = .ok (.aload_n 0, 1) := by decide +kernel
theorem dX10_book_68 : decode cX10_book 68 = .ok (.invokevirtual 137, 3) := by decide +kernel
theorem dX10_book_71 : decode cX10_book 71 = .ok (.ifCond .eq 97, 3) := by decide +kernel
theorem dX10_book_74 : decode cX10_book 74 = .ok (.aload_n 0, 1) := by decide +kernel
theorem dX10_book_75 : decode cX10_book 75 = .ok (.invokevirtual 213, 3) := by decide +kernel
theorem dX10_book_78 : decode cX10_book 78 = .ok (.ifCond .eq 90, 3) := by decide +kernel
theorem dX10_book_81 : decode cX10_book 81 = .ok (.aload_n 0, 1) := by decide +kernel
theorem dX10_book_82 : decode cX10_book 82 = .ok (.invokevirtual 120, 3) := by decide +kernel
theorem dX10_book_85 : decode cX10_book 85 = .ok (.pop, 1) := by decide +kernel
theorem dX10_book_86 : decode cX10_book 86 = .ok (.aload_n 0, 1) := by decide +kernel
theorem dX10_book_87 : decode cX10_book 87 = .ok (.getfield 114, 3) := by decide +kernel
theorem dX10_book_90 : decode cX10_book 90 = .ok (.istore_n 3, 1) := by decide +kernel
theorem dX10_book_91 : decode cX10_book 91 = .ok (.aload_n 0, 1) := by decide +kernel
theorem dX10_book_92 : decode cX10_book 92 = .ok (.iconst 0, 1) := by decide +kernel
theorem dX10_book_93 : decode cX10_book 93 = .ok (.aload_n 0, 1) := by decide +kernel
theorem dX10_book_94 : decode cX10_book 94 = .ok (.getfield 160, 3) := by decide +kernel
theorem dX10_book_97 : decode cX10_book 97 = .ok (.iconst 1, 1) := by decide +kernel
theorem dX10_book_98 : decode cX10_book 98 = .ok (.isub, 1) := by decide +kernel
theorem dX10_book_99 : decode cX10_book 99 = .ok (.invokevirtual 188, 3) := by decide +kernel
theorem dX10_book_102 : decode cX10_book 102 = .ok (.istore 4, 2) := by decide +kernel
theorem dX10_book_104 : decode cX10_book 104 = .ok (.aload_n 0, 1) := by decide +kernel
theorem dX10_book_105 : decode cX10_book 105 = .ok (.invokevirtual 137, 3) := by decide +kernel
theorem dX10_book_108 : decode cX10_book 108 = .ok (.ifCond .eq 20, 3) := by decide +kernel
theorem dX10_book_111 : decode cX10_book 111 = .ok (.aload_n 0, 1) := by decide +kernel
theorem dX10_book_112 : decode cX10_book 112 = .ok (.getfield 74, 3) := by decide +kernel
theorem dX10_book_115 : decode cX10_book 115 = .ok (.iload 4, 2) := by decide +kernel
theorem dX10_book_117 : decode cX10_book 117 = .ok (.iaload, 1) := by decide +kernel
theorem dX10_book_118 : decode cX10_book 118 = .ok (.iconst (-1), 1) := by decide +kernel
theorem dX10_book_119 : decode cX10_book 119 = .ok (.if_icmp .eq 9, 3) := by decide +kernel
theorem dX10_book_122 : decode cX10_book 122 = .ok (.aload_n 0, 1) := by decide +kernel
theorem dX10_book_123 : decode cX10_book 123 = .ok (.iconst 2, 1) := by decide +kernel
theorem dX10_book_124 : decode cX10_book 124 = .ok (.iload_n 3, 1) := by decide +kernel
theorem dX10_book_125 : decode cX10_book 125 = .ok (.invokevirtual 144, 3) := by decide +kernel
theorem dX10_book_128 : decode cX10_book 128 = .ok (.aload_n 0, 1) := by decide +kernel
theorem dX10_book_129 : decode cX10_book 129 = .ok (.iconst 0, 1) := by decide +kernel
theorem dX10_book_130 : decode cX10_book 130 = .ok (.bipush 16, 2) := by decide +kernel
theorem dX10_book_132 : decode cX10_book 132 = .ok (.invokevirtual 188, 3) := by decide +kernel
theorem dX10_book_135 : decode cX10_book 135 = .ok (.istore 5, 2) := by decide +kernel
theorem dX10_book_137 : decode cX10_book 137 = .ok (.aload_n 0, 1) := by decide +kernel
theorem dX10_book_138 : decode cX10_book 138 = .ok (.bipush 59, 2) := by decide +kernel
theorem dX10_book_140 : decode cX10_book 140 = .ok (.invokevirtual 231, 3) := by decide +kernel
theorem dX10_book_143 : decode cX10_book 143 = .ok (.aload_n 0, 1) := by decide +kernel
theorem dX10_book_144 : decode cX10_book 144 = .ok (.invokevirtual 137, 3) := by decide +kernel
theorem dX10_book_147 : decode cX10_book 147 = .ok (.ifCond .ne 6, 3) := by decide +kernel
theorem dX10_book_150 : decode cX10_book 150 = .ok (.goto 18, 3) := by decide +kernel
theorem dX10_book_153 : decode cX10_book 153 = .ok (.aload_n 0, 1) := by decide +kernel
theorem dX10_book_154 : decode cX10_book 154 = .ok (.getfield 74, 3) := by decide +kernel
theorem dX10_book_157 : decode cX10_book 157 = .ok (.iload 4, 2) := by decide +kernel
theorem dX10_book_159 : decode cX10_book 159 = .ok (.iload 5, 2) := by decide +kernel
theorem dX10_book_161 : decode cX10_book 161 = .ok (.iastore, 1) := by decide +kernel
theorem dX10_book_162 : decode cX10_book 162 = .ok (.iinc 2 1, 3) := by decide +kernel
theorem dX10_book_165 : decode cX10_book 165 = .ok (.goto (-98), 3) := by decide +kernel
