theorem dX9_init_0 : decode cX9_init 0 = .ok (.aload_n 0, 1) := by decide +kernel
theorem dX9_init_1 : decode cX9_init 1 = .ok (.invokespecial 1, 3) := by decide +kernel
theorem dX9_init_4 : decode cX9_init 4 = .ok (.aload_n 0, 1) := by decide +kernel
theorem dX9_init_5 : decode cX9_init 5 = .ok (.new 7, 3) := by decide +kernel
theorem dX9_init_8 : decode cX9_init 8 = .ok (.dup, 1) := by decide +kernel
theorem dX9_init_9 : decode cX9_init 9 = .ok (.invokespecial 9, 3) := by decide +kernel
theorem dX9_init_12 : decode cX9_init 12 = .ok (.putfield 10, 3) := by decide +kernel
theorem dX9_init_15 : decode cX9_init 15 = .ok (.aload_n 0, 1) := by decide +kernel
theorem dX9_init_16 : decode cX9_init 16 = .ok (.new 16, 3) := by decide +kernel
theorem dX9_init_19 : decode cX9_init 19 = .ok (.dup, 1) := by decide +kernel
theorem dX9_init_20 : decode cX9_init 20 = .ok (.invokespecial 18, 3) := by decide +kernel
theorem dX9_init_23 : decode cX9_init 23 = .ok (.putfield 19, 3) := by decide +kernel
theorem dX9_init_26 : decode cX9_init 26 = .ok (.aload_n 0, 1) := by decide +kernel
theorem dX9_init_27 : decode cX9_init 27 = .ok (.new 16, 3) := by decide +kernel
theorem dX9_init_30 : decode cX9_init 30 = .ok (.dup, 1) := by decide +kernel
theorem dX9_init_31 : decode cX9_init 31 = .ok (.invokespecial 18, 3) := by decide +kernel
theorem dX9_init_34 : decode cX9_init 34 = .ok (.putfield 23, 3) := by decide +kernel
theorem dX9_init_37 : decode cX9_init 37 = .ok (.aload_n 0, 1) := by decide +kernel
theorem dX9_init_38 : decode cX9_init 38 = .ok (.new 26, 3) := by decide +kernel
theorem dX9_init_41 : decode cX9_init 41 = .ok (.dup, 1) := by decide +kernel
theorem dX9_init_42 : decode cX9_init 42 = .ok (.invokespecial 28, 3) := by decide +kernel
theorem dX9_init_45 : decode cX9_init 45 = .ok (.putfield 29, 3) := by decide +kernel
theorem dX9_init_48 : decode cX9_init 48 = .ok (.aload_n 0, 1) := by decide +kernel
theorem dX9_init_49 : decode cX9_init 49 = .ok (.new 33, 3) := by decide +kernel
theorem dX9_init_52 : decode cX9_init 52 = .ok (.dup, 1) := by decide +kernel
theorem dX9_init_53 : decode cX9_init 53 = .ok (.invokespecial 35, 3) := by decide +kernel
theorem dX9_init_56 : decode cX9_init 56 = .ok (.putfield 36, 3) := by decide +kernel
theorem dX9_init_59 : decode cX9_init 59 = .ok (.aload_n 0, 1) := by decide +kernel
theorem dX9_init_60 : decode cX9_init 60 = .ok (.new 40, 3) := by decide +kernel
theorem dX9_init_63 : decode cX9_init 63 = .ok (.dup, 1) := by decide +kernel
theorem dX9_init_64 : decode cX9_init 64 = .ok (.invokespecial 42, 3) := by decide +kernel
theorem dX9_init_67 : decode cX9_init 67 = .ok (.putfield 43, 3) := by decide +kernel
theorem dX9_init_70 : decode cX9_init 70 = .ok (.aload_n 0, 1) := by decide +kernel
theorem dX9_init_71 : decode cX9_init 71 = .ok (.iconst 3, 1) := by decide +kernel
theorem dX9_init_72 : decode cX9_init 72 = .ok (.anewarray 47, 3) := by decide +kernel
theorem dX9_init_75 : decode cX9_init 75 = .ok (.putfield 49, 3) := by decide +kernel
theorem dX9_init_78 : decode cX9_init 78 = .ok (.aload_n 0, 1) := by decide +kernel
theorem dX9_init_79 : decode cX9_init 79 = .ok (.bipush 17, 2) := by decide +kernel
theorem dX9_init_81 : decode cX9_init 81 = .ok (.newarray .int, 2) := by decide +kernel
theorem dX9_init_83 : decode cX9_init 83 = .ok (.putfield 53, 3) := by decide +kernel
theorem dX9_init_86 : decode cX9_init 86 = .ok (.aload_n 0, 1) := by decide +kernel
theorem dX9_init_87 : decode cX9_init 87 = .ok (.new 57, 3) := by decide +kernel
theorem dX9_init_90 : decode cX9_init 90 = .ok (.dup, 1) := by decide +kernel
theorem dX9_init_91 : decode cX9_init 91 = .ok (.invokespecial 59, 3) := by decide +kernel
theorem dX9_init_94 : decode cX9_init 94 = .ok (.putfield 60, 3) := by decide +kernel
theorem dX9_init_97 : decode cX9_init 97 = .ok (.aload_n 0, 1) := by decide +kernel
theorem dX9_init_98 : decode cX9_init 98 = .ok (.new 57, 3) := by decide +kernel
theorem dX9_init_101 : decode cX9_init 101 = .ok (.dup, 1) := by decide +kernel
theorem dX9_init_102 : decode cX9_init 102 = .ok (.invokespecial 59, 3) := by decide +kernel
theorem dX9_init_105 : decode cX9_init 105 = .ok (.putfield 64, 3) := by decide +kernel
theorem dX9_init_108 : decode cX9_init 108 = .ok (.aload_n 0, 1) := by decide +kernel
theorem dX9_init_109 : decode cX9_init 109 = .ok (.new 67, 3) := by decide +kernel
theorem dX9_init_112 : decode cX9_init 112 = .ok (.dup, 1) := by decide +kernel
theorem dX9_init_113 : decode cX9_init 113 = .ok (.invokespecial 69, 3) := by decide +kernel
theorem dX9_init_116 : decode cX9_init 116 = .ok (.putfield 70, 3) := by decide +kernel
theorem dX9_init_119 : decode cX9_init 119 = .ok (.aload_n 0, 1) := by decide +kernel
theorem dX9_init_120 : decode cX9_init 120 = .ok (.new 67, 3) := by decide +kernel
theorem dX9_init_123 : decode cX9_init 123 = .ok (.dup, 1) := by decide +kernel
theorem dX9_init_124 : decode cX9_init 124 = .ok (.invokespecial 69, 3) := by decide +kernel
theorem dX9_init_127 : decode cX9_init 127 = .ok (.putfield 74, 3) := by decide +kernel
theorem dX9_init_130 : decode cX9_init 130 = .ok (.aload_n 0, 1) := by decide +kernel
theorem dX9_init_131 : decode cX9_init 131 = .ok (.new 77, 3) := by decide +kernel
theorem dX9_init_134 : decode cX9_init 134 = .ok (.dup, 1) := by decide +kernel
theorem dX9_init_135 : decode cX9_init 135 = .ok (.invokespecial 79, 3) := by decide +kernel
theorem dX9_init_138 : decode cX9_init 138 = .ok (.putfield 80, 3) := by decide +kernel
theorem dX9_init_141 : decode cX9_init 141 = .ok (.aload_n 0, 1) := by decide +kernel
theorem dX9_init_142 : decode cX9_init 142 = .ok (.new 77, 3) := by decide +kernel
theorem dX9_init_145 : decode cX9_init 145 = .ok (.dup, 1) := by decide +kernel
theorem dX9_init_146 : decode cX9_init 146 = .ok (.invokespecial 79, 3) := by decide +kernel
theorem dX9_init_149 : decode cX9_init 149 = .ok (.putfield 84, 3) := by decide +kernel
theorem dX9_init_152 : decode cX9_init 152 = .ok (.aload_n 0, 1) := by decide +kernel
theorem dX9_init_153 : decode cX9_init 153 = .ok (.aconst_null, 1) := by decide +kernel
theorem dX9_init_154 : decode cX9_init 154 = .ok (.putfield 87, 3) := by decide +kernel
theorem dX9_init_157 : decode cX9_init 157 = .ok (.aload_n 0, 1) := by decide +kernel
theorem dX9_init_158 : decode cX9_init 158 = .ok (.iconst 0, 1) := by decide +kernel
theorem dX9_init_159 : decode cX9_init 159 = .ok (.putfield 91, 3) := by decide +kernel
theorem dX9_init_162 : decode cX9_init 162 = .ok (.aload_n 0, 1) := by decide +kernel
theorem dX9_init_163 : decode cX9_init 163 = .ok (.iconst 0, 1) := by decide +kernel
theorem dX9_init_164 : decode cX9_init 164 = .ok (.putfield 95, 3) := by decide +kernel
theorem dX9_init_167 : decode cX9_init 167 = .ok (.aload_n 0, 1) := by decide +kernel
theorem dX9_init_168 : decode cX9_init 168 = .ok (.iconst 0, 1) := by decide +kernel
theorem dX9_init_169 : decode cX9_init 169 = .ok (.putfield 98, 3) := by decide +kernel
theorem dX9_init_172 : decode cX9_init 172 = .ok (.aload_n 0, 1) := by decide +kernel
theorem dX9_init_173 : decode cX9_init 173 = .ok (.iconst 0, 1) := by decide +kernel
theorem dX9_init_174 : decode cX9_init 174 = .ok (.putfield 101, 3) := by decide +kernel
theorem dX9_init_177 : decode cX9_init 177 = .ok (.return_, 1) := by decide +kernel
theorem dX9_feed_0 : decode cX9_feed 0 = .ok (.aload_n 0, 1) := by decide +kernel
theorem dX9_feed_1 : decode cX9_feed 1 = .ok (.getfield 10, 3) := by decide +kernel
theorem dX9_feed_4 : decode cX9_feed 4 = .ok (.invokevirtual 104, 3) := by decide +kernel
theorem dX9_feed_7 : decode cX9_feed 7 = .ok (.ifCond .ne 5, 3) := by decide +kernel
theorem dX9_feed_10 : decode cX9_feed 10 = .ok (.iconst (-1), 1) := by decide +kernel
theorem dX9_feed_11 : decode cX9_feed 11 = .ok (.ireturn, 1) := by decide +kernel
theorem dX9_feed_12 : decode cX9_feed 12 = .ok (.aload_n 0, 1) := by decide +kernel
theorem dX9_feed_13 : decode cX9_feed 13 = .ok (.getfield 10, 3) := by decide +kernel
theorem dX9_feed_16 : decode cX9_feed 16 = .ok (.iload_n 1, 1) := by decide +kernel
theorem dX9_feed_17 : decode cX9_feed 17 = .ok (.invokevirtual 108, 3) := by decide +kernel
theorem dX9_feed_20 : decode cX9_feed 20 = .ok (.aload_n 0, 1) := by decide +kernel
theorem dX9_feed_21 : decode cX9_feed 21 = .ok (.getfield 10, 3) := by decide +kernel
theorem dX9_feed_24 : decode cX9_feed 24 = .ok (.iload_n 2, 1) := by decide +kernel
theorem dX9_feed_25 : decode cX9_feed 25 = .ok (.invokevirtual 108, 3) := by decide +kernel
theorem dX9_feed_28 : decode cX9_feed 28 = .ok (.aload_n 0, 1) := by decide +kernel
theorem dX9_feed_29 : decode cX9_feed 29 = .ok (.getfield 10, 3) := by decide +kernel
theorem dX9_feed_32 : decode cX9_feed 32 = .ok (.iload_n 3, 1) := by decide +kernel
theorem dX9_feed_33 : decode cX9_feed 33 = .ok (.invokevirtual 108, 3) := by decide +kernel
theorem dX9_feed_36 : decode cX9_feed 36 = .ok (.aload_n 0, 1) := by decide +kernel
theorem dX9_feed_37 : decode cX9_feed 37 = .ok (.getfield 10, 3) := by decide +kernel
theorem dX9_feed_40 : decode cX9_feed 40 = .ok (.iload 4, 2) := by decide +kernel
theorem dX9_feed_42 : decode cX9_feed 42 = .ok (.invokevirtual 108, 3) := by decide +kernel
theorem dX9_feed_45 : decode cX9_feed 45 = .ok (.aload_n 0, 1) := by decide +kernel
theorem dX9_feed_46 : decode cX9_feed 46 = .ok (.getfield 10, 3) := by decide +kernel
theorem dX9_feed_49 : decode cX9_feed 49 = .ok (.iload 5, 2) := by decide +kernel
theorem dX9_feed_51 : decode cX9_feed 51 = .ok (.invokevirtual 108, 3) := by decide +kernel
theorem dX9_feed_54 : decode cX9_feed 54 = .ok (.aload_n 0, 1) := by decide +kernel
theorem dX9_feed_55 : decode cX9_feed 55 = .ok (.getfield 10, 3) := by decide +kernel
theorem dX9_feed_58 : decode cX9_feed 58 = .ok (.getfield 112, 3) := by decide +kernel
theorem dX9_feed_61 : decode cX9_feed 61 = .ok (.ireturn, 1) := by decide +kernel
theorem dX9_garden_0 : decode cX9_garden 0 = .ok (.aload_n 0, 1) := by decide +kernel
theorem dX9_garden_1 : decode cX9_garden 1 = .ok (.iload_n 1, 1) := by decide +kernel
theorem dX9_garden_2 : decode cX9_garden 2 = .ok (.sipush 600, 3) := by decide +kernel
theorem dX9_garden_5 : decode cX9_garden 5 = .ok (.invokevirtual 115, 3) := by decide +kernel
theorem dX9_garden_8 : decode cX9_garden 8 = .ok (.aload_n 0, 1) := by decide +kernel
theorem dX9_garden_9 : decode cX9_garden 9 = .ok (.getfield 10, 3) := by decide +kernel
theorem dX9_garden_12 : decode cX9_garden 12 = .ok (.iload_n 1, 1) := by decide +kernel
theorem dX9_garden_13 : decode cX9_garden 13 = .ok (.invokevirtual 119, 3) := by decide +kernel
theorem dX9_garden_16 : decode cX9_garden 16 = .ok (.aload_n 0, 1) := by decide +kernel
theorem dX9_garden_17 : decode cX9_garden 17 = .ok (.getfield 64, 3) := by decide +kernel
theorem dX9_garden_20 : decode cX9_garden 20 = .ok (.aload_n 0, 1) := by decide +kernel
theorem dX9_garden_21 : decode cX9_garden 21 = .ok (.getfield 10, 3) := by decide +kernel
theorem dX9_garden_24 : decode cX9_garden 24 = .ok (.invokevirtual 122, 3) := by decide +kernel
theorem dX9_garden_27 : decode cX9_garden 27 = .ok (.aload_n 0, 1) := by decide +kernel
theorem dX9_garden_28 : decode cX9_garden 28 = .ok (.getfield 10, 3) := by decide +kernel
theorem dX9_garden_31 : decode cX9_garden 31 = .ok (.invokevirtual 126, 3) := by decide +kernel
theorem dX9_garden_34 : decode cX9_garden 34 = .ok (.aload_n 0, 1) := by decide +kernel
theorem dX9_garden_35 : decode cX9_garden 35 = .ok (.getfield 10, 3) := by decide +kernel
theorem dX9_garden_38 : decode cX9_garden 38 = .ok (.invokevirtual 129, 3) := by decide +kernel
theorem dX9_garden_41 : decode cX9_garden 41 = .ok (.ifCond .ne 11, 3) := by decide +kernel
theorem dX9_garden_44 : decode cX9_garden 44 = .ok (.aload_n 0, 1) := by decide +kernel
theorem dX9_garden_45 : decode cX9_garden 45 = .ok (.getfield 10, 3) := by decide +kernel
theorem dX9_garden_48 : decode cX9_garden 48 = .ok (.invokevirtual 132, 3) := by decide +kernel
theorem dX9_garden_51 : decode cX9_garden 51 = .ok (.ireturn, 1) := by decide +kernel
theorem dX9_garden_52 : decode cX9_garden 52 = .ok (.aload_n 0, 1) := by decide +kernel
theorem dX9_garden_53 : decode cX9_garden 53 = .ok (.getfield 60, 3) := by decide +kernel
theorem dX9_garden_56 : decode cX9_garden 56 = .ok (.astore_n 2, 1) := by decide +kernel
theorem dX9_garden_57 : decode cX9_garden 57 = .ok (.aload_n 0, 1) := by decide +kernel
theorem dX9_garden_58 : decode cX9_garden 58 = .ok (.aload_n 0, 1) := by decide +kernel
theorem dX9_garden_59 : decode cX9_garden 59 = .ok (.getfield 64, 3) := by decide +kernel
theorem dX9_garden_62 : decode cX9_garden 62 = .ok (.putfield 60, 3) := by decide +kernel
theorem dX9_garden_65 : decode cX9_garden 65 = .ok (.aload_n 0, 1) := by decide +kernel
theorem dX9_garden_66 : decode cX9_garden 66 = .ok (.aload_n 2, 1) := by decide +kernel
theorem dX9_garden_67 : decode cX9_garden 67 = .ok (.putfield 64, 3) := by decide +kernel
theorem dX9_garden_70 : decode cX9_garden 70 = .ok (.aload_n 0, 1) := by decide +kernel
theorem dX9_garden_71 : decode cX9_garden 71 = .ok (.getfield 70, 3) := by decide +kernel
theorem dX9_garden_74 : decode cX9_garden 74 = .ok (.invokevirtual 136, 3) := by decide +kernel
theorem dX9_garden_77 : decode cX9_garden 77 = .ok (.aload_n 0, 1) := by decide +kernel
theorem dX9_garden_78 : decode cX9_garden 78 = .ok (.getfield 80, 3) := by decide +kernel
theorem dX9_garden_81 : decode cX9_garden 81 = .ok (.invokevirtual 139, 3) := by decide +kernel
theorem dX9_garden_84 : decode cX9_garden 84 = .ok (.aload_n 0, 1) := by decide +kernel
theorem dX9_garden_85 : decode cX9_garden 85 = .ok (.invokevirtual 142, 3) := by decide +kernel
theorem dX9_garden_88 : decode cX9_garden 88 = .ok (.aload_n 0, 1) := by decide +kernel
theorem dX9_garden_89 : decode cX9_garden 89 = .ok (.aconst_null, 1) := by decide +kernel
theorem dX9_garden_90 : decode cX9_garden 90 = .ok (.putfield 87, 3) := by decide +kernel
theorem dX9_garden_93 : decode cX9_garden 93 = .ok (.aload_n 0, 1) := by decide +kernel
theorem dX9_garden_94 : decode cX9_garden 94 = .ok (.iconst 0, 1) := by decide +kernel
theorem dX9_garden_95 : decode cX9_garden 95 = .ok (.putfield 95, 3) := by decide +kernel
theorem dX9_garden_98 : decode cX9_garden 98 = .ok (.aload_n 0, 1) := by decide +kernel
theorem dX9_garden_99 : decode cX9_garden 99 = .ok (.getfield 19, 3) := by decide +kernel
theorem dX9_garden_102 : decode cX9_garden 102 = .ok (.aload_n 0, 1) := by decide +kernel
theorem dX9_garden_103 : decode cX9_garden 103 = .ok (.getfield 60, 3) := by decide +kernel
theorem dX9_garden_106 : decode cX9_garden 106 = .ok (.invokevirtual 145, 3) := by decide +kernel
theorem dX9_garden_109 : decode cX9_garden 109 = .ok (.aload_n 0, 1) := by decide +kernel
theorem dX9_garden_110 : decode cX9_garden 110 = .ok (.getfield 60, 3) := by decide +kernel
theorem dX9_garden_113 : decode cX9_garden 113 = .ok (.getfield 149, 3) := by decide +kernel
theorem dX9_garden_116 : decode cX9_garden 116 = .ok (.ireturn, 1) := by decide +kernel
theorem dX9_law_0 : decode cX9_law 0 = .ok (.aload_n 0, 1) := by decide +kernel
theorem dX9_law_1 : decode cX9_law 1 = .ok (.iload_n 1, 1) := by decide +kernel
theorem dX9_law_2 : decode cX9_law 2 = .ok (.sipush 150, 3) := by decide +kernel
theorem dX9_law_5 : decode cX9_law 5 = .ok (.invokevirtual 115, 3) := by decide +kernel
theorem dX9_law_8 : decode cX9_law 8 = .ok (.aload_n 0, 1) := by decide +kernel
theorem dX9_law_9 : decode cX9_law 9 = .ok (.getfield 10, 3) := by decide +kernel
theorem dX9_law_12 : decode cX9_law 12 = .ok (.iload_n 1, 1) := by decide +kernel
theorem dX9_law_13 : decode cX9_law 13 = .ok (.invokevirtual 119, 3) := by decide +kernel
theorem dX9_law_16 : decode cX9_law 16 = .ok (.aload_n 0, 1) := by decide +kernel
theorem dX9_law_17 : decode cX9_law 17 = .ok (.getfield 74, 3) := by decide +kernel
theorem dX9_law_20 : decode cX9_law 20 = .ok (.aload_n 0, 1) := by decide +kernel
theorem dX9_law_21 : decode cX9_law 21 = .ok (.getfield 10, 3) := by decide +kernel
theorem dX9_law_24 : decode cX9_law 24 = .ok (.invokevirtual 152, 3) := by decide +kernel
theorem dX9_law_27 : decode cX9_law 27 = .ok (.aload_n 0, 1) := by decide +kernel
theorem dX9_law_28 : decode cX9_law 28 = .ok (.getfield 10, 3) := by decide +kernel
theorem dX9_law_31 : decode cX9_law 31 = .ok (.invokevirtual 126, 3) := by decide +kernel
theorem dX9_law_34 : decode cX9_law 34 = .ok (.aload_n 0, 1) := by decide +kernel
theorem dX9_law_35 : decode cX9_law 35 = .ok (.getfield 10, 3) := by decide +kernel
theorem dX9_law_38 : decode cX9_law 38 = .ok (.invokevirtual 129, 3) := by decide +kernel
theorem dX9_law_41 : decode cX9_law 41 = .ok (.ifCond .ne 11, 3) := by decide +kernel
theorem dX9_law_44 : decode cX9_law 44 = .ok (.aload_n 0, 1) := by decide +kernel
theorem dX9_law_45 : decode cX9_law 45 = .ok (.getfield 10, 3) := by decide +kernel
theorem dX9_law_48 : decode cX9_law 48 = .ok (.invokevirtual 132, 3) := by decide +kernel
theorem dX9_law_51 : decode cX9_law 51 = .ok (.ireturn, 1) := by decide +kernel
theorem dX9_law_52 : decode cX9_law 52 = .ok (.aload_n 0, 1) := by decide +kernel
theorem dX9_law_53 : decode cX9_law 53 = .ok (.getfield 70, 3) := by decide +kernel
theorem dX9_law_56 : decode cX9_law 56 = .ok (.astore_n 2, 1) := by decide +kernel
theorem dX9_law_57 : decode cX9_law 57 = .ok (.aload_n 0, 1) := by decide +kernel
theorem dX9_law_58 : decode cX9_law 58 = .ok (.aload_n 0, 1) := by decide +kernel
theorem dX9_law_59 : decode cX9_law 59 = .ok (.getfield 74, 3) := by decide +kernel
theorem dX9_law_62 : decode cX9_law 62 = .ok (.putfield 70, 3) := by decide +kernel
theorem dX9_law_65 : decode cX9_law 65 = .ok (.aload_n 0, 1) := by decide +kernel
theorem dX9_law_66 : decode cX9_law 66 = .ok (.aload_n 2, 1) := by decide +kernel
theorem dX9_law_67 : decode cX9_law 67 = .ok (.putfield 74, 3) := by decide +kernel
theorem dX9_law_70 : decode cX9_law 70 = .ok (.iconst 1, 1) := by decide +kernel
theorem dX9_law_71 : decode cX9_law 71 = .ok (.ireturn, 1) := by decide +kernel
theorem dX9_work_0 : decode cX9_work 0 = .ok (.aload_n 0, 1) := by decide +kernel
theorem dX9_work_1 : decode cX9_work 1 = .ok (.iload_n 1, 1) := by decide +kernel
theorem dX9_work_2 : decode cX9_work 2 = .ok (.sipush 150, 3) := by decide +kernel
theorem dX9_work_5 : decode cX9_work 5 = .ok (.invokevirtual 115, 3) := by decide +kernel
theorem dX9_work_8 : decode cX9_work 8 = .ok (.aload_n 0, 1) := by decide +kernel
theorem dX9_work_9 : decode cX9_work 9 = .ok (.invokevirtual 153, 3) := by decide +kernel
theorem dX9_work_12 : decode cX9_work 12 = .ok (.bipush 16, 2) := by decide +kernel
theorem dX9_work_14 : decode cX9_work 14 = .ok (.if_icmp .lt 21, 3) := by decide +kernel
theorem dX9_work_17 : decode cX9_work 17 = .ok (.aload_n 0, 1) := by decide +kernel
theorem dX9_work_18 : decode cX9_work 18 = .ok (.getfield 10, 3) := by decide +kernel
theorem dX9_work_21 : decode cX9_work 21 = .ok (.iconst 0, 1) := by decide +kernel
theorem dX9_work_22 : decode cX9_work 22 = .ok (.invokevirtual 119, 3) := by decide +kernel
theorem dX9_work_25 : decode cX9_work 25 = .ok (.aload_n 0, 1) := by decide +kernel
theorem dX9_work_26 : decode cX9_work 26 = .ok (.getfield 10, 3) := by decide +kernel
theorem dX9_work_29 : decode cX9_work 29 = .ok (.invokevirtual 126, 3) := by decide +kernel
theorem dX9_work_32 : decode cX9_work 32 = .ok (.bipush (-20), 2) := by decide +kernel
theorem dX9_work_34 : decode cX9_work 34 = .ok (.ireturn, 1) := by decide +kernel
theorem dX9_work_35 : decode cX9_work 35 = .ok (.aload_n 0, 1) := by decide +kernel
theorem dX9_work_36 : decode cX9_work 36 = .ok (.getfield 10, 3) := by decide +kernel
theorem dX9_work_39 : decode cX9_work 39 = .ok (.iload_n 1, 1) := by decide +kernel
theorem dX9_work_40 : decode cX9_work 40 = .ok (.invokevirtual 119, 3) := by decide +kernel
theorem dX9_work_43 : decode cX9_work 43 = .ok (.aload_n 0, 1) := by decide +kernel
theorem dX9_work_44 : decode cX9_work 44 = .ok (.getfield 29, 3) := by decide +kernel
theorem dX9_work_47 : decode cX9_work 47 = .ok (.aload_n 0, 1) := by decide +kernel
theorem dX9_work_48 : decode cX9_work 48 = .ok (.getfield 10, 3) := by decide +kernel
theorem dX9_work_51 : decode cX9_work 51 = .ok (.aload_n 0, 1) := by decide +kernel
theorem dX9_work_52 : decode cX9_work 52 = .ok (.getfield 60, 3) := by decide +kernel
theorem dX9_work_55 : decode cX9_work 55 = .ok (.invokevirtual 156, 3) := by decide +kernel
theorem dX9_work_58 : decode cX9_work 58 = .ok (.aload_n 0, 1) := by decide +kernel
theorem dX9_work_59 : decode cX9_work 59 = .ok (.getfield 10, 3) := by decide +kernel
theorem dX9_work_62 : decode cX9_work 62 = .ok (.invokevirtual 126, 3) := by decide +kernel
theorem dX9_work_65 : decode cX9_work 65 = .ok (.aload_n 0, 1) := by decide +kernel
theorem dX9_work_66 : decode cX9_work 66 = .ok (.getfield 10, 3) := by decide +kernel
theorem dX9_work_69 : decode cX9_work 69 = .ok (.invokevirtual 129, 3) := by decide +kernel
theorem dX9_work_72 : decode cX9_work 72 = .ok (.ifCond .ne 11, 3) := by decide +kernel
theorem dX9_work_75 : decode cX9_work 75 = .ok (.aload_n 0, 1) := by decide +kernel
theorem dX9_work_76 : decode cX9_work 76 = .ok (.getfield 10, 3) := by decide +kernel
theorem dX9_work_79 : decode cX9_work 79 = .ok (.invokevirtual 132, 3) := by decide +kernel
theorem dX9_work_82 : decode cX9_work 82 = .ok (.ireturn, 1) := by decide +kernel
theorem dX9_work_83 : decode cX9_work 83 = .ok (.aload_n 0, 1) := by decide +kernel
theorem dX9_work_84 : decode cX9_work 84 = .ok (.new 47, 3) := by decide +kernel
theorem dX9_work_87 : decode cX9_work 87 = .ok (.dup, 1) := by decide +kernel
theorem dX9_work_88 : decode cX9_work 88 = .ok (.aload_n 0, 1) := by decide +kernel
theorem dX9_work_89 : decode cX9_work 89 = .ok (.getfield 19, 3) := by decide +kernel
theorem dX9_work_92 : decode cX9_work 92 = .ok (.aload_n 0, 1) := by decide +kernel
theorem dX9_work_93 : decode cX9_work 93 = .ok (.getfield 87, 3) := by decide +kernel
theorem dX9_work_96 : decode cX9_work 96 = .ok (.aload_n 0, 1) := by decide +kernel
theorem dX9_work_97 : decode cX9_work 97 = .ok (.invokevirtual 153, 3) := by decide +kernel
theorem dX9_work_100 : decode cX9_work 100 = .ok (.iconst 1, 1) := by decide +kernel
theorem dX9_work_101 : decode cX9_work 101 = .ok (.iadd, 1) := by decide +kernel
theorem dX9_work_102 : decode cX9_work 102 = .ok (.invokespecial 159, 3) := by decide +kernel
theorem dX9_work_105 : decode cX9_work 105 = .ok (.putfield 87, 3) := by decide +kernel
theorem dX9_work_108 : decode cX9_work 108 = .ok (.aload_n 0, 1) := by decide +kernel
theorem dX9_work_109 : decode cX9_work 109 = .ok (.getfield 29, 3) := by decide +kernel
theorem dX9_work_112 : decode cX9_work 112 = .ok (.aload_n 0, 1) := by decide +kernel
theorem dX9_work_113 : decode cX9_work 113 = .ok (.getfield 19, 3) := by decide +kernel
theorem dX9_work_116 : decode cX9_work 116 = .ok (.aload_n 0, 1) := by decide +kernel
theorem dX9_work_117 : decode cX9_work 117 = .ok (.getfield 60, 3) := by decide +kernel
theorem dX9_work_120 : decode cX9_work 120 = .ok (.aload_n 0, 1) := by decide +kernel
theorem dX9_work_121 : decode cX9_work 121 = .ok (.getfield 70, 3) := by decide +kernel
theorem dX9_work_124 : decode cX9_work 124 = .ok (.invokevirtual 162, 3) := by decide +kernel
theorem dX9_work_127 : decode cX9_work 127 = .ok (.istore_n 2, 1) := by decide +kernel
theorem dX9_work_128 : decode cX9_work 128 = .ok (.aload_n 0, 1) := by decide +kernel
theorem dX9_work_129 : decode cX9_work 129 = .ok (.aload_n 0, 1) := by decide +kernel
theorem dX9_work_130 : decode cX9_work 130 = .ok (.getfield 29, 3) := by decide +kernel
theorem dX9_work_133 : decode cX9_work 133 = .ok (.getfield 166, 3) := by decide +kernel
theorem dX9_work_136 : decode cX9_work 136 = .ok (.putfield 95, 3) := by decide +kernel
theorem dX9_work_139 : decode cX9_work 139 = .ok (.iload_n 2, 1) := by decide +kernel
theorem dX9_work_140 : decode cX9_work 140 = .ok (.ireturn, 1) := by decide +kernel
theorem dX9_book_0 : decode cX9_book 0 = .ok (.aload_n 0, 1) := by decide +kernel
theorem dX9_book_1 : decode cX9_book 1 = .ok (.iload_n 1, 1) := by decide +kernel
theorem dX9_book_2 : decode cX9_book 2 = .ok (.bipush 60, 2) := by decide +kernel
theorem dX9_book_4 : decode cX9_book 4 = .ok (.invokevirtual 115, 3) := by decide +kernel
theorem dX9_book_7 : decode cX9_book 7 = .ok (.aload_n 0, 1) := by decide +kernel
theorem dX9_book_8 : decode cX9_book 8 = .ok (.getfield 10, 3) := by decide +kernel
theorem dX9_book_11 : decode cX9_book 11 = .ok (.iload_n 1, 1) := by decide +kernel
theorem dX9_book_12 : decode cX9_book 12 = .ok (.invokevirtual 119, 3) := by decide +kernel
theorem dX9_book_15 : decode cX9_book 15 = .ok (.aload_n 0, 1) := by decide +kernel
theorem dX9_book_16 : decode cX9_book 16 = .ok (.getfield 84, 3) := by decide +kernel
theorem dX9_book_19 : decode cX9_book 19 = .ok (.aload_n 0, 1) := by decide +kernel
theorem dX9_book_20 : decode cX9_book 20 = .ok (.getfield 10, 3) := by decide +kernel
theorem dX9_book_23 : decode cX9_book 23 = .ok (.aload_n 0, 1) := by decide +kernel
theorem dX9_book_24 : decode cX9_book 24 = .ok (.getfield 60, 3) := by decide +kernel
theorem dX9_book_27 : decode cX9_book 27 = .ok (.getfield 169, 3) := by decide +kernel
theorem dX9_book_30 : decode cX9_book 30 = .ok (.invokevirtual 172, 3) := by decide +kernel
theorem dX9_book_33 : decode cX9_book 33 = .ok (.aload_n 0, 1) := by decide +kernel
theorem dX9_book_34 : decode cX9_book 34 = .ok (.getfield 10, 3) := by decide +kernel
theorem dX9_book_37 : decode cX9_book 37 = .ok (.invokevirtual 126, 3) := by decide +kernel
theorem dX9_book_40 : decode cX9_book 40 = .ok (.aload_n 0, 1) := by decide +kernel
theorem dX9_book_41 : decode cX9_book 41 = .ok (.getfield 10, 3) := by decide +kernel
theorem dX9_book_44 : decode cX9_book 44 = .ok (.invokevirtual 129, 3) := by decide +kernel
theorem dX9_book_47 : decode cX9_book 47 = .ok (.ifCond .ne 11, 3) := by decide +kernel
theorem dX9_book_50 : decode cX9_book 50 = .ok (.aload_n 0, 1) := by decide +kernel
theorem dX9_book_51 : decode cX9_book 51 = .ok (.getfield 10, 3) := by decide +kernel
theorem dX9_book_54 : decode cX9_book 54 = .ok (.invokevirtual 132, 3) := by decide +kernel
theorem dX9_book_57 : decode cX9_book 57 = .ok (.ireturn, 1) := by decide +kernel
theorem dX9_book_58 : decode cX9_book 58 = .ok (.aload_n 0, 1) := by decide +kernel
theorem dX9_book_59 : decode cX9_book 59 = .ok (.getfield 80, 3) := by decide +kernel
theorem dX9_book_62 : decode cX9_book 62 = .ok (.astore_n 2, 1) := by decide +kernel
theorem dX9_book_63 : decode cX9_book 63 = .ok (.aload_n 0, 1) := by decide +kernel
theorem dX9_book_64 : decode cX9_book 64 = .ok (.aload_n 0, 1) := by decide +kernel
theorem dX9_book_65 : decode cX9_book 65 = .ok (.getfield 84, 3) := by decide +kernel
theorem dX9_book_68 : decode cX9_book 68 = .ok (.putfield 80, 3) := by decide +kernel
theorem dX9_book_71 : decode cX9_book 71 = .ok (.aload_n 0, 1) := by decide +kernel
theorem dX9_book_72 : decode cX9_book 72 = .ok (.aload_n 2, 1) := by decide +kernel
theorem dX9_book_73 : decode cX9_book 73 = .ok (.putfield 84, 3) := by decide +kernel
theorem dX9_book_76 : decode cX9_book 76 = .ok (.aload_n 0, 1) := by decide +kernel
theorem dX9_book_77 : decode cX9_book 77 = .ok (.getfield 80, 3) := by decide +kernel
theorem dX9_book_80 : decode cX9_book 80 = .ok (.getfield 175, 3) := by decide +kernel
theorem dX9_book_83 : decode cX9_book 83 = .ok (.ireturn, 1) := by decide +kernel
theorem dX9_fault_0 : decode cX9_fault 0 = .ok (.aload_n 0, 1) := by decide +kernel
theorem dX9_fault_1 : decode cX9_fault 1 = .ok (.getfield 10, 3) := by decide +kernel
theorem dX9_fault_4 : decode cX9_fault 4 = .ok (.getfield 178, 3) := by decide +kernel
theorem dX9_fault_7 : decode cX9_fault 7 = .ok (.ireturn, 1) := by decide +kernel
theorem dX9_undo_0 : decode cX9_undo 0 = .ok (.aload_n 0, 1) := by decide +kernel
theorem dX9_undo_1 : decode cX9_undo 1 = .ok (.getfield 87, 3) := by decide +kernel
theorem dX9_undo_4 : decode cX9_undo 4 = .ok (.ifnonnull 5, 3) := by decide +kernel
theorem dX9_undo_7 : decode cX9_undo 7 = .ok (.iconst (-1), 1) := by decide +kernel
theorem dX9_undo_8 : decode cX9_undo 8 = .ok (.ireturn, 1) := by decide +kernel
theorem dX9_undo_9 : decode cX9_undo 9 = .ok (.aload_n 0, 1) := by decide +kernel
theorem dX9_undo_10 : decode cX9_undo 10 = .ok (.getfield 19, 3) := by decide +kernel
theorem dX9_undo_13 : decode cX9_undo 13 = .ok (.aload_n 0, 1) := by decide +kernel
theorem dX9_undo_14 : decode cX9_undo 14 = .ok (.getfield 87, 3) := by decide +kernel
theorem dX9_undo_17 : decode cX9_undo 17 = .ok (.getfield 181, 3) := by decide +kernel
theorem dX9_undo_20 : decode cX9_undo 20 = .ok (.invokevirtual 184, 3) := by decide +kernel
theorem dX9_undo_23 : decode cX9_undo 23 = .ok (.aload_n 0, 1) := by decide +kernel
theorem dX9_undo_24 : decode cX9_undo 24 = .ok (.aload_n 0, 1) := by decide +kernel
theorem dX9_undo_25 : decode cX9_undo 25 = .ok (.getfield 87, 3) := by decide +kernel
theorem dX9_undo_28 : decode cX9_undo 28 = .ok (.getfield 188, 3) := by decide +kernel
theorem dX9_undo_31 : decode cX9_undo 31 = .ok (.putfield 87, 3) := by decide +kernel
theorem dX9_undo_34 : decode cX9_undo 34 = .ok (.aload_n 0, 1) := by decide +kernel
theorem dX9_undo_35 : decode cX9_undo 35 = .ok (.iconst 0, 1) := by decide +kernel
theorem dX9_undo_36 : decode cX9_undo 36 = .ok (.putfield 95, 3) := by decide +kernel
theorem dX9_undo_39 : decode cX9_undo 39 = .ok (.aload_n 0, 1) := by decide +kernel
theorem dX9_undo_40 : decode cX9_undo 40 = .ok (.invokevirtual 153, 3) := by decide +kernel
theorem dX9_undo_43 : decode cX9_undo 43 = .ok (.ireturn, 1) := by decide +kernel
theorem dX9_told_0 : decode cX9_told 0 = .ok (.aload_n 0, 1) := by decide +kernel
theorem dX9_told_1 : decode cX9_told 1 = .ok (.iload_n 1, 1) := by decide +kernel
theorem dX9_told_2 : decode cX9_told 2 = .ok (.iconst 0, 1) := by decide +kernel
theorem dX9_told_3 : decode cX9_told 3 = .ok (.bipush 11, 2) := by decide +kernel
theorem dX9_told_5 : decode cX9_told 5 = .ok (.invokevirtual 191, 3) := by decide +kernel
theorem dX9_told_8 : decode cX9_told 8 = .ok (.iload_n 1, 1) := by decide +kernel
theorem dX9_told_9 : decode cX9_told 9 = .ok (.tableswitch 148 0 10 #[59, 67, 75, 83, 91, 99, 111, 119, 127, 135, 143], 59) := by decide +kernel
theorem dX9_told_68 : decode cX9_told 68 = .ok (.aload_n 0, 1) := by decide +kernel
theorem dX9_told_69 : decode cX9_told 69 = .ok (.getfield 60, 3) := by decide +kernel
theorem dX9_told_72 : decode cX9_told 72 = .ok (.getfield 169, 3) := by decide +kernel
theorem dX9_told_75 : decode cX9_told 75 = .ok (.ireturn, 1) := by decide +kernel
theorem dX9_told_76 : decode cX9_told 76 = .ok (.aload_n 0, 1) := by decide +kernel
theorem dX9_told_77 : decode cX9_told 77 = .ok (.getfield 60, 3) := by decide +kernel
theorem dX9_told_80 : decode cX9_told 80 = .ok (.getfield 149, 3) := by decide +kernel
theorem dX9_told_83 : decode cX9_told 83 = .ok (.ireturn, 1) := by decide +kernel
theorem dX9_told_84 : decode cX9_told 84 = .ok (.aload_n 0, 1) := by decide +kernel
theorem dX9_told_85 : decode cX9_told 85 = .ok (.getfield 60, 3) := by decide +kernel
theorem dX9_told_88 : decode cX9_told 88 = .ok (.getfield 195, 3) := by decide +kernel
theorem dX9_told_91 : decode cX9_told 91 = .ok (.ireturn, 1) := by decide +kernel
theorem dX9_told_92 : decode cX9_told 92 = .ok (.aload_n 0, 1) := by decide +kernel
theorem dX9_told_93 : decode cX9_told 93 = .ok (.getfield 19, 3) := by decide +kernel
theorem dX9_told_96 : decode cX9_told 96 = .ok (.getfield 198, 3) := by decide +kernel
theorem dX9_told_99 : decode cX9_told 99 = .ok (.ireturn, 1) := by decide +kernel
theorem dX9_told_100 : decode cX9_told 100 = .ok (.aload_n 0, 1) := by decide +kernel
theorem dX9_told_101 : decode cX9_told 101 = .ok (.getfield 19, 3) := by decide +kernel
theorem dX9_told_104 : decode cX9_told 104 = .ok (.getfield 201, 3) := by decide +kernel
theorem dX9_told_107 : decode cX9_told 107 = .ok (.ireturn, 1) := by decide +kernel
theorem dX9_told_108 : decode cX9_told 108 = .ok (.aload_n 0, 1) := by decide +kernel
theorem dX9_told_109 : decode cX9_told 109 = .ok (.getfield 19, 3) := by decide +kernel
theorem dX9_told_112 : decode cX9_told 112 = .ok (.aload_n 0, 1) := by decide +kernel
theorem dX9_told_113 : decode cX9_told 113 = .ok (.getfield 60, 3) := by decide +kernel
theorem dX9_told_116 : decode cX9_told 116 = .ok (.invokevirtual 204, 3) := by decide +kernel
theorem dX9_told_119 : decode cX9_told 119 = .ok (.ireturn, 1) := by decide +kernel
theorem dX9_told_120 : decode cX9_told 120 = .ok (.aload_n 0, 1) := by decide +kernel
theorem dX9_told_121 : decode cX9_told 121 = .ok (.getfield 19, 3) := by decide +kernel
theorem dX9_told_124 : decode cX9_told 124 = .ok (.invokevirtual 208, 3) := by decide +kernel
theorem dX9_told_127 : decode cX9_told 127 = .ok (.ireturn, 1) := by decide +kernel
theorem dX9_told_128 : decode cX9_told 128 = .ok (.aload_n 0, 1) := by decide +kernel
theorem dX9_told_129 : decode cX9_told 129 = .ok (.getfield 19, 3) := by decide +kernel
theorem dX9_told_132 : decode cX9_told 132 = .ok (.getfield 211, 3) := by decide +kernel
theorem dX9_told_135 : decode cX9_told 135 = .ok (.ireturn, 1) := by decide +kernel
theorem dX9_told_136 : decode cX9_told 136 = .ok (.aload_n 0, 1) := by decide +kernel
theorem dX9_told_137 : decode cX9_told 137 = .ok (.getfield 19, 3) := by decide +kernel
theorem dX9_told_140 : decode cX9_told 140 = .ok (.getfield 214, 3) := by decide +kernel
theorem dX9_told_143 : decode cX9_told 143 = .ok (.ireturn, 1) := by decide +kernel
theorem dX9_told_144 : decode cX9_told 144 = .ok (.aload_n 0, 1) := by decide +kernel
theorem dX9_told_145 : decode cX9_told 145 = .ok (.getfield 80, 3) := by decide +kernel
theorem dX9_told_148 : decode cX9_told 148 = .ok (.getfield 175, 3) := by decide +kernel
theorem dX9_told_151 : decode cX9_told 151 = .ok (.ireturn, 1) := by decide +kernel
theorem dX9_told_152 : decode cX9_told 152 = .ok (.aload_n 0, 1) := by decide +kernel
theorem dX9_told_153 : decode cX9_told 153 = .ok (.getfield 95, 3) := by decide +kernel
theorem dX9_told_156 : decode cX9_told 156 = .ok (.ireturn, 1) := by decide +kernel
theorem dX9_told_157 : decode cX9_told 157 = .ok (.aload_n 0, 1) := by decide +kernel
theorem dX9_told_158 : decode cX9_told 158 = .ok (.getfield 19, 3) := by decide +kernel
theorem dX9_told_161 : decode cX9_told 161 = .ok (.getfield 217, 3) := by decide +kernel
theorem dX9_told_164 : decode cX9_told 164 = .ok (.ireturn, 1) := by decide +kernel
theorem dX9_letter_0 : decode cX9_letter 0 = .ok (.aload_n 0, 1) := by decide +kernel
theorem dX9_letter_1 : decode cX9_letter 1 = .ok (.iload_n 1, 1) := by decide +kernel
theorem dX9_letter_2 : decode cX9_letter 2 = .ok (.aload_n 0, 1) := by decide +kernel
theorem dX9_letter_3 : decode cX9_letter 3 = .ok (.getfield 60, 3) := by decide +kernel
theorem dX9_letter_6 : decode cX9_letter 6 = .ok (.getfield 149, 3) := by decide +kernel
theorem dX9_letter_9 : decode cX9_letter 9 = .ok (.invokevirtual 220, 3) := by decide +kernel
theorem dX9_letter_12 : decode cX9_letter 12 = .ok (.aload_n 0, 1) := by decide +kernel
theorem dX9_letter_13 : decode cX9_letter 13 = .ok (.iload_n 2, 1) := by decide +kernel
theorem dX9_letter_14 : decode cX9_letter 14 = .ok (.iconst 0, 1) := by decide +kernel
theorem dX9_letter_15 : decode cX9_letter 15 = .ok (.iconst 4, 1) := by decide +kernel
theorem dX9_letter_16 : decode cX9_letter 16 = .ok (.invokevirtual 191, 3) := by decide +kernel
theorem dX9_letter_19 : decode cX9_letter 19 = .ok (.iload_n 2, 1) := by decide +kernel
theorem dX9_letter_20 : decode cX9_letter 20 = .ok (.tableswitch 78 0 3 #[32, 42, 52, 65], 32) := by decide +kernel
theorem dX9_letter_52 : decode cX9_letter 52 = .ok (.aload_n 0, 1) := by decide +kernel
theorem dX9_letter_53 : decode cX9_letter 53 = .ok (.getfield 60, 3) := by decide +kernel
theorem dX9_letter_56 : decode cX9_letter 56 = .ok (.getfield 223, 3) := by decide +kernel
theorem dX9_letter_59 : decode cX9_letter 59 = .ok (.iload_n 1, 1) := by decide +kernel
theorem dX9_letter_60 : decode cX9_letter 60 = .ok (.iaload, 1) := by decide +kernel
theorem dX9_letter_61 : decode cX9_letter 61 = .ok (.ireturn, 1) := by decide +kernel
theorem dX9_letter_62 : decode cX9_letter 62 = .ok (.aload_n 0, 1) := by decide +kernel
theorem dX9_letter_63 : decode cX9_letter 63 = .ok (.getfield 60, 3) := by decide +kernel
theorem dX9_letter_66 : decode cX9_letter 66 = .ok (.getfield 226, 3) := by decide +kernel
theorem dX9_letter_69 : decode cX9_letter 69 = .ok (.iload_n 1, 1) := by decide +kernel
theorem dX9_letter_70 : decode cX9_letter 70 = .ok (.iaload, 1) := by decide +kernel
theorem dX9_letter_71 : decode cX9_letter 71 = .ok (.ireturn, 1) := by decide +kernel
theorem dX9_letter_72 : decode cX9_letter 72 = .ok (.aload_n 0, 1) := by decide +kernel
theorem dX9_letter_73 : decode cX9_letter 73 = .ok (.getfield 19, 3) := by decide +kernel
theorem dX9_letter_76 : decode cX9_letter 76 = .ok (.aload_n 0, 1) := by decide +kernel
theorem dX9_letter_77 : decode cX9_letter 77 = .ok (.getfield 60, 3) := by decide +kernel
theorem dX9_letter_80 : decode cX9_letter 80 = .ok (.iload_n 1, 1) := by decide +kernel
theorem dX9_letter_81 : decode cX9_letter 81 = .ok (.invokevirtual 229, 3) := by decide +kernel
theorem dX9_letter_84 : decode cX9_letter 84 = .ok (.ireturn, 1) := by decide +kernel
theorem dX9_letter_85 : decode cX9_letter 85 = .ok (.aload_n 0, 1) := by decide +kernel
theorem dX9_letter_86 : decode cX9_letter 86 = .ok (.getfield 19, 3) := by decide +kernel
theorem dX9_letter_89 : decode cX9_letter 89 = .ok (.aload_n 0, 1) := by decide +kernel
theorem dX9_letter_90 : decode cX9_letter 90 = .ok (.getfield 60, 3) := by decide +kernel
theorem dX9_letter_93 : decode cX9_letter 93 = .ok (.iload_n 1, 1) := by decide +kernel
theorem dX9_letter_94 : decode cX9_letter 94 = .ok (.invokevirtual 233, 3) := by decide +kernel
theorem dX9_letter_97 : decode cX9_letter 97 = .ok (.ireturn, 1) := by decide +kernel
theorem dX9_letter_98 : decode cX9_letter 98 = .ok (.aload_n 0, 1) := by decide +kernel
theorem dX9_letter_99 : decode cX9_letter 99 = .ok (.getfield 19, 3) := by decide +kernel
theorem dX9_letter_102 : decode cX9_letter 102 = .ok (.iload_n 1, 1) := by decide +kernel
theorem dX9_letter_103 : decode cX9_letter 103 = .ok (.invokevirtual 236, 3) := by decide +kernel
theorem dX9_letter_106 : decode cX9_letter 106 = .ok (.ifCond .eq 7, 3) := by decide +kernel
theorem dX9_letter_109 : decode cX9_letter 109 = .ok (.iconst 1, 1) := by decide +kernel
theorem dX9_letter_110 : decode cX9_letter 110 = .ok (.goto 4, 3) := by decide +kernel
theorem dX9_letter_113 : decode cX9_letter 113 = .ok (.iconst 0, 1) := by decide +kernel
theorem dX9_letter_114 : decode cX9_letter 114 = .ok (.ireturn, 1) := by decide +kernel
theorem dX9_word_0 : decode cX9_word 0 = .ok (.aload_n 0, 1) := by decide +kernel
theorem dX9_word_1 : decode cX9_word 1 = .ok (.iload_n 1, 1) := by decide +kernel
theorem dX9_word_2 : decode cX9_word 2 = .ok (.aload_n 0, 1) := by decide +kernel
theorem dX9_word_3 : decode cX9_word 3 = .ok (.getfield 60, 3) := by decide +kernel
theorem dX9_word_6 : decode cX9_word 6 = .ok (.getfield 149, 3) := by decide +kernel
theorem dX9_word_9 : decode cX9_word 9 = .ok (.invokevirtual 220, 3) := by decide +kernel
theorem dX9_word_12 : decode cX9_word 12 = .ok (.aload_n 0, 1) := by decide +kernel
theorem dX9_word_13 : decode cX9_word 13 = .ok (.iload_n 2, 1) := by decide +kernel
theorem dX9_word_14 : decode cX9_word 14 = .ok (.iconst 0, 1) := by decide +kernel
theorem dX9_word_15 : decode cX9_word 15 = .ok (.aload_n 0, 1) := by decide +kernel
theorem dX9_word_16 : decode cX9_word 16 = .ok (.getfield 60, 3) := by decide +kernel
theorem dX9_word_19 : decode cX9_word 19 = .ok (.getfield 226, 3) := by decide +kernel
theorem dX9_word_22 : decode cX9_word 22 = .ok (.iload_n 1, 1) := by decide +kernel
theorem dX9_word_23 : decode cX9_word 23 = .ok (.iaload, 1) := by decide +kernel
theorem dX9_word_24 : decode cX9_word 24 = .ok (.iconst 1, 1) := by decide +kernel
theorem dX9_word_25 : decode cX9_word 25 = .ok (.isub, 1) := by decide +kernel
theorem dX9_word_26 : decode cX9_word 26 = .ok (.invokevirtual 191, 3) := by decide +kernel
theorem dX9_word_29 : decode cX9_word 29 = .ok (.aload_n 0, 1) := by decide +kernel
theorem dX9_word_30 : decode cX9_word 30 = .ok (.getfield 60, 3) := by decide +kernel
theorem dX9_word_33 : decode cX9_word 33 = .ok (.iload_n 1, 1) := by decide +kernel
theorem dX9_word_34 : decode cX9_word 34 = .ok (.iload_n 2, 1) := by decide +kernel
theorem dX9_word_35 : decode cX9_word 35 = .ok (.invokevirtual 240, 3) := by decide +kernel
theorem dX9_word_38 : decode cX9_word 38 = .ok (.ireturn, 1) := by decide +kernel
theorem dX9_bed_0 : decode cX9_bed 0 = .ok (.aload_n 0, 1) := by decide +kernel
theorem dX9_bed_1 : decode cX9_bed 1 = .ok (.iload_n 1, 1) := by decide +kernel
theorem dX9_bed_2 : decode cX9_bed 2 = .ok (.aload_n 0, 1) := by decide +kernel
theorem dX9_bed_3 : decode cX9_bed 3 = .ok (.getfield 60, 3) := by decide +kernel
theorem dX9_bed_6 : decode cX9_bed 6 = .ok (.getfield 169, 3) := by decide +kernel
theorem dX9_bed_9 : decode cX9_bed 9 = .ok (.invokevirtual 220, 3) := by decide +kernel
theorem dX9_bed_12 : decode cX9_bed 12 = .ok (.aload_n 0, 1) := by decide +kernel
theorem dX9_bed_13 : decode cX9_bed 13 = .ok (.iload_n 2, 1) := by decide +kernel
theorem dX9_bed_14 : decode cX9_bed 14 = .ok (.iconst 0, 1) := by decide +kernel
theorem dX9_bed_15 : decode cX9_bed 15 = .ok (.iconst 4, 1) := by decide +kernel
theorem dX9_bed_16 : decode cX9_bed 16 = .ok (.invokevirtual 191, 3) := by decide +kernel
theorem dX9_bed_19 : decode cX9_bed 19 = .ok (.iload_n 2, 1) := by decide +kernel
theorem dX9_bed_20 : decode cX9_bed 20 = .ok (.tableswitch 71 0 3 #[32, 42, 52, 61], 32) := by decide +kernel
theorem dX9_bed_52 : decode cX9_bed 52 = .ok (.aload_n 0, 1) := by decide +kernel
theorem dX9_bed_53 : decode cX9_bed 53 = .ok (.getfield 60, 3) := by decide +kernel
theorem dX9_bed_56 : decode cX9_bed 56 = .ok (.getfield 244, 3) := by decide +kernel
theorem dX9_bed_59 : decode cX9_bed 59 = .ok (.iload_n 1, 1) := by decide +kernel
theorem dX9_bed_60 : decode cX9_bed 60 = .ok (.iaload, 1) := by decide +kernel
theorem dX9_bed_61 : decode cX9_bed 61 = .ok (.ireturn, 1) := by decide +kernel
theorem dX9_bed_62 : decode cX9_bed 62 = .ok (.aload_n 0, 1) := by decide +kernel
theorem dX9_bed_63 : decode cX9_bed 63 = .ok (.getfield 19, 3) := by decide +kernel
theorem dX9_bed_66 : decode cX9_bed 66 = .ok (.getfield 247, 3) := by decide +kernel
theorem dX9_bed_69 : decode cX9_bed 69 = .ok (.iload_n 1, 1) := by decide +kernel
theorem dX9_bed_70 : decode cX9_bed 70 = .ok (.iaload, 1) := by decide +kernel
theorem dX9_bed_71 : decode cX9_bed 71 = .ok (.ireturn, 1) := by decide +kernel
theorem dX9_bed_72 : decode cX9_bed 72 = .ok (.aload_n 0, 1) := by decide +kernel
theorem dX9_bed_73 : decode cX9_bed 73 = .ok (.getfield 19, 3) := by decide +kernel
theorem dX9_bed_76 : decode cX9_bed 76 = .ok (.iload_n 1, 1) := by decide +kernel
theorem dX9_bed_77 : decode cX9_bed 77 = .ok (.invokevirtual 250, 3) := by decide +kernel
theorem dX9_bed_80 : decode cX9_bed 80 = .ok (.ireturn, 1) := by decide +kernel
theorem dX9_bed_81 : decode cX9_bed 81 = .ok (.aload_n 0, 1) := by decide +kernel
theorem dX9_bed_82 : decode cX9_bed 82 = .ok (.getfield 19, 3) := by decide +kernel
theorem dX9_bed_85 : decode cX9_bed 85 = .ok (.iload_n 1, 1) := by decide +kernel
theorem dX9_bed_86 : decode cX9_bed 86 = .ok (.iconst 0, 1) := by decide +kernel
theorem dX9_bed_87 : decode cX9_bed 87 = .ok (.invokevirtual 254, 3) := by decide +kernel
theorem dX9_bed_90 : decode cX9_bed 90 = .ok (.ireturn, 1) := by decide +kernel
theorem dX9_bed_91 : decode cX9_bed 91 = .ok (.aload_n 0, 1) := by decide +kernel
theorem dX9_bed_92 : decode cX9_bed 92 = .ok (.getfield 19, 3) := by decide +kernel
theorem dX9_bed_95 : decode cX9_bed 95 = .ok (.aload_n 0, 1) := by decide +kernel
theorem dX9_bed_96 : decode cX9_bed 96 = .ok (.getfield 60, 3) := by decide +kernel
theorem dX9_bed_99 : decode cX9_bed 99 = .ok (.iload_n 1, 1) := by decide +kernel
theorem dX9_bed_100 : decode cX9_bed 100 = .ok (.invokevirtual 257, 3) := by decide +kernel
theorem dX9_bed_103 : decode cX9_bed 103 = .ok (.ireturn, 1) := by decide +kernel
theorem dX9_lies_0 : decode cX9_lies 0 = .ok (.aload_n 0, 1) := by decide +kernel
theorem dX9_lies_1 : decode cX9_lies 1 = .ok (.iload_n 1, 1) := by decide +kernel
theorem dX9_lies_2 : decode cX9_lies 2 = .ok (.aload_n 0, 1) := by decide +kernel
theorem dX9_lies_3 : decode cX9_lies 3 = .ok (.getfield 60, 3) := by decide +kernel
theorem dX9_lies_6 : decode cX9_lies 6 = .ok (.getfield 169, 3) := by decide +kernel
theorem dX9_lies_9 : decode cX9_lies 9 = .ok (.invokevirtual 220, 3) := by decide +kernel
theorem dX9_lies_12 : decode cX9_lies 12 = .ok (.aload_n 0, 1) := by decide +kernel
theorem dX9_lies_13 : decode cX9_lies 13 = .ok (.iload_n 2, 1) := by decide +kernel
theorem dX9_lies_14 : decode cX9_lies 14 = .ok (.invokevirtual 260, 3) := by decide +kernel
theorem dX9_lies_17 : decode cX9_lies 17 = .ok (.aload_n 0, 1) := by decide +kernel
theorem dX9_lies_18 : decode cX9_lies 18 = .ok (.getfield 19, 3) := by decide +kernel
theorem dX9_lies_21 : decode cX9_lies 21 = .ok (.iload_n 1, 1) := by decide +kernel
theorem dX9_lies_22 : decode cX9_lies 22 = .ok (.iload_n 2, 1) := by decide +kernel
theorem dX9_lies_23 : decode cX9_lies 23 = .ok (.invokevirtual 254, 3) := by decide +kernel
theorem dX9_lies_26 : decode cX9_lies 26 = .ok (.ireturn, 1) := by decide +kernel
theorem dX9_reader_0 : decode cX9_reader 0 = .ok (.aload_n 0, 1) := by decide +kernel
theorem dX9_reader_1 : decode cX9_reader 1 = .ok (.iload_n 1, 1) := by decide +kernel
theorem dX9_reader_2 : decode cX9_reader 2 = .ok (.aload_n 0, 1) := by decide +kernel
theorem dX9_reader_3 : decode cX9_reader 3 = .ok (.getfield 60, 3) := by decide +kernel
theorem dX9_reader_6 : decode cX9_reader 6 = .ok (.getfield 195, 3) := by decide +kernel
theorem dX9_reader_9 : decode cX9_reader 9 = .ok (.invokevirtual 220, 3) := by decide +kernel
theorem dX9_reader_12 : decode cX9_reader 12 = .ok (.aload_n 0, 1) := by decide +kernel
theorem dX9_reader_13 : decode cX9_reader 13 = .ok (.iload_n 2, 1) := by decide +kernel
theorem dX9_reader_14 : decode cX9_reader 14 = .ok (.iconst 0, 1) := by decide +kernel
theorem dX9_reader_15 : decode cX9_reader 15 = .ok (.iconst 1, 1) := by decide +kernel
theorem dX9_reader_16 : decode cX9_reader 16 = .ok (.invokevirtual 191, 3) := by decide +kernel
theorem dX9_reader_19 : decode cX9_reader 19 = .ok (.iload_n 2, 1) := by decide +kernel
theorem dX9_reader_20 : decode cX9_reader 20 = .ok (.ifCond .ne 15, 3) := by decide +kernel
theorem dX9_reader_23 : decode cX9_reader 23 = .ok (.aload_n 0, 1) := by decide +kernel
theorem dX9_reader_24 : decode cX9_reader 24 = .ok (.getfield 19, 3) := by decide +kernel
theorem dX9_reader_27 : decode cX9_reader 27 = .ok (.getfield 263, 3) := by decide +kernel
theorem dX9_reader_30 : decode cX9_reader 30 = .ok (.iload_n 1, 1) := by decide +kernel
theorem dX9_reader_31 : decode cX9_reader 31 = .ok (.iaload, 1) := by decide +kernel
theorem dX9_reader_32 : decode cX9_reader 32 = .ok (.goto 12, 3) := by decide +kernel
theorem dX9_reader_35 : decode cX9_reader 35 = .ok (.aload_n 0, 1) := by decide +kernel
theorem dX9_reader_36 : decode cX9_reader 36 = .ok (.getfield 19, 3) := by decide +kernel
theorem dX9_reader_39 : decode cX9_reader 39 = .ok (.getfield 266, 3) := by decide +kernel
theorem dX9_reader_42 : decode cX9_reader 42 = .ok (.iload_n 1, 1) := by decide +kernel
theorem dX9_reader_43 : decode cX9_reader 43 = .ok (.iaload, 1) := by decide +kernel
theorem dX9_reader_44 : decode cX9_reader 44 = .ok (.ireturn, 1) := by decide +kernel
theorem dX9_grown_0 : decode cX9_grown 0 = .ok (.aload_n 0, 1) := by decide +kernel
theorem dX9_grown_1 : decode cX9_grown 1 = .ok (.iload_n 1, 1) := by decide +kernel
theorem dX9_grown_2 : decode cX9_grown 2 = .ok (.invokevirtual 260, 3) := by decide +kernel
theorem dX9_grown_5 : decode cX9_grown 5 = .ok (.iload_n 1, 1) := by decide +kernel
theorem dX9_grown_6 : decode cX9_grown 6 = .ok (.aload_n 0, 1) := by decide +kernel
theorem dX9_grown_7 : decode cX9_grown 7 = .ok (.getfield 19, 3) := by decide +kernel
theorem dX9_grown_10 : decode cX9_grown 10 = .ok (.getfield 217, 3) := by decide +kernel
theorem dX9_grown_13 : decode cX9_grown 13 = .ok (.if_icmp .ge 21, 3) := by decide +kernel
theorem dX9_grown_16 : decode cX9_grown 16 = .ok (.iload_n 1, 1) := by decide +kernel
theorem dX9_grown_17 : decode cX9_grown 17 = .ok (.bipush 60, 2) := by decide +kernel
theorem dX9_grown_19 : decode cX9_grown 19 = .ok (.if_icmp .ge 15, 3) := by decide +kernel
theorem dX9_grown_22 : decode cX9_grown 22 = .ok (.aload_n 0, 1) := by decide +kernel
theorem dX9_grown_23 : decode cX9_grown 23 = .ok (.getfield 19, 3) := by decide +kernel
theorem dX9_grown_26 : decode cX9_grown 26 = .ok (.getfield 269, 3) := by decide +kernel
theorem dX9_grown_29 : decode cX9_grown 29 = .ok (.iload_n 1, 1) := by decide +kernel
theorem dX9_grown_30 : decode cX9_grown 30 = .ok (.iaload, 1) := by decide +kernel
theorem dX9_grown_31 : decode cX9_grown 31 = .ok (.goto 4, 3) := by decide +kernel
theorem dX9_grown_34 : decode cX9_grown 34 = .ok (.iconst (-1), 1) := by decide +kernel
theorem dX9_grown_35 : decode cX9_grown 35 = .ok (.ireturn, 1) := by decide +kernel
theorem dX9_runs_0 : decode cX9_runs 0 = .ok (.aload_n 0, 1) := by decide +kernel
theorem dX9_runs_1 : decode cX9_runs 1 = .ok (.iload_n 1, 1) := by decide +kernel
theorem dX9_runs_2 : decode cX9_runs 2 = .ok (.aload_n 0, 1) := by decide +kernel
theorem dX9_runs_3 : decode cX9_runs 3 = .ok (.getfield 60, 3) := by decide +kernel
theorem dX9_runs_6 : decode cX9_runs 6 = .ok (.getfield 149, 3) := by decide +kernel
theorem dX9_runs_9 : decode cX9_runs 9 = .ok (.invokevirtual 220, 3) := by decide +kernel
theorem dX9_runs_12 : decode cX9_runs 12 = .ok (.aload_n 0, 1) := by decide +kernel
theorem dX9_runs_13 : decode cX9_runs 13 = .ok (.iload_n 2, 1) := by decide +kernel
theorem dX9_runs_14 : decode cX9_runs 14 = .ok (.iconst 1, 1) := by decide +kernel
theorem dX9_runs_15 : decode cX9_runs 15 = .ok (.bipush 20, 2) := by decide +kernel
theorem dX9_runs_17 : decode cX9_runs 17 = .ok (.invokevirtual 191, 3) := by decide +kernel
theorem dX9_runs_20 : decode cX9_runs 20 = .ok (.aload_n 0, 1) := by decide +kernel
theorem dX9_runs_21 : decode cX9_runs 21 = .ok (.getfield 19, 3) := by decide +kernel
theorem dX9_runs_24 : decode cX9_runs 24 = .ok (.aload_n 0, 1) := by decide +kernel
theorem dX9_runs_25 : decode cX9_runs 25 = .ok (.getfield 60, 3) := by decide +kernel
theorem dX9_runs_28 : decode cX9_runs 28 = .ok (.aload_n 0, 1) := by decide +kernel
theorem dX9_runs_29 : decode cX9_runs 29 = .ok (.getfield 70, 3) := by decide +kernel
theorem dX9_runs_32 : decode cX9_runs 32 = .ok (.iload_n 1, 1) := by decide +kernel
theorem dX9_runs_33 : decode cX9_runs 33 = .ok (.iload_n 2, 1) := by decide +kernel
theorem dX9_runs_34 : decode cX9_runs 34 = .ok (.aload_n 0, 1) := by decide +kernel
theorem dX9_runs_35 : decode cX9_runs 35 = .ok (.getfield 19, 3) := by decide +kernel
theorem dX9_runs_38 : decode cX9_runs 38 = .ok (.iload_n 2, 1) := by decide +kernel
theorem dX9_runs_39 : decode cX9_runs 39 = .ok (.invokevirtual 272, 3) := by decide +kernel
theorem dX9_runs_42 : decode cX9_runs 42 = .ok (.invokevirtual 275, 3) := by decide +kernel
theorem dX9_runs_45 : decode cX9_runs 45 = .ok (.ireturn, 1) := by decide +kernel
theorem dX9_would_0 : decode cX9_would 0 = .ok (.aload_n 0, 1) := by decide +kernel
theorem dX9_would_1 : decode cX9_would 1 = .ok (.iload_n 1, 1) := by decide +kernel
theorem dX9_would_2 : decode cX9_would 2 = .ok (.iconst 0, 1) := by decide +kernel
theorem dX9_would_3 : decode cX9_would 3 = .ok (.bipush 20, 2) := by decide +kernel
theorem dX9_would_5 : decode cX9_would 5 = .ok (.invokevirtual 191, 3) := by decide +kernel
theorem dX9_would_8 : decode cX9_would 8 = .ok (.aload_n 0, 1) := by decide +kernel
theorem dX9_would_9 : decode cX9_would 9 = .ok (.iload_n 2, 1) := by decide +kernel
theorem dX9_would_10 : decode cX9_would 10 = .ok (.iconst 0, 1) := by decide +kernel
theorem dX9_would_11 : decode cX9_would 11 = .ok (.bipush 99, 2) := by decide +kernel
theorem dX9_would_13 : decode cX9_would 13 = .ok (.invokevirtual 191, 3) := by decide +kernel
theorem dX9_would_16 : decode cX9_would 16 = .ok (.aload_n 0, 1) := by decide +kernel
theorem dX9_would_17 : decode cX9_would 17 = .ok (.iload_n 3, 1) := by decide +kernel
theorem dX9_would_18 : decode cX9_would 18 = .ok (.iconst 0, 1) := by decide +kernel
theorem dX9_would_19 : decode cX9_would 19 = .ok (.bipush 8, 2) := by decide +kernel
theorem dX9_would_21 : decode cX9_would 21 = .ok (.invokevirtual 191, 3) := by decide +kernel
theorem dX9_would_24 : decode cX9_would 24 = .ok (.aload_n 0, 1) := by decide +kernel
theorem dX9_would_25 : decode cX9_would 25 = .ok (.iload 4, 2) := by decide +kernel
theorem dX9_would_27 : decode cX9_would 27 = .ok (.iconst 0, 1) := by decide +kernel
theorem dX9_would_28 : decode cX9_would 28 = .ok (.bipush 30, 2) := by decide +kernel
theorem dX9_would_30 : decode cX9_would 30 = .ok (.invokevirtual 191, 3) := by decide +kernel
theorem dX9_would_33 : decode cX9_would 33 = .ok (.aload_n 0, 1) := by decide +kernel
theorem dX9_would_34 : decode cX9_would 34 = .ok (.iload 5, 2) := by decide +kernel
theorem dX9_would_36 : decode cX9_would 36 = .ok (.iconst 0, 1) := by decide +kernel
theorem dX9_would_37 : decode cX9_would 37 = .ok (.bipush 12, 2) := by decide +kernel
theorem dX9_would_39 : decode cX9_would 39 = .ok (.invokevirtual 191, 3) := by decide +kernel
theorem dX9_would_42 : decode cX9_would 42 = .ok (.aload_n 0, 1) := by decide +kernel
theorem dX9_would_43 : decode cX9_would 43 = .ok (.iload 6, 2) := by decide +kernel
theorem dX9_would_45 : decode cX9_would 45 = .ok (.iconst 0, 1) := by decide +kernel
theorem dX9_would_46 : decode cX9_would 46 = .ok (.sipush 400, 3) := by decide +kernel
theorem dX9_would_49 : decode cX9_would 49 = .ok (.invokevirtual 191, 3) := by decide +kernel
theorem dX9_would_52 : decode cX9_would 52 = .ok (.aload_n 0, 1) := by decide +kernel
theorem dX9_would_53 : decode cX9_would 53 = .ok (.iload 7, 2) := by decide +kernel
theorem dX9_would_55 : decode cX9_would 55 = .ok (.iconst 0, 1) := by decide +kernel
theorem dX9_would_56 : decode cX9_would 56 = .ok (.iconst 5, 1) := by decide +kernel
theorem dX9_would_57 : decode cX9_would 57 = .ok (.invokevirtual 191, 3) := by decide +kernel
theorem dX9_would_60 : decode cX9_would 60 = .ok (.aload_n 0, 1) := by decide +kernel
theorem dX9_would_61 : decode cX9_would 61 = .ok (.getfield 70, 3) := by decide +kernel
theorem dX9_would_64 : decode cX9_would 64 = .ok (.iload_n 1, 1) := by decide +kernel
theorem dX9_would_65 : decode cX9_would 65 = .ok (.iload_n 2, 1) := by decide +kernel
theorem dX9_would_66 : decode cX9_would 66 = .ok (.iload_n 3, 1) := by decide +kernel
theorem dX9_would_67 : decode cX9_would 67 = .ok (.iload 4, 2) := by decide +kernel
theorem dX9_would_69 : decode cX9_would 69 = .ok (.iload 5, 2) := by decide +kernel
theorem dX9_would_71 : decode cX9_would 71 = .ok (.iload 6, 2) := by decide +kernel
theorem dX9_would_73 : decode cX9_would 73 = .ok (.iload 7, 2) := by decide +kernel
theorem dX9_would_75 : decode cX9_would 75 = .ok (.invokevirtual 279, 3) := by decide +kernel
theorem dX9_would_78 : decode cX9_would 78 = .ok (.ireturn, 1) := by decide +kernel
theorem dX9_ahead_0 : decode cX9_ahead 0 = .ok (.aload_n 0, 1) := by decide +kernel
theorem dX9_ahead_1 : decode cX9_ahead 1 = .ok (.iload_n 1, 1) := by decide +kernel
theorem dX9_ahead_2 : decode cX9_ahead 2 = .ok (.iconst 0, 1) := by decide +kernel
theorem dX9_ahead_3 : decode cX9_ahead 3 = .ok (.bipush 99, 2) := by decide +kernel
theorem dX9_ahead_5 : decode cX9_ahead 5 = .ok (.invokevirtual 191, 3) := by decide +kernel
theorem dX9_ahead_8 : decode cX9_ahead 8 = .ok (.aload_n 0, 1) := by decide +kernel
theorem dX9_ahead_9 : decode cX9_ahead 9 = .ok (.iload_n 2, 1) := by decide +kernel
theorem dX9_ahead_10 : decode cX9_ahead 10 = .ok (.iconst 0, 1) := by decide +kernel
theorem dX9_ahead_11 : decode cX9_ahead 11 = .ok (.iconst 2, 1) := by decide +kernel
theorem dX9_ahead_12 : decode cX9_ahead 12 = .ok (.invokevirtual 191, 3) := by decide +kernel
theorem dX9_ahead_15 : decode cX9_ahead 15 = .ok (.aload_n 0, 1) := by decide +kernel
theorem dX9_ahead_16 : decode cX9_ahead 16 = .ok (.getfield 23, 3) := by decide +kernel
theorem dX9_ahead_19 : decode cX9_ahead 19 = .ok (.aload_n 0, 1) := by decide +kernel
theorem dX9_ahead_20 : decode cX9_ahead 20 = .ok (.getfield 19, 3) := by decide +kernel
theorem dX9_ahead_23 : decode cX9_ahead 23 = .ok (.invokevirtual 184, 3) := by decide +kernel
theorem dX9_ahead_26 : decode cX9_ahead 26 = .ok (.iconst 0, 1) := by decide +kernel
theorem dX9_ahead_27 : decode cX9_ahead 27 = .ok (.istore_n 3, 1) := by decide +kernel
theorem dX9_ahead_28 : decode cX9_ahead 28 = .ok (.iload_n 3, 1) := by decide +kernel
theorem dX9_ahead_29 : decode cX9_ahead 29 = .ok (.iload_n 1, 1) := by decide +kernel
theorem dX9_ahead_30 : decode cX9_ahead 30 = .ok (.if_icmp .ge 20, 3) := by decide +kernel
theorem dX9_ahead_33 : decode cX9_ahead 33 = .ok (.aload_n 0, 1) := by decide +kernel
theorem dX9_ahead_34 : decode cX9_ahead 34 = .ok (.getfield 23, 3) := by decide +kernel
theorem dX9_ahead_37 : decode cX9_ahead 37 = .ok (.aload_n 0, 1) := by decide +kernel
theorem dX9_ahead_38 : decode cX9_ahead 38 = .ok (.getfield 60, 3) := by decide +kernel
theorem dX9_ahead_41 : decode cX9_ahead 41 = .ok (.invokevirtual 283, 3) := by decide +kernel
theorem dX9_ahead_44 : decode cX9_ahead 44 = .ok (.iinc 3 1, 3) := by decide +kernel
theorem dX9_ahead_47 : decode cX9_ahead 47 = .ok (.goto (-19), 3) := by decide +kernel
theorem dX9_ahead_50 : decode cX9_ahead 50 = .ok (.iload_n 2, 1) := by decide +kernel
theorem dX9_ahead_51 : decode cX9_ahead 51 = .ok (.lookupswitch 41 #[(0, 25), (1, 33)], 25) := by decide +kernel
theorem dX9_ahead_76 : decode cX9_ahead 76 = .ok (.aload_n 0, 1) := by decide +kernel
theorem dX9_ahead_77 : decode cX9_ahead 77 = .ok (.getfield 23, 3) := by decide +kernel
theorem dX9_ahead_80 : decode cX9_ahead 80 = .ok (.invokevirtual 208, 3) := by decide +kernel
theorem dX9_ahead_83 : decode cX9_ahead 83 = .ok (.ireturn, 1) := by decide +kernel
theorem dX9_ahead_84 : decode cX9_ahead 84 = .ok (.aload_n 0, 1) := by decide +kernel
theorem dX9_ahead_85 : decode cX9_ahead 85 = .ok (.getfield 23, 3) := by decide +kernel
theorem dX9_ahead_88 : decode cX9_ahead 88 = .ok (.getfield 217, 3) := by decide +kernel
theorem dX9_ahead_91 : decode cX9_ahead 91 = .ok (.ireturn, 1) := by decide +kernel
theorem dX9_ahead_92 : decode cX9_ahead 92 = .ok (.aload_n 0, 1) := by decide +kernel
theorem dX9_ahead_93 : decode cX9_ahead 93 = .ok (.getfield 23, 3) := by decide +kernel
theorem dX9_ahead_96 : decode cX9_ahead 96 = .ok (.getfield 201, 3) := by decide +kernel
theorem dX9_ahead_99 : decode cX9_ahead 99 = .ok (.ireturn, 1) := by decide +kernel
theorem dX9_rains_0 : decode cX9_rains 0 = .ok (.aload_n 0, 1) := by decide +kernel
theorem dX9_rains_1 : decode cX9_rains 1 = .ok (.iload_n 1, 1) := by decide +kernel
theorem dX9_rains_2 : decode cX9_rains 2 = .ok (.aload_n 0, 1) := by decide +kernel
theorem dX9_rains_3 : decode cX9_rains 3 = .ok (.getfield 60, 3) := by decide +kernel
theorem dX9_rains_6 : decode cX9_rains 6 = .ok (.getfield 169, 3) := by decide +kernel
theorem dX9_rains_9 : decode cX9_rains 9 = .ok (.invokevirtual 220, 3) := by decide +kernel
theorem dX9_rains_12 : decode cX9_rains 12 = .ok (.aload_n 0, 1) := by decide +kernel
theorem dX9_rains_13 : decode cX9_rains 13 = .ok (.iload_n 2, 1) := by decide +kernel
theorem dX9_rains_14 : decode cX9_rains 14 = .ok (.iconst 0, 1) := by decide +kernel
theorem dX9_rains_15 : decode cX9_rains 15 = .ok (.bipush 15, 2) := by decide +kernel
theorem dX9_rains_17 : decode cX9_rains 17 = .ok (.invokevirtual 191, 3) := by decide +kernel
theorem dX9_rains_20 : decode cX9_rains 20 = .ok (.aload_n 0, 1) := by decide +kernel
theorem dX9_rains_21 : decode cX9_rains 21 = .ok (.iload_n 3, 1) := by decide +kernel
theorem dX9_rains_22 : decode cX9_rains 22 = .ok (.iconst 1, 1) := by decide +kernel
theorem dX9_rains_23 : decode cX9_rains 23 = .ok (.bipush 20, 2) := by decide +kernel
theorem dX9_rains_25 : decode cX9_rains 25 = .ok (.invokevirtual 191, 3) := by decide +kernel
theorem dX9_rains_28 : decode cX9_rains 28 = .ok (.aload_n 0, 1) := by decide +kernel
theorem dX9_rains_29 : decode cX9_rains 29 = .ok (.getfield 23, 3) := by decide +kernel
theorem dX9_rains_32 : decode cX9_rains 32 = .ok (.aload_n 0, 1) := by decide +kernel
theorem dX9_rains_33 : decode cX9_rains 33 = .ok (.getfield 19, 3) := by decide +kernel
theorem dX9_rains_36 : decode cX9_rains 36 = .ok (.invokevirtual 184, 3) := by decide +kernel
theorem dX9_rains_39 : decode cX9_rains 39 = .ok (.iconst 0, 1) := by decide +kernel
theorem dX9_rains_40 : decode cX9_rains 40 = .ok (.istore 4, 2) := by decide +kernel
theorem dX9_rains_42 : decode cX9_rains 42 = .ok (.iload 4, 2) := by decide +kernel
theorem dX9_rains_44 : decode cX9_rains 44 = .ok (.bipush 40, 2) := by decide +kernel
theorem dX9_rains_46 : decode cX9_rains 46 = .ok (.if_icmp .ge 43, 3) := by decide +kernel
theorem dX9_rains_49 : decode cX9_rains 49 = .ok (.aload_n 0, 1) := by decide +kernel
theorem dX9_rains_50 : decode cX9_rains 50 = .ok (.getfield 23, 3) := by decide +kernel
theorem dX9_rains_53 : decode cX9_rains 53 = .ok (.iload_n 1, 1) := by decide +kernel
theorem dX9_rains_54 : decode cX9_rains 54 = .ok (.invokevirtual 250, 3) := by decide +kernel
theorem dX9_rains_57 : decode cX9_rains 57 = .ok (.iload_n 2, 1) := by decide +kernel
theorem dX9_rains_58 : decode cX9_rains 58 = .ok (.invokestatic 286, 3) := by decide +kernel
theorem dX9_rains_61 : decode cX9_rains 61 = .ok (.ifCond .eq 6, 3) := by decide +kernel
theorem dX9_rains_64 : decode cX9_rains 64 = .ok (.iload 4, 2) := by decide +kernel
theorem dX9_rains_66 : decode cX9_rains 66 = .ok (.ireturn, 1) := by decide +kernel
theorem dX9_rains_67 : decode cX9_rains 67 = .ok (.aload_n 0, 1) := by decide +kernel
theorem dX9_rains_68 : decode cX9_rains 68 = .ok (.getfield 23, 3) := by decide +kernel
theorem dX9_rains_71 : decode cX9_rains 71 = .ok (.aload_n 0, 1) := by decide +kernel
theorem dX9_rains_72 : decode cX9_rains 72 = .ok (.getfield 60, 3) := by decide +kernel
theorem dX9_rains_75 : decode cX9_rains 75 = .ok (.aload_n 0, 1) := by decide +kernel
theorem dX9_rains_76 : decode cX9_rains 76 = .ok (.getfield 70, 3) := by decide +kernel
theorem dX9_rains_79 : decode cX9_rains 79 = .ok (.iload_n 3, 1) := by decide +kernel
theorem dX9_rains_80 : decode cX9_rains 80 = .ok (.invokevirtual 290, 3) := by decide +kernel
theorem dX9_rains_83 : decode cX9_rains 83 = .ok (.iinc 4 1, 3) := by decide +kernel
theorem dX9_rains_86 : decode cX9_rains 86 = .ok (.goto (-44), 3) := by decide +kernel
theorem dX9_rains_89 : decode cX9_rains 89 = .ok (.aload_n 0, 1) := by decide +kernel
theorem dX9_rains_90 : decode cX9_rains 90 = .ok (.getfield 23, 3) := by decide +kernel
theorem dX9_rains_93 : decode cX9_rains 93 = .ok (.iload_n 1, 1) := by decide +kernel
theorem dX9_rains_94 : decode cX9_rains 94 = .ok (.invokevirtual 250, 3) := by decide +kernel
theorem dX9_rains_97 : decode cX9_rains 97 = .ok (.iload_n 2, 1) := by decide +kernel
theorem dX9_rains_98 : decode cX9_rains 98 = .ok (.invokestatic 286, 3) := by decide +kernel
theorem dX9_rains_101 : decode cX9_rains 101 = .ok (.ifCond .eq 8, 3) := by decide +kernel
theorem dX9_rains_104 : decode cX9_rains 104 = .ok (.bipush 40, 2) := by decide +kernel
theorem dX9_rains_106 : decode cX9_rains 106 = .ok (.goto 4, 3) := by decide +kernel
theorem dX9_rains_109 : decode cX9_rains 109 = .ok (.iconst (-1), 1) := by decide +kernel
theorem dX9_rains_110 : decode cX9_rains 110 = .ok (.ireturn, 1) := by decide +kernel
theorem dX9_stuff_0 : decode cX9_stuff 0 = .ok (.aload_n 0, 1) := by decide +kernel
theorem dX9_stuff_1 : decode cX9_stuff 1 = .ok (.getfield 43, 3) := by decide +kernel
theorem dX9_stuff_4 : decode cX9_stuff 4 = .ok (.aload_n 0, 1) := by decide +kernel
theorem dX9_stuff_5 : decode cX9_stuff 5 = .ok (.getfield 19, 3) := by decide +kernel
theorem dX9_stuff_8 : decode cX9_stuff 8 = .ok (.aload_n 0, 1) := by decide +kernel
theorem dX9_stuff_9 : decode cX9_stuff 9 = .ok (.getfield 60, 3) := by decide +kernel
theorem dX9_stuff_12 : decode cX9_stuff 12 = .ok (.invokevirtual 294, 3) := by decide +kernel
theorem dX9_stuff_15 : decode cX9_stuff 15 = .ok (.aload_n 0, 1) := by decide +kernel
theorem dX9_stuff_16 : decode cX9_stuff 16 = .ok (.getfield 43, 3) := by decide +kernel
theorem dX9_stuff_19 : decode cX9_stuff 19 = .ok (.getfield 298, 3) := by decide +kernel
theorem dX9_stuff_22 : decode cX9_stuff 22 = .ok (.ireturn, 1) := by decide +kernel
theorem dX9_stuffed_0 : decode cX9_stuffed 0 = .ok (.aload_n 0, 1) := by decide +kernel
theorem dX9_stuffed_1 : decode cX9_stuffed 1 = .ok (.iload_n 1, 1) := by decide +kernel
theorem dX9_stuffed_2 : decode cX9_stuffed 2 = .ok (.invokevirtual 260, 3) := by decide +kernel
theorem dX9_stuffed_5 : decode cX9_stuffed 5 = .ok (.aload_n 0, 1) := by decide +kernel
theorem dX9_stuffed_6 : decode cX9_stuffed 6 = .ok (.getfield 43, 3) := by decide +kernel
theorem dX9_stuffed_9 : decode cX9_stuffed 9 = .ok (.aload_n 0, 1) := by decide +kernel
theorem dX9_stuffed_10 : decode cX9_stuffed 10 = .ok (.getfield 19, 3) := by decide +kernel
theorem dX9_stuffed_13 : decode cX9_stuffed 13 = .ok (.aload_n 0, 1) := by decide +kernel
theorem dX9_stuffed_14 : decode cX9_stuffed 14 = .ok (.getfield 60, 3) := by decide +kernel
theorem dX9_stuffed_17 : decode cX9_stuffed 17 = .ok (.invokevirtual 294, 3) := by decide +kernel
theorem dX9_stuffed_20 : decode cX9_stuffed 20 = .ok (.iload_n 1, 1) := by decide +kernel
theorem dX9_stuffed_21 : decode cX9_stuffed 21 = .ok (.aload_n 0, 1) := by decide +kernel
theorem dX9_stuffed_22 : decode cX9_stuffed 22 = .ok (.getfield 43, 3) := by decide +kernel
theorem dX9_stuffed_25 : decode cX9_stuffed 25 = .ok (.getfield 301, 3) := by decide +kernel
theorem dX9_stuffed_28 : decode cX9_stuffed 28 = .ok (.if_icmp .ge 21, 3) := by decide +kernel
theorem dX9_stuffed_31 : decode cX9_stuffed 31 = .ok (.iload_n 1, 1) := by decide +kernel
theorem dX9_stuffed_32 : decode cX9_stuffed 32 = .ok (.bipush 6, 2) := by decide +kernel
theorem dX9_stuffed_34 : decode cX9_stuffed 34 = .ok (.if_icmp .ge 15, 3) := by decide +kernel
theorem dX9_stuffed_37 : decode cX9_stuffed 37 = .ok (.aload_n 0, 1) := by decide +kernel
theorem dX9_stuffed_38 : decode cX9_stuffed 38 = .ok (.getfield 43, 3) := by decide +kernel
theorem dX9_stuffed_41 : decode cX9_stuffed 41 = .ok (.getfield 304, 3) := by decide +kernel
theorem dX9_stuffed_44 : decode cX9_stuffed 44 = .ok (.iload_n 1, 1) := by decide +kernel
theorem dX9_stuffed_45 : decode cX9_stuffed 45 = .ok (.iaload, 1) := by decide +kernel
theorem dX9_stuffed_46 : decode cX9_stuffed 46 = .ok (.goto 4, 3) := by decide +kernel
theorem dX9_stuffed_49 : decode cX9_stuffed 49 = .ok (.iconst (-1), 1) := by decide +kernel
theorem dX9_stuffed_50 : decode cX9_stuffed 50 = .ok (.ireturn, 1) := by decide +kernel
theorem dX9_all_0 : decode cX9_all 0 = .ok (.aload_n 0, 1) := by decide +kernel
theorem dX9_all_1 : decode cX9_all 1 = .ok (.iload_n 1, 1) := by decide +kernel
theorem dX9_all_2 : decode cX9_all 2 = .ok (.iconst 0, 1) := by decide +kernel
theorem dX9_all_3 : decode cX9_all 3 = .ok (.ldc_w 307, 3) := by decide +kernel
theorem dX9_all_6 : decode cX9_all 6 = .ok (.invokevirtual 191, 3) := by decide +kernel
theorem dX9_all_9 : decode cX9_all 9 = .ok (.aload_n 0, 1) := by decide +kernel
theorem dX9_all_10 : decode cX9_all 10 = .ok (.iload_n 1, 1) := by decide +kernel
theorem dX9_all_11 : decode cX9_all 11 = .ok (.invokevirtual 308, 3) := by decide +kernel
theorem dX9_all_14 : decode cX9_all 14 = .ok (.ireturn, 1) := by decide +kernel
theorem dX9_tour_0 : decode cX9_tour 0 = .ok (.aload_n 0, 1) := by decide +kernel
theorem dX9_tour_1 : decode cX9_tour 1 = .ok (.iload_n 1, 1) := by decide +kernel
theorem dX9_tour_2 : decode cX9_tour 2 = .ok (.aload_n 0, 1) := by decide +kernel
theorem dX9_tour_3 : decode cX9_tour 3 = .ok (.getfield 60, 3) := by decide +kernel
theorem dX9_tour_6 : decode cX9_tour 6 = .ok (.getfield 195, 3) := by decide +kernel
theorem dX9_tour_9 : decode cX9_tour 9 = .ok (.invokevirtual 220, 3) := by decide +kernel
theorem dX9_tour_12 : decode cX9_tour 12 = .ok (.aload_n 0, 1) := by decide +kernel
theorem dX9_tour_13 : decode cX9_tour 13 = .ok (.aload_n 0, 1) := by decide +kernel
theorem dX9_tour_14 : decode cX9_tour 14 = .ok (.getfield 19, 3) := by decide +kernel
theorem dX9_tour_17 : decode cX9_tour 17 = .ok (.aload_n 0, 1) := by decide +kernel
theorem dX9_tour_18 : decode cX9_tour 18 = .ok (.getfield 60, 3) := by decide +kernel
theorem dX9_tour_21 : decode cX9_tour 21 = .ok (.invokevirtual 311, 3) := by decide +kernel
theorem dX9_tour_24 : decode cX9_tour 24 = .ok (.aload_n 0, 1) := by decide +kernel
theorem dX9_tour_25 : decode cX9_tour 25 = .ok (.getfield 19, 3) := by decide +kernel
theorem dX9_tour_28 : decode cX9_tour 28 = .ok (.getfield 266, 3) := by decide +kernel
theorem dX9_tour_31 : decode cX9_tour 31 = .ok (.iload_n 1, 1) := by decide +kernel
theorem dX9_tour_32 : decode cX9_tour 32 = .ok (.iaload, 1) := by decide +kernel
theorem dX9_tour_33 : decode cX9_tour 33 = .ok (.iconst (-1), 1) := by decide +kernel
theorem dX9_tour_34 : decode cX9_tour 34 = .ok (.ixor, 1) := by decide +kernel
theorem dX9_tour_35 : decode cX9_tour 35 = .ok (.iand, 1) := by decide +kernel
theorem dX9_tour_36 : decode cX9_tour 36 = .ok (.invokevirtual 308, 3) := by decide +kernel
theorem dX9_tour_39 : decode cX9_tour 39 = .ok (.ireturn, 1) := by decide +kernel
theorem dX9_fits_0 : decode cX9_fits 0 = .ok (.aload_n 0, 1) := by decide +kernel
theorem dX9_fits_1 : decode cX9_fits 1 = .ok (.iload_n 1, 1) := by decide +kernel
theorem dX9_fits_2 : decode cX9_fits 2 = .ok (.iconst 0, 1) := by decide +kernel
theorem dX9_fits_3 : decode cX9_fits 3 = .ok (.iconst 1, 1) := by decide +kernel
theorem dX9_fits_4 : decode cX9_fits 4 = .ok (.invokevirtual 191, 3) := by decide +kernel
theorem dX9_fits_7 : decode cX9_fits 7 = .ok (.iconst 0, 1) := by decide +kernel
theorem dX9_fits_8 : decode cX9_fits 8 = .ok (.istore_n 2, 1) := by decide +kernel
theorem dX9_fits_9 : decode cX9_fits 9 = .ok (.iconst (-1), 1) := by decide +kernel
theorem dX9_fits_10 : decode cX9_fits 10 = .ok (.istore_n 3, 1) := by decide +kernel
theorem dX9_fits_11 : decode cX9_fits 11 = .ok (.iconst 0, 1) := by decide +kernel
theorem dX9_fits_12 : decode cX9_fits 12 = .ok (.istore 4, 2) := by decide +kernel
theorem dX9_fits_14 : decode cX9_fits 14 = .ok (.iload 4, 2) := by decide +kernel
theorem dX9_fits_16 : decode cX9_fits 16 = .ok (.aload_n 0, 1) := by decide +kernel
theorem dX9_fits_17 : decode cX9_fits 17 = .ok (.getfield 60, 3) := by decide +kernel
theorem dX9_fits_20 : decode cX9_fits 20 = .ok (.getfield 149, 3) := by decide +kernel
theorem dX9_fits_23 : decode cX9_fits 23 = .ok (.if_icmp .ge 68, 3) := by decide +kernel
theorem dX9_fits_26 : decode cX9_fits 26 = .ok (.iconst 1, 1) := by decide +kernel
theorem dX9_fits_27 : decode cX9_fits 27 = .ok (.istore 5, 2) := by decide +kernel
theorem dX9_fits_29 : decode cX9_fits 29 = .ok (.iload 5, 2) := by decide +kernel
theorem dX9_fits_31 : decode cX9_fits 31 = .ok (.bipush 9, 2) := by decide +kernel
theorem dX9_fits_33 : decode cX9_fits 33 = .ok (.if_icmp .gt 52, 3) := by decide +kernel
theorem dX9_fits_36 : decode cX9_fits 36 = .ok (.aload_n 0, 1) := by decide +kernel
theorem dX9_fits_37 : decode cX9_fits 37 = .ok (.getfield 80, 3) := by decide +kernel
theorem dX9_fits_40 : decode cX9_fits 40 = .ok (.aload_n 0, 1) := by decide +kernel
theorem dX9_fits_41 : decode cX9_fits 41 = .ok (.getfield 19, 3) := by decide +kernel
theorem dX9_fits_44 : decode cX9_fits 44 = .ok (.aload_n 0, 1) := by decide +kernel
theorem dX9_fits_45 : decode cX9_fits 45 = .ok (.getfield 60, 3) := by decide +kernel
theorem dX9_fits_48 : decode cX9_fits 48 = .ok (.iload 4, 2) := by decide +kernel
theorem dX9_fits_50 : decode cX9_fits 50 = .ok (.iload 5, 2) := by decide +kernel
theorem dX9_fits_52 : decode cX9_fits 52 = .ok (.invokevirtual 314, 3) := by decide +kernel
theorem dX9_fits_55 : decode cX9_fits 55 = .ok (.ifCond .eq 24, 3) := by decide +kernel
theorem dX9_fits_58 : decode cX9_fits 58 = .ok (.iinc 2 1, 3) := by decide +kernel
theorem dX9_fits_61 : decode cX9_fits 61 = .ok (.iload_n 3, 1) := by decide +kernel
theorem dX9_fits_62 : decode cX9_fits 62 = .ok (.iconst (-1), 1) := by decide +kernel
theorem dX9_fits_63 : decode cX9_fits 63 = .ok (.if_icmp .ne 14, 3) := by decide +kernel
theorem dX9_fits_66 : decode cX9_fits 66 = .ok (.bipush 10, 2) := by decide +kernel
theorem dX9_fits_68 : decode cX9_fits 68 = .ok (.iload 4, 2) := by decide +kernel
theorem dX9_fits_70 : decode cX9_fits 70 = .ok (.imul, 1) := by decide +kernel
theorem dX9_fits_71 : decode cX9_fits 71 = .ok (.iload 5, 2) := by decide +kernel
theorem dX9_fits_73 : decode cX9_fits 73 = .ok (.iadd, 1) := by decide +kernel
theorem dX9_fits_74 : decode cX9_fits 74 = .ok (.goto 4, 3) := by decide +kernel
theorem dX9_fits_77 : decode cX9_fits 77 = .ok (.iload_n 3, 1) := by decide +kernel
theorem dX9_fits_78 : decode cX9_fits 78 = .ok (.istore_n 3, 1) := by decide +kernel
theorem dX9_fits_79 : decode cX9_fits 79 = .ok (.iinc 5 1, 3) := by decide +kernel
theorem dX9_fits_82 : decode cX9_fits 82 = .ok (.goto (-53), 3) := by decide +kernel
theorem dX9_fits_85 : decode cX9_fits 85 = .ok (.iinc 4 1, 3) := by decide +kernel
theorem dX9_fits_88 : decode cX9_fits 88 = .ok (.goto (-74), 3) := by decide +kernel
theorem dX9_fits_91 : decode cX9_fits 91 = .ok (.iload_n 1, 1) := by decide +kernel
theorem dX9_fits_92 : decode cX9_fits 92 = .ok (.ifCond .ne 7, 3) := by decide +kernel
theorem dX9_fits_95 : decode cX9_fits 95 = .ok (.iload_n 2, 1) := by decide +kernel
theorem dX9_fits_96 : decode cX9_fits 96 = .ok (.goto 4, 3) := by decide +kernel
theorem dX9_fits_99 : decode cX9_fits 99 = .ok (.iload_n 3, 1) := by decide +kernel
theorem dX9_fits_100 : decode cX9_fits 100 = .ok (.ireturn, 1) := by decide +kernel
theorem dX9_look_0 : decode cX9_look 0 = .ok (.aload_n 0, 1) := by decide +kernel
theorem dX9_look_1 : decode cX9_look 1 = .ok (.iload_n 1, 1) := by decide +kernel
theorem dX9_look_2 : decode cX9_look 2 = .ok (.iconst 0, 1) := by decide +kernel
theorem dX9_look_3 : decode cX9_look 3 = .ok (.iconst 1, 1) := by decide +kernel
theorem dX9_look_4 : decode cX9_look 4 = .ok (.invokevirtual 191, 3) := by decide +kernel
theorem dX9_look_7 : decode cX9_look 7 = .ok (.iconst (-1), 1) := by decide +kernel
theorem dX9_look_8 : decode cX9_look 8 = .ok (.istore_n 2, 1) := by decide +kernel
theorem dX9_look_9 : decode cX9_look 9 = .ok (.iconst (-1), 1) := by decide +kernel
theorem dX9_look_10 : decode cX9_look 10 = .ok (.istore_n 3, 1) := by decide +kernel
theorem dX9_look_11 : decode cX9_look 11 = .ok (.iconst 0, 1) := by decide +kernel
theorem dX9_look_12 : decode cX9_look 12 = .ok (.istore 4, 2) := by decide +kernel
theorem dX9_look_14 : decode cX9_look 14 = .ok (.iload 4, 2) := by decide +kernel
theorem dX9_look_16 : decode cX9_look 16 = .ok (.aload_n 0, 1) := by decide +kernel
theorem dX9_look_17 : decode cX9_look 17 = .ok (.getfield 60, 3) := by decide +kernel
theorem dX9_look_20 : decode cX9_look 20 = .ok (.getfield 169, 3) := by decide +kernel
theorem dX9_look_23 : decode cX9_look 23 = .ok (.if_icmp .ge 51, 3) := by decide +kernel
theorem dX9_look_26 : decode cX9_look 26 = .ok (.aload_n 0, 1) := by decide +kernel
theorem dX9_look_27 : decode cX9_look 27 = .ok (.getfield 80, 3) := by decide +kernel
theorem dX9_look_30 : decode cX9_look 30 = .ok (.getfield 318, 3) := by decide +kernel
theorem dX9_look_33 : decode cX9_look 33 = .ok (.iload 4, 2) := by decide +kernel
theorem dX9_look_35 : decode cX9_look 35 = .ok (.iaload, 1) := by decide +kernel
theorem dX9_look_36 : decode cX9_look 36 = .ok (.iconst (-1), 1) := by decide +kernel
theorem dX9_look_37 : decode cX9_look 37 = .ok (.if_icmp .eq 6, 3) := by decide +kernel
theorem dX9_look_40 : decode cX9_look 40 = .ok (.goto 28, 3) := by decide +kernel
theorem dX9_look_43 : decode cX9_look 43 = .ok (.aload_n 0, 1) := by decide +kernel
theorem dX9_look_44 : decode cX9_look 44 = .ok (.iload 4, 2) := by decide +kernel
theorem dX9_look_46 : decode cX9_look 46 = .ok (.invokevirtual 321, 3) := by decide +kernel
theorem dX9_look_49 : decode cX9_look 49 = .ok (.istore 5, 2) := by decide +kernel
theorem dX9_look_51 : decode cX9_look 51 = .ok (.iload_n 2, 1) := by decide +kernel
theorem dX9_look_52 : decode cX9_look 52 = .ok (.iconst (-1), 1) := by decide +kernel
theorem dX9_look_53 : decode cX9_look 53 = .ok (.if_icmp .eq 9, 3) := by decide +kernel
theorem dX9_look_56 : decode cX9_look 56 = .ok (.iload 5, 2) := by decide +kernel
theorem dX9_look_58 : decode cX9_look 58 = .ok (.iload_n 3, 1) := by decide +kernel
theorem dX9_look_59 : decode cX9_look 59 = .ok (.if_icmp .ge 9, 3) := by decide +kernel
theorem dX9_look_62 : decode cX9_look 62 = .ok (.iload 4, 2) := by decide +kernel
theorem dX9_look_64 : decode cX9_look 64 = .ok (.istore_n 2, 1) := by decide +kernel
theorem dX9_look_65 : decode cX9_look 65 = .ok (.iload 5, 2) := by decide +kernel
theorem dX9_look_67 : decode cX9_look 67 = .ok (.istore_n 3, 1) := by decide +kernel
theorem dX9_look_68 : decode cX9_look 68 = .ok (.iinc 4 1, 3) := by decide +kernel
theorem dX9_look_71 : decode cX9_look 71 = .ok (.goto (-57), 3) := by decide +kernel
theorem dX9_look_74 : decode cX9_look 74 = .ok (.iload_n 1, 1) := by decide +kernel
theorem dX9_look_75 : decode cX9_look 75 = .ok (.ifCond .ne 7, 3) := by decide +kernel
theorem dX9_look_78 : decode cX9_look 78 = .ok (.iload_n 2, 1) := by decide +kernel
theorem dX9_look_79 : decode cX9_look 79 = .ok (.goto 4, 3) := by decide +kernel
theorem dX9_look_82 : decode cX9_look 82 = .ok (.iload_n 3, 1) := by decide +kernel
theorem dX9_look_83 : decode cX9_look 83 = .ok (.ireturn, 1) := by decide +kernel
theorem dX9_pods_0 : decode cX9_pods 0 = .ok (.aload_n 0, 1) := by decide +kernel
theorem dX9_pods_1 : decode cX9_pods 1 = .ok (.iload_n 1, 1) := by decide +kernel
theorem dX9_pods_2 : decode cX9_pods 2 = .ok (.iconst 0, 1) := by decide +kernel
theorem dX9_pods_3 : decode cX9_pods 3 = .ok (.bipush 12, 2) := by decide +kernel
theorem dX9_pods_5 : decode cX9_pods 5 = .ok (.invokevirtual 191, 3) := by decide +kernel
theorem dX9_pods_8 : decode cX9_pods 8 = .ok (.aload_n 0, 1) := by decide +kernel
theorem dX9_pods_9 : decode cX9_pods 9 = .ok (.iload_n 2, 1) := by decide +kernel
theorem dX9_pods_10 : decode cX9_pods 10 = .ok (.iconst 0, 1) := by decide +kernel
theorem dX9_pods_11 : decode cX9_pods 11 = .ok (.bipush 13, 2) := by decide +kernel
theorem dX9_pods_13 : decode cX9_pods 13 = .ok (.invokevirtual 191, 3) := by decide +kernel
theorem dX9_pods_16 : decode cX9_pods 16 = .ok (.aload_n 0, 1) := by decide +kernel
theorem dX9_pods_17 : decode cX9_pods 17 = .ok (.iload_n 3, 1) := by decide +kernel
theorem dX9_pods_18 : decode cX9_pods 18 = .ok (.iconst 0, 1) := by decide +kernel
theorem dX9_pods_19 : decode cX9_pods 19 = .ok (.bipush 16, 2) := by decide +kernel
theorem dX9_pods_21 : decode cX9_pods 21 = .ok (.invokevirtual 191, 3) := by decide +kernel
theorem dX9_pods_24 : decode cX9_pods 24 = .ok (.aload_n 0, 1) := by decide +kernel
theorem dX9_pods_25 : decode cX9_pods 25 = .ok (.iload 4, 2) := by decide +kernel
theorem dX9_pods_27 : decode cX9_pods 27 = .ok (.iconst 0, 1) := by decide +kernel
theorem dX9_pods_28 : decode cX9_pods 28 = .ok (.iconst 1, 1) := by decide +kernel
theorem dX9_pods_29 : decode cX9_pods 29 = .ok (.invokevirtual 191, 3) := by decide +kernel
theorem dX9_pods_32 : decode cX9_pods 32 = .ok (.lconst 0, 1) := by decide +kernel
theorem dX9_pods_33 : decode cX9_pods 33 = .ok (.lstore 5, 2) := by decide +kernel
theorem dX9_pods_35 : decode cX9_pods 35 = .ok (.lconst 1, 1) := by decide +kernel
theorem dX9_pods_36 : decode cX9_pods 36 = .ok (.lstore 7, 2) := by decide +kernel
theorem dX9_pods_38 : decode cX9_pods 38 = .ok (.iconst 0, 1) := by decide +kernel
theorem dX9_pods_39 : decode cX9_pods 39 = .ok (.istore 9, 2) := by decide +kernel
theorem dX9_pods_41 : decode cX9_pods 41 = .ok (.iload 9, 2) := by decide +kernel
theorem dX9_pods_43 : decode cX9_pods 43 = .ok (.iload_n 1, 1) := by decide +kernel
theorem dX9_pods_44 : decode cX9_pods 44 = .ok (.if_icmp .gt 57, 3) := by decide +kernel
theorem dX9_pods_47 : decode cX9_pods 47 = .ok (.iload 9, 2) := by decide +kernel
theorem dX9_pods_49 : decode cX9_pods 49 = .ok (.iload_n 2, 1) := by decide +kernel
theorem dX9_pods_50 : decode cX9_pods 50 = .ok (.if_icmp .lt 29, 3) := by decide +kernel
theorem dX9_pods_53 : decode cX9_pods 53 = .ok (.lload 5, 2) := by decide +kernel
theorem dX9_pods_55 : decode cX9_pods 55 = .ok (.lload 7, 2) := by decide +kernel
theorem dX9_pods_57 : decode cX9_pods 57 = .ok (.iload_n 3, 1) := by decide +kernel
theorem dX9_pods_58 : decode cX9_pods 58 = .ok (.iload 9, 2) := by decide +kernel
theorem dX9_pods_60 : decode cX9_pods 60 = .ok (.invokestatic 324, 3) := by decide +kernel
theorem dX9_pods_63 : decode cX9_pods 63 = .ok (.lmul, 1) := by decide +kernel
theorem dX9_pods_64 : decode cX9_pods 64 = .ok (.bipush 16, 2) := by decide +kernel
theorem dX9_pods_66 : decode cX9_pods 66 = .ok (.iload_n 3, 1) := by decide +kernel
theorem dX9_pods_67 : decode cX9_pods 67 = .ok (.isub, 1) := by decide +kernel
theorem dX9_pods_68 : decode cX9_pods 68 = .ok (.iload_n 1, 1) := by decide +kernel
theorem dX9_pods_69 : decode cX9_pods 69 = .ok (.iload 9, 2) := by decide +kernel
theorem dX9_pods_71 : decode cX9_pods 71 = .ok (.isub, 1) := by decide +kernel
theorem dX9_pods_72 : decode cX9_pods 72 = .ok (.invokestatic 324, 3) := by decide +kernel
theorem dX9_pods_75 : decode cX9_pods 75 = .ok (.lmul, 1) := by decide +kernel
theorem dX9_pods_76 : decode cX9_pods 76 = .ok (.ladd, 1) := by decide +kernel
theorem dX9_pods_77 : decode cX9_pods 77 = .ok (.lstore 5, 2) := by decide +kernel
theorem dX9_pods_79 : decode cX9_pods 79 = .ok (.lload 7, 2) := by decide +kernel
theorem dX9_pods_81 : decode cX9_pods 81 = .ok (.iload_n 1, 1) := by decide +kernel
theorem dX9_pods_82 : decode cX9_pods 82 = .ok (.iload 9, 2) := by decide +kernel
theorem dX9_pods_84 : decode cX9_pods 84 = .ok (.isub, 1) := by decide +kernel
theorem dX9_pods_85 : decode cX9_pods 85 = .ok (.i2l, 1) := by decide +kernel
theorem dX9_pods_86 : decode cX9_pods 86 = .ok (.lmul, 1) := by decide +kernel
theorem dX9_pods_87 : decode cX9_pods 87 = .ok (.iload 9, 2) := by decide +kernel
theorem dX9_pods_89 : decode cX9_pods 89 = .ok (.iconst 1, 1) := by decide +kernel
theorem dX9_pods_90 : decode cX9_pods 90 = .ok (.iadd, 1) := by decide +kernel
theorem dX9_pods_91 : decode cX9_pods 91 = .ok (.i2l, 1) := by decide +kernel
theorem dX9_pods_92 : decode cX9_pods 92 = .ok (.ldiv, 1) := by decide +kernel
theorem dX9_pods_93 : decode cX9_pods 93 = .ok (.lstore 7, 2) := by decide +kernel
theorem dX9_pods_95 : decode cX9_pods 95 = .ok (.iinc 9 1, 3) := by decide +kernel
theorem dX9_pods_98 : decode cX9_pods 98 = .ok (.goto (-57), 3) := by decide +kernel
theorem dX9_pods_101 : decode cX9_pods 101 = .ok (.bipush 16, 2) := by decide +kernel
theorem dX9_pods_103 : decode cX9_pods 103 = .ok (.iload_n 1, 1) := by decide +kernel
theorem dX9_pods_104 : decode cX9_pods 104 = .ok (.invokestatic 324, 3) := by decide +kernel
theorem dX9_pods_107 : decode cX9_pods 107 = .ok (.lstore 9, 2) := by decide +kernel
theorem dX9_pods_109 : decode cX9_pods 109 = .ok (.iconst 0, 1) := by decide +kernel
theorem dX9_pods_110 : decode cX9_pods 110 = .ok (.istore 11, 2) := by decide +kernel
theorem dX9_pods_112 : decode cX9_pods 112 = .ok (.iload 11, 2) := by decide +kernel
theorem dX9_pods_114 : decode cX9_pods 114 = .ok (.bipush 48, 2) := by decide +kernel
theorem dX9_pods_116 : decode cX9_pods 116 = .ok (.if_icmp .ge 43, 3) := by decide +kernel
theorem dX9_pods_119 : decode cX9_pods 119 = .ok (.lload 9, 2) := by decide +kernel
theorem dX9_pods_121 : decode cX9_pods 121 = .ok (.lconst 1, 1) := by decide +kernel
theorem dX9_pods_122 : decode cX9_pods 122 = .ok (.lcmp, 1) := by decide +kernel
theorem dX9_pods_123 : decode cX9_pods 123 = .ok (.ifCond .le 36, 3) := by decide +kernel
theorem dX9_pods_126 : decode cX9_pods 126 = .ok (.lload 5, 2) := by decide +kernel
theorem dX9_pods_128 : decode cX9_pods 128 = .ok (.ldc2_w 328, 3) := by decide +kernel
theorem dX9_pods_131 : decode cX9_pods 131 = .ok (.lrem, 1) := by decide +kernel
theorem dX9_pods_132 : decode cX9_pods 132 = .ok (.lconst 0, 1) := by decide +kernel
theorem dX9_pods_133 : decode cX9_pods 133 = .ok (.lcmp, 1) := by decide +kernel
theorem dX9_pods_134 : decode cX9_pods 134 = .ok (.ifCond .ne 25, 3) := by decide +kernel
theorem dX9_pods_137 : decode cX9_pods 137 = .ok (.lload 5, 2) := by decide +kernel
theorem dX9_pods_139 : decode cX9_pods 139 = .ok (.ldc2_w 328, 3) := by decide +kernel
theorem dX9_pods_142 : decode cX9_pods 142 = .ok (.ldiv, 1) := by decide +kernel
theorem dX9_pods_143 : decode cX9_pods 143 = .ok (.lstore 5, 2) := by decide +kernel
theorem dX9_pods_145 : decode cX9_pods 145 = .ok (.lload 9, 2) := by decide +kernel
theorem dX9_pods_147 : decode cX9_pods 147 = .ok (.ldc2_w 328, 3) := by decide +kernel
theorem dX9_pods_150 : decode cX9_pods 150 = .ok (.ldiv, 1) := by decide +kernel
theorem dX9_pods_151 : decode cX9_pods 151 = .ok (.lstore 9, 2) := by decide +kernel
theorem dX9_pods_153 : decode cX9_pods 153 = .ok (.iinc 11 1, 3) := by decide +kernel
theorem dX9_pods_156 : decode cX9_pods 156 = .ok (.goto (-44), 3) := by decide +kernel
theorem dX9_pods_159 : decode cX9_pods 159 = .ok (.iload 4, 2) := by decide +kernel
theorem dX9_pods_161 : decode cX9_pods 161 = .ok (.ifCond .ne 8, 3) := by decide +kernel
theorem dX9_pods_164 : decode cX9_pods 164 = .ok (.lload 5, 2) := by decide +kernel
theorem dX9_pods_166 : decode cX9_pods 166 = .ok (.goto 5, 3) := by decide +kernel
theorem dX9_pods_169 : decode cX9_pods 169 = .ok (.lload 9, 2) := by decide +kernel
theorem dX9_pods_171 : decode cX9_pods 171 = .ok (.lreturn, 1) := by decide +kernel
theorem dX9_she_0 : decode cX9_she 0 = .ok (.aload_n 0, 1) := by decide +kernel
theorem dX9_she_1 : decode cX9_she 1 = .ok (.iload_n 1, 1) := by decide +kernel
theorem dX9_she_2 : decode cX9_she 2 = .ok (.iconst 0, 1) := by decide +kernel
theorem dX9_she_3 : decode cX9_she 3 = .ok (.bipush 99, 2) := by decide +kernel
theorem dX9_she_5 : decode cX9_she 5 = .ok (.invokevirtual 191, 3) := by decide +kernel
theorem dX9_she_8 : decode cX9_she 8 = .ok (.aload_n 0, 1) := by decide +kernel
theorem dX9_she_9 : decode cX9_she 9 = .ok (.iload_n 2, 1) := by decide +kernel
theorem dX9_she_10 : decode cX9_she 10 = .ok (.iconst 0, 1) := by decide +kernel
theorem dX9_she_11 : decode cX9_she 11 = .ok (.bipush 99, 2) := by decide +kernel
theorem dX9_she_13 : decode cX9_she 13 = .ok (.invokevirtual 191, 3) := by decide +kernel
theorem dX9_she_16 : decode cX9_she 16 = .ok (.aload_n 0, 1) := by decide +kernel
theorem dX9_she_17 : decode cX9_she 17 = .ok (.iload_n 3, 1) := by decide +kernel
theorem dX9_she_18 : decode cX9_she 18 = .ok (.iconst 0, 1) := by decide +kernel
theorem dX9_she_19 : decode cX9_she 19 = .ok (.iconst 2, 1) := by decide +kernel
theorem dX9_she_20 : decode cX9_she 20 = .ok (.invokevirtual 191, 3) := by decide +kernel
theorem dX9_she_23 : decode cX9_she 23 = .ok (.iconst 0, 1) := by decide +kernel
theorem dX9_she_24 : decode cX9_she 24 = .ok (.istore 4, 2) := by decide +kernel
theorem dX9_she_26 : decode cX9_she 26 = .ok (.iconst (-1), 1) := by decide +kernel
theorem dX9_she_27 : decode cX9_she 27 = .ok (.istore 5, 2) := by decide +kernel
theorem dX9_she_29 : decode cX9_she 29 = .ok (.iconst 0, 1) := by decide +kernel
theorem dX9_she_30 : decode cX9_she 30 = .ok (.istore 6, 2) := by decide +kernel
theorem dX9_she_32 : decode cX9_she 32 = .ok (.iconst 0, 1) := by decide +kernel
theorem dX9_she_33 : decode cX9_she 33 = .ok (.istore 7, 2) := by decide +kernel
theorem dX9_she_35 : decode cX9_she 35 = .ok (.iload 7, 2) := by decide +kernel
theorem dX9_she_37 : decode cX9_she 37 = .ok (.iconst 1, 1) := by decide +kernel
theorem dX9_she_38 : decode cX9_she 38 = .ok (.if_icmp .gt 88, 3) := by decide +kernel
theorem dX9_she_41 : decode cX9_she 41 = .ok (.iconst 0, 1) := by decide +kernel
theorem dX9_she_42 : decode cX9_she 42 = .ok (.istore 8, 2) := by decide +kernel
theorem dX9_she_44 : decode cX9_she 44 = .ok (.iload 8, 2) := by decide +kernel
theorem dX9_she_46 : decode cX9_she 46 = .ok (.iconst 1, 1) := by decide +kernel
theorem dX9_she_47 : decode cX9_she 47 = .ok (.if_icmp .gt 73, 3) := by decide +kernel
theorem dX9_she_50 : decode cX9_she 50 = .ok (.iload 7, 2) := by decide +kernel
theorem dX9_she_52 : decode cX9_she 52 = .ok (.iload 8, 2) := by decide +kernel
theorem dX9_she_54 : decode cX9_she 54 = .ok (.iload_n 1, 1) := by decide +kernel
theorem dX9_she_55 : decode cX9_she 55 = .ok (.iload_n 2, 1) := by decide +kernel
theorem dX9_she_56 : decode cX9_she 56 = .ok (.invokestatic 330, 3) := by decide +kernel
theorem dX9_she_59 : decode cX9_she 59 = .ok (.ifCond .eq 55, 3) := by decide +kernel
theorem dX9_she_62 : decode cX9_she 62 = .ok (.iload 8, 2) := by decide +kernel
theorem dX9_she_64 : decode cX9_she 64 = .ok (.iload 7, 2) := by decide +kernel
theorem dX9_she_66 : decode cX9_she 66 = .ok (.iload_n 1, 1) := by decide +kernel
theorem dX9_she_67 : decode cX9_she 67 = .ok (.iload_n 2, 1) := by decide +kernel
theorem dX9_she_68 : decode cX9_she 68 = .ok (.invokestatic 330, 3) := by decide +kernel
theorem dX9_she_71 : decode cX9_she 71 = .ok (.ifCond .eq 43, 3) := by decide +kernel
theorem dX9_she_74 : decode cX9_she 74 = .ok (.iinc 4 1, 3) := by decide +kernel
theorem dX9_she_77 : decode cX9_she 77 = .ok (.iload 5, 2) := by decide +kernel
theorem dX9_she_79 : decode cX9_she 79 = .ok (.iconst (-1), 1) := by decide +kernel
theorem dX9_she_80 : decode cX9_she 80 = .ok (.if_icmp .ne 34, 3) := by decide +kernel
theorem dX9_she_83 : decode cX9_she 83 = .ok (.bipush 10, 2) := by decide +kernel
theorem dX9_she_85 : decode cX9_she 85 = .ok (.iload 7, 2) := by decide +kernel
theorem dX9_she_87 : decode cX9_she 87 = .ok (.imul, 1) := by decide +kernel
theorem dX9_she_88 : decode cX9_she 88 = .ok (.iload 8, 2) := by decide +kernel
theorem dX9_she_90 : decode cX9_she 90 = .ok (.iadd, 1) := by decide +kernel
theorem dX9_she_91 : decode cX9_she 91 = .ok (.istore 5, 2) := by decide +kernel
theorem dX9_she_93 : decode cX9_she 93 = .ok (.iload 7, 2) := by decide +kernel
theorem dX9_she_95 : decode cX9_she 95 = .ok (.iload 8, 2) := by decide +kernel
theorem dX9_she_97 : decode cX9_she 97 = .ok (.iload_n 1, 1) := by decide +kernel
theorem dX9_she_98 : decode cX9_she 98 = .ok (.iload_n 2, 1) := by decide +kernel
theorem dX9_she_99 : decode cX9_she 99 = .ok (.invokestatic 334, 3) := by decide +kernel
theorem dX9_she_102 : decode cX9_she 102 = .ok (.iload 8, 2) := by decide +kernel
theorem dX9_she_104 : decode cX9_she 104 = .ok (.iload 7, 2) := by decide +kernel
theorem dX9_she_106 : decode cX9_she 106 = .ok (.iload_n 1, 1) := by decide +kernel
theorem dX9_she_107 : decode cX9_she 107 = .ok (.iload_n 2, 1) := by decide +kernel
theorem dX9_she_108 : decode cX9_she 108 = .ok (.invokestatic 334, 3) := by decide +kernel
theorem dX9_she_111 : decode cX9_she 111 = .ok (.iadd, 1) := by decide +kernel
theorem dX9_she_112 : decode cX9_she 112 = .ok (.istore 6, 2) := by decide +kernel
theorem dX9_she_114 : decode cX9_she 114 = .ok (.iinc 8 1, 3) := by decide +kernel
theorem dX9_she_117 : decode cX9_she 117 = .ok (.goto (-73), 3) := by decide +kernel
theorem dX9_she_120 : decode cX9_she 120 = .ok (.iinc 7 1, 3) := by decide +kernel
theorem dX9_she_123 : decode cX9_she 123 = .ok (.goto (-88), 3) := by decide +kernel
theorem dX9_she_126 : decode cX9_she 126 = .ok (.iload_n 3, 1) := by decide +kernel
theorem dX9_she_127 : decode cX9_she 127 = .ok (.lookupswitch 31 #[(0, 25), (1, 28)], 25) := by decide +kernel
theorem dX9_she_152 : decode cX9_she 152 = .ok (.iload 4, 2) := by decide +kernel
theorem dX9_she_154 : decode cX9_she 154 = .ok (.ireturn, 1) := by decide +kernel
theorem dX9_she_155 : decode cX9_she 155 = .ok (.iload 5, 2) := by decide +kernel
theorem dX9_she_157 : decode cX9_she 157 = .ok (.ireturn, 1) := by decide +kernel
theorem dX9_she_158 : decode cX9_she 158 = .ok (.iload 6, 2) := by decide +kernel
theorem dX9_she_160 : decode cX9_she 160 = .ok (.ireturn, 1) := by decide +kernel
theorem dX9_seed_0 : decode cX9_seed 0 = .ok (.aload_n 0, 1) := by decide +kernel
theorem dX9_seed_1 : decode cX9_seed 1 = .ok (.iload_n 1, 1) := by decide +kernel
theorem dX9_seed_2 : decode cX9_seed 2 = .ok (.aload_n 0, 1) := by decide +kernel
theorem dX9_seed_3 : decode cX9_seed 3 = .ok (.getfield 60, 3) := by decide +kernel
theorem dX9_seed_6 : decode cX9_seed 6 = .ok (.getfield 169, 3) := by decide +kernel
theorem dX9_seed_9 : decode cX9_seed 9 = .ok (.invokevirtual 220, 3) := by decide +kernel
theorem dX9_seed_12 : decode cX9_seed 12 = .ok (.aload_n 0, 1) := by decide +kernel
theorem dX9_seed_13 : decode cX9_seed 13 = .ok (.iload_n 2, 1) := by decide +kernel
theorem dX9_seed_14 : decode cX9_seed 14 = .ok (.iconst 0, 1) := by decide +kernel
theorem dX9_seed_15 : decode cX9_seed 15 = .ok (.iconst 1, 1) := by decide +kernel
theorem dX9_seed_16 : decode cX9_seed 16 = .ok (.aload_n 0, 1) := by decide +kernel
theorem dX9_seed_17 : decode cX9_seed 17 = .ok (.getfield 60, 3) := by decide +kernel
theorem dX9_seed_20 : decode cX9_seed 20 = .ok (.getfield 169, 3) := by decide +kernel
theorem dX9_seed_23 : decode cX9_seed 23 = .ok (.ishl, 1) := by decide +kernel
theorem dX9_seed_24 : decode cX9_seed 24 = .ok (.iconst 1, 1) := by decide +kernel
theorem dX9_seed_25 : decode cX9_seed 25 = .ok (.isub, 1) := by decide +kernel
theorem dX9_seed_26 : decode cX9_seed 26 = .ok (.invokevirtual 191, 3) := by decide +kernel
theorem dX9_seed_29 : decode cX9_seed 29 = .ok (.aload_n 0, 1) := by decide +kernel
theorem dX9_seed_30 : decode cX9_seed 30 = .ok (.iload_n 3, 1) := by decide +kernel
theorem dX9_seed_31 : decode cX9_seed 31 = .ok (.iconst 0, 1) := by decide +kernel
theorem dX9_seed_32 : decode cX9_seed 32 = .ok (.bipush 99, 2) := by decide +kernel
theorem dX9_seed_34 : decode cX9_seed 34 = .ok (.invokevirtual 191, 3) := by decide +kernel
theorem dX9_seed_37 : decode cX9_seed 37 = .ok (.iload_n 2, 1) := by decide +kernel
theorem dX9_seed_38 : decode cX9_seed 38 = .ok (.iload_n 1, 1) := by decide +kernel
theorem dX9_seed_39 : decode cX9_seed 39 = .ok (.invokestatic 286, 3) := by decide +kernel
theorem dX9_seed_42 : decode cX9_seed 42 = .ok (.ifCond .ne 5, 3) := by decide +kernel
theorem dX9_seed_45 : decode cX9_seed 45 = .ok (.iconst 0, 1) := by decide +kernel
theorem dX9_seed_46 : decode cX9_seed 46 = .ok (.ireturn, 1) := by decide +kernel
theorem dX9_seed_47 : decode cX9_seed 47 = .ok (.bipush 12, 2) := by decide +kernel
theorem dX9_seed_49 : decode cX9_seed 49 = .ok (.istore 4, 2) := by decide +kernel
theorem dX9_seed_51 : decode cX9_seed 51 = .ok (.iload 4, 2) := by decide +kernel
theorem dX9_seed_53 : decode cX9_seed 53 = .ok (.ifCond .le 35, 3) := by decide +kernel
theorem dX9_seed_56 : decode cX9_seed 56 = .ok (.aload_n 0, 1) := by decide +kernel
theorem dX9_seed_57 : decode cX9_seed 57 = .ok (.iload 4, 2) := by decide +kernel
theorem dX9_seed_59 : decode cX9_seed 59 = .ok (.iload_n 2, 1) := by decide +kernel
theorem dX9_seed_60 : decode cX9_seed 60 = .ok (.invokevirtual 338, 3) := by decide +kernel
theorem dX9_seed_63 : decode cX9_seed 63 = .ok (.iload_n 3, 1) := by decide +kernel
theorem dX9_seed_64 : decode cX9_seed 64 = .ok (.if_icmp .gt 18, 3) := by decide +kernel
theorem dX9_seed_67 : decode cX9_seed 67 = .ok (.iload 4, 2) := by decide +kernel
theorem dX9_seed_69 : decode cX9_seed 69 = .ok (.aload_n 0, 1) := by decide +kernel
theorem dX9_seed_70 : decode cX9_seed 70 = .ok (.getfield 19, 3) := by decide +kernel
theorem dX9_seed_73 : decode cX9_seed 73 = .ok (.getfield 247, 3) := by decide +kernel
theorem dX9_seed_76 : decode cX9_seed 76 = .ok (.iload_n 1, 1) := by decide +kernel
theorem dX9_seed_77 : decode cX9_seed 77 = .ok (.iaload, 1) := by decide +kernel
theorem dX9_seed_78 : decode cX9_seed 78 = .ok (.invokestatic 341, 3) := by decide +kernel
theorem dX9_seed_81 : decode cX9_seed 81 = .ok (.ireturn, 1) := by decide +kernel
theorem dX9_seed_82 : decode cX9_seed 82 = .ok (.iinc 4 (-1), 3) := by decide +kernel
theorem dX9_seed_85 : decode cX9_seed 85 = .ok (.goto (-34), 3) := by decide +kernel
theorem dX9_seed_88 : decode cX9_seed 88 = .ok (.iconst 0, 1) := by decide +kernel
theorem dX9_seed_89 : decode cX9_seed 89 = .ok (.ireturn, 1) := by decide +kernel
theorem dX9_often_0 : decode cX9_often 0 = .ok (.aload_n 0, 1) := by decide +kernel
theorem dX9_often_1 : decode cX9_often 1 = .ok (.iload_n 1, 1) := by decide +kernel
theorem dX9_often_2 : decode cX9_often 2 = .ok (.iconst 0, 1) := by decide +kernel
theorem dX9_often_3 : decode cX9_often 3 = .ok (.iconst 1, 1) := by decide +kernel
theorem dX9_often_4 : decode cX9_often 4 = .ok (.invokevirtual 191, 3) := by decide +kernel
theorem dX9_often_7 : decode cX9_often 7 = .ok (.iconst (-1), 1) := by decide +kernel
theorem dX9_often_8 : decode cX9_often 8 = .ok (.istore_n 2, 1) := by decide +kernel
theorem dX9_often_9 : decode cX9_often 9 = .ok (.iconst (-1), 1) := by decide +kernel
theorem dX9_often_10 : decode cX9_often 10 = .ok (.istore_n 3, 1) := by decide +kernel
theorem dX9_often_11 : decode cX9_often 11 = .ok (.iconst 0, 1) := by decide +kernel
theorem dX9_often_12 : decode cX9_often 12 = .ok (.istore 4, 2) := by decide +kernel
theorem dX9_often_14 : decode cX9_often 14 = .ok (.iload 4, 2) := by decide +kernel
theorem dX9_often_16 : decode cX9_often 16 = .ok (.bipush 16, 2) := by decide +kernel
theorem dX9_often_18 : decode cX9_often 18 = .ok (.if_icmp .ge 41, 3) := by decide +kernel
theorem dX9_often_21 : decode cX9_often 21 = .ok (.aload_n 0, 1) := by decide +kernel
theorem dX9_often_22 : decode cX9_often 22 = .ok (.getfield 19, 3) := by decide +kernel
theorem dX9_often_25 : decode cX9_often 25 = .ok (.aload_n 0, 1) := by decide +kernel
theorem dX9_often_26 : decode cX9_often 26 = .ok (.getfield 60, 3) := by decide +kernel
theorem dX9_often_29 : decode cX9_often 29 = .ok (.iload 4, 2) := by decide +kernel
theorem dX9_often_31 : decode cX9_often 31 = .ok (.invokevirtual 346, 3) := by decide +kernel
theorem dX9_often_34 : decode cX9_often 34 = .ok (.istore 5, 2) := by decide +kernel
theorem dX9_often_36 : decode cX9_often 36 = .ok (.iload 5, 2) := by decide +kernel
theorem dX9_often_38 : decode cX9_often 38 = .ok (.ifCond .le 15, 3) := by decide +kernel
theorem dX9_often_41 : decode cX9_often 41 = .ok (.iload 5, 2) := by decide +kernel
theorem dX9_often_43 : decode cX9_often 43 = .ok (.iload_n 3, 1) := by decide +kernel
theorem dX9_often_44 : decode cX9_often 44 = .ok (.if_icmp .le 9, 3) := by decide +kernel
theorem dX9_often_47 : decode cX9_often 47 = .ok (.iload 4, 2) := by decide +kernel
theorem dX9_often_49 : decode cX9_often 49 = .ok (.istore_n 2, 1) := by decide +kernel
theorem dX9_often_50 : decode cX9_often 50 = .ok (.iload 5, 2) := by decide +kernel
theorem dX9_often_52 : decode cX9_often 52 = .ok (.istore_n 3, 1) := by decide +kernel
theorem dX9_often_53 : decode cX9_often 53 = .ok (.iinc 4 1, 3) := by decide +kernel
theorem dX9_often_56 : decode cX9_often 56 = .ok (.goto (-42), 3) := by decide +kernel
theorem dX9_often_59 : decode cX9_often 59 = .ok (.iload_n 1, 1) := by decide +kernel
theorem dX9_often_60 : decode cX9_often 60 = .ok (.ifCond .ne 7, 3) := by decide +kernel
theorem dX9_often_63 : decode cX9_often 63 = .ok (.iload_n 2, 1) := by decide +kernel
theorem dX9_often_64 : decode cX9_often 64 = .ok (.goto 4, 3) := by decide +kernel
theorem dX9_often_67 : decode cX9_often 67 = .ok (.iload_n 3, 1) := by decide +kernel
theorem dX9_often_68 : decode cX9_often 68 = .ok (.ireturn, 1) := by decide +kernel
theorem dX9_hearers_0 : decode cX9_hearers 0 = .ok (.aload_n 0, 1) := by decide +kernel
theorem dX9_hearers_1 : decode cX9_hearers 1 = .ok (.iload_n 1, 1) := by decide +kernel
theorem dX9_hearers_2 : decode cX9_hearers 2 = .ok (.iconst 0, 1) := by decide +kernel
theorem dX9_hearers_3 : decode cX9_hearers 3 = .ok (.bipush 15, 2) := by decide +kernel
theorem dX9_hearers_5 : decode cX9_hearers 5 = .ok (.invokevirtual 191, 3) := by decide +kernel
theorem dX9_hearers_8 : decode cX9_hearers 8 = .ok (.iconst 0, 1) := by decide +kernel
theorem dX9_hearers_9 : decode cX9_hearers 9 = .ok (.istore_n 2, 1) := by decide +kernel
theorem dX9_hearers_10 : decode cX9_hearers 10 = .ok (.iconst 0, 1) := by decide +kernel
theorem dX9_hearers_11 : decode cX9_hearers 11 = .ok (.istore_n 3, 1) := by decide +kernel
theorem dX9_hearers_12 : decode cX9_hearers 12 = .ok (.iload_n 3, 1) := by decide +kernel
theorem dX9_hearers_13 : decode cX9_hearers 13 = .ok (.aload_n 0, 1) := by decide +kernel
theorem dX9_hearers_14 : decode cX9_hearers 14 = .ok (.getfield 60, 3) := by decide +kernel
theorem dX9_hearers_17 : decode cX9_hearers 17 = .ok (.getfield 195, 3) := by decide +kernel
theorem dX9_hearers_20 : decode cX9_hearers 20 = .ok (.if_icmp .ge 31, 3) := by decide +kernel
theorem dX9_hearers_23 : decode cX9_hearers 23 = .ok (.aload_n 0, 1) := by decide +kernel
theorem dX9_hearers_24 : decode cX9_hearers 24 = .ok (.getfield 19, 3) := by decide +kernel
theorem dX9_hearers_27 : decode cX9_hearers 27 = .ok (.getfield 266, 3) := by decide +kernel
theorem dX9_hearers_30 : decode cX9_hearers 30 = .ok (.iload_n 3, 1) := by decide +kernel
theorem dX9_hearers_31 : decode cX9_hearers 31 = .ok (.iaload, 1) := by decide +kernel
theorem dX9_hearers_32 : decode cX9_hearers 32 = .ok (.iload_n 1, 1) := by decide +kernel
theorem dX9_hearers_33 : decode cX9_hearers 33 = .ok (.invokestatic 286, 3) := by decide +kernel
theorem dX9_hearers_36 : decode cX9_hearers 36 = .ok (.ifCond .eq 9, 3) := by decide +kernel
theorem dX9_hearers_39 : decode cX9_hearers 39 = .ok (.iload_n 2, 1) := by decide +kernel
theorem dX9_hearers_40 : decode cX9_hearers 40 = .ok (.iconst 1, 1) := by decide +kernel
theorem dX9_hearers_41 : decode cX9_hearers 41 = .ok (.iload_n 3, 1) := by decide +kernel
theorem dX9_hearers_42 : decode cX9_hearers 42 = .ok (.ishl, 1) := by decide +kernel
theorem dX9_hearers_43 : decode cX9_hearers 43 = .ok (.ior, 1) := by decide +kernel
theorem dX9_hearers_44 : decode cX9_hearers 44 = .ok (.istore_n 2, 1) := by decide +kernel
theorem dX9_hearers_45 : decode cX9_hearers 45 = .ok (.iinc 3 1, 3) := by decide +kernel
theorem dX9_hearers_48 : decode cX9_hearers 48 = .ok (.goto (-36), 3) := by decide +kernel
theorem dX9_hearers_51 : decode cX9_hearers 51 = .ok (.iload_n 2, 1) := by decide +kernel
theorem dX9_hearers_52 : decode cX9_hearers 52 = .ok (.ireturn, 1) := by decide +kernel
theorem dX9_news_0 : decode cX9_news 0 = .ok (.aload_n 0, 1) := by decide +kernel
theorem dX9_news_1 : decode cX9_news 1 = .ok (.iload_n 1, 1) := by decide +kernel
theorem dX9_news_2 : decode cX9_news 2 = .ok (.aload_n 0, 1) := by decide +kernel
theorem dX9_news_3 : decode cX9_news 3 = .ok (.getfield 60, 3) := by decide +kernel
theorem dX9_news_6 : decode cX9_news 6 = .ok (.getfield 195, 3) := by decide +kernel
theorem dX9_news_9 : decode cX9_news 9 = .ok (.invokevirtual 220, 3) := by decide +kernel
theorem dX9_news_12 : decode cX9_news 12 = .ok (.aload_n 0, 1) := by decide +kernel
theorem dX9_news_13 : decode cX9_news 13 = .ok (.iload_n 2, 1) := by decide +kernel
theorem dX9_news_14 : decode cX9_news 14 = .ok (.iconst 1, 1) := by decide +kernel
theorem dX9_news_15 : decode cX9_news 15 = .ok (.bipush 30, 2) := by decide +kernel
theorem dX9_news_17 : decode cX9_news 17 = .ok (.invokevirtual 191, 3) := by decide +kernel
theorem dX9_news_20 : decode cX9_news 20 = .ok (.aload_n 0, 1) := by decide +kernel
theorem dX9_news_21 : decode cX9_news 21 = .ok (.getfield 19, 3) := by decide +kernel
theorem dX9_news_24 : decode cX9_news 24 = .ok (.aload_n 0, 1) := by decide +kernel
theorem dX9_news_25 : decode cX9_news 25 = .ok (.getfield 60, 3) := by decide +kernel
theorem dX9_news_28 : decode cX9_news 28 = .ok (.iload_n 1, 1) := by decide +kernel
theorem dX9_news_29 : decode cX9_news 29 = .ok (.iload_n 2, 1) := by decide +kernel
theorem dX9_news_30 : decode cX9_news 30 = .ok (.invokevirtual 349, 3) := by decide +kernel
theorem dX9_news_33 : decode cX9_news 33 = .ok (.aload_n 0, 1) := by decide +kernel
theorem dX9_news_34 : decode cX9_news 34 = .ok (.getfield 19, 3) := by decide +kernel
theorem dX9_news_37 : decode cX9_news 37 = .ok (.getfield 266, 3) := by decide +kernel
theorem dX9_news_40 : decode cX9_news 40 = .ok (.iload_n 1, 1) := by decide +kernel
theorem dX9_news_41 : decode cX9_news 41 = .ok (.iaload, 1) := by decide +kernel
theorem dX9_news_42 : decode cX9_news 42 = .ok (.iconst (-1), 1) := by decide +kernel
theorem dX9_news_43 : decode cX9_news 43 = .ok (.ixor, 1) := by decide +kernel
theorem dX9_news_44 : decode cX9_news 44 = .ok (.iand, 1) := by decide +kernel
theorem dX9_news_45 : decode cX9_news 45 = .ok (.ireturn, 1) := by decide +kernel
theorem dX9_full_0 : decode cX9_full 0 = .ok (.aload_n 0, 1) := by decide +kernel
theorem dX9_full_1 : decode cX9_full 1 = .ok (.iload_n 1, 1) := by decide +kernel
theorem dX9_full_2 : decode cX9_full 2 = .ok (.iconst 0, 1) := by decide +kernel
theorem dX9_full_3 : decode cX9_full 3 = .ok (.iconst 1, 1) := by decide +kernel
theorem dX9_full_4 : decode cX9_full 4 = .ok (.invokevirtual 191, 3) := by decide +kernel
theorem dX9_full_7 : decode cX9_full 7 = .ok (.iload_n 1, 1) := by decide +kernel
theorem dX9_full_8 : decode cX9_full 8 = .ok (.ifCond .ne 8, 3) := by decide +kernel
theorem dX9_full_11 : decode cX9_full 11 = .ok (.bipush 12, 2) := by decide +kernel
theorem dX9_full_13 : decode cX9_full 13 = .ok (.goto 4, 3) := by decide +kernel
theorem dX9_full_16 : decode cX9_full 16 = .ok (.iconst 0, 1) := by decide +kernel
theorem dX9_full_17 : decode cX9_full 17 = .ok (.istore_n 2, 1) := by decide +kernel
theorem dX9_full_18 : decode cX9_full 18 = .ok (.iconst 0, 1) := by decide +kernel
theorem dX9_full_19 : decode cX9_full 19 = .ok (.istore_n 3, 1) := by decide +kernel
theorem dX9_full_20 : decode cX9_full 20 = .ok (.iconst 0, 1) := by decide +kernel
theorem dX9_full_21 : decode cX9_full 21 = .ok (.istore 4, 2) := by decide +kernel
theorem dX9_full_23 : decode cX9_full 23 = .ok (.iload 4, 2) := by decide +kernel
theorem dX9_full_25 : decode cX9_full 25 = .ok (.aload_n 0, 1) := by decide +kernel
theorem dX9_full_26 : decode cX9_full 26 = .ok (.getfield 60, 3) := by decide +kernel
theorem dX9_full_29 : decode cX9_full 29 = .ok (.getfield 169, 3) := by decide +kernel
theorem dX9_full_32 : decode cX9_full 32 = .ok (.if_icmp .ge 30, 3) := by decide +kernel
theorem dX9_full_35 : decode cX9_full 35 = .ok (.aload_n 0, 1) := by decide +kernel
theorem dX9_full_36 : decode cX9_full 36 = .ok (.getfield 19, 3) := by decide +kernel
theorem dX9_full_39 : decode cX9_full 39 = .ok (.getfield 247, 3) := by decide +kernel
theorem dX9_full_42 : decode cX9_full 42 = .ok (.iload 4, 2) := by decide +kernel
theorem dX9_full_44 : decode cX9_full 44 = .ok (.iaload, 1) := by decide +kernel
theorem dX9_full_45 : decode cX9_full 45 = .ok (.iload_n 2, 1) := by decide +kernel
theorem dX9_full_46 : decode cX9_full 46 = .ok (.if_icmp .ne 10, 3) := by decide +kernel
theorem dX9_full_49 : decode cX9_full 49 = .ok (.iload_n 3, 1) := by decide +kernel
theorem dX9_full_50 : decode cX9_full 50 = .ok (.iconst 1, 1) := by decide +kernel
theorem dX9_full_51 : decode cX9_full 51 = .ok (.iload 4, 2) := by decide +kernel
theorem dX9_full_53 : decode cX9_full 53 = .ok (.ishl, 1) := by decide +kernel
theorem dX9_full_54 : decode cX9_full 54 = .ok (.ior, 1) := by decide +kernel
theorem dX9_full_55 : decode cX9_full 55 = .ok (.istore_n 3, 1) := by decide +kernel
theorem dX9_full_56 : decode cX9_full 56 = .ok (.iinc 4 1, 3) := by decide +kernel
theorem dX9_full_59 : decode cX9_full 59 = .ok (.goto (-36), 3) := by decide +kernel
theorem dX9_full_62 : decode cX9_full 62 = .ok (.iload_n 3, 1) := by decide +kernel
theorem dX9_full_63 : decode cX9_full 63 = .ok (.ireturn, 1) := by decide +kernel
theorem dX9_drains_0 : decode cX9_drains 0 = .ok (.aload_n 0, 1) := by decide +kernel
theorem dX9_drains_1 : decode cX9_drains 1 = .ok (.iload_n 1, 1) := by decide +kernel
theorem dX9_drains_2 : decode cX9_drains 2 = .ok (.aload_n 0, 1) := by decide +kernel
theorem dX9_drains_3 : decode cX9_drains 3 = .ok (.getfield 60, 3) := by decide +kernel
theorem dX9_drains_6 : decode cX9_drains 6 = .ok (.getfield 169, 3) := by decide +kernel
theorem dX9_drains_9 : decode cX9_drains 9 = .ok (.invokevirtual 220, 3) := by decide +kernel
theorem dX9_drains_12 : decode cX9_drains 12 = .ok (.iconst 0, 1) := by decide +kernel
theorem dX9_drains_13 : decode cX9_drains 13 = .ok (.istore_n 2, 1) := by decide +kernel
theorem dX9_drains_14 : decode cX9_drains 14 = .ok (.iconst 0, 1) := by decide +kernel
theorem dX9_drains_15 : decode cX9_drains 15 = .ok (.istore_n 3, 1) := by decide +kernel
theorem dX9_drains_16 : decode cX9_drains 16 = .ok (.iload_n 3, 1) := by decide +kernel
theorem dX9_drains_17 : decode cX9_drains 17 = .ok (.aload_n 0, 1) := by decide +kernel
theorem dX9_drains_18 : decode cX9_drains 18 = .ok (.getfield 60, 3) := by decide +kernel
theorem dX9_drains_21 : decode cX9_drains 21 = .ok (.getfield 149, 3) := by decide +kernel
theorem dX9_drains_24 : decode cX9_drains 24 = .ok (.if_icmp .ge 43, 3) := by decide +kernel
theorem dX9_drains_27 : decode cX9_drains 27 = .ok (.aload_n 0, 1) := by decide +kernel
theorem dX9_drains_28 : decode cX9_drains 28 = .ok (.getfield 60, 3) := by decide +kernel
theorem dX9_drains_31 : decode cX9_drains 31 = .ok (.getfield 223, 3) := by decide +kernel
theorem dX9_drains_34 : decode cX9_drains 34 = .ok (.iload_n 3, 1) := by decide +kernel
theorem dX9_drains_35 : decode cX9_drains 35 = .ok (.iaload, 1) := by decide +kernel
theorem dX9_drains_36 : decode cX9_drains 36 = .ok (.iload_n 1, 1) := by decide +kernel
theorem dX9_drains_37 : decode cX9_drains 37 = .ok (.if_icmp .ne 24, 3) := by decide +kernel
theorem dX9_drains_40 : decode cX9_drains 40 = .ok (.aload_n 0, 1) := by decide +kernel
theorem dX9_drains_41 : decode cX9_drains 41 = .ok (.getfield 19, 3) := by decide +kernel
theorem dX9_drains_44 : decode cX9_drains 44 = .ok (.aload_n 0, 1) := by decide +kernel
theorem dX9_drains_45 : decode cX9_drains 45 = .ok (.getfield 60, 3) := by decide +kernel
theorem dX9_drains_48 : decode cX9_drains 48 = .ok (.iload_n 3, 1) := by decide +kernel
theorem dX9_drains_49 : decode cX9_drains 49 = .ok (.invokevirtual 229, 3) := by decide +kernel
theorem dX9_drains_52 : decode cX9_drains 52 = .ok (.ifCond .le 9, 3) := by decide +kernel
theorem dX9_drains_55 : decode cX9_drains 55 = .ok (.iload_n 2, 1) := by decide +kernel
theorem dX9_drains_56 : decode cX9_drains 56 = .ok (.iconst 1, 1) := by decide +kernel
theorem dX9_drains_57 : decode cX9_drains 57 = .ok (.iload_n 3, 1) := by decide +kernel
theorem dX9_drains_58 : decode cX9_drains 58 = .ok (.ishl, 1) := by decide +kernel
theorem dX9_drains_59 : decode cX9_drains 59 = .ok (.ior, 1) := by decide +kernel
theorem dX9_drains_60 : decode cX9_drains 60 = .ok (.istore_n 2, 1) := by decide +kernel
theorem dX9_drains_61 : decode cX9_drains 61 = .ok (.iinc 3 1, 3) := by decide +kernel
theorem dX9_drains_64 : decode cX9_drains 64 = .ok (.goto (-48), 3) := by decide +kernel
theorem dX9_drains_67 : decode cX9_drains 67 = .ok (.iload_n 2, 1) := by decide +kernel
theorem dX9_drains_68 : decode cX9_drains 68 = .ok (.ireturn, 1) := by decide +kernel
theorem dX9_unread_0 : decode cX9_unread 0 = .ok (.aload_n 0, 1) := by decide +kernel
theorem dX9_unread_1 : decode cX9_unread 1 = .ok (.iload_n 1, 1) := by decide +kernel
theorem dX9_unread_2 : decode cX9_unread 2 = .ok (.aload_n 0, 1) := by decide +kernel
theorem dX9_unread_3 : decode cX9_unread 3 = .ok (.getfield 60, 3) := by decide +kernel
theorem dX9_unread_6 : decode cX9_unread 6 = .ok (.getfield 195, 3) := by decide +kernel
theorem dX9_unread_9 : decode cX9_unread 9 = .ok (.invokevirtual 220, 3) := by decide +kernel
theorem dX9_unread_12 : decode cX9_unread 12 = .ok (.aload_n 0, 1) := by decide +kernel
theorem dX9_unread_13 : decode cX9_unread 13 = .ok (.getfield 19, 3) := by decide +kernel
theorem dX9_unread_16 : decode cX9_unread 16 = .ok (.aload_n 0, 1) := by decide +kernel
theorem dX9_unread_17 : decode cX9_unread 17 = .ok (.getfield 19, 3) := by decide +kernel
theorem dX9_unread_20 : decode cX9_unread 20 = .ok (.getfield 263, 3) := by decide +kernel
theorem dX9_unread_23 : decode cX9_unread 23 = .ok (.iload_n 1, 1) := by decide +kernel
theorem dX9_unread_24 : decode cX9_unread 24 = .ok (.iaload, 1) := by decide +kernel
theorem dX9_unread_25 : decode cX9_unread 25 = .ok (.invokevirtual 250, 3) := by decide +kernel
theorem dX9_unread_28 : decode cX9_unread 28 = .ok (.aload_n 0, 1) := by decide +kernel
theorem dX9_unread_29 : decode cX9_unread 29 = .ok (.getfield 19, 3) := by decide +kernel
theorem dX9_unread_32 : decode cX9_unread 32 = .ok (.getfield 266, 3) := by decide +kernel
theorem dX9_unread_35 : decode cX9_unread 35 = .ok (.iload_n 1, 1) := by decide +kernel
theorem dX9_unread_36 : decode cX9_unread 36 = .ok (.iaload, 1) := by decide +kernel
theorem dX9_unread_37 : decode cX9_unread 37 = .ok (.iconst (-1), 1) := by decide +kernel
theorem dX9_unread_38 : decode cX9_unread 38 = .ok (.ixor, 1) := by decide +kernel
theorem dX9_unread_39 : decode cX9_unread 39 = .ok (.iand, 1) := by decide +kernel
theorem dX9_unread_40 : decode cX9_unread 40 = .ok (.ireturn, 1) := by decide +kernel
theorem dX9_coming_0 : decode cX9_coming 0 = .ok (.aload_n 0, 1) := by decide +kernel
theorem dX9_coming_1 : decode cX9_coming 1 = .ok (.iload_n 1, 1) := by decide +kernel
theorem dX9_coming_2 : decode cX9_coming 2 = .ok (.aload_n 0, 1) := by decide +kernel
theorem dX9_coming_3 : decode cX9_coming 3 = .ok (.getfield 60, 3) := by decide +kernel
theorem dX9_coming_6 : decode cX9_coming 6 = .ok (.getfield 169, 3) := by decide +kernel
theorem dX9_coming_9 : decode cX9_coming 9 = .ok (.invokevirtual 220, 3) := by decide +kernel
theorem dX9_coming_12 : decode cX9_coming 12 = .ok (.aload_n 0, 1) := by decide +kernel
theorem dX9_coming_13 : decode cX9_coming 13 = .ok (.iload_n 2, 1) := by decide +kernel
theorem dX9_coming_14 : decode cX9_coming 14 = .ok (.iconst 0, 1) := by decide +kernel
theorem dX9_coming_15 : decode cX9_coming 15 = .ok (.iconst 1, 1) := by decide +kernel
theorem dX9_coming_16 : decode cX9_coming 16 = .ok (.invokevirtual 191, 3) := by decide +kernel
theorem dX9_coming_19 : decode cX9_coming 19 = .ok (.iconst 0, 1) := by decide +kernel
theorem dX9_coming_20 : decode cX9_coming 20 = .ok (.istore_n 3, 1) := by decide +kernel
theorem dX9_coming_21 : decode cX9_coming 21 = .ok (.iconst 0, 1) := by decide +kernel
theorem dX9_coming_22 : decode cX9_coming 22 = .ok (.istore 4, 2) := by decide +kernel
theorem dX9_coming_24 : decode cX9_coming 24 = .ok (.iload 4, 2) := by decide +kernel
theorem dX9_coming_26 : decode cX9_coming 26 = .ok (.aload_n 0, 1) := by decide +kernel
theorem dX9_coming_27 : decode cX9_coming 27 = .ok (.getfield 60, 3) := by decide +kernel
theorem dX9_coming_30 : decode cX9_coming 30 = .ok (.getfield 149, 3) := by decide +kernel
theorem dX9_coming_33 : decode cX9_coming 33 = .ok (.if_icmp .ge 60, 3) := by decide +kernel
theorem dX9_coming_36 : decode cX9_coming 36 = .ok (.aload_n 0, 1) := by decide +kernel
theorem dX9_coming_37 : decode cX9_coming 37 = .ok (.getfield 60, 3) := by decide +kernel
theorem dX9_coming_40 : decode cX9_coming 40 = .ok (.getfield 223, 3) := by decide +kernel
theorem dX9_coming_43 : decode cX9_coming 43 = .ok (.iload 4, 2) := by decide +kernel
theorem dX9_coming_45 : decode cX9_coming 45 = .ok (.iaload, 1) := by decide +kernel
theorem dX9_coming_46 : decode cX9_coming 46 = .ok (.iload_n 1, 1) := by decide +kernel
theorem dX9_coming_47 : decode cX9_coming 47 = .ok (.if_icmp .ne 40, 3) := by decide +kernel
theorem dX9_coming_50 : decode cX9_coming 50 = .ok (.aload_n 0, 1) := by decide +kernel
theorem dX9_coming_51 : decode cX9_coming 51 = .ok (.getfield 19, 3) := by decide +kernel
theorem dX9_coming_54 : decode cX9_coming 54 = .ok (.iload 4, 2) := by decide +kernel
theorem dX9_coming_56 : decode cX9_coming 56 = .ok (.invokevirtual 236, 3) := by decide +kernel
theorem dX9_coming_59 : decode cX9_coming 59 = .ok (.iload_n 2, 1) := by decide +kernel
theorem dX9_coming_60 : decode cX9_coming 60 = .ok (.ifCond .ne 7, 3) := by decide +kernel
theorem dX9_coming_63 : decode cX9_coming 63 = .ok (.iconst 1, 1) := by decide +kernel
theorem dX9_coming_64 : decode cX9_coming 64 = .ok (.goto 4, 3) := by decide +kernel
theorem dX9_coming_67 : decode cX9_coming 67 = .ok (.iconst 0, 1) := by decide +kernel
theorem dX9_coming_68 : decode cX9_coming 68 = .ok (.if_icmp .ne 19, 3) := by decide +kernel
theorem dX9_coming_71 : decode cX9_coming 71 = .ok (.iload_n 3, 1) := by decide +kernel
theorem dX9_coming_72 : decode cX9_coming 72 = .ok (.aload_n 0, 1) := by decide +kernel
theorem dX9_coming_73 : decode cX9_coming 73 = .ok (.getfield 19, 3) := by decide +kernel
theorem dX9_coming_76 : decode cX9_coming 76 = .ok (.aload_n 0, 1) := by decide +kernel
theorem dX9_coming_77 : decode cX9_coming 77 = .ok (.getfield 60, 3) := by decide +kernel
theorem dX9_coming_80 : decode cX9_coming 80 = .ok (.iload 4, 2) := by decide +kernel
theorem dX9_coming_82 : decode cX9_coming 82 = .ok (.invokevirtual 229, 3) := by decide +kernel
theorem dX9_coming_85 : decode cX9_coming 85 = .ok (.iadd, 1) := by decide +kernel
theorem dX9_coming_86 : decode cX9_coming 86 = .ok (.istore_n 3, 1) := by decide +kernel
theorem dX9_coming_87 : decode cX9_coming 87 = .ok (.iinc 4 1, 3) := by decide +kernel
theorem dX9_coming_90 : decode cX9_coming 90 = .ok (.goto (-66), 3) := by decide +kernel
theorem dX9_coming_93 : decode cX9_coming 93 = .ok (.iload_n 3, 1) := by decide +kernel
theorem dX9_coming_94 : decode cX9_coming 94 = .ok (.ireturn, 1) := by decide +kernel
theorem dX9_shared_0 : decode cX9_shared 0 = .ok (.aload_n 0, 1) := by decide +kernel
theorem dX9_shared_1 : decode cX9_shared 1 = .ok (.iload_n 1, 1) := by decide +kernel
theorem dX9_shared_2 : decode cX9_shared 2 = .ok (.aload_n 0, 1) := by decide +kernel
theorem dX9_shared_3 : decode cX9_shared 3 = .ok (.getfield 60, 3) := by decide +kernel
theorem dX9_shared_6 : decode cX9_shared 6 = .ok (.getfield 195, 3) := by decide +kernel
theorem dX9_shared_9 : decode cX9_shared 9 = .ok (.invokevirtual 220, 3) := by decide +kernel
theorem dX9_shared_12 : decode cX9_shared 12 = .ok (.aload_n 0, 1) := by decide +kernel
theorem dX9_shared_13 : decode cX9_shared 13 = .ok (.iload_n 2, 1) := by decide +kernel
theorem dX9_shared_14 : decode cX9_shared 14 = .ok (.aload_n 0, 1) := by decide +kernel
theorem dX9_shared_15 : decode cX9_shared 15 = .ok (.getfield 60, 3) := by decide +kernel
theorem dX9_shared_18 : decode cX9_shared 18 = .ok (.getfield 195, 3) := by decide +kernel
theorem dX9_shared_21 : decode cX9_shared 21 = .ok (.invokevirtual 220, 3) := by decide +kernel
theorem dX9_shared_24 : decode cX9_shared 24 = .ok (.aload_n 0, 1) := by decide +kernel
theorem dX9_shared_25 : decode cX9_shared 25 = .ok (.getfield 19, 3) := by decide +kernel
theorem dX9_shared_28 : decode cX9_shared 28 = .ok (.getfield 266, 3) := by decide +kernel
theorem dX9_shared_31 : decode cX9_shared 31 = .ok (.iload_n 1, 1) := by decide +kernel
theorem dX9_shared_32 : decode cX9_shared 32 = .ok (.iaload, 1) := by decide +kernel
theorem dX9_shared_33 : decode cX9_shared 33 = .ok (.aload_n 0, 1) := by decide +kernel
theorem dX9_shared_34 : decode cX9_shared 34 = .ok (.getfield 19, 3) := by decide +kernel
theorem dX9_shared_37 : decode cX9_shared 37 = .ok (.getfield 266, 3) := by decide +kernel
theorem dX9_shared_40 : decode cX9_shared 40 = .ok (.iload_n 2, 1) := by decide +kernel
theorem dX9_shared_41 : decode cX9_shared 41 = .ok (.iaload, 1) := by decide +kernel
theorem dX9_shared_42 : decode cX9_shared 42 = .ok (.iand, 1) := by decide +kernel
theorem dX9_shared_43 : decode cX9_shared 43 = .ok (.invokestatic 353, 3) := by decide +kernel
theorem dX9_shared_46 : decode cX9_shared 46 = .ok (.ireturn, 1) := by decide +kernel
theorem dX9_summer_0 : decode cX9_summer 0 = .ok (.aload_n 0, 1) := by decide +kernel
theorem dX9_summer_1 : decode cX9_summer 1 = .ok (.iload_n 2, 1) := by decide +kernel
theorem dX9_summer_2 : decode cX9_summer 2 = .ok (.iconst 0, 1) := by decide +kernel
theorem dX9_summer_3 : decode cX9_summer 3 = .ok (.bipush 16, 2) := by decide +kernel
theorem dX9_summer_5 : decode cX9_summer 5 = .ok (.invokevirtual 191, 3) := by decide +kernel
theorem dX9_summer_8 : decode cX9_summer 8 = .ok (.aload_n 0, 1) := by decide +kernel
theorem dX9_summer_9 : decode cX9_summer 9 = .ok (.iload_n 3, 1) := by decide +kernel
theorem dX9_summer_10 : decode cX9_summer 10 = .ok (.iconst 1, 1) := by decide +kernel
theorem dX9_summer_11 : decode cX9_summer 11 = .ok (.bipush 48, 2) := by decide +kernel
theorem dX9_summer_13 : decode cX9_summer 13 = .ok (.invokevirtual 191, 3) := by decide +kernel
theorem dX9_summer_16 : decode cX9_summer 16 = .ok (.aload_n 0, 1) := by decide +kernel
theorem dX9_summer_17 : decode cX9_summer 17 = .ok (.iload 4, 2) := by decide +kernel
theorem dX9_summer_19 : decode cX9_summer 19 = .ok (.iconst 0, 1) := by decide +kernel
theorem dX9_summer_20 : decode cX9_summer 20 = .ok (.iconst 3, 1) := by decide +kernel
theorem dX9_summer_21 : decode cX9_summer 21 = .ok (.invokevirtual 191, 3) := by decide +kernel
theorem dX9_summer_24 : decode cX9_summer 24 = .ok (.aload_n 0, 1) := by decide +kernel
theorem dX9_summer_25 : decode cX9_summer 25 = .ok (.getfield 23, 3) := by decide +kernel
theorem dX9_summer_28 : decode cX9_summer 28 = .ok (.aload_n 0, 1) := by decide +kernel
theorem dX9_summer_29 : decode cX9_summer 29 = .ok (.getfield 19, 3) := by decide +kernel
theorem dX9_summer_32 : decode cX9_summer 32 = .ok (.invokevirtual 184, 3) := by decide +kernel
theorem dX9_summer_35 : decode cX9_summer 35 = .ok (.aload_n 0, 1) := by decide +kernel
theorem dX9_summer_36 : decode cX9_summer 36 = .ok (.getfield 36, 3) := by decide +kernel
theorem dX9_summer_39 : decode cX9_summer 39 = .ok (.aload_n 0, 1) := by decide +kernel
theorem dX9_summer_40 : decode cX9_summer 40 = .ok (.getfield 23, 3) := by decide +kernel
theorem dX9_summer_43 : decode cX9_summer 43 = .ok (.aload_n 0, 1) := by decide +kernel
theorem dX9_summer_44 : decode cX9_summer 44 = .ok (.getfield 60, 3) := by decide +kernel
theorem dX9_summer_47 : decode cX9_summer 47 = .ok (.aload_n 0, 1) := by decide +kernel
theorem dX9_summer_48 : decode cX9_summer 48 = .ok (.getfield 70, 3) := by decide +kernel
theorem dX9_summer_51 : decode cX9_summer 51 = .ok (.iload_n 1, 1) := by decide +kernel
theorem dX9_summer_52 : decode cX9_summer 52 = .ok (.iload_n 2, 1) := by decide +kernel
theorem dX9_summer_53 : decode cX9_summer 53 = .ok (.iload_n 3, 1) := by decide +kernel
theorem dX9_summer_54 : decode cX9_summer 54 = .ok (.invokevirtual 358, 3) := by decide +kernel
theorem dX9_summer_57 : decode cX9_summer 57 = .ok (.iload 4, 2) := by decide +kernel
theorem dX9_summer_59 : decode cX9_summer 59 = .ok (.tableswitch 53 0 2 #[25, 37, 45], 25) := by decide +kernel
theorem dX9_summer_84 : decode cX9_summer 84 = .ok (.aload_n 0, 1) := by decide +kernel
theorem dX9_summer_85 : decode cX9_summer 85 = .ok (.getfield 23, 3) := by decide +kernel
theorem dX9_summer_88 : decode cX9_summer 88 = .ok (.aload_n 0, 1) := by decide +kernel
theorem dX9_summer_89 : decode cX9_summer 89 = .ok (.getfield 60, 3) := by decide +kernel
theorem dX9_summer_92 : decode cX9_summer 92 = .ok (.invokevirtual 204, 3) := by decide +kernel
theorem dX9_summer_95 : decode cX9_summer 95 = .ok (.ireturn, 1) := by decide +kernel
theorem dX9_summer_96 : decode cX9_summer 96 = .ok (.aload_n 0, 1) := by decide +kernel
theorem dX9_summer_97 : decode cX9_summer 97 = .ok (.getfield 23, 3) := by decide +kernel
theorem dX9_summer_100 : decode cX9_summer 100 = .ok (.getfield 217, 3) := by decide +kernel
theorem dX9_summer_103 : decode cX9_summer 103 = .ok (.ireturn, 1) := by decide +kernel
theorem dX9_summer_104 : decode cX9_summer 104 = .ok (.aload_n 0, 1) := by decide +kernel
theorem dX9_summer_105 : decode cX9_summer 105 = .ok (.getfield 23, 3) := by decide +kernel
theorem dX9_summer_108 : decode cX9_summer 108 = .ok (.invokevirtual 208, 3) := by decide +kernel
theorem dX9_summer_111 : decode cX9_summer 111 = .ok (.ireturn, 1) := by decide +kernel
theorem dX9_summer_112 : decode cX9_summer 112 = .ok (.aload_n 0, 1) := by decide +kernel
theorem dX9_summer_113 : decode cX9_summer 113 = .ok (.getfield 23, 3) := by decide +kernel
theorem dX9_summer_116 : decode cX9_summer 116 = .ok (.aload_n 0, 1) := by decide +kernel
theorem dX9_summer_117 : decode cX9_summer 117 = .ok (.getfield 60, 3) := by decide +kernel
theorem dX9_summer_120 : decode cX9_summer 120 = .ok (.invokevirtual 362, 3) := by decide +kernel
theorem dX9_summer_123 : decode cX9_summer 123 = .ok (.ireturn, 1) := by decide +kernel
theorem dX9_span_0 : decode cX9_span 0 = .ok (.aload_n 0, 1) := by decide +kernel
theorem dX9_span_1 : decode cX9_span 1 = .ok (.iload_n 2, 1) := by decide +kernel
theorem dX9_span_2 : decode cX9_span 2 = .ok (.iconst 1, 1) := by decide +kernel
theorem dX9_span_3 : decode cX9_span 3 = .ok (.bipush 10, 2) := by decide +kernel
theorem dX9_span_5 : decode cX9_span 5 = .ok (.invokevirtual 191, 3) := by decide +kernel
theorem dX9_span_8 : decode cX9_span 8 = .ok (.aload_n 0, 1) := by decide +kernel
theorem dX9_span_9 : decode cX9_span 9 = .ok (.iload_n 3, 1) := by decide +kernel
theorem dX9_span_10 : decode cX9_span 10 = .ok (.iconst 0, 1) := by decide +kernel
theorem dX9_span_11 : decode cX9_span 11 = .ok (.bipush 16, 2) := by decide +kernel
theorem dX9_span_13 : decode cX9_span 13 = .ok (.invokevirtual 191, 3) := by decide +kernel
theorem dX9_span_16 : decode cX9_span 16 = .ok (.aload_n 0, 1) := by decide +kernel
theorem dX9_span_17 : decode cX9_span 17 = .ok (.iload 4, 2) := by decide +kernel
theorem dX9_span_19 : decode cX9_span 19 = .ok (.iconst 1, 1) := by decide +kernel
theorem dX9_span_20 : decode cX9_span 20 = .ok (.bipush 48, 2) := by decide +kernel
theorem dX9_span_22 : decode cX9_span 22 = .ok (.invokevirtual 191, 3) := by decide +kernel
theorem dX9_span_25 : decode cX9_span 25 = .ok (.aload_n 0, 1) := by decide +kernel
theorem dX9_span_26 : decode cX9_span 26 = .ok (.iload 5, 2) := by decide +kernel
theorem dX9_span_28 : decode cX9_span 28 = .ok (.iconst 0, 1) := by decide +kernel
theorem dX9_span_29 : decode cX9_span 29 = .ok (.iconst 2, 1) := by decide +kernel
theorem dX9_span_30 : decode cX9_span 30 = .ok (.invokevirtual 191, 3) := by decide +kernel
theorem dX9_span_33 : decode cX9_span 33 = .ok (.aload_n 0, 1) := by decide +kernel
theorem dX9_span_34 : decode cX9_span 34 = .ok (.iload 6, 2) := by decide +kernel
theorem dX9_span_36 : decode cX9_span 36 = .ok (.iconst 0, 1) := by decide +kernel
theorem dX9_span_37 : decode cX9_span 37 = .ok (.aload_n 0, 1) := by decide +kernel
theorem dX9_span_38 : decode cX9_span 38 = .ok (.getfield 60, 3) := by decide +kernel
theorem dX9_span_41 : decode cX9_span 41 = .ok (.getfield 169, 3) := by decide +kernel
theorem dX9_span_44 : decode cX9_span 44 = .ok (.iconst 1, 1) := by decide +kernel
theorem dX9_span_45 : decode cX9_span 45 = .ok (.isub, 1) := by decide +kernel
theorem dX9_span_46 : decode cX9_span 46 = .ok (.invokevirtual 191, 3) := by decide +kernel
theorem dX9_span_49 : decode cX9_span 49 = .ok (.bipush 48, 2) := by decide +kernel
theorem dX9_span_51 : decode cX9_span 51 = .ok (.istore 7, 2) := by decide +kernel
theorem dX9_span_53 : decode cX9_span 53 = .ok (.iconst 0, 1) := by decide +kernel
theorem dX9_span_54 : decode cX9_span 54 = .ok (.istore 8, 2) := by decide +kernel
theorem dX9_span_56 : decode cX9_span 56 = .ok (.iconst 0, 1) := by decide +kernel
theorem dX9_span_57 : decode cX9_span 57 = .ok (.istore 9, 2) := by decide +kernel
theorem dX9_span_59 : decode cX9_span 59 = .ok (.iconst 0, 1) := by decide +kernel
theorem dX9_span_60 : decode cX9_span 60 = .ok (.istore 10, 2) := by decide +kernel
theorem dX9_span_62 : decode cX9_span 62 = .ok (.iload 10, 2) := by decide +kernel
theorem dX9_span_64 : decode cX9_span 64 = .ok (.iload_n 2, 1) := by decide +kernel
theorem dX9_span_65 : decode cX9_span 65 = .ok (.if_icmp .ge 105, 3) := by decide +kernel
theorem dX9_span_68 : decode cX9_span 68 = .ok (.aload_n 0, 1) := by decide +kernel
theorem dX9_span_69 : decode cX9_span 69 = .ok (.getfield 23, 3) := by decide +kernel
theorem dX9_span_72 : decode cX9_span 72 = .ok (.aload_n 0, 1) := by decide +kernel
theorem dX9_span_73 : decode cX9_span 73 = .ok (.getfield 19, 3) := by decide +kernel
theorem dX9_span_76 : decode cX9_span 76 = .ok (.invokevirtual 184, 3) := by decide +kernel
theorem dX9_span_79 : decode cX9_span 79 = .ok (.aload_n 0, 1) := by decide +kernel
theorem dX9_span_80 : decode cX9_span 80 = .ok (.getfield 36, 3) := by decide +kernel
theorem dX9_span_83 : decode cX9_span 83 = .ok (.aload_n 0, 1) := by decide +kernel
theorem dX9_span_84 : decode cX9_span 84 = .ok (.getfield 23, 3) := by decide +kernel
theorem dX9_span_87 : decode cX9_span 87 = .ok (.aload_n 0, 1) := by decide +kernel
theorem dX9_span_88 : decode cX9_span 88 = .ok (.getfield 60, 3) := by decide +kernel
theorem dX9_span_91 : decode cX9_span 91 = .ok (.aload_n 0, 1) := by decide +kernel
theorem dX9_span_92 : decode cX9_span 92 = .ok (.getfield 70, 3) := by decide +kernel
theorem dX9_span_95 : decode cX9_span 95 = .ok (.iload_n 1, 1) := by decide +kernel
theorem dX9_span_96 : decode cX9_span 96 = .ok (.iload 10, 2) := by decide +kernel
theorem dX9_span_98 : decode cX9_span 98 = .ok (.iadd, 1) := by decide +kernel
theorem dX9_span_99 : decode cX9_span 99 = .ok (.iload_n 3, 1) := by decide +kernel
theorem dX9_span_100 : decode cX9_span 100 = .ok (.iload 4, 2) := by decide +kernel
theorem dX9_span_102 : decode cX9_span 102 = .ok (.invokevirtual 358, 3) := by decide +kernel
theorem dX9_span_105 : decode cX9_span 105 = .ok (.iload 7, 2) := by decide +kernel
theorem dX9_span_107 : decode cX9_span 107 = .ok (.aload_n 0, 1) := by decide +kernel
theorem dX9_span_108 : decode cX9_span 108 = .ok (.getfield 23, 3) := by decide +kernel
theorem dX9_span_111 : decode cX9_span 111 = .ok (.aload_n 0, 1) := by decide +kernel
theorem dX9_span_112 : decode cX9_span 112 = .ok (.getfield 60, 3) := by decide +kernel
theorem dX9_span_115 : decode cX9_span 115 = .ok (.invokevirtual 204, 3) := by decide +kernel
theorem dX9_span_118 : decode cX9_span 118 = .ok (.invokestatic 341, 3) := by decide +kernel
theorem dX9_span_121 : decode cX9_span 121 = .ok (.istore 7, 2) := by decide +kernel
theorem dX9_span_123 : decode cX9_span 123 = .ok (.iload 8, 2) := by decide +kernel
theorem dX9_span_125 : decode cX9_span 125 = .ok (.aload_n 0, 1) := by decide +kernel
theorem dX9_span_126 : decode cX9_span 126 = .ok (.getfield 23, 3) := by decide +kernel
theorem dX9_span_129 : decode cX9_span 129 = .ok (.aload_n 0, 1) := by decide +kernel
theorem dX9_span_130 : decode cX9_span 130 = .ok (.getfield 60, 3) := by decide +kernel
theorem dX9_span_133 : decode cX9_span 133 = .ok (.invokevirtual 204, 3) := by decide +kernel
theorem dX9_span_136 : decode cX9_span 136 = .ok (.invokestatic 365, 3) := by decide +kernel
theorem dX9_span_139 : decode cX9_span 139 = .ok (.istore 8, 2) := by decide +kernel
theorem dX9_span_141 : decode cX9_span 141 = .ok (.iload 9, 2) := by decide +kernel
theorem dX9_span_143 : decode cX9_span 143 = .ok (.aload_n 0, 1) := by decide +kernel
theorem dX9_span_144 : decode cX9_span 144 = .ok (.getfield 23, 3) := by decide +kernel
theorem dX9_span_147 : decode cX9_span 147 = .ok (.getfield 247, 3) := by decide +kernel
theorem dX9_span_150 : decode cX9_span 150 = .ok (.iload 6, 2) := by decide +kernel
theorem dX9_span_152 : decode cX9_span 152 = .ok (.iaload, 1) := by decide +kernel
theorem dX9_span_153 : decode cX9_span 153 = .ok (.ifCond .le 7, 3) := by decide +kernel
theorem dX9_span_156 : decode cX9_span 156 = .ok (.iconst 1, 1) := by decide +kernel
theorem dX9_span_157 : decode cX9_span 157 = .ok (.goto 4, 3) := by decide +kernel
theorem dX9_span_160 : decode cX9_span 160 = .ok (.iconst 0, 1) := by decide +kernel
theorem dX9_span_161 : decode cX9_span 161 = .ok (.iadd, 1) := by decide +kernel
theorem dX9_span_162 : decode cX9_span 162 = .ok (.istore 9, 2) := by decide +kernel
theorem dX9_span_164 : decode cX9_span 164 = .ok (.iinc 10 1, 3) := by decide +kernel
theorem dX9_span_167 : decode cX9_span 167 = .ok (.goto (-105), 3) := by decide +kernel
theorem dX9_span_170 : decode cX9_span 170 = .ok (.iload 5, 2) := by decide +kernel
theorem dX9_span_172 : decode cX9_span 172 = .ok (.lookupswitch 34 #[(0, 28), (1, 31)], 28) := by decide +kernel
theorem dX9_span_200 : decode cX9_span 200 = .ok (.iload 7, 2) := by decide +kernel
theorem dX9_span_202 : decode cX9_span 202 = .ok (.ireturn, 1) := by decide +kernel
theorem dX9_span_203 : decode cX9_span 203 = .ok (.iload 8, 2) := by decide +kernel
theorem dX9_span_205 : decode cX9_span 205 = .ok (.ireturn, 1) := by decide +kernel
theorem dX9_span_206 : decode cX9_span 206 = .ok (.iload 9, 2) := by decide +kernel
theorem dX9_span_208 : decode cX9_span 208 = .ok (.ireturn, 1) := by decide +kernel
theorem dX9_image_0 : decode cX9_image 0 = .ok (.aload_n 0, 1) := by decide +kernel
theorem dX9_image_1 : decode cX9_image 1 = .ok (.getfield 91, 3) := by decide +kernel
theorem dX9_image_4 : decode cX9_image 4 = .ok (.iconst 3, 1) := by decide +kernel
theorem dX9_image_5 : decode cX9_image 5 = .ok (.if_icmp .lt 5, 3) := by decide +kernel
theorem dX9_image_8 : decode cX9_image 8 = .ok (.iconst (-1), 1) := by decide +kernel
theorem dX9_image_9 : decode cX9_image 9 = .ok (.ireturn, 1) := by decide +kernel
theorem dX9_image_10 : decode cX9_image 10 = .ok (.aload_n 0, 1) := by decide +kernel
theorem dX9_image_11 : decode cX9_image 11 = .ok (.getfield 49, 3) := by decide +kernel
theorem dX9_image_14 : decode cX9_image 14 = .ok (.aload_n 0, 1) := by decide +kernel
theorem dX9_image_15 : decode cX9_image 15 = .ok (.getfield 91, 3) := by decide +kernel
theorem dX9_image_18 : decode cX9_image 18 = .ok (.new 47, 3) := by decide +kernel
theorem dX9_image_21 : decode cX9_image 21 = .ok (.dup, 1) := by decide +kernel
theorem dX9_image_22 : decode cX9_image 22 = .ok (.aload_n 0, 1) := by decide +kernel
theorem dX9_image_23 : decode cX9_image 23 = .ok (.getfield 19, 3) := by decide +kernel
theorem dX9_image_26 : decode cX9_image 26 = .ok (.aload_n 0, 1) := by decide +kernel
theorem dX9_image_27 : decode cX9_image 27 = .ok (.getfield 87, 3) := by decide +kernel
theorem dX9_image_30 : decode cX9_image 30 = .ok (.aload_n 0, 1) := by decide +kernel
theorem dX9_image_31 : decode cX9_image 31 = .ok (.invokevirtual 153, 3) := by decide +kernel
theorem dX9_image_34 : decode cX9_image 34 = .ok (.invokespecial 159, 3) := by decide +kernel
theorem dX9_image_37 : decode cX9_image 37 = .ok (.aastore, 1) := by decide +kernel
theorem dX9_image_38 : decode cX9_image 38 = .ok (.aload_n 0, 1) := by decide +kernel
theorem dX9_image_39 : decode cX9_image 39 = .ok (.dup, 1) := by decide +kernel
theorem dX9_image_40 : decode cX9_image 40 = .ok (.getfield 91, 3) := by decide +kernel
theorem dX9_image_43 : decode cX9_image 43 = .ok (.iconst 1, 1) := by decide +kernel
theorem dX9_image_44 : decode cX9_image 44 = .ok (.iadd, 1) := by decide +kernel
theorem dX9_image_45 : decode cX9_image 45 = .ok (.putfield 91, 3) := by decide +kernel
theorem dX9_image_48 : decode cX9_image 48 = .ok (.aload_n 0, 1) := by decide +kernel
theorem dX9_image_49 : decode cX9_image 49 = .ok (.getfield 91, 3) := by decide +kernel
theorem dX9_image_52 : decode cX9_image 52 = .ok (.ireturn, 1) := by decide +kernel
theorem dX9_restore_0 : decode cX9_restore 0 = .ok (.aload_n 0, 1) := by decide +kernel
theorem dX9_restore_1 : decode cX9_restore 1 = .ok (.getfield 91, 3) := by decide +kernel
theorem dX9_restore_4 : decode cX9_restore 4 = .ok (.ifCond .le 11, 3) := by decide +kernel
theorem dX9_restore_7 : decode cX9_restore 7 = .ok (.aload_n 0, 1) := by decide +kernel
theorem dX9_restore_8 : decode cX9_restore 8 = .ok (.getfield 91, 3) := by decide +kernel
theorem dX9_restore_11 : decode cX9_restore 11 = .ok (.iconst 3, 1) := by decide +kernel
theorem dX9_restore_12 : decode cX9_restore 12 = .ok (.if_icmp .le 5, 3) := by decide +kernel
theorem dX9_restore_15 : decode cX9_restore 15 = .ok (.iconst (-1), 1) := by decide +kernel
theorem dX9_restore_16 : decode cX9_restore 16 = .ok (.ireturn, 1) := by decide +kernel
theorem dX9_restore_17 : decode cX9_restore 17 = .ok (.aload_n 0, 1) := by decide +kernel
theorem dX9_restore_18 : decode cX9_restore 18 = .ok (.getfield 49, 3) := by decide +kernel
theorem dX9_restore_21 : decode cX9_restore 21 = .ok (.aload_n 0, 1) := by decide +kernel
theorem dX9_restore_22 : decode cX9_restore 22 = .ok (.getfield 91, 3) := by decide +kernel
theorem dX9_restore_25 : decode cX9_restore 25 = .ok (.iconst 1, 1) := by decide +kernel
theorem dX9_restore_26 : decode cX9_restore 26 = .ok (.isub, 1) := by decide +kernel
theorem dX9_restore_27 : decode cX9_restore 27 = .ok (.aaload, 1) := by decide +kernel
theorem dX9_restore_28 : decode cX9_restore 28 = .ok (.astore_n 1, 1) := by decide +kernel
theorem dX9_restore_29 : decode cX9_restore 29 = .ok (.aload_n 1, 1) := by decide +kernel
theorem dX9_restore_30 : decode cX9_restore 30 = .ok (.ifnonnull 5, 3) := by decide +kernel
theorem dX9_restore_33 : decode cX9_restore 33 = .ok (.iconst (-1), 1) := by decide +kernel
theorem dX9_restore_34 : decode cX9_restore 34 = .ok (.ireturn, 1) := by decide +kernel
theorem dX9_restore_35 : decode cX9_restore 35 = .ok (.aload_n 0, 1) := by decide +kernel
theorem dX9_restore_36 : decode cX9_restore 36 = .ok (.dup, 1) := by decide +kernel
theorem dX9_restore_37 : decode cX9_restore 37 = .ok (.getfield 91, 3) := by decide +kernel
theorem dX9_restore_40 : decode cX9_restore 40 = .ok (.iconst 1, 1) := by decide +kernel
theorem dX9_restore_41 : decode cX9_restore 41 = .ok (.isub, 1) := by decide +kernel
theorem dX9_restore_42 : decode cX9_restore 42 = .ok (.putfield 91, 3) := by decide +kernel
theorem dX9_restore_45 : decode cX9_restore 45 = .ok (.aload_n 0, 1) := by decide +kernel
theorem dX9_restore_46 : decode cX9_restore 46 = .ok (.getfield 49, 3) := by decide +kernel
theorem dX9_restore_49 : decode cX9_restore 49 = .ok (.aload_n 0, 1) := by decide +kernel
theorem dX9_restore_50 : decode cX9_restore 50 = .ok (.getfield 91, 3) := by decide +kernel
theorem dX9_restore_53 : decode cX9_restore 53 = .ok (.aconst_null, 1) := by decide +kernel
theorem dX9_restore_54 : decode cX9_restore 54 = .ok (.aastore, 1) := by decide +kernel
theorem dX9_restore_55 : decode cX9_restore 55 = .ok (.aload_n 0, 1) := by decide +kernel
theorem dX9_restore_56 : decode cX9_restore 56 = .ok (.getfield 19, 3) := by decide +kernel
theorem dX9_restore_59 : decode cX9_restore 59 = .ok (.aload_n 1, 1) := by decide +kernel
theorem dX9_restore_60 : decode cX9_restore 60 = .ok (.getfield 181, 3) := by decide +kernel
theorem dX9_restore_63 : decode cX9_restore 63 = .ok (.invokevirtual 184, 3) := by decide +kernel
theorem dX9_restore_66 : decode cX9_restore 66 = .ok (.aload_n 0, 1) := by decide +kernel
theorem dX9_restore_67 : decode cX9_restore 67 = .ok (.aload_n 1, 1) := by decide +kernel
theorem dX9_restore_68 : decode cX9_restore 68 = .ok (.getfield 188, 3) := by decide +kernel
theorem dX9_restore_71 : decode cX9_restore 71 = .ok (.putfield 87, 3) := by decide +kernel
theorem dX9_restore_74 : decode cX9_restore 74 = .ok (.aload_n 0, 1) := by decide +kernel
theorem dX9_restore_75 : decode cX9_restore 75 = .ok (.iconst 0, 1) := by decide +kernel
theorem dX9_restore_76 : decode cX9_restore 76 = .ok (.putfield 95, 3) := by decide +kernel
theorem dX9_restore_79 : decode cX9_restore 79 = .ok (.aload_n 0, 1) := by decide +kernel
theorem dX9_restore_80 : decode cX9_restore 80 = .ok (.getfield 91, 3) := by decide +kernel
theorem dX9_restore_83 : decode cX9_restore 83 = .ok (.ireturn, 1) := by decide +kernel
theorem dX9_status_0 : decode cX9_status 0 = .ok (.iload_n 1, 1) := by decide +kernel
theorem dX9_status_1 : decode cX9_status 1 = .ok (.lookupswitch 37 #[(0, 27), (1, 32)], 27) := by decide +kernel
theorem dX9_status_28 : decode cX9_status 28 = .ok (.aload_n 0, 1) := by decide +kernel
theorem dX9_status_29 : decode cX9_status 29 = .ok (.getfield 98, 3) := by decide +kernel
theorem dX9_status_32 : decode cX9_status 32 = .ok (.ireturn, 1) := by decide +kernel
theorem dX9_status_33 : decode cX9_status 33 = .ok (.aload_n 0, 1) := by decide +kernel
theorem dX9_status_34 : decode cX9_status 34 = .ok (.getfield 101, 3) := by decide +kernel
theorem dX9_status_37 : decode cX9_status 37 = .ok (.ireturn, 1) := by decide +kernel
theorem dX9_status_38 : decode cX9_status 38 = .ok (.iconst (-1), 1) := by decide +kernel
theorem dX9_status_39 : decode cX9_status 39 = .ok (.ireturn, 1) := by decide +kernel
theorem dX9_count_0 : decode cX9_count 0 = .ok (.iload_n 1, 1) := by decide +kernel
theorem dX9_count_1 : decode cX9_count 1 = .ok (.tableswitch 45 0 2 #[27, 32, 40], 27) := by decide +kernel
theorem dX9_count_28 : decode cX9_count 28 = .ok (.aload_n 0, 1) := by decide +kernel
theorem dX9_count_29 : decode cX9_count 29 = .ok (.getfield 91, 3) := by decide +kernel
theorem dX9_count_32 : decode cX9_count 32 = .ok (.ireturn, 1) := by decide +kernel
theorem dX9_count_33 : decode cX9_count 33 = .ok (.aload_n 0, 1) := by decide +kernel
theorem dX9_count_34 : decode cX9_count 34 = .ok (.getfield 10, 3) := by decide +kernel
theorem dX9_count_37 : decode cX9_count 37 = .ok (.getfield 112, 3) := by decide +kernel
theorem dX9_count_40 : decode cX9_count 40 = .ok (.ireturn, 1) := by decide +kernel
theorem dX9_count_41 : decode cX9_count 41 = .ok (.aload_n 0, 1) := by decide +kernel
theorem dX9_count_42 : decode cX9_count 42 = .ok (.invokevirtual 153, 3) := by decide +kernel
theorem dX9_count_45 : decode cX9_count 45 = .ok (.ireturn, 1) := by decide +kernel
theorem dX9_count_46 : decode cX9_count 46 = .ok (.iconst (-1), 1) := by decide +kernel
theorem dX9_count_47 : decode cX9_count 47 = .ok (.ireturn, 1) := by decide +kernel
theorem dX9_needRange_0 : decode cX9_needRange 0 = .ok (.iload_n 1, 1) := by decide +kernel
theorem dX9_needRange_1 : decode cX9_needRange 1 = .ok (.iload_n 2, 1) := by decide +kernel
theorem dX9_needRange_2 : decode cX9_needRange 2 = .ok (.if_icmp .lt 8, 3) := by decide +kernel
theorem dX9_needRange_5 : decode cX9_needRange 5 = .ok (.iload_n 1, 1) := by decide +kernel
theorem dX9_needRange_6 : decode cX9_needRange 6 = .ok (.iload_n 3, 1) := by decide +kernel
theorem dX9_needRange_7 : decode cX9_needRange 7 = .ok (.if_icmp .le 21, 3) := by decide +kernel
theorem dX9_needRange_10 : decode cX9_needRange 10 = .ok (.aload_n 0, 1) := by decide +kernel
theorem dX9_needRange_11 : decode cX9_needRange 11 = .ok (.dup, 1) := by decide +kernel
theorem dX9_needRange_12 : decode cX9_needRange 12 = .ok (.getfield 101, 3) := by decide +kernel
theorem dX9_needRange_15 : decode cX9_needRange 15 = .ok (.iconst 1, 1) := by decide +kernel
theorem dX9_needRange_16 : decode cX9_needRange 16 = .ok (.iadd, 1) := by decide +kernel
theorem dX9_needRange_17 : decode cX9_needRange 17 = .ok (.putfield 101, 3) := by decide +kernel
theorem dX9_needRange_20 : decode cX9_needRange 20 = .ok (.new 368, 3) := by decide +kernel
theorem dX9_needRange_23 : decode cX9_needRange 23 = .ok (.dup, 1) := by decide +kernel
theorem dX9_needRange_24 : decode cX9_needRange 24 = .ok (.invokespecial 370, 3) := by decide +kernel
theorem dX9_needRange_27 : decode cX9_needRange 27 = .ok (.athrow, 1) := by decide +kernel
theorem dX9_needRange_28 : decode cX9_needRange 28 = .ok (.return_, 1) := by decide +kernel
theorem dX9_needPlace_0 : decode cX9_needPlace 0 = .ok (.iload_n 1, 1) := by decide +kernel
theorem dX9_needPlace_1 : decode cX9_needPlace 1 = .ok (.ifCond .ge 21, 3) := by decide +kernel
theorem dX9_needPlace_4 : decode cX9_needPlace 4 = .ok (.aload_n 0, 1) := by decide +kernel
theorem dX9_needPlace_5 : decode cX9_needPlace 5 = .ok (.dup, 1) := by decide +kernel
theorem dX9_needPlace_6 : decode cX9_needPlace 6 = .ok (.getfield 101, 3) := by decide +kernel
theorem dX9_needPlace_9 : decode cX9_needPlace 9 = .ok (.iconst 1, 1) := by decide +kernel
theorem dX9_needPlace_10 : decode cX9_needPlace 10 = .ok (.iadd, 1) := by decide +kernel
theorem dX9_needPlace_11 : decode cX9_needPlace 11 = .ok (.putfield 101, 3) := by decide +kernel
theorem dX9_needPlace_14 : decode cX9_needPlace 14 = .ok (.new 368, 3) := by decide +kernel
theorem dX9_needPlace_17 : decode cX9_needPlace 17 = .ok (.dup, 1) := by decide +kernel
theorem dX9_needPlace_18 : decode cX9_needPlace 18 = .ok (.invokespecial 370, 3) := by decide +kernel
theorem dX9_needPlace_21 : decode cX9_needPlace 21 = .ok (.athrow, 1) := by decide +kernel
theorem dX9_needPlace_22 : decode cX9_needPlace 22 = .ok (.return_, 1) := by decide +kernel
theorem dX9_needOneOf_0 : decode cX9_needOneOf 0 = .ok (.iload_n 1, 1) := by decide +kernel
theorem dX9_needOneOf_1 : decode cX9_needOneOf 1 = .ok (.ifCond .lt 8, 3) := by decide +kernel
theorem dX9_needOneOf_4 : decode cX9_needOneOf 4 = .ok (.iload_n 1, 1) := by decide +kernel
theorem dX9_needOneOf_5 : decode cX9_needOneOf 5 = .ok (.iload_n 2, 1) := by decide +kernel
theorem dX9_needOneOf_6 : decode cX9_needOneOf 6 = .ok (.if_icmp .lt 21, 3) := by decide +kernel
theorem dX9_needOneOf_9 : decode cX9_needOneOf 9 = .ok (.aload_n 0, 1) := by decide +kernel
theorem dX9_needOneOf_10 : decode cX9_needOneOf 10 = .ok (.dup, 1) := by decide +kernel
theorem dX9_needOneOf_11 : decode cX9_needOneOf 11 = .ok (.getfield 98, 3) := by decide +kernel
theorem dX9_needOneOf_14 : decode cX9_needOneOf 14 = .ok (.iconst 1, 1) := by decide +kernel
theorem dX9_needOneOf_15 : decode cX9_needOneOf 15 = .ok (.iadd, 1) := by decide +kernel
theorem dX9_needOneOf_16 : decode cX9_needOneOf 16 = .ok (.putfield 98, 3) := by decide +kernel
theorem dX9_needOneOf_19 : decode cX9_needOneOf 19 = .ok (.new 371, 3) := by decide +kernel
theorem dX9_needOneOf_22 : decode cX9_needOneOf 22 = .ok (.dup, 1) := by decide +kernel
theorem dX9_needOneOf_23 : decode cX9_needOneOf 23 = .ok (.invokespecial 373, 3) := by decide +kernel
theorem dX9_needOneOf_26 : decode cX9_needOneOf 26 = .ok (.athrow, 1) := by decide +kernel
theorem dX9_needOneOf_27 : decode cX9_needOneOf 27 = .ok (.return_, 1) := by decide +kernel
theorem dX9_needText_0 : decode cX9_needText 0 = .ok (.aload_n 0, 1) := by decide +kernel
theorem dX9_needText_1 : decode cX9_needText 1 = .ok (.iload_n 1, 1) := by decide +kernel
theorem dX9_needText_2 : decode cX9_needText 2 = .ok (.iconst 0, 1) := by decide +kernel
theorem dX9_needText_3 : decode cX9_needText 3 = .ok (.iload_n 2, 1) := by decide +kernel
theorem dX9_needText_4 : decode cX9_needText 4 = .ok (.aload_n 0, 1) := by decide +kernel
theorem dX9_needText_5 : decode cX9_needText 5 = .ok (.getfield 10, 3) := by decide +kernel
theorem dX9_needText_8 : decode cX9_needText 8 = .ok (.getfield 112, 3) := by decide +kernel
theorem dX9_needText_11 : decode cX9_needText 11 = .ok (.invokestatic 341, 3) := by decide +kernel
theorem dX9_needText_14 : decode cX9_needText 14 = .ok (.invokevirtual 191, 3) := by decide +kernel
theorem dX9_needText_17 : decode cX9_needText 17 = .ok (.return_, 1) := by decide +kernel
theorem dX9_worksLeft_0 : decode cX9_worksLeft 0 = .ok (.aload_n 0, 1) := by decide +kernel
theorem dX9_worksLeft_1 : decode cX9_worksLeft 1 = .ok (.getfield 87, 3) := by decide +kernel
theorem dX9_worksLeft_4 : decode cX9_worksLeft 4 = .ok (.ifnonnull 7, 3) := by decide +kernel
theorem dX9_worksLeft_7 : decode cX9_worksLeft 7 = .ok (.iconst 0, 1) := by decide +kernel
theorem dX9_worksLeft_8 : decode cX9_worksLeft 8 = .ok (.goto 10, 3) := by decide +kernel
theorem dX9_worksLeft_11 : decode cX9_worksLeft 11 = .ok (.aload_n 0, 1) := by decide +kernel
theorem dX9_worksLeft_12 : decode cX9_worksLeft 12 = .ok (.getfield 87, 3) := by decide +kernel
theorem dX9_worksLeft_15 : decode cX9_worksLeft 15 = .ok (.getfield 374, 3) := by decide +kernel
theorem dX9_worksLeft_18 : decode cX9_worksLeft 18 = .ok (.ireturn, 1) := by decide +kernel
theorem dX9_forgetImages_0 : decode cX9_forgetImages 0 = .ok (.iconst 0, 1) := by decide +kernel
theorem dX9_forgetImages_1 : decode cX9_forgetImages 1 = .ok (.istore_n 1, 1) := by decide +kernel
theorem dX9_forgetImages_2 : decode cX9_forgetImages 2 = .ok (.iload_n 1, 1) := by decide +kernel
theorem dX9_forgetImages_3 : decode cX9_forgetImages 3 = .ok (.iconst 3, 1) := by decide +kernel
theorem dX9_forgetImages_4 : decode cX9_forgetImages 4 = .ok (.if_icmp .ge 16, 3) := by decide +kernel
theorem dX9_forgetImages_7 : decode cX9_forgetImages 7 = .ok (.aload_n 0, 1) := by decide +kernel
theorem dX9_forgetImages_8 : decode cX9_forgetImages 8 = .ok (.getfield 49, 3) := by decide +kernel
theorem dX9_forgetImages_11 : decode cX9_forgetImages 11 = .ok (.iload_n 1, 1) := by decide +kernel
theorem dX9_forgetImages_12 : decode cX9_forgetImages 12 = .ok (.aconst_null, 1) := by decide +kernel
theorem dX9_forgetImages_13 : decode cX9_forgetImages 13 = .ok (.aastore, 1) := by decide +kernel
theorem dX9_forgetImages_14 : decode cX9_forgetImages 14 = .ok (.iinc 1 1, 3) := by decide +kernel
theorem dX9_forgetImages_17 : decode cX9_forgetImages 17 = .ok (.goto (-15), 3) := by decide +kernel
theorem dX9_forgetImages_20 : decode cX9_forgetImages 20 = .ok (.aload_n 0, 1) := by decide +kernel
theorem dX9_forgetImages_21 : decode cX9_forgetImages 21 = .ok (.iconst 0, 1) := by decide +kernel
theorem dX9_forgetImages_22 : decode cX9_forgetImages 22 = .ok (.putfield 91, 3) := by decide +kernel
theorem dX9_forgetImages_25 : decode cX9_forgetImages 25 = .ok (.return_, 1) := by decide +kernel
theorem dX9_fewestBeds_0 : decode cX9_fewestBeds 0 = .ok (.iconst 0, 1) := by decide +kernel
theorem dX9_fewestBeds_1 : decode cX9_fewestBeds 1 = .ok (.istore_n 2, 1) := by decide +kernel
theorem dX9_fewestBeds_2 : decode cX9_fewestBeds 2 = .ok (.iload_n 2, 1) := by decide +kernel
theorem dX9_fewestBeds_3 : decode cX9_fewestBeds 3 = .ok (.aload_n 0, 1) := by decide +kernel
theorem dX9_fewestBeds_4 : decode cX9_fewestBeds 4 = .ok (.getfield 60, 3) := by decide +kernel
theorem dX9_fewestBeds_7 : decode cX9_fewestBeds 7 = .ok (.getfield 169, 3) := by decide +kernel
theorem dX9_fewestBeds_10 : decode cX9_fewestBeds 10 = .ok (.if_icmp .ge 23, 3) := by decide +kernel
theorem dX9_fewestBeds_13 : decode cX9_fewestBeds 13 = .ok (.aload_n 0, 1) := by decide +kernel
theorem dX9_fewestBeds_14 : decode cX9_fewestBeds 14 = .ok (.getfield 53, 3) := by decide +kernel
theorem dX9_fewestBeds_17 : decode cX9_fewestBeds 17 = .ok (.iload_n 2, 1) := by decide +kernel
theorem dX9_fewestBeds_18 : decode cX9_fewestBeds 18 = .ok (.aload_n 0, 1) := by decide +kernel
theorem dX9_fewestBeds_19 : decode cX9_fewestBeds 19 = .ok (.getfield 19, 3) := by decide +kernel
theorem dX9_fewestBeds_22 : decode cX9_fewestBeds 22 = .ok (.iload_n 2, 1) := by decide +kernel
theorem dX9_fewestBeds_23 : decode cX9_fewestBeds 23 = .ok (.invokevirtual 250, 3) := by decide +kernel
theorem dX9_fewestBeds_26 : decode cX9_fewestBeds 26 = .ok (.iastore, 1) := by decide +kernel
theorem dX9_fewestBeds_27 : decode cX9_fewestBeds 27 = .ok (.iinc 2 1, 3) := by decide +kernel
theorem dX9_fewestBeds_30 : decode cX9_fewestBeds 30 = .ok (.goto (-28), 3) := by decide +kernel
theorem dX9_fewestBeds_33 : decode cX9_fewestBeds 33 = .ok (.iconst (-1), 1) := by decide +kernel
theorem dX9_fewestBeds_34 : decode cX9_fewestBeds 34 = .ok (.istore_n 2, 1) := by decide +kernel
theorem dX9_fewestBeds_35 : decode cX9_fewestBeds 35 = .ok (.bipush 7, 2) := by decide +kernel
theorem dX9_fewestBeds_37 : decode cX9_fewestBeds 37 = .ok (.istore_n 3, 1) := by decide +kernel
theorem dX9_fewestBeds_38 : decode cX9_fewestBeds 38 = .ok (.iconst 0, 1) := by decide +kernel
theorem dX9_fewestBeds_39 : decode cX9_fewestBeds 39 = .ok (.istore 4, 2) := by decide +kernel
theorem dX9_fewestBeds_41 : decode cX9_fewestBeds 41 = .ok (.iload 4, 2) := by decide +kernel
theorem dX9_fewestBeds_43 : decode cX9_fewestBeds 43 = .ok (.iconst 1, 1) := by decide +kernel
theorem dX9_fewestBeds_44 : decode cX9_fewestBeds 44 = .ok (.aload_n 0, 1) := by decide +kernel
theorem dX9_fewestBeds_45 : decode cX9_fewestBeds 45 = .ok (.getfield 60, 3) := by decide +kernel
theorem dX9_fewestBeds_48 : decode cX9_fewestBeds 48 = .ok (.getfield 169, 3) := by decide +kernel
theorem dX9_fewestBeds_51 : decode cX9_fewestBeds 51 = .ok (.ishl, 1) := by decide +kernel
theorem dX9_fewestBeds_52 : decode cX9_fewestBeds 52 = .ok (.if_icmp .ge 84, 3) := by decide +kernel
theorem dX9_fewestBeds_55 : decode cX9_fewestBeds 55 = .ok (.iload_n 1, 1) := by decide +kernel
theorem dX9_fewestBeds_56 : decode cX9_fewestBeds 56 = .ok (.istore 5, 2) := by decide +kernel
theorem dX9_fewestBeds_58 : decode cX9_fewestBeds 58 = .ok (.iconst 0, 1) := by decide +kernel
theorem dX9_fewestBeds_59 : decode cX9_fewestBeds 59 = .ok (.istore 6, 2) := by decide +kernel
theorem dX9_fewestBeds_61 : decode cX9_fewestBeds 61 = .ok (.iload 6, 2) := by decide +kernel
theorem dX9_fewestBeds_63 : decode cX9_fewestBeds 63 = .ok (.aload_n 0, 1) := by decide +kernel
theorem dX9_fewestBeds_64 : decode cX9_fewestBeds 64 = .ok (.getfield 60, 3) := by decide +kernel
theorem dX9_fewestBeds_67 : decode cX9_fewestBeds 67 = .ok (.getfield 169, 3) := by decide +kernel
theorem dX9_fewestBeds_70 : decode cX9_fewestBeds 70 = .ok (.if_icmp .ge 37, 3) := by decide +kernel
theorem dX9_fewestBeds_73 : decode cX9_fewestBeds 73 = .ok (.iload 5, 2) := by decide +kernel
theorem dX9_fewestBeds_75 : decode cX9_fewestBeds 75 = .ok (.iload 4, 2) := by decide +kernel
theorem dX9_fewestBeds_77 : decode cX9_fewestBeds 77 = .ok (.iload 6, 2) := by decide +kernel
theorem dX9_fewestBeds_79 : decode cX9_fewestBeds 79 = .ok (.invokestatic 286, 3) := by decide +kernel
theorem dX9_fewestBeds_82 : decode cX9_fewestBeds 82 = .ok (.ifCond .eq 15, 3) := by decide +kernel
theorem dX9_fewestBeds_85 : decode cX9_fewestBeds 85 = .ok (.aload_n 0, 1) := by decide +kernel
theorem dX9_fewestBeds_86 : decode cX9_fewestBeds 86 = .ok (.getfield 53, 3) := by decide +kernel
theorem dX9_fewestBeds_89 : decode cX9_fewestBeds 89 = .ok (.iload 6, 2) := by decide +kernel
theorem dX9_fewestBeds_91 : decode cX9_fewestBeds 91 = .ok (.iaload, 1) := by decide +kernel
theorem dX9_fewestBeds_92 : decode cX9_fewestBeds 92 = .ok (.iconst (-1), 1) := by decide +kernel
theorem dX9_fewestBeds_93 : decode cX9_fewestBeds 93 = .ok (.ixor, 1) := by decide +kernel
theorem dX9_fewestBeds_94 : decode cX9_fewestBeds 94 = .ok (.goto 4, 3) := by decide +kernel
theorem dX9_fewestBeds_97 : decode cX9_fewestBeds 97 = .ok (.iconst (-1), 1) := by decide +kernel
theorem dX9_fewestBeds_98 : decode cX9_fewestBeds 98 = .ok (.iand, 1) := by decide +kernel
theorem dX9_fewestBeds_99 : decode cX9_fewestBeds 99 = .ok (.istore 5, 2) := by decide +kernel
theorem dX9_fewestBeds_101 : decode cX9_fewestBeds 101 = .ok (.iinc 6 1, 3) := by decide +kernel
theorem dX9_fewestBeds_104 : decode cX9_fewestBeds 104 = .ok (.goto (-43), 3) := by decide +kernel
theorem dX9_fewestBeds_107 : decode cX9_fewestBeds 107 = .ok (.iload 5, 2) := by decide +kernel
theorem dX9_fewestBeds_109 : decode cX9_fewestBeds 109 = .ok (.ifCond .ne 21, 3) := by decide +kernel
theorem dX9_fewestBeds_112 : decode cX9_fewestBeds 112 = .ok (.iload 4, 2) := by decide +kernel
theorem dX9_fewestBeds_114 : decode cX9_fewestBeds 114 = .ok (.invokestatic 353, 3) := by decide +kernel
theorem dX9_fewestBeds_117 : decode cX9_fewestBeds 117 = .ok (.iload_n 3, 1) := by decide +kernel
theorem dX9_fewestBeds_118 : decode cX9_fewestBeds 118 = .ok (.if_icmp .ge 12, 3) := by decide +kernel
theorem dX9_fewestBeds_121 : decode cX9_fewestBeds 121 = .ok (.iload 4, 2) := by decide +kernel
theorem dX9_fewestBeds_123 : decode cX9_fewestBeds 123 = .ok (.istore_n 2, 1) := by decide +kernel
theorem dX9_fewestBeds_124 : decode cX9_fewestBeds 124 = .ok (.iload 4, 2) := by decide +kernel
theorem dX9_fewestBeds_126 : decode cX9_fewestBeds 126 = .ok (.invokestatic 353, 3) := by decide +kernel
theorem dX9_fewestBeds_129 : decode cX9_fewestBeds 129 = .ok (.istore_n 3, 1) := by decide +kernel
theorem dX9_fewestBeds_130 : decode cX9_fewestBeds 130 = .ok (.iinc 4 1, 3) := by decide +kernel
theorem dX9_fewestBeds_133 : decode cX9_fewestBeds 133 = .ok (.goto (-92), 3) := by decide +kernel
theorem dX9_fewestBeds_136 : decode cX9_fewestBeds 136 = .ok (.iload_n 2, 1) := by decide +kernel
theorem dX9_fewestBeds_137 : decode cX9_fewestBeds 137 = .ok (.ireturn, 1) := by decide +kernel
theorem dX9_mostLeftBy_0 : decode cX9_mostLeftBy 0 = .ok (.iconst 0, 1) := by decide +kernel
theorem dX9_mostLeftBy_1 : decode cX9_mostLeftBy 1 = .ok (.istore_n 2, 1) := by decide +kernel
theorem dX9_mostLeftBy_2 : decode cX9_mostLeftBy 2 = .ok (.iload_n 2, 1) := by decide +kernel
theorem dX9_mostLeftBy_3 : decode cX9_mostLeftBy 3 = .ok (.bipush 16, 2) := by decide +kernel
theorem dX9_mostLeftBy_5 : decode cX9_mostLeftBy 5 = .ok (.if_icmp .gt 16, 3) := by decide +kernel
theorem dX9_mostLeftBy_8 : decode cX9_mostLeftBy 8 = .ok (.aload_n 0, 1) := by decide +kernel
theorem dX9_mostLeftBy_9 : decode cX9_mostLeftBy 9 = .ok (.getfield 53, 3) := by decide +kernel
theorem dX9_mostLeftBy_12 : decode cX9_mostLeftBy 12 = .ok (.iload_n 2, 1) := by decide +kernel
theorem dX9_mostLeftBy_13 : decode cX9_mostLeftBy 13 = .ok (.iconst 0, 1) := by decide +kernel
theorem dX9_mostLeftBy_14 : decode cX9_mostLeftBy 14 = .ok (.iastore, 1) := by decide +kernel
theorem dX9_mostLeftBy_15 : decode cX9_mostLeftBy 15 = .ok (.iinc 2 1, 3) := by decide +kernel
theorem dX9_mostLeftBy_18 : decode cX9_mostLeftBy 18 = .ok (.goto (-16), 3) := by decide +kernel
theorem dX9_mostLeftBy_21 : decode cX9_mostLeftBy 21 = .ok (.iconst 0, 1) := by decide +kernel
theorem dX9_mostLeftBy_22 : decode cX9_mostLeftBy 22 = .ok (.istore_n 2, 1) := by decide +kernel
theorem dX9_mostLeftBy_23 : decode cX9_mostLeftBy 23 = .ok (.iconst 0, 1) := by decide +kernel
theorem dX9_mostLeftBy_24 : decode cX9_mostLeftBy 24 = .ok (.istore_n 3, 1) := by decide +kernel
theorem dX9_mostLeftBy_25 : decode cX9_mostLeftBy 25 = .ok (.iload_n 3, 1) := by decide +kernel
theorem dX9_mostLeftBy_26 : decode cX9_mostLeftBy 26 = .ok (.aload_n 0, 1) := by decide +kernel
theorem dX9_mostLeftBy_27 : decode cX9_mostLeftBy 27 = .ok (.getfield 60, 3) := by decide +kernel
theorem dX9_mostLeftBy_30 : decode cX9_mostLeftBy 30 = .ok (.getfield 149, 3) := by decide +kernel
theorem dX9_mostLeftBy_33 : decode cX9_mostLeftBy 33 = .ok (.if_icmp .ge 98, 3) := by decide +kernel
theorem dX9_mostLeftBy_36 : decode cX9_mostLeftBy 36 = .ok (.iconst 1, 1) := by decide +kernel
theorem dX9_mostLeftBy_37 : decode cX9_mostLeftBy 37 = .ok (.istore 4, 2) := by decide +kernel
theorem dX9_mostLeftBy_39 : decode cX9_mostLeftBy 39 = .ok (.iload 4, 2) := by decide +kernel
theorem dX9_mostLeftBy_41 : decode cX9_mostLeftBy 41 = .ok (.bipush 9, 2) := by decide +kernel
theorem dX9_mostLeftBy_43 : decode cX9_mostLeftBy 43 = .ok (.if_icmp .gt 82, 3) := by decide +kernel
theorem dX9_mostLeftBy_46 : decode cX9_mostLeftBy 46 = .ok (.aload_n 0, 1) := by decide +kernel
theorem dX9_mostLeftBy_47 : decode cX9_mostLeftBy 47 = .ok (.getfield 80, 3) := by decide +kernel
theorem dX9_mostLeftBy_50 : decode cX9_mostLeftBy 50 = .ok (.aload_n 0, 1) := by decide +kernel
theorem dX9_mostLeftBy_51 : decode cX9_mostLeftBy 51 = .ok (.getfield 19, 3) := by decide +kernel
theorem dX9_mostLeftBy_54 : decode cX9_mostLeftBy 54 = .ok (.aload_n 0, 1) := by decide +kernel
theorem dX9_mostLeftBy_55 : decode cX9_mostLeftBy 55 = .ok (.getfield 60, 3) := by decide +kernel
theorem dX9_mostLeftBy_58 : decode cX9_mostLeftBy 58 = .ok (.iload_n 3, 1) := by decide +kernel
theorem dX9_mostLeftBy_59 : decode cX9_mostLeftBy 59 = .ok (.iload 4, 2) := by decide +kernel
theorem dX9_mostLeftBy_61 : decode cX9_mostLeftBy 61 = .ok (.invokevirtual 314, 3) := by decide +kernel
theorem dX9_mostLeftBy_64 : decode cX9_mostLeftBy 64 = .ok (.ifCond .eq 55, 3) := by decide +kernel
theorem dX9_mostLeftBy_67 : decode cX9_mostLeftBy 67 = .ok (.aload_n 0, 1) := by decide +kernel
theorem dX9_mostLeftBy_68 : decode cX9_mostLeftBy 68 = .ok (.getfield 19, 3) := by decide +kernel
theorem dX9_mostLeftBy_71 : decode cX9_mostLeftBy 71 = .ok (.aload_n 0, 1) := by decide +kernel
theorem dX9_mostLeftBy_72 : decode cX9_mostLeftBy 72 = .ok (.getfield 60, 3) := by decide +kernel
theorem dX9_mostLeftBy_75 : decode cX9_mostLeftBy 75 = .ok (.iload_n 1, 1) := by decide +kernel
theorem dX9_mostLeftBy_76 : decode cX9_mostLeftBy 76 = .ok (.iload_n 3, 1) := by decide +kernel
theorem dX9_mostLeftBy_77 : decode cX9_mostLeftBy 77 = .ok (.iload 4, 2) := by decide +kernel
theorem dX9_mostLeftBy_79 : decode cX9_mostLeftBy 79 = .ok (.invokevirtual 377, 3) := by decide +kernel
theorem dX9_mostLeftBy_82 : decode cX9_mostLeftBy 82 = .ok (.istore 5, 2) := by decide +kernel
theorem dX9_mostLeftBy_84 : decode cX9_mostLeftBy 84 = .ok (.iload 5, 2) := by decide +kernel
theorem dX9_mostLeftBy_86 : decode cX9_mostLeftBy 86 = .ok (.ifCond .lt 33, 3) := by decide +kernel
theorem dX9_mostLeftBy_89 : decode cX9_mostLeftBy 89 = .ok (.iload 5, 2) := by decide +kernel
theorem dX9_mostLeftBy_91 : decode cX9_mostLeftBy 91 = .ok (.bipush 16, 2) := by decide +kernel
theorem dX9_mostLeftBy_93 : decode cX9_mostLeftBy 93 = .ok (.if_icmp .gt 26, 3) := by decide +kernel
theorem dX9_mostLeftBy_96 : decode cX9_mostLeftBy 96 = .ok (.aload_n 0, 1) := by decide +kernel
theorem dX9_mostLeftBy_97 : decode cX9_mostLeftBy 97 = .ok (.getfield 53, 3) := by decide +kernel
theorem dX9_mostLeftBy_100 : decode cX9_mostLeftBy 100 = .ok (.iload 5, 2) := by decide +kernel
theorem dX9_mostLeftBy_102 : decode cX9_mostLeftBy 102 = .ok (.dup2, 1) := by decide +kernel
theorem dX9_mostLeftBy_103 : decode cX9_mostLeftBy 103 = .ok (.iaload, 1) := by decide +kernel
theorem dX9_mostLeftBy_104 : decode cX9_mostLeftBy 104 = .ok (.iconst 1, 1) := by decide +kernel
theorem dX9_mostLeftBy_105 : decode cX9_mostLeftBy 105 = .ok (.iadd, 1) := by decide +kernel
theorem dX9_mostLeftBy_106 : decode cX9_mostLeftBy 106 = .ok (.iastore, 1) := by decide +kernel
theorem dX9_mostLeftBy_107 : decode cX9_mostLeftBy 107 = .ok (.iload_n 2, 1) := by decide +kernel
theorem dX9_mostLeftBy_108 : decode cX9_mostLeftBy 108 = .ok (.aload_n 0, 1) := by decide +kernel
theorem dX9_mostLeftBy_109 : decode cX9_mostLeftBy 109 = .ok (.getfield 53, 3) := by decide +kernel
theorem dX9_mostLeftBy_112 : decode cX9_mostLeftBy 112 = .ok (.iload 5, 2) := by decide +kernel
theorem dX9_mostLeftBy_114 : decode cX9_mostLeftBy 114 = .ok (.iaload, 1) := by decide +kernel
theorem dX9_mostLeftBy_115 : decode cX9_mostLeftBy 115 = .ok (.invokestatic 365, 3) := by decide +kernel
theorem dX9_mostLeftBy_118 : decode cX9_mostLeftBy 118 = .ok (.istore_n 2, 1) := by decide +kernel
theorem dX9_mostLeftBy_119 : decode cX9_mostLeftBy 119 = .ok (.iinc 4 1, 3) := by decide +kernel
theorem dX9_mostLeftBy_122 : decode cX9_mostLeftBy 122 = .ok (.goto (-83), 3) := by decide +kernel
theorem dX9_mostLeftBy_125 : decode cX9_mostLeftBy 125 = .ok (.iinc 3 1, 3) := by decide +kernel
theorem dX9_mostLeftBy_128 : decode cX9_mostLeftBy 128 = .ok (.goto (-103), 3) := by decide +kernel
theorem dX9_mostLeftBy_131 : decode cX9_mostLeftBy 131 = .ok (.iload_n 2, 1) := by decide +kernel
theorem dX9_mostLeftBy_132 : decode cX9_mostLeftBy 132 = .ok (.ireturn, 1) := by decide +kernel
theorem dX9_givenBy_0 : decode cX9_givenBy 0 = .ok (.iconst 0, 1) := by decide +kernel
theorem dX9_givenBy_1 : decode cX9_givenBy 1 = .ok (.istore_n 3, 1) := by decide +kernel
theorem dX9_givenBy_2 : decode cX9_givenBy 2 = .ok (.iconst 0, 1) := by decide +kernel
theorem dX9_givenBy_3 : decode cX9_givenBy 3 = .ok (.istore 4, 2) := by decide +kernel
theorem dX9_givenBy_5 : decode cX9_givenBy 5 = .ok (.iload 4, 2) := by decide +kernel
theorem dX9_givenBy_7 : decode cX9_givenBy 7 = .ok (.aload_n 0, 1) := by decide +kernel
theorem dX9_givenBy_8 : decode cX9_givenBy 8 = .ok (.getfield 60, 3) := by decide +kernel
theorem dX9_givenBy_11 : decode cX9_givenBy 11 = .ok (.getfield 169, 3) := by decide +kernel
theorem dX9_givenBy_14 : decode cX9_givenBy 14 = .ok (.if_icmp .ge 39, 3) := by decide +kernel
theorem dX9_givenBy_17 : decode cX9_givenBy 17 = .ok (.iload_n 3, 1) := by decide +kernel
theorem dX9_givenBy_18 : decode cX9_givenBy 18 = .ok (.iload_n 2, 1) := by decide +kernel
theorem dX9_givenBy_19 : decode cX9_givenBy 19 = .ok (.iload 4, 2) := by decide +kernel
theorem dX9_givenBy_21 : decode cX9_givenBy 21 = .ok (.invokestatic 286, 3) := by decide +kernel
theorem dX9_givenBy_24 : decode cX9_givenBy 24 = .ok (.ifCond .eq 20, 3) := by decide +kernel
theorem dX9_givenBy_27 : decode cX9_givenBy 27 = .ok (.iload_n 1, 1) := by decide +kernel
theorem dX9_givenBy_28 : decode cX9_givenBy 28 = .ok (.aload_n 0, 1) := by decide +kernel
theorem dX9_givenBy_29 : decode cX9_givenBy 29 = .ok (.getfield 19, 3) := by decide +kernel
theorem dX9_givenBy_32 : decode cX9_givenBy 32 = .ok (.getfield 247, 3) := by decide +kernel
theorem dX9_givenBy_35 : decode cX9_givenBy 35 = .ok (.iload 4, 2) := by decide +kernel
theorem dX9_givenBy_37 : decode cX9_givenBy 37 = .ok (.iaload, 1) := by decide +kernel
theorem dX9_givenBy_38 : decode cX9_givenBy 38 = .ok (.invokestatic 341, 3) := by decide +kernel
theorem dX9_givenBy_41 : decode cX9_givenBy 41 = .ok (.goto 4, 3) := by decide +kernel
theorem dX9_givenBy_44 : decode cX9_givenBy 44 = .ok (.iconst 0, 1) := by decide +kernel
theorem dX9_givenBy_45 : decode cX9_givenBy 45 = .ok (.iadd, 1) := by decide +kernel
theorem dX9_givenBy_46 : decode cX9_givenBy 46 = .ok (.istore_n 3, 1) := by decide +kernel
theorem dX9_givenBy_47 : decode cX9_givenBy 47 = .ok (.iinc 4 1, 3) := by decide +kernel
theorem dX9_givenBy_50 : decode cX9_givenBy 50 = .ok (.goto (-45), 3) := by decide +kernel
theorem dX9_givenBy_53 : decode cX9_givenBy 53 = .ok (.iload_n 3, 1) := by decide +kernel
theorem dX9_givenBy_54 : decode cX9_givenBy 54 = .ok (.ireturn, 1) := by decide +kernel
theorem dX9_has_0 : decode cX9_has 0 = .ok (.iload_n 0, 1) := by decide +kernel
theorem dX9_has_1 : decode cX9_has 1 = .ok (.iload_n 1, 1) := by decide +kernel
theorem dX9_has_2 : decode cX9_has 2 = .ok (.ishr, 1) := by decide +kernel
theorem dX9_has_3 : decode cX9_has 3 = .ok (.iconst 1, 1) := by decide +kernel
theorem dX9_has_4 : decode cX9_has 4 = .ok (.iand, 1) := by decide +kernel
theorem dX9_has_5 : decode cX9_has 5 = .ok (.iconst 1, 1) := by decide +kernel
theorem dX9_has_6 : decode cX9_has 6 = .ok (.if_icmp .ne 7, 3) := by decide +kernel
theorem dX9_has_9 : decode cX9_has 9 = .ok (.iconst 1, 1) := by decide +kernel
theorem dX9_has_10 : decode cX9_has 10 = .ok (.goto 4, 3) := by decide +kernel
theorem dX9_has_13 : decode cX9_has 13 = .ok (.iconst 0, 1) := by decide +kernel
theorem dX9_has_14 : decode cX9_has 14 = .ok (.ireturn, 1) := by decide +kernel
theorem dX9_power_0 : decode cX9_power 0 = .ok (.lconst 1, 1) := by decide +kernel
theorem dX9_power_1 : decode cX9_power 1 = .ok (.lstore_n 2, 1) := by decide +kernel
theorem dX9_power_2 : decode cX9_power 2 = .ok (.iconst 0, 1) := by decide +kernel
theorem dX9_power_3 : decode cX9_power 3 = .ok (.istore 4, 2) := by decide +kernel
theorem dX9_power_5 : decode cX9_power 5 = .ok (.iload 4, 2) := by decide +kernel
theorem dX9_power_7 : decode cX9_power 7 = .ok (.iload_n 1, 1) := by decide +kernel
theorem dX9_power_8 : decode cX9_power 8 = .ok (.if_icmp .ge 14, 3) := by decide +kernel
theorem dX9_power_11 : decode cX9_power 11 = .ok (.lload_n 2, 1) := by decide +kernel
theorem dX9_power_12 : decode cX9_power 12 = .ok (.iload_n 0, 1) := by decide +kernel
theorem dX9_power_13 : decode cX9_power 13 = .ok (.i2l, 1) := by decide +kernel
theorem dX9_power_14 : decode cX9_power 14 = .ok (.lmul, 1) := by decide +kernel
theorem dX9_power_15 : decode cX9_power 15 = .ok (.lstore_n 2, 1) := by decide +kernel
theorem dX9_power_16 : decode cX9_power 16 = .ok (.iinc 4 1, 3) := by decide +kernel
theorem dX9_power_19 : decode cX9_power 19 = .ok (.goto (-14), 3) := by decide +kernel
theorem dX9_power_22 : decode cX9_power 22 = .ok (.lload_n 2, 1) := by decide +kernel
theorem dX9_power_23 : decode cX9_power 23 = .ok (.lreturn, 1) := by decide +kernel
theorem dX9_getting_0 : decode cX9_getting 0 = .ok (.iload_n 0, 1) := by decide +kernel
theorem dX9_getting_1 : decode cX9_getting 1 = .ok (.ifCond .ne 14, 3) := by decide +kernel
theorem dX9_getting_4 : decode cX9_getting 4 = .ok (.iload_n 1, 1) := by decide +kernel
theorem dX9_getting_5 : decode cX9_getting 5 = .ok (.ifCond .ne 8, 3) := by decide +kernel
theorem dX9_getting_8 : decode cX9_getting 8 = .ok (.iload_n 3, 1) := by decide +kernel
theorem dX9_getting_9 : decode cX9_getting 9 = .ok (.ineg, 1) := by decide +kernel
theorem dX9_getting_10 : decode cX9_getting 10 = .ok (.goto 4, 3) := by decide +kernel
theorem dX9_getting_13 : decode cX9_getting 13 = .ok (.iconst 0, 1) := by decide +kernel
theorem dX9_getting_14 : decode cX9_getting 14 = .ok (.ireturn, 1) := by decide +kernel
theorem dX9_getting_15 : decode cX9_getting 15 = .ok (.iload_n 1, 1) := by decide +kernel
theorem dX9_getting_16 : decode cX9_getting 16 = .ok (.ifCond .ne 7, 3) := by decide +kernel
theorem dX9_getting_19 : decode cX9_getting 19 = .ok (.iload_n 2, 1) := by decide +kernel
theorem dX9_getting_20 : decode cX9_getting 20 = .ok (.goto 6, 3) := by decide +kernel
theorem dX9_getting_23 : decode cX9_getting 23 = .ok (.iload_n 2, 1) := by decide +kernel
theorem dX9_getting_24 : decode cX9_getting 24 = .ok (.iload_n 3, 1) := by decide +kernel
theorem dX9_getting_25 : decode cX9_getting 25 = .ok (.isub, 1) := by decide +kernel
theorem dX9_getting_26 : decode cX9_getting 26 = .ok (.ireturn, 1) := by decide +kernel
theorem dX9_isContent_0 : decode cX9_isContent 0 = .ok (.iload_n 0, 1) := by decide +kernel
theorem dX9_isContent_1 : decode cX9_isContent 1 = .ok (.iload_n 1, 1) := by decide +kernel
theorem dX9_isContent_2 : decode cX9_isContent 2 = .ok (.iload_n 2, 1) := by decide +kernel
theorem dX9_isContent_3 : decode cX9_isContent 3 = .ok (.iload_n 3, 1) := by decide +kernel
theorem dX9_isContent_4 : decode cX9_isContent 4 = .ok (.invokestatic 334, 3) := by decide +kernel
theorem dX9_isContent_7 : decode cX9_isContent 7 = .ok (.iconst 1, 1) := by decide +kernel
theorem dX9_isContent_8 : decode cX9_isContent 8 = .ok (.iload_n 0, 1) := by decide +kernel
theorem dX9_isContent_9 : decode cX9_isContent 9 = .ok (.isub, 1) := by decide +kernel
theorem dX9_isContent_10 : decode cX9_isContent 10 = .ok (.iload_n 1, 1) := by decide +kernel
theorem dX9_isContent_11 : decode cX9_isContent 11 = .ok (.iload_n 2, 1) := by decide +kernel
theorem dX9_isContent_12 : decode cX9_isContent 12 = .ok (.iload_n 3, 1) := by decide +kernel
theorem dX9_isContent_13 : decode cX9_isContent 13 = .ok (.invokestatic 334, 3) := by decide +kernel
theorem dX9_isContent_16 : decode cX9_isContent 16 = .ok (.if_icmp .lt 7, 3) := by decide +kernel
theorem dX9_isContent_19 : decode cX9_isContent 19 = .ok (.iconst 1, 1) := by decide +kernel
theorem dX9_isContent_20 : decode cX9_isContent 20 = .ok (.goto 4, 3) := by decide +kernel
theorem dX9_isContent_23 : decode cX9_isContent 23 = .ok (.iconst 0, 1) := by decide +kernel
theorem dX9_isContent_24 : decode cX9_isContent 24 = .ok (.ireturn, 1) := by decide +kernel
