theorem dX0_init_0 : decode cX0_init 0 = .ok (.aload_n 0, 1) := by decide +kernel
theorem dX0_init_1 : decode cX0_init 1 = .ok (.invokespecial 3, 3) := by decide +kernel
theorem dX0_init_4 : decode cX0_init 4 = .ok (.aload_n 0, 1) := by decide +kernel
theorem dX0_init_5 : decode cX0_init 5 = .ok (.bipush 6, 2) := by decide +kernel
theorem dX0_init_7 : decode cX0_init 7 = .ok (.newarray .int, 2) := by decide +kernel
theorem dX0_init_9 : decode cX0_init 9 = .ok (.putfield 9, 3) := by decide +kernel
theorem dX0_init_12 : decode cX0_init 12 = .ok (.aload_n 0, 1) := by decide +kernel
theorem dX0_init_13 : decode cX0_init 13 = .ok (.iconst 0, 1) := by decide +kernel
theorem dX0_init_14 : decode cX0_init 14 = .ok (.putfield 15, 3) := by decide +kernel
theorem dX0_init_17 : decode cX0_init 17 = .ok (.aload_n 0, 1) := by decide +kernel
theorem dX0_init_18 : decode cX0_init 18 = .ok (.invokevirtual 19, 3) := by decide +kernel
theorem dX0_init_21 : decode cX0_init 21 = .ok (.return_, 1) := by decide +kernel
theorem dX0_clear_0 : decode cX0_clear 0 = .ok (.aload_n 0, 1) := by decide +kernel
theorem dX0_clear_1 : decode cX0_clear 1 = .ok (.iconst 0, 1) := by decide +kernel
theorem dX0_clear_2 : decode cX0_clear 2 = .ok (.putfield 15, 3) := by decide +kernel
theorem dX0_clear_5 : decode cX0_clear 5 = .ok (.iconst 0, 1) := by decide +kernel
theorem dX0_clear_6 : decode cX0_clear 6 = .ok (.istore_n 1, 1) := by decide +kernel
theorem dX0_clear_7 : decode cX0_clear 7 = .ok (.iload_n 1, 1) := by decide +kernel
theorem dX0_clear_8 : decode cX0_clear 8 = .ok (.bipush 6, 2) := by decide +kernel
theorem dX0_clear_10 : decode cX0_clear 10 = .ok (.if_icmp .ge 16, 3) := by decide +kernel
theorem dX0_clear_13 : decode cX0_clear 13 = .ok (.aload_n 0, 1) := by decide +kernel
theorem dX0_clear_14 : decode cX0_clear 14 = .ok (.getfield 9, 3) := by decide +kernel
theorem dX0_clear_17 : decode cX0_clear 17 = .ok (.iload_n 1, 1) := by decide +kernel
theorem dX0_clear_18 : decode cX0_clear 18 = .ok (.iconst (-1), 1) := by decide +kernel
theorem dX0_clear_19 : decode cX0_clear 19 = .ok (.iastore, 1) := by decide +kernel
theorem dX0_clear_20 : decode cX0_clear 20 = .ok (.iinc 1 1, 3) := by decide +kernel
theorem dX0_clear_23 : decode cX0_clear 23 = .ok (.goto (-16), 3) := by decide +kernel
theorem dX0_clear_26 : decode cX0_clear 26 = .ok (.return_, 1) := by decide +kernel
theorem dX0_read_0 : decode cX0_read 0 = .ok (.aload_n 0, 1) := by decide +kernel
theorem dX0_read_1 : decode cX0_read 1 = .ok (.invokevirtual 19, 3) := by decide +kernel
theorem dX0_read_4 : decode cX0_read 4 = .ok (.iconst 0, 1) := by decide +kernel
theorem dX0_read_5 : decode cX0_read 5 = .ok (.istore_n 3, 1) := by decide +kernel
theorem dX0_read_6 : decode cX0_read 6 = .ok (.iload_n 3, 1) := by decide +kernel
theorem dX0_read_7 : decode cX0_read 7 = .ok (.bipush 60, 2) := by decide +kernel
theorem dX0_read_9 : decode cX0_read 9 = .ok (.if_icmp .ge 85, 3) := by decide +kernel
theorem dX0_read_12 : decode cX0_read 12 = .ok (.aload_n 1, 1) := by decide +kernel
theorem dX0_read_13 : decode cX0_read 13 = .ok (.invokevirtual 22, 3) := by decide +kernel
theorem dX0_read_16 : decode cX0_read 16 = .ok (.ifCond .ne 78, 3) := by decide +kernel
theorem dX0_read_19 : decode cX0_read 19 = .ok (.aload_n 1, 1) := by decide +kernel
theorem dX0_read_20 : decode cX0_read 20 = .ok (.iconst 0, 1) := by decide +kernel
theorem dX0_read_21 : decode cX0_read 21 = .ok (.iload_n 2, 1) := by decide +kernel
theorem dX0_read_22 : decode cX0_read 22 = .ok (.iconst 1, 1) := by decide +kernel
theorem dX0_read_23 : decode cX0_read 23 = .ok (.isub, 1) := by decide +kernel
theorem dX0_read_24 : decode cX0_read 24 = .ok (.invokevirtual 28, 3) := by decide +kernel
theorem dX0_read_27 : decode cX0_read 27 = .ok (.istore 4, 2) := by decide +kernel
theorem dX0_read_29 : decode cX0_read 29 = .ok (.iload 4, 2) := by decide +kernel
theorem dX0_read_31 : decode cX0_read 31 = .ok (.ifCond .lt 21, 3) := by decide +kernel
theorem dX0_read_34 : decode cX0_read 34 = .ok (.iload 4, 2) := by decide +kernel
theorem dX0_read_36 : decode cX0_read 36 = .ok (.bipush 6, 2) := by decide +kernel
theorem dX0_read_38 : decode cX0_read 38 = .ok (.if_icmp .ge 14, 3) := by decide +kernel
theorem dX0_read_41 : decode cX0_read 41 = .ok (.aload_n 0, 1) := by decide +kernel
theorem dX0_read_42 : decode cX0_read 42 = .ok (.getfield 9, 3) := by decide +kernel
theorem dX0_read_45 : decode cX0_read 45 = .ok (.iload 4, 2) := by decide +kernel
theorem dX0_read_47 : decode cX0_read 47 = .ok (.iaload, 1) := by decide +kernel
theorem dX0_read_48 : decode cX0_read 48 = .ok (.iconst (-1), 1) := by decide +kernel
theorem dX0_read_49 : decode cX0_read 49 = .ok (.if_icmp .eq 9, 3) := by decide +kernel
theorem dX0_read_52 : decode cX0_read 52 = .ok (.aload_n 1, 1) := by decide +kernel
theorem dX0_read_53 : decode cX0_read 53 = .ok (.iconst 2, 1) := by decide +kernel
theorem dX0_read_54 : decode cX0_read 54 = .ok (.invokevirtual 32, 3) := by decide +kernel
theorem dX0_read_57 : decode cX0_read 57 = .ok (.return_, 1) := by decide +kernel
theorem dX0_read_58 : decode cX0_read 58 = .ok (.aload_n 0, 1) := by decide +kernel
theorem dX0_read_59 : decode cX0_read 59 = .ok (.getfield 9, 3) := by decide +kernel
theorem dX0_read_62 : decode cX0_read 62 = .ok (.iload 4, 2) := by decide +kernel
theorem dX0_read_64 : decode cX0_read 64 = .ok (.aload_n 1, 1) := by decide +kernel
theorem dX0_read_65 : decode cX0_read 65 = .ok (.iconst 0, 1) := by decide +kernel
theorem dX0_read_66 : decode cX0_read 66 = .ok (.bipush 16, 2) := by decide +kernel
theorem dX0_read_68 : decode cX0_read 68 = .ok (.invokevirtual 28, 3) := by decide +kernel
theorem dX0_read_71 : decode cX0_read 71 = .ok (.iastore, 1) := by decide +kernel
theorem dX0_read_72 : decode cX0_read 72 = .ok (.aload_n 0, 1) := by decide +kernel
theorem dX0_read_73 : decode cX0_read 73 = .ok (.dup, 1) := by decide +kernel
theorem dX0_read_74 : decode cX0_read 74 = .ok (.getfield 15, 3) := by decide +kernel
theorem dX0_read_77 : decode cX0_read 77 = .ok (.iconst 1, 1) := by decide +kernel
theorem dX0_read_78 : decode cX0_read 78 = .ok (.iadd, 1) := by decide +kernel
theorem dX0_read_79 : decode cX0_read 79 = .ok (.putfield 15, 3) := by decide +kernel
theorem dX0_read_82 : decode cX0_read 82 = .ok (.aload_n 1, 1) := by decide +kernel
theorem dX0_read_83 : decode cX0_read 83 = .ok (.bipush 59, 2) := by decide +kernel
theorem dX0_read_85 : decode cX0_read 85 = .ok (.invokevirtual 36, 3) := by decide +kernel
theorem dX0_read_88 : decode cX0_read 88 = .ok (.iinc 3 1, 3) := by decide +kernel
theorem dX0_read_91 : decode cX0_read 91 = .ok (.goto (-85), 3) := by decide +kernel
theorem dX0_read_94 : decode cX0_read 94 = .ok (.return_, 1) := by decide +kernel
theorem dX0_isRight_0 : decode cX0_isRight 0 = .ok (.iconst 0, 1) := by decide +kernel
theorem dX0_isRight_1 : decode cX0_isRight 1 = .ok (.istore 5, 2) := by decide +kernel
theorem dX0_isRight_3 : decode cX0_isRight 3 = .ok (.iload 5, 2) := by decide +kernel
theorem dX0_isRight_5 : decode cX0_isRight 5 = .ok (.aload_n 2, 1) := by decide +kernel
theorem dX0_isRight_6 : decode cX0_isRight 6 = .ok (.getfield 40, 3) := by decide +kernel
theorem dX0_isRight_9 : decode cX0_isRight 9 = .ok (.if_icmp .ge 42, 3) := by decide +kernel
theorem dX0_isRight_12 : decode cX0_isRight 12 = .ok (.aload_n 0, 1) := by decide +kernel
theorem dX0_isRight_13 : decode cX0_isRight 13 = .ok (.getfield 9, 3) := by decide +kernel
theorem dX0_isRight_16 : decode cX0_isRight 16 = .ok (.iload 5, 2) := by decide +kernel
theorem dX0_isRight_18 : decode cX0_isRight 18 = .ok (.iaload, 1) := by decide +kernel
theorem dX0_isRight_19 : decode cX0_isRight 19 = .ok (.iconst (-1), 1) := by decide +kernel
theorem dX0_isRight_20 : decode cX0_isRight 20 = .ok (.if_icmp .eq 25, 3) := by decide +kernel
theorem dX0_isRight_23 : decode cX0_isRight 23 = .ok (.aload_n 0, 1) := by decide +kernel
theorem dX0_isRight_24 : decode cX0_isRight 24 = .ok (.getfield 9, 3) := by decide +kernel
theorem dX0_isRight_27 : decode cX0_isRight 27 = .ok (.iload 5, 2) := by decide +kernel
theorem dX0_isRight_29 : decode cX0_isRight 29 = .ok (.iaload, 1) := by decide +kernel
theorem dX0_isRight_30 : decode cX0_isRight 30 = .ok (.aload_n 1, 1) := by decide +kernel
theorem dX0_isRight_31 : decode cX0_isRight 31 = .ok (.aload_n 2, 1) := by decide +kernel
theorem dX0_isRight_32 : decode cX0_isRight 32 = .ok (.iload 5, 2) := by decide +kernel
theorem dX0_isRight_34 : decode cX0_isRight 34 = .ok (.iload_n 3, 1) := by decide +kernel
theorem dX0_isRight_35 : decode cX0_isRight 35 = .ok (.iload 4, 2) := by decide +kernel
theorem dX0_isRight_37 : decode cX0_isRight 37 = .ok (.invokevirtual 45, 3) := by decide +kernel
theorem dX0_isRight_40 : decode cX0_isRight 40 = .ok (.if_icmp .eq 5, 3) := by decide +kernel
theorem dX0_isRight_43 : decode cX0_isRight 43 = .ok (.iconst 0, 1) := by decide +kernel
theorem dX0_isRight_44 : decode cX0_isRight 44 = .ok (.ireturn, 1) := by decide +kernel
theorem dX0_isRight_45 : decode cX0_isRight 45 = .ok (.iinc 5 1, 3) := by decide +kernel
theorem dX0_isRight_48 : decode cX0_isRight 48 = .ok (.goto (-45), 3) := by decide +kernel
theorem dX0_isRight_51 : decode cX0_isRight 51 = .ok (.iconst 1, 1) := by decide +kernel
theorem dX0_isRight_52 : decode cX0_isRight 52 = .ok (.ireturn, 1) := by decide +kernel
theorem dX1_init_0 : decode cX1_init 0 = .ok (.aload_n 0, 1) := by decide +kernel
theorem dX1_init_1 : decode cX1_init 1 = .ok (.invokespecial 3, 3) := by decide +kernel
theorem dX1_init_4 : decode cX1_init 4 = .ok (.aload_n 0, 1) := by decide +kernel
theorem dX1_init_5 : decode cX1_init 5 = .ok (.sipush 150, 3) := by decide +kernel
theorem dX1_init_8 : decode cX1_init 8 = .ok (.newarray .int, 2) := by decide +kernel
theorem dX1_init_10 : decode cX1_init 10 = .ok (.putfield 9, 3) := by decide +kernel
theorem dX1_init_13 : decode cX1_init 13 = .ok (.aload_n 0, 1) := by decide +kernel
theorem dX1_init_14 : decode cX1_init 14 = .ok (.bipush 7, 2) := by decide +kernel
theorem dX1_init_16 : decode cX1_init 16 = .ok (.newarray .int, 2) := by decide +kernel
theorem dX1_init_18 : decode cX1_init 18 = .ok (.putfield 15, 3) := by decide +kernel
theorem dX1_init_21 : decode cX1_init 21 = .ok (.aload_n 0, 1) := by decide +kernel
theorem dX1_init_22 : decode cX1_init 22 = .ok (.bipush 32, 2) := by decide +kernel
theorem dX1_init_24 : decode cX1_init 24 = .ok (.newarray .int, 2) := by decide +kernel
theorem dX1_init_26 : decode cX1_init 26 = .ok (.putfield 18, 3) := by decide +kernel
theorem dX1_init_29 : decode cX1_init 29 = .ok (.aload_n 0, 1) := by decide +kernel
theorem dX1_init_30 : decode cX1_init 30 = .ok (.iconst 0, 1) := by decide +kernel
theorem dX1_init_31 : decode cX1_init 31 = .ok (.putfield 21, 3) := by decide +kernel
theorem dX1_init_34 : decode cX1_init 34 = .ok (.aload_n 0, 1) := by decide +kernel
theorem dX1_init_35 : decode cX1_init 35 = .ok (.invokevirtual 25, 3) := by decide +kernel
theorem dX1_init_38 : decode cX1_init 38 = .ok (.return_, 1) := by decide +kernel
theorem dX1_makePlain_0 : decode cX1_makePlain 0 = .ok (.aload_n 0, 1) := by decide +kernel
theorem dX1_makePlain_1 : decode cX1_makePlain 1 = .ok (.iconst 0, 1) := by decide +kernel
theorem dX1_makePlain_2 : decode cX1_makePlain 2 = .ok (.putfield 21, 3) := by decide +kernel
theorem dX1_makePlain_5 : decode cX1_makePlain 5 = .ok (.aload_n 0, 1) := by decide +kernel
theorem dX1_makePlain_6 : decode cX1_makePlain 6 = .ok (.iconst (-1), 1) := by decide +kernel
theorem dX1_makePlain_7 : decode cX1_makePlain 7 = .ok (.invokevirtual 28, 3) := by decide +kernel
theorem dX1_makePlain_10 : decode cX1_makePlain 10 = .ok (.aload_n 0, 1) := by decide +kernel
theorem dX1_makePlain_11 : decode cX1_makePlain 11 = .ok (.iconst 4, 1) := by decide +kernel
theorem dX1_makePlain_12 : decode cX1_makePlain 12 = .ok (.invokevirtual 28, 3) := by decide +kernel
theorem dX1_makePlain_15 : decode cX1_makePlain 15 = .ok (.aload_n 0, 1) := by decide +kernel
theorem dX1_makePlain_16 : decode cX1_makePlain 16 = .ok (.bipush (-11), 2) := by decide +kernel
theorem dX1_makePlain_18 : decode cX1_makePlain 18 = .ok (.invokevirtual 28, 3) := by decide +kernel
theorem dX1_makePlain_21 : decode cX1_makePlain 21 = .ok (.aload_n 0, 1) := by decide +kernel
theorem dX1_makePlain_22 : decode cX1_makePlain 22 = .ok (.iconst 1, 1) := by decide +kernel
theorem dX1_makePlain_23 : decode cX1_makePlain 23 = .ok (.invokevirtual 28, 3) := by decide +kernel
theorem dX1_makePlain_26 : decode cX1_makePlain 26 = .ok (.aload_n 0, 1) := by decide +kernel
theorem dX1_makePlain_27 : decode cX1_makePlain 27 = .ok (.bipush (-8), 2) := by decide +kernel
theorem dX1_makePlain_29 : decode cX1_makePlain 29 = .ok (.invokevirtual 28, 3) := by decide +kernel
theorem dX1_makePlain_32 : decode cX1_makePlain 32 = .ok (.return_, 1) := by decide +kernel
theorem dX1_add_0 : decode cX1_add 0 = .ok (.aload_n 0, 1) := by decide +kernel
theorem dX1_add_1 : decode cX1_add 1 = .ok (.getfield 21, 3) := by decide +kernel
theorem dX1_add_4 : decode cX1_add 4 = .ok (.sipush 150, 3) := by decide +kernel
theorem dX1_add_7 : decode cX1_add 7 = .ok (.if_icmp .ge 23, 3) := by decide +kernel
theorem dX1_add_10 : decode cX1_add 10 = .ok (.aload_n 0, 1) := by decide +kernel
theorem dX1_add_11 : decode cX1_add 11 = .ok (.getfield 9, 3) := by decide +kernel
theorem dX1_add_14 : decode cX1_add 14 = .ok (.aload_n 0, 1) := by decide +kernel
theorem dX1_add_15 : decode cX1_add 15 = .ok (.getfield 21, 3) := by decide +kernel
theorem dX1_add_18 : decode cX1_add 18 = .ok (.iload_n 1, 1) := by decide +kernel
theorem dX1_add_19 : decode cX1_add 19 = .ok (.iastore, 1) := by decide +kernel
theorem dX1_add_20 : decode cX1_add 20 = .ok (.aload_n 0, 1) := by decide +kernel
theorem dX1_add_21 : decode cX1_add 21 = .ok (.dup, 1) := by decide +kernel
theorem dX1_add_22 : decode cX1_add 22 = .ok (.getfield 21, 3) := by decide +kernel
theorem dX1_add_25 : decode cX1_add 25 = .ok (.iconst 1, 1) := by decide +kernel
theorem dX1_add_26 : decode cX1_add 26 = .ok (.iadd, 1) := by decide +kernel
theorem dX1_add_27 : decode cX1_add 27 = .ok (.putfield 21, 3) := by decide +kernel
theorem dX1_add_30 : decode cX1_add 30 = .ok (.return_, 1) := by decide +kernel
theorem dX1_read_0 : decode cX1_read 0 = .ok (.aload_n 0, 1) := by decide +kernel
theorem dX1_read_1 : decode cX1_read 1 = .ok (.iconst 0, 1) := by decide +kernel
theorem dX1_read_2 : decode cX1_read 2 = .ok (.putfield 21, 3) := by decide +kernel
theorem dX1_read_5 : decode cX1_read 5 = .ok (.aload_n 0, 1) := by decide +kernel
theorem dX1_read_6 : decode cX1_read 6 = .ok (.aload_n 1, 1) := by decide +kernel
theorem dX1_read_7 : decode cX1_read 7 = .ok (.iconst 0, 1) := by decide +kernel
theorem dX1_read_8 : decode cX1_read 8 = .ok (.invokevirtual 32, 3) := by decide +kernel
theorem dX1_read_11 : decode cX1_read 11 = .ok (.aload_n 1, 1) := by decide +kernel
theorem dX1_read_12 : decode cX1_read 12 = .ok (.invokevirtual 36, 3) := by decide +kernel
theorem dX1_read_15 : decode cX1_read 15 = .ok (.return_, 1) := by decide +kernel
theorem dX1_readSum_0 : decode cX1_readSum 0 = .ok (.aload_n 0, 1) := by decide +kernel
theorem dX1_readSum_1 : decode cX1_readSum 1 = .ok (.aload_n 1, 1) := by decide +kernel
theorem dX1_readSum_2 : decode cX1_readSum 2 = .ok (.iload_n 2, 1) := by decide +kernel
theorem dX1_readSum_3 : decode cX1_readSum 3 = .ok (.invokevirtual 41, 3) := by decide +kernel
theorem dX1_readSum_6 : decode cX1_readSum 6 = .ok (.iconst 0, 1) := by decide +kernel
theorem dX1_readSum_7 : decode cX1_readSum 7 = .ok (.istore_n 3, 1) := by decide +kernel
theorem dX1_readSum_8 : decode cX1_readSum 8 = .ok (.iload_n 3, 1) := by decide +kernel
theorem dX1_readSum_9 : decode cX1_readSum 9 = .ok (.sipush 150, 3) := by decide +kernel
theorem dX1_readSum_12 : decode cX1_readSum 12 = .ok (.if_icmp .ge 58, 3) := by decide +kernel
theorem dX1_readSum_15 : decode cX1_readSum 15 = .ok (.aload_n 1, 1) := by decide +kernel
theorem dX1_readSum_16 : decode cX1_readSum 16 = .ok (.bipush 43, 2) := by decide +kernel
theorem dX1_readSum_18 : decode cX1_readSum 18 = .ok (.invokevirtual 44, 3) := by decide +kernel
theorem dX1_readSum_21 : decode cX1_readSum 21 = .ok (.ifCond .eq 8, 3) := by decide +kernel
theorem dX1_readSum_24 : decode cX1_readSum 24 = .ok (.bipush (-8), 2) := by decide +kernel
theorem dX1_readSum_26 : decode cX1_readSum 26 = .ok (.goto 18, 3) := by decide +kernel
theorem dX1_readSum_29 : decode cX1_readSum 29 = .ok (.aload_n 1, 1) := by decide +kernel
theorem dX1_readSum_30 : decode cX1_readSum 30 = .ok (.bipush 45, 2) := by decide +kernel
theorem dX1_readSum_32 : decode cX1_readSum 32 = .ok (.invokevirtual 44, 3) := by decide +kernel
theorem dX1_readSum_35 : decode cX1_readSum 35 = .ok (.ifCond .eq 8, 3) := by decide +kernel
theorem dX1_readSum_38 : decode cX1_readSum 38 = .ok (.bipush (-9), 2) := by decide +kernel
theorem dX1_readSum_40 : decode cX1_readSum 40 = .ok (.goto 4, 3) := by decide +kernel
theorem dX1_readSum_43 : decode cX1_readSum 43 = .ok (.iconst 0, 1) := by decide +kernel
theorem dX1_readSum_44 : decode cX1_readSum 44 = .ok (.istore 4, 2) := by decide +kernel
theorem dX1_readSum_46 : decode cX1_readSum 46 = .ok (.iload 4, 2) := by decide +kernel
theorem dX1_readSum_48 : decode cX1_readSum 48 = .ok (.ifCond .ne 4, 3) := by decide +kernel
theorem dX1_readSum_51 : decode cX1_readSum 51 = .ok (.return_, 1) := by decide +kernel
theorem dX1_readSum_52 : decode cX1_readSum 52 = .ok (.aload_n 0, 1) := by decide +kernel
theorem dX1_readSum_53 : decode cX1_readSum 53 = .ok (.aload_n 1, 1) := by decide +kernel
theorem dX1_readSum_54 : decode cX1_readSum 54 = .ok (.iload_n 2, 1) := by decide +kernel
theorem dX1_readSum_55 : decode cX1_readSum 55 = .ok (.invokevirtual 41, 3) := by decide +kernel
theorem dX1_readSum_58 : decode cX1_readSum 58 = .ok (.aload_n 0, 1) := by decide +kernel
theorem dX1_readSum_59 : decode cX1_readSum 59 = .ok (.iload 4, 2) := by decide +kernel
theorem dX1_readSum_61 : decode cX1_readSum 61 = .ok (.invokevirtual 28, 3) := by decide +kernel
theorem dX1_readSum_64 : decode cX1_readSum 64 = .ok (.iinc 3 1, 3) := by decide +kernel
theorem dX1_readSum_67 : decode cX1_readSum 67 = .ok (.goto (-59), 3) := by decide +kernel
theorem dX1_readSum_70 : decode cX1_readSum 70 = .ok (.return_, 1) := by decide +kernel
theorem dX1_readProduct_0 : decode cX1_readProduct 0 = .ok (.aload_n 0, 1) := by decide +kernel
theorem dX1_readProduct_1 : decode cX1_readProduct 1 = .ok (.aload_n 1, 1) := by decide +kernel
theorem dX1_readProduct_2 : decode cX1_readProduct 2 = .ok (.iload_n 2, 1) := by decide +kernel
theorem dX1_readProduct_3 : decode cX1_readProduct 3 = .ok (.invokevirtual 48, 3) := by decide +kernel
theorem dX1_readProduct_6 : decode cX1_readProduct 6 = .ok (.iconst 0, 1) := by decide +kernel
theorem dX1_readProduct_7 : decode cX1_readProduct 7 = .ok (.istore_n 3, 1) := by decide +kernel
theorem dX1_readProduct_8 : decode cX1_readProduct 8 = .ok (.iload_n 3, 1) := by decide +kernel
theorem dX1_readProduct_9 : decode cX1_readProduct 9 = .ok (.sipush 150, 3) := by decide +kernel
theorem dX1_readProduct_12 : decode cX1_readProduct 12 = .ok (.if_icmp .ge 72, 3) := by decide +kernel
theorem dX1_readProduct_15 : decode cX1_readProduct 15 = .ok (.aload_n 1, 1) := by decide +kernel
theorem dX1_readProduct_16 : decode cX1_readProduct 16 = .ok (.bipush 42, 2) := by decide +kernel
theorem dX1_readProduct_18 : decode cX1_readProduct 18 = .ok (.invokevirtual 44, 3) := by decide +kernel
theorem dX1_readProduct_21 : decode cX1_readProduct 21 = .ok (.ifCond .eq 8, 3) := by decide +kernel
theorem dX1_readProduct_24 : decode cX1_readProduct 24 = .ok (.bipush (-10), 2) := by decide +kernel
theorem dX1_readProduct_26 : decode cX1_readProduct 26 = .ok (.goto 32, 3) := by decide +kernel
theorem dX1_readProduct_29 : decode cX1_readProduct 29 = .ok (.aload_n 1, 1) := by decide +kernel
theorem dX1_readProduct_30 : decode cX1_readProduct 30 = .ok (.bipush 47, 2) := by decide +kernel
theorem dX1_readProduct_32 : decode cX1_readProduct 32 = .ok (.invokevirtual 44, 3) := by decide +kernel
theorem dX1_readProduct_35 : decode cX1_readProduct 35 = .ok (.ifCond .eq 8, 3) := by decide +kernel
theorem dX1_readProduct_38 : decode cX1_readProduct 38 = .ok (.bipush (-11), 2) := by decide +kernel
theorem dX1_readProduct_40 : decode cX1_readProduct 40 = .ok (.goto 18, 3) := by decide +kernel
theorem dX1_readProduct_43 : decode cX1_readProduct 43 = .ok (.aload_n 1, 1) := by decide +kernel
theorem dX1_readProduct_44 : decode cX1_readProduct 44 = .ok (.bipush 37, 2) := by decide +kernel
theorem dX1_readProduct_46 : decode cX1_readProduct 46 = .ok (.invokevirtual 44, 3) := by decide +kernel
theorem dX1_readProduct_49 : decode cX1_readProduct 49 = .ok (.ifCond .eq 8, 3) := by decide +kernel
theorem dX1_readProduct_52 : decode cX1_readProduct 52 = .ok (.bipush (-12), 2) := by decide +kernel
theorem dX1_readProduct_54 : decode cX1_readProduct 54 = .ok (.goto 4, 3) := by decide +kernel
theorem dX1_readProduct_57 : decode cX1_readProduct 57 = .ok (.iconst 0, 1) := by decide +kernel
theorem dX1_readProduct_58 : decode cX1_readProduct 58 = .ok (.istore 4, 2) := by decide +kernel
theorem dX1_readProduct_60 : decode cX1_readProduct 60 = .ok (.iload 4, 2) := by decide +kernel
theorem dX1_readProduct_62 : decode cX1_readProduct 62 = .ok (.ifCond .ne 4, 3) := by decide +kernel
theorem dX1_readProduct_65 : decode cX1_readProduct 65 = .ok (.return_, 1) := by decide +kernel
theorem dX1_readProduct_66 : decode cX1_readProduct 66 = .ok (.aload_n 0, 1) := by decide +kernel
theorem dX1_readProduct_67 : decode cX1_readProduct 67 = .ok (.aload_n 1, 1) := by decide +kernel
theorem dX1_readProduct_68 : decode cX1_readProduct 68 = .ok (.iload_n 2, 1) := by decide +kernel
theorem dX1_readProduct_69 : decode cX1_readProduct 69 = .ok (.invokevirtual 48, 3) := by decide +kernel
theorem dX1_readProduct_72 : decode cX1_readProduct 72 = .ok (.aload_n 0, 1) := by decide +kernel
theorem dX1_readProduct_73 : decode cX1_readProduct 73 = .ok (.iload 4, 2) := by decide +kernel
theorem dX1_readProduct_75 : decode cX1_readProduct 75 = .ok (.invokevirtual 28, 3) := by decide +kernel
theorem dX1_readProduct_78 : decode cX1_readProduct 78 = .ok (.iinc 3 1, 3) := by decide +kernel
theorem dX1_readProduct_81 : decode cX1_readProduct 81 = .ok (.goto (-73), 3) := by decide +kernel
theorem dX1_readProduct_84 : decode cX1_readProduct 84 = .ok (.return_, 1) := by decide +kernel
theorem dX1_readUnit_0 : decode cX1_readUnit 0 = .ok (.aload_n 1, 1) := by decide +kernel
theorem dX1_readUnit_1 : decode cX1_readUnit 1 = .ok (.invokevirtual 51, 3) := by decide +kernel
theorem dX1_readUnit_4 : decode cX1_readUnit 4 = .ok (.ifCond .eq 18, 3) := by decide +kernel
theorem dX1_readUnit_7 : decode cX1_readUnit 7 = .ok (.aload_n 0, 1) := by decide +kernel
theorem dX1_readUnit_8 : decode cX1_readUnit 8 = .ok (.aload_n 1, 1) := by decide +kernel
theorem dX1_readUnit_9 : decode cX1_readUnit 9 = .ok (.iconst 0, 1) := by decide +kernel
theorem dX1_readUnit_10 : decode cX1_readUnit 10 = .ok (.sipush 999, 3) := by decide +kernel
theorem dX1_readUnit_13 : decode cX1_readUnit 13 = .ok (.invokevirtual 55, 3) := by decide +kernel
theorem dX1_readUnit_16 : decode cX1_readUnit 16 = .ok (.invokevirtual 28, 3) := by decide +kernel
theorem dX1_readUnit_19 : decode cX1_readUnit 19 = .ok (.goto 67, 3) := by decide +kernel
theorem dX1_readUnit_22 : decode cX1_readUnit 22 = .ok (.aload_n 1, 1) := by decide +kernel
theorem dX1_readUnit_23 : decode cX1_readUnit 23 = .ok (.bipush 40, 2) := by decide +kernel
theorem dX1_readUnit_25 : decode cX1_readUnit 25 = .ok (.invokevirtual 44, 3) := by decide +kernel
theorem dX1_readUnit_28 : decode cX1_readUnit 28 = .ok (.ifCond .eq 13, 3) := by decide +kernel
theorem dX1_readUnit_31 : decode cX1_readUnit 31 = .ok (.aload_n 0, 1) := by decide +kernel
theorem dX1_readUnit_32 : decode cX1_readUnit 32 = .ok (.aload_n 1, 1) := by decide +kernel
theorem dX1_readUnit_33 : decode cX1_readUnit 33 = .ok (.iload_n 2, 1) := by decide +kernel
theorem dX1_readUnit_34 : decode cX1_readUnit 34 = .ok (.iconst 0, 1) := by decide +kernel
theorem dX1_readUnit_35 : decode cX1_readUnit 35 = .ok (.invokevirtual 59, 3) := by decide +kernel
theorem dX1_readUnit_38 : decode cX1_readUnit 38 = .ok (.goto 48, 3) := by decide +kernel
theorem dX1_readUnit_41 : decode cX1_readUnit 41 = .ok (.aload_n 1, 1) := by decide +kernel
theorem dX1_readUnit_42 : decode cX1_readUnit 42 = .ok (.ldc 63, 2) := by decide +kernel
theorem dX1_readUnit_44 : decode cX1_readUnit 44 = .ok (.invokevirtual 65, 3) := by decide +kernel
theorem dX1_readUnit_47 : decode cX1_readUnit 47 = .ok (.ifCond .eq 14, 3) := by decide +kernel
theorem dX1_readUnit_50 : decode cX1_readUnit 50 = .ok (.aload_n 0, 1) := by decide +kernel
theorem dX1_readUnit_51 : decode cX1_readUnit 51 = .ok (.aload_n 1, 1) := by decide +kernel
theorem dX1_readUnit_52 : decode cX1_readUnit 52 = .ok (.iload_n 2, 1) := by decide +kernel
theorem dX1_readUnit_53 : decode cX1_readUnit 53 = .ok (.bipush (-13), 2) := by decide +kernel
theorem dX1_readUnit_55 : decode cX1_readUnit 55 = .ok (.invokevirtual 59, 3) := by decide +kernel
theorem dX1_readUnit_58 : decode cX1_readUnit 58 = .ok (.goto 28, 3) := by decide +kernel
theorem dX1_readUnit_61 : decode cX1_readUnit 61 = .ok (.aload_n 1, 1) := by decide +kernel
theorem dX1_readUnit_62 : decode cX1_readUnit 62 = .ok (.ldc 68, 2) := by decide +kernel
theorem dX1_readUnit_64 : decode cX1_readUnit 64 = .ok (.invokevirtual 65, 3) := by decide +kernel
theorem dX1_readUnit_67 : decode cX1_readUnit 67 = .ok (.ifCond .eq 14, 3) := by decide +kernel
theorem dX1_readUnit_70 : decode cX1_readUnit 70 = .ok (.aload_n 0, 1) := by decide +kernel
theorem dX1_readUnit_71 : decode cX1_readUnit 71 = .ok (.aload_n 1, 1) := by decide +kernel
theorem dX1_readUnit_72 : decode cX1_readUnit 72 = .ok (.iload_n 2, 1) := by decide +kernel
theorem dX1_readUnit_73 : decode cX1_readUnit 73 = .ok (.bipush (-14), 2) := by decide +kernel
theorem dX1_readUnit_75 : decode cX1_readUnit 75 = .ok (.invokevirtual 59, 3) := by decide +kernel
theorem dX1_readUnit_78 : decode cX1_readUnit 78 = .ok (.goto 8, 3) := by decide +kernel
theorem dX1_readUnit_81 : decode cX1_readUnit 81 = .ok (.aload_n 0, 1) := by decide +kernel
theorem dX1_readUnit_82 : decode cX1_readUnit 82 = .ok (.aload_n 1, 1) := by decide +kernel
theorem dX1_readUnit_83 : decode cX1_readUnit 83 = .ok (.invokevirtual 70, 3) := by decide +kernel
theorem dX1_readUnit_86 : decode cX1_readUnit 86 = .ok (.return_, 1) := by decide +kernel
theorem dX1_readOpen_0 : decode cX1_readOpen 0 = .ok (.iload_n 2, 1) := by decide +kernel
theorem dX1_readOpen_1 : decode cX1_readOpen 1 = .ok (.bipush 6, 2) := by decide +kernel
theorem dX1_readOpen_3 : decode cX1_readOpen 3 = .ok (.if_icmp .lt 9, 3) := by decide +kernel
theorem dX1_readOpen_6 : decode cX1_readOpen 6 = .ok (.aload_n 1, 1) := by decide +kernel
theorem dX1_readOpen_7 : decode cX1_readOpen 7 = .ok (.iconst 3, 1) := by decide +kernel
theorem dX1_readOpen_8 : decode cX1_readOpen 8 = .ok (.invokevirtual 74, 3) := by decide +kernel
theorem dX1_readOpen_11 : decode cX1_readOpen 11 = .ok (.return_, 1) := by decide +kernel
theorem dX1_readOpen_12 : decode cX1_readOpen 12 = .ok (.iload_n 3, 1) := by decide +kernel
theorem dX1_readOpen_13 : decode cX1_readOpen 13 = .ok (.ifCond .ne 18, 3) := by decide +kernel
theorem dX1_readOpen_16 : decode cX1_readOpen 16 = .ok (.aload_n 0, 1) := by decide +kernel
theorem dX1_readOpen_17 : decode cX1_readOpen 17 = .ok (.aload_n 1, 1) := by decide +kernel
theorem dX1_readOpen_18 : decode cX1_readOpen 18 = .ok (.iload_n 2, 1) := by decide +kernel
theorem dX1_readOpen_19 : decode cX1_readOpen 19 = .ok (.iconst 1, 1) := by decide +kernel
theorem dX1_readOpen_20 : decode cX1_readOpen 20 = .ok (.iadd, 1) := by decide +kernel
theorem dX1_readOpen_21 : decode cX1_readOpen 21 = .ok (.invokevirtual 32, 3) := by decide +kernel
theorem dX1_readOpen_24 : decode cX1_readOpen 24 = .ok (.aload_n 1, 1) := by decide +kernel
theorem dX1_readOpen_25 : decode cX1_readOpen 25 = .ok (.bipush 41, 2) := by decide +kernel
theorem dX1_readOpen_27 : decode cX1_readOpen 27 = .ok (.invokevirtual 77, 3) := by decide +kernel
theorem dX1_readOpen_30 : decode cX1_readOpen 30 = .ok (.return_, 1) := by decide +kernel
theorem dX1_readOpen_31 : decode cX1_readOpen 31 = .ok (.aload_n 1, 1) := by decide +kernel
theorem dX1_readOpen_32 : decode cX1_readOpen 32 = .ok (.bipush 91, 2) := by decide +kernel
theorem dX1_readOpen_34 : decode cX1_readOpen 34 = .ok (.invokevirtual 77, 3) := by decide +kernel
theorem dX1_readOpen_37 : decode cX1_readOpen 37 = .ok (.aload_n 0, 1) := by decide +kernel
theorem dX1_readOpen_38 : decode cX1_readOpen 38 = .ok (.aload_n 1, 1) := by decide +kernel
theorem dX1_readOpen_39 : decode cX1_readOpen 39 = .ok (.iload_n 2, 1) := by decide +kernel
theorem dX1_readOpen_40 : decode cX1_readOpen 40 = .ok (.iconst 1, 1) := by decide +kernel
theorem dX1_readOpen_41 : decode cX1_readOpen 41 = .ok (.iadd, 1) := by decide +kernel
theorem dX1_readOpen_42 : decode cX1_readOpen 42 = .ok (.invokevirtual 32, 3) := by decide +kernel
theorem dX1_readOpen_45 : decode cX1_readOpen 45 = .ok (.aload_n 1, 1) := by decide +kernel
theorem dX1_readOpen_46 : decode cX1_readOpen 46 = .ok (.bipush 44, 2) := by decide +kernel
theorem dX1_readOpen_48 : decode cX1_readOpen 48 = .ok (.invokevirtual 77, 3) := by decide +kernel
theorem dX1_readOpen_51 : decode cX1_readOpen 51 = .ok (.aload_n 0, 1) := by decide +kernel
theorem dX1_readOpen_52 : decode cX1_readOpen 52 = .ok (.aload_n 1, 1) := by decide +kernel
theorem dX1_readOpen_53 : decode cX1_readOpen 53 = .ok (.iload_n 2, 1) := by decide +kernel
theorem dX1_readOpen_54 : decode cX1_readOpen 54 = .ok (.iconst 1, 1) := by decide +kernel
theorem dX1_readOpen_55 : decode cX1_readOpen 55 = .ok (.iadd, 1) := by decide +kernel
theorem dX1_readOpen_56 : decode cX1_readOpen 56 = .ok (.invokevirtual 32, 3) := by decide +kernel
theorem dX1_readOpen_59 : decode cX1_readOpen 59 = .ok (.aload_n 1, 1) := by decide +kernel
theorem dX1_readOpen_60 : decode cX1_readOpen 60 = .ok (.bipush 93, 2) := by decide +kernel
theorem dX1_readOpen_62 : decode cX1_readOpen 62 = .ok (.invokevirtual 77, 3) := by decide +kernel
theorem dX1_readOpen_65 : decode cX1_readOpen 65 = .ok (.aload_n 0, 1) := by decide +kernel
theorem dX1_readOpen_66 : decode cX1_readOpen 66 = .ok (.iload_n 3, 1) := by decide +kernel
theorem dX1_readOpen_67 : decode cX1_readOpen 67 = .ok (.invokevirtual 28, 3) := by decide +kernel
theorem dX1_readOpen_70 : decode cX1_readOpen 70 = .ok (.return_, 1) := by decide +kernel
theorem dX1_readValue_0 : decode cX1_readValue 0 = .ok (.aload_n 1, 1) := by decide +kernel
theorem dX1_readValue_1 : decode cX1_readValue 1 = .ok (.ldc 81, 2) := by decide +kernel
theorem dX1_readValue_3 : decode cX1_readValue 3 = .ok (.invokevirtual 65, 3) := by decide +kernel
theorem dX1_readValue_6 : decode cX1_readValue 6 = .ok (.ifCond .eq 7, 3) := by decide +kernel
theorem dX1_readValue_9 : decode cX1_readValue 9 = .ok (.iconst (-1), 1) := by decide +kernel
theorem dX1_readValue_10 : decode cX1_readValue 10 = .ok (.goto 88, 3) := by decide +kernel
theorem dX1_readValue_13 : decode cX1_readValue 13 = .ok (.aload_n 1, 1) := by decide +kernel
theorem dX1_readValue_14 : decode cX1_readValue 14 = .ok (.ldc 83, 2) := by decide +kernel
theorem dX1_readValue_16 : decode cX1_readValue 16 = .ok (.invokevirtual 65, 3) := by decide +kernel
theorem dX1_readValue_19 : decode cX1_readValue 19 = .ok (.ifCond .eq 8, 3) := by decide +kernel
theorem dX1_readValue_22 : decode cX1_readValue 22 = .ok (.bipush (-2), 2) := by decide +kernel
theorem dX1_readValue_24 : decode cX1_readValue 24 = .ok (.goto 74, 3) := by decide +kernel
theorem dX1_readValue_27 : decode cX1_readValue 27 = .ok (.aload_n 1, 1) := by decide +kernel
theorem dX1_readValue_28 : decode cX1_readValue 28 = .ok (.ldc 85, 2) := by decide +kernel
theorem dX1_readValue_30 : decode cX1_readValue 30 = .ok (.invokevirtual 65, 3) := by decide +kernel
theorem dX1_readValue_33 : decode cX1_readValue 33 = .ok (.ifCond .eq 8, 3) := by decide +kernel
theorem dX1_readValue_36 : decode cX1_readValue 36 = .ok (.bipush (-3), 2) := by decide +kernel
theorem dX1_readValue_38 : decode cX1_readValue 38 = .ok (.goto 60, 3) := by decide +kernel
theorem dX1_readValue_41 : decode cX1_readValue 41 = .ok (.aload_n 1, 1) := by decide +kernel
theorem dX1_readValue_42 : decode cX1_readValue 42 = .ok (.ldc 87, 2) := by decide +kernel
theorem dX1_readValue_44 : decode cX1_readValue 44 = .ok (.invokevirtual 65, 3) := by decide +kernel
theorem dX1_readValue_47 : decode cX1_readValue 47 = .ok (.ifCond .eq 8, 3) := by decide +kernel
theorem dX1_readValue_50 : decode cX1_readValue 50 = .ok (.bipush (-4), 2) := by decide +kernel
theorem dX1_readValue_52 : decode cX1_readValue 52 = .ok (.goto 46, 3) := by decide +kernel
theorem dX1_readValue_55 : decode cX1_readValue 55 = .ok (.aload_n 1, 1) := by decide +kernel
theorem dX1_readValue_56 : decode cX1_readValue 56 = .ok (.ldc 89, 2) := by decide +kernel
theorem dX1_readValue_58 : decode cX1_readValue 58 = .ok (.invokevirtual 65, 3) := by decide +kernel
theorem dX1_readValue_61 : decode cX1_readValue 61 = .ok (.ifCond .eq 8, 3) := by decide +kernel
theorem dX1_readValue_64 : decode cX1_readValue 64 = .ok (.bipush (-5), 2) := by decide +kernel
theorem dX1_readValue_66 : decode cX1_readValue 66 = .ok (.goto 32, 3) := by decide +kernel
theorem dX1_readValue_69 : decode cX1_readValue 69 = .ok (.aload_n 1, 1) := by decide +kernel
theorem dX1_readValue_70 : decode cX1_readValue 70 = .ok (.ldc 91, 2) := by decide +kernel
theorem dX1_readValue_72 : decode cX1_readValue 72 = .ok (.invokevirtual 65, 3) := by decide +kernel
theorem dX1_readValue_75 : decode cX1_readValue 75 = .ok (.ifCond .eq 8, 3) := by decide +kernel
theorem dX1_readValue_78 : decode cX1_readValue 78 = .ok (.bipush (-6), 2) := by decide +kernel
theorem dX1_readValue_80 : decode cX1_readValue 80 = .ok (.goto 18, 3) := by decide +kernel
theorem dX1_readValue_83 : decode cX1_readValue 83 = .ok (.aload_n 1, 1) := by decide +kernel
theorem dX1_readValue_84 : decode cX1_readValue 84 = .ok (.ldc 93, 2) := by decide +kernel
theorem dX1_readValue_86 : decode cX1_readValue 86 = .ok (.invokevirtual 65, 3) := by decide +kernel
theorem dX1_readValue_89 : decode cX1_readValue 89 = .ok (.ifCond .eq 8, 3) := by decide +kernel
theorem dX1_readValue_92 : decode cX1_readValue 92 = .ok (.bipush (-7), 2) := by decide +kernel
theorem dX1_readValue_94 : decode cX1_readValue 94 = .ok (.goto 4, 3) := by decide +kernel
theorem dX1_readValue_97 : decode cX1_readValue 97 = .ok (.iconst 0, 1) := by decide +kernel
theorem dX1_readValue_98 : decode cX1_readValue 98 = .ok (.istore_n 2, 1) := by decide +kernel
theorem dX1_readValue_99 : decode cX1_readValue 99 = .ok (.iload_n 2, 1) := by decide +kernel
theorem dX1_readValue_100 : decode cX1_readValue 100 = .ok (.ifCond .ne 9, 3) := by decide +kernel
theorem dX1_readValue_103 : decode cX1_readValue 103 = .ok (.aload_n 1, 1) := by decide +kernel
theorem dX1_readValue_104 : decode cX1_readValue 104 = .ok (.iconst 1, 1) := by decide +kernel
theorem dX1_readValue_105 : decode cX1_readValue 105 = .ok (.invokevirtual 74, 3) := by decide +kernel
theorem dX1_readValue_108 : decode cX1_readValue 108 = .ok (.return_, 1) := by decide +kernel
theorem dX1_readValue_109 : decode cX1_readValue 109 = .ok (.aload_n 0, 1) := by decide +kernel
theorem dX1_readValue_110 : decode cX1_readValue 110 = .ok (.iload_n 2, 1) := by decide +kernel
theorem dX1_readValue_111 : decode cX1_readValue 111 = .ok (.invokevirtual 28, 3) := by decide +kernel
theorem dX1_readValue_114 : decode cX1_readValue 114 = .ok (.return_, 1) := by decide +kernel
theorem dX1_tells_0 : decode cX1_tells 0 = .ok (.aload_n 0, 1) := by decide +kernel
theorem dX1_tells_1 : decode cX1_tells 1 = .ok (.getfield 15, 3) := by decide +kernel
theorem dX1_tells_4 : decode cX1_tells 4 = .ok (.iconst 0, 1) := by decide +kernel
theorem dX1_tells_5 : decode cX1_tells 5 = .ok (.iload_n 1, 1) := by decide +kernel
theorem dX1_tells_6 : decode cX1_tells 6 = .ok (.iastore, 1) := by decide +kernel
theorem dX1_tells_7 : decode cX1_tells 7 = .ok (.aload_n 0, 1) := by decide +kernel
theorem dX1_tells_8 : decode cX1_tells 8 = .ok (.getfield 15, 3) := by decide +kernel
theorem dX1_tells_11 : decode cX1_tells 11 = .ok (.iconst 1, 1) := by decide +kernel
theorem dX1_tells_12 : decode cX1_tells 12 = .ok (.iload_n 2, 1) := by decide +kernel
theorem dX1_tells_13 : decode cX1_tells 13 = .ok (.iastore, 1) := by decide +kernel
theorem dX1_tells_14 : decode cX1_tells 14 = .ok (.aload_n 0, 1) := by decide +kernel
theorem dX1_tells_15 : decode cX1_tells 15 = .ok (.getfield 15, 3) := by decide +kernel
theorem dX1_tells_18 : decode cX1_tells 18 = .ok (.iconst 2, 1) := by decide +kernel
theorem dX1_tells_19 : decode cX1_tells 19 = .ok (.iload_n 3, 1) := by decide +kernel
theorem dX1_tells_20 : decode cX1_tells 20 = .ok (.iastore, 1) := by decide +kernel
theorem dX1_tells_21 : decode cX1_tells 21 = .ok (.aload_n 0, 1) := by decide +kernel
theorem dX1_tells_22 : decode cX1_tells 22 = .ok (.getfield 15, 3) := by decide +kernel
theorem dX1_tells_25 : decode cX1_tells 25 = .ok (.iconst 3, 1) := by decide +kernel
theorem dX1_tells_26 : decode cX1_tells 26 = .ok (.iload 4, 2) := by decide +kernel
theorem dX1_tells_28 : decode cX1_tells 28 = .ok (.iastore, 1) := by decide +kernel
theorem dX1_tells_29 : decode cX1_tells 29 = .ok (.aload_n 0, 1) := by decide +kernel
theorem dX1_tells_30 : decode cX1_tells 30 = .ok (.getfield 15, 3) := by decide +kernel
theorem dX1_tells_33 : decode cX1_tells 33 = .ok (.iconst 4, 1) := by decide +kernel
theorem dX1_tells_34 : decode cX1_tells 34 = .ok (.iload 5, 2) := by decide +kernel
theorem dX1_tells_36 : decode cX1_tells 36 = .ok (.iastore, 1) := by decide +kernel
theorem dX1_tells_37 : decode cX1_tells 37 = .ok (.aload_n 0, 1) := by decide +kernel
theorem dX1_tells_38 : decode cX1_tells 38 = .ok (.getfield 15, 3) := by decide +kernel
theorem dX1_tells_41 : decode cX1_tells 41 = .ok (.iconst 5, 1) := by decide +kernel
theorem dX1_tells_42 : decode cX1_tells 42 = .ok (.iload 6, 2) := by decide +kernel
theorem dX1_tells_44 : decode cX1_tells 44 = .ok (.iastore, 1) := by decide +kernel
theorem dX1_tells_45 : decode cX1_tells 45 = .ok (.aload_n 0, 1) := by decide +kernel
theorem dX1_tells_46 : decode cX1_tells 46 = .ok (.getfield 15, 3) := by decide +kernel
theorem dX1_tells_49 : decode cX1_tells 49 = .ok (.bipush 6, 2) := by decide +kernel
theorem dX1_tells_51 : decode cX1_tells 51 = .ok (.iload 7, 2) := by decide +kernel
theorem dX1_tells_53 : decode cX1_tells 53 = .ok (.iastore, 1) := by decide +kernel
theorem dX1_tells_54 : decode cX1_tells 54 = .ok (.iconst 0, 1) := by decide +kernel
theorem dX1_tells_55 : decode cX1_tells 55 = .ok (.istore 8, 2) := by decide +kernel
theorem dX1_tells_57 : decode cX1_tells 57 = .ok (.iconst 0, 1) := by decide +kernel
theorem dX1_tells_58 : decode cX1_tells 58 = .ok (.istore 9, 2) := by decide +kernel
theorem dX1_tells_60 : decode cX1_tells 60 = .ok (.iload 9, 2) := by decide +kernel
theorem dX1_tells_62 : decode cX1_tells 62 = .ok (.aload_n 0, 1) := by decide +kernel
theorem dX1_tells_63 : decode cX1_tells 63 = .ok (.getfield 21, 3) := by decide +kernel
theorem dX1_tells_66 : decode cX1_tells 66 = .ok (.if_icmp .ge 111, 3) := by decide +kernel
theorem dX1_tells_69 : decode cX1_tells 69 = .ok (.iload 9, 2) := by decide +kernel
theorem dX1_tells_71 : decode cX1_tells 71 = .ok (.sipush 150, 3) := by decide +kernel
theorem dX1_tells_74 : decode cX1_tells 74 = .ok (.if_icmp .ge 103, 3) := by decide +kernel
theorem dX1_tells_77 : decode cX1_tells 77 = .ok (.aload_n 0, 1) := by decide +kernel
theorem dX1_tells_78 : decode cX1_tells 78 = .ok (.getfield 9, 3) := by decide +kernel
theorem dX1_tells_81 : decode cX1_tells 81 = .ok (.iload 9, 2) := by decide +kernel
theorem dX1_tells_83 : decode cX1_tells 83 = .ok (.iaload, 1) := by decide +kernel
theorem dX1_tells_84 : decode cX1_tells 84 = .ok (.istore 10, 2) := by decide +kernel
theorem dX1_tells_86 : decode cX1_tells 86 = .ok (.iload 10, 2) := by decide +kernel
theorem dX1_tells_88 : decode cX1_tells 88 = .ok (.bipush (-7), 2) := by decide +kernel
theorem dX1_tells_90 : decode cX1_tells 90 = .ok (.if_icmp .lt 42, 3) := by decide +kernel
theorem dX1_tells_93 : decode cX1_tells 93 = .ok (.iload 8, 2) := by decide +kernel
theorem dX1_tells_95 : decode cX1_tells 95 = .ok (.bipush 32, 2) := by decide +kernel
theorem dX1_tells_97 : decode cX1_tells 97 = .ok (.if_icmp .ge 74, 3) := by decide +kernel
theorem dX1_tells_100 : decode cX1_tells 100 = .ok (.aload_n 0, 1) := by decide +kernel
theorem dX1_tells_101 : decode cX1_tells 101 = .ok (.getfield 18, 3) := by decide +kernel
theorem dX1_tells_104 : decode cX1_tells 104 = .ok (.iload 8, 2) := by decide +kernel
theorem dX1_tells_106 : decode cX1_tells 106 = .ok (.iload 10, 2) := by decide +kernel
theorem dX1_tells_108 : decode cX1_tells 108 = .ok (.ifCond .lt 8, 3) := by decide +kernel
theorem dX1_tells_111 : decode cX1_tells 111 = .ok (.iload 10, 2) := by decide +kernel
theorem dX1_tells_113 : decode cX1_tells 113 = .ok (.goto 12, 3) := by decide +kernel
theorem dX1_tells_116 : decode cX1_tells 116 = .ok (.aload_n 0, 1) := by decide +kernel
theorem dX1_tells_117 : decode cX1_tells 117 = .ok (.getfield 15, 3) := by decide +kernel
theorem dX1_tells_120 : decode cX1_tells 120 = .ok (.iconst (-1), 1) := by decide +kernel
theorem dX1_tells_121 : decode cX1_tells 121 = .ok (.iload 10, 2) := by decide +kernel
theorem dX1_tells_123 : decode cX1_tells 123 = .ok (.isub, 1) := by decide +kernel
theorem dX1_tells_124 : decode cX1_tells 124 = .ok (.iaload, 1) := by decide +kernel
theorem dX1_tells_125 : decode cX1_tells 125 = .ok (.iastore, 1) := by decide +kernel
theorem dX1_tells_126 : decode cX1_tells 126 = .ok (.iinc 8 1, 3) := by decide +kernel
theorem dX1_tells_129 : decode cX1_tells 129 = .ok (.goto 42, 3) := by decide +kernel
theorem dX1_tells_132 : decode cX1_tells 132 = .ok (.iload 8, 2) := by decide +kernel
theorem dX1_tells_134 : decode cX1_tells 134 = .ok (.iconst 2, 1) := by decide +kernel
theorem dX1_tells_135 : decode cX1_tells 135 = .ok (.if_icmp .lt 36, 3) := by decide +kernel
theorem dX1_tells_138 : decode cX1_tells 138 = .ok (.iinc 8 (-1), 3) := by decide +kernel
theorem dX1_tells_141 : decode cX1_tells 141 = .ok (.aload_n 0, 1) := by decide +kernel
theorem dX1_tells_142 : decode cX1_tells 142 = .ok (.getfield 18, 3) := by decide +kernel
theorem dX1_tells_145 : decode cX1_tells 145 = .ok (.iload 8, 2) := by decide +kernel
theorem dX1_tells_147 : decode cX1_tells 147 = .ok (.iconst 1, 1) := by decide +kernel
theorem dX1_tells_148 : decode cX1_tells 148 = .ok (.isub, 1) := by decide +kernel
theorem dX1_tells_149 : decode cX1_tells 149 = .ok (.iload 10, 2) := by decide +kernel
theorem dX1_tells_151 : decode cX1_tells 151 = .ok (.aload_n 0, 1) := by decide +kernel
theorem dX1_tells_152 : decode cX1_tells 152 = .ok (.getfield 18, 3) := by decide +kernel
theorem dX1_tells_155 : decode cX1_tells 155 = .ok (.iload 8, 2) := by decide +kernel
theorem dX1_tells_157 : decode cX1_tells 157 = .ok (.iconst 1, 1) := by decide +kernel
theorem dX1_tells_158 : decode cX1_tells 158 = .ok (.isub, 1) := by decide +kernel
theorem dX1_tells_159 : decode cX1_tells 159 = .ok (.iaload, 1) := by decide +kernel
theorem dX1_tells_160 : decode cX1_tells 160 = .ok (.aload_n 0, 1) := by decide +kernel
theorem dX1_tells_161 : decode cX1_tells 161 = .ok (.getfield 18, 3) := by decide +kernel
theorem dX1_tells_164 : decode cX1_tells 164 = .ok (.iload 8, 2) := by decide +kernel
theorem dX1_tells_166 : decode cX1_tells 166 = .ok (.iaload, 1) := by decide +kernel
theorem dX1_tells_167 : decode cX1_tells 167 = .ok (.invokestatic 95, 3) := by decide +kernel
theorem dX1_tells_170 : decode cX1_tells 170 = .ok (.iastore, 1) := by decide +kernel
theorem dX1_tells_171 : decode cX1_tells 171 = .ok (.iinc 9 1, 3) := by decide +kernel
theorem dX1_tells_174 : decode cX1_tells 174 = .ok (.goto (-114), 3) := by decide +kernel
theorem dX1_tells_177 : decode cX1_tells 177 = .ok (.aload_n 0, 1) := by decide +kernel
theorem dX1_tells_178 : decode cX1_tells 178 = .ok (.getfield 18, 3) := by decide +kernel
theorem dX1_tells_181 : decode cX1_tells 181 = .ok (.iconst 0, 1) := by decide +kernel
theorem dX1_tells_182 : decode cX1_tells 182 = .ok (.iaload, 1) := by decide +kernel
theorem dX1_tells_183 : decode cX1_tells 183 = .ok (.ifCond .ge 7, 3) := by decide +kernel
theorem dX1_tells_186 : decode cX1_tells 186 = .ok (.iconst 0, 1) := by decide +kernel
theorem dX1_tells_187 : decode cX1_tells 187 = .ok (.goto 25, 3) := by decide +kernel
theorem dX1_tells_190 : decode cX1_tells 190 = .ok (.aload_n 0, 1) := by decide +kernel
theorem dX1_tells_191 : decode cX1_tells 191 = .ok (.getfield 18, 3) := by decide +kernel
theorem dX1_tells_194 : decode cX1_tells 194 = .ok (.iconst 0, 1) := by decide +kernel
theorem dX1_tells_195 : decode cX1_tells 195 = .ok (.iaload, 1) := by decide +kernel
theorem dX1_tells_196 : decode cX1_tells 196 = .ok (.bipush 8, 2) := by decide +kernel
theorem dX1_tells_198 : decode cX1_tells 198 = .ok (.if_icmp .le 8, 3) := by decide +kernel
theorem dX1_tells_201 : decode cX1_tells 201 = .ok (.bipush 8, 2) := by decide +kernel
theorem dX1_tells_203 : decode cX1_tells 203 = .ok (.goto 9, 3) := by decide +kernel
theorem dX1_tells_206 : decode cX1_tells 206 = .ok (.aload_n 0, 1) := by decide +kernel
theorem dX1_tells_207 : decode cX1_tells 207 = .ok (.getfield 18, 3) := by decide +kernel
theorem dX1_tells_210 : decode cX1_tells 210 = .ok (.iconst 0, 1) := by decide +kernel
theorem dX1_tells_211 : decode cX1_tells 211 = .ok (.iaload, 1) := by decide +kernel
theorem dX1_tells_212 : decode cX1_tells 212 = .ok (.ireturn, 1) := by decide +kernel
theorem dX1_joined_0 : decode cX1_joined 0 = .ok (.iload_n 0, 1) := by decide +kernel
theorem dX1_joined_1 : decode cX1_joined 1 = .ok (.tableswitch 86 (-13) (-8) #[75, 63, 51, 47, 43, 39], 39) := by decide +kernel
theorem dX1_joined_40 : decode cX1_joined 40 = .ok (.iload_n 1, 1) := by decide +kernel
theorem dX1_joined_41 : decode cX1_joined 41 = .ok (.iload_n 2, 1) := by decide +kernel
theorem dX1_joined_42 : decode cX1_joined 42 = .ok (.iadd, 1) := by decide +kernel
theorem dX1_joined_43 : decode cX1_joined 43 = .ok (.ireturn, 1) := by decide +kernel
theorem dX1_joined_44 : decode cX1_joined 44 = .ok (.iload_n 1, 1) := by decide +kernel
theorem dX1_joined_45 : decode cX1_joined 45 = .ok (.iload_n 2, 1) := by decide +kernel
theorem dX1_joined_46 : decode cX1_joined 46 = .ok (.isub, 1) := by decide +kernel
theorem dX1_joined_47 : decode cX1_joined 47 = .ok (.ireturn, 1) := by decide +kernel
theorem dX1_joined_48 : decode cX1_joined 48 = .ok (.iload_n 1, 1) := by decide +kernel
theorem dX1_joined_49 : decode cX1_joined 49 = .ok (.iload_n 2, 1) := by decide +kernel
theorem dX1_joined_50 : decode cX1_joined 50 = .ok (.imul, 1) := by decide +kernel
theorem dX1_joined_51 : decode cX1_joined 51 = .ok (.ireturn, 1) := by decide +kernel
theorem dX1_joined_52 : decode cX1_joined 52 = .ok (.iload_n 2, 1) := by decide +kernel
theorem dX1_joined_53 : decode cX1_joined 53 = .ok (.ifCond .ne 7, 3) := by decide +kernel
theorem dX1_joined_56 : decode cX1_joined 56 = .ok (.iconst 0, 1) := by decide +kernel
theorem dX1_joined_57 : decode cX1_joined 57 = .ok (.goto 6, 3) := by decide +kernel
theorem dX1_joined_60 : decode cX1_joined 60 = .ok (.iload_n 1, 1) := by decide +kernel
theorem dX1_joined_61 : decode cX1_joined 61 = .ok (.iload_n 2, 1) := by decide +kernel
theorem dX1_joined_62 : decode cX1_joined 62 = .ok (.idiv, 1) := by decide +kernel
theorem dX1_joined_63 : decode cX1_joined 63 = .ok (.ireturn, 1) := by decide +kernel
theorem dX1_joined_64 : decode cX1_joined 64 = .ok (.iload_n 2, 1) := by decide +kernel
theorem dX1_joined_65 : decode cX1_joined 65 = .ok (.ifCond .ne 7, 3) := by decide +kernel
theorem dX1_joined_68 : decode cX1_joined 68 = .ok (.iconst 0, 1) := by decide +kernel
theorem dX1_joined_69 : decode cX1_joined 69 = .ok (.goto 6, 3) := by decide +kernel
theorem dX1_joined_72 : decode cX1_joined 72 = .ok (.iload_n 1, 1) := by decide +kernel
theorem dX1_joined_73 : decode cX1_joined 73 = .ok (.iload_n 2, 1) := by decide +kernel
theorem dX1_joined_74 : decode cX1_joined 74 = .ok (.irem, 1) := by decide +kernel
theorem dX1_joined_75 : decode cX1_joined 75 = .ok (.ireturn, 1) := by decide +kernel
theorem dX1_joined_76 : decode cX1_joined 76 = .ok (.iload_n 1, 1) := by decide +kernel
theorem dX1_joined_77 : decode cX1_joined 77 = .ok (.iload_n 2, 1) := by decide +kernel
theorem dX1_joined_78 : decode cX1_joined 78 = .ok (.if_icmp .ge 7, 3) := by decide +kernel
theorem dX1_joined_81 : decode cX1_joined 81 = .ok (.iload_n 1, 1) := by decide +kernel
theorem dX1_joined_82 : decode cX1_joined 82 = .ok (.goto 4, 3) := by decide +kernel
theorem dX1_joined_85 : decode cX1_joined 85 = .ok (.iload_n 2, 1) := by decide +kernel
theorem dX1_joined_86 : decode cX1_joined 86 = .ok (.ireturn, 1) := by decide +kernel
theorem dX1_joined_87 : decode cX1_joined 87 = .ok (.iload_n 1, 1) := by decide +kernel
theorem dX1_joined_88 : decode cX1_joined 88 = .ok (.iload_n 2, 1) := by decide +kernel
theorem dX1_joined_89 : decode cX1_joined 89 = .ok (.if_icmp .le 7, 3) := by decide +kernel
theorem dX1_joined_92 : decode cX1_joined 92 = .ok (.iload_n 1, 1) := by decide +kernel
theorem dX1_joined_93 : decode cX1_joined 93 = .ok (.goto 4, 3) := by decide +kernel
theorem dX1_joined_96 : decode cX1_joined 96 = .ok (.iload_n 2, 1) := by decide +kernel
theorem dX1_joined_97 : decode cX1_joined 97 = .ok (.ireturn, 1) := by decide +kernel
theorem dX2_init_0 : decode cX2_init 0 = .ok (.aload_n 0, 1) := by decide +kernel
theorem dX2_init_1 : decode cX2_init 1 = .ok (.invokespecial 3, 3) := by decide +kernel
theorem dX2_init_4 : decode cX2_init 4 = .ok (.aload_n 0, 1) := by decide +kernel
theorem dX2_init_5 : decode cX2_init 5 = .ok (.iconst 0, 1) := by decide +kernel
theorem dX2_init_6 : decode cX2_init 6 = .ok (.putfield 9, 3) := by decide +kernel
theorem dX2_init_9 : decode cX2_init 9 = .ok (.aload_n 0, 1) := by decide +kernel
theorem dX2_init_10 : decode cX2_init 10 = .ok (.iconst 0, 1) := by decide +kernel
theorem dX2_init_11 : decode cX2_init 11 = .ok (.putfield 15, 3) := by decide +kernel
theorem dX2_init_14 : decode cX2_init 14 = .ok (.aload_n 0, 1) := by decide +kernel
theorem dX2_init_15 : decode cX2_init 15 = .ok (.iconst 0, 1) := by decide +kernel
theorem dX2_init_16 : decode cX2_init 16 = .ok (.putfield 18, 3) := by decide +kernel
theorem dX2_init_19 : decode cX2_init 19 = .ok (.aload_n 0, 1) := by decide +kernel
theorem dX2_init_20 : decode cX2_init 20 = .ok (.bipush 6, 2) := by decide +kernel
theorem dX2_init_22 : decode cX2_init 22 = .ok (.newarray .int, 2) := by decide +kernel
theorem dX2_init_24 : decode cX2_init 24 = .ok (.putfield 21, 3) := by decide +kernel
theorem dX2_init_27 : decode cX2_init 27 = .ok (.aload_n 0, 1) := by decide +kernel
theorem dX2_init_28 : decode cX2_init 28 = .ok (.bipush 6, 2) := by decide +kernel
theorem dX2_init_30 : decode cX2_init 30 = .ok (.newarray .int, 2) := by decide +kernel
theorem dX2_init_32 : decode cX2_init 32 = .ok (.putfield 25, 3) := by decide +kernel
theorem dX2_init_35 : decode cX2_init 35 = .ok (.aload_n 0, 1) := by decide +kernel
theorem dX2_init_36 : decode cX2_init 36 = .ok (.bipush 6, 2) := by decide +kernel
theorem dX2_init_38 : decode cX2_init 38 = .ok (.newarray .int, 2) := by decide +kernel
theorem dX2_init_40 : decode cX2_init 40 = .ok (.putfield 28, 3) := by decide +kernel
theorem dX2_init_43 : decode cX2_init 43 = .ok (.aload_n 0, 1) := by decide +kernel
theorem dX2_init_44 : decode cX2_init 44 = .ok (.bipush 48, 2) := by decide +kernel
theorem dX2_init_46 : decode cX2_init 46 = .ok (.newarray .int, 2) := by decide +kernel
theorem dX2_init_48 : decode cX2_init 48 = .ok (.putfield 31, 3) := by decide +kernel
theorem dX2_init_51 : decode cX2_init 51 = .ok (.aload_n 0, 1) := by decide +kernel
theorem dX2_init_52 : decode cX2_init 52 = .ok (.iconst 5, 1) := by decide +kernel
theorem dX2_init_53 : decode cX2_init 53 = .ok (.newarray .int, 2) := by decide +kernel
theorem dX2_init_55 : decode cX2_init 55 = .ok (.putfield 34, 3) := by decide +kernel
theorem dX2_init_58 : decode cX2_init 58 = .ok (.return_, 1) := by decide +kernel
theorem dX2_read_0 : decode cX2_read 0 = .ok (.aload_n 0, 1) := by decide +kernel
theorem dX2_read_1 : decode cX2_read 1 = .ok (.iconst 0, 1) := by decide +kernel
theorem dX2_read_2 : decode cX2_read 2 = .ok (.putfield 9, 3) := by decide +kernel
theorem dX2_read_5 : decode cX2_read 5 = .ok (.aload_n 0, 1) := by decide +kernel
theorem dX2_read_6 : decode cX2_read 6 = .ok (.iconst 0, 1) := by decide +kernel
theorem dX2_read_7 : decode cX2_read 7 = .ok (.putfield 15, 3) := by decide +kernel
theorem dX2_read_10 : decode cX2_read 10 = .ok (.aload_n 0, 1) := by decide +kernel
theorem dX2_read_11 : decode cX2_read 11 = .ok (.iconst 0, 1) := by decide +kernel
theorem dX2_read_12 : decode cX2_read 12 = .ok (.putfield 18, 3) := by decide +kernel
theorem dX2_read_15 : decode cX2_read 15 = .ok (.iconst 0, 1) := by decide +kernel
theorem dX2_read_16 : decode cX2_read 16 = .ok (.istore_n 2, 1) := by decide +kernel
theorem dX2_read_17 : decode cX2_read 17 = .ok (.iload_n 2, 1) := by decide +kernel
theorem dX2_read_18 : decode cX2_read 18 = .ok (.sipush 600, 3) := by decide +kernel
theorem dX2_read_21 : decode cX2_read 21 = .ok (.if_icmp .ge 27, 3) := by decide +kernel
theorem dX2_read_24 : decode cX2_read 24 = .ok (.aload_n 1, 1) := by decide +kernel
theorem dX2_read_25 : decode cX2_read 25 = .ok (.invokevirtual 37, 3) := by decide +kernel
theorem dX2_read_28 : decode cX2_read 28 = .ok (.ifCond .ne 20, 3) := by decide +kernel
theorem dX2_read_31 : decode cX2_read 31 = .ok (.aload_n 0, 1) := by decide +kernel
theorem dX2_read_32 : decode cX2_read 32 = .ok (.aload_n 1, 1) := by decide +kernel
theorem dX2_read_33 : decode cX2_read 33 = .ok (.invokevirtual 43, 3) := by decide +kernel
theorem dX2_read_36 : decode cX2_read 36 = .ok (.aload_n 1, 1) := by decide +kernel
theorem dX2_read_37 : decode cX2_read 37 = .ok (.bipush 59, 2) := by decide +kernel
theorem dX2_read_39 : decode cX2_read 39 = .ok (.invokevirtual 47, 3) := by decide +kernel
theorem dX2_read_42 : decode cX2_read 42 = .ok (.iinc 2 1, 3) := by decide +kernel
theorem dX2_read_45 : decode cX2_read 45 = .ok (.goto (-28), 3) := by decide +kernel
theorem dX2_read_48 : decode cX2_read 48 = .ok (.return_, 1) := by decide +kernel
theorem dX2_readClause_0 : decode cX2_readClause 0 = .ok (.aload_n 1, 1) := by decide +kernel
theorem dX2_readClause_1 : decode cX2_readClause 1 = .ok (.ldc 51, 2) := by decide +kernel
theorem dX2_readClause_3 : decode cX2_readClause 3 = .ok (.invokevirtual 53, 3) := by decide +kernel
theorem dX2_readClause_6 : decode cX2_readClause 6 = .ok (.ifCond .eq 11, 3) := by decide +kernel
theorem dX2_readClause_9 : decode cX2_readClause 9 = .ok (.aload_n 0, 1) := by decide +kernel
theorem dX2_readClause_10 : decode cX2_readClause 10 = .ok (.aload_n 1, 1) := by decide +kernel
theorem dX2_readClause_11 : decode cX2_readClause 11 = .ok (.invokevirtual 57, 3) := by decide +kernel
theorem dX2_readClause_14 : decode cX2_readClause 14 = .ok (.goto 42, 3) := by decide +kernel
theorem dX2_readClause_17 : decode cX2_readClause 17 = .ok (.aload_n 1, 1) := by decide +kernel
theorem dX2_readClause_18 : decode cX2_readClause 18 = .ok (.ldc 60, 2) := by decide +kernel
theorem dX2_readClause_20 : decode cX2_readClause 20 = .ok (.invokevirtual 53, 3) := by decide +kernel
theorem dX2_readClause_23 : decode cX2_readClause 23 = .ok (.ifCond .eq 11, 3) := by decide +kernel
theorem dX2_readClause_26 : decode cX2_readClause 26 = .ok (.aload_n 0, 1) := by decide +kernel
theorem dX2_readClause_27 : decode cX2_readClause 27 = .ok (.aload_n 1, 1) := by decide +kernel
theorem dX2_readClause_28 : decode cX2_readClause 28 = .ok (.invokevirtual 62, 3) := by decide +kernel
theorem dX2_readClause_31 : decode cX2_readClause 31 = .ok (.goto 25, 3) := by decide +kernel
theorem dX2_readClause_34 : decode cX2_readClause 34 = .ok (.aload_n 1, 1) := by decide +kernel
theorem dX2_readClause_35 : decode cX2_readClause 35 = .ok (.ldc 65, 2) := by decide +kernel
theorem dX2_readClause_37 : decode cX2_readClause 37 = .ok (.invokevirtual 53, 3) := by decide +kernel
theorem dX2_readClause_40 : decode cX2_readClause 40 = .ok (.ifCond .eq 11, 3) := by decide +kernel
theorem dX2_readClause_43 : decode cX2_readClause 43 = .ok (.aload_n 0, 1) := by decide +kernel
theorem dX2_readClause_44 : decode cX2_readClause 44 = .ok (.aload_n 1, 1) := by decide +kernel
theorem dX2_readClause_45 : decode cX2_readClause 45 = .ok (.invokevirtual 67, 3) := by decide +kernel
theorem dX2_readClause_48 : decode cX2_readClause 48 = .ok (.goto 8, 3) := by decide +kernel
theorem dX2_readClause_51 : decode cX2_readClause 51 = .ok (.aload_n 1, 1) := by decide +kernel
theorem dX2_readClause_52 : decode cX2_readClause 52 = .ok (.iconst 1, 1) := by decide +kernel
theorem dX2_readClause_53 : decode cX2_readClause 53 = .ok (.invokevirtual 70, 3) := by decide +kernel
theorem dX2_readClause_56 : decode cX2_readClause 56 = .ok (.return_, 1) := by decide +kernel
theorem dX2_readBed_0 : decode cX2_readBed 0 = .ok (.aload_n 0, 1) := by decide +kernel
theorem dX2_readBed_1 : decode cX2_readBed 1 = .ok (.getfield 9, 3) := by decide +kernel
theorem dX2_readBed_4 : decode cX2_readBed 4 = .ok (.bipush 6, 2) := by decide +kernel
theorem dX2_readBed_6 : decode cX2_readBed 6 = .ok (.if_icmp .lt 9, 3) := by decide +kernel
theorem dX2_readBed_9 : decode cX2_readBed 9 = .ok (.aload_n 1, 1) := by decide +kernel
theorem dX2_readBed_10 : decode cX2_readBed 10 = .ok (.iconst 3, 1) := by decide +kernel
theorem dX2_readBed_11 : decode cX2_readBed 11 = .ok (.invokevirtual 70, 3) := by decide +kernel
theorem dX2_readBed_14 : decode cX2_readBed 14 = .ok (.return_, 1) := by decide +kernel
theorem dX2_readBed_15 : decode cX2_readBed 15 = .ok (.aload_n 0, 1) := by decide +kernel
theorem dX2_readBed_16 : decode cX2_readBed 16 = .ok (.getfield 21, 3) := by decide +kernel
theorem dX2_readBed_19 : decode cX2_readBed 19 = .ok (.aload_n 0, 1) := by decide +kernel
theorem dX2_readBed_20 : decode cX2_readBed 20 = .ok (.getfield 9, 3) := by decide +kernel
theorem dX2_readBed_23 : decode cX2_readBed 23 = .ok (.aload_n 1, 1) := by decide +kernel
theorem dX2_readBed_24 : decode cX2_readBed 24 = .ok (.iconst 0, 1) := by decide +kernel
theorem dX2_readBed_25 : decode cX2_readBed 25 = .ok (.bipush 30, 2) := by decide +kernel
theorem dX2_readBed_27 : decode cX2_readBed 27 = .ok (.invokevirtual 74, 3) := by decide +kernel
theorem dX2_readBed_30 : decode cX2_readBed 30 = .ok (.iastore, 1) := by decide +kernel
theorem dX2_readBed_31 : decode cX2_readBed 31 = .ok (.aload_n 0, 1) := by decide +kernel
theorem dX2_readBed_32 : decode cX2_readBed 32 = .ok (.dup, 1) := by decide +kernel
theorem dX2_readBed_33 : decode cX2_readBed 33 = .ok (.getfield 9, 3) := by decide +kernel
theorem dX2_readBed_36 : decode cX2_readBed 36 = .ok (.iconst 1, 1) := by decide +kernel
theorem dX2_readBed_37 : decode cX2_readBed 37 = .ok (.iadd, 1) := by decide +kernel
theorem dX2_readBed_38 : decode cX2_readBed 38 = .ok (.putfield 9, 3) := by decide +kernel
theorem dX2_readBed_41 : decode cX2_readBed 41 = .ok (.return_, 1) := by decide +kernel
theorem dX2_readLetter_0 : decode cX2_readLetter 0 = .ok (.aload_n 0, 1) := by decide +kernel
theorem dX2_readLetter_1 : decode cX2_readLetter 1 = .ok (.getfield 15, 3) := by decide +kernel
theorem dX2_readLetter_4 : decode cX2_readLetter 4 = .ok (.bipush 6, 2) := by decide +kernel
theorem dX2_readLetter_6 : decode cX2_readLetter 6 = .ok (.if_icmp .lt 9, 3) := by decide +kernel
theorem dX2_readLetter_9 : decode cX2_readLetter 9 = .ok (.aload_n 1, 1) := by decide +kernel
theorem dX2_readLetter_10 : decode cX2_readLetter 10 = .ok (.iconst 3, 1) := by decide +kernel
theorem dX2_readLetter_11 : decode cX2_readLetter 11 = .ok (.invokevirtual 70, 3) := by decide +kernel
theorem dX2_readLetter_14 : decode cX2_readLetter 14 = .ok (.return_, 1) := by decide +kernel
theorem dX2_readLetter_15 : decode cX2_readLetter 15 = .ok (.aload_n 0, 1) := by decide +kernel
theorem dX2_readLetter_16 : decode cX2_readLetter 16 = .ok (.getfield 25, 3) := by decide +kernel
theorem dX2_readLetter_19 : decode cX2_readLetter 19 = .ok (.aload_n 0, 1) := by decide +kernel
theorem dX2_readLetter_20 : decode cX2_readLetter 20 = .ok (.getfield 15, 3) := by decide +kernel
theorem dX2_readLetter_23 : decode cX2_readLetter 23 = .ok (.aload_n 1, 1) := by decide +kernel
theorem dX2_readLetter_24 : decode cX2_readLetter 24 = .ok (.iconst 0, 1) := by decide +kernel
theorem dX2_readLetter_25 : decode cX2_readLetter 25 = .ok (.aload_n 0, 1) := by decide +kernel
theorem dX2_readLetter_26 : decode cX2_readLetter 26 = .ok (.getfield 9, 3) := by decide +kernel
theorem dX2_readLetter_29 : decode cX2_readLetter 29 = .ok (.iconst 1, 1) := by decide +kernel
theorem dX2_readLetter_30 : decode cX2_readLetter 30 = .ok (.isub, 1) := by decide +kernel
theorem dX2_readLetter_31 : decode cX2_readLetter 31 = .ok (.invokevirtual 74, 3) := by decide +kernel
theorem dX2_readLetter_34 : decode cX2_readLetter 34 = .ok (.iastore, 1) := by decide +kernel
theorem dX2_readLetter_35 : decode cX2_readLetter 35 = .ok (.iconst 0, 1) := by decide +kernel
theorem dX2_readLetter_36 : decode cX2_readLetter 36 = .ok (.istore_n 2, 1) := by decide +kernel
theorem dX2_readLetter_37 : decode cX2_readLetter 37 = .ok (.aload_n 0, 1) := by decide +kernel
theorem dX2_readLetter_38 : decode cX2_readLetter 38 = .ok (.getfield 31, 3) := by decide +kernel
theorem dX2_readLetter_41 : decode cX2_readLetter 41 = .ok (.aload_n 0, 1) := by decide +kernel
theorem dX2_readLetter_42 : decode cX2_readLetter 42 = .ok (.getfield 15, 3) := by decide +kernel
theorem dX2_readLetter_45 : decode cX2_readLetter 45 = .ok (.bipush 8, 2) := by decide +kernel
theorem dX2_readLetter_47 : decode cX2_readLetter 47 = .ok (.imul, 1) := by decide +kernel
theorem dX2_readLetter_48 : decode cX2_readLetter 48 = .ok (.iload_n 2, 1) := by decide +kernel
theorem dX2_readLetter_49 : decode cX2_readLetter 49 = .ok (.iadd, 1) := by decide +kernel
theorem dX2_readLetter_50 : decode cX2_readLetter 50 = .ok (.aload_n 1, 1) := by decide +kernel
theorem dX2_readLetter_51 : decode cX2_readLetter 51 = .ok (.iconst 0, 1) := by decide +kernel
theorem dX2_readLetter_52 : decode cX2_readLetter 52 = .ok (.bipush 15, 2) := by decide +kernel
theorem dX2_readLetter_54 : decode cX2_readLetter 54 = .ok (.invokevirtual 74, 3) := by decide +kernel
theorem dX2_readLetter_57 : decode cX2_readLetter 57 = .ok (.iastore, 1) := by decide +kernel
theorem dX2_readLetter_58 : decode cX2_readLetter 58 = .ok (.iinc 2 1, 3) := by decide +kernel
theorem dX2_readLetter_61 : decode cX2_readLetter 61 = .ok (.iload_n 2, 1) := by decide +kernel
theorem dX2_readLetter_62 : decode cX2_readLetter 62 = .ok (.bipush 8, 2) := by decide +kernel
theorem dX2_readLetter_64 : decode cX2_readLetter 64 = .ok (.if_icmp .ge 10, 3) := by decide +kernel
theorem dX2_readLetter_67 : decode cX2_readLetter 67 = .ok (.aload_n 1, 1) := by decide +kernel
theorem dX2_readLetter_68 : decode cX2_readLetter 68 = .ok (.invokevirtual 78, 3) := by decide +kernel
theorem dX2_readLetter_71 : decode cX2_readLetter 71 = .ok (.ifCond .ne (-34), 3) := by decide +kernel
theorem dX2_readLetter_74 : decode cX2_readLetter 74 = .ok (.aload_n 1, 1) := by decide +kernel
theorem dX2_readLetter_75 : decode cX2_readLetter 75 = .ok (.invokevirtual 78, 3) := by decide +kernel
theorem dX2_readLetter_78 : decode cX2_readLetter 78 = .ok (.ifCond .eq 16, 3) := by decide +kernel
theorem dX2_readLetter_81 : decode cX2_readLetter 81 = .ok (.aload_n 1, 1) := by decide +kernel
theorem dX2_readLetter_82 : decode cX2_readLetter 82 = .ok (.iconst 0, 1) := by decide +kernel
theorem dX2_readLetter_83 : decode cX2_readLetter 83 = .ok (.bipush 15, 2) := by decide +kernel
theorem dX2_readLetter_85 : decode cX2_readLetter 85 = .ok (.invokevirtual 74, 3) := by decide +kernel
theorem dX2_readLetter_88 : decode cX2_readLetter 88 = .ok (.pop, 1) := by decide +kernel
theorem dX2_readLetter_89 : decode cX2_readLetter 89 = .ok (.aload_n 1, 1) := by decide +kernel
theorem dX2_readLetter_90 : decode cX2_readLetter 90 = .ok (.iconst 3, 1) := by decide +kernel
theorem dX2_readLetter_91 : decode cX2_readLetter 91 = .ok (.invokevirtual 70, 3) := by decide +kernel
theorem dX2_readLetter_94 : decode cX2_readLetter 94 = .ok (.aload_n 0, 1) := by decide +kernel
theorem dX2_readLetter_95 : decode cX2_readLetter 95 = .ok (.getfield 28, 3) := by decide +kernel
theorem dX2_readLetter_98 : decode cX2_readLetter 98 = .ok (.aload_n 0, 1) := by decide +kernel
theorem dX2_readLetter_99 : decode cX2_readLetter 99 = .ok (.getfield 15, 3) := by decide +kernel
theorem dX2_readLetter_102 : decode cX2_readLetter 102 = .ok (.iload_n 2, 1) := by decide +kernel
theorem dX2_readLetter_103 : decode cX2_readLetter 103 = .ok (.iastore, 1) := by decide +kernel
theorem dX2_readLetter_104 : decode cX2_readLetter 104 = .ok (.aload_n 0, 1) := by decide +kernel
theorem dX2_readLetter_105 : decode cX2_readLetter 105 = .ok (.dup, 1) := by decide +kernel
theorem dX2_readLetter_106 : decode cX2_readLetter 106 = .ok (.getfield 15, 3) := by decide +kernel
theorem dX2_readLetter_109 : decode cX2_readLetter 109 = .ok (.iconst 1, 1) := by decide +kernel
theorem dX2_readLetter_110 : decode cX2_readLetter 110 = .ok (.iadd, 1) := by decide +kernel
theorem dX2_readLetter_111 : decode cX2_readLetter 111 = .ok (.putfield 15, 3) := by decide +kernel
theorem dX2_readLetter_114 : decode cX2_readLetter 114 = .ok (.return_, 1) := by decide +kernel
theorem dX2_readReader_0 : decode cX2_readReader 0 = .ok (.aload_n 0, 1) := by decide +kernel
theorem dX2_readReader_1 : decode cX2_readReader 1 = .ok (.getfield 18, 3) := by decide +kernel
theorem dX2_readReader_4 : decode cX2_readReader 4 = .ok (.iconst 5, 1) := by decide +kernel
theorem dX2_readReader_5 : decode cX2_readReader 5 = .ok (.if_icmp .lt 9, 3) := by decide +kernel
theorem dX2_readReader_8 : decode cX2_readReader 8 = .ok (.aload_n 1, 1) := by decide +kernel
theorem dX2_readReader_9 : decode cX2_readReader 9 = .ok (.iconst 3, 1) := by decide +kernel
theorem dX2_readReader_10 : decode cX2_readReader 10 = .ok (.invokevirtual 70, 3) := by decide +kernel
theorem dX2_readReader_13 : decode cX2_readReader 13 = .ok (.return_, 1) := by decide +kernel
theorem dX2_readReader_14 : decode cX2_readReader 14 = .ok (.aload_n 0, 1) := by decide +kernel
theorem dX2_readReader_15 : decode cX2_readReader 15 = .ok (.getfield 34, 3) := by decide +kernel
theorem dX2_readReader_18 : decode cX2_readReader 18 = .ok (.aload_n 0, 1) := by decide +kernel
theorem dX2_readReader_19 : decode cX2_readReader 19 = .ok (.getfield 18, 3) := by decide +kernel
theorem dX2_readReader_22 : decode cX2_readReader 22 = .ok (.aload_n 1, 1) := by decide +kernel
theorem dX2_readReader_23 : decode cX2_readReader 23 = .ok (.iconst 0, 1) := by decide +kernel
theorem dX2_readReader_24 : decode cX2_readReader 24 = .ok (.aload_n 0, 1) := by decide +kernel
theorem dX2_readReader_25 : decode cX2_readReader 25 = .ok (.getfield 9, 3) := by decide +kernel
theorem dX2_readReader_28 : decode cX2_readReader 28 = .ok (.iconst 1, 1) := by decide +kernel
theorem dX2_readReader_29 : decode cX2_readReader 29 = .ok (.isub, 1) := by decide +kernel
theorem dX2_readReader_30 : decode cX2_readReader 30 = .ok (.invokevirtual 74, 3) := by decide +kernel
theorem dX2_readReader_33 : decode cX2_readReader 33 = .ok (.iastore, 1) := by decide +kernel
theorem dX2_readReader_34 : decode cX2_readReader 34 = .ok (.aload_n 0, 1) := by decide +kernel
theorem dX2_readReader_35 : decode cX2_readReader 35 = .ok (.dup, 1) := by decide +kernel
theorem dX2_readReader_36 : decode cX2_readReader 36 = .ok (.getfield 18, 3) := by decide +kernel
theorem dX2_readReader_39 : decode cX2_readReader 39 = .ok (.iconst 1, 1) := by decide +kernel
theorem dX2_readReader_40 : decode cX2_readReader 40 = .ok (.iadd, 1) := by decide +kernel
theorem dX2_readReader_41 : decode cX2_readReader 41 = .ok (.putfield 18, 3) := by decide +kernel
theorem dX2_readReader_44 : decode cX2_readReader 44 = .ok (.return_, 1) := by decide +kernel
theorem dX2_wordAt_0 : decode cX2_wordAt 0 = .ok (.iload_n 2, 1) := by decide +kernel
theorem dX2_wordAt_1 : decode cX2_wordAt 1 = .ok (.ifCond .lt 23, 3) := by decide +kernel
theorem dX2_wordAt_4 : decode cX2_wordAt 4 = .ok (.iload_n 2, 1) := by decide +kernel
theorem dX2_wordAt_5 : decode cX2_wordAt 5 = .ok (.bipush 8, 2) := by decide +kernel
theorem dX2_wordAt_7 : decode cX2_wordAt 7 = .ok (.if_icmp .ge 17, 3) := by decide +kernel
theorem dX2_wordAt_10 : decode cX2_wordAt 10 = .ok (.aload_n 0, 1) := by decide +kernel
theorem dX2_wordAt_11 : decode cX2_wordAt 11 = .ok (.getfield 31, 3) := by decide +kernel
theorem dX2_wordAt_14 : decode cX2_wordAt 14 = .ok (.iload_n 1, 1) := by decide +kernel
theorem dX2_wordAt_15 : decode cX2_wordAt 15 = .ok (.bipush 8, 2) := by decide +kernel
theorem dX2_wordAt_17 : decode cX2_wordAt 17 = .ok (.imul, 1) := by decide +kernel
theorem dX2_wordAt_18 : decode cX2_wordAt 18 = .ok (.iload_n 2, 1) := by decide +kernel
theorem dX2_wordAt_19 : decode cX2_wordAt 19 = .ok (.iadd, 1) := by decide +kernel
theorem dX2_wordAt_20 : decode cX2_wordAt 20 = .ok (.iaload, 1) := by decide +kernel
theorem dX2_wordAt_21 : decode cX2_wordAt 21 = .ok (.goto 4, 3) := by decide +kernel
theorem dX2_wordAt_24 : decode cX2_wordAt 24 = .ok (.iconst (-1), 1) := by decide +kernel
theorem dX2_wordAt_25 : decode cX2_wordAt 25 = .ok (.ireturn, 1) := by decide +kernel
theorem dX3_init_0 : decode cX3_init 0 = .ok (.aload_n 0, 1) := by decide +kernel
theorem dX3_init_1 : decode cX3_init 1 = .ok (.invokespecial 1, 3) := by decide +kernel
theorem dX3_init_4 : decode cX3_init 4 = .ok (.aload_n 0, 1) := by decide +kernel
theorem dX3_init_5 : decode cX3_init 5 = .ok (.new 7, 3) := by decide +kernel
theorem dX3_init_8 : decode cX3_init 8 = .ok (.dup, 1) := by decide +kernel
theorem dX3_init_9 : decode cX3_init 9 = .ok (.invokespecial 9, 3) := by decide +kernel
theorem dX3_init_12 : decode cX3_init 12 = .ok (.putfield 10, 3) := by decide +kernel
theorem dX3_init_15 : decode cX3_init 15 = .ok (.aload_n 0, 1) := by decide +kernel
theorem dX3_init_16 : decode cX3_init 16 = .ok (.getfield 10, 3) := by decide +kernel
theorem dX3_init_19 : decode cX3_init 19 = .ok (.aload_n 1, 1) := by decide +kernel
theorem dX3_init_20 : decode cX3_init 20 = .ok (.invokevirtual 16, 3) := by decide +kernel
theorem dX3_init_23 : decode cX3_init 23 = .ok (.aload_n 0, 1) := by decide +kernel
theorem dX3_init_24 : decode cX3_init 24 = .ok (.aload_n 2, 1) := by decide +kernel
theorem dX3_init_25 : decode cX3_init 25 = .ok (.putfield 20, 3) := by decide +kernel
theorem dX3_init_28 : decode cX3_init 28 = .ok (.aload_n 0, 1) := by decide +kernel
theorem dX3_init_29 : decode cX3_init 29 = .ok (.iload_n 3, 1) := by decide +kernel
theorem dX3_init_30 : decode cX3_init 30 = .ok (.putfield 24, 3) := by decide +kernel
theorem dX3_init_33 : decode cX3_init 33 = .ok (.return_, 1) := by decide +kernel
theorem dX4_init_0 : decode cX4_init 0 = .ok (.aload_n 0, 1) := by decide +kernel
theorem dX4_init_1 : decode cX4_init 1 = .ok (.invokespecial 3, 3) := by decide +kernel
theorem dX4_init_4 : decode cX4_init 4 = .ok (.aload_n 0, 1) := by decide +kernel
theorem dX4_init_5 : decode cX4_init 5 = .ok (.iconst 0, 1) := by decide +kernel
theorem dX4_init_6 : decode cX4_init 6 = .ok (.putfield 9, 3) := by decide +kernel
theorem dX4_init_9 : decode cX4_init 9 = .ok (.aload_n 0, 1) := by decide +kernel
theorem dX4_init_10 : decode cX4_init 10 = .ok (.iconst 0, 1) := by decide +kernel
theorem dX4_init_11 : decode cX4_init 11 = .ok (.putfield 15, 3) := by decide +kernel
theorem dX4_init_14 : decode cX4_init 14 = .ok (.aload_n 0, 1) := by decide +kernel
theorem dX4_init_15 : decode cX4_init 15 = .ok (.iconst 0, 1) := by decide +kernel
theorem dX4_init_16 : decode cX4_init 16 = .ok (.putfield 18, 3) := by decide +kernel
theorem dX4_init_19 : decode cX4_init 19 = .ok (.aload_n 0, 1) := by decide +kernel
theorem dX4_init_20 : decode cX4_init 20 = .ok (.iconst 0, 1) := by decide +kernel
theorem dX4_init_21 : decode cX4_init 21 = .ok (.putfield 21, 3) := by decide +kernel
theorem dX4_init_24 : decode cX4_init 24 = .ok (.aload_n 0, 1) := by decide +kernel
theorem dX4_init_25 : decode cX4_init 25 = .ok (.iconst 0, 1) := by decide +kernel
theorem dX4_init_26 : decode cX4_init 26 = .ok (.putfield 24, 3) := by decide +kernel
theorem dX4_init_29 : decode cX4_init 29 = .ok (.aload_n 0, 1) := by decide +kernel
theorem dX4_init_30 : decode cX4_init 30 = .ok (.iconst 0, 1) := by decide +kernel
theorem dX4_init_31 : decode cX4_init 31 = .ok (.putfield 27, 3) := by decide +kernel
theorem dX4_init_34 : decode cX4_init 34 = .ok (.aload_n 0, 1) := by decide +kernel
theorem dX4_init_35 : decode cX4_init 35 = .ok (.bipush 6, 2) := by decide +kernel
theorem dX4_init_37 : decode cX4_init 37 = .ok (.newarray .int, 2) := by decide +kernel
theorem dX4_init_39 : decode cX4_init 39 = .ok (.putfield 30, 3) := by decide +kernel
theorem dX4_init_42 : decode cX4_init 42 = .ok (.aload_n 0, 1) := by decide +kernel
theorem dX4_init_43 : decode cX4_init 43 = .ok (.iconst 5, 1) := by decide +kernel
theorem dX4_init_44 : decode cX4_init 44 = .ok (.newarray .int, 2) := by decide +kernel
theorem dX4_init_46 : decode cX4_init 46 = .ok (.putfield 34, 3) := by decide +kernel
theorem dX4_init_49 : decode cX4_init 49 = .ok (.aload_n 0, 1) := by decide +kernel
theorem dX4_init_50 : decode cX4_init 50 = .ok (.iconst 5, 1) := by decide +kernel
theorem dX4_init_51 : decode cX4_init 51 = .ok (.newarray .int, 2) := by decide +kernel
theorem dX4_init_53 : decode cX4_init 53 = .ok (.putfield 37, 3) := by decide +kernel
theorem dX4_init_56 : decode cX4_init 56 = .ok (.aload_n 0, 1) := by decide +kernel
theorem dX4_init_57 : decode cX4_init 57 = .ok (.bipush 6, 2) := by decide +kernel
theorem dX4_init_59 : decode cX4_init 59 = .ok (.newarray .int, 2) := by decide +kernel
theorem dX4_init_61 : decode cX4_init 61 = .ok (.putfield 40, 3) := by decide +kernel
theorem dX4_init_64 : decode cX4_init 64 = .ok (.aload_n 0, 1) := by decide +kernel
theorem dX4_init_65 : decode cX4_init 65 = .ok (.bipush 72, 2) := by decide +kernel
theorem dX4_init_67 : decode cX4_init 67 = .ok (.newarray .int, 2) := by decide +kernel
theorem dX4_init_69 : decode cX4_init 69 = .ok (.putfield 43, 3) := by decide +kernel
theorem dX4_init_72 : decode cX4_init 72 = .ok (.aload_n 0, 1) := by decide +kernel
theorem dX4_init_73 : decode cX4_init 73 = .ok (.bipush 60, 2) := by decide +kernel
theorem dX4_init_75 : decode cX4_init 75 = .ok (.newarray .int, 2) := by decide +kernel
theorem dX4_init_77 : decode cX4_init 77 = .ok (.putfield 46, 3) := by decide +kernel
theorem dX4_init_80 : decode cX4_init 80 = .ok (.return_, 1) := by decide +kernel
theorem dX4_begin_0 : decode cX4_begin 0 = .ok (.aload_n 0, 1) := by decide +kernel
theorem dX4_begin_1 : decode cX4_begin 1 = .ok (.iconst 0, 1) := by decide +kernel
theorem dX4_begin_2 : decode cX4_begin 2 = .ok (.putfield 9, 3) := by decide +kernel
theorem dX4_begin_5 : decode cX4_begin 5 = .ok (.aload_n 0, 1) := by decide +kernel
theorem dX4_begin_6 : decode cX4_begin 6 = .ok (.iconst 0, 1) := by decide +kernel
theorem dX4_begin_7 : decode cX4_begin 7 = .ok (.putfield 15, 3) := by decide +kernel
theorem dX4_begin_10 : decode cX4_begin 10 = .ok (.aload_n 0, 1) := by decide +kernel
theorem dX4_begin_11 : decode cX4_begin 11 = .ok (.iconst 0, 1) := by decide +kernel
theorem dX4_begin_12 : decode cX4_begin 12 = .ok (.putfield 18, 3) := by decide +kernel
theorem dX4_begin_15 : decode cX4_begin 15 = .ok (.aload_n 0, 1) := by decide +kernel
theorem dX4_begin_16 : decode cX4_begin 16 = .ok (.iconst 0, 1) := by decide +kernel
theorem dX4_begin_17 : decode cX4_begin 17 = .ok (.putfield 21, 3) := by decide +kernel
theorem dX4_begin_20 : decode cX4_begin 20 = .ok (.aload_n 0, 1) := by decide +kernel
theorem dX4_begin_21 : decode cX4_begin 21 = .ok (.iconst 0, 1) := by decide +kernel
theorem dX4_begin_22 : decode cX4_begin 22 = .ok (.putfield 24, 3) := by decide +kernel
theorem dX4_begin_25 : decode cX4_begin 25 = .ok (.aload_n 0, 1) := by decide +kernel
theorem dX4_begin_26 : decode cX4_begin 26 = .ok (.iconst 0, 1) := by decide +kernel
theorem dX4_begin_27 : decode cX4_begin 27 = .ok (.putfield 27, 3) := by decide +kernel
theorem dX4_begin_30 : decode cX4_begin 30 = .ok (.iconst 0, 1) := by decide +kernel
theorem dX4_begin_31 : decode cX4_begin 31 = .ok (.istore_n 2, 1) := by decide +kernel
theorem dX4_begin_32 : decode cX4_begin 32 = .ok (.iload_n 2, 1) := by decide +kernel
theorem dX4_begin_33 : decode cX4_begin 33 = .ok (.bipush 6, 2) := by decide +kernel
theorem dX4_begin_35 : decode cX4_begin 35 = .ok (.if_icmp .ge 16, 3) := by decide +kernel
theorem dX4_begin_38 : decode cX4_begin 38 = .ok (.aload_n 0, 1) := by decide +kernel
theorem dX4_begin_39 : decode cX4_begin 39 = .ok (.getfield 30, 3) := by decide +kernel
theorem dX4_begin_42 : decode cX4_begin 42 = .ok (.iload_n 2, 1) := by decide +kernel
theorem dX4_begin_43 : decode cX4_begin 43 = .ok (.iconst 0, 1) := by decide +kernel
theorem dX4_begin_44 : decode cX4_begin 44 = .ok (.iastore, 1) := by decide +kernel
theorem dX4_begin_45 : decode cX4_begin 45 = .ok (.iinc 2 1, 3) := by decide +kernel
theorem dX4_begin_48 : decode cX4_begin 48 = .ok (.goto (-16), 3) := by decide +kernel
theorem dX4_begin_51 : decode cX4_begin 51 = .ok (.iconst 0, 1) := by decide +kernel
theorem dX4_begin_52 : decode cX4_begin 52 = .ok (.istore_n 2, 1) := by decide +kernel
theorem dX4_begin_53 : decode cX4_begin 53 = .ok (.iload_n 2, 1) := by decide +kernel
theorem dX4_begin_54 : decode cX4_begin 54 = .ok (.iconst 5, 1) := by decide +kernel
theorem dX4_begin_55 : decode cX4_begin 55 = .ok (.if_icmp .ge 28, 3) := by decide +kernel
theorem dX4_begin_58 : decode cX4_begin 58 = .ok (.aload_n 0, 1) := by decide +kernel
theorem dX4_begin_59 : decode cX4_begin 59 = .ok (.getfield 34, 3) := by decide +kernel
theorem dX4_begin_62 : decode cX4_begin 62 = .ok (.iload_n 2, 1) := by decide +kernel
theorem dX4_begin_63 : decode cX4_begin 63 = .ok (.aload_n 1, 1) := by decide +kernel
theorem dX4_begin_64 : decode cX4_begin 64 = .ok (.getfield 49, 3) := by decide +kernel
theorem dX4_begin_67 : decode cX4_begin 67 = .ok (.iload_n 2, 1) := by decide +kernel
theorem dX4_begin_68 : decode cX4_begin 68 = .ok (.iaload, 1) := by decide +kernel
theorem dX4_begin_69 : decode cX4_begin 69 = .ok (.iastore, 1) := by decide +kernel
theorem dX4_begin_70 : decode cX4_begin 70 = .ok (.aload_n 0, 1) := by decide +kernel
theorem dX4_begin_71 : decode cX4_begin 71 = .ok (.getfield 37, 3) := by decide +kernel
theorem dX4_begin_74 : decode cX4_begin 74 = .ok (.iload_n 2, 1) := by decide +kernel
theorem dX4_begin_75 : decode cX4_begin 75 = .ok (.iconst 0, 1) := by decide +kernel
theorem dX4_begin_76 : decode cX4_begin 76 = .ok (.iastore, 1) := by decide +kernel
theorem dX4_begin_77 : decode cX4_begin 77 = .ok (.iinc 2 1, 3) := by decide +kernel
theorem dX4_begin_80 : decode cX4_begin 80 = .ok (.goto (-27), 3) := by decide +kernel
theorem dX4_begin_83 : decode cX4_begin 83 = .ok (.iconst 0, 1) := by decide +kernel
theorem dX4_begin_84 : decode cX4_begin 84 = .ok (.istore_n 2, 1) := by decide +kernel
theorem dX4_begin_85 : decode cX4_begin 85 = .ok (.iload_n 2, 1) := by decide +kernel
theorem dX4_begin_86 : decode cX4_begin 86 = .ok (.bipush 6, 2) := by decide +kernel
theorem dX4_begin_88 : decode cX4_begin 88 = .ok (.if_icmp .ge 16, 3) := by decide +kernel
theorem dX4_begin_91 : decode cX4_begin 91 = .ok (.aload_n 0, 1) := by decide +kernel
theorem dX4_begin_92 : decode cX4_begin 92 = .ok (.getfield 40, 3) := by decide +kernel
theorem dX4_begin_95 : decode cX4_begin 95 = .ok (.iload_n 2, 1) := by decide +kernel
theorem dX4_begin_96 : decode cX4_begin 96 = .ok (.iconst 0, 1) := by decide +kernel
theorem dX4_begin_97 : decode cX4_begin 97 = .ok (.iastore, 1) := by decide +kernel
theorem dX4_begin_98 : decode cX4_begin 98 = .ok (.iinc 2 1, 3) := by decide +kernel
theorem dX4_begin_101 : decode cX4_begin 101 = .ok (.goto (-16), 3) := by decide +kernel
theorem dX4_begin_104 : decode cX4_begin 104 = .ok (.return_, 1) := by decide +kernel
theorem dX4_copy_0 : decode cX4_copy 0 = .ok (.aload_n 0, 1) := by decide +kernel
theorem dX4_copy_1 : decode cX4_copy 1 = .ok (.aload_n 1, 1) := by decide +kernel
theorem dX4_copy_2 : decode cX4_copy 2 = .ok (.getfield 9, 3) := by decide +kernel
theorem dX4_copy_5 : decode cX4_copy 5 = .ok (.putfield 9, 3) := by decide +kernel
theorem dX4_copy_8 : decode cX4_copy 8 = .ok (.aload_n 0, 1) := by decide +kernel
theorem dX4_copy_9 : decode cX4_copy 9 = .ok (.aload_n 1, 1) := by decide +kernel
theorem dX4_copy_10 : decode cX4_copy 10 = .ok (.getfield 15, 3) := by decide +kernel
theorem dX4_copy_13 : decode cX4_copy 13 = .ok (.putfield 15, 3) := by decide +kernel
theorem dX4_copy_16 : decode cX4_copy 16 = .ok (.aload_n 0, 1) := by decide +kernel
theorem dX4_copy_17 : decode cX4_copy 17 = .ok (.aload_n 1, 1) := by decide +kernel
theorem dX4_copy_18 : decode cX4_copy 18 = .ok (.getfield 18, 3) := by decide +kernel
theorem dX4_copy_21 : decode cX4_copy 21 = .ok (.putfield 18, 3) := by decide +kernel
theorem dX4_copy_24 : decode cX4_copy 24 = .ok (.aload_n 0, 1) := by decide +kernel
theorem dX4_copy_25 : decode cX4_copy 25 = .ok (.aload_n 1, 1) := by decide +kernel
theorem dX4_copy_26 : decode cX4_copy 26 = .ok (.getfield 21, 3) := by decide +kernel
theorem dX4_copy_29 : decode cX4_copy 29 = .ok (.putfield 21, 3) := by decide +kernel
theorem dX4_copy_32 : decode cX4_copy 32 = .ok (.aload_n 0, 1) := by decide +kernel
theorem dX4_copy_33 : decode cX4_copy 33 = .ok (.aload_n 1, 1) := by decide +kernel
theorem dX4_copy_34 : decode cX4_copy 34 = .ok (.getfield 24, 3) := by decide +kernel
theorem dX4_copy_37 : decode cX4_copy 37 = .ok (.putfield 24, 3) := by decide +kernel
theorem dX4_copy_40 : decode cX4_copy 40 = .ok (.aload_n 0, 1) := by decide +kernel
theorem dX4_copy_41 : decode cX4_copy 41 = .ok (.aload_n 1, 1) := by decide +kernel
theorem dX4_copy_42 : decode cX4_copy 42 = .ok (.getfield 27, 3) := by decide +kernel
theorem dX4_copy_45 : decode cX4_copy 45 = .ok (.putfield 27, 3) := by decide +kernel
theorem dX4_copy_48 : decode cX4_copy 48 = .ok (.aload_n 1, 1) := by decide +kernel
theorem dX4_copy_49 : decode cX4_copy 49 = .ok (.getfield 30, 3) := by decide +kernel
theorem dX4_copy_52 : decode cX4_copy 52 = .ok (.iconst 0, 1) := by decide +kernel
theorem dX4_copy_53 : decode cX4_copy 53 = .ok (.aload_n 0, 1) := by decide +kernel
theorem dX4_copy_54 : decode cX4_copy 54 = .ok (.getfield 30, 3) := by decide +kernel
theorem dX4_copy_57 : decode cX4_copy 57 = .ok (.iconst 0, 1) := by decide +kernel
theorem dX4_copy_58 : decode cX4_copy 58 = .ok (.bipush 6, 2) := by decide +kernel
theorem dX4_copy_60 : decode cX4_copy 60 = .ok (.invokestatic 54, 3) := by decide +kernel
theorem dX4_copy_63 : decode cX4_copy 63 = .ok (.aload_n 1, 1) := by decide +kernel
theorem dX4_copy_64 : decode cX4_copy 64 = .ok (.getfield 34, 3) := by decide +kernel
theorem dX4_copy_67 : decode cX4_copy 67 = .ok (.iconst 0, 1) := by decide +kernel
theorem dX4_copy_68 : decode cX4_copy 68 = .ok (.aload_n 0, 1) := by decide +kernel
theorem dX4_copy_69 : decode cX4_copy 69 = .ok (.getfield 34, 3) := by decide +kernel
theorem dX4_copy_72 : decode cX4_copy 72 = .ok (.iconst 0, 1) := by decide +kernel
theorem dX4_copy_73 : decode cX4_copy 73 = .ok (.iconst 5, 1) := by decide +kernel
theorem dX4_copy_74 : decode cX4_copy 74 = .ok (.invokestatic 54, 3) := by decide +kernel
theorem dX4_copy_77 : decode cX4_copy 77 = .ok (.aload_n 1, 1) := by decide +kernel
theorem dX4_copy_78 : decode cX4_copy 78 = .ok (.getfield 37, 3) := by decide +kernel
theorem dX4_copy_81 : decode cX4_copy 81 = .ok (.iconst 0, 1) := by decide +kernel
theorem dX4_copy_82 : decode cX4_copy 82 = .ok (.aload_n 0, 1) := by decide +kernel
theorem dX4_copy_83 : decode cX4_copy 83 = .ok (.getfield 37, 3) := by decide +kernel
theorem dX4_copy_86 : decode cX4_copy 86 = .ok (.iconst 0, 1) := by decide +kernel
theorem dX4_copy_87 : decode cX4_copy 87 = .ok (.iconst 5, 1) := by decide +kernel
theorem dX4_copy_88 : decode cX4_copy 88 = .ok (.invokestatic 54, 3) := by decide +kernel
theorem dX4_copy_91 : decode cX4_copy 91 = .ok (.aload_n 1, 1) := by decide +kernel
theorem dX4_copy_92 : decode cX4_copy 92 = .ok (.getfield 40, 3) := by decide +kernel
theorem dX4_copy_95 : decode cX4_copy 95 = .ok (.iconst 0, 1) := by decide +kernel
theorem dX4_copy_96 : decode cX4_copy 96 = .ok (.aload_n 0, 1) := by decide +kernel
theorem dX4_copy_97 : decode cX4_copy 97 = .ok (.getfield 40, 3) := by decide +kernel
theorem dX4_copy_100 : decode cX4_copy 100 = .ok (.iconst 0, 1) := by decide +kernel
theorem dX4_copy_101 : decode cX4_copy 101 = .ok (.bipush 6, 2) := by decide +kernel
theorem dX4_copy_103 : decode cX4_copy 103 = .ok (.invokestatic 54, 3) := by decide +kernel
theorem dX4_copy_106 : decode cX4_copy 106 = .ok (.aload_n 1, 1) := by decide +kernel
theorem dX4_copy_107 : decode cX4_copy 107 = .ok (.getfield 43, 3) := by decide +kernel
theorem dX4_copy_110 : decode cX4_copy 110 = .ok (.iconst 0, 1) := by decide +kernel
theorem dX4_copy_111 : decode cX4_copy 111 = .ok (.aload_n 0, 1) := by decide +kernel
theorem dX4_copy_112 : decode cX4_copy 112 = .ok (.getfield 43, 3) := by decide +kernel
theorem dX4_copy_115 : decode cX4_copy 115 = .ok (.iconst 0, 1) := by decide +kernel
theorem dX4_copy_116 : decode cX4_copy 116 = .ok (.bipush 72, 2) := by decide +kernel
theorem dX4_copy_118 : decode cX4_copy 118 = .ok (.invokestatic 54, 3) := by decide +kernel
theorem dX4_copy_121 : decode cX4_copy 121 = .ok (.aload_n 1, 1) := by decide +kernel
theorem dX4_copy_122 : decode cX4_copy 122 = .ok (.getfield 46, 3) := by decide +kernel
theorem dX4_copy_125 : decode cX4_copy 125 = .ok (.iconst 0, 1) := by decide +kernel
theorem dX4_copy_126 : decode cX4_copy 126 = .ok (.aload_n 0, 1) := by decide +kernel
theorem dX4_copy_127 : decode cX4_copy 127 = .ok (.getfield 46, 3) := by decide +kernel
theorem dX4_copy_130 : decode cX4_copy 130 = .ok (.iconst 0, 1) := by decide +kernel
theorem dX4_copy_131 : decode cX4_copy 131 = .ok (.bipush 60, 2) := by decide +kernel
theorem dX4_copy_133 : decode cX4_copy 133 = .ok (.invokestatic 54, 3) := by decide +kernel
theorem dX4_copy_136 : decode cX4_copy 136 = .ok (.return_, 1) := by decide +kernel
theorem dX4_isTied_0 : decode cX4_isTied 0 = .ok (.aload_n 0, 1) := by decide +kernel
theorem dX4_isTied_1 : decode cX4_isTied 1 = .ok (.getfield 24, 3) := by decide +kernel
theorem dX4_isTied_4 : decode cX4_isTied 4 = .ok (.iload_n 1, 1) := by decide +kernel
theorem dX4_isTied_5 : decode cX4_isTied 5 = .ok (.invokestatic 60, 3) := by decide +kernel
theorem dX4_isTied_8 : decode cX4_isTied 8 = .ok (.ireturn, 1) := by decide +kernel
theorem dX4_leftOf_0 : decode cX4_leftOf 0 = .ok (.aload_n 1, 1) := by decide +kernel
theorem dX4_leftOf_1 : decode cX4_leftOf 1 = .ok (.getfield 64, 3) := by decide +kernel
theorem dX4_leftOf_4 : decode cX4_leftOf 4 = .ok (.iload_n 2, 1) := by decide +kernel
theorem dX4_leftOf_5 : decode cX4_leftOf 5 = .ok (.iaload, 1) := by decide +kernel
theorem dX4_leftOf_6 : decode cX4_leftOf 6 = .ok (.aload_n 0, 1) := by decide +kernel
theorem dX4_leftOf_7 : decode cX4_leftOf 7 = .ok (.getfield 30, 3) := by decide +kernel
theorem dX4_leftOf_10 : decode cX4_leftOf 10 = .ok (.iload_n 2, 1) := by decide +kernel
theorem dX4_leftOf_11 : decode cX4_leftOf 11 = .ok (.iaload, 1) := by decide +kernel
theorem dX4_leftOf_12 : decode cX4_leftOf 12 = .ok (.isub, 1) := by decide +kernel
theorem dX4_leftOf_13 : decode cX4_leftOf 13 = .ok (.ireturn, 1) := by decide +kernel
theorem dX4_leftOfAll_0 : decode cX4_leftOfAll 0 = .ok (.iconst 0, 1) := by decide +kernel
theorem dX4_leftOfAll_1 : decode cX4_leftOfAll 1 = .ok (.istore_n 2, 1) := by decide +kernel
theorem dX4_leftOfAll_2 : decode cX4_leftOfAll 2 = .ok (.iconst 0, 1) := by decide +kernel
theorem dX4_leftOfAll_3 : decode cX4_leftOfAll 3 = .ok (.istore_n 3, 1) := by decide +kernel
theorem dX4_leftOfAll_4 : decode cX4_leftOfAll 4 = .ok (.iload_n 3, 1) := by decide +kernel
theorem dX4_leftOfAll_5 : decode cX4_leftOfAll 5 = .ok (.aload_n 1, 1) := by decide +kernel
theorem dX4_leftOfAll_6 : decode cX4_leftOfAll 6 = .ok (.getfield 67, 3) := by decide +kernel
theorem dX4_leftOfAll_9 : decode cX4_leftOfAll 9 = .ok (.if_icmp .ge 18, 3) := by decide +kernel
theorem dX4_leftOfAll_12 : decode cX4_leftOfAll 12 = .ok (.iload_n 2, 1) := by decide +kernel
theorem dX4_leftOfAll_13 : decode cX4_leftOfAll 13 = .ok (.aload_n 0, 1) := by decide +kernel
theorem dX4_leftOfAll_14 : decode cX4_leftOfAll 14 = .ok (.aload_n 1, 1) := by decide +kernel
theorem dX4_leftOfAll_15 : decode cX4_leftOfAll 15 = .ok (.iload_n 3, 1) := by decide +kernel
theorem dX4_leftOfAll_16 : decode cX4_leftOfAll 16 = .ok (.invokevirtual 70, 3) := by decide +kernel
theorem dX4_leftOfAll_19 : decode cX4_leftOfAll 19 = .ok (.iadd, 1) := by decide +kernel
theorem dX4_leftOfAll_20 : decode cX4_leftOfAll 20 = .ok (.istore_n 2, 1) := by decide +kernel
theorem dX4_leftOfAll_21 : decode cX4_leftOfAll 21 = .ok (.iinc 3 1, 3) := by decide +kernel
theorem dX4_leftOfAll_24 : decode cX4_leftOfAll 24 = .ok (.goto (-20), 3) := by decide +kernel
theorem dX4_leftOfAll_27 : decode cX4_leftOfAll 27 = .ok (.iload_n 2, 1) := by decide +kernel
theorem dX4_leftOfAll_28 : decode cX4_leftOfAll 28 = .ok (.ireturn, 1) := by decide +kernel
theorem dX4_nextOf_0 : decode cX4_nextOf 0 = .ok (.aload_n 0, 1) := by decide +kernel
theorem dX4_nextOf_1 : decode cX4_nextOf 1 = .ok (.aload_n 1, 1) := by decide +kernel
theorem dX4_nextOf_2 : decode cX4_nextOf 2 = .ok (.iload_n 2, 1) := by decide +kernel
theorem dX4_nextOf_3 : decode cX4_nextOf 3 = .ok (.invokevirtual 70, 3) := by decide +kernel
theorem dX4_nextOf_6 : decode cX4_nextOf 6 = .ok (.ifCond .le 17, 3) := by decide +kernel
theorem dX4_nextOf_9 : decode cX4_nextOf 9 = .ok (.aload_n 1, 1) := by decide +kernel
theorem dX4_nextOf_10 : decode cX4_nextOf 10 = .ok (.iload_n 2, 1) := by decide +kernel
theorem dX4_nextOf_11 : decode cX4_nextOf 11 = .ok (.aload_n 0, 1) := by decide +kernel
theorem dX4_nextOf_12 : decode cX4_nextOf 12 = .ok (.getfield 30, 3) := by decide +kernel
theorem dX4_nextOf_15 : decode cX4_nextOf 15 = .ok (.iload_n 2, 1) := by decide +kernel
theorem dX4_nextOf_16 : decode cX4_nextOf 16 = .ok (.iaload, 1) := by decide +kernel
theorem dX4_nextOf_17 : decode cX4_nextOf 17 = .ok (.invokevirtual 74, 3) := by decide +kernel
theorem dX4_nextOf_20 : decode cX4_nextOf 20 = .ok (.goto 4, 3) := by decide +kernel
theorem dX4_nextOf_23 : decode cX4_nextOf 23 = .ok (.iconst (-1), 1) := by decide +kernel
theorem dX4_nextOf_24 : decode cX4_nextOf 24 = .ok (.ireturn, 1) := by decide +kernel
theorem dX4_lyingAt_0 : decode cX4_lyingAt 0 = .ok (.iload_n 2, 1) := by decide +kernel
theorem dX4_lyingAt_1 : decode cX4_lyingAt 1 = .ok (.ifCond .lt 33, 3) := by decide +kernel
theorem dX4_lyingAt_4 : decode cX4_lyingAt 4 = .ok (.iload_n 2, 1) := by decide +kernel
theorem dX4_lyingAt_5 : decode cX4_lyingAt 5 = .ok (.aload_n 0, 1) := by decide +kernel
theorem dX4_lyingAt_6 : decode cX4_lyingAt 6 = .ok (.getfield 40, 3) := by decide +kernel
theorem dX4_lyingAt_9 : decode cX4_lyingAt 9 = .ok (.iload_n 1, 1) := by decide +kernel
theorem dX4_lyingAt_10 : decode cX4_lyingAt 10 = .ok (.iaload, 1) := by decide +kernel
theorem dX4_lyingAt_11 : decode cX4_lyingAt 11 = .ok (.if_icmp .ge 23, 3) := by decide +kernel
theorem dX4_lyingAt_14 : decode cX4_lyingAt 14 = .ok (.iload_n 2, 1) := by decide +kernel
theorem dX4_lyingAt_15 : decode cX4_lyingAt 15 = .ok (.bipush 12, 2) := by decide +kernel
theorem dX4_lyingAt_17 : decode cX4_lyingAt 17 = .ok (.if_icmp .ge 17, 3) := by decide +kernel
theorem dX4_lyingAt_20 : decode cX4_lyingAt 20 = .ok (.aload_n 0, 1) := by decide +kernel
theorem dX4_lyingAt_21 : decode cX4_lyingAt 21 = .ok (.getfield 43, 3) := by decide +kernel
theorem dX4_lyingAt_24 : decode cX4_lyingAt 24 = .ok (.iload_n 1, 1) := by decide +kernel
theorem dX4_lyingAt_25 : decode cX4_lyingAt 25 = .ok (.bipush 12, 2) := by decide +kernel
theorem dX4_lyingAt_27 : decode cX4_lyingAt 27 = .ok (.imul, 1) := by decide +kernel
theorem dX4_lyingAt_28 : decode cX4_lyingAt 28 = .ok (.iload_n 2, 1) := by decide +kernel
theorem dX4_lyingAt_29 : decode cX4_lyingAt 29 = .ok (.iadd, 1) := by decide +kernel
theorem dX4_lyingAt_30 : decode cX4_lyingAt 30 = .ok (.iaload, 1) := by decide +kernel
theorem dX4_lyingAt_31 : decode cX4_lyingAt 31 = .ok (.goto 4, 3) := by decide +kernel
theorem dX4_lyingAt_34 : decode cX4_lyingAt 34 = .ok (.iconst (-1), 1) := by decide +kernel
theorem dX4_lyingAt_35 : decode cX4_lyingAt 35 = .ok (.ireturn, 1) := by decide +kernel
theorem dX4_lyingInAll_0 : decode cX4_lyingInAll 0 = .ok (.iconst 0, 1) := by decide +kernel
theorem dX4_lyingInAll_1 : decode cX4_lyingInAll 1 = .ok (.istore_n 1, 1) := by decide +kernel
theorem dX4_lyingInAll_2 : decode cX4_lyingInAll 2 = .ok (.iconst 0, 1) := by decide +kernel
theorem dX4_lyingInAll_3 : decode cX4_lyingInAll 3 = .ok (.istore_n 2, 1) := by decide +kernel
theorem dX4_lyingInAll_4 : decode cX4_lyingInAll 4 = .ok (.iload_n 2, 1) := by decide +kernel
theorem dX4_lyingInAll_5 : decode cX4_lyingInAll 5 = .ok (.bipush 6, 2) := by decide +kernel
theorem dX4_lyingInAll_7 : decode cX4_lyingInAll 7 = .ok (.if_icmp .ge 18, 3) := by decide +kernel
theorem dX4_lyingInAll_10 : decode cX4_lyingInAll 10 = .ok (.iload_n 1, 1) := by decide +kernel
theorem dX4_lyingInAll_11 : decode cX4_lyingInAll 11 = .ok (.aload_n 0, 1) := by decide +kernel
theorem dX4_lyingInAll_12 : decode cX4_lyingInAll 12 = .ok (.getfield 40, 3) := by decide +kernel
theorem dX4_lyingInAll_15 : decode cX4_lyingInAll 15 = .ok (.iload_n 2, 1) := by decide +kernel
theorem dX4_lyingInAll_16 : decode cX4_lyingInAll 16 = .ok (.iaload, 1) := by decide +kernel
theorem dX4_lyingInAll_17 : decode cX4_lyingInAll 17 = .ok (.iadd, 1) := by decide +kernel
theorem dX4_lyingInAll_18 : decode cX4_lyingInAll 18 = .ok (.istore_n 1, 1) := by decide +kernel
theorem dX4_lyingInAll_19 : decode cX4_lyingInAll 19 = .ok (.iinc 2 1, 3) := by decide +kernel
theorem dX4_lyingInAll_22 : decode cX4_lyingInAll 22 = .ok (.goto (-18), 3) := by decide +kernel
theorem dX4_lyingInAll_25 : decode cX4_lyingInAll 25 = .ok (.iload_n 1, 1) := by decide +kernel
theorem dX4_lyingInAll_26 : decode cX4_lyingInAll 26 = .ok (.ireturn, 1) := by decide +kernel
theorem dX4_wordsIn_0 : decode cX4_wordsIn 0 = .ok (.iconst 0, 1) := by decide +kernel
theorem dX4_wordsIn_1 : decode cX4_wordsIn 1 = .ok (.istore_n 2, 1) := by decide +kernel
theorem dX4_wordsIn_2 : decode cX4_wordsIn 2 = .ok (.iconst 0, 1) := by decide +kernel
theorem dX4_wordsIn_3 : decode cX4_wordsIn 3 = .ok (.istore_n 3, 1) := by decide +kernel
theorem dX4_wordsIn_4 : decode cX4_wordsIn 4 = .ok (.iload_n 3, 1) := by decide +kernel
theorem dX4_wordsIn_5 : decode cX4_wordsIn 5 = .ok (.aload_n 0, 1) := by decide +kernel
theorem dX4_wordsIn_6 : decode cX4_wordsIn 6 = .ok (.getfield 40, 3) := by decide +kernel
theorem dX4_wordsIn_9 : decode cX4_wordsIn 9 = .ok (.iload_n 1, 1) := by decide +kernel
theorem dX4_wordsIn_10 : decode cX4_wordsIn 10 = .ok (.iaload, 1) := by decide +kernel
theorem dX4_wordsIn_11 : decode cX4_wordsIn 11 = .ok (.if_icmp .ge 20, 3) := by decide +kernel
theorem dX4_wordsIn_14 : decode cX4_wordsIn 14 = .ok (.iload_n 2, 1) := by decide +kernel
theorem dX4_wordsIn_15 : decode cX4_wordsIn 15 = .ok (.iconst 1, 1) := by decide +kernel
theorem dX4_wordsIn_16 : decode cX4_wordsIn 16 = .ok (.aload_n 0, 1) := by decide +kernel
theorem dX4_wordsIn_17 : decode cX4_wordsIn 17 = .ok (.iload_n 1, 1) := by decide +kernel
theorem dX4_wordsIn_18 : decode cX4_wordsIn 18 = .ok (.iload_n 3, 1) := by decide +kernel
theorem dX4_wordsIn_19 : decode cX4_wordsIn 19 = .ok (.invokevirtual 78, 3) := by decide +kernel
theorem dX4_wordsIn_22 : decode cX4_wordsIn 22 = .ok (.ishl, 1) := by decide +kernel
theorem dX4_wordsIn_23 : decode cX4_wordsIn 23 = .ok (.ior, 1) := by decide +kernel
theorem dX4_wordsIn_24 : decode cX4_wordsIn 24 = .ok (.istore_n 2, 1) := by decide +kernel
theorem dX4_wordsIn_25 : decode cX4_wordsIn 25 = .ok (.iinc 3 1, 3) := by decide +kernel
theorem dX4_wordsIn_28 : decode cX4_wordsIn 28 = .ok (.goto (-24), 3) := by decide +kernel
theorem dX4_wordsIn_31 : decode cX4_wordsIn 31 = .ok (.iload_n 2, 1) := by decide +kernel
theorem dX4_wordsIn_32 : decode cX4_wordsIn 32 = .ok (.ireturn, 1) := by decide +kernel
theorem dX4_wordsInAll_0 : decode cX4_wordsInAll 0 = .ok (.iconst 0, 1) := by decide +kernel
theorem dX4_wordsInAll_1 : decode cX4_wordsInAll 1 = .ok (.istore_n 2, 1) := by decide +kernel
theorem dX4_wordsInAll_2 : decode cX4_wordsInAll 2 = .ok (.iconst 0, 1) := by decide +kernel
theorem dX4_wordsInAll_3 : decode cX4_wordsInAll 3 = .ok (.istore_n 3, 1) := by decide +kernel
theorem dX4_wordsInAll_4 : decode cX4_wordsInAll 4 = .ok (.iload_n 3, 1) := by decide +kernel
theorem dX4_wordsInAll_5 : decode cX4_wordsInAll 5 = .ok (.aload_n 1, 1) := by decide +kernel
theorem dX4_wordsInAll_6 : decode cX4_wordsInAll 6 = .ok (.getfield 81, 3) := by decide +kernel
theorem dX4_wordsInAll_9 : decode cX4_wordsInAll 9 = .ok (.if_icmp .ge 17, 3) := by decide +kernel
theorem dX4_wordsInAll_12 : decode cX4_wordsInAll 12 = .ok (.iload_n 2, 1) := by decide +kernel
theorem dX4_wordsInAll_13 : decode cX4_wordsInAll 13 = .ok (.aload_n 0, 1) := by decide +kernel
theorem dX4_wordsInAll_14 : decode cX4_wordsInAll 14 = .ok (.iload_n 3, 1) := by decide +kernel
theorem dX4_wordsInAll_15 : decode cX4_wordsInAll 15 = .ok (.invokevirtual 84, 3) := by decide +kernel
theorem dX4_wordsInAll_18 : decode cX4_wordsInAll 18 = .ok (.ior, 1) := by decide +kernel
theorem dX4_wordsInAll_19 : decode cX4_wordsInAll 19 = .ok (.istore_n 2, 1) := by decide +kernel
theorem dX4_wordsInAll_20 : decode cX4_wordsInAll 20 = .ok (.iinc 3 1, 3) := by decide +kernel
theorem dX4_wordsInAll_23 : decode cX4_wordsInAll 23 = .ok (.goto (-19), 3) := by decide +kernel
theorem dX4_wordsInAll_26 : decode cX4_wordsInAll 26 = .ok (.iload_n 2, 1) := by decide +kernel
theorem dX4_wordsInAll_27 : decode cX4_wordsInAll 27 = .ok (.ireturn, 1) := by decide +kernel
theorem dX4_timesOf_0 : decode cX4_timesOf 0 = .ok (.iconst 0, 1) := by decide +kernel
theorem dX4_timesOf_1 : decode cX4_timesOf 1 = .ok (.istore_n 3, 1) := by decide +kernel
theorem dX4_timesOf_2 : decode cX4_timesOf 2 = .ok (.iconst 0, 1) := by decide +kernel
theorem dX4_timesOf_3 : decode cX4_timesOf 3 = .ok (.istore 4, 2) := by decide +kernel
theorem dX4_timesOf_5 : decode cX4_timesOf 5 = .ok (.iload 4, 2) := by decide +kernel
theorem dX4_timesOf_7 : decode cX4_timesOf 7 = .ok (.aload_n 1, 1) := by decide +kernel
theorem dX4_timesOf_8 : decode cX4_timesOf 8 = .ok (.getfield 81, 3) := by decide +kernel
theorem dX4_timesOf_11 : decode cX4_timesOf 11 = .ok (.if_icmp .ge 50, 3) := by decide +kernel
theorem dX4_timesOf_14 : decode cX4_timesOf 14 = .ok (.iconst 0, 1) := by decide +kernel
theorem dX4_timesOf_15 : decode cX4_timesOf 15 = .ok (.istore 5, 2) := by decide +kernel
theorem dX4_timesOf_17 : decode cX4_timesOf 17 = .ok (.iload 5, 2) := by decide +kernel
theorem dX4_timesOf_19 : decode cX4_timesOf 19 = .ok (.aload_n 0, 1) := by decide +kernel
theorem dX4_timesOf_20 : decode cX4_timesOf 20 = .ok (.getfield 40, 3) := by decide +kernel
theorem dX4_timesOf_23 : decode cX4_timesOf 23 = .ok (.iload 4, 2) := by decide +kernel
theorem dX4_timesOf_25 : decode cX4_timesOf 25 = .ok (.iaload, 1) := by decide +kernel
theorem dX4_timesOf_26 : decode cX4_timesOf 26 = .ok (.if_icmp .ge 29, 3) := by decide +kernel
theorem dX4_timesOf_29 : decode cX4_timesOf 29 = .ok (.iload_n 3, 1) := by decide +kernel
theorem dX4_timesOf_30 : decode cX4_timesOf 30 = .ok (.aload_n 0, 1) := by decide +kernel
theorem dX4_timesOf_31 : decode cX4_timesOf 31 = .ok (.iload 4, 2) := by decide +kernel
theorem dX4_timesOf_33 : decode cX4_timesOf 33 = .ok (.iload 5, 2) := by decide +kernel
theorem dX4_timesOf_35 : decode cX4_timesOf 35 = .ok (.invokevirtual 78, 3) := by decide +kernel
theorem dX4_timesOf_38 : decode cX4_timesOf 38 = .ok (.iload_n 2, 1) := by decide +kernel
theorem dX4_timesOf_39 : decode cX4_timesOf 39 = .ok (.if_icmp .ne 7, 3) := by decide +kernel
theorem dX4_timesOf_42 : decode cX4_timesOf 42 = .ok (.iconst 1, 1) := by decide +kernel
theorem dX4_timesOf_43 : decode cX4_timesOf 43 = .ok (.goto 4, 3) := by decide +kernel
theorem dX4_timesOf_46 : decode cX4_timesOf 46 = .ok (.iconst 0, 1) := by decide +kernel
theorem dX4_timesOf_47 : decode cX4_timesOf 47 = .ok (.iadd, 1) := by decide +kernel
theorem dX4_timesOf_48 : decode cX4_timesOf 48 = .ok (.istore_n 3, 1) := by decide +kernel
theorem dX4_timesOf_49 : decode cX4_timesOf 49 = .ok (.iinc 5 1, 3) := by decide +kernel
theorem dX4_timesOf_52 : decode cX4_timesOf 52 = .ok (.goto (-35), 3) := by decide +kernel
theorem dX4_timesOf_55 : decode cX4_timesOf 55 = .ok (.iinc 4 1, 3) := by decide +kernel
theorem dX4_timesOf_58 : decode cX4_timesOf 58 = .ok (.goto (-53), 3) := by decide +kernel
theorem dX4_timesOf_61 : decode cX4_timesOf 61 = .ok (.iload_n 3, 1) := by decide +kernel
theorem dX4_timesOf_62 : decode cX4_timesOf 62 = .ok (.ireturn, 1) := by decide +kernel
theorem dX4_readersAt_0 : decode cX4_readersAt 0 = .ok (.iconst 0, 1) := by decide +kernel
theorem dX4_readersAt_1 : decode cX4_readersAt 1 = .ok (.istore_n 3, 1) := by decide +kernel
theorem dX4_readersAt_2 : decode cX4_readersAt 2 = .ok (.iconst 0, 1) := by decide +kernel
theorem dX4_readersAt_3 : decode cX4_readersAt 3 = .ok (.istore 4, 2) := by decide +kernel
theorem dX4_readersAt_5 : decode cX4_readersAt 5 = .ok (.iload 4, 2) := by decide +kernel
theorem dX4_readersAt_7 : decode cX4_readersAt 7 = .ok (.aload_n 1, 1) := by decide +kernel
theorem dX4_readersAt_8 : decode cX4_readersAt 8 = .ok (.getfield 88, 3) := by decide +kernel
theorem dX4_readersAt_11 : decode cX4_readersAt 11 = .ok (.if_icmp .ge 31, 3) := by decide +kernel
theorem dX4_readersAt_14 : decode cX4_readersAt 14 = .ok (.iload_n 3, 1) := by decide +kernel
theorem dX4_readersAt_15 : decode cX4_readersAt 15 = .ok (.aload_n 0, 1) := by decide +kernel
theorem dX4_readersAt_16 : decode cX4_readersAt 16 = .ok (.getfield 34, 3) := by decide +kernel
theorem dX4_readersAt_19 : decode cX4_readersAt 19 = .ok (.iload 4, 2) := by decide +kernel
theorem dX4_readersAt_21 : decode cX4_readersAt 21 = .ok (.iaload, 1) := by decide +kernel
theorem dX4_readersAt_22 : decode cX4_readersAt 22 = .ok (.iload_n 2, 1) := by decide +kernel
theorem dX4_readersAt_23 : decode cX4_readersAt 23 = .ok (.if_icmp .ne 10, 3) := by decide +kernel
theorem dX4_readersAt_26 : decode cX4_readersAt 26 = .ok (.iconst 1, 1) := by decide +kernel
theorem dX4_readersAt_27 : decode cX4_readersAt 27 = .ok (.iload 4, 2) := by decide +kernel
theorem dX4_readersAt_29 : decode cX4_readersAt 29 = .ok (.ishl, 1) := by decide +kernel
theorem dX4_readersAt_30 : decode cX4_readersAt 30 = .ok (.goto 4, 3) := by decide +kernel
theorem dX4_readersAt_33 : decode cX4_readersAt 33 = .ok (.iconst 0, 1) := by decide +kernel
theorem dX4_readersAt_34 : decode cX4_readersAt 34 = .ok (.ior, 1) := by decide +kernel
theorem dX4_readersAt_35 : decode cX4_readersAt 35 = .ok (.istore_n 3, 1) := by decide +kernel
theorem dX4_readersAt_36 : decode cX4_readersAt 36 = .ok (.iinc 4 1, 3) := by decide +kernel
theorem dX4_readersAt_39 : decode cX4_readersAt 39 = .ok (.goto (-34), 3) := by decide +kernel
theorem dX4_readersAt_42 : decode cX4_readersAt 42 = .ok (.iload_n 3, 1) := by decide +kernel
theorem dX4_readersAt_43 : decode cX4_readersAt 43 = .ok (.ireturn, 1) := by decide +kernel
theorem dX4_heardByAny_0 : decode cX4_heardByAny 0 = .ok (.iconst 0, 1) := by decide +kernel
theorem dX4_heardByAny_1 : decode cX4_heardByAny 1 = .ok (.istore_n 2, 1) := by decide +kernel
theorem dX4_heardByAny_2 : decode cX4_heardByAny 2 = .ok (.iconst 0, 1) := by decide +kernel
theorem dX4_heardByAny_3 : decode cX4_heardByAny 3 = .ok (.istore_n 3, 1) := by decide +kernel
theorem dX4_heardByAny_4 : decode cX4_heardByAny 4 = .ok (.iload_n 3, 1) := by decide +kernel
theorem dX4_heardByAny_5 : decode cX4_heardByAny 5 = .ok (.aload_n 1, 1) := by decide +kernel
theorem dX4_heardByAny_6 : decode cX4_heardByAny 6 = .ok (.getfield 88, 3) := by decide +kernel
theorem dX4_heardByAny_9 : decode cX4_heardByAny 9 = .ok (.if_icmp .ge 18, 3) := by decide +kernel
theorem dX4_heardByAny_12 : decode cX4_heardByAny 12 = .ok (.iload_n 2, 1) := by decide +kernel
theorem dX4_heardByAny_13 : decode cX4_heardByAny 13 = .ok (.aload_n 0, 1) := by decide +kernel
theorem dX4_heardByAny_14 : decode cX4_heardByAny 14 = .ok (.getfield 37, 3) := by decide +kernel
theorem dX4_heardByAny_17 : decode cX4_heardByAny 17 = .ok (.iload_n 3, 1) := by decide +kernel
theorem dX4_heardByAny_18 : decode cX4_heardByAny 18 = .ok (.iaload, 1) := by decide +kernel
theorem dX4_heardByAny_19 : decode cX4_heardByAny 19 = .ok (.ior, 1) := by decide +kernel
theorem dX4_heardByAny_20 : decode cX4_heardByAny 20 = .ok (.istore_n 2, 1) := by decide +kernel
theorem dX4_heardByAny_21 : decode cX4_heardByAny 21 = .ok (.iinc 3 1, 3) := by decide +kernel
theorem dX4_heardByAny_24 : decode cX4_heardByAny 24 = .ok (.goto (-20), 3) := by decide +kernel
theorem dX4_heardByAny_27 : decode cX4_heardByAny 27 = .ok (.iload_n 2, 1) := by decide +kernel
theorem dX4_heardByAny_28 : decode cX4_heardByAny 28 = .ok (.ireturn, 1) := by decide +kernel
theorem dX4_wetBy_0 : decode cX4_wetBy 0 = .ok (.bipush 99, 2) := by decide +kernel
theorem dX4_wetBy_2 : decode cX4_wetBy 2 = .ok (.aload_n 0, 1) := by decide +kernel
theorem dX4_wetBy_3 : decode cX4_wetBy 3 = .ok (.getfield 15, 3) := by decide +kernel
theorem dX4_wetBy_6 : decode cX4_wetBy 6 = .ok (.iload_n 1, 1) := by decide +kernel
theorem dX4_wetBy_7 : decode cX4_wetBy 7 = .ok (.iadd, 1) := by decide +kernel
theorem dX4_wetBy_8 : decode cX4_wetBy 8 = .ok (.invokestatic 91, 3) := by decide +kernel
theorem dX4_wetBy_11 : decode cX4_wetBy 11 = .ok (.ireturn, 1) := by decide +kernel
theorem dX4_runOf_0 : decode cX4_runOf 0 = .ok (.aload_n 0, 1) := by decide +kernel
theorem dX4_runOf_1 : decode cX4_runOf 1 = .ok (.aload_n 1, 1) := by decide +kernel
theorem dX4_runOf_2 : decode cX4_runOf 2 = .ok (.iload_n 3, 1) := by decide +kernel
theorem dX4_runOf_3 : decode cX4_runOf 3 = .ok (.invokevirtual 70, 3) := by decide +kernel
theorem dX4_runOf_6 : decode cX4_runOf 6 = .ok (.istore 6, 2) := by decide +kernel
theorem dX4_runOf_8 : decode cX4_runOf 8 = .ok (.aload_n 1, 1) := by decide +kernel
theorem dX4_runOf_9 : decode cX4_runOf 9 = .ok (.getfield 96, 3) := by decide +kernel
theorem dX4_runOf_12 : decode cX4_runOf 12 = .ok (.iload_n 3, 1) := by decide +kernel
theorem dX4_runOf_13 : decode cX4_runOf 13 = .ok (.iaload, 1) := by decide +kernel
theorem dX4_runOf_14 : decode cX4_runOf 14 = .ok (.istore 7, 2) := by decide +kernel
theorem dX4_runOf_16 : decode cX4_runOf 16 = .ok (.aload_n 2, 1) := by decide +kernel
theorem dX4_runOf_17 : decode cX4_runOf 17 = .ok (.iload 4, 2) := by decide +kernel
theorem dX4_runOf_19 : decode cX4_runOf 19 = .ok (.iload 5, 2) := by decide +kernel
theorem dX4_runOf_21 : decode cX4_runOf 21 = .ok (.iload 6, 2) := by decide +kernel
theorem dX4_runOf_23 : decode cX4_runOf 23 = .ok (.aload_n 1, 1) := by decide +kernel
theorem dX4_runOf_24 : decode cX4_runOf 24 = .ok (.getfield 99, 3) := by decide +kernel
theorem dX4_runOf_27 : decode cX4_runOf 27 = .ok (.iload 7, 2) := by decide +kernel
theorem dX4_runOf_29 : decode cX4_runOf 29 = .ok (.iaload, 1) := by decide +kernel
theorem dX4_runOf_30 : decode cX4_runOf 30 = .ok (.aload_n 0, 1) := by decide +kernel
theorem dX4_runOf_31 : decode cX4_runOf 31 = .ok (.getfield 40, 3) := by decide +kernel
theorem dX4_runOf_34 : decode cX4_runOf 34 = .ok (.iload 7, 2) := by decide +kernel
theorem dX4_runOf_36 : decode cX4_runOf 36 = .ok (.iaload, 1) := by decide +kernel
theorem dX4_runOf_37 : decode cX4_runOf 37 = .ok (.aload_n 0, 1) := by decide +kernel
theorem dX4_runOf_38 : decode cX4_runOf 38 = .ok (.getfield 9, 3) := by decide +kernel
theorem dX4_runOf_41 : decode cX4_runOf 41 = .ok (.iload_n 3, 1) := by decide +kernel
theorem dX4_runOf_42 : decode cX4_runOf 42 = .ok (.invokevirtual 102, 3) := by decide +kernel
theorem dX4_runOf_45 : decode cX4_runOf 45 = .ok (.istore 8, 2) := by decide +kernel
theorem dX4_runOf_47 : decode cX4_runOf 47 = .ok (.iload 6, 2) := by decide +kernel
theorem dX4_runOf_49 : decode cX4_runOf 49 = .ok (.iload 8, 2) := by decide +kernel
theorem dX4_runOf_51 : decode cX4_runOf 51 = .ok (.invokestatic 91, 3) := by decide +kernel
theorem dX4_runOf_54 : decode cX4_runOf 54 = .ok (.ireturn, 1) := by decide +kernel
theorem dX4_lastAfter_0 : decode cX4_lastAfter 0 = .ok (.aload_n 1, 1) := by decide +kernel
theorem dX4_lastAfter_1 : decode cX4_lastAfter 1 = .ok (.getfield 96, 3) := by decide +kernel
theorem dX4_lastAfter_4 : decode cX4_lastAfter 4 = .ok (.iload_n 3, 1) := by decide +kernel
theorem dX4_lastAfter_5 : decode cX4_lastAfter 5 = .ok (.iaload, 1) := by decide +kernel
theorem dX4_lastAfter_6 : decode cX4_lastAfter 6 = .ok (.iload_n 2, 1) := by decide +kernel
theorem dX4_lastAfter_7 : decode cX4_lastAfter 7 = .ok (.if_icmp .ne 54, 3) := by decide +kernel
theorem dX4_lastAfter_10 : decode cX4_lastAfter 10 = .ok (.iload 4, 2) := by decide +kernel
theorem dX4_lastAfter_12 : decode cX4_lastAfter 12 = .ok (.aload_n 0, 1) := by decide +kernel
theorem dX4_lastAfter_13 : decode cX4_lastAfter 13 = .ok (.aload_n 1, 1) := by decide +kernel
theorem dX4_lastAfter_14 : decode cX4_lastAfter 14 = .ok (.iload_n 3, 1) := by decide +kernel
theorem dX4_lastAfter_15 : decode cX4_lastAfter 15 = .ok (.invokevirtual 70, 3) := by decide +kernel
theorem dX4_lastAfter_18 : decode cX4_lastAfter 18 = .ok (.invokestatic 91, 3) := by decide +kernel
theorem dX4_lastAfter_21 : decode cX4_lastAfter 21 = .ok (.istore 5, 2) := by decide +kernel
theorem dX4_lastAfter_23 : decode cX4_lastAfter 23 = .ok (.iload 5, 2) := by decide +kernel
theorem dX4_lastAfter_25 : decode cX4_lastAfter 25 = .ok (.bipush 12, 2) := by decide +kernel
theorem dX4_lastAfter_27 : decode cX4_lastAfter 27 = .ok (.aload_n 0, 1) := by decide +kernel
theorem dX4_lastAfter_28 : decode cX4_lastAfter 28 = .ok (.getfield 40, 3) := by decide +kernel
theorem dX4_lastAfter_31 : decode cX4_lastAfter 31 = .ok (.iload_n 2, 1) := by decide +kernel
theorem dX4_lastAfter_32 : decode cX4_lastAfter 32 = .ok (.iaload, 1) := by decide +kernel
theorem dX4_lastAfter_33 : decode cX4_lastAfter 33 = .ok (.isub, 1) := by decide +kernel
theorem dX4_lastAfter_34 : decode cX4_lastAfter 34 = .ok (.invokestatic 91, 3) := by decide +kernel
theorem dX4_lastAfter_37 : decode cX4_lastAfter 37 = .ok (.istore 6, 2) := by decide +kernel
theorem dX4_lastAfter_39 : decode cX4_lastAfter 39 = .ok (.iload 6, 2) := by decide +kernel
theorem dX4_lastAfter_41 : decode cX4_lastAfter 41 = .ok (.ifCond .le 20, 3) := by decide +kernel
theorem dX4_lastAfter_44 : decode cX4_lastAfter 44 = .ok (.aload_n 1, 1) := by decide +kernel
theorem dX4_lastAfter_45 : decode cX4_lastAfter 45 = .ok (.iload_n 3, 1) := by decide +kernel
theorem dX4_lastAfter_46 : decode cX4_lastAfter 46 = .ok (.aload_n 0, 1) := by decide +kernel
theorem dX4_lastAfter_47 : decode cX4_lastAfter 47 = .ok (.getfield 30, 3) := by decide +kernel
theorem dX4_lastAfter_50 : decode cX4_lastAfter 50 = .ok (.iload_n 3, 1) := by decide +kernel
theorem dX4_lastAfter_51 : decode cX4_lastAfter 51 = .ok (.iaload, 1) := by decide +kernel
theorem dX4_lastAfter_52 : decode cX4_lastAfter 52 = .ok (.iload 6, 2) := by decide +kernel
theorem dX4_lastAfter_54 : decode cX4_lastAfter 54 = .ok (.iadd, 1) := by decide +kernel
theorem dX4_lastAfter_55 : decode cX4_lastAfter 55 = .ok (.iconst 1, 1) := by decide +kernel
theorem dX4_lastAfter_56 : decode cX4_lastAfter 56 = .ok (.isub, 1) := by decide +kernel
theorem dX4_lastAfter_57 : decode cX4_lastAfter 57 = .ok (.invokevirtual 74, 3) := by decide +kernel
theorem dX4_lastAfter_60 : decode cX4_lastAfter 60 = .ok (.ireturn, 1) := by decide +kernel
theorem dX4_lastAfter_61 : decode cX4_lastAfter 61 = .ok (.aload_n 0, 1) := by decide +kernel
theorem dX4_lastAfter_62 : decode cX4_lastAfter 62 = .ok (.getfield 40, 3) := by decide +kernel
theorem dX4_lastAfter_65 : decode cX4_lastAfter 65 = .ok (.iload_n 2, 1) := by decide +kernel
theorem dX4_lastAfter_66 : decode cX4_lastAfter 66 = .ok (.iaload, 1) := by decide +kernel
theorem dX4_lastAfter_67 : decode cX4_lastAfter 67 = .ok (.ifCond .le 19, 3) := by decide +kernel
theorem dX4_lastAfter_70 : decode cX4_lastAfter 70 = .ok (.aload_n 0, 1) := by decide +kernel
theorem dX4_lastAfter_71 : decode cX4_lastAfter 71 = .ok (.iload_n 2, 1) := by decide +kernel
theorem dX4_lastAfter_72 : decode cX4_lastAfter 72 = .ok (.aload_n 0, 1) := by decide +kernel
theorem dX4_lastAfter_73 : decode cX4_lastAfter 73 = .ok (.getfield 40, 3) := by decide +kernel
theorem dX4_lastAfter_76 : decode cX4_lastAfter 76 = .ok (.iload_n 2, 1) := by decide +kernel
theorem dX4_lastAfter_77 : decode cX4_lastAfter 77 = .ok (.iaload, 1) := by decide +kernel
theorem dX4_lastAfter_78 : decode cX4_lastAfter 78 = .ok (.iconst 1, 1) := by decide +kernel
theorem dX4_lastAfter_79 : decode cX4_lastAfter 79 = .ok (.isub, 1) := by decide +kernel
theorem dX4_lastAfter_80 : decode cX4_lastAfter 80 = .ok (.invokevirtual 78, 3) := by decide +kernel
theorem dX4_lastAfter_83 : decode cX4_lastAfter 83 = .ok (.goto 5, 3) := by decide +kernel
theorem dX4_lastAfter_86 : decode cX4_lastAfter 86 = .ok (.bipush 16, 2) := by decide +kernel
theorem dX4_lastAfter_88 : decode cX4_lastAfter 88 = .ok (.ireturn, 1) := by decide +kernel
theorem dX4_toldBy_0 : decode cX4_toldBy 0 = .ok (.aload_n 1, 1) := by decide +kernel
theorem dX4_toldBy_1 : decode cX4_toldBy 1 = .ok (.getfield 99, 3) := by decide +kernel
theorem dX4_toldBy_4 : decode cX4_toldBy 4 = .ok (.aload_n 0, 1) := by decide +kernel
theorem dX4_toldBy_5 : decode cX4_toldBy 5 = .ok (.getfield 34, 3) := by decide +kernel
theorem dX4_toldBy_8 : decode cX4_toldBy 8 = .ok (.iload_n 2, 1) := by decide +kernel
theorem dX4_toldBy_9 : decode cX4_toldBy 9 = .ok (.iaload, 1) := by decide +kernel
theorem dX4_toldBy_10 : decode cX4_toldBy 10 = .ok (.iaload, 1) := by decide +kernel
theorem dX4_toldBy_11 : decode cX4_toldBy 11 = .ok (.iload_n 3, 1) := by decide +kernel
theorem dX4_toldBy_12 : decode cX4_toldBy 12 = .ok (.if_icmp .le 5, 3) := by decide +kernel
theorem dX4_toldBy_15 : decode cX4_toldBy 15 = .ok (.iconst 0, 1) := by decide +kernel
theorem dX4_toldBy_16 : decode cX4_toldBy 16 = .ok (.ireturn, 1) := by decide +kernel
theorem dX4_toldBy_17 : decode cX4_toldBy 17 = .ok (.iconst 0, 1) := by decide +kernel
theorem dX4_toldBy_18 : decode cX4_toldBy 18 = .ok (.istore 4, 2) := by decide +kernel
theorem dX4_toldBy_20 : decode cX4_toldBy 20 = .ok (.iconst 0, 1) := by decide +kernel
theorem dX4_toldBy_21 : decode cX4_toldBy 21 = .ok (.istore 5, 2) := by decide +kernel
theorem dX4_toldBy_23 : decode cX4_toldBy 23 = .ok (.iload 5, 2) := by decide +kernel
theorem dX4_toldBy_25 : decode cX4_toldBy 25 = .ok (.aload_n 1, 1) := by decide +kernel
theorem dX4_toldBy_26 : decode cX4_toldBy 26 = .ok (.getfield 67, 3) := by decide +kernel
theorem dX4_toldBy_29 : decode cX4_toldBy 29 = .ok (.if_icmp .ge 37, 3) := by decide +kernel
theorem dX4_toldBy_32 : decode cX4_toldBy 32 = .ok (.iload 4, 2) := by decide +kernel
theorem dX4_toldBy_34 : decode cX4_toldBy 34 = .ok (.aload_n 0, 1) := by decide +kernel
theorem dX4_toldBy_35 : decode cX4_toldBy 35 = .ok (.aload_n 1, 1) := by decide +kernel
theorem dX4_toldBy_36 : decode cX4_toldBy 36 = .ok (.iload 5, 2) := by decide +kernel
theorem dX4_toldBy_38 : decode cX4_toldBy 38 = .ok (.invokevirtual 70, 3) := by decide +kernel
theorem dX4_toldBy_41 : decode cX4_toldBy 41 = .ok (.ifCond .le 15, 3) := by decide +kernel
theorem dX4_toldBy_44 : decode cX4_toldBy 44 = .ok (.iconst 1, 1) := by decide +kernel
theorem dX4_toldBy_45 : decode cX4_toldBy 45 = .ok (.aload_n 0, 1) := by decide +kernel
theorem dX4_toldBy_46 : decode cX4_toldBy 46 = .ok (.aload_n 1, 1) := by decide +kernel
theorem dX4_toldBy_47 : decode cX4_toldBy 47 = .ok (.iload 5, 2) := by decide +kernel
theorem dX4_toldBy_49 : decode cX4_toldBy 49 = .ok (.invokevirtual 108, 3) := by decide +kernel
theorem dX4_toldBy_52 : decode cX4_toldBy 52 = .ok (.ishl, 1) := by decide +kernel
theorem dX4_toldBy_53 : decode cX4_toldBy 53 = .ok (.goto 4, 3) := by decide +kernel
theorem dX4_toldBy_56 : decode cX4_toldBy 56 = .ok (.iconst 0, 1) := by decide +kernel
theorem dX4_toldBy_57 : decode cX4_toldBy 57 = .ok (.ior, 1) := by decide +kernel
theorem dX4_toldBy_58 : decode cX4_toldBy 58 = .ok (.istore 4, 2) := by decide +kernel
theorem dX4_toldBy_60 : decode cX4_toldBy 60 = .ok (.iinc 5 1, 3) := by decide +kernel
theorem dX4_toldBy_63 : decode cX4_toldBy 63 = .ok (.goto (-40), 3) := by decide +kernel
theorem dX4_toldBy_66 : decode cX4_toldBy 66 = .ok (.iload 4, 2) := by decide +kernel
theorem dX4_toldBy_68 : decode cX4_toldBy 68 = .ok (.ireturn, 1) := by decide +kernel
theorem dX4_blow_0 : decode cX4_blow 0 = .ok (.iconst 0, 1) := by decide +kernel
theorem dX4_blow_1 : decode cX4_blow 1 = .ok (.istore_n 3, 1) := by decide +kernel
theorem dX4_blow_2 : decode cX4_blow 2 = .ok (.iconst 0, 1) := by decide +kernel
theorem dX4_blow_3 : decode cX4_blow 3 = .ok (.istore 4, 2) := by decide +kernel
theorem dX4_blow_5 : decode cX4_blow 5 = .ok (.iload 4, 2) := by decide +kernel
theorem dX4_blow_7 : decode cX4_blow 7 = .ok (.aload_n 1, 1) := by decide +kernel
theorem dX4_blow_8 : decode cX4_blow 8 = .ok (.getfield 88, 3) := by decide +kernel
theorem dX4_blow_11 : decode cX4_blow 11 = .ok (.if_icmp .ge 56, 3) := by decide +kernel
theorem dX4_blow_14 : decode cX4_blow 14 = .ok (.aload_n 0, 1) := by decide +kernel
theorem dX4_blow_15 : decode cX4_blow 15 = .ok (.aload_n 1, 1) := by decide +kernel
theorem dX4_blow_16 : decode cX4_blow 16 = .ok (.iload 4, 2) := by decide +kernel
theorem dX4_blow_18 : decode cX4_blow 18 = .ok (.iload_n 2, 1) := by decide +kernel
theorem dX4_blow_19 : decode cX4_blow 19 = .ok (.invokevirtual 111, 3) := by decide +kernel
theorem dX4_blow_22 : decode cX4_blow 22 = .ok (.istore 5, 2) := by decide +kernel
theorem dX4_blow_24 : decode cX4_blow 24 = .ok (.iload_n 3, 1) := by decide +kernel
theorem dX4_blow_25 : decode cX4_blow 25 = .ok (.ifCond .ne 18, 3) := by decide +kernel
theorem dX4_blow_28 : decode cX4_blow 28 = .ok (.iload 5, 2) := by decide +kernel
theorem dX4_blow_30 : decode cX4_blow 30 = .ok (.aload_n 0, 1) := by decide +kernel
theorem dX4_blow_31 : decode cX4_blow 31 = .ok (.getfield 37, 3) := by decide +kernel
theorem dX4_blow_34 : decode cX4_blow 34 = .ok (.iload 4, 2) := by decide +kernel
theorem dX4_blow_36 : decode cX4_blow 36 = .ok (.iaload, 1) := by decide +kernel
theorem dX4_blow_37 : decode cX4_blow 37 = .ok (.iconst (-1), 1) := by decide +kernel
theorem dX4_blow_38 : decode cX4_blow 38 = .ok (.ixor, 1) := by decide +kernel
theorem dX4_blow_39 : decode cX4_blow 39 = .ok (.iand, 1) := by decide +kernel
theorem dX4_blow_40 : decode cX4_blow 40 = .ok (.ifCond .eq 7, 3) := by decide +kernel
theorem dX4_blow_43 : decode cX4_blow 43 = .ok (.iconst 1, 1) := by decide +kernel
theorem dX4_blow_44 : decode cX4_blow 44 = .ok (.goto 4, 3) := by decide +kernel
theorem dX4_blow_47 : decode cX4_blow 47 = .ok (.iconst 0, 1) := by decide +kernel
theorem dX4_blow_48 : decode cX4_blow 48 = .ok (.istore_n 3, 1) := by decide +kernel
theorem dX4_blow_49 : decode cX4_blow 49 = .ok (.aload_n 0, 1) := by decide +kernel
theorem dX4_blow_50 : decode cX4_blow 50 = .ok (.getfield 37, 3) := by decide +kernel
theorem dX4_blow_53 : decode cX4_blow 53 = .ok (.iload 4, 2) := by decide +kernel
theorem dX4_blow_55 : decode cX4_blow 55 = .ok (.dup2, 1) := by decide +kernel
theorem dX4_blow_56 : decode cX4_blow 56 = .ok (.iaload, 1) := by decide +kernel
theorem dX4_blow_57 : decode cX4_blow 57 = .ok (.iload 5, 2) := by decide +kernel
theorem dX4_blow_59 : decode cX4_blow 59 = .ok (.ior, 1) := by decide +kernel
theorem dX4_blow_60 : decode cX4_blow 60 = .ok (.iastore, 1) := by decide +kernel
theorem dX4_blow_61 : decode cX4_blow 61 = .ok (.iinc 4 1, 3) := by decide +kernel
theorem dX4_blow_64 : decode cX4_blow 64 = .ok (.goto (-59), 3) := by decide +kernel
theorem dX4_blow_67 : decode cX4_blow 67 = .ok (.iload_n 3, 1) := by decide +kernel
theorem dX4_blow_68 : decode cX4_blow 68 = .ok (.ireturn, 1) := by decide +kernel
theorem dX4_pour_0 : decode cX4_pour 0 = .ok (.aload_n 0, 1) := by decide +kernel
theorem dX4_pour_1 : decode cX4_pour 1 = .ok (.aload_n 0, 1) := by decide +kernel
theorem dX4_pour_2 : decode cX4_pour 2 = .ok (.iload_n 3, 1) := by decide +kernel
theorem dX4_pour_3 : decode cX4_pour 3 = .ok (.invokevirtual 115, 3) := by decide +kernel
theorem dX4_pour_6 : decode cX4_pour 6 = .ok (.putfield 15, 3) := by decide +kernel
theorem dX4_pour_9 : decode cX4_pour 9 = .ok (.iconst 0, 1) := by decide +kernel
theorem dX4_pour_10 : decode cX4_pour 10 = .ok (.istore 4, 2) := by decide +kernel
theorem dX4_pour_12 : decode cX4_pour 12 = .ok (.iload 4, 2) := by decide +kernel
theorem dX4_pour_14 : decode cX4_pour 14 = .ok (.aload_n 1, 1) := by decide +kernel
theorem dX4_pour_15 : decode cX4_pour 15 = .ok (.getfield 67, 3) := by decide +kernel
theorem dX4_pour_18 : decode cX4_pour 18 = .ok (.if_icmp .ge 48, 3) := by decide +kernel
theorem dX4_pour_21 : decode cX4_pour 21 = .ok (.aload_n 0, 1) := by decide +kernel
theorem dX4_pour_22 : decode cX4_pour 22 = .ok (.iload 4, 2) := by decide +kernel
theorem dX4_pour_24 : decode cX4_pour 24 = .ok (.invokevirtual 118, 3) := by decide +kernel
theorem dX4_pour_27 : decode cX4_pour 27 = .ok (.ifCond .ne 33, 3) := by decide +kernel
theorem dX4_pour_30 : decode cX4_pour 30 = .ok (.aload_n 0, 1) := by decide +kernel
theorem dX4_pour_31 : decode cX4_pour 31 = .ok (.aload_n 1, 1) := by decide +kernel
theorem dX4_pour_32 : decode cX4_pour 32 = .ok (.iload 4, 2) := by decide +kernel
theorem dX4_pour_34 : decode cX4_pour 34 = .ok (.invokevirtual 70, 3) := by decide +kernel
theorem dX4_pour_37 : decode cX4_pour 37 = .ok (.ifCond .le 23, 3) := by decide +kernel
theorem dX4_pour_40 : decode cX4_pour 40 = .ok (.aload_n 0, 1) := by decide +kernel
theorem dX4_pour_41 : decode cX4_pour 41 = .ok (.aload_n 1, 1) := by decide +kernel
theorem dX4_pour_42 : decode cX4_pour 42 = .ok (.iload 4, 2) := by decide +kernel
theorem dX4_pour_44 : decode cX4_pour 44 = .ok (.aload_n 0, 1) := by decide +kernel
theorem dX4_pour_45 : decode cX4_pour 45 = .ok (.aload_n 1, 1) := by decide +kernel
theorem dX4_pour_46 : decode cX4_pour 46 = .ok (.aload_n 2, 1) := by decide +kernel
theorem dX4_pour_47 : decode cX4_pour 47 = .ok (.iload 4, 2) := by decide +kernel
theorem dX4_pour_49 : decode cX4_pour 49 = .ok (.iload_n 3, 1) := by decide +kernel
theorem dX4_pour_50 : decode cX4_pour 50 = .ok (.aload_n 0, 1) := by decide +kernel
theorem dX4_pour_51 : decode cX4_pour 51 = .ok (.getfield 15, 3) := by decide +kernel
theorem dX4_pour_54 : decode cX4_pour 54 = .ok (.invokevirtual 122, 3) := by decide +kernel
theorem dX4_pour_57 : decode cX4_pour 57 = .ok (.invokevirtual 126, 3) := by decide +kernel
theorem dX4_pour_60 : decode cX4_pour 60 = .ok (.iinc 4 1, 3) := by decide +kernel
theorem dX4_pour_63 : decode cX4_pour 63 = .ok (.goto (-51), 3) := by decide +kernel
theorem dX4_pour_66 : decode cX4_pour 66 = .ok (.return_, 1) := by decide +kernel
theorem dX4_runOut_0 : decode cX4_runOut 0 = .ok (.aload_n 1, 1) := by decide +kernel
theorem dX4_runOut_1 : decode cX4_runOut 1 = .ok (.getfield 96, 3) := by decide +kernel
theorem dX4_runOut_4 : decode cX4_runOut 4 = .ok (.iload_n 2, 1) := by decide +kernel
theorem dX4_runOut_5 : decode cX4_runOut 5 = .ok (.iaload, 1) := by decide +kernel
theorem dX4_runOut_6 : decode cX4_runOut 6 = .ok (.istore 4, 2) := by decide +kernel
theorem dX4_runOut_8 : decode cX4_runOut 8 = .ok (.iconst 0, 1) := by decide +kernel
theorem dX4_runOut_9 : decode cX4_runOut 9 = .ok (.istore 5, 2) := by decide +kernel
theorem dX4_runOut_11 : decode cX4_runOut 11 = .ok (.iload 5, 2) := by decide +kernel
theorem dX4_runOut_13 : decode cX4_runOut 13 = .ok (.iload_n 3, 1) := by decide +kernel
theorem dX4_runOut_14 : decode cX4_runOut 14 = .ok (.if_icmp .ge 79, 3) := by decide +kernel
theorem dX4_runOut_17 : decode cX4_runOut 17 = .ok (.aload_n 0, 1) := by decide +kernel
theorem dX4_runOut_18 : decode cX4_runOut 18 = .ok (.getfield 40, 3) := by decide +kernel
theorem dX4_runOut_21 : decode cX4_runOut 21 = .ok (.iload 4, 2) := by decide +kernel
theorem dX4_runOut_23 : decode cX4_runOut 23 = .ok (.iaload, 1) := by decide +kernel
theorem dX4_runOut_24 : decode cX4_runOut 24 = .ok (.bipush 12, 2) := by decide +kernel
theorem dX4_runOut_26 : decode cX4_runOut 26 = .ok (.if_icmp .ge 41, 3) := by decide +kernel
theorem dX4_runOut_29 : decode cX4_runOut 29 = .ok (.aload_n 0, 1) := by decide +kernel
theorem dX4_runOut_30 : decode cX4_runOut 30 = .ok (.getfield 43, 3) := by decide +kernel
theorem dX4_runOut_33 : decode cX4_runOut 33 = .ok (.iload 4, 2) := by decide +kernel
theorem dX4_runOut_35 : decode cX4_runOut 35 = .ok (.bipush 12, 2) := by decide +kernel
theorem dX4_runOut_37 : decode cX4_runOut 37 = .ok (.imul, 1) := by decide +kernel
theorem dX4_runOut_38 : decode cX4_runOut 38 = .ok (.aload_n 0, 1) := by decide +kernel
theorem dX4_runOut_39 : decode cX4_runOut 39 = .ok (.getfield 40, 3) := by decide +kernel
theorem dX4_runOut_42 : decode cX4_runOut 42 = .ok (.iload 4, 2) := by decide +kernel
theorem dX4_runOut_44 : decode cX4_runOut 44 = .ok (.iaload, 1) := by decide +kernel
theorem dX4_runOut_45 : decode cX4_runOut 45 = .ok (.iadd, 1) := by decide +kernel
theorem dX4_runOut_46 : decode cX4_runOut 46 = .ok (.aload_n 0, 1) := by decide +kernel
theorem dX4_runOut_47 : decode cX4_runOut 47 = .ok (.aload_n 1, 1) := by decide +kernel
theorem dX4_runOut_48 : decode cX4_runOut 48 = .ok (.iload_n 2, 1) := by decide +kernel
theorem dX4_runOut_49 : decode cX4_runOut 49 = .ok (.invokevirtual 108, 3) := by decide +kernel
theorem dX4_runOut_52 : decode cX4_runOut 52 = .ok (.iastore, 1) := by decide +kernel
theorem dX4_runOut_53 : decode cX4_runOut 53 = .ok (.aload_n 0, 1) := by decide +kernel
theorem dX4_runOut_54 : decode cX4_runOut 54 = .ok (.getfield 40, 3) := by decide +kernel
theorem dX4_runOut_57 : decode cX4_runOut 57 = .ok (.iload 4, 2) := by decide +kernel
theorem dX4_runOut_59 : decode cX4_runOut 59 = .ok (.dup2, 1) := by decide +kernel
theorem dX4_runOut_60 : decode cX4_runOut 60 = .ok (.iaload, 1) := by decide +kernel
theorem dX4_runOut_61 : decode cX4_runOut 61 = .ok (.iconst 1, 1) := by decide +kernel
theorem dX4_runOut_62 : decode cX4_runOut 62 = .ok (.iadd, 1) := by decide +kernel
theorem dX4_runOut_63 : decode cX4_runOut 63 = .ok (.iastore, 1) := by decide +kernel
theorem dX4_runOut_64 : decode cX4_runOut 64 = .ok (.goto 13, 3) := by decide +kernel
theorem dX4_runOut_67 : decode cX4_runOut 67 = .ok (.aload_n 0, 1) := by decide +kernel
theorem dX4_runOut_68 : decode cX4_runOut 68 = .ok (.dup, 1) := by decide +kernel
theorem dX4_runOut_69 : decode cX4_runOut 69 = .ok (.getfield 18, 3) := by decide +kernel
theorem dX4_runOut_72 : decode cX4_runOut 72 = .ok (.iconst 1, 1) := by decide +kernel
theorem dX4_runOut_73 : decode cX4_runOut 73 = .ok (.iadd, 1) := by decide +kernel
theorem dX4_runOut_74 : decode cX4_runOut 74 = .ok (.putfield 18, 3) := by decide +kernel
theorem dX4_runOut_77 : decode cX4_runOut 77 = .ok (.aload_n 0, 1) := by decide +kernel
theorem dX4_runOut_78 : decode cX4_runOut 78 = .ok (.getfield 30, 3) := by decide +kernel
theorem dX4_runOut_81 : decode cX4_runOut 81 = .ok (.iload_n 2, 1) := by decide +kernel
theorem dX4_runOut_82 : decode cX4_runOut 82 = .ok (.dup2, 1) := by decide +kernel
theorem dX4_runOut_83 : decode cX4_runOut 83 = .ok (.iaload, 1) := by decide +kernel
theorem dX4_runOut_84 : decode cX4_runOut 84 = .ok (.iconst 1, 1) := by decide +kernel
theorem dX4_runOut_85 : decode cX4_runOut 85 = .ok (.iadd, 1) := by decide +kernel
theorem dX4_runOut_86 : decode cX4_runOut 86 = .ok (.iastore, 1) := by decide +kernel
theorem dX4_runOut_87 : decode cX4_runOut 87 = .ok (.iinc 5 1, 3) := by decide +kernel
theorem dX4_runOut_90 : decode cX4_runOut 90 = .ok (.goto (-79), 3) := by decide +kernel
theorem dX4_runOut_93 : decode cX4_runOut 93 = .ok (.return_, 1) := by decide +kernel
theorem dX4_go_0 : decode cX4_go 0 = .ok (.aload_n 0, 1) := by decide +kernel
theorem dX4_go_1 : decode cX4_go 1 = .ok (.getfield 34, 3) := by decide +kernel
theorem dX4_go_4 : decode cX4_go 4 = .ok (.iload_n 1, 1) := by decide +kernel
theorem dX4_go_5 : decode cX4_go 5 = .ok (.iaload, 1) := by decide +kernel
theorem dX4_go_6 : decode cX4_go 6 = .ok (.iload_n 2, 1) := by decide +kernel
theorem dX4_go_7 : decode cX4_go 7 = .ok (.if_icmp .ne 5, 3) := by decide +kernel
theorem dX4_go_10 : decode cX4_go 10 = .ok (.iconst 0, 1) := by decide +kernel
theorem dX4_go_11 : decode cX4_go 11 = .ok (.ireturn, 1) := by decide +kernel
theorem dX4_go_12 : decode cX4_go 12 = .ok (.aload_n 0, 1) := by decide +kernel
theorem dX4_go_13 : decode cX4_go 13 = .ok (.getfield 34, 3) := by decide +kernel
theorem dX4_go_16 : decode cX4_go 16 = .ok (.iload_n 1, 1) := by decide +kernel
theorem dX4_go_17 : decode cX4_go 17 = .ok (.iload_n 2, 1) := by decide +kernel
theorem dX4_go_18 : decode cX4_go 18 = .ok (.iastore, 1) := by decide +kernel
theorem dX4_go_19 : decode cX4_go 19 = .ok (.aload_n 0, 1) := by decide +kernel
theorem dX4_go_20 : decode cX4_go 20 = .ok (.getfield 37, 3) := by decide +kernel
theorem dX4_go_23 : decode cX4_go 23 = .ok (.iload_n 1, 1) := by decide +kernel
theorem dX4_go_24 : decode cX4_go 24 = .ok (.dup2, 1) := by decide +kernel
theorem dX4_go_25 : decode cX4_go 25 = .ok (.iaload, 1) := by decide +kernel
theorem dX4_go_26 : decode cX4_go 26 = .ok (.aload_n 0, 1) := by decide +kernel
theorem dX4_go_27 : decode cX4_go 27 = .ok (.iload_n 2, 1) := by decide +kernel
theorem dX4_go_28 : decode cX4_go 28 = .ok (.invokevirtual 84, 3) := by decide +kernel
theorem dX4_go_31 : decode cX4_go 31 = .ok (.ior, 1) := by decide +kernel
theorem dX4_go_32 : decode cX4_go 32 = .ok (.iastore, 1) := by decide +kernel
theorem dX4_go_33 : decode cX4_go 33 = .ok (.iconst 1, 1) := by decide +kernel
theorem dX4_go_34 : decode cX4_go 34 = .ok (.ireturn, 1) := by decide +kernel
theorem dX4_clearBed_0 : decode cX4_clearBed 0 = .ok (.aload_n 0, 1) := by decide +kernel
theorem dX4_clearBed_1 : decode cX4_clearBed 1 = .ok (.getfield 40, 3) := by decide +kernel
theorem dX4_clearBed_4 : decode cX4_clearBed 4 = .ok (.iload_n 1, 1) := by decide +kernel
theorem dX4_clearBed_5 : decode cX4_clearBed 5 = .ok (.iaload, 1) := by decide +kernel
theorem dX4_clearBed_6 : decode cX4_clearBed 6 = .ok (.ifCond .ne 5, 3) := by decide +kernel
theorem dX4_clearBed_9 : decode cX4_clearBed 9 = .ok (.iconst 0, 1) := by decide +kernel
theorem dX4_clearBed_10 : decode cX4_clearBed 10 = .ok (.ireturn, 1) := by decide +kernel
theorem dX4_clearBed_11 : decode cX4_clearBed 11 = .ok (.aload_n 0, 1) := by decide +kernel
theorem dX4_clearBed_12 : decode cX4_clearBed 12 = .ok (.dup, 1) := by decide +kernel
theorem dX4_clearBed_13 : decode cX4_clearBed 13 = .ok (.getfield 21, 3) := by decide +kernel
theorem dX4_clearBed_16 : decode cX4_clearBed 16 = .ok (.aload_n 0, 1) := by decide +kernel
theorem dX4_clearBed_17 : decode cX4_clearBed 17 = .ok (.getfield 40, 3) := by decide +kernel
theorem dX4_clearBed_20 : decode cX4_clearBed 20 = .ok (.iload_n 1, 1) := by decide +kernel
theorem dX4_clearBed_21 : decode cX4_clearBed 21 = .ok (.iaload, 1) := by decide +kernel
theorem dX4_clearBed_22 : decode cX4_clearBed 22 = .ok (.iadd, 1) := by decide +kernel
theorem dX4_clearBed_23 : decode cX4_clearBed 23 = .ok (.putfield 21, 3) := by decide +kernel
theorem dX4_clearBed_26 : decode cX4_clearBed 26 = .ok (.aload_n 0, 1) := by decide +kernel
theorem dX4_clearBed_27 : decode cX4_clearBed 27 = .ok (.getfield 40, 3) := by decide +kernel
theorem dX4_clearBed_30 : decode cX4_clearBed 30 = .ok (.iload_n 1, 1) := by decide +kernel
theorem dX4_clearBed_31 : decode cX4_clearBed 31 = .ok (.iconst 0, 1) := by decide +kernel
theorem dX4_clearBed_32 : decode cX4_clearBed 32 = .ok (.iastore, 1) := by decide +kernel
theorem dX4_clearBed_33 : decode cX4_clearBed 33 = .ok (.iconst 1, 1) := by decide +kernel
theorem dX4_clearBed_34 : decode cX4_clearBed 34 = .ok (.ireturn, 1) := by decide +kernel
theorem dX4_passYear_0 : decode cX4_passYear 0 = .ok (.iconst 0, 1) := by decide +kernel
theorem dX4_passYear_1 : decode cX4_passYear 1 = .ok (.istore_n 2, 1) := by decide +kernel
theorem dX4_passYear_2 : decode cX4_passYear 2 = .ok (.iload_n 2, 1) := by decide +kernel
theorem dX4_passYear_3 : decode cX4_passYear 3 = .ok (.aload_n 1, 1) := by decide +kernel
theorem dX4_passYear_4 : decode cX4_passYear 4 = .ok (.getfield 81, 3) := by decide +kernel
theorem dX4_passYear_7 : decode cX4_passYear 7 = .ok (.if_icmp .ge 61, 3) := by decide +kernel
theorem dX4_passYear_10 : decode cX4_passYear 10 = .ok (.aload_n 0, 1) := by decide +kernel
theorem dX4_passYear_11 : decode cX4_passYear 11 = .ok (.getfield 40, 3) := by decide +kernel
theorem dX4_passYear_14 : decode cX4_passYear 14 = .ok (.iload_n 2, 1) := by decide +kernel
theorem dX4_passYear_15 : decode cX4_passYear 15 = .ok (.iaload, 1) := by decide +kernel
theorem dX4_passYear_16 : decode cX4_passYear 16 = .ok (.ifCond .le 46, 3) := by decide +kernel
theorem dX4_passYear_19 : decode cX4_passYear 19 = .ok (.aload_n 0, 1) := by decide +kernel
theorem dX4_passYear_20 : decode cX4_passYear 20 = .ok (.aload_n 0, 1) := by decide +kernel
theorem dX4_passYear_21 : decode cX4_passYear 21 = .ok (.iload_n 2, 1) := by decide +kernel
theorem dX4_passYear_22 : decode cX4_passYear 22 = .ok (.iconst 0, 1) := by decide +kernel
theorem dX4_passYear_23 : decode cX4_passYear 23 = .ok (.invokevirtual 78, 3) := by decide +kernel
theorem dX4_passYear_26 : decode cX4_passYear 26 = .ok (.invokevirtual 130, 3) := by decide +kernel
theorem dX4_passYear_29 : decode cX4_passYear 29 = .ok (.aload_n 0, 1) := by decide +kernel
theorem dX4_passYear_30 : decode cX4_passYear 30 = .ok (.getfield 43, 3) := by decide +kernel
theorem dX4_passYear_33 : decode cX4_passYear 33 = .ok (.iload_n 2, 1) := by decide +kernel
theorem dX4_passYear_34 : decode cX4_passYear 34 = .ok (.bipush 12, 2) := by decide +kernel
theorem dX4_passYear_36 : decode cX4_passYear 36 = .ok (.imul, 1) := by decide +kernel
theorem dX4_passYear_37 : decode cX4_passYear 37 = .ok (.iconst 1, 1) := by decide +kernel
theorem dX4_passYear_38 : decode cX4_passYear 38 = .ok (.iadd, 1) := by decide +kernel
theorem dX4_passYear_39 : decode cX4_passYear 39 = .ok (.aload_n 0, 1) := by decide +kernel
theorem dX4_passYear_40 : decode cX4_passYear 40 = .ok (.getfield 43, 3) := by decide +kernel
theorem dX4_passYear_43 : decode cX4_passYear 43 = .ok (.iload_n 2, 1) := by decide +kernel
theorem dX4_passYear_44 : decode cX4_passYear 44 = .ok (.bipush 12, 2) := by decide +kernel
theorem dX4_passYear_46 : decode cX4_passYear 46 = .ok (.imul, 1) := by decide +kernel
theorem dX4_passYear_47 : decode cX4_passYear 47 = .ok (.bipush 11, 2) := by decide +kernel
theorem dX4_passYear_49 : decode cX4_passYear 49 = .ok (.invokestatic 54, 3) := by decide +kernel
theorem dX4_passYear_52 : decode cX4_passYear 52 = .ok (.aload_n 0, 1) := by decide +kernel
theorem dX4_passYear_53 : decode cX4_passYear 53 = .ok (.getfield 40, 3) := by decide +kernel
theorem dX4_passYear_56 : decode cX4_passYear 56 = .ok (.iload_n 2, 1) := by decide +kernel
theorem dX4_passYear_57 : decode cX4_passYear 57 = .ok (.dup2, 1) := by decide +kernel
theorem dX4_passYear_58 : decode cX4_passYear 58 = .ok (.iaload, 1) := by decide +kernel
theorem dX4_passYear_59 : decode cX4_passYear 59 = .ok (.iconst 1, 1) := by decide +kernel
theorem dX4_passYear_60 : decode cX4_passYear 60 = .ok (.isub, 1) := by decide +kernel
theorem dX4_passYear_61 : decode cX4_passYear 61 = .ok (.iastore, 1) := by decide +kernel
theorem dX4_passYear_62 : decode cX4_passYear 62 = .ok (.iinc 2 1, 3) := by decide +kernel
theorem dX4_passYear_65 : decode cX4_passYear 65 = .ok (.goto (-63), 3) := by decide +kernel
theorem dX4_passYear_68 : decode cX4_passYear 68 = .ok (.aload_n 0, 1) := by decide +kernel
theorem dX4_passYear_69 : decode cX4_passYear 69 = .ok (.dup, 1) := by decide +kernel
theorem dX4_passYear_70 : decode cX4_passYear 70 = .ok (.getfield 15, 3) := by decide +kernel
theorem dX4_passYear_73 : decode cX4_passYear 73 = .ok (.iconst 2, 1) := by decide +kernel
theorem dX4_passYear_74 : decode cX4_passYear 74 = .ok (.idiv, 1) := by decide +kernel
theorem dX4_passYear_75 : decode cX4_passYear 75 = .ok (.putfield 15, 3) := by decide +kernel
theorem dX4_passYear_78 : decode cX4_passYear 78 = .ok (.aload_n 0, 1) := by decide +kernel
theorem dX4_passYear_79 : decode cX4_passYear 79 = .ok (.dup, 1) := by decide +kernel
theorem dX4_passYear_80 : decode cX4_passYear 80 = .ok (.getfield 9, 3) := by decide +kernel
theorem dX4_passYear_83 : decode cX4_passYear 83 = .ok (.iconst 1, 1) := by decide +kernel
theorem dX4_passYear_84 : decode cX4_passYear 84 = .ok (.iadd, 1) := by decide +kernel
theorem dX4_passYear_85 : decode cX4_passYear 85 = .ok (.putfield 9, 3) := by decide +kernel
theorem dX4_passYear_88 : decode cX4_passYear 88 = .ok (.return_, 1) := by decide +kernel
theorem dX4_ripen_0 : decode cX4_ripen 0 = .ok (.aload_n 0, 1) := by decide +kernel
theorem dX4_ripen_1 : decode cX4_ripen 1 = .ok (.getfield 27, 3) := by decide +kernel
theorem dX4_ripen_4 : decode cX4_ripen 4 = .ok (.bipush 60, 2) := by decide +kernel
theorem dX4_ripen_6 : decode cX4_ripen 6 = .ok (.if_icmp .lt 24, 3) := by decide +kernel
theorem dX4_ripen_9 : decode cX4_ripen 9 = .ok (.aload_n 0, 1) := by decide +kernel
theorem dX4_ripen_10 : decode cX4_ripen 10 = .ok (.getfield 46, 3) := by decide +kernel
theorem dX4_ripen_13 : decode cX4_ripen 13 = .ok (.iconst 1, 1) := by decide +kernel
theorem dX4_ripen_14 : decode cX4_ripen 14 = .ok (.aload_n 0, 1) := by decide +kernel
theorem dX4_ripen_15 : decode cX4_ripen 15 = .ok (.getfield 46, 3) := by decide +kernel
theorem dX4_ripen_18 : decode cX4_ripen 18 = .ok (.iconst 0, 1) := by decide +kernel
theorem dX4_ripen_19 : decode cX4_ripen 19 = .ok (.bipush 59, 2) := by decide +kernel
theorem dX4_ripen_21 : decode cX4_ripen 21 = .ok (.invokestatic 54, 3) := by decide +kernel
theorem dX4_ripen_24 : decode cX4_ripen 24 = .ok (.aload_n 0, 1) := by decide +kernel
theorem dX4_ripen_25 : decode cX4_ripen 25 = .ok (.bipush 59, 2) := by decide +kernel
theorem dX4_ripen_27 : decode cX4_ripen 27 = .ok (.putfield 27, 3) := by decide +kernel
theorem dX4_ripen_30 : decode cX4_ripen 30 = .ok (.aload_n 0, 1) := by decide +kernel
theorem dX4_ripen_31 : decode cX4_ripen 31 = .ok (.getfield 46, 3) := by decide +kernel
theorem dX4_ripen_34 : decode cX4_ripen 34 = .ok (.aload_n 0, 1) := by decide +kernel
theorem dX4_ripen_35 : decode cX4_ripen 35 = .ok (.getfield 27, 3) := by decide +kernel
theorem dX4_ripen_38 : decode cX4_ripen 38 = .ok (.iload_n 1, 1) := by decide +kernel
theorem dX4_ripen_39 : decode cX4_ripen 39 = .ok (.iastore, 1) := by decide +kernel
theorem dX4_ripen_40 : decode cX4_ripen 40 = .ok (.aload_n 0, 1) := by decide +kernel
theorem dX4_ripen_41 : decode cX4_ripen 41 = .ok (.dup, 1) := by decide +kernel
theorem dX4_ripen_42 : decode cX4_ripen 42 = .ok (.getfield 27, 3) := by decide +kernel
theorem dX4_ripen_45 : decode cX4_ripen 45 = .ok (.iconst 1, 1) := by decide +kernel
theorem dX4_ripen_46 : decode cX4_ripen 46 = .ok (.iadd, 1) := by decide +kernel
theorem dX4_ripen_47 : decode cX4_ripen 47 = .ok (.putfield 27, 3) := by decide +kernel
theorem dX4_ripen_50 : decode cX4_ripen 50 = .ok (.return_, 1) := by decide +kernel
theorem dX5_init_0 : decode cX5_init 0 = .ok (.aload_n 0, 1) := by decide +kernel
theorem dX5_init_1 : decode cX5_init 1 = .ok (.invokespecial 3, 3) := by decide +kernel
theorem dX5_init_4 : decode cX5_init 4 = .ok (.aload_n 0, 1) := by decide +kernel
theorem dX5_init_5 : decode cX5_init 5 = .ok (.bipush 6, 2) := by decide +kernel
theorem dX5_init_7 : decode cX5_init 7 = .ok (.newarray .int, 2) := by decide +kernel
theorem dX5_init_9 : decode cX5_init 9 = .ok (.putfield 9, 3) := by decide +kernel
theorem dX5_init_12 : decode cX5_init 12 = .ok (.aload_n 0, 1) := by decide +kernel
theorem dX5_init_13 : decode cX5_init 13 = .ok (.bipush 36, 2) := by decide +kernel
theorem dX5_init_15 : decode cX5_init 15 = .ok (.newarray .int, 2) := by decide +kernel
theorem dX5_init_17 : decode cX5_init 17 = .ok (.putfield 15, 3) := by decide +kernel
theorem dX5_init_20 : decode cX5_init 20 = .ok (.aload_n 0, 1) := by decide +kernel
theorem dX5_init_21 : decode cX5_init 21 = .ok (.sipush 384, 3) := by decide +kernel
theorem dX5_init_24 : decode cX5_init 24 = .ok (.newarray .int, 2) := by decide +kernel
theorem dX5_init_26 : decode cX5_init 26 = .ok (.putfield 18, 3) := by decide +kernel
theorem dX5_init_29 : decode cX5_init 29 = .ok (.aload_n 0, 1) := by decide +kernel
theorem dX5_init_30 : decode cX5_init 30 = .ok (.iconst 0, 1) := by decide +kernel
theorem dX5_init_31 : decode cX5_init 31 = .ok (.putfield 21, 3) := by decide +kernel
theorem dX5_init_34 : decode cX5_init 34 = .ok (.aload_n 0, 1) := by decide +kernel
theorem dX5_init_35 : decode cX5_init 35 = .ok (.iconst 0, 1) := by decide +kernel
theorem dX5_init_36 : decode cX5_init 36 = .ok (.putfield 25, 3) := by decide +kernel
theorem dX5_init_39 : decode cX5_init 39 = .ok (.return_, 1) := by decide +kernel
theorem dX5_find_0 : decode cX5_find 0 = .ok (.iconst 0, 1) := by decide +kernel
theorem dX5_find_1 : decode cX5_find 1 = .ok (.istore_n 3, 1) := by decide +kernel
theorem dX5_find_2 : decode cX5_find 2 = .ok (.iconst 0, 1) := by decide +kernel
theorem dX5_find_3 : decode cX5_find 3 = .ok (.istore 4, 2) := by decide +kernel
theorem dX5_find_5 : decode cX5_find 5 = .ok (.iload 4, 2) := by decide +kernel
theorem dX5_find_7 : decode cX5_find 7 = .ok (.aload_n 2, 1) := by decide +kernel
theorem dX5_find_8 : decode cX5_find 8 = .ok (.getfield 28, 3) := by decide +kernel
theorem dX5_find_11 : decode cX5_find 11 = .ok (.if_icmp .ge 95, 3) := by decide +kernel
theorem dX5_find_14 : decode cX5_find 14 = .ok (.iload_n 3, 1) := by decide +kernel
theorem dX5_find_15 : decode cX5_find 15 = .ok (.aload_n 1, 1) := by decide +kernel
theorem dX5_find_16 : decode cX5_find 16 = .ok (.aload_n 2, 1) := by decide +kernel
theorem dX5_find_17 : decode cX5_find 17 = .ok (.iload 4, 2) := by decide +kernel
theorem dX5_find_19 : decode cX5_find 19 = .ok (.invokevirtual 33, 3) := by decide +kernel
theorem dX5_find_22 : decode cX5_find 22 = .ok (.ifCond .le 10, 3) := by decide +kernel
theorem dX5_find_25 : decode cX5_find 25 = .ok (.iconst 1, 1) := by decide +kernel
theorem dX5_find_26 : decode cX5_find 26 = .ok (.iload 4, 2) := by decide +kernel
theorem dX5_find_28 : decode cX5_find 28 = .ok (.ishl, 1) := by decide +kernel
theorem dX5_find_29 : decode cX5_find 29 = .ok (.goto 4, 3) := by decide +kernel
theorem dX5_find_32 : decode cX5_find 32 = .ok (.iconst 0, 1) := by decide +kernel
theorem dX5_find_33 : decode cX5_find 33 = .ok (.ior, 1) := by decide +kernel
theorem dX5_find_34 : decode cX5_find 34 = .ok (.istore_n 3, 1) := by decide +kernel
theorem dX5_find_35 : decode cX5_find 35 = .ok (.iconst 0, 1) := by decide +kernel
theorem dX5_find_36 : decode cX5_find 36 = .ok (.istore 5, 2) := by decide +kernel
theorem dX5_find_38 : decode cX5_find 38 = .ok (.iload 5, 2) := by decide +kernel
theorem dX5_find_40 : decode cX5_find 40 = .ok (.aload_n 2, 1) := by decide +kernel
theorem dX5_find_41 : decode cX5_find 41 = .ok (.getfield 28, 3) := by decide +kernel
theorem dX5_find_44 : decode cX5_find 44 = .ok (.if_icmp .ge 56, 3) := by decide +kernel
theorem dX5_find_47 : decode cX5_find 47 = .ok (.aload_n 2, 1) := by decide +kernel
theorem dX5_find_48 : decode cX5_find 48 = .ok (.iload 4, 2) := by decide +kernel
theorem dX5_find_50 : decode cX5_find 50 = .ok (.aload_n 2, 1) := by decide +kernel
theorem dX5_find_51 : decode cX5_find 51 = .ok (.getfield 39, 3) := by decide +kernel
theorem dX5_find_54 : decode cX5_find 54 = .ok (.iload 4, 2) := by decide +kernel
theorem dX5_find_56 : decode cX5_find 56 = .ok (.iaload, 1) := by decide +kernel
theorem dX5_find_57 : decode cX5_find 57 = .ok (.iconst 1, 1) := by decide +kernel
theorem dX5_find_58 : decode cX5_find 58 = .ok (.isub, 1) := by decide +kernel
theorem dX5_find_59 : decode cX5_find 59 = .ok (.invokevirtual 42, 3) := by decide +kernel
theorem dX5_find_62 : decode cX5_find 62 = .ok (.istore 6, 2) := by decide +kernel
theorem dX5_find_64 : decode cX5_find 64 = .ok (.aload_n 0, 1) := by decide +kernel
theorem dX5_find_65 : decode cX5_find 65 = .ok (.getfield 15, 3) := by decide +kernel
theorem dX5_find_68 : decode cX5_find 68 = .ok (.iload 4, 2) := by decide +kernel
theorem dX5_find_70 : decode cX5_find 70 = .ok (.bipush 6, 2) := by decide +kernel
theorem dX5_find_72 : decode cX5_find 72 = .ok (.imul, 1) := by decide +kernel
theorem dX5_find_73 : decode cX5_find 73 = .ok (.iload 5, 2) := by decide +kernel
theorem dX5_find_75 : decode cX5_find 75 = .ok (.iadd, 1) := by decide +kernel
theorem dX5_find_76 : decode cX5_find 76 = .ok (.iload 6, 2) := by decide +kernel
theorem dX5_find_78 : decode cX5_find 78 = .ok (.aload_n 1, 1) := by decide +kernel
theorem dX5_find_79 : decode cX5_find 79 = .ok (.aload_n 2, 1) := by decide +kernel
theorem dX5_find_80 : decode cX5_find 80 = .ok (.iload 5, 2) := by decide +kernel
theorem dX5_find_82 : decode cX5_find 82 = .ok (.invokevirtual 46, 3) := by decide +kernel
theorem dX5_find_85 : decode cX5_find 85 = .ok (.if_icmp .ne 7, 3) := by decide +kernel
theorem dX5_find_88 : decode cX5_find 88 = .ok (.iconst 1, 1) := by decide +kernel
theorem dX5_find_89 : decode cX5_find 89 = .ok (.goto 4, 3) := by decide +kernel
theorem dX5_find_92 : decode cX5_find 92 = .ok (.iconst 0, 1) := by decide +kernel
theorem dX5_find_93 : decode cX5_find 93 = .ok (.iastore, 1) := by decide +kernel
theorem dX5_find_94 : decode cX5_find 94 = .ok (.iinc 5 1, 3) := by decide +kernel
theorem dX5_find_97 : decode cX5_find 97 = .ok (.goto (-59), 3) := by decide +kernel
theorem dX5_find_100 : decode cX5_find 100 = .ok (.iinc 4 1, 3) := by decide +kernel
theorem dX5_find_103 : decode cX5_find 103 = .ok (.goto (-98), 3) := by decide +kernel
theorem dX5_find_106 : decode cX5_find 106 = .ok (.iconst 0, 1) := by decide +kernel
theorem dX5_find_107 : decode cX5_find 107 = .ok (.istore 4, 2) := by decide +kernel
theorem dX5_find_109 : decode cX5_find 109 = .ok (.iload 4, 2) := by decide +kernel
theorem dX5_find_111 : decode cX5_find 111 = .ok (.iconst 1, 1) := by decide +kernel
theorem dX5_find_112 : decode cX5_find 112 = .ok (.aload_n 2, 1) := by decide +kernel
theorem dX5_find_113 : decode cX5_find 113 = .ok (.getfield 28, 3) := by decide +kernel
theorem dX5_find_116 : decode cX5_find 116 = .ok (.ishl, 1) := by decide +kernel
theorem dX5_find_117 : decode cX5_find 117 = .ok (.if_icmp .ge 70, 3) := by decide +kernel
theorem dX5_find_120 : decode cX5_find 120 = .ok (.iconst 0, 1) := by decide +kernel
theorem dX5_find_121 : decode cX5_find 121 = .ok (.istore 5, 2) := by decide +kernel
theorem dX5_find_123 : decode cX5_find 123 = .ok (.iload 5, 2) := by decide +kernel
theorem dX5_find_125 : decode cX5_find 125 = .ok (.aload_n 2, 1) := by decide +kernel
theorem dX5_find_126 : decode cX5_find 126 = .ok (.getfield 28, 3) := by decide +kernel
theorem dX5_find_129 : decode cX5_find 129 = .ok (.if_icmp .ge 52, 3) := by decide +kernel
theorem dX5_find_132 : decode cX5_find 132 = .ok (.aload_n 0, 1) := by decide +kernel
theorem dX5_find_133 : decode cX5_find 133 = .ok (.iload 5, 2) := by decide +kernel
theorem dX5_find_135 : decode cX5_find 135 = .ok (.iload 4, 2) := by decide +kernel
theorem dX5_find_137 : decode cX5_find 137 = .ok (.invokevirtual 49, 3) := by decide +kernel
theorem dX5_find_140 : decode cX5_find 140 = .ok (.istore 6, 2) := by decide +kernel
theorem dX5_find_142 : decode cX5_find 142 = .ok (.aload_n 0, 1) := by decide +kernel
theorem dX5_find_143 : decode cX5_find 143 = .ok (.getfield 18, 3) := by decide +kernel
theorem dX5_find_146 : decode cX5_find 146 = .ok (.iload 4, 2) := by decide +kernel
theorem dX5_find_148 : decode cX5_find 148 = .ok (.bipush 6, 2) := by decide +kernel
theorem dX5_find_150 : decode cX5_find 150 = .ok (.imul, 1) := by decide +kernel
theorem dX5_find_151 : decode cX5_find 151 = .ok (.iload 5, 2) := by decide +kernel
theorem dX5_find_153 : decode cX5_find 153 = .ok (.iadd, 1) := by decide +kernel
theorem dX5_find_154 : decode cX5_find 154 = .ok (.iload 6, 2) := by decide +kernel
theorem dX5_find_156 : decode cX5_find 156 = .ok (.iconst (-1), 1) := by decide +kernel
theorem dX5_find_157 : decode cX5_find 157 = .ok (.if_icmp .ne 7, 3) := by decide +kernel
theorem dX5_find_160 : decode cX5_find 160 = .ok (.iconst 0, 1) := by decide +kernel
theorem dX5_find_161 : decode cX5_find 161 = .ok (.goto 13, 3) := by decide +kernel
theorem dX5_find_164 : decode cX5_find 164 = .ok (.aload_n 0, 1) := by decide +kernel
theorem dX5_find_165 : decode cX5_find 165 = .ok (.iload 5, 2) := by decide +kernel
theorem dX5_find_167 : decode cX5_find 167 = .ok (.iload 6, 2) := by decide +kernel
theorem dX5_find_169 : decode cX5_find 169 = .ok (.iload 4, 2) := by decide +kernel
theorem dX5_find_171 : decode cX5_find 171 = .ok (.invokevirtual 52, 3) := by decide +kernel
theorem dX5_find_174 : decode cX5_find 174 = .ok (.iastore, 1) := by decide +kernel
theorem dX5_find_175 : decode cX5_find 175 = .ok (.iinc 5 1, 3) := by decide +kernel
theorem dX5_find_178 : decode cX5_find 178 = .ok (.goto (-55), 3) := by decide +kernel
theorem dX5_find_181 : decode cX5_find 181 = .ok (.iinc 4 1, 3) := by decide +kernel
theorem dX5_find_184 : decode cX5_find 184 = .ok (.goto (-75), 3) := by decide +kernel
theorem dX5_find_187 : decode cX5_find 187 = .ok (.aload_n 0, 1) := by decide +kernel
theorem dX5_find_188 : decode cX5_find 188 = .ok (.iload_n 3, 1) := by decide +kernel
theorem dX5_find_189 : decode cX5_find 189 = .ok (.invokevirtual 56, 3) := by decide +kernel
theorem dX5_find_192 : decode cX5_find 192 = .ok (.return_, 1) := by decide +kernel
theorem dX5_choose_0 : decode cX5_choose 0 = .ok (.aload_n 0, 1) := by decide +kernel
theorem dX5_choose_1 : decode cX5_choose 1 = .ok (.iconst 0, 1) := by decide +kernel
theorem dX5_choose_2 : decode cX5_choose 2 = .ok (.putfield 21, 3) := by decide +kernel
theorem dX5_choose_5 : decode cX5_choose 5 = .ok (.aload_n 0, 1) := by decide +kernel
theorem dX5_choose_6 : decode cX5_choose 6 = .ok (.iconst 0, 1) := by decide +kernel
theorem dX5_choose_7 : decode cX5_choose 7 = .ok (.putfield 25, 3) := by decide +kernel
theorem dX5_choose_10 : decode cX5_choose 10 = .ok (.iload_n 1, 1) := by decide +kernel
theorem dX5_choose_11 : decode cX5_choose 11 = .ok (.istore_n 2, 1) := by decide +kernel
theorem dX5_choose_12 : decode cX5_choose 12 = .ok (.iconst (-1), 1) := by decide +kernel
theorem dX5_choose_13 : decode cX5_choose 13 = .ok (.istore_n 3, 1) := by decide +kernel
theorem dX5_choose_14 : decode cX5_choose 14 = .ok (.iconst 0, 1) := by decide +kernel
theorem dX5_choose_15 : decode cX5_choose 15 = .ok (.istore 4, 2) := by decide +kernel
theorem dX5_choose_17 : decode cX5_choose 17 = .ok (.iload 4, 2) := by decide +kernel
theorem dX5_choose_19 : decode cX5_choose 19 = .ok (.bipush 6, 2) := by decide +kernel
theorem dX5_choose_21 : decode cX5_choose 21 = .ok (.if_icmp .ge 83, 3) := by decide +kernel
theorem dX5_choose_24 : decode cX5_choose 24 = .ok (.iload_n 2, 1) := by decide +kernel
theorem dX5_choose_25 : decode cX5_choose 25 = .ok (.ifCond .eq 79, 3) := by decide +kernel
theorem dX5_choose_28 : decode cX5_choose 28 = .ok (.aload_n 0, 1) := by decide +kernel
theorem dX5_choose_29 : decode cX5_choose 29 = .ok (.iload_n 3, 1) := by decide +kernel
theorem dX5_choose_30 : decode cX5_choose 30 = .ok (.iload_n 2, 1) := by decide +kernel
theorem dX5_choose_31 : decode cX5_choose 31 = .ok (.invokevirtual 49, 3) := by decide +kernel
theorem dX5_choose_34 : decode cX5_choose 34 = .ok (.istore 5, 2) := by decide +kernel
theorem dX5_choose_36 : decode cX5_choose 36 = .ok (.iload 5, 2) := by decide +kernel
theorem dX5_choose_38 : decode cX5_choose 38 = .ok (.iconst (-1), 1) := by decide +kernel
theorem dX5_choose_39 : decode cX5_choose 39 = .ok (.if_icmp .ne 4, 3) := by decide +kernel
theorem dX5_choose_42 : decode cX5_choose 42 = .ok (.return_, 1) := by decide +kernel
theorem dX5_choose_43 : decode cX5_choose 43 = .ok (.aload_n 0, 1) := by decide +kernel
theorem dX5_choose_44 : decode cX5_choose 44 = .ok (.iload 4, 2) := by decide +kernel
theorem dX5_choose_46 : decode cX5_choose 46 = .ok (.ifCond .ne 14, 3) := by decide +kernel
theorem dX5_choose_49 : decode cX5_choose 49 = .ok (.aload_n 0, 1) := by decide +kernel
theorem dX5_choose_50 : decode cX5_choose 50 = .ok (.iload_n 3, 1) := by decide +kernel
theorem dX5_choose_51 : decode cX5_choose 51 = .ok (.iload 5, 2) := by decide +kernel
theorem dX5_choose_53 : decode cX5_choose 53 = .ok (.iload_n 2, 1) := by decide +kernel
theorem dX5_choose_54 : decode cX5_choose 54 = .ok (.invokevirtual 52, 3) := by decide +kernel
theorem dX5_choose_57 : decode cX5_choose 57 = .ok (.goto 7, 3) := by decide +kernel
theorem dX5_choose_60 : decode cX5_choose 60 = .ok (.aload_n 0, 1) := by decide +kernel
theorem dX5_choose_61 : decode cX5_choose 61 = .ok (.getfield 25, 3) := by decide +kernel
theorem dX5_choose_64 : decode cX5_choose 64 = .ok (.putfield 25, 3) := by decide +kernel
theorem dX5_choose_67 : decode cX5_choose 67 = .ok (.aload_n 0, 1) := by decide +kernel
theorem dX5_choose_68 : decode cX5_choose 68 = .ok (.getfield 9, 3) := by decide +kernel
theorem dX5_choose_71 : decode cX5_choose 71 = .ok (.iload 4, 2) := by decide +kernel
theorem dX5_choose_73 : decode cX5_choose 73 = .ok (.iload 5, 2) := by decide +kernel
theorem dX5_choose_75 : decode cX5_choose 75 = .ok (.iastore, 1) := by decide +kernel
theorem dX5_choose_76 : decode cX5_choose 76 = .ok (.aload_n 0, 1) := by decide +kernel
theorem dX5_choose_77 : decode cX5_choose 77 = .ok (.dup, 1) := by decide +kernel
theorem dX5_choose_78 : decode cX5_choose 78 = .ok (.getfield 21, 3) := by decide +kernel
theorem dX5_choose_81 : decode cX5_choose 81 = .ok (.iconst 1, 1) := by decide +kernel
theorem dX5_choose_82 : decode cX5_choose 82 = .ok (.iadd, 1) := by decide +kernel
theorem dX5_choose_83 : decode cX5_choose 83 = .ok (.putfield 21, 3) := by decide +kernel
theorem dX5_choose_86 : decode cX5_choose 86 = .ok (.iload_n 2, 1) := by decide +kernel
theorem dX5_choose_87 : decode cX5_choose 87 = .ok (.iconst 1, 1) := by decide +kernel
theorem dX5_choose_88 : decode cX5_choose 88 = .ok (.iload 5, 2) := by decide +kernel
theorem dX5_choose_90 : decode cX5_choose 90 = .ok (.ishl, 1) := by decide +kernel
theorem dX5_choose_91 : decode cX5_choose 91 = .ok (.iconst (-1), 1) := by decide +kernel
theorem dX5_choose_92 : decode cX5_choose 92 = .ok (.ixor, 1) := by decide +kernel
theorem dX5_choose_93 : decode cX5_choose 93 = .ok (.iand, 1) := by decide +kernel
theorem dX5_choose_94 : decode cX5_choose 94 = .ok (.istore_n 2, 1) := by decide +kernel
theorem dX5_choose_95 : decode cX5_choose 95 = .ok (.iload 5, 2) := by decide +kernel
theorem dX5_choose_97 : decode cX5_choose 97 = .ok (.istore_n 3, 1) := by decide +kernel
theorem dX5_choose_98 : decode cX5_choose 98 = .ok (.iinc 4 1, 3) := by decide +kernel
theorem dX5_choose_101 : decode cX5_choose 101 = .ok (.goto (-84), 3) := by decide +kernel
theorem dX5_choose_104 : decode cX5_choose 104 = .ok (.return_, 1) := by decide +kernel
theorem dX5_bestBehind_0 : decode cX5_bestBehind 0 = .ok (.iconst (-1), 1) := by decide +kernel
theorem dX5_bestBehind_1 : decode cX5_bestBehind 1 = .ok (.istore_n 3, 1) := by decide +kernel
theorem dX5_bestBehind_2 : decode cX5_bestBehind 2 = .ok (.iconst 0, 1) := by decide +kernel
theorem dX5_bestBehind_3 : decode cX5_bestBehind 3 = .ok (.istore 4, 2) := by decide +kernel
theorem dX5_bestBehind_5 : decode cX5_bestBehind 5 = .ok (.iload 4, 2) := by decide +kernel
theorem dX5_bestBehind_7 : decode cX5_bestBehind 7 = .ok (.bipush 6, 2) := by decide +kernel
theorem dX5_bestBehind_9 : decode cX5_bestBehind 9 = .ok (.if_icmp .ge 44, 3) := by decide +kernel
theorem dX5_bestBehind_12 : decode cX5_bestBehind 12 = .ok (.iload_n 2, 1) := by decide +kernel
theorem dX5_bestBehind_13 : decode cX5_bestBehind 13 = .ok (.iload 4, 2) := by decide +kernel
theorem dX5_bestBehind_15 : decode cX5_bestBehind 15 = .ok (.invokestatic 60, 3) := by decide +kernel
theorem dX5_bestBehind_18 : decode cX5_bestBehind 18 = .ok (.ifCond .eq 29, 3) := by decide +kernel
theorem dX5_bestBehind_21 : decode cX5_bestBehind 21 = .ok (.iload_n 3, 1) := by decide +kernel
theorem dX5_bestBehind_22 : decode cX5_bestBehind 22 = .ok (.iconst (-1), 1) := by decide +kernel
theorem dX5_bestBehind_23 : decode cX5_bestBehind 23 = .ok (.if_icmp .eq 21, 3) := by decide +kernel
theorem dX5_bestBehind_26 : decode cX5_bestBehind 26 = .ok (.aload_n 0, 1) := by decide +kernel
theorem dX5_bestBehind_27 : decode cX5_bestBehind 27 = .ok (.iload_n 1, 1) := by decide +kernel
theorem dX5_bestBehind_28 : decode cX5_bestBehind 28 = .ok (.iload 4, 2) := by decide +kernel
theorem dX5_bestBehind_30 : decode cX5_bestBehind 30 = .ok (.iload_n 2, 1) := by decide +kernel
theorem dX5_bestBehind_31 : decode cX5_bestBehind 31 = .ok (.invokevirtual 52, 3) := by decide +kernel
theorem dX5_bestBehind_34 : decode cX5_bestBehind 34 = .ok (.aload_n 0, 1) := by decide +kernel
theorem dX5_bestBehind_35 : decode cX5_bestBehind 35 = .ok (.iload_n 1, 1) := by decide +kernel
theorem dX5_bestBehind_36 : decode cX5_bestBehind 36 = .ok (.iload_n 3, 1) := by decide +kernel
theorem dX5_bestBehind_37 : decode cX5_bestBehind 37 = .ok (.iload_n 2, 1) := by decide +kernel
theorem dX5_bestBehind_38 : decode cX5_bestBehind 38 = .ok (.invokevirtual 52, 3) := by decide +kernel
theorem dX5_bestBehind_41 : decode cX5_bestBehind 41 = .ok (.if_icmp .le 6, 3) := by decide +kernel
theorem dX5_bestBehind_44 : decode cX5_bestBehind 44 = .ok (.iload 4, 2) := by decide +kernel
theorem dX5_bestBehind_46 : decode cX5_bestBehind 46 = .ok (.istore_n 3, 1) := by decide +kernel
theorem dX5_bestBehind_47 : decode cX5_bestBehind 47 = .ok (.iinc 4 1, 3) := by decide +kernel
theorem dX5_bestBehind_50 : decode cX5_bestBehind 50 = .ok (.goto (-45), 3) := by decide +kernel
theorem dX5_bestBehind_53 : decode cX5_bestBehind 53 = .ok (.iload_n 3, 1) := by decide +kernel
theorem dX5_bestBehind_54 : decode cX5_bestBehind 54 = .ok (.ireturn, 1) := by decide +kernel
theorem dX5_worth_0 : decode cX5_worth 0 = .ok (.iload_n 1, 1) := by decide +kernel
theorem dX5_worth_1 : decode cX5_worth 1 = .ok (.iconst (-1), 1) := by decide +kernel
theorem dX5_worth_2 : decode cX5_worth 2 = .ok (.if_icmp .ne 7, 3) := by decide +kernel
theorem dX5_worth_5 : decode cX5_worth 5 = .ok (.iconst 0, 1) := by decide +kernel
theorem dX5_worth_6 : decode cX5_worth 6 = .ok (.goto 14, 3) := by decide +kernel
theorem dX5_worth_9 : decode cX5_worth 9 = .ok (.aload_n 0, 1) := by decide +kernel
theorem dX5_worth_10 : decode cX5_worth 10 = .ok (.getfield 15, 3) := by decide +kernel
theorem dX5_worth_13 : decode cX5_worth 13 = .ok (.iload_n 1, 1) := by decide +kernel
theorem dX5_worth_14 : decode cX5_worth 14 = .ok (.bipush 6, 2) := by decide +kernel
theorem dX5_worth_16 : decode cX5_worth 16 = .ok (.imul, 1) := by decide +kernel
theorem dX5_worth_17 : decode cX5_worth 17 = .ok (.iload_n 2, 1) := by decide +kernel
theorem dX5_worth_18 : decode cX5_worth 18 = .ok (.iadd, 1) := by decide +kernel
theorem dX5_worth_19 : decode cX5_worth 19 = .ok (.iaload, 1) := by decide +kernel
theorem dX5_worth_20 : decode cX5_worth 20 = .ok (.istore 4, 2) := by decide +kernel
theorem dX5_worth_22 : decode cX5_worth 22 = .ok (.iload 4, 2) := by decide +kernel
theorem dX5_worth_24 : decode cX5_worth 24 = .ok (.aload_n 0, 1) := by decide +kernel
theorem dX5_worth_25 : decode cX5_worth 25 = .ok (.getfield 18, 3) := by decide +kernel
theorem dX5_worth_28 : decode cX5_worth 28 = .ok (.iload_n 3, 1) := by decide +kernel
theorem dX5_worth_29 : decode cX5_worth 29 = .ok (.iconst 1, 1) := by decide +kernel
theorem dX5_worth_30 : decode cX5_worth 30 = .ok (.iload_n 2, 1) := by decide +kernel
theorem dX5_worth_31 : decode cX5_worth 31 = .ok (.ishl, 1) := by decide +kernel
theorem dX5_worth_32 : decode cX5_worth 32 = .ok (.iconst (-1), 1) := by decide +kernel
theorem dX5_worth_33 : decode cX5_worth 33 = .ok (.ixor, 1) := by decide +kernel
theorem dX5_worth_34 : decode cX5_worth 34 = .ok (.iand, 1) := by decide +kernel
theorem dX5_worth_35 : decode cX5_worth 35 = .ok (.bipush 6, 2) := by decide +kernel
theorem dX5_worth_37 : decode cX5_worth 37 = .ok (.imul, 1) := by decide +kernel
theorem dX5_worth_38 : decode cX5_worth 38 = .ok (.iload_n 2, 1) := by decide +kernel
theorem dX5_worth_39 : decode cX5_worth 39 = .ok (.iadd, 1) := by decide +kernel
theorem dX5_worth_40 : decode cX5_worth 40 = .ok (.iaload, 1) := by decide +kernel
theorem dX5_worth_41 : decode cX5_worth 41 = .ok (.iadd, 1) := by decide +kernel
theorem dX5_worth_42 : decode cX5_worth 42 = .ok (.ireturn, 1) := by decide +kernel
theorem dX6_init_0 : decode cX6_init 0 = .ok (.aload_n 0, 1) := by decide +kernel
theorem dX6_init_1 : decode cX6_init 1 = .ok (.invokespecial 3, 3) := by decide +kernel
theorem dX6_init_4 : decode cX6_init 4 = .ok (.aload_n 0, 1) := by decide +kernel
theorem dX6_init_5 : decode cX6_init 5 = .ok (.iconst 0, 1) := by decide +kernel
theorem dX6_init_6 : decode cX6_init 6 = .ok (.putfield 9, 3) := by decide +kernel
theorem dX6_init_9 : decode cX6_init 9 = .ok (.return_, 1) := by decide +kernel
theorem dX6_pass_0 : decode cX6_pass 0 = .ok (.aload_n 0, 1) := by decide +kernel
theorem dX6_pass_1 : decode cX6_pass 1 = .ok (.iload 4, 2) := by decide +kernel
theorem dX6_pass_3 : decode cX6_pass 3 = .ok (.putfield 9, 3) := by decide +kernel
theorem dX6_pass_6 : decode cX6_pass 6 = .ok (.iconst 0, 1) := by decide +kernel
theorem dX6_pass_7 : decode cX6_pass 7 = .ok (.istore 7, 2) := by decide +kernel
theorem dX6_pass_9 : decode cX6_pass 9 = .ok (.iload 7, 2) := by decide +kernel
theorem dX6_pass_11 : decode cX6_pass 11 = .ok (.iload 6, 2) := by decide +kernel
theorem dX6_pass_13 : decode cX6_pass 13 = .ok (.if_icmp .ge 32, 3) := by decide +kernel
theorem dX6_pass_16 : decode cX6_pass 16 = .ok (.aload_n 0, 1) := by decide +kernel
theorem dX6_pass_17 : decode cX6_pass 17 = .ok (.aload_n 1, 1) := by decide +kernel
theorem dX6_pass_18 : decode cX6_pass 18 = .ok (.aload_n 2, 1) := by decide +kernel
theorem dX6_pass_19 : decode cX6_pass 19 = .ok (.aload_n 3, 1) := by decide +kernel
theorem dX6_pass_20 : decode cX6_pass 20 = .ok (.iload 5, 2) := by decide +kernel
theorem dX6_pass_22 : decode cX6_pass 22 = .ok (.invokevirtual 15, 3) := by decide +kernel
theorem dX6_pass_25 : decode cX6_pass 25 = .ok (.aload_n 0, 1) := by decide +kernel
theorem dX6_pass_26 : decode cX6_pass 26 = .ok (.aload_n 1, 1) := by decide +kernel
theorem dX6_pass_27 : decode cX6_pass 27 = .ok (.aload_n 2, 1) := by decide +kernel
theorem dX6_pass_28 : decode cX6_pass 28 = .ok (.aload_n 3, 1) := by decide +kernel
theorem dX6_pass_29 : decode cX6_pass 29 = .ok (.iload 5, 2) := by decide +kernel
theorem dX6_pass_31 : decode cX6_pass 31 = .ok (.invokevirtual 15, 3) := by decide +kernel
theorem dX6_pass_34 : decode cX6_pass 34 = .ok (.aload_n 1, 1) := by decide +kernel
theorem dX6_pass_35 : decode cX6_pass 35 = .ok (.aload_n 2, 1) := by decide +kernel
theorem dX6_pass_36 : decode cX6_pass 36 = .ok (.invokevirtual 19, 3) := by decide +kernel
theorem dX6_pass_39 : decode cX6_pass 39 = .ok (.iinc 7 1, 3) := by decide +kernel
theorem dX6_pass_42 : decode cX6_pass 42 = .ok (.goto (-33), 3) := by decide +kernel
theorem dX6_pass_45 : decode cX6_pass 45 = .ok (.return_, 1) := by decide +kernel
theorem dX6_passHalf_0 : decode cX6_passHalf 0 = .ok (.aload_n 0, 1) := by decide +kernel
theorem dX6_passHalf_1 : decode cX6_passHalf 1 = .ok (.bipush 16, 2) := by decide +kernel
theorem dX6_passHalf_3 : decode cX6_passHalf 3 = .ok (.invokevirtual 25, 3) := by decide +kernel
theorem dX6_passHalf_6 : decode cX6_passHalf 6 = .ok (.iload 4, 2) := by decide +kernel
theorem dX6_passHalf_8 : decode cX6_passHalf 8 = .ok (.if_icmp .ge 20, 3) := by decide +kernel
theorem dX6_passHalf_11 : decode cX6_passHalf 11 = .ok (.aload_n 1, 1) := by decide +kernel
theorem dX6_passHalf_12 : decode cX6_passHalf 12 = .ok (.aload_n 2, 1) := by decide +kernel
theorem dX6_passHalf_13 : decode cX6_passHalf 13 = .ok (.aload_n 3, 1) := by decide +kernel
theorem dX6_passHalf_14 : decode cX6_passHalf 14 = .ok (.aload_n 0, 1) := by decide +kernel
theorem dX6_passHalf_15 : decode cX6_passHalf 15 = .ok (.bipush 20, 2) := by decide +kernel
theorem dX6_passHalf_17 : decode cX6_passHalf 17 = .ok (.invokevirtual 25, 3) := by decide +kernel
theorem dX6_passHalf_20 : decode cX6_passHalf 20 = .ok (.iconst 1, 1) := by decide +kernel
theorem dX6_passHalf_21 : decode cX6_passHalf 21 = .ok (.iadd, 1) := by decide +kernel
theorem dX6_passHalf_22 : decode cX6_passHalf 22 = .ok (.invokevirtual 29, 3) := by decide +kernel
theorem dX6_passHalf_25 : decode cX6_passHalf 25 = .ok (.goto 17, 3) := by decide +kernel
theorem dX6_passHalf_28 : decode cX6_passHalf 28 = .ok (.aload_n 1, 1) := by decide +kernel
theorem dX6_passHalf_29 : decode cX6_passHalf 29 = .ok (.aload_n 2, 1) := by decide +kernel
theorem dX6_passHalf_30 : decode cX6_passHalf 30 = .ok (.aload_n 0, 1) := by decide +kernel
theorem dX6_passHalf_31 : decode cX6_passHalf 31 = .ok (.bipush 30, 2) := by decide +kernel
theorem dX6_passHalf_33 : decode cX6_passHalf 33 = .ok (.invokevirtual 25, 3) := by decide +kernel
theorem dX6_passHalf_36 : decode cX6_passHalf 36 = .ok (.iconst 1, 1) := by decide +kernel
theorem dX6_passHalf_37 : decode cX6_passHalf 37 = .ok (.iadd, 1) := by decide +kernel
theorem dX6_passHalf_38 : decode cX6_passHalf 38 = .ok (.invokevirtual 33, 3) := by decide +kernel
theorem dX6_passHalf_41 : decode cX6_passHalf 41 = .ok (.pop, 1) := by decide +kernel
theorem dX6_passHalf_42 : decode cX6_passHalf 42 = .ok (.aload_n 2, 1) := by decide +kernel
theorem dX6_passHalf_43 : decode cX6_passHalf 43 = .ok (.getfield 37, 3) := by decide +kernel
theorem dX6_passHalf_46 : decode cX6_passHalf 46 = .ok (.ifCond .le 28, 3) := by decide +kernel
theorem dX6_passHalf_49 : decode cX6_passHalf 49 = .ok (.aload_n 0, 1) := by decide +kernel
theorem dX6_passHalf_50 : decode cX6_passHalf 50 = .ok (.aload_n 2, 1) := by decide +kernel
theorem dX6_passHalf_51 : decode cX6_passHalf 51 = .ok (.getfield 37, 3) := by decide +kernel
theorem dX6_passHalf_54 : decode cX6_passHalf 54 = .ok (.invokevirtual 25, 3) := by decide +kernel
theorem dX6_passHalf_57 : decode cX6_passHalf 57 = .ok (.istore 5, 2) := by decide +kernel
theorem dX6_passHalf_59 : decode cX6_passHalf 59 = .ok (.aload_n 1, 1) := by decide +kernel
theorem dX6_passHalf_60 : decode cX6_passHalf 60 = .ok (.iload 5, 2) := by decide +kernel
theorem dX6_passHalf_62 : decode cX6_passHalf 62 = .ok (.aload_n 0, 1) := by decide +kernel
theorem dX6_passHalf_63 : decode cX6_passHalf 63 = .ok (.aload_n 2, 1) := by decide +kernel
theorem dX6_passHalf_64 : decode cX6_passHalf 64 = .ok (.getfield 42, 3) := by decide +kernel
theorem dX6_passHalf_67 : decode cX6_passHalf 67 = .ok (.invokevirtual 25, 3) := by decide +kernel
theorem dX6_passHalf_70 : decode cX6_passHalf 70 = .ok (.invokevirtual 45, 3) := by decide +kernel
theorem dX6_passHalf_73 : decode cX6_passHalf 73 = .ok (.pop, 1) := by decide +kernel
theorem dX6_passHalf_74 : decode cX6_passHalf 74 = .ok (.return_, 1) := by decide +kernel
theorem dX6_draw_0 : decode cX6_draw 0 = .ok (.aload_n 0, 1) := by decide +kernel
theorem dX6_draw_1 : decode cX6_draw 1 = .ok (.aload_n 0, 1) := by decide +kernel
theorem dX6_draw_2 : decode cX6_draw 2 = .ok (.getfield 9, 3) := by decide +kernel
theorem dX6_draw_5 : decode cX6_draw 5 = .ok (.ldc 49, 2) := by decide +kernel
theorem dX6_draw_7 : decode cX6_draw 7 = .ok (.imul, 1) := by decide +kernel
theorem dX6_draw_8 : decode cX6_draw 8 = .ok (.sipush 12345, 3) := by decide +kernel
theorem dX6_draw_11 : decode cX6_draw 11 = .ok (.iadd, 1) := by decide +kernel
theorem dX6_draw_12 : decode cX6_draw 12 = .ok (.putfield 9, 3) := by decide +kernel
theorem dX6_draw_15 : decode cX6_draw 15 = .ok (.aload_n 0, 1) := by decide +kernel
theorem dX6_draw_16 : decode cX6_draw 16 = .ok (.getfield 9, 3) := by decide +kernel
theorem dX6_draw_19 : decode cX6_draw 19 = .ok (.bipush 16, 2) := by decide +kernel
theorem dX6_draw_21 : decode cX6_draw 21 = .ok (.iushr, 1) := by decide +kernel
theorem dX6_draw_22 : decode cX6_draw 22 = .ok (.sipush 32767, 3) := by decide +kernel
theorem dX6_draw_25 : decode cX6_draw 25 = .ok (.iand, 1) := by decide +kernel
theorem dX6_draw_26 : decode cX6_draw 26 = .ok (.istore_n 2, 1) := by decide +kernel
theorem dX6_draw_27 : decode cX6_draw 27 = .ok (.iload_n 1, 1) := by decide +kernel
theorem dX6_draw_28 : decode cX6_draw 28 = .ok (.ifCond .le 9, 3) := by decide +kernel
theorem dX6_draw_31 : decode cX6_draw 31 = .ok (.iload_n 2, 1) := by decide +kernel
theorem dX6_draw_32 : decode cX6_draw 32 = .ok (.iload_n 1, 1) := by decide +kernel
theorem dX6_draw_33 : decode cX6_draw 33 = .ok (.irem, 1) := by decide +kernel
theorem dX6_draw_34 : decode cX6_draw 34 = .ok (.goto 4, 3) := by decide +kernel
theorem dX6_draw_37 : decode cX6_draw 37 = .ok (.iconst 0, 1) := by decide +kernel
theorem dX6_draw_38 : decode cX6_draw 38 = .ok (.ireturn, 1) := by decide +kernel
theorem dX7_init_0 : decode cX7_init 0 = .ok (.aload_n 0, 1) := by decide +kernel
theorem dX7_init_1 : decode cX7_init 1 = .ok (.invokespecial 3, 3) := by decide +kernel
theorem dX7_init_4 : decode cX7_init 4 = .ok (.aload_n 0, 1) := by decide +kernel
theorem dX7_init_5 : decode cX7_init 5 = .ok (.sipush 600, 3) := by decide +kernel
theorem dX7_init_8 : decode cX7_init 8 = .ok (.newarray .byte, 2) := by decide +kernel
theorem dX7_init_10 : decode cX7_init 10 = .ok (.putfield 9, 3) := by decide +kernel
theorem dX7_init_13 : decode cX7_init 13 = .ok (.aload_n 0, 1) := by decide +kernel
theorem dX7_init_14 : decode cX7_init 14 = .ok (.iconst 0, 1) := by decide +kernel
theorem dX7_init_15 : decode cX7_init 15 = .ok (.putfield 15, 3) := by decide +kernel
theorem dX7_init_18 : decode cX7_init 18 = .ok (.aload_n 0, 1) := by decide +kernel
theorem dX7_init_19 : decode cX7_init 19 = .ok (.iconst 0, 1) := by decide +kernel
theorem dX7_init_20 : decode cX7_init 20 = .ok (.putfield 19, 3) := by decide +kernel
theorem dX7_init_23 : decode cX7_init 23 = .ok (.aload_n 0, 1) := by decide +kernel
theorem dX7_init_24 : decode cX7_init 24 = .ok (.iconst 0, 1) := by decide +kernel
theorem dX7_init_25 : decode cX7_init 25 = .ok (.putfield 22, 3) := by decide +kernel
theorem dX7_init_28 : decode cX7_init 28 = .ok (.aload_n 0, 1) := by decide +kernel
theorem dX7_init_29 : decode cX7_init 29 = .ok (.iconst 0, 1) := by decide +kernel
theorem dX7_init_30 : decode cX7_init 30 = .ok (.putfield 25, 3) := by decide +kernel
theorem dX7_init_33 : decode cX7_init 33 = .ok (.aload_n 0, 1) := by decide +kernel
theorem dX7_init_34 : decode cX7_init 34 = .ok (.iconst 0, 1) := by decide +kernel
theorem dX7_init_35 : decode cX7_init 35 = .ok (.putfield 28, 3) := by decide +kernel
theorem dX7_init_38 : decode cX7_init 38 = .ok (.aload_n 0, 1) := by decide +kernel
theorem dX7_init_39 : decode cX7_init 39 = .ok (.iconst (-1), 1) := by decide +kernel
theorem dX7_init_40 : decode cX7_init 40 = .ok (.putfield 31, 3) := by decide +kernel
theorem dX7_init_43 : decode cX7_init 43 = .ok (.return_, 1) := by decide +kernel
theorem dX7_hasRoom_0 : decode cX7_hasRoom 0 = .ok (.aload_n 0, 1) := by decide +kernel
theorem dX7_hasRoom_1 : decode cX7_hasRoom 1 = .ok (.getfield 15, 3) := by decide +kernel
theorem dX7_hasRoom_4 : decode cX7_hasRoom 4 = .ok (.bipush 20, 2) := by decide +kernel
theorem dX7_hasRoom_6 : decode cX7_hasRoom 6 = .ok (.iadd, 1) := by decide +kernel
theorem dX7_hasRoom_7 : decode cX7_hasRoom 7 = .ok (.sipush 600, 3) := by decide +kernel
theorem dX7_hasRoom_10 : decode cX7_hasRoom 10 = .ok (.if_icmp .gt 7, 3) := by decide +kernel
theorem dX7_hasRoom_13 : decode cX7_hasRoom 13 = .ok (.iconst 1, 1) := by decide +kernel
theorem dX7_hasRoom_14 : decode cX7_hasRoom 14 = .ok (.goto 4, 3) := by decide +kernel
theorem dX7_hasRoom_17 : decode cX7_hasRoom 17 = .ok (.iconst 0, 1) := by decide +kernel
theorem dX7_hasRoom_18 : decode cX7_hasRoom 18 = .ok (.ireturn, 1) := by decide +kernel
theorem dX7_put_0 : decode cX7_put 0 = .ok (.bipush 24, 2) := by decide +kernel
theorem dX7_put_2 : decode cX7_put 2 = .ok (.istore_n 2, 1) := by decide +kernel
theorem dX7_put_3 : decode cX7_put 3 = .ok (.iload_n 2, 1) := by decide +kernel
theorem dX7_put_4 : decode cX7_put 4 = .ok (.ifCond .lt 42, 3) := by decide +kernel
theorem dX7_put_7 : decode cX7_put 7 = .ok (.aload_n 0, 1) := by decide +kernel
theorem dX7_put_8 : decode cX7_put 8 = .ok (.getfield 15, 3) := by decide +kernel
theorem dX7_put_11 : decode cX7_put 11 = .ok (.sipush 600, 3) := by decide +kernel
theorem dX7_put_14 : decode cX7_put 14 = .ok (.if_icmp .ge 32, 3) := by decide +kernel
theorem dX7_put_17 : decode cX7_put 17 = .ok (.aload_n 0, 1) := by decide +kernel
theorem dX7_put_18 : decode cX7_put 18 = .ok (.getfield 9, 3) := by decide +kernel
theorem dX7_put_21 : decode cX7_put 21 = .ok (.aload_n 0, 1) := by decide +kernel
theorem dX7_put_22 : decode cX7_put 22 = .ok (.getfield 15, 3) := by decide +kernel
theorem dX7_put_25 : decode cX7_put 25 = .ok (.iload_n 1, 1) := by decide +kernel
theorem dX7_put_26 : decode cX7_put 26 = .ok (.iload_n 2, 1) := by decide +kernel
theorem dX7_put_27 : decode cX7_put 27 = .ok (.ishr, 1) := by decide +kernel
theorem dX7_put_28 : decode cX7_put 28 = .ok (.i2b, 1) := by decide +kernel
theorem dX7_put_29 : decode cX7_put 29 = .ok (.bastore, 1) := by decide +kernel
theorem dX7_put_30 : decode cX7_put 30 = .ok (.aload_n 0, 1) := by decide +kernel
theorem dX7_put_31 : decode cX7_put 31 = .ok (.dup, 1) := by decide +kernel
theorem dX7_put_32 : decode cX7_put 32 = .ok (.getfield 15, 3) := by decide +kernel
theorem dX7_put_35 : decode cX7_put 35 = .ok (.iconst 1, 1) := by decide +kernel
theorem dX7_put_36 : decode cX7_put 36 = .ok (.iadd, 1) := by decide +kernel
theorem dX7_put_37 : decode cX7_put 37 = .ok (.putfield 15, 3) := by decide +kernel
theorem dX7_put_40 : decode cX7_put 40 = .ok (.iinc 2 (-8), 3) := by decide +kernel
theorem dX7_put_43 : decode cX7_put 43 = .ok (.goto (-40), 3) := by decide +kernel
theorem dX7_put_46 : decode cX7_put 46 = .ok (.return_, 1) := by decide +kernel
theorem dX7_open_0 : decode cX7_open 0 = .ok (.aload_n 0, 1) := by decide +kernel
theorem dX7_open_1 : decode cX7_open 1 = .ok (.iload_n 1, 1) := by decide +kernel
theorem dX7_open_2 : decode cX7_open 2 = .ok (.putfield 19, 3) := by decide +kernel
theorem dX7_open_5 : decode cX7_open 5 = .ok (.aload_n 0, 1) := by decide +kernel
theorem dX7_open_6 : decode cX7_open 6 = .ok (.iconst 0, 1) := by decide +kernel
theorem dX7_open_7 : decode cX7_open 7 = .ok (.putfield 22, 3) := by decide +kernel
theorem dX7_open_10 : decode cX7_open 10 = .ok (.aload_n 0, 1) := by decide +kernel
theorem dX7_open_11 : decode cX7_open 11 = .ok (.iconst 0, 1) := by decide +kernel
theorem dX7_open_12 : decode cX7_open 12 = .ok (.putfield 25, 3) := by decide +kernel
theorem dX7_open_15 : decode cX7_open 15 = .ok (.aload_n 0, 1) := by decide +kernel
theorem dX7_open_16 : decode cX7_open 16 = .ok (.iconst 0, 1) := by decide +kernel
theorem dX7_open_17 : decode cX7_open 17 = .ok (.putfield 28, 3) := by decide +kernel
theorem dX7_open_20 : decode cX7_open 20 = .ok (.aload_n 0, 1) := by decide +kernel
theorem dX7_open_21 : decode cX7_open 21 = .ok (.iconst (-1), 1) := by decide +kernel
theorem dX7_open_22 : decode cX7_open 22 = .ok (.putfield 31, 3) := by decide +kernel
theorem dX7_open_25 : decode cX7_open 25 = .ok (.return_, 1) := by decide +kernel
theorem dX7_empty_0 : decode cX7_empty 0 = .ok (.aload_n 0, 1) := by decide +kernel
theorem dX7_empty_1 : decode cX7_empty 1 = .ok (.iconst 0, 1) := by decide +kernel
theorem dX7_empty_2 : decode cX7_empty 2 = .ok (.putfield 15, 3) := by decide +kernel
theorem dX7_empty_5 : decode cX7_empty 5 = .ok (.return_, 1) := by decide +kernel
theorem dX7_isSound_0 : decode cX7_isSound 0 = .ok (.aload_n 0, 1) := by decide +kernel
theorem dX7_isSound_1 : decode cX7_isSound 1 = .ok (.getfield 28, 3) := by decide +kernel
theorem dX7_isSound_4 : decode cX7_isSound 4 = .ok (.ifCond .ne 7, 3) := by decide +kernel
theorem dX7_isSound_7 : decode cX7_isSound 7 = .ok (.iconst 1, 1) := by decide +kernel
theorem dX7_isSound_8 : decode cX7_isSound 8 = .ok (.goto 4, 3) := by decide +kernel
theorem dX7_isSound_11 : decode cX7_isSound 11 = .ok (.iconst 0, 1) := by decide +kernel
theorem dX7_isSound_12 : decode cX7_isSound 12 = .ok (.ireturn, 1) := by decide +kernel
theorem dX7_answer_0 : decode cX7_answer 0 = .ok (.aload_n 0, 1) := by decide +kernel
theorem dX7_answer_1 : decode cX7_answer 1 = .ok (.getfield 28, 3) := by decide +kernel
theorem dX7_answer_4 : decode cX7_answer 4 = .ok (.bipush 10, 2) := by decide +kernel
theorem dX7_answer_6 : decode cX7_answer 6 = .ok (.isub, 1) := by decide +kernel
theorem dX7_answer_7 : decode cX7_answer 7 = .ok (.ireturn, 1) := by decide +kernel
theorem dX7_blame_0 : decode cX7_blame 0 = .ok (.aload_n 0, 1) := by decide +kernel
theorem dX7_blame_1 : decode cX7_blame 1 = .ok (.getfield 28, 3) := by decide +kernel
theorem dX7_blame_4 : decode cX7_blame 4 = .ok (.ifCond .ne 16, 3) := by decide +kernel
theorem dX7_blame_7 : decode cX7_blame 7 = .ok (.aload_n 0, 1) := by decide +kernel
theorem dX7_blame_8 : decode cX7_blame 8 = .ok (.iload_n 1, 1) := by decide +kernel
theorem dX7_blame_9 : decode cX7_blame 9 = .ok (.putfield 28, 3) := by decide +kernel
theorem dX7_blame_12 : decode cX7_blame 12 = .ok (.aload_n 0, 1) := by decide +kernel
theorem dX7_blame_13 : decode cX7_blame 13 = .ok (.aload_n 0, 1) := by decide +kernel
theorem dX7_blame_14 : decode cX7_blame 14 = .ok (.getfield 25, 3) := by decide +kernel
theorem dX7_blame_17 : decode cX7_blame 17 = .ok (.putfield 31, 3) := by decide +kernel
theorem dX7_blame_20 : decode cX7_blame 20 = .ok (.return_, 1) := by decide +kernel
theorem dX7_peek_0 : decode cX7_peek 0 = .ok (.aload_n 0, 1) := by decide +kernel
theorem dX7_peek_1 : decode cX7_peek 1 = .ok (.getfield 28, 3) := by decide +kernel
theorem dX7_peek_4 : decode cX7_peek 4 = .ok (.ifCond .eq 5, 3) := by decide +kernel
theorem dX7_peek_7 : decode cX7_peek 7 = .ok (.iconst (-1), 1) := by decide +kernel
theorem dX7_peek_8 : decode cX7_peek 8 = .ok (.ireturn, 1) := by decide +kernel
theorem dX7_peek_9 : decode cX7_peek 9 = .ok (.aload_n 0, 1) := by decide +kernel
theorem dX7_peek_10 : decode cX7_peek 10 = .ok (.getfield 22, 3) := by decide +kernel
theorem dX7_peek_13 : decode cX7_peek 13 = .ok (.aload_n 0, 1) := by decide +kernel
theorem dX7_peek_14 : decode cX7_peek 14 = .ok (.getfield 19, 3) := by decide +kernel
theorem dX7_peek_17 : decode cX7_peek 17 = .ok (.if_icmp .ge 40, 3) := by decide +kernel
theorem dX7_peek_20 : decode cX7_peek 20 = .ok (.aload_n 0, 1) := by decide +kernel
theorem dX7_peek_21 : decode cX7_peek 21 = .ok (.getfield 22, 3) := by decide +kernel
theorem dX7_peek_24 : decode cX7_peek 24 = .ok (.sipush 600, 3) := by decide +kernel
theorem dX7_peek_27 : decode cX7_peek 27 = .ok (.if_icmp .ge 30, 3) := by decide +kernel
theorem dX7_peek_30 : decode cX7_peek 30 = .ok (.aload_n 0, 1) := by decide +kernel
theorem dX7_peek_31 : decode cX7_peek 31 = .ok (.getfield 9, 3) := by decide +kernel
theorem dX7_peek_34 : decode cX7_peek 34 = .ok (.aload_n 0, 1) := by decide +kernel
theorem dX7_peek_35 : decode cX7_peek 35 = .ok (.getfield 22, 3) := by decide +kernel
theorem dX7_peek_38 : decode cX7_peek 38 = .ok (.baload, 1) := by decide +kernel
theorem dX7_peek_39 : decode cX7_peek 39 = .ok (.bipush 32, 2) := by decide +kernel
theorem dX7_peek_41 : decode cX7_peek 41 = .ok (.if_icmp .ne 16, 3) := by decide +kernel
theorem dX7_peek_44 : decode cX7_peek 44 = .ok (.aload_n 0, 1) := by decide +kernel
theorem dX7_peek_45 : decode cX7_peek 45 = .ok (.dup, 1) := by decide +kernel
theorem dX7_peek_46 : decode cX7_peek 46 = .ok (.getfield 22, 3) := by decide +kernel
theorem dX7_peek_49 : decode cX7_peek 49 = .ok (.iconst 1, 1) := by decide +kernel
theorem dX7_peek_50 : decode cX7_peek 50 = .ok (.iadd, 1) := by decide +kernel
theorem dX7_peek_51 : decode cX7_peek 51 = .ok (.putfield 22, 3) := by decide +kernel
theorem dX7_peek_54 : decode cX7_peek 54 = .ok (.goto (-45), 3) := by decide +kernel
theorem dX7_peek_57 : decode cX7_peek 57 = .ok (.aload_n 0, 1) := by decide +kernel
theorem dX7_peek_58 : decode cX7_peek 58 = .ok (.aload_n 0, 1) := by decide +kernel
theorem dX7_peek_59 : decode cX7_peek 59 = .ok (.getfield 22, 3) := by decide +kernel
theorem dX7_peek_62 : decode cX7_peek 62 = .ok (.putfield 25, 3) := by decide +kernel
theorem dX7_peek_65 : decode cX7_peek 65 = .ok (.aload_n 0, 1) := by decide +kernel
theorem dX7_peek_66 : decode cX7_peek 66 = .ok (.getfield 22, 3) := by decide +kernel
theorem dX7_peek_69 : decode cX7_peek 69 = .ok (.aload_n 0, 1) := by decide +kernel
theorem dX7_peek_70 : decode cX7_peek 70 = .ok (.getfield 19, 3) := by decide +kernel
theorem dX7_peek_73 : decode cX7_peek 73 = .ok (.if_icmp .ge 29, 3) := by decide +kernel
theorem dX7_peek_76 : decode cX7_peek 76 = .ok (.aload_n 0, 1) := by decide +kernel
theorem dX7_peek_77 : decode cX7_peek 77 = .ok (.getfield 22, 3) := by decide +kernel
theorem dX7_peek_80 : decode cX7_peek 80 = .ok (.sipush 600, 3) := by decide +kernel
theorem dX7_peek_83 : decode cX7_peek 83 = .ok (.if_icmp .ge 19, 3) := by decide +kernel
theorem dX7_peek_86 : decode cX7_peek 86 = .ok (.aload_n 0, 1) := by decide +kernel
theorem dX7_peek_87 : decode cX7_peek 87 = .ok (.getfield 9, 3) := by decide +kernel
theorem dX7_peek_90 : decode cX7_peek 90 = .ok (.aload_n 0, 1) := by decide +kernel
theorem dX7_peek_91 : decode cX7_peek 91 = .ok (.getfield 22, 3) := by decide +kernel
theorem dX7_peek_94 : decode cX7_peek 94 = .ok (.baload, 1) := by decide +kernel
theorem dX7_peek_95 : decode cX7_peek 95 = .ok (.sipush 255, 3) := by decide +kernel
theorem dX7_peek_98 : decode cX7_peek 98 = .ok (.iand, 1) := by decide +kernel
theorem dX7_peek_99 : decode cX7_peek 99 = .ok (.goto 4, 3) := by decide +kernel
theorem dX7_peek_102 : decode cX7_peek 102 = .ok (.iconst (-1), 1) := by decide +kernel
theorem dX7_peek_103 : decode cX7_peek 103 = .ok (.ireturn, 1) := by decide +kernel
theorem dX7_byteAt_0 : decode cX7_byteAt 0 = .ok (.iload_n 1, 1) := by decide +kernel
theorem dX7_byteAt_1 : decode cX7_byteAt 1 = .ok (.ifCond .lt 31, 3) := by decide +kernel
theorem dX7_byteAt_4 : decode cX7_byteAt 4 = .ok (.iload_n 1, 1) := by decide +kernel
theorem dX7_byteAt_5 : decode cX7_byteAt 5 = .ok (.aload_n 0, 1) := by decide +kernel
theorem dX7_byteAt_6 : decode cX7_byteAt 6 = .ok (.getfield 19, 3) := by decide +kernel
theorem dX7_byteAt_9 : decode cX7_byteAt 9 = .ok (.if_icmp .ge 23, 3) := by decide +kernel
theorem dX7_byteAt_12 : decode cX7_byteAt 12 = .ok (.iload_n 1, 1) := by decide +kernel
theorem dX7_byteAt_13 : decode cX7_byteAt 13 = .ok (.sipush 600, 3) := by decide +kernel
theorem dX7_byteAt_16 : decode cX7_byteAt 16 = .ok (.if_icmp .ge 16, 3) := by decide +kernel
theorem dX7_byteAt_19 : decode cX7_byteAt 19 = .ok (.aload_n 0, 1) := by decide +kernel
theorem dX7_byteAt_20 : decode cX7_byteAt 20 = .ok (.getfield 9, 3) := by decide +kernel
theorem dX7_byteAt_23 : decode cX7_byteAt 23 = .ok (.iload_n 1, 1) := by decide +kernel
theorem dX7_byteAt_24 : decode cX7_byteAt 24 = .ok (.baload, 1) := by decide +kernel
theorem dX7_byteAt_25 : decode cX7_byteAt 25 = .ok (.sipush 255, 3) := by decide +kernel
theorem dX7_byteAt_28 : decode cX7_byteAt 28 = .ok (.iand, 1) := by decide +kernel
theorem dX7_byteAt_29 : decode cX7_byteAt 29 = .ok (.goto 4, 3) := by decide +kernel
theorem dX7_byteAt_32 : decode cX7_byteAt 32 = .ok (.iconst (-1), 1) := by decide +kernel
theorem dX7_byteAt_33 : decode cX7_byteAt 33 = .ok (.ireturn, 1) := by decide +kernel
theorem dX7_isAtEnd_0 : decode cX7_isAtEnd 0 = .ok (.aload_n 0, 1) := by decide +kernel
theorem dX7_isAtEnd_1 : decode cX7_isAtEnd 1 = .ok (.invokevirtual 34, 3) := by decide +kernel
theorem dX7_isAtEnd_4 : decode cX7_isAtEnd 4 = .ok (.iconst (-1), 1) := by decide +kernel
theorem dX7_isAtEnd_5 : decode cX7_isAtEnd 5 = .ok (.if_icmp .ne 7, 3) := by decide +kernel
theorem dX7_isAtEnd_8 : decode cX7_isAtEnd 8 = .ok (.iconst 1, 1) := by decide +kernel
theorem dX7_isAtEnd_9 : decode cX7_isAtEnd 9 = .ok (.goto 4, 3) := by decide +kernel
theorem dX7_isAtEnd_12 : decode cX7_isAtEnd 12 = .ok (.iconst 0, 1) := by decide +kernel
theorem dX7_isAtEnd_13 : decode cX7_isAtEnd 13 = .ok (.ireturn, 1) := by decide +kernel
theorem dX7_isAtNumber_0 : decode cX7_isAtNumber 0 = .ok (.aload_n 0, 1) := by decide +kernel
theorem dX7_isAtNumber_1 : decode cX7_isAtNumber 1 = .ok (.invokevirtual 34, 3) := by decide +kernel
theorem dX7_isAtNumber_4 : decode cX7_isAtNumber 4 = .ok (.invokestatic 38, 3) := by decide +kernel
theorem dX7_isAtNumber_7 : decode cX7_isAtNumber 7 = .ok (.ireturn, 1) := by decide +kernel
theorem dX7_takes_0 : decode cX7_takes 0 = .ok (.aload_n 0, 1) := by decide +kernel
theorem dX7_takes_1 : decode cX7_takes 1 = .ok (.invokevirtual 34, 3) := by decide +kernel
theorem dX7_takes_4 : decode cX7_takes 4 = .ok (.iload_n 1, 1) := by decide +kernel
theorem dX7_takes_5 : decode cX7_takes 5 = .ok (.if_icmp .eq 5, 3) := by decide +kernel
theorem dX7_takes_8 : decode cX7_takes 8 = .ok (.iconst 0, 1) := by decide +kernel
theorem dX7_takes_9 : decode cX7_takes 9 = .ok (.ireturn, 1) := by decide +kernel
theorem dX7_takes_10 : decode cX7_takes 10 = .ok (.aload_n 0, 1) := by decide +kernel
theorem dX7_takes_11 : decode cX7_takes 11 = .ok (.dup, 1) := by decide +kernel
theorem dX7_takes_12 : decode cX7_takes 12 = .ok (.getfield 22, 3) := by decide +kernel
theorem dX7_takes_15 : decode cX7_takes 15 = .ok (.iconst 1, 1) := by decide +kernel
theorem dX7_takes_16 : decode cX7_takes 16 = .ok (.iadd, 1) := by decide +kernel
theorem dX7_takes_17 : decode cX7_takes 17 = .ok (.putfield 22, 3) := by decide +kernel
theorem dX7_takes_20 : decode cX7_takes 20 = .ok (.iconst 1, 1) := by decide +kernel
theorem dX7_takes_21 : decode cX7_takes 21 = .ok (.ireturn, 1) := by decide +kernel
theorem dX7_takes__0 : decode cX7_takes_ 0 = .ok (.aload_n 0, 1) := by decide +kernel
theorem dX7_takes__1 : decode cX7_takes_ 1 = .ok (.invokevirtual 34, 3) := by decide +kernel
theorem dX7_takes__4 : decode cX7_takes_ 4 = .ok (.pop, 1) := by decide +kernel
theorem dX7_takes__5 : decode cX7_takes_ 5 = .ok (.aload_n 1, 1) := by decide +kernel
theorem dX7_takes__6 : decode cX7_takes_ 6 = .ok (.invokevirtual 42, 3) := by decide +kernel
theorem dX7_takes__9 : decode cX7_takes_ 9 = .ok (.istore_n 2, 1) := by decide +kernel
theorem dX7_takes__10 : decode cX7_takes_ 10 = .ok (.iconst 0, 1) := by decide +kernel
theorem dX7_takes__11 : decode cX7_takes_ 11 = .ok (.istore_n 3, 1) := by decide +kernel
theorem dX7_takes__12 : decode cX7_takes_ 12 = .ok (.iload_n 3, 1) := by decide +kernel
theorem dX7_takes__13 : decode cX7_takes_ 13 = .ok (.iload_n 2, 1) := by decide +kernel
theorem dX7_takes__14 : decode cX7_takes_ 14 = .ok (.if_icmp .ge 29, 3) := by decide +kernel
theorem dX7_takes__17 : decode cX7_takes_ 17 = .ok (.aload_n 0, 1) := by decide +kernel
theorem dX7_takes__18 : decode cX7_takes_ 18 = .ok (.aload_n 0, 1) := by decide +kernel
theorem dX7_takes__19 : decode cX7_takes_ 19 = .ok (.getfield 22, 3) := by decide +kernel
theorem dX7_takes__22 : decode cX7_takes_ 22 = .ok (.iload_n 3, 1) := by decide +kernel
theorem dX7_takes__23 : decode cX7_takes_ 23 = .ok (.iadd, 1) := by decide +kernel
theorem dX7_takes__24 : decode cX7_takes_ 24 = .ok (.invokevirtual 47, 3) := by decide +kernel
theorem dX7_takes__27 : decode cX7_takes_ 27 = .ok (.aload_n 1, 1) := by decide +kernel
theorem dX7_takes__28 : decode cX7_takes_ 28 = .ok (.iload_n 3, 1) := by decide +kernel
theorem dX7_takes__29 : decode cX7_takes_ 29 = .ok (.invokevirtual 51, 3) := by decide +kernel
theorem dX7_takes__32 : decode cX7_takes_ 32 = .ok (.if_icmp .eq 5, 3) := by decide +kernel
theorem dX7_takes__35 : decode cX7_takes_ 35 = .ok (.iconst 0, 1) := by decide +kernel
theorem dX7_takes__36 : decode cX7_takes_ 36 = .ok (.ireturn, 1) := by decide +kernel
theorem dX7_takes__37 : decode cX7_takes_ 37 = .ok (.iinc 3 1, 3) := by decide +kernel
theorem dX7_takes__40 : decode cX7_takes_ 40 = .ok (.goto (-28), 3) := by decide +kernel
theorem dX7_takes__43 : decode cX7_takes_ 43 = .ok (.aload_n 0, 1) := by decide +kernel
theorem dX7_takes__44 : decode cX7_takes_ 44 = .ok (.getfield 28, 3) := by decide +kernel
theorem dX7_takes__47 : decode cX7_takes_ 47 = .ok (.ifCond .ne 19, 3) := by decide +kernel
theorem dX7_takes__50 : decode cX7_takes_ 50 = .ok (.aload_n 0, 1) := by decide +kernel
theorem dX7_takes__51 : decode cX7_takes_ 51 = .ok (.aload_n 0, 1) := by decide +kernel
theorem dX7_takes__52 : decode cX7_takes_ 52 = .ok (.getfield 22, 3) := by decide +kernel
theorem dX7_takes__55 : decode cX7_takes_ 55 = .ok (.iload_n 2, 1) := by decide +kernel
theorem dX7_takes__56 : decode cX7_takes_ 56 = .ok (.iadd, 1) := by decide +kernel
theorem dX7_takes__57 : decode cX7_takes_ 57 = .ok (.invokevirtual 47, 3) := by decide +kernel
theorem dX7_takes__60 : decode cX7_takes_ 60 = .ok (.invokestatic 55, 3) := by decide +kernel
theorem dX7_takes__63 : decode cX7_takes_ 63 = .ok (.ifCond .eq 5, 3) := by decide +kernel
theorem dX7_takes__66 : decode cX7_takes_ 66 = .ok (.iconst 0, 1) := by decide +kernel
theorem dX7_takes__67 : decode cX7_takes_ 67 = .ok (.ireturn, 1) := by decide +kernel
theorem dX7_takes__68 : decode cX7_takes_ 68 = .ok (.aload_n 0, 1) := by decide +kernel
theorem dX7_takes__69 : decode cX7_takes_ 69 = .ok (.dup, 1) := by decide +kernel
theorem dX7_takes__70 : decode cX7_takes_ 70 = .ok (.getfield 22, 3) := by decide +kernel
theorem dX7_takes__73 : decode cX7_takes_ 73 = .ok (.iload_n 2, 1) := by decide +kernel
theorem dX7_takes__74 : decode cX7_takes_ 74 = .ok (.iadd, 1) := by decide +kernel
theorem dX7_takes__75 : decode cX7_takes_ 75 = .ok (.putfield 22, 3) := by decide +kernel
theorem dX7_takes__78 : decode cX7_takes_ 78 = .ok (.iconst 1, 1) := by decide +kernel
theorem dX7_takes__79 : decode cX7_takes_ 79 = .ok (.ireturn, 1) := by decide +kernel
theorem dX7_need_0 : decode cX7_need 0 = .ok (.aload_n 0, 1) := by decide +kernel
theorem dX7_need_1 : decode cX7_need 1 = .ok (.invokevirtual 34, 3) := by decide +kernel
theorem dX7_need_4 : decode cX7_need 4 = .ok (.iload_n 1, 1) := by decide +kernel
theorem dX7_need_5 : decode cX7_need 5 = .ok (.if_icmp .ne 16, 3) := by decide +kernel
theorem dX7_need_8 : decode cX7_need 8 = .ok (.aload_n 0, 1) := by decide +kernel
theorem dX7_need_9 : decode cX7_need 9 = .ok (.dup, 1) := by decide +kernel
theorem dX7_need_10 : decode cX7_need 10 = .ok (.getfield 22, 3) := by decide +kernel
theorem dX7_need_13 : decode cX7_need 13 = .ok (.iconst 1, 1) := by decide +kernel
theorem dX7_need_14 : decode cX7_need 14 = .ok (.iadd, 1) := by decide +kernel
theorem dX7_need_15 : decode cX7_need 15 = .ok (.putfield 22, 3) := by decide +kernel
theorem dX7_need_18 : decode cX7_need 18 = .ok (.goto 8, 3) := by decide +kernel
theorem dX7_need_21 : decode cX7_need 21 = .ok (.aload_n 0, 1) := by decide +kernel
theorem dX7_need_22 : decode cX7_need 22 = .ok (.iconst 1, 1) := by decide +kernel
theorem dX7_need_23 : decode cX7_need 23 = .ok (.invokevirtual 58, 3) := by decide +kernel
theorem dX7_need_26 : decode cX7_need 26 = .ok (.return_, 1) := by decide +kernel
theorem dX7_needEnd_0 : decode cX7_needEnd 0 = .ok (.aload_n 0, 1) := by decide +kernel
theorem dX7_needEnd_1 : decode cX7_needEnd 1 = .ok (.invokevirtual 62, 3) := by decide +kernel
theorem dX7_needEnd_4 : decode cX7_needEnd 4 = .ok (.ifCond .ne 8, 3) := by decide +kernel
theorem dX7_needEnd_7 : decode cX7_needEnd 7 = .ok (.aload_n 0, 1) := by decide +kernel
theorem dX7_needEnd_8 : decode cX7_needEnd 8 = .ok (.iconst 1, 1) := by decide +kernel
theorem dX7_needEnd_9 : decode cX7_needEnd 9 = .ok (.invokevirtual 58, 3) := by decide +kernel
theorem dX7_needEnd_12 : decode cX7_needEnd 12 = .ok (.return_, 1) := by decide +kernel
theorem dX7_number_0 : decode cX7_number 0 = .ok (.aload_n 0, 1) := by decide +kernel
theorem dX7_number_1 : decode cX7_number 1 = .ok (.invokevirtual 34, 3) := by decide +kernel
theorem dX7_number_4 : decode cX7_number 4 = .ok (.invokestatic 38, 3) := by decide +kernel
theorem dX7_number_7 : decode cX7_number 7 = .ok (.ifCond .ne 10, 3) := by decide +kernel
theorem dX7_number_10 : decode cX7_number 10 = .ok (.aload_n 0, 1) := by decide +kernel
theorem dX7_number_11 : decode cX7_number 11 = .ok (.iconst 1, 1) := by decide +kernel
theorem dX7_number_12 : decode cX7_number 12 = .ok (.invokevirtual 58, 3) := by decide +kernel
theorem dX7_number_15 : decode cX7_number 15 = .ok (.iconst 0, 1) := by decide +kernel
theorem dX7_number_16 : decode cX7_number 16 = .ok (.ireturn, 1) := by decide +kernel
theorem dX7_number_17 : decode cX7_number 17 = .ok (.iconst 0, 1) := by decide +kernel
theorem dX7_number_18 : decode cX7_number 18 = .ok (.istore_n 3, 1) := by decide +kernel
theorem dX7_number_19 : decode cX7_number 19 = .ok (.aload_n 0, 1) := by decide +kernel
theorem dX7_number_20 : decode cX7_number 20 = .ok (.getfield 22, 3) := by decide +kernel
theorem dX7_number_23 : decode cX7_number 23 = .ok (.aload_n 0, 1) := by decide +kernel
theorem dX7_number_24 : decode cX7_number 24 = .ok (.getfield 19, 3) := by decide +kernel
theorem dX7_number_27 : decode cX7_number 27 = .ok (.if_icmp .ge 53, 3) := by decide +kernel
theorem dX7_number_30 : decode cX7_number 30 = .ok (.aload_n 0, 1) := by decide +kernel
theorem dX7_number_31 : decode cX7_number 31 = .ok (.aload_n 0, 1) := by decide +kernel
theorem dX7_number_32 : decode cX7_number 32 = .ok (.getfield 22, 3) := by decide +kernel
theorem dX7_number_35 : decode cX7_number 35 = .ok (.invokevirtual 47, 3) := by decide +kernel
theorem dX7_number_38 : decode cX7_number 38 = .ok (.invokestatic 38, 3) := by decide +kernel
theorem dX7_number_41 : decode cX7_number 41 = .ok (.ifCond .eq 39, 3) := by decide +kernel
theorem dX7_number_44 : decode cX7_number 44 = .ok (.iload_n 3, 1) := by decide +kernel
theorem dX7_number_45 : decode cX7_number 45 = .ok (.bipush 10, 2) := by decide +kernel
theorem dX7_number_47 : decode cX7_number 47 = .ok (.imul, 1) := by decide +kernel
theorem dX7_number_48 : decode cX7_number 48 = .ok (.aload_n 0, 1) := by decide +kernel
theorem dX7_number_49 : decode cX7_number 49 = .ok (.aload_n 0, 1) := by decide +kernel
theorem dX7_number_50 : decode cX7_number 50 = .ok (.getfield 22, 3) := by decide +kernel
theorem dX7_number_53 : decode cX7_number 53 = .ok (.invokevirtual 47, 3) := by decide +kernel
theorem dX7_number_56 : decode cX7_number 56 = .ok (.iadd, 1) := by decide +kernel
theorem dX7_number_57 : decode cX7_number 57 = .ok (.bipush 48, 2) := by decide +kernel
theorem dX7_number_59 : decode cX7_number 59 = .ok (.isub, 1) := by decide +kernel
theorem dX7_number_60 : decode cX7_number 60 = .ok (.sipush 1000, 3) := by decide +kernel
theorem dX7_number_63 : decode cX7_number 63 = .ok (.invokestatic 66, 3) := by decide +kernel
theorem dX7_number_66 : decode cX7_number 66 = .ok (.istore_n 3, 1) := by decide +kernel
theorem dX7_number_67 : decode cX7_number 67 = .ok (.aload_n 0, 1) := by decide +kernel
theorem dX7_number_68 : decode cX7_number 68 = .ok (.dup, 1) := by decide +kernel
theorem dX7_number_69 : decode cX7_number 69 = .ok (.getfield 22, 3) := by decide +kernel
theorem dX7_number_72 : decode cX7_number 72 = .ok (.iconst 1, 1) := by decide +kernel
theorem dX7_number_73 : decode cX7_number 73 = .ok (.iadd, 1) := by decide +kernel
theorem dX7_number_74 : decode cX7_number 74 = .ok (.putfield 22, 3) := by decide +kernel
theorem dX7_number_77 : decode cX7_number 77 = .ok (.goto (-58), 3) := by decide +kernel
theorem dX7_number_80 : decode cX7_number 80 = .ok (.iload_n 3, 1) := by decide +kernel
theorem dX7_number_81 : decode cX7_number 81 = .ok (.iload_n 1, 1) := by decide +kernel
theorem dX7_number_82 : decode cX7_number 82 = .ok (.if_icmp .lt 8, 3) := by decide +kernel
theorem dX7_number_85 : decode cX7_number 85 = .ok (.iload_n 3, 1) := by decide +kernel
theorem dX7_number_86 : decode cX7_number 86 = .ok (.iload_n 2, 1) := by decide +kernel
theorem dX7_number_87 : decode cX7_number 87 = .ok (.if_icmp .le 10, 3) := by decide +kernel
theorem dX7_number_90 : decode cX7_number 90 = .ok (.aload_n 0, 1) := by decide +kernel
theorem dX7_number_91 : decode cX7_number 91 = .ok (.iconst 2, 1) := by decide +kernel
theorem dX7_number_92 : decode cX7_number 92 = .ok (.invokevirtual 58, 3) := by decide +kernel
theorem dX7_number_95 : decode cX7_number 95 = .ok (.iconst 0, 1) := by decide +kernel
theorem dX7_number_96 : decode cX7_number 96 = .ok (.ireturn, 1) := by decide +kernel
theorem dX7_number_97 : decode cX7_number 97 = .ok (.iload_n 3, 1) := by decide +kernel
theorem dX7_number_98 : decode cX7_number 98 = .ok (.ireturn, 1) := by decide +kernel
theorem dX7_isDigit_0 : decode cX7_isDigit 0 = .ok (.iload_n 0, 1) := by decide +kernel
theorem dX7_isDigit_1 : decode cX7_isDigit 1 = .ok (.bipush 48, 2) := by decide +kernel
theorem dX7_isDigit_3 : decode cX7_isDigit 3 = .ok (.if_icmp .lt 13, 3) := by decide +kernel
theorem dX7_isDigit_6 : decode cX7_isDigit 6 = .ok (.iload_n 0, 1) := by decide +kernel
theorem dX7_isDigit_7 : decode cX7_isDigit 7 = .ok (.bipush 57, 2) := by decide +kernel
theorem dX7_isDigit_9 : decode cX7_isDigit 9 = .ok (.if_icmp .gt 7, 3) := by decide +kernel
theorem dX7_isDigit_12 : decode cX7_isDigit 12 = .ok (.iconst 1, 1) := by decide +kernel
theorem dX7_isDigit_13 : decode cX7_isDigit 13 = .ok (.goto 4, 3) := by decide +kernel
theorem dX7_isDigit_16 : decode cX7_isDigit 16 = .ok (.iconst 0, 1) := by decide +kernel
theorem dX7_isDigit_17 : decode cX7_isDigit 17 = .ok (.ireturn, 1) := by decide +kernel
theorem dX7_isSmallLetter_0 : decode cX7_isSmallLetter 0 = .ok (.iload_n 0, 1) := by decide +kernel
theorem dX7_isSmallLetter_1 : decode cX7_isSmallLetter 1 = .ok (.bipush 97, 2) := by decide +kernel
theorem dX7_isSmallLetter_3 : decode cX7_isSmallLetter 3 = .ok (.if_icmp .lt 13, 3) := by decide +kernel
theorem dX7_isSmallLetter_6 : decode cX7_isSmallLetter 6 = .ok (.iload_n 0, 1) := by decide +kernel
theorem dX7_isSmallLetter_7 : decode cX7_isSmallLetter 7 = .ok (.bipush 122, 2) := by decide +kernel
theorem dX7_isSmallLetter_9 : decode cX7_isSmallLetter 9 = .ok (.if_icmp .gt 7, 3) := by decide +kernel
theorem dX7_isSmallLetter_12 : decode cX7_isSmallLetter 12 = .ok (.iconst 1, 1) := by decide +kernel
theorem dX7_isSmallLetter_13 : decode cX7_isSmallLetter 13 = .ok (.goto 4, 3) := by decide +kernel
theorem dX7_isSmallLetter_16 : decode cX7_isSmallLetter 16 = .ok (.iconst 0, 1) := by decide +kernel
theorem dX7_isSmallLetter_17 : decode cX7_isSmallLetter 17 = .ok (.ireturn, 1) := by decide +kernel
theorem dX8_init_0 : decode cX8_init 0 = .ok (.aload_n 0, 1) := by decide +kernel
theorem dX8_init_1 : decode cX8_init 1 = .ok (.invokespecial 3, 3) := by decide +kernel
theorem dX8_init_4 : decode cX8_init 4 = .ok (.aload_n 0, 1) := by decide +kernel
theorem dX8_init_5 : decode cX8_init 5 = .ok (.sipush 150, 3) := by decide +kernel
theorem dX8_init_8 : decode cX8_init 8 = .ok (.newarray .int, 2) := by decide +kernel
theorem dX8_init_10 : decode cX8_init 10 = .ok (.putfield 9, 3) := by decide +kernel
theorem dX8_init_13 : decode cX8_init 13 = .ok (.aload_n 0, 1) := by decide +kernel
theorem dX8_init_14 : decode cX8_init 14 = .ok (.sipush 150, 3) := by decide +kernel
theorem dX8_init_17 : decode cX8_init 17 = .ok (.newarray .int, 2) := by decide +kernel
theorem dX8_init_19 : decode cX8_init 19 = .ok (.putfield 15, 3) := by decide +kernel
theorem dX8_init_22 : decode cX8_init 22 = .ok (.aload_n 0, 1) := by decide +kernel
theorem dX8_init_23 : decode cX8_init 23 = .ok (.sipush 150, 3) := by decide +kernel
theorem dX8_init_26 : decode cX8_init 26 = .ok (.newarray .int, 2) := by decide +kernel
theorem dX8_init_28 : decode cX8_init 28 = .ok (.putfield 18, 3) := by decide +kernel
theorem dX8_init_31 : decode cX8_init 31 = .ok (.aload_n 0, 1) := by decide +kernel
theorem dX8_init_32 : decode cX8_init 32 = .ok (.sipush 150, 3) := by decide +kernel
theorem dX8_init_35 : decode cX8_init 35 = .ok (.newarray .int, 2) := by decide +kernel
theorem dX8_init_37 : decode cX8_init 37 = .ok (.putfield 21, 3) := by decide +kernel
theorem dX8_init_40 : decode cX8_init 40 = .ok (.aload_n 0, 1) := by decide +kernel
theorem dX8_init_41 : decode cX8_init 41 = .ok (.iconst 0, 1) := by decide +kernel
theorem dX8_init_42 : decode cX8_init 42 = .ok (.putfield 24, 3) := by decide +kernel
theorem dX8_init_45 : decode cX8_init 45 = .ok (.aload_n 0, 1) := by decide +kernel
theorem dX8_init_46 : decode cX8_init 46 = .ok (.iconst 0, 1) := by decide +kernel
theorem dX8_init_47 : decode cX8_init 47 = .ok (.putfield 28, 3) := by decide +kernel
theorem dX8_init_50 : decode cX8_init 50 = .ok (.aload_n 0, 1) := by decide +kernel
theorem dX8_init_51 : decode cX8_init 51 = .ok (.iconst 0, 1) := by decide +kernel
theorem dX8_init_52 : decode cX8_init 52 = .ok (.putfield 31, 3) := by decide +kernel
theorem dX8_init_55 : decode cX8_init 55 = .ok (.return_, 1) := by decide +kernel
theorem dX8_add_0 : decode cX8_add 0 = .ok (.aload_n 0, 1) := by decide +kernel
theorem dX8_add_1 : decode cX8_add 1 = .ok (.getfield 24, 3) := by decide +kernel
theorem dX8_add_4 : decode cX8_add 4 = .ok (.sipush 150, 3) := by decide +kernel
theorem dX8_add_7 : decode cX8_add 7 = .ok (.if_icmp .ge 43, 3) := by decide +kernel
theorem dX8_add_10 : decode cX8_add 10 = .ok (.aload_n 0, 1) := by decide +kernel
theorem dX8_add_11 : decode cX8_add 11 = .ok (.getfield 9, 3) := by decide +kernel
theorem dX8_add_14 : decode cX8_add 14 = .ok (.aload_n 0, 1) := by decide +kernel
theorem dX8_add_15 : decode cX8_add 15 = .ok (.getfield 24, 3) := by decide +kernel
theorem dX8_add_18 : decode cX8_add 18 = .ok (.iload_n 1, 1) := by decide +kernel
theorem dX8_add_19 : decode cX8_add 19 = .ok (.iastore, 1) := by decide +kernel
theorem dX8_add_20 : decode cX8_add 20 = .ok (.aload_n 0, 1) := by decide +kernel
theorem dX8_add_21 : decode cX8_add 21 = .ok (.getfield 15, 3) := by decide +kernel
theorem dX8_add_24 : decode cX8_add 24 = .ok (.aload_n 0, 1) := by decide +kernel
theorem dX8_add_25 : decode cX8_add 25 = .ok (.getfield 24, 3) := by decide +kernel
theorem dX8_add_28 : decode cX8_add 28 = .ok (.iload_n 2, 1) := by decide +kernel
theorem dX8_add_29 : decode cX8_add 29 = .ok (.iastore, 1) := by decide +kernel
theorem dX8_add_30 : decode cX8_add 30 = .ok (.aload_n 0, 1) := by decide +kernel
theorem dX8_add_31 : decode cX8_add 31 = .ok (.getfield 18, 3) := by decide +kernel
theorem dX8_add_34 : decode cX8_add 34 = .ok (.aload_n 0, 1) := by decide +kernel
theorem dX8_add_35 : decode cX8_add 35 = .ok (.getfield 24, 3) := by decide +kernel
theorem dX8_add_38 : decode cX8_add 38 = .ok (.iload_n 3, 1) := by decide +kernel
theorem dX8_add_39 : decode cX8_add 39 = .ok (.iastore, 1) := by decide +kernel
theorem dX8_add_40 : decode cX8_add 40 = .ok (.aload_n 0, 1) := by decide +kernel
theorem dX8_add_41 : decode cX8_add 41 = .ok (.dup, 1) := by decide +kernel
theorem dX8_add_42 : decode cX8_add 42 = .ok (.getfield 24, 3) := by decide +kernel
theorem dX8_add_45 : decode cX8_add 45 = .ok (.iconst 1, 1) := by decide +kernel
theorem dX8_add_46 : decode cX8_add 46 = .ok (.iadd, 1) := by decide +kernel
theorem dX8_add_47 : decode cX8_add 47 = .ok (.putfield 24, 3) := by decide +kernel
theorem dX8_add_50 : decode cX8_add 50 = .ok (.return_, 1) := by decide +kernel
theorem dX8_read_0 : decode cX8_read 0 = .ok (.aload_n 0, 1) := by decide +kernel
theorem dX8_read_1 : decode cX8_read 1 = .ok (.iconst 0, 1) := by decide +kernel
theorem dX8_read_2 : decode cX8_read 2 = .ok (.putfield 24, 3) := by decide +kernel
theorem dX8_read_5 : decode cX8_read 5 = .ok (.aload_n 0, 1) := by decide +kernel
theorem dX8_read_6 : decode cX8_read 6 = .ok (.aload_n 1, 1) := by decide +kernel
theorem dX8_read_7 : decode cX8_read 7 = .ok (.aload_n 2, 1) := by decide +kernel
theorem dX8_read_8 : decode cX8_read 8 = .ok (.iconst 0, 1) := by decide +kernel
theorem dX8_read_9 : decode cX8_read 9 = .ok (.invokevirtual 34, 3) := by decide +kernel
theorem dX8_read_12 : decode cX8_read 12 = .ok (.aload_n 1, 1) := by decide +kernel
theorem dX8_read_13 : decode cX8_read 13 = .ok (.invokevirtual 38, 3) := by decide +kernel
theorem dX8_read_16 : decode cX8_read 16 = .ok (.return_, 1) := by decide +kernel
theorem dX8_readSteps_0 : decode cX8_readSteps 0 = .ok (.iconst 0, 1) := by decide +kernel
theorem dX8_readSteps_1 : decode cX8_readSteps 1 = .ok (.istore 4, 2) := by decide +kernel
theorem dX8_readSteps_3 : decode cX8_readSteps 3 = .ok (.iload 4, 2) := by decide +kernel
theorem dX8_readSteps_5 : decode cX8_readSteps 5 = .ok (.sipush 150, 3) := by decide +kernel
theorem dX8_readSteps_8 : decode cX8_readSteps 8 = .ok (.if_icmp .ge 38, 3) := by decide +kernel
theorem dX8_readSteps_11 : decode cX8_readSteps 11 = .ok (.aload_n 1, 1) := by decide +kernel
theorem dX8_readSteps_12 : decode cX8_readSteps 12 = .ok (.invokevirtual 43, 3) := by decide +kernel
theorem dX8_readSteps_15 : decode cX8_readSteps 15 = .ok (.ifCond .ne 31, 3) := by decide +kernel
theorem dX8_readSteps_18 : decode cX8_readSteps 18 = .ok (.aload_n 1, 1) := by decide +kernel
theorem dX8_readSteps_19 : decode cX8_readSteps 19 = .ok (.invokevirtual 47, 3) := by decide +kernel
theorem dX8_readSteps_22 : decode cX8_readSteps 22 = .ok (.bipush 93, 2) := by decide +kernel
theorem dX8_readSteps_24 : decode cX8_readSteps 24 = .ok (.if_icmp .eq 22, 3) := by decide +kernel
theorem dX8_readSteps_27 : decode cX8_readSteps 27 = .ok (.aload_n 0, 1) := by decide +kernel
theorem dX8_readSteps_28 : decode cX8_readSteps 28 = .ok (.aload_n 1, 1) := by decide +kernel
theorem dX8_readSteps_29 : decode cX8_readSteps 29 = .ok (.aload_n 2, 1) := by decide +kernel
theorem dX8_readSteps_30 : decode cX8_readSteps 30 = .ok (.iload_n 3, 1) := by decide +kernel
theorem dX8_readSteps_31 : decode cX8_readSteps 31 = .ok (.invokevirtual 51, 3) := by decide +kernel
theorem dX8_readSteps_34 : decode cX8_readSteps 34 = .ok (.aload_n 1, 1) := by decide +kernel
theorem dX8_readSteps_35 : decode cX8_readSteps 35 = .ok (.bipush 59, 2) := by decide +kernel
theorem dX8_readSteps_37 : decode cX8_readSteps 37 = .ok (.invokevirtual 54, 3) := by decide +kernel
theorem dX8_readSteps_40 : decode cX8_readSteps 40 = .ok (.iinc 4 1, 3) := by decide +kernel
theorem dX8_readSteps_43 : decode cX8_readSteps 43 = .ok (.goto (-40), 3) := by decide +kernel
theorem dX8_readSteps_46 : decode cX8_readSteps 46 = .ok (.return_, 1) := by decide +kernel
theorem dX8_readStep_0 : decode cX8_readStep 0 = .ok (.aload_n 1, 1) := by decide +kernel
theorem dX8_readStep_1 : decode cX8_readStep 1 = .ok (.ldc 58, 2) := by decide +kernel
theorem dX8_readStep_3 : decode cX8_readStep 3 = .ok (.invokevirtual 60, 3) := by decide +kernel
theorem dX8_readStep_6 : decode cX8_readStep 6 = .ok (.ifCond .eq 19, 3) := by decide +kernel
theorem dX8_readStep_9 : decode cX8_readStep 9 = .ok (.aload_n 0, 1) := by decide +kernel
theorem dX8_readStep_10 : decode cX8_readStep 10 = .ok (.iconst 0, 1) := by decide +kernel
theorem dX8_readStep_11 : decode cX8_readStep 11 = .ok (.aload_n 1, 1) := by decide +kernel
theorem dX8_readStep_12 : decode cX8_readStep 12 = .ok (.iconst 1, 1) := by decide +kernel
theorem dX8_readStep_13 : decode cX8_readStep 13 = .ok (.bipush 30, 2) := by decide +kernel
theorem dX8_readStep_15 : decode cX8_readStep 15 = .ok (.invokevirtual 64, 3) := by decide +kernel
theorem dX8_readStep_18 : decode cX8_readStep 18 = .ok (.iconst 0, 1) := by decide +kernel
theorem dX8_readStep_19 : decode cX8_readStep 19 = .ok (.invokevirtual 68, 3) := by decide +kernel
theorem dX8_readStep_22 : decode cX8_readStep 22 = .ok (.goto 172, 3) := by decide +kernel
theorem dX8_readStep_25 : decode cX8_readStep 25 = .ok (.aload_n 1, 1) := by decide +kernel
theorem dX8_readStep_26 : decode cX8_readStep 26 = .ok (.ldc 72, 2) := by decide +kernel
theorem dX8_readStep_28 : decode cX8_readStep 28 = .ok (.invokevirtual 60, 3) := by decide +kernel
theorem dX8_readStep_31 : decode cX8_readStep 31 = .ok (.ifCond .eq 19, 3) := by decide +kernel
theorem dX8_readStep_34 : decode cX8_readStep 34 = .ok (.aload_n 0, 1) := by decide +kernel
theorem dX8_readStep_35 : decode cX8_readStep 35 = .ok (.iconst 1, 1) := by decide +kernel
theorem dX8_readStep_36 : decode cX8_readStep 36 = .ok (.aload_n 1, 1) := by decide +kernel
theorem dX8_readStep_37 : decode cX8_readStep 37 = .ok (.iconst 1, 1) := by decide +kernel
theorem dX8_readStep_38 : decode cX8_readStep 38 = .ok (.bipush 20, 2) := by decide +kernel
theorem dX8_readStep_40 : decode cX8_readStep 40 = .ok (.invokevirtual 64, 3) := by decide +kernel
theorem dX8_readStep_43 : decode cX8_readStep 43 = .ok (.iconst 0, 1) := by decide +kernel
theorem dX8_readStep_44 : decode cX8_readStep 44 = .ok (.invokevirtual 68, 3) := by decide +kernel
theorem dX8_readStep_47 : decode cX8_readStep 47 = .ok (.goto 147, 3) := by decide +kernel
theorem dX8_readStep_50 : decode cX8_readStep 50 = .ok (.aload_n 1, 1) := by decide +kernel
theorem dX8_readStep_51 : decode cX8_readStep 51 = .ok (.ldc 74, 2) := by decide +kernel
theorem dX8_readStep_53 : decode cX8_readStep 53 = .ok (.invokevirtual 60, 3) := by decide +kernel
theorem dX8_readStep_56 : decode cX8_readStep 56 = .ok (.ifCond .eq 23, 3) := by decide +kernel
theorem dX8_readStep_59 : decode cX8_readStep 59 = .ok (.aload_n 0, 1) := by decide +kernel
theorem dX8_readStep_60 : decode cX8_readStep 60 = .ok (.iconst 2, 1) := by decide +kernel
theorem dX8_readStep_61 : decode cX8_readStep 61 = .ok (.aload_n 1, 1) := by decide +kernel
theorem dX8_readStep_62 : decode cX8_readStep 62 = .ok (.iconst 0, 1) := by decide +kernel
theorem dX8_readStep_63 : decode cX8_readStep 63 = .ok (.aload_n 2, 1) := by decide +kernel
theorem dX8_readStep_64 : decode cX8_readStep 64 = .ok (.getfield 76, 3) := by decide +kernel
theorem dX8_readStep_67 : decode cX8_readStep 67 = .ok (.iconst 1, 1) := by decide +kernel
theorem dX8_readStep_68 : decode cX8_readStep 68 = .ok (.isub, 1) := by decide +kernel
theorem dX8_readStep_69 : decode cX8_readStep 69 = .ok (.invokevirtual 64, 3) := by decide +kernel
theorem dX8_readStep_72 : decode cX8_readStep 72 = .ok (.iconst 0, 1) := by decide +kernel
theorem dX8_readStep_73 : decode cX8_readStep 73 = .ok (.invokevirtual 68, 3) := by decide +kernel
theorem dX8_readStep_76 : decode cX8_readStep 76 = .ok (.goto 118, 3) := by decide +kernel
theorem dX8_readStep_79 : decode cX8_readStep 79 = .ok (.aload_n 1, 1) := by decide +kernel
theorem dX8_readStep_80 : decode cX8_readStep 80 = .ok (.ldc 81, 2) := by decide +kernel
theorem dX8_readStep_82 : decode cX8_readStep 82 = .ok (.invokevirtual 60, 3) := by decide +kernel
theorem dX8_readStep_85 : decode cX8_readStep 85 = .ok (.ifCond .eq 37, 3) := by decide +kernel
theorem dX8_readStep_88 : decode cX8_readStep 88 = .ok (.aload_n 1, 1) := by decide +kernel
theorem dX8_readStep_89 : decode cX8_readStep 89 = .ok (.iconst 0, 1) := by decide +kernel
theorem dX8_readStep_90 : decode cX8_readStep 90 = .ok (.aload_n 2, 1) := by decide +kernel
theorem dX8_readStep_91 : decode cX8_readStep 91 = .ok (.getfield 83, 3) := by decide +kernel
theorem dX8_readStep_94 : decode cX8_readStep 94 = .ok (.iconst 1, 1) := by decide +kernel
theorem dX8_readStep_95 : decode cX8_readStep 95 = .ok (.isub, 1) := by decide +kernel
theorem dX8_readStep_96 : decode cX8_readStep 96 = .ok (.invokevirtual 64, 3) := by decide +kernel
theorem dX8_readStep_99 : decode cX8_readStep 99 = .ok (.istore 4, 2) := by decide +kernel
theorem dX8_readStep_101 : decode cX8_readStep 101 = .ok (.aload_n 0, 1) := by decide +kernel
theorem dX8_readStep_102 : decode cX8_readStep 102 = .ok (.iconst 3, 1) := by decide +kernel
theorem dX8_readStep_103 : decode cX8_readStep 103 = .ok (.iload 4, 2) := by decide +kernel
theorem dX8_readStep_105 : decode cX8_readStep 105 = .ok (.aload_n 1, 1) := by decide +kernel
theorem dX8_readStep_106 : decode cX8_readStep 106 = .ok (.iconst 0, 1) := by decide +kernel
theorem dX8_readStep_107 : decode cX8_readStep 107 = .ok (.aload_n 2, 1) := by decide +kernel
theorem dX8_readStep_108 : decode cX8_readStep 108 = .ok (.getfield 86, 3) := by decide +kernel
theorem dX8_readStep_111 : decode cX8_readStep 111 = .ok (.iconst 1, 1) := by decide +kernel
theorem dX8_readStep_112 : decode cX8_readStep 112 = .ok (.isub, 1) := by decide +kernel
theorem dX8_readStep_113 : decode cX8_readStep 113 = .ok (.invokevirtual 64, 3) := by decide +kernel
theorem dX8_readStep_116 : decode cX8_readStep 116 = .ok (.invokevirtual 68, 3) := by decide +kernel
theorem dX8_readStep_119 : decode cX8_readStep 119 = .ok (.goto 75, 3) := by decide +kernel
theorem dX8_readStep_122 : decode cX8_readStep 122 = .ok (.aload_n 1, 1) := by decide +kernel
theorem dX8_readStep_123 : decode cX8_readStep 123 = .ok (.ldc 89, 2) := by decide +kernel
theorem dX8_readStep_125 : decode cX8_readStep 125 = .ok (.invokevirtual 60, 3) := by decide +kernel
theorem dX8_readStep_128 : decode cX8_readStep 128 = .ok (.ifCond .eq 23, 3) := by decide +kernel
theorem dX8_readStep_131 : decode cX8_readStep 131 = .ok (.aload_n 0, 1) := by decide +kernel
theorem dX8_readStep_132 : decode cX8_readStep 132 = .ok (.iconst 4, 1) := by decide +kernel
theorem dX8_readStep_133 : decode cX8_readStep 133 = .ok (.aload_n 1, 1) := by decide +kernel
theorem dX8_readStep_134 : decode cX8_readStep 134 = .ok (.iconst 0, 1) := by decide +kernel
theorem dX8_readStep_135 : decode cX8_readStep 135 = .ok (.aload_n 2, 1) := by decide +kernel
theorem dX8_readStep_136 : decode cX8_readStep 136 = .ok (.getfield 86, 3) := by decide +kernel
theorem dX8_readStep_139 : decode cX8_readStep 139 = .ok (.iconst 1, 1) := by decide +kernel
theorem dX8_readStep_140 : decode cX8_readStep 140 = .ok (.isub, 1) := by decide +kernel
theorem dX8_readStep_141 : decode cX8_readStep 141 = .ok (.invokevirtual 64, 3) := by decide +kernel
theorem dX8_readStep_144 : decode cX8_readStep 144 = .ok (.iconst 0, 1) := by decide +kernel
theorem dX8_readStep_145 : decode cX8_readStep 145 = .ok (.invokevirtual 68, 3) := by decide +kernel
theorem dX8_readStep_148 : decode cX8_readStep 148 = .ok (.goto 46, 3) := by decide +kernel
theorem dX8_readStep_151 : decode cX8_readStep 151 = .ok (.aload_n 1, 1) := by decide +kernel
theorem dX8_readStep_152 : decode cX8_readStep 152 = .ok (.ldc 91, 2) := by decide +kernel
theorem dX8_readStep_154 : decode cX8_readStep 154 = .ok (.invokevirtual 60, 3) := by decide +kernel
theorem dX8_readStep_157 : decode cX8_readStep 157 = .ok (.ifCond .eq 13, 3) := by decide +kernel
theorem dX8_readStep_160 : decode cX8_readStep 160 = .ok (.aload_n 0, 1) := by decide +kernel
theorem dX8_readStep_161 : decode cX8_readStep 161 = .ok (.iconst 5, 1) := by decide +kernel
theorem dX8_readStep_162 : decode cX8_readStep 162 = .ok (.iconst 0, 1) := by decide +kernel
theorem dX8_readStep_163 : decode cX8_readStep 163 = .ok (.iconst 0, 1) := by decide +kernel
theorem dX8_readStep_164 : decode cX8_readStep 164 = .ok (.invokevirtual 68, 3) := by decide +kernel
theorem dX8_readStep_167 : decode cX8_readStep 167 = .ok (.goto 27, 3) := by decide +kernel
theorem dX8_readStep_170 : decode cX8_readStep 170 = .ok (.aload_n 1, 1) := by decide +kernel
theorem dX8_readStep_171 : decode cX8_readStep 171 = .ok (.ldc 93, 2) := by decide +kernel
theorem dX8_readStep_173 : decode cX8_readStep 173 = .ok (.invokevirtual 60, 3) := by decide +kernel
theorem dX8_readStep_176 : decode cX8_readStep 176 = .ok (.ifCond .eq 13, 3) := by decide +kernel
theorem dX8_readStep_179 : decode cX8_readStep 179 = .ok (.aload_n 0, 1) := by decide +kernel
theorem dX8_readStep_180 : decode cX8_readStep 180 = .ok (.aload_n 1, 1) := by decide +kernel
theorem dX8_readStep_181 : decode cX8_readStep 181 = .ok (.aload_n 2, 1) := by decide +kernel
theorem dX8_readStep_182 : decode cX8_readStep 182 = .ok (.iload_n 3, 1) := by decide +kernel
theorem dX8_readStep_183 : decode cX8_readStep 183 = .ok (.invokevirtual 95, 3) := by decide +kernel
theorem dX8_readStep_186 : decode cX8_readStep 186 = .ok (.goto 8, 3) := by decide +kernel
theorem dX8_readStep_189 : decode cX8_readStep 189 = .ok (.aload_n 1, 1) := by decide +kernel
theorem dX8_readStep_190 : decode cX8_readStep 190 = .ok (.iconst 1, 1) := by decide +kernel
theorem dX8_readStep_191 : decode cX8_readStep 191 = .ok (.invokevirtual 98, 3) := by decide +kernel
theorem dX8_readStep_194 : decode cX8_readStep 194 = .ok (.return_, 1) := by decide +kernel
theorem dX8_readAgain_0 : decode cX8_readAgain 0 = .ok (.iload_n 3, 1) := by decide +kernel
theorem dX8_readAgain_1 : decode cX8_readAgain 1 = .ok (.bipush 6, 2) := by decide +kernel
theorem dX8_readAgain_3 : decode cX8_readAgain 3 = .ok (.if_icmp .lt 9, 3) := by decide +kernel
theorem dX8_readAgain_6 : decode cX8_readAgain 6 = .ok (.aload_n 1, 1) := by decide +kernel
theorem dX8_readAgain_7 : decode cX8_readAgain 7 = .ok (.iconst 3, 1) := by decide +kernel
theorem dX8_readAgain_8 : decode cX8_readAgain 8 = .ok (.invokevirtual 98, 3) := by decide +kernel
theorem dX8_readAgain_11 : decode cX8_readAgain 11 = .ok (.return_, 1) := by decide +kernel
theorem dX8_readAgain_12 : decode cX8_readAgain 12 = .ok (.aload_n 0, 1) := by decide +kernel
theorem dX8_readAgain_13 : decode cX8_readAgain 13 = .ok (.getfield 24, 3) := by decide +kernel
theorem dX8_readAgain_16 : decode cX8_readAgain 16 = .ok (.istore 4, 2) := by decide +kernel
theorem dX8_readAgain_18 : decode cX8_readAgain 18 = .ok (.aload_n 0, 1) := by decide +kernel
theorem dX8_readAgain_19 : decode cX8_readAgain 19 = .ok (.bipush 6, 2) := by decide +kernel
theorem dX8_readAgain_21 : decode cX8_readAgain 21 = .ok (.aload_n 1, 1) := by decide +kernel
theorem dX8_readAgain_22 : decode cX8_readAgain 22 = .ok (.iconst 0, 1) := by decide +kernel
theorem dX8_readAgain_23 : decode cX8_readAgain 23 = .ok (.bipush 30, 2) := by decide +kernel
theorem dX8_readAgain_25 : decode cX8_readAgain 25 = .ok (.invokevirtual 64, 3) := by decide +kernel
theorem dX8_readAgain_28 : decode cX8_readAgain 28 = .ok (.iconst 0, 1) := by decide +kernel
theorem dX8_readAgain_29 : decode cX8_readAgain 29 = .ok (.invokevirtual 68, 3) := by decide +kernel
theorem dX8_readAgain_32 : decode cX8_readAgain 32 = .ok (.aload_n 1, 1) := by decide +kernel
theorem dX8_readAgain_33 : decode cX8_readAgain 33 = .ok (.bipush 91, 2) := by decide +kernel
theorem dX8_readAgain_35 : decode cX8_readAgain 35 = .ok (.invokevirtual 54, 3) := by decide +kernel
theorem dX8_readAgain_38 : decode cX8_readAgain 38 = .ok (.aload_n 0, 1) := by decide +kernel
theorem dX8_readAgain_39 : decode cX8_readAgain 39 = .ok (.aload_n 1, 1) := by decide +kernel
theorem dX8_readAgain_40 : decode cX8_readAgain 40 = .ok (.aload_n 2, 1) := by decide +kernel
theorem dX8_readAgain_41 : decode cX8_readAgain 41 = .ok (.iload_n 3, 1) := by decide +kernel
theorem dX8_readAgain_42 : decode cX8_readAgain 42 = .ok (.iconst 1, 1) := by decide +kernel
theorem dX8_readAgain_43 : decode cX8_readAgain 43 = .ok (.iadd, 1) := by decide +kernel
theorem dX8_readAgain_44 : decode cX8_readAgain 44 = .ok (.invokevirtual 34, 3) := by decide +kernel
theorem dX8_readAgain_47 : decode cX8_readAgain 47 = .ok (.aload_n 1, 1) := by decide +kernel
theorem dX8_readAgain_48 : decode cX8_readAgain 48 = .ok (.bipush 93, 2) := by decide +kernel
theorem dX8_readAgain_50 : decode cX8_readAgain 50 = .ok (.invokevirtual 54, 3) := by decide +kernel
theorem dX8_readAgain_53 : decode cX8_readAgain 53 = .ok (.iload 4, 2) := by decide +kernel
theorem dX8_readAgain_55 : decode cX8_readAgain 55 = .ok (.sipush 150, 3) := by decide +kernel
theorem dX8_readAgain_58 : decode cX8_readAgain 58 = .ok (.if_icmp .ge 14, 3) := by decide +kernel
theorem dX8_readAgain_61 : decode cX8_readAgain 61 = .ok (.aload_n 0, 1) := by decide +kernel
theorem dX8_readAgain_62 : decode cX8_readAgain 62 = .ok (.getfield 18, 3) := by decide +kernel
theorem dX8_readAgain_65 : decode cX8_readAgain 65 = .ok (.iload 4, 2) := by decide +kernel
theorem dX8_readAgain_67 : decode cX8_readAgain 67 = .ok (.aload_n 0, 1) := by decide +kernel
theorem dX8_readAgain_68 : decode cX8_readAgain 68 = .ok (.getfield 24, 3) := by decide +kernel
theorem dX8_readAgain_71 : decode cX8_readAgain 71 = .ok (.iastore, 1) := by decide +kernel
theorem dX8_readAgain_72 : decode cX8_readAgain 72 = .ok (.aload_n 0, 1) := by decide +kernel
theorem dX8_readAgain_73 : decode cX8_readAgain 73 = .ok (.bipush 7, 2) := by decide +kernel
theorem dX8_readAgain_75 : decode cX8_readAgain 75 = .ok (.iload 4, 2) := by decide +kernel
theorem dX8_readAgain_77 : decode cX8_readAgain 77 = .ok (.iconst 0, 1) := by decide +kernel
theorem dX8_readAgain_78 : decode cX8_readAgain 78 = .ok (.invokevirtual 68, 3) := by decide +kernel
theorem dX8_readAgain_81 : decode cX8_readAgain 81 = .ok (.return_, 1) := by decide +kernel
theorem dX8_perform_0 : decode cX8_perform 0 = .ok (.aload_n 0, 1) := by decide +kernel
theorem dX8_perform_1 : decode cX8_perform 1 = .ok (.iconst 0, 1) := by decide +kernel
theorem dX8_perform_2 : decode cX8_perform 2 = .ok (.putfield 28, 3) := by decide +kernel
theorem dX8_perform_5 : decode cX8_perform 5 = .ok (.aload_n 0, 1) := by decide +kernel
theorem dX8_perform_6 : decode cX8_perform 6 = .ok (.iconst 0, 1) := by decide +kernel
theorem dX8_perform_7 : decode cX8_perform 7 = .ok (.putfield 31, 3) := by decide +kernel
theorem dX8_perform_10 : decode cX8_perform 10 = .ok (.iconst 0, 1) := by decide +kernel
theorem dX8_perform_11 : decode cX8_perform 11 = .ok (.istore 4, 2) := by decide +kernel
theorem dX8_perform_13 : decode cX8_perform 13 = .ok (.iconst 0, 1) := by decide +kernel
theorem dX8_perform_14 : decode cX8_perform 14 = .ok (.istore 5, 2) := by decide +kernel
theorem dX8_perform_16 : decode cX8_perform 16 = .ok (.iconst 0, 1) := by decide +kernel
theorem dX8_perform_17 : decode cX8_perform 17 = .ok (.istore 6, 2) := by decide +kernel
theorem dX8_perform_19 : decode cX8_perform 19 = .ok (.iload 6, 2) := by decide +kernel
theorem dX8_perform_21 : decode cX8_perform 21 = .ok (.ldc 102, 2) := by decide +kernel
theorem dX8_perform_23 : decode cX8_perform 23 = .ok (.if_icmp .ge 165, 3) := by decide +kernel
theorem dX8_perform_26 : decode cX8_perform 26 = .ok (.iload 5, 2) := by decide +kernel
theorem dX8_perform_28 : decode cX8_perform 28 = .ok (.ifCond .lt 160, 3) := by decide +kernel
theorem dX8_perform_31 : decode cX8_perform 31 = .ok (.iload 5, 2) := by decide +kernel
theorem dX8_perform_33 : decode cX8_perform 33 = .ok (.aload_n 0, 1) := by decide +kernel
theorem dX8_perform_34 : decode cX8_perform 34 = .ok (.getfield 24, 3) := by decide +kernel
theorem dX8_perform_37 : decode cX8_perform 37 = .ok (.if_icmp .ge 151, 3) := by decide +kernel
theorem dX8_perform_40 : decode cX8_perform 40 = .ok (.iload 5, 2) := by decide +kernel
theorem dX8_perform_42 : decode cX8_perform 42 = .ok (.sipush 150, 3) := by decide +kernel
theorem dX8_perform_45 : decode cX8_perform 45 = .ok (.if_icmp .ge 143, 3) := by decide +kernel
theorem dX8_perform_48 : decode cX8_perform 48 = .ok (.aload_n 0, 1) := by decide +kernel
theorem dX8_perform_49 : decode cX8_perform 49 = .ok (.getfield 9, 3) := by decide +kernel
theorem dX8_perform_52 : decode cX8_perform 52 = .ok (.iload 5, 2) := by decide +kernel
theorem dX8_perform_54 : decode cX8_perform 54 = .ok (.iaload, 1) := by decide +kernel
theorem dX8_perform_55 : decode cX8_perform 55 = .ok (.bipush 7, 2) := by decide +kernel
theorem dX8_perform_57 : decode cX8_perform 57 = .ok (.if_icmp .ne 14, 3) := by decide +kernel
theorem dX8_perform_60 : decode cX8_perform 60 = .ok (.aload_n 0, 1) := by decide +kernel
theorem dX8_perform_61 : decode cX8_perform 61 = .ok (.iload 5, 2) := by decide +kernel
theorem dX8_perform_63 : decode cX8_perform 63 = .ok (.invokevirtual 103, 3) := by decide +kernel
theorem dX8_perform_66 : decode cX8_perform 66 = .ok (.istore 5, 2) := by decide +kernel
theorem dX8_perform_68 : decode cX8_perform 68 = .ok (.goto 114, 3) := by decide +kernel
theorem dX8_perform_71 : decode cX8_perform 71 = .ok (.aload_n 0, 1) := by decide +kernel
theorem dX8_perform_72 : decode cX8_perform 72 = .ok (.getfield 28, 3) := by decide +kernel
theorem dX8_perform_75 : decode cX8_perform 75 = .ok (.sipush 200, 3) := by decide +kernel
theorem dX8_perform_78 : decode cX8_perform 78 = .ok (.if_icmp .lt 6, 3) := by decide +kernel
theorem dX8_perform_81 : decode cX8_perform 81 = .ok (.iload 4, 2) := by decide +kernel
theorem dX8_perform_83 : decode cX8_perform 83 = .ok (.ireturn, 1) := by decide +kernel
theorem dX8_perform_84 : decode cX8_perform 84 = .ok (.aload_n 0, 1) := by decide +kernel
theorem dX8_perform_85 : decode cX8_perform 85 = .ok (.dup, 1) := by decide +kernel
theorem dX8_perform_86 : decode cX8_perform 86 = .ok (.getfield 28, 3) := by decide +kernel
theorem dX8_perform_89 : decode cX8_perform 89 = .ok (.iconst 1, 1) := by decide +kernel
theorem dX8_perform_90 : decode cX8_perform 90 = .ok (.iadd, 1) := by decide +kernel
theorem dX8_perform_91 : decode cX8_perform 91 = .ok (.putfield 28, 3) := by decide +kernel
theorem dX8_perform_94 : decode cX8_perform 94 = .ok (.aload_n 0, 1) := by decide +kernel
theorem dX8_perform_95 : decode cX8_perform 95 = .ok (.getfield 9, 3) := by decide +kernel
theorem dX8_perform_98 : decode cX8_perform 98 = .ok (.iload 5, 2) := by decide +kernel
theorem dX8_perform_100 : decode cX8_perform 100 = .ok (.iaload, 1) := by decide +kernel
theorem dX8_perform_101 : decode cX8_perform 101 = .ok (.bipush 6, 2) := by decide +kernel
theorem dX8_perform_103 : decode cX8_perform 103 = .ok (.if_icmp .ne 48, 3) := by decide +kernel
theorem dX8_perform_106 : decode cX8_perform 106 = .ok (.aload_n 0, 1) := by decide +kernel
theorem dX8_perform_107 : decode cX8_perform 107 = .ok (.getfield 21, 3) := by decide +kernel
theorem dX8_perform_110 : decode cX8_perform 110 = .ok (.iload 5, 2) := by decide +kernel
theorem dX8_perform_112 : decode cX8_perform 112 = .ok (.aload_n 0, 1) := by decide +kernel
theorem dX8_perform_113 : decode cX8_perform 113 = .ok (.getfield 15, 3) := by decide +kernel
theorem dX8_perform_116 : decode cX8_perform 116 = .ok (.iload 5, 2) := by decide +kernel
theorem dX8_perform_118 : decode cX8_perform 118 = .ok (.iaload, 1) := by decide +kernel
theorem dX8_perform_119 : decode cX8_perform 119 = .ok (.iastore, 1) := by decide +kernel
theorem dX8_perform_120 : decode cX8_perform 120 = .ok (.aload_n 0, 1) := by decide +kernel
theorem dX8_perform_121 : decode cX8_perform 121 = .ok (.getfield 15, 3) := by decide +kernel
theorem dX8_perform_124 : decode cX8_perform 124 = .ok (.iload 5, 2) := by decide +kernel
theorem dX8_perform_126 : decode cX8_perform 126 = .ok (.iaload, 1) := by decide +kernel
theorem dX8_perform_127 : decode cX8_perform 127 = .ok (.ifCond .le 10, 3) := by decide +kernel
theorem dX8_perform_130 : decode cX8_perform 130 = .ok (.iload 5, 2) := by decide +kernel
theorem dX8_perform_132 : decode cX8_perform 132 = .ok (.iconst 1, 1) := by decide +kernel
theorem dX8_perform_133 : decode cX8_perform 133 = .ok (.iadd, 1) := by decide +kernel
theorem dX8_perform_134 : decode cX8_perform 134 = .ok (.goto 12, 3) := by decide +kernel
theorem dX8_perform_137 : decode cX8_perform 137 = .ok (.aload_n 0, 1) := by decide +kernel
theorem dX8_perform_138 : decode cX8_perform 138 = .ok (.getfield 18, 3) := by decide +kernel
theorem dX8_perform_141 : decode cX8_perform 141 = .ok (.iload 5, 2) := by decide +kernel
theorem dX8_perform_143 : decode cX8_perform 143 = .ok (.iaload, 1) := by decide +kernel
theorem dX8_perform_144 : decode cX8_perform 144 = .ok (.iconst 1, 1) := by decide +kernel
theorem dX8_perform_145 : decode cX8_perform 145 = .ok (.iadd, 1) := by decide +kernel
theorem dX8_perform_146 : decode cX8_perform 146 = .ok (.istore 5, 2) := by decide +kernel
theorem dX8_perform_148 : decode cX8_perform 148 = .ok (.goto 34, 3) := by decide +kernel
theorem dX8_perform_151 : decode cX8_perform 151 = .ok (.aload_n 0, 1) := by decide +kernel
theorem dX8_perform_152 : decode cX8_perform 152 = .ok (.aload_n 1, 1) := by decide +kernel
theorem dX8_perform_153 : decode cX8_perform 153 = .ok (.aload_n 2, 1) := by decide +kernel
theorem dX8_perform_154 : decode cX8_perform 154 = .ok (.aload_n 3, 1) := by decide +kernel
theorem dX8_perform_155 : decode cX8_perform 155 = .ok (.iload 5, 2) := by decide +kernel
theorem dX8_perform_157 : decode cX8_perform 157 = .ok (.invokevirtual 107, 3) := by decide +kernel
theorem dX8_perform_160 : decode cX8_perform 160 = .ok (.ifCond .eq 9, 3) := by decide +kernel
theorem dX8_perform_163 : decode cX8_perform 163 = .ok (.iinc 4 1, 3) := by decide +kernel
theorem dX8_perform_166 : decode cX8_perform 166 = .ok (.goto 13, 3) := by decide +kernel
theorem dX8_perform_169 : decode cX8_perform 169 = .ok (.aload_n 0, 1) := by decide +kernel
theorem dX8_perform_170 : decode cX8_perform 170 = .ok (.dup, 1) := by decide +kernel
theorem dX8_perform_171 : decode cX8_perform 171 = .ok (.getfield 31, 3) := by decide +kernel
theorem dX8_perform_174 : decode cX8_perform 174 = .ok (.iconst 1, 1) := by decide +kernel
theorem dX8_perform_175 : decode cX8_perform 175 = .ok (.iadd, 1) := by decide +kernel
theorem dX8_perform_176 : decode cX8_perform 176 = .ok (.putfield 31, 3) := by decide +kernel
theorem dX8_perform_179 : decode cX8_perform 179 = .ok (.iinc 5 1, 3) := by decide +kernel
theorem dX8_perform_182 : decode cX8_perform 182 = .ok (.iinc 6 1, 3) := by decide +kernel
theorem dX8_perform_185 : decode cX8_perform 185 = .ok (.goto (-166), 3) := by decide +kernel
theorem dX8_perform_188 : decode cX8_perform 188 = .ok (.iload 4, 2) := by decide +kernel
theorem dX8_perform_190 : decode cX8_perform 190 = .ok (.ireturn, 1) := by decide +kernel
theorem dX8_afterRound_0 : decode cX8_afterRound 0 = .ok (.aload_n 0, 1) := by decide +kernel
theorem dX8_afterRound_1 : decode cX8_afterRound 1 = .ok (.getfield 15, 3) := by decide +kernel
theorem dX8_afterRound_4 : decode cX8_afterRound 4 = .ok (.iload_n 1, 1) := by decide +kernel
theorem dX8_afterRound_5 : decode cX8_afterRound 5 = .ok (.iaload, 1) := by decide +kernel
theorem dX8_afterRound_6 : decode cX8_afterRound 6 = .ok (.istore_n 2, 1) := by decide +kernel
theorem dX8_afterRound_7 : decode cX8_afterRound 7 = .ok (.iload_n 2, 1) := by decide +kernel
theorem dX8_afterRound_8 : decode cX8_afterRound 8 = .ok (.ifCond .lt 10, 3) := by decide +kernel
theorem dX8_afterRound_11 : decode cX8_afterRound 11 = .ok (.iload_n 2, 1) := by decide +kernel
theorem dX8_afterRound_12 : decode cX8_afterRound 12 = .ok (.sipush 150, 3) := by decide +kernel
theorem dX8_afterRound_15 : decode cX8_afterRound 15 = .ok (.if_icmp .lt 7, 3) := by decide +kernel
theorem dX8_afterRound_18 : decode cX8_afterRound 18 = .ok (.iload_n 1, 1) := by decide +kernel
theorem dX8_afterRound_19 : decode cX8_afterRound 19 = .ok (.iconst 1, 1) := by decide +kernel
theorem dX8_afterRound_20 : decode cX8_afterRound 20 = .ok (.iadd, 1) := by decide +kernel
theorem dX8_afterRound_21 : decode cX8_afterRound 21 = .ok (.ireturn, 1) := by decide +kernel
theorem dX8_afterRound_22 : decode cX8_afterRound 22 = .ok (.aload_n 0, 1) := by decide +kernel
theorem dX8_afterRound_23 : decode cX8_afterRound 23 = .ok (.getfield 21, 3) := by decide +kernel
theorem dX8_afterRound_26 : decode cX8_afterRound 26 = .ok (.iload_n 2, 1) := by decide +kernel
theorem dX8_afterRound_27 : decode cX8_afterRound 27 = .ok (.dup2, 1) := by decide +kernel
theorem dX8_afterRound_28 : decode cX8_afterRound 28 = .ok (.iaload, 1) := by decide +kernel
theorem dX8_afterRound_29 : decode cX8_afterRound 29 = .ok (.iconst 1, 1) := by decide +kernel
theorem dX8_afterRound_30 : decode cX8_afterRound 30 = .ok (.isub, 1) := by decide +kernel
theorem dX8_afterRound_31 : decode cX8_afterRound 31 = .ok (.iastore, 1) := by decide +kernel
theorem dX8_afterRound_32 : decode cX8_afterRound 32 = .ok (.aload_n 0, 1) := by decide +kernel
theorem dX8_afterRound_33 : decode cX8_afterRound 33 = .ok (.getfield 21, 3) := by decide +kernel
theorem dX8_afterRound_36 : decode cX8_afterRound 36 = .ok (.iload_n 2, 1) := by decide +kernel
theorem dX8_afterRound_37 : decode cX8_afterRound 37 = .ok (.iaload, 1) := by decide +kernel
theorem dX8_afterRound_38 : decode cX8_afterRound 38 = .ok (.ifCond .le 9, 3) := by decide +kernel
theorem dX8_afterRound_41 : decode cX8_afterRound 41 = .ok (.iload_n 2, 1) := by decide +kernel
theorem dX8_afterRound_42 : decode cX8_afterRound 42 = .ok (.iconst 1, 1) := by decide +kernel
theorem dX8_afterRound_43 : decode cX8_afterRound 43 = .ok (.iadd, 1) := by decide +kernel
theorem dX8_afterRound_44 : decode cX8_afterRound 44 = .ok (.goto 6, 3) := by decide +kernel
theorem dX8_afterRound_47 : decode cX8_afterRound 47 = .ok (.iload_n 1, 1) := by decide +kernel
theorem dX8_afterRound_48 : decode cX8_afterRound 48 = .ok (.iconst 1, 1) := by decide +kernel
theorem dX8_afterRound_49 : decode cX8_afterRound 49 = .ok (.iadd, 1) := by decide +kernel
theorem dX8_afterRound_50 : decode cX8_afterRound 50 = .ok (.ireturn, 1) := by decide +kernel
theorem dX8_isDone_0 : decode cX8_isDone 0 = .ok (.aload_n 0, 1) := by decide +kernel
theorem dX8_isDone_1 : decode cX8_isDone 1 = .ok (.getfield 9, 3) := by decide +kernel
theorem dX8_isDone_4 : decode cX8_isDone 4 = .ok (.iload 4, 2) := by decide +kernel
theorem dX8_isDone_6 : decode cX8_isDone 6 = .ok (.iaload, 1) := by decide +kernel
theorem dX8_isDone_7 : decode cX8_isDone 7 = .ok (.tableswitch 112 0 4 #[33, 77, 92, 46, 65], 33) := by decide +kernel
theorem dX8_isDone_40 : decode cX8_isDone 40 = .ok (.aload_n 1, 1) := by decide +kernel
theorem dX8_isDone_41 : decode cX8_isDone 41 = .ok (.aload_n 2, 1) := by decide +kernel
theorem dX8_isDone_42 : decode cX8_isDone 42 = .ok (.aload_n 0, 1) := by decide +kernel
theorem dX8_isDone_43 : decode cX8_isDone 43 = .ok (.getfield 15, 3) := by decide +kernel
theorem dX8_isDone_46 : decode cX8_isDone 46 = .ok (.iload 4, 2) := by decide +kernel
theorem dX8_isDone_48 : decode cX8_isDone 48 = .ok (.iaload, 1) := by decide +kernel
theorem dX8_isDone_49 : decode cX8_isDone 49 = .ok (.invokevirtual 111, 3) := by decide +kernel
theorem dX8_isDone_52 : decode cX8_isDone 52 = .ok (.ireturn, 1) := by decide +kernel
theorem dX8_isDone_53 : decode cX8_isDone 53 = .ok (.aload_n 1, 1) := by decide +kernel
theorem dX8_isDone_54 : decode cX8_isDone 54 = .ok (.aload_n 0, 1) := by decide +kernel
theorem dX8_isDone_55 : decode cX8_isDone 55 = .ok (.getfield 15, 3) := by decide +kernel
theorem dX8_isDone_58 : decode cX8_isDone 58 = .ok (.iload 4, 2) := by decide +kernel
theorem dX8_isDone_60 : decode cX8_isDone 60 = .ok (.iaload, 1) := by decide +kernel
theorem dX8_isDone_61 : decode cX8_isDone 61 = .ok (.aload_n 0, 1) := by decide +kernel
theorem dX8_isDone_62 : decode cX8_isDone 62 = .ok (.getfield 18, 3) := by decide +kernel
theorem dX8_isDone_65 : decode cX8_isDone 65 = .ok (.iload 4, 2) := by decide +kernel
theorem dX8_isDone_67 : decode cX8_isDone 67 = .ok (.iaload, 1) := by decide +kernel
theorem dX8_isDone_68 : decode cX8_isDone 68 = .ok (.invokevirtual 117, 3) := by decide +kernel
theorem dX8_isDone_71 : decode cX8_isDone 71 = .ok (.ireturn, 1) := by decide +kernel
theorem dX8_isDone_72 : decode cX8_isDone 72 = .ok (.aload_n 1, 1) := by decide +kernel
theorem dX8_isDone_73 : decode cX8_isDone 73 = .ok (.aload_n 0, 1) := by decide +kernel
theorem dX8_isDone_74 : decode cX8_isDone 74 = .ok (.getfield 15, 3) := by decide +kernel
theorem dX8_isDone_77 : decode cX8_isDone 77 = .ok (.iload 4, 2) := by decide +kernel
theorem dX8_isDone_79 : decode cX8_isDone 79 = .ok (.iaload, 1) := by decide +kernel
theorem dX8_isDone_80 : decode cX8_isDone 80 = .ok (.invokevirtual 121, 3) := by decide +kernel
theorem dX8_isDone_83 : decode cX8_isDone 83 = .ok (.ireturn, 1) := by decide +kernel
theorem dX8_isDone_84 : decode cX8_isDone 84 = .ok (.aload_n 1, 1) := by decide +kernel
theorem dX8_isDone_85 : decode cX8_isDone 85 = .ok (.aload_n 2, 1) := by decide +kernel
theorem dX8_isDone_86 : decode cX8_isDone 86 = .ok (.aload_n 3, 1) := by decide +kernel
theorem dX8_isDone_87 : decode cX8_isDone 87 = .ok (.aload_n 0, 1) := by decide +kernel
theorem dX8_isDone_88 : decode cX8_isDone 88 = .ok (.getfield 15, 3) := by decide +kernel
theorem dX8_isDone_91 : decode cX8_isDone 91 = .ok (.iload 4, 2) := by decide +kernel
theorem dX8_isDone_93 : decode cX8_isDone 93 = .ok (.iaload, 1) := by decide +kernel
theorem dX8_isDone_94 : decode cX8_isDone 94 = .ok (.invokevirtual 125, 3) := by decide +kernel
theorem dX8_isDone_97 : decode cX8_isDone 97 = .ok (.iconst 1, 1) := by decide +kernel
theorem dX8_isDone_98 : decode cX8_isDone 98 = .ok (.ireturn, 1) := by decide +kernel
theorem dX8_isDone_99 : decode cX8_isDone 99 = .ok (.aload_n 1, 1) := by decide +kernel
theorem dX8_isDone_100 : decode cX8_isDone 100 = .ok (.dup, 1) := by decide +kernel
theorem dX8_isDone_101 : decode cX8_isDone 101 = .ok (.getfield 129, 3) := by decide +kernel
theorem dX8_isDone_104 : decode cX8_isDone 104 = .ok (.iconst 1, 1) := by decide +kernel
theorem dX8_isDone_105 : decode cX8_isDone 105 = .ok (.aload_n 0, 1) := by decide +kernel
theorem dX8_isDone_106 : decode cX8_isDone 106 = .ok (.getfield 15, 3) := by decide +kernel
theorem dX8_isDone_109 : decode cX8_isDone 109 = .ok (.iload 4, 2) := by decide +kernel
theorem dX8_isDone_111 : decode cX8_isDone 111 = .ok (.iaload, 1) := by decide +kernel
theorem dX8_isDone_112 : decode cX8_isDone 112 = .ok (.ishl, 1) := by decide +kernel
theorem dX8_isDone_113 : decode cX8_isDone 113 = .ok (.ixor, 1) := by decide +kernel
theorem dX8_isDone_114 : decode cX8_isDone 114 = .ok (.putfield 129, 3) := by decide +kernel
theorem dX8_isDone_117 : decode cX8_isDone 117 = .ok (.iconst 1, 1) := by decide +kernel
theorem dX8_isDone_118 : decode cX8_isDone 118 = .ok (.ireturn, 1) := by decide +kernel
theorem dX8_isDone_119 : decode cX8_isDone 119 = .ok (.aload_n 1, 1) := by decide +kernel
theorem dX8_isDone_120 : decode cX8_isDone 120 = .ok (.getfield 132, 3) := by decide +kernel
theorem dX8_isDone_123 : decode cX8_isDone 123 = .ok (.sipush 400, 3) := by decide +kernel
theorem dX8_isDone_126 : decode cX8_isDone 126 = .ok (.if_icmp .lt 5, 3) := by decide +kernel
theorem dX8_isDone_129 : decode cX8_isDone 129 = .ok (.iconst 0, 1) := by decide +kernel
theorem dX8_isDone_130 : decode cX8_isDone 130 = .ok (.ireturn, 1) := by decide +kernel
theorem dX8_isDone_131 : decode cX8_isDone 131 = .ok (.aload_n 1, 1) := by decide +kernel
theorem dX8_isDone_132 : decode cX8_isDone 132 = .ok (.aload_n 2, 1) := by decide +kernel
theorem dX8_isDone_133 : decode cX8_isDone 133 = .ok (.invokevirtual 134, 3) := by decide +kernel
theorem dX8_isDone_136 : decode cX8_isDone 136 = .ok (.iconst 1, 1) := by decide +kernel
theorem dX8_isDone_137 : decode cX8_isDone 137 = .ok (.ireturn, 1) := by decide +kernel
