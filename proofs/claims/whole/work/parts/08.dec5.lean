theorem dJ6_bitCount_0f7a4_0 : decode cJ6_bitCount_0f7a4 0 = .ok (.iload_n 0, 1) := by decide +kernel
theorem dJ6_bitCount_0f7a4_1 : decode cJ6_bitCount_0f7a4 1 = .ok (.iload_n 0, 1) := by decide +kernel
theorem dJ6_bitCount_0f7a4_2 : decode cJ6_bitCount_0f7a4 2 = .ok (.iconst 1, 1) := by decide +kernel
theorem dJ6_bitCount_0f7a4_3 : decode cJ6_bitCount_0f7a4 3 = .ok (.iushr, 1) := by decide +kernel
theorem dJ6_bitCount_0f7a4_4 : decode cJ6_bitCount_0f7a4 4 = .ok (.ldc_w 265, 3) := by decide +kernel
theorem dJ6_bitCount_0f7a4_7 : decode cJ6_bitCount_0f7a4 7 = .ok (.iand, 1) := by decide +kernel
theorem dJ6_bitCount_0f7a4_8 : decode cJ6_bitCount_0f7a4 8 = .ok (.isub, 1) := by decide +kernel
theorem dJ6_bitCount_0f7a4_9 : decode cJ6_bitCount_0f7a4 9 = .ok (.istore_n 0, 1) := by decide +kernel
theorem dJ6_bitCount_0f7a4_10 : decode cJ6_bitCount_0f7a4 10 = .ok (.iload_n 0, 1) := by decide +kernel
theorem dJ6_bitCount_0f7a4_11 : decode cJ6_bitCount_0f7a4 11 = .ok (.ldc_w 266, 3) := by decide +kernel
theorem dJ6_bitCount_0f7a4_14 : decode cJ6_bitCount_0f7a4 14 = .ok (.iand, 1) := by decide +kernel
theorem dJ6_bitCount_0f7a4_15 : decode cJ6_bitCount_0f7a4 15 = .ok (.iload_n 0, 1) := by decide +kernel
theorem dJ6_bitCount_0f7a4_16 : decode cJ6_bitCount_0f7a4 16 = .ok (.iconst 2, 1) := by decide +kernel
theorem dJ6_bitCount_0f7a4_17 : decode cJ6_bitCount_0f7a4 17 = .ok (.iushr, 1) := by decide +kernel
theorem dJ6_bitCount_0f7a4_18 : decode cJ6_bitCount_0f7a4 18 = .ok (.ldc_w 266, 3) := by decide +kernel
theorem dJ6_bitCount_0f7a4_21 : decode cJ6_bitCount_0f7a4 21 = .ok (.iand, 1) := by decide +kernel
theorem dJ6_bitCount_0f7a4_22 : decode cJ6_bitCount_0f7a4 22 = .ok (.iadd, 1) := by decide +kernel
theorem dJ6_bitCount_0f7a4_23 : decode cJ6_bitCount_0f7a4 23 = .ok (.istore_n 0, 1) := by decide +kernel
theorem dJ6_bitCount_0f7a4_24 : decode cJ6_bitCount_0f7a4 24 = .ok (.iload_n 0, 1) := by decide +kernel
theorem dJ6_bitCount_0f7a4_25 : decode cJ6_bitCount_0f7a4 25 = .ok (.iload_n 0, 1) := by decide +kernel
theorem dJ6_bitCount_0f7a4_26 : decode cJ6_bitCount_0f7a4 26 = .ok (.iconst 4, 1) := by decide +kernel
theorem dJ6_bitCount_0f7a4_27 : decode cJ6_bitCount_0f7a4 27 = .ok (.iushr, 1) := by decide +kernel
theorem dJ6_bitCount_0f7a4_28 : decode cJ6_bitCount_0f7a4 28 = .ok (.iadd, 1) := by decide +kernel
theorem dJ6_bitCount_0f7a4_29 : decode cJ6_bitCount_0f7a4 29 = .ok (.ldc_w 267, 3) := by decide +kernel
theorem dJ6_bitCount_0f7a4_32 : decode cJ6_bitCount_0f7a4 32 = .ok (.iand, 1) := by decide +kernel
theorem dJ6_bitCount_0f7a4_33 : decode cJ6_bitCount_0f7a4 33 = .ok (.istore_n 0, 1) := by decide +kernel
theorem dJ6_bitCount_0f7a4_34 : decode cJ6_bitCount_0f7a4 34 = .ok (.iload_n 0, 1) := by decide +kernel
theorem dJ6_bitCount_0f7a4_35 : decode cJ6_bitCount_0f7a4 35 = .ok (.iload_n 0, 1) := by decide +kernel
theorem dJ6_bitCount_0f7a4_36 : decode cJ6_bitCount_0f7a4 36 = .ok (.bipush 8, 2) := by decide +kernel
theorem dJ6_bitCount_0f7a4_38 : decode cJ6_bitCount_0f7a4 38 = .ok (.iushr, 1) := by decide +kernel
theorem dJ6_bitCount_0f7a4_39 : decode cJ6_bitCount_0f7a4 39 = .ok (.iadd, 1) := by decide +kernel
theorem dJ6_bitCount_0f7a4_40 : decode cJ6_bitCount_0f7a4 40 = .ok (.istore_n 0, 1) := by decide +kernel
theorem dJ6_bitCount_0f7a4_41 : decode cJ6_bitCount_0f7a4 41 = .ok (.iload_n 0, 1) := by decide +kernel
theorem dJ6_bitCount_0f7a4_42 : decode cJ6_bitCount_0f7a4 42 = .ok (.iload_n 0, 1) := by decide +kernel
theorem dJ6_bitCount_0f7a4_43 : decode cJ6_bitCount_0f7a4 43 = .ok (.bipush 16, 2) := by decide +kernel
theorem dJ6_bitCount_0f7a4_45 : decode cJ6_bitCount_0f7a4 45 = .ok (.iushr, 1) := by decide +kernel
theorem dJ6_bitCount_0f7a4_46 : decode cJ6_bitCount_0f7a4 46 = .ok (.iadd, 1) := by decide +kernel
theorem dJ6_bitCount_0f7a4_47 : decode cJ6_bitCount_0f7a4 47 = .ok (.istore_n 0, 1) := by decide +kernel
theorem dJ6_bitCount_0f7a4_48 : decode cJ6_bitCount_0f7a4 48 = .ok (.iload_n 0, 1) := by decide +kernel
theorem dJ6_bitCount_0f7a4_49 : decode cJ6_bitCount_0f7a4 49 = .ok (.bipush 63, 2) := by decide +kernel
theorem dJ6_bitCount_0f7a4_51 : decode cJ6_bitCount_0f7a4 51 = .ok (.iand, 1) := by decide +kernel
theorem dJ6_bitCount_0f7a4_52 : decode cJ6_bitCount_0f7a4 52 = .ok (.ireturn, 1) := by decide +kernel
theorem dJ9_max_7cf53_0 : decode cJ9_max_7cf53 0 = .ok (.iload_n 0, 1) := by decide +kernel
theorem dJ9_max_7cf53_1 : decode cJ9_max_7cf53 1 = .ok (.iload_n 1, 1) := by decide +kernel
theorem dJ9_max_7cf53_2 : decode cJ9_max_7cf53 2 = .ok (.if_icmp .lt 7, 3) := by decide +kernel
theorem dJ9_max_7cf53_5 : decode cJ9_max_7cf53 5 = .ok (.iload_n 0, 1) := by decide +kernel
theorem dJ9_max_7cf53_6 : decode cJ9_max_7cf53 6 = .ok (.goto 4, 3) := by decide +kernel
theorem dJ9_max_7cf53_9 : decode cJ9_max_7cf53 9 = .ok (.iload_n 1, 1) := by decide +kernel
theorem dJ9_max_7cf53_10 : decode cJ9_max_7cf53 10 = .ok (.ireturn, 1) := by decide +kernel
theorem dJ9_min_7cf53_0 : decode cJ9_min_7cf53 0 = .ok (.iload_n 0, 1) := by decide +kernel
theorem dJ9_min_7cf53_1 : decode cJ9_min_7cf53 1 = .ok (.iload_n 1, 1) := by decide +kernel
theorem dJ9_min_7cf53_2 : decode cJ9_min_7cf53 2 = .ok (.if_icmp .gt 7, 3) := by decide +kernel
theorem dJ9_min_7cf53_5 : decode cJ9_min_7cf53 5 = .ok (.iload_n 0, 1) := by decide +kernel
theorem dJ9_min_7cf53_6 : decode cJ9_min_7cf53 6 = .ok (.goto 4, 3) := by decide +kernel
theorem dJ9_min_7cf53_9 : decode cJ9_min_7cf53 9 = .ok (.iload_n 1, 1) := by decide +kernel
theorem dJ9_min_7cf53_10 : decode cJ9_min_7cf53 10 = .ok (.ireturn, 1) := by decide +kernel
theorem dJ0_length_8abf5_0 : decode cJ0_length_8abf5 0 = .ok (.aload_n 0, 1) := by decide +kernel
theorem dJ0_length_8abf5_1 : decode cJ0_length_8abf5 1 = .ok (.getfield 9, 3) := by decide +kernel
theorem dJ0_length_8abf5_4 : decode cJ0_length_8abf5 4 = .ok (.arraylength, 1) := by decide +kernel
theorem dJ0_length_8abf5_5 : decode cJ0_length_8abf5 5 = .ok (.aload_n 0, 1) := by decide +kernel
theorem dJ0_length_8abf5_6 : decode cJ0_length_8abf5 6 = .ok (.invokevirtual 335, 3) := by decide +kernel
theorem dJ0_length_8abf5_9 : decode cJ0_length_8abf5 9 = .ok (.ishr, 1) := by decide +kernel
theorem dJ0_length_8abf5_10 : decode cJ0_length_8abf5 10 = .ok (.ireturn, 1) := by decide +kernel
theorem dJ0_charAt_5068e_0 : decode cJ0_charAt_5068e 0 = .ok (.aload_n 0, 1) := by decide +kernel
theorem dJ0_charAt_5068e_1 : decode cJ0_charAt_5068e 1 = .ok (.invokevirtual 492, 3) := by decide +kernel
theorem dJ0_charAt_5068e_4 : decode cJ0_charAt_5068e 4 = .ok (.ifCond .eq 12, 3) := by decide +kernel
theorem dJ0_charAt_5068e_7 : decode cJ0_charAt_5068e 7 = .ok (.aload_n 0, 1) := by decide +kernel
theorem dJ0_charAt_5068e_8 : decode cJ0_charAt_5068e 8 = .ok (.getfield 9, 3) := by decide +kernel
theorem dJ0_charAt_5068e_11 : decode cJ0_charAt_5068e 11 = .ok (.iload_n 1, 1) := by decide +kernel
theorem dJ0_charAt_5068e_12 : decode cJ0_charAt_5068e 12 = .ok (.invokestatic 495, 3) := by decide +kernel
theorem dJ0_charAt_5068e_15 : decode cJ0_charAt_5068e 15 = .ok (.ireturn, 1) := by decide +kernel
theorem dJ0_charAt_5068e_16 : decode cJ0_charAt_5068e 16 = .ok (.aload_n 0, 1) := by decide +kernel
theorem dJ0_charAt_5068e_17 : decode cJ0_charAt_5068e 17 = .ok (.getfield 9, 3) := by decide +kernel
theorem dJ0_charAt_5068e_20 : decode cJ0_charAt_5068e 20 = .ok (.iload_n 1, 1) := by decide +kernel
theorem dJ0_charAt_5068e_21 : decode cJ0_charAt_5068e 21 = .ok (.invokestatic 498, 3) := by decide +kernel
theorem dJ0_charAt_5068e_24 : decode cJ0_charAt_5068e 24 = .ok (.ireturn, 1) := by decide +kernel
theorem dJ0_coder_7d493_0 : decode cJ0_coder_7d493 0 = .ok (.getstatic 38, 3) := by decide +kernel
theorem dJ0_coder_7d493_3 : decode cJ0_coder_7d493 3 = .ok (.ifCond .eq 10, 3) := by decide +kernel
theorem dJ0_coder_7d493_6 : decode cJ0_coder_7d493 6 = .ok (.aload_n 0, 1) := by decide +kernel
theorem dJ0_coder_7d493_7 : decode cJ0_coder_7d493 7 = .ok (.getfield 15, 3) := by decide +kernel
theorem dJ0_coder_7d493_10 : decode cJ0_coder_7d493 10 = .ok (.goto 4, 3) := by decide +kernel
theorem dJ0_coder_7d493_13 : decode cJ0_coder_7d493 13 = .ok (.iconst 1, 1) := by decide +kernel
theorem dJ0_coder_7d493_14 : decode cJ0_coder_7d493 14 = .ok (.ireturn, 1) := by decide +kernel
theorem dJ0_isLatin1_aae02_0 : decode cJ0_isLatin1_aae02 0 = .ok (.getstatic 38, 3) := by decide +kernel
theorem dJ0_isLatin1_aae02_3 : decode cJ0_isLatin1_aae02 3 = .ok (.ifCond .eq 14, 3) := by decide +kernel
theorem dJ0_isLatin1_aae02_6 : decode cJ0_isLatin1_aae02 6 = .ok (.aload_n 0, 1) := by decide +kernel
theorem dJ0_isLatin1_aae02_7 : decode cJ0_isLatin1_aae02 7 = .ok (.getfield 15, 3) := by decide +kernel
theorem dJ0_isLatin1_aae02_10 : decode cJ0_isLatin1_aae02 10 = .ok (.ifCond .ne 7, 3) := by decide +kernel
theorem dJ0_isLatin1_aae02_13 : decode cJ0_isLatin1_aae02 13 = .ok (.iconst 1, 1) := by decide +kernel
theorem dJ0_isLatin1_aae02_14 : decode cJ0_isLatin1_aae02 14 = .ok (.goto 4, 3) := by decide +kernel
theorem dJ0_isLatin1_aae02_17 : decode cJ0_isLatin1_aae02 17 = .ok (.iconst 0, 1) := by decide +kernel
theorem dJ0_isLatin1_aae02_18 : decode cJ0_isLatin1_aae02 18 = .ok (.ireturn, 1) := by decide +kernel
theorem dJ0_checkIndex_df160_0 : decode cJ0_checkIndex_df160 0 = .ok (.iload_n 0, 1) := by decide +kernel
theorem dJ0_checkIndex_df160_1 : decode cJ0_checkIndex_df160 1 = .ok (.iload_n 1, 1) := by decide +kernel
theorem dJ0_checkIndex_df160_2 : decode cJ0_checkIndex_df160 2 = .ok (.getstatic 1053, 3) := by decide +kernel
theorem dJ0_checkIndex_df160_5 : decode cJ0_checkIndex_df160 5 = .ok (.invokestatic 1059, 3) := by decide +kernel
theorem dJ0_checkIndex_df160_8 : decode cJ0_checkIndex_df160 8 = .ok (.pop, 1) := by decide +kernel
theorem dJ0_checkIndex_df160_9 : decode cJ0_checkIndex_df160 9 = .ok (.return_, 1) := by decide +kernel
theorem dJ1_charAt_3b067_0 : decode cJ1_charAt_3b067 0 = .ok (.iload_n 1, 1) := by decide +kernel
theorem dJ1_charAt_3b067_1 : decode cJ1_charAt_3b067 1 = .ok (.aload_n 0, 1) := by decide +kernel
theorem dJ1_charAt_3b067_2 : decode cJ1_charAt_3b067 2 = .ok (.arraylength, 1) := by decide +kernel
theorem dJ1_charAt_3b067_3 : decode cJ1_charAt_3b067 3 = .ok (.invokestatic 9, 3) := by decide +kernel
theorem dJ1_charAt_3b067_6 : decode cJ1_charAt_3b067 6 = .ok (.aload_n 0, 1) := by decide +kernel
theorem dJ1_charAt_3b067_7 : decode cJ1_charAt_3b067 7 = .ok (.iload_n 1, 1) := by decide +kernel
theorem dJ1_charAt_3b067_8 : decode cJ1_charAt_3b067 8 = .ok (.baload, 1) := by decide +kernel
theorem dJ1_charAt_3b067_9 : decode cJ1_charAt_3b067 9 = .ok (.sipush 255, 3) := by decide +kernel
theorem dJ1_charAt_3b067_12 : decode cJ1_charAt_3b067 12 = .ok (.iand, 1) := by decide +kernel
theorem dJ1_charAt_3b067_13 : decode cJ1_charAt_3b067 13 = .ok (.i2c, 1) := by decide +kernel
theorem dJ1_charAt_3b067_14 : decode cJ1_charAt_3b067 14 = .ok (.ireturn, 1) := by decide +kernel
theorem dJ2_getChar_3b067_0 : decode cJ2_getChar_3b067 0 = .ok (.getstatic 44, 3) := by decide +kernel
theorem dJ2_getChar_3b067_3 : decode cJ2_getChar_3b067 3 = .ok (.ifCond .ne 25, 3) := by decide +kernel
theorem dJ2_getChar_3b067_6 : decode cJ2_getChar_3b067 6 = .ok (.iload_n 1, 1) := by decide +kernel
theorem dJ2_getChar_3b067_7 : decode cJ2_getChar_3b067 7 = .ok (.ifCond .lt 11, 3) := by decide +kernel
theorem dJ2_getChar_3b067_10 : decode cJ2_getChar_3b067 10 = .ok (.iload_n 1, 1) := by decide +kernel
theorem dJ2_getChar_3b067_11 : decode cJ2_getChar_3b067 11 = .ok (.aload_n 0, 1) := by decide +kernel
theorem dJ2_getChar_3b067_12 : decode cJ2_getChar_3b067 12 = .ok (.invokestatic 48, 3) := by decide +kernel
theorem dJ2_getChar_3b067_15 : decode cJ2_getChar_3b067 15 = .ok (.if_icmp .lt 13, 3) := by decide +kernel
theorem dJ2_getChar_3b067_18 : decode cJ2_getChar_3b067 18 = .ok (.new 52, 3) := by decide +kernel
theorem dJ2_getChar_3b067_21 : decode cJ2_getChar_3b067 21 = .ok (.dup, 1) := by decide +kernel
theorem dJ2_getChar_3b067_22 : decode cJ2_getChar_3b067 22 = .ok (.ldc 54, 2) := by decide +kernel
theorem dJ2_getChar_3b067_24 : decode cJ2_getChar_3b067 24 = .ok (.invokespecial 56, 3) := by decide +kernel
theorem dJ2_getChar_3b067_27 : decode cJ2_getChar_3b067 27 = .ok (.athrow, 1) := by decide +kernel
theorem dJ2_getChar_3b067_28 : decode cJ2_getChar_3b067 28 = .ok (.iload_n 1, 1) := by decide +kernel
theorem dJ2_getChar_3b067_29 : decode cJ2_getChar_3b067 29 = .ok (.iconst 1, 1) := by decide +kernel
theorem dJ2_getChar_3b067_30 : decode cJ2_getChar_3b067 30 = .ok (.ishl, 1) := by decide +kernel
theorem dJ2_getChar_3b067_31 : decode cJ2_getChar_3b067 31 = .ok (.istore_n 1, 1) := by decide +kernel
theorem dJ2_getChar_3b067_32 : decode cJ2_getChar_3b067 32 = .ok (.aload_n 0, 1) := by decide +kernel
theorem dJ2_getChar_3b067_33 : decode cJ2_getChar_3b067 33 = .ok (.iload_n 1, 1) := by decide +kernel
theorem dJ2_getChar_3b067_34 : decode cJ2_getChar_3b067 34 = .ok (.iinc 1 1, 3) := by decide +kernel
theorem dJ2_getChar_3b067_37 : decode cJ2_getChar_3b067 37 = .ok (.baload, 1) := by decide +kernel
theorem dJ2_getChar_3b067_38 : decode cJ2_getChar_3b067 38 = .ok (.sipush 255, 3) := by decide +kernel
theorem dJ2_getChar_3b067_41 : decode cJ2_getChar_3b067 41 = .ok (.iand, 1) := by decide +kernel
theorem dJ2_getChar_3b067_42 : decode cJ2_getChar_3b067 42 = .ok (.getstatic 59, 3) := by decide +kernel
theorem dJ2_getChar_3b067_45 : decode cJ2_getChar_3b067 45 = .ok (.ishl, 1) := by decide +kernel
theorem dJ2_getChar_3b067_46 : decode cJ2_getChar_3b067 46 = .ok (.aload_n 0, 1) := by decide +kernel
theorem dJ2_getChar_3b067_47 : decode cJ2_getChar_3b067 47 = .ok (.iload_n 1, 1) := by decide +kernel
theorem dJ2_getChar_3b067_48 : decode cJ2_getChar_3b067 48 = .ok (.baload, 1) := by decide +kernel
theorem dJ2_getChar_3b067_49 : decode cJ2_getChar_3b067 49 = .ok (.sipush 255, 3) := by decide +kernel
theorem dJ2_getChar_3b067_52 : decode cJ2_getChar_3b067 52 = .ok (.iand, 1) := by decide +kernel
theorem dJ2_getChar_3b067_53 : decode cJ2_getChar_3b067 53 = .ok (.getstatic 63, 3) := by decide +kernel
theorem dJ2_getChar_3b067_56 : decode cJ2_getChar_3b067 56 = .ok (.ishl, 1) := by decide +kernel
theorem dJ2_getChar_3b067_57 : decode cJ2_getChar_3b067 57 = .ok (.ior, 1) := by decide +kernel
theorem dJ2_getChar_3b067_58 : decode cJ2_getChar_3b067 58 = .ok (.i2c, 1) := by decide +kernel
theorem dJ2_getChar_3b067_59 : decode cJ2_getChar_3b067 59 = .ok (.ireturn, 1) := by decide +kernel
theorem dJ2_length_9d52b_0 : decode cJ2_length_9d52b 0 = .ok (.aload_n 0, 1) := by decide +kernel
theorem dJ2_length_9d52b_1 : decode cJ2_length_9d52b 1 = .ok (.arraylength, 1) := by decide +kernel
theorem dJ2_length_9d52b_2 : decode cJ2_length_9d52b 2 = .ok (.iconst 1, 1) := by decide +kernel
theorem dJ2_length_9d52b_3 : decode cJ2_length_9d52b 3 = .ok (.ishr, 1) := by decide +kernel
theorem dJ2_length_9d52b_4 : decode cJ2_length_9d52b 4 = .ok (.ireturn, 1) := by decide +kernel
theorem dJ2_charAt_3b067_0 : decode cJ2_charAt_3b067 0 = .ok (.iload_n 1, 1) := by decide +kernel
theorem dJ2_charAt_3b067_1 : decode cJ2_charAt_3b067 1 = .ok (.aload_n 0, 1) := by decide +kernel
theorem dJ2_charAt_3b067_2 : decode cJ2_charAt_3b067 2 = .ok (.invokestatic 67, 3) := by decide +kernel
theorem dJ2_charAt_3b067_5 : decode cJ2_charAt_3b067 5 = .ok (.aload_n 0, 1) := by decide +kernel
theorem dJ2_charAt_3b067_6 : decode cJ2_charAt_3b067 6 = .ok (.iload_n 1, 1) := by decide +kernel
theorem dJ2_charAt_3b067_7 : decode cJ2_charAt_3b067 7 = .ok (.invokestatic 71, 3) := by decide +kernel
theorem dJ2_charAt_3b067_10 : decode cJ2_charAt_3b067 10 = .ok (.ireturn, 1) := by decide +kernel
theorem dJ2_checkIndex_2214a_0 : decode cJ2_checkIndex_2214a 0 = .ok (.iload_n 0, 1) := by decide +kernel
theorem dJ2_checkIndex_2214a_1 : decode cJ2_checkIndex_2214a 1 = .ok (.aload_n 1, 1) := by decide +kernel
theorem dJ2_checkIndex_2214a_2 : decode cJ2_checkIndex_2214a 2 = .ok (.invokestatic 48, 3) := by decide +kernel
theorem dJ2_checkIndex_2214a_5 : decode cJ2_checkIndex_2214a 5 = .ok (.invokestatic 414, 3) := by decide +kernel
theorem dJ2_checkIndex_2214a_8 : decode cJ2_checkIndex_2214a 8 = .ok (.return_, 1) := by decide +kernel
theorem dJ3_checkIndex_8e157_0 : decode cJ3_checkIndex_8e157 0 = .ok (.iload_n 0, 1) := by decide +kernel
theorem dJ3_checkIndex_8e157_1 : decode cJ3_checkIndex_8e157 1 = .ok (.ifCond .lt 8, 3) := by decide +kernel
theorem dJ3_checkIndex_8e157_4 : decode cJ3_checkIndex_8e157 4 = .ok (.iload_n 0, 1) := by decide +kernel
theorem dJ3_checkIndex_8e157_5 : decode cJ3_checkIndex_8e157 5 = .ok (.iload_n 1, 1) := by decide +kernel
theorem dJ3_checkIndex_8e157_6 : decode cJ3_checkIndex_8e157 6 = .ok (.if_icmp .lt 10, 3) := by decide +kernel
theorem dJ3_checkIndex_8e157_9 : decode cJ3_checkIndex_8e157 9 = .ok (.aload_n 2, 1) := by decide +kernel
theorem dJ3_checkIndex_8e157_10 : decode cJ3_checkIndex_8e157 10 = .ok (.iload_n 0, 1) := by decide +kernel
theorem dJ3_checkIndex_8e157_11 : decode cJ3_checkIndex_8e157 11 = .ok (.iload_n 1, 1) := by decide +kernel
theorem dJ3_checkIndex_8e157_12 : decode cJ3_checkIndex_8e157 12 = .ok (.invokestatic 95, 3) := by decide +kernel
theorem dJ3_checkIndex_8e157_15 : decode cJ3_checkIndex_8e157 15 = .ok (.athrow, 1) := by decide +kernel
theorem dJ3_checkIndex_8e157_16 : decode cJ3_checkIndex_8e157 16 = .ok (.iload_n 0, 1) := by decide +kernel
theorem dJ3_checkIndex_8e157_17 : decode cJ3_checkIndex_8e157 17 = .ok (.ireturn, 1) := by decide +kernel
theorem dL_garden_0 : decode cL_garden 0 = .ok (.aload_n 2, 1) := by decide +kernel
theorem dL_garden_1 : decode cL_garden 1 = .ok (.iconst 0, 1) := by decide +kernel
theorem dL_garden_2 : decode cL_garden 2 = .ok (.aload_n 0, 1) := by decide +kernel
theorem dL_garden_3 : decode cL_garden 3 = .ok (.iload_n 1, 1) := by decide +kernel
theorem dL_garden_4 : decode cL_garden 4 = .ok (.invokevirtual 7, 3) := by decide +kernel
theorem dL_garden_7 : decode cL_garden 7 = .ok (.i2l, 1) := by decide +kernel
theorem dL_garden_8 : decode cL_garden 8 = .ok (.lastore, 1) := by decide +kernel
theorem dL_garden_9 : decode cL_garden 9 = .ok (.goto 6, 3) := by decide +kernel
theorem dL_garden_12 : decode cL_garden 12 = .ok (.astore_n 3, 1) := by decide +kernel
theorem dL_garden_13 : decode cL_garden 13 = .ok (.iconst 1, 1) := by decide +kernel
theorem dL_garden_14 : decode cL_garden 14 = .ok (.ireturn, 1) := by decide +kernel
theorem dL_garden_15 : decode cL_garden 15 = .ok (.iconst 0, 1) := by decide +kernel
theorem dL_garden_16 : decode cL_garden 16 = .ok (.ireturn, 1) := by decide +kernel
theorem dL_law_0 : decode cL_law 0 = .ok (.aload_n 2, 1) := by decide +kernel
theorem dL_law_1 : decode cL_law 1 = .ok (.iconst 0, 1) := by decide +kernel
theorem dL_law_2 : decode cL_law 2 = .ok (.aload_n 0, 1) := by decide +kernel
theorem dL_law_3 : decode cL_law 3 = .ok (.iload_n 1, 1) := by decide +kernel
theorem dL_law_4 : decode cL_law 4 = .ok (.invokevirtual 15, 3) := by decide +kernel
theorem dL_law_7 : decode cL_law 7 = .ok (.i2l, 1) := by decide +kernel
theorem dL_law_8 : decode cL_law 8 = .ok (.lastore, 1) := by decide +kernel
theorem dL_law_9 : decode cL_law 9 = .ok (.goto 6, 3) := by decide +kernel
theorem dL_law_12 : decode cL_law 12 = .ok (.astore_n 3, 1) := by decide +kernel
theorem dL_law_13 : decode cL_law 13 = .ok (.iconst 1, 1) := by decide +kernel
theorem dL_law_14 : decode cL_law 14 = .ok (.ireturn, 1) := by decide +kernel
theorem dL_law_15 : decode cL_law 15 = .ok (.iconst 0, 1) := by decide +kernel
theorem dL_law_16 : decode cL_law 16 = .ok (.ireturn, 1) := by decide +kernel
theorem dL_work_0 : decode cL_work 0 = .ok (.aload_n 2, 1) := by decide +kernel
theorem dL_work_1 : decode cL_work 1 = .ok (.iconst 0, 1) := by decide +kernel
theorem dL_work_2 : decode cL_work 2 = .ok (.aload_n 0, 1) := by decide +kernel
theorem dL_work_3 : decode cL_work 3 = .ok (.iload_n 1, 1) := by decide +kernel
theorem dL_work_4 : decode cL_work 4 = .ok (.invokevirtual 18, 3) := by decide +kernel
theorem dL_work_7 : decode cL_work 7 = .ok (.i2l, 1) := by decide +kernel
theorem dL_work_8 : decode cL_work 8 = .ok (.lastore, 1) := by decide +kernel
theorem dL_work_9 : decode cL_work 9 = .ok (.goto 6, 3) := by decide +kernel
theorem dL_work_12 : decode cL_work 12 = .ok (.astore_n 3, 1) := by decide +kernel
theorem dL_work_13 : decode cL_work 13 = .ok (.iconst 1, 1) := by decide +kernel
theorem dL_work_14 : decode cL_work 14 = .ok (.ireturn, 1) := by decide +kernel
theorem dL_work_15 : decode cL_work 15 = .ok (.iconst 0, 1) := by decide +kernel
theorem dL_work_16 : decode cL_work 16 = .ok (.ireturn, 1) := by decide +kernel
theorem dL_book_0 : decode cL_book 0 = .ok (.aload_n 2, 1) := by decide +kernel
theorem dL_book_1 : decode cL_book 1 = .ok (.iconst 0, 1) := by decide +kernel
theorem dL_book_2 : decode cL_book 2 = .ok (.aload_n 0, 1) := by decide +kernel
theorem dL_book_3 : decode cL_book 3 = .ok (.iload_n 1, 1) := by decide +kernel
theorem dL_book_4 : decode cL_book 4 = .ok (.invokevirtual 21, 3) := by decide +kernel
theorem dL_book_7 : decode cL_book 7 = .ok (.i2l, 1) := by decide +kernel
theorem dL_book_8 : decode cL_book 8 = .ok (.lastore, 1) := by decide +kernel
theorem dL_book_9 : decode cL_book 9 = .ok (.goto 6, 3) := by decide +kernel
theorem dL_book_12 : decode cL_book 12 = .ok (.astore_n 3, 1) := by decide +kernel
theorem dL_book_13 : decode cL_book 13 = .ok (.iconst 1, 1) := by decide +kernel
theorem dL_book_14 : decode cL_book 14 = .ok (.ireturn, 1) := by decide +kernel
theorem dL_book_15 : decode cL_book 15 = .ok (.iconst 0, 1) := by decide +kernel
theorem dL_book_16 : decode cL_book 16 = .ok (.ireturn, 1) := by decide +kernel
theorem dL_told_0 : decode cL_told 0 = .ok (.aload_n 2, 1) := by decide +kernel
theorem dL_told_1 : decode cL_told 1 = .ok (.iconst 0, 1) := by decide +kernel
theorem dL_told_2 : decode cL_told 2 = .ok (.aload_n 0, 1) := by decide +kernel
theorem dL_told_3 : decode cL_told 3 = .ok (.iload_n 1, 1) := by decide +kernel
theorem dL_told_4 : decode cL_told 4 = .ok (.invokevirtual 24, 3) := by decide +kernel
theorem dL_told_7 : decode cL_told 7 = .ok (.i2l, 1) := by decide +kernel
theorem dL_told_8 : decode cL_told 8 = .ok (.lastore, 1) := by decide +kernel
theorem dL_told_9 : decode cL_told 9 = .ok (.goto 6, 3) := by decide +kernel
theorem dL_told_12 : decode cL_told 12 = .ok (.astore_n 3, 1) := by decide +kernel
theorem dL_told_13 : decode cL_told 13 = .ok (.iconst 1, 1) := by decide +kernel
theorem dL_told_14 : decode cL_told 14 = .ok (.ireturn, 1) := by decide +kernel
theorem dL_told_15 : decode cL_told 15 = .ok (.iconst 0, 1) := by decide +kernel
theorem dL_told_16 : decode cL_told 16 = .ok (.ireturn, 1) := by decide +kernel
theorem dL_letter_0 : decode cL_letter 0 = .ok (.aload_n 3, 1) := by decide +kernel
theorem dL_letter_1 : decode cL_letter 1 = .ok (.iconst 0, 1) := by decide +kernel
theorem dL_letter_2 : decode cL_letter 2 = .ok (.aload_n 0, 1) := by decide +kernel
theorem dL_letter_3 : decode cL_letter 3 = .ok (.iload_n 1, 1) := by decide +kernel
theorem dL_letter_4 : decode cL_letter 4 = .ok (.iload_n 2, 1) := by decide +kernel
theorem dL_letter_5 : decode cL_letter 5 = .ok (.invokevirtual 27, 3) := by decide +kernel
theorem dL_letter_8 : decode cL_letter 8 = .ok (.i2l, 1) := by decide +kernel
theorem dL_letter_9 : decode cL_letter 9 = .ok (.lastore, 1) := by decide +kernel
theorem dL_letter_10 : decode cL_letter 10 = .ok (.goto 11, 3) := by decide +kernel
theorem dL_letter_13 : decode cL_letter 13 = .ok (.astore 4, 2) := by decide +kernel
theorem dL_letter_15 : decode cL_letter 15 = .ok (.iconst 1, 1) := by decide +kernel
theorem dL_letter_16 : decode cL_letter 16 = .ok (.ireturn, 1) := by decide +kernel
theorem dL_letter_17 : decode cL_letter 17 = .ok (.astore 4, 2) := by decide +kernel
theorem dL_letter_19 : decode cL_letter 19 = .ok (.iconst 2, 1) := by decide +kernel
theorem dL_letter_20 : decode cL_letter 20 = .ok (.ireturn, 1) := by decide +kernel
theorem dL_letter_21 : decode cL_letter 21 = .ok (.iconst 0, 1) := by decide +kernel
theorem dL_letter_22 : decode cL_letter 22 = .ok (.ireturn, 1) := by decide +kernel
theorem dL_word_0 : decode cL_word 0 = .ok (.aload_n 3, 1) := by decide +kernel
theorem dL_word_1 : decode cL_word 1 = .ok (.iconst 0, 1) := by decide +kernel
theorem dL_word_2 : decode cL_word 2 = .ok (.aload_n 0, 1) := by decide +kernel
theorem dL_word_3 : decode cL_word 3 = .ok (.iload_n 1, 1) := by decide +kernel
theorem dL_word_4 : decode cL_word 4 = .ok (.iload_n 2, 1) := by decide +kernel
theorem dL_word_5 : decode cL_word 5 = .ok (.invokevirtual 33, 3) := by decide +kernel
theorem dL_word_8 : decode cL_word 8 = .ok (.i2l, 1) := by decide +kernel
theorem dL_word_9 : decode cL_word 9 = .ok (.lastore, 1) := by decide +kernel
theorem dL_word_10 : decode cL_word 10 = .ok (.goto 11, 3) := by decide +kernel
theorem dL_word_13 : decode cL_word 13 = .ok (.astore 4, 2) := by decide +kernel
theorem dL_word_15 : decode cL_word 15 = .ok (.iconst 1, 1) := by decide +kernel
theorem dL_word_16 : decode cL_word 16 = .ok (.ireturn, 1) := by decide +kernel
theorem dL_word_17 : decode cL_word 17 = .ok (.astore 4, 2) := by decide +kernel
theorem dL_word_19 : decode cL_word 19 = .ok (.iconst 2, 1) := by decide +kernel
theorem dL_word_20 : decode cL_word 20 = .ok (.ireturn, 1) := by decide +kernel
theorem dL_word_21 : decode cL_word 21 = .ok (.iconst 0, 1) := by decide +kernel
theorem dL_word_22 : decode cL_word 22 = .ok (.ireturn, 1) := by decide +kernel
theorem dL_bed_0 : decode cL_bed 0 = .ok (.aload_n 3, 1) := by decide +kernel
theorem dL_bed_1 : decode cL_bed 1 = .ok (.iconst 0, 1) := by decide +kernel
theorem dL_bed_2 : decode cL_bed 2 = .ok (.aload_n 0, 1) := by decide +kernel
theorem dL_bed_3 : decode cL_bed 3 = .ok (.iload_n 1, 1) := by decide +kernel
theorem dL_bed_4 : decode cL_bed 4 = .ok (.iload_n 2, 1) := by decide +kernel
theorem dL_bed_5 : decode cL_bed 5 = .ok (.invokevirtual 36, 3) := by decide +kernel
theorem dL_bed_8 : decode cL_bed 8 = .ok (.i2l, 1) := by decide +kernel
theorem dL_bed_9 : decode cL_bed 9 = .ok (.lastore, 1) := by decide +kernel
theorem dL_bed_10 : decode cL_bed 10 = .ok (.goto 11, 3) := by decide +kernel
theorem dL_bed_13 : decode cL_bed 13 = .ok (.astore 4, 2) := by decide +kernel
theorem dL_bed_15 : decode cL_bed 15 = .ok (.iconst 1, 1) := by decide +kernel
theorem dL_bed_16 : decode cL_bed 16 = .ok (.ireturn, 1) := by decide +kernel
theorem dL_bed_17 : decode cL_bed 17 = .ok (.astore 4, 2) := by decide +kernel
theorem dL_bed_19 : decode cL_bed 19 = .ok (.iconst 2, 1) := by decide +kernel
theorem dL_bed_20 : decode cL_bed 20 = .ok (.ireturn, 1) := by decide +kernel
theorem dL_bed_21 : decode cL_bed 21 = .ok (.iconst 0, 1) := by decide +kernel
theorem dL_bed_22 : decode cL_bed 22 = .ok (.ireturn, 1) := by decide +kernel
theorem dL_lies_0 : decode cL_lies 0 = .ok (.aload_n 3, 1) := by decide +kernel
theorem dL_lies_1 : decode cL_lies 1 = .ok (.iconst 0, 1) := by decide +kernel
theorem dL_lies_2 : decode cL_lies 2 = .ok (.aload_n 0, 1) := by decide +kernel
theorem dL_lies_3 : decode cL_lies 3 = .ok (.iload_n 1, 1) := by decide +kernel
theorem dL_lies_4 : decode cL_lies 4 = .ok (.iload_n 2, 1) := by decide +kernel
theorem dL_lies_5 : decode cL_lies 5 = .ok (.invokevirtual 39, 3) := by decide +kernel
theorem dL_lies_8 : decode cL_lies 8 = .ok (.i2l, 1) := by decide +kernel
theorem dL_lies_9 : decode cL_lies 9 = .ok (.lastore, 1) := by decide +kernel
theorem dL_lies_10 : decode cL_lies 10 = .ok (.goto 11, 3) := by decide +kernel
theorem dL_lies_13 : decode cL_lies 13 = .ok (.astore 4, 2) := by decide +kernel
theorem dL_lies_15 : decode cL_lies 15 = .ok (.iconst 1, 1) := by decide +kernel
theorem dL_lies_16 : decode cL_lies 16 = .ok (.ireturn, 1) := by decide +kernel
theorem dL_lies_17 : decode cL_lies 17 = .ok (.astore 4, 2) := by decide +kernel
theorem dL_lies_19 : decode cL_lies 19 = .ok (.iconst 2, 1) := by decide +kernel
theorem dL_lies_20 : decode cL_lies 20 = .ok (.ireturn, 1) := by decide +kernel
theorem dL_lies_21 : decode cL_lies 21 = .ok (.iconst 0, 1) := by decide +kernel
theorem dL_lies_22 : decode cL_lies 22 = .ok (.ireturn, 1) := by decide +kernel
theorem dL_reader_0 : decode cL_reader 0 = .ok (.aload_n 3, 1) := by decide +kernel
theorem dL_reader_1 : decode cL_reader 1 = .ok (.iconst 0, 1) := by decide +kernel
theorem dL_reader_2 : decode cL_reader 2 = .ok (.aload_n 0, 1) := by decide +kernel
theorem dL_reader_3 : decode cL_reader 3 = .ok (.iload_n 1, 1) := by decide +kernel
theorem dL_reader_4 : decode cL_reader 4 = .ok (.iload_n 2, 1) := by decide +kernel
theorem dL_reader_5 : decode cL_reader 5 = .ok (.invokevirtual 42, 3) := by decide +kernel
theorem dL_reader_8 : decode cL_reader 8 = .ok (.i2l, 1) := by decide +kernel
theorem dL_reader_9 : decode cL_reader 9 = .ok (.lastore, 1) := by decide +kernel
theorem dL_reader_10 : decode cL_reader 10 = .ok (.goto 11, 3) := by decide +kernel
theorem dL_reader_13 : decode cL_reader 13 = .ok (.astore 4, 2) := by decide +kernel
theorem dL_reader_15 : decode cL_reader 15 = .ok (.iconst 1, 1) := by decide +kernel
theorem dL_reader_16 : decode cL_reader 16 = .ok (.ireturn, 1) := by decide +kernel
theorem dL_reader_17 : decode cL_reader 17 = .ok (.astore 4, 2) := by decide +kernel
theorem dL_reader_19 : decode cL_reader 19 = .ok (.iconst 2, 1) := by decide +kernel
theorem dL_reader_20 : decode cL_reader 20 = .ok (.ireturn, 1) := by decide +kernel
theorem dL_reader_21 : decode cL_reader 21 = .ok (.iconst 0, 1) := by decide +kernel
theorem dL_reader_22 : decode cL_reader 22 = .ok (.ireturn, 1) := by decide +kernel
theorem dL_grown_0 : decode cL_grown 0 = .ok (.aload_n 2, 1) := by decide +kernel
theorem dL_grown_1 : decode cL_grown 1 = .ok (.iconst 0, 1) := by decide +kernel
theorem dL_grown_2 : decode cL_grown 2 = .ok (.aload_n 0, 1) := by decide +kernel
theorem dL_grown_3 : decode cL_grown 3 = .ok (.iload_n 1, 1) := by decide +kernel
theorem dL_grown_4 : decode cL_grown 4 = .ok (.invokevirtual 45, 3) := by decide +kernel
theorem dL_grown_7 : decode cL_grown 7 = .ok (.i2l, 1) := by decide +kernel
theorem dL_grown_8 : decode cL_grown 8 = .ok (.lastore, 1) := by decide +kernel
theorem dL_grown_9 : decode cL_grown 9 = .ok (.goto 6, 3) := by decide +kernel
theorem dL_grown_12 : decode cL_grown 12 = .ok (.astore_n 3, 1) := by decide +kernel
theorem dL_grown_13 : decode cL_grown 13 = .ok (.iconst 1, 1) := by decide +kernel
theorem dL_grown_14 : decode cL_grown 14 = .ok (.ireturn, 1) := by decide +kernel
theorem dL_grown_15 : decode cL_grown 15 = .ok (.iconst 0, 1) := by decide +kernel
theorem dL_grown_16 : decode cL_grown 16 = .ok (.ireturn, 1) := by decide +kernel
theorem dL_runs_0 : decode cL_runs 0 = .ok (.aload_n 3, 1) := by decide +kernel
theorem dL_runs_1 : decode cL_runs 1 = .ok (.iconst 0, 1) := by decide +kernel
theorem dL_runs_2 : decode cL_runs 2 = .ok (.aload_n 0, 1) := by decide +kernel
theorem dL_runs_3 : decode cL_runs 3 = .ok (.iload_n 1, 1) := by decide +kernel
theorem dL_runs_4 : decode cL_runs 4 = .ok (.iload_n 2, 1) := by decide +kernel
theorem dL_runs_5 : decode cL_runs 5 = .ok (.invokevirtual 48, 3) := by decide +kernel
theorem dL_runs_8 : decode cL_runs 8 = .ok (.i2l, 1) := by decide +kernel
theorem dL_runs_9 : decode cL_runs 9 = .ok (.lastore, 1) := by decide +kernel
theorem dL_runs_10 : decode cL_runs 10 = .ok (.goto 11, 3) := by decide +kernel
theorem dL_runs_13 : decode cL_runs 13 = .ok (.astore 4, 2) := by decide +kernel
theorem dL_runs_15 : decode cL_runs 15 = .ok (.iconst 1, 1) := by decide +kernel
theorem dL_runs_16 : decode cL_runs 16 = .ok (.ireturn, 1) := by decide +kernel
theorem dL_runs_17 : decode cL_runs 17 = .ok (.astore 4, 2) := by decide +kernel
theorem dL_runs_19 : decode cL_runs 19 = .ok (.iconst 2, 1) := by decide +kernel
theorem dL_runs_20 : decode cL_runs 20 = .ok (.ireturn, 1) := by decide +kernel
theorem dL_runs_21 : decode cL_runs 21 = .ok (.iconst 0, 1) := by decide +kernel
theorem dL_runs_22 : decode cL_runs 22 = .ok (.ireturn, 1) := by decide +kernel
theorem dL_would_0 : decode cL_would 0 = .ok (.aload 8, 2) := by decide +kernel
theorem dL_would_2 : decode cL_would 2 = .ok (.iconst 0, 1) := by decide +kernel
theorem dL_would_3 : decode cL_would 3 = .ok (.aload_n 0, 1) := by decide +kernel
theorem dL_would_4 : decode cL_would 4 = .ok (.iload_n 1, 1) := by decide +kernel
theorem dL_would_5 : decode cL_would 5 = .ok (.iload_n 2, 1) := by decide +kernel
theorem dL_would_6 : decode cL_would 6 = .ok (.iload_n 3, 1) := by decide +kernel
theorem dL_would_7 : decode cL_would 7 = .ok (.iload 4, 2) := by decide +kernel
theorem dL_would_9 : decode cL_would 9 = .ok (.iload 5, 2) := by decide +kernel
theorem dL_would_11 : decode cL_would 11 = .ok (.iload 6, 2) := by decide +kernel
theorem dL_would_13 : decode cL_would 13 = .ok (.iload 7, 2) := by decide +kernel
theorem dL_would_15 : decode cL_would 15 = .ok (.invokevirtual 51, 3) := by decide +kernel
theorem dL_would_18 : decode cL_would 18 = .ok (.i2l, 1) := by decide +kernel
theorem dL_would_19 : decode cL_would 19 = .ok (.lastore, 1) := by decide +kernel
theorem dL_would_20 : decode cL_would 20 = .ok (.goto 7, 3) := by decide +kernel
theorem dL_would_23 : decode cL_would 23 = .ok (.astore 9, 2) := by decide +kernel
theorem dL_would_25 : decode cL_would 25 = .ok (.iconst 1, 1) := by decide +kernel
theorem dL_would_26 : decode cL_would 26 = .ok (.ireturn, 1) := by decide +kernel
theorem dL_would_27 : decode cL_would 27 = .ok (.iconst 0, 1) := by decide +kernel
theorem dL_would_28 : decode cL_would 28 = .ok (.ireturn, 1) := by decide +kernel
theorem dL_ahead_0 : decode cL_ahead 0 = .ok (.aload_n 3, 1) := by decide +kernel
theorem dL_ahead_1 : decode cL_ahead 1 = .ok (.iconst 0, 1) := by decide +kernel
theorem dL_ahead_2 : decode cL_ahead 2 = .ok (.aload_n 0, 1) := by decide +kernel
theorem dL_ahead_3 : decode cL_ahead 3 = .ok (.iload_n 1, 1) := by decide +kernel
theorem dL_ahead_4 : decode cL_ahead 4 = .ok (.iload_n 2, 1) := by decide +kernel
theorem dL_ahead_5 : decode cL_ahead 5 = .ok (.invokevirtual 55, 3) := by decide +kernel
theorem dL_ahead_8 : decode cL_ahead 8 = .ok (.i2l, 1) := by decide +kernel
theorem dL_ahead_9 : decode cL_ahead 9 = .ok (.lastore, 1) := by decide +kernel
theorem dL_ahead_10 : decode cL_ahead 10 = .ok (.goto 7, 3) := by decide +kernel
theorem dL_ahead_13 : decode cL_ahead 13 = .ok (.astore 4, 2) := by decide +kernel
theorem dL_ahead_15 : decode cL_ahead 15 = .ok (.iconst 1, 1) := by decide +kernel
theorem dL_ahead_16 : decode cL_ahead 16 = .ok (.ireturn, 1) := by decide +kernel
theorem dL_ahead_17 : decode cL_ahead 17 = .ok (.iconst 0, 1) := by decide +kernel
theorem dL_ahead_18 : decode cL_ahead 18 = .ok (.ireturn, 1) := by decide +kernel
theorem dL_rains_0 : decode cL_rains 0 = .ok (.aload 4, 2) := by decide +kernel
theorem dL_rains_2 : decode cL_rains 2 = .ok (.iconst 0, 1) := by decide +kernel
theorem dL_rains_3 : decode cL_rains 3 = .ok (.aload_n 0, 1) := by decide +kernel
theorem dL_rains_4 : decode cL_rains 4 = .ok (.iload_n 1, 1) := by decide +kernel
theorem dL_rains_5 : decode cL_rains 5 = .ok (.iload_n 2, 1) := by decide +kernel
theorem dL_rains_6 : decode cL_rains 6 = .ok (.iload_n 3, 1) := by decide +kernel
theorem dL_rains_7 : decode cL_rains 7 = .ok (.invokevirtual 58, 3) := by decide +kernel
theorem dL_rains_10 : decode cL_rains 10 = .ok (.i2l, 1) := by decide +kernel
theorem dL_rains_11 : decode cL_rains 11 = .ok (.lastore, 1) := by decide +kernel
theorem dL_rains_12 : decode cL_rains 12 = .ok (.goto 11, 3) := by decide +kernel
theorem dL_rains_15 : decode cL_rains 15 = .ok (.astore 5, 2) := by decide +kernel
theorem dL_rains_17 : decode cL_rains 17 = .ok (.iconst 1, 1) := by decide +kernel
theorem dL_rains_18 : decode cL_rains 18 = .ok (.ireturn, 1) := by decide +kernel
theorem dL_rains_19 : decode cL_rains 19 = .ok (.astore 5, 2) := by decide +kernel
theorem dL_rains_21 : decode cL_rains 21 = .ok (.iconst 2, 1) := by decide +kernel
theorem dL_rains_22 : decode cL_rains 22 = .ok (.ireturn, 1) := by decide +kernel
theorem dL_rains_23 : decode cL_rains 23 = .ok (.iconst 0, 1) := by decide +kernel
theorem dL_rains_24 : decode cL_rains 24 = .ok (.ireturn, 1) := by decide +kernel
theorem dL_stuffed_0 : decode cL_stuffed 0 = .ok (.aload_n 2, 1) := by decide +kernel
theorem dL_stuffed_1 : decode cL_stuffed 1 = .ok (.iconst 0, 1) := by decide +kernel
theorem dL_stuffed_2 : decode cL_stuffed 2 = .ok (.aload_n 0, 1) := by decide +kernel
theorem dL_stuffed_3 : decode cL_stuffed 3 = .ok (.iload_n 1, 1) := by decide +kernel
theorem dL_stuffed_4 : decode cL_stuffed 4 = .ok (.invokevirtual 62, 3) := by decide +kernel
theorem dL_stuffed_7 : decode cL_stuffed 7 = .ok (.i2l, 1) := by decide +kernel
theorem dL_stuffed_8 : decode cL_stuffed 8 = .ok (.lastore, 1) := by decide +kernel
theorem dL_stuffed_9 : decode cL_stuffed 9 = .ok (.goto 6, 3) := by decide +kernel
theorem dL_stuffed_12 : decode cL_stuffed 12 = .ok (.astore_n 3, 1) := by decide +kernel
theorem dL_stuffed_13 : decode cL_stuffed 13 = .ok (.iconst 1, 1) := by decide +kernel
theorem dL_stuffed_14 : decode cL_stuffed 14 = .ok (.ireturn, 1) := by decide +kernel
theorem dL_stuffed_15 : decode cL_stuffed 15 = .ok (.iconst 0, 1) := by decide +kernel
theorem dL_stuffed_16 : decode cL_stuffed 16 = .ok (.ireturn, 1) := by decide +kernel
theorem dL_all_0 : decode cL_all 0 = .ok (.aload_n 2, 1) := by decide +kernel
theorem dL_all_1 : decode cL_all 1 = .ok (.iconst 0, 1) := by decide +kernel
theorem dL_all_2 : decode cL_all 2 = .ok (.aload_n 0, 1) := by decide +kernel
theorem dL_all_3 : decode cL_all 3 = .ok (.iload_n 1, 1) := by decide +kernel
theorem dL_all_4 : decode cL_all 4 = .ok (.invokevirtual 65, 3) := by decide +kernel
theorem dL_all_7 : decode cL_all 7 = .ok (.i2l, 1) := by decide +kernel
theorem dL_all_8 : decode cL_all 8 = .ok (.lastore, 1) := by decide +kernel
theorem dL_all_9 : decode cL_all 9 = .ok (.goto 6, 3) := by decide +kernel
theorem dL_all_12 : decode cL_all 12 = .ok (.astore_n 3, 1) := by decide +kernel
theorem dL_all_13 : decode cL_all 13 = .ok (.iconst 1, 1) := by decide +kernel
theorem dL_all_14 : decode cL_all 14 = .ok (.ireturn, 1) := by decide +kernel
theorem dL_all_15 : decode cL_all 15 = .ok (.iconst 0, 1) := by decide +kernel
theorem dL_all_16 : decode cL_all 16 = .ok (.ireturn, 1) := by decide +kernel
theorem dL_tour_0 : decode cL_tour 0 = .ok (.aload_n 2, 1) := by decide +kernel
theorem dL_tour_1 : decode cL_tour 1 = .ok (.iconst 0, 1) := by decide +kernel
theorem dL_tour_2 : decode cL_tour 2 = .ok (.aload_n 0, 1) := by decide +kernel
theorem dL_tour_3 : decode cL_tour 3 = .ok (.iload_n 1, 1) := by decide +kernel
theorem dL_tour_4 : decode cL_tour 4 = .ok (.invokevirtual 68, 3) := by decide +kernel
theorem dL_tour_7 : decode cL_tour 7 = .ok (.i2l, 1) := by decide +kernel
theorem dL_tour_8 : decode cL_tour 8 = .ok (.lastore, 1) := by decide +kernel
theorem dL_tour_9 : decode cL_tour 9 = .ok (.goto 6, 3) := by decide +kernel
theorem dL_tour_12 : decode cL_tour 12 = .ok (.astore_n 3, 1) := by decide +kernel
theorem dL_tour_13 : decode cL_tour 13 = .ok (.iconst 1, 1) := by decide +kernel
theorem dL_tour_14 : decode cL_tour 14 = .ok (.ireturn, 1) := by decide +kernel
theorem dL_tour_15 : decode cL_tour 15 = .ok (.iconst 0, 1) := by decide +kernel
theorem dL_tour_16 : decode cL_tour 16 = .ok (.ireturn, 1) := by decide +kernel
theorem dL_fits_0 : decode cL_fits 0 = .ok (.aload_n 2, 1) := by decide +kernel
theorem dL_fits_1 : decode cL_fits 1 = .ok (.iconst 0, 1) := by decide +kernel
theorem dL_fits_2 : decode cL_fits 2 = .ok (.aload_n 0, 1) := by decide +kernel
theorem dL_fits_3 : decode cL_fits 3 = .ok (.iload_n 1, 1) := by decide +kernel
theorem dL_fits_4 : decode cL_fits 4 = .ok (.invokevirtual 71, 3) := by decide +kernel
theorem dL_fits_7 : decode cL_fits 7 = .ok (.i2l, 1) := by decide +kernel
theorem dL_fits_8 : decode cL_fits 8 = .ok (.lastore, 1) := by decide +kernel
theorem dL_fits_9 : decode cL_fits 9 = .ok (.goto 6, 3) := by decide +kernel
theorem dL_fits_12 : decode cL_fits 12 = .ok (.astore_n 3, 1) := by decide +kernel
theorem dL_fits_13 : decode cL_fits 13 = .ok (.iconst 1, 1) := by decide +kernel
theorem dL_fits_14 : decode cL_fits 14 = .ok (.ireturn, 1) := by decide +kernel
theorem dL_fits_15 : decode cL_fits 15 = .ok (.iconst 0, 1) := by decide +kernel
theorem dL_fits_16 : decode cL_fits 16 = .ok (.ireturn, 1) := by decide +kernel
theorem dL_look_0 : decode cL_look 0 = .ok (.aload_n 2, 1) := by decide +kernel
theorem dL_look_1 : decode cL_look 1 = .ok (.iconst 0, 1) := by decide +kernel
theorem dL_look_2 : decode cL_look 2 = .ok (.aload_n 0, 1) := by decide +kernel
theorem dL_look_3 : decode cL_look 3 = .ok (.iload_n 1, 1) := by decide +kernel
theorem dL_look_4 : decode cL_look 4 = .ok (.invokevirtual 74, 3) := by decide +kernel
theorem dL_look_7 : decode cL_look 7 = .ok (.i2l, 1) := by decide +kernel
theorem dL_look_8 : decode cL_look 8 = .ok (.lastore, 1) := by decide +kernel
theorem dL_look_9 : decode cL_look 9 = .ok (.goto 6, 3) := by decide +kernel
theorem dL_look_12 : decode cL_look 12 = .ok (.astore_n 3, 1) := by decide +kernel
theorem dL_look_13 : decode cL_look 13 = .ok (.iconst 1, 1) := by decide +kernel
theorem dL_look_14 : decode cL_look 14 = .ok (.ireturn, 1) := by decide +kernel
theorem dL_look_15 : decode cL_look 15 = .ok (.iconst 0, 1) := by decide +kernel
theorem dL_look_16 : decode cL_look 16 = .ok (.ireturn, 1) := by decide +kernel
theorem dL_pods_0 : decode cL_pods 0 = .ok (.aload 5, 2) := by decide +kernel
theorem dL_pods_2 : decode cL_pods 2 = .ok (.iconst 0, 1) := by decide +kernel
theorem dL_pods_3 : decode cL_pods 3 = .ok (.aload_n 0, 1) := by decide +kernel
theorem dL_pods_4 : decode cL_pods 4 = .ok (.iload_n 1, 1) := by decide +kernel
theorem dL_pods_5 : decode cL_pods 5 = .ok (.iload_n 2, 1) := by decide +kernel
theorem dL_pods_6 : decode cL_pods 6 = .ok (.iload_n 3, 1) := by decide +kernel
theorem dL_pods_7 : decode cL_pods 7 = .ok (.iload 4, 2) := by decide +kernel
theorem dL_pods_9 : decode cL_pods 9 = .ok (.invokevirtual 77, 3) := by decide +kernel
theorem dL_pods_12 : decode cL_pods 12 = .ok (.lastore, 1) := by decide +kernel
theorem dL_pods_13 : decode cL_pods 13 = .ok (.goto 7, 3) := by decide +kernel
theorem dL_pods_16 : decode cL_pods 16 = .ok (.astore 6, 2) := by decide +kernel
theorem dL_pods_18 : decode cL_pods 18 = .ok (.iconst 1, 1) := by decide +kernel
theorem dL_pods_19 : decode cL_pods 19 = .ok (.ireturn, 1) := by decide +kernel
theorem dL_pods_20 : decode cL_pods 20 = .ok (.iconst 0, 1) := by decide +kernel
theorem dL_pods_21 : decode cL_pods 21 = .ok (.ireturn, 1) := by decide +kernel
theorem dL_she_0 : decode cL_she 0 = .ok (.aload 4, 2) := by decide +kernel
theorem dL_she_2 : decode cL_she 2 = .ok (.iconst 0, 1) := by decide +kernel
theorem dL_she_3 : decode cL_she 3 = .ok (.aload_n 0, 1) := by decide +kernel
theorem dL_she_4 : decode cL_she 4 = .ok (.iload_n 1, 1) := by decide +kernel
theorem dL_she_5 : decode cL_she 5 = .ok (.iload_n 2, 1) := by decide +kernel
theorem dL_she_6 : decode cL_she 6 = .ok (.iload_n 3, 1) := by decide +kernel
theorem dL_she_7 : decode cL_she 7 = .ok (.invokevirtual 81, 3) := by decide +kernel
theorem dL_she_10 : decode cL_she 10 = .ok (.i2l, 1) := by decide +kernel
theorem dL_she_11 : decode cL_she 11 = .ok (.lastore, 1) := by decide +kernel
theorem dL_she_12 : decode cL_she 12 = .ok (.goto 7, 3) := by decide +kernel
theorem dL_she_15 : decode cL_she 15 = .ok (.astore 5, 2) := by decide +kernel
theorem dL_she_17 : decode cL_she 17 = .ok (.iconst 1, 1) := by decide +kernel
theorem dL_she_18 : decode cL_she 18 = .ok (.ireturn, 1) := by decide +kernel
theorem dL_she_19 : decode cL_she 19 = .ok (.iconst 0, 1) := by decide +kernel
theorem dL_she_20 : decode cL_she 20 = .ok (.ireturn, 1) := by decide +kernel
theorem dL_seed_0 : decode cL_seed 0 = .ok (.aload 4, 2) := by decide +kernel
theorem dL_seed_2 : decode cL_seed 2 = .ok (.iconst 0, 1) := by decide +kernel
theorem dL_seed_3 : decode cL_seed 3 = .ok (.aload_n 0, 1) := by decide +kernel
theorem dL_seed_4 : decode cL_seed 4 = .ok (.iload_n 1, 1) := by decide +kernel
theorem dL_seed_5 : decode cL_seed 5 = .ok (.iload_n 2, 1) := by decide +kernel
theorem dL_seed_6 : decode cL_seed 6 = .ok (.iload_n 3, 1) := by decide +kernel
theorem dL_seed_7 : decode cL_seed 7 = .ok (.invokevirtual 84, 3) := by decide +kernel
theorem dL_seed_10 : decode cL_seed 10 = .ok (.i2l, 1) := by decide +kernel
theorem dL_seed_11 : decode cL_seed 11 = .ok (.lastore, 1) := by decide +kernel
theorem dL_seed_12 : decode cL_seed 12 = .ok (.goto 11, 3) := by decide +kernel
theorem dL_seed_15 : decode cL_seed 15 = .ok (.astore 5, 2) := by decide +kernel
theorem dL_seed_17 : decode cL_seed 17 = .ok (.iconst 1, 1) := by decide +kernel
theorem dL_seed_18 : decode cL_seed 18 = .ok (.ireturn, 1) := by decide +kernel
theorem dL_seed_19 : decode cL_seed 19 = .ok (.astore 5, 2) := by decide +kernel
theorem dL_seed_21 : decode cL_seed 21 = .ok (.iconst 2, 1) := by decide +kernel
theorem dL_seed_22 : decode cL_seed 22 = .ok (.ireturn, 1) := by decide +kernel
theorem dL_seed_23 : decode cL_seed 23 = .ok (.iconst 0, 1) := by decide +kernel
theorem dL_seed_24 : decode cL_seed 24 = .ok (.ireturn, 1) := by decide +kernel
theorem dL_often_0 : decode cL_often 0 = .ok (.aload_n 2, 1) := by decide +kernel
theorem dL_often_1 : decode cL_often 1 = .ok (.iconst 0, 1) := by decide +kernel
theorem dL_often_2 : decode cL_often 2 = .ok (.aload_n 0, 1) := by decide +kernel
theorem dL_often_3 : decode cL_often 3 = .ok (.iload_n 1, 1) := by decide +kernel
theorem dL_often_4 : decode cL_often 4 = .ok (.invokevirtual 87, 3) := by decide +kernel
theorem dL_often_7 : decode cL_often 7 = .ok (.i2l, 1) := by decide +kernel
theorem dL_often_8 : decode cL_often 8 = .ok (.lastore, 1) := by decide +kernel
theorem dL_often_9 : decode cL_often 9 = .ok (.goto 6, 3) := by decide +kernel
theorem dL_often_12 : decode cL_often 12 = .ok (.astore_n 3, 1) := by decide +kernel
theorem dL_often_13 : decode cL_often 13 = .ok (.iconst 1, 1) := by decide +kernel
theorem dL_often_14 : decode cL_often 14 = .ok (.ireturn, 1) := by decide +kernel
theorem dL_often_15 : decode cL_often 15 = .ok (.iconst 0, 1) := by decide +kernel
theorem dL_often_16 : decode cL_often 16 = .ok (.ireturn, 1) := by decide +kernel
theorem dL_hearers_0 : decode cL_hearers 0 = .ok (.aload_n 2, 1) := by decide +kernel
theorem dL_hearers_1 : decode cL_hearers 1 = .ok (.iconst 0, 1) := by decide +kernel
theorem dL_hearers_2 : decode cL_hearers 2 = .ok (.aload_n 0, 1) := by decide +kernel
theorem dL_hearers_3 : decode cL_hearers 3 = .ok (.iload_n 1, 1) := by decide +kernel
theorem dL_hearers_4 : decode cL_hearers 4 = .ok (.invokevirtual 90, 3) := by decide +kernel
theorem dL_hearers_7 : decode cL_hearers 7 = .ok (.i2l, 1) := by decide +kernel
theorem dL_hearers_8 : decode cL_hearers 8 = .ok (.lastore, 1) := by decide +kernel
theorem dL_hearers_9 : decode cL_hearers 9 = .ok (.goto 6, 3) := by decide +kernel
theorem dL_hearers_12 : decode cL_hearers 12 = .ok (.astore_n 3, 1) := by decide +kernel
theorem dL_hearers_13 : decode cL_hearers 13 = .ok (.iconst 1, 1) := by decide +kernel
theorem dL_hearers_14 : decode cL_hearers 14 = .ok (.ireturn, 1) := by decide +kernel
theorem dL_hearers_15 : decode cL_hearers 15 = .ok (.iconst 0, 1) := by decide +kernel
theorem dL_hearers_16 : decode cL_hearers 16 = .ok (.ireturn, 1) := by decide +kernel
theorem dL_news_0 : decode cL_news 0 = .ok (.aload_n 3, 1) := by decide +kernel
theorem dL_news_1 : decode cL_news 1 = .ok (.iconst 0, 1) := by decide +kernel
theorem dL_news_2 : decode cL_news 2 = .ok (.aload_n 0, 1) := by decide +kernel
theorem dL_news_3 : decode cL_news 3 = .ok (.iload_n 1, 1) := by decide +kernel
theorem dL_news_4 : decode cL_news 4 = .ok (.iload_n 2, 1) := by decide +kernel
theorem dL_news_5 : decode cL_news 5 = .ok (.invokevirtual 93, 3) := by decide +kernel
theorem dL_news_8 : decode cL_news 8 = .ok (.i2l, 1) := by decide +kernel
theorem dL_news_9 : decode cL_news 9 = .ok (.lastore, 1) := by decide +kernel
theorem dL_news_10 : decode cL_news 10 = .ok (.goto 11, 3) := by decide +kernel
theorem dL_news_13 : decode cL_news 13 = .ok (.astore 4, 2) := by decide +kernel
theorem dL_news_15 : decode cL_news 15 = .ok (.iconst 1, 1) := by decide +kernel
theorem dL_news_16 : decode cL_news 16 = .ok (.ireturn, 1) := by decide +kernel
theorem dL_news_17 : decode cL_news 17 = .ok (.astore 4, 2) := by decide +kernel
theorem dL_news_19 : decode cL_news 19 = .ok (.iconst 2, 1) := by decide +kernel
theorem dL_news_20 : decode cL_news 20 = .ok (.ireturn, 1) := by decide +kernel
theorem dL_news_21 : decode cL_news 21 = .ok (.iconst 0, 1) := by decide +kernel
theorem dL_news_22 : decode cL_news 22 = .ok (.ireturn, 1) := by decide +kernel
theorem dL_full_0 : decode cL_full 0 = .ok (.aload_n 2, 1) := by decide +kernel
theorem dL_full_1 : decode cL_full 1 = .ok (.iconst 0, 1) := by decide +kernel
theorem dL_full_2 : decode cL_full 2 = .ok (.aload_n 0, 1) := by decide +kernel
theorem dL_full_3 : decode cL_full 3 = .ok (.iload_n 1, 1) := by decide +kernel
theorem dL_full_4 : decode cL_full 4 = .ok (.invokevirtual 96, 3) := by decide +kernel
theorem dL_full_7 : decode cL_full 7 = .ok (.i2l, 1) := by decide +kernel
theorem dL_full_8 : decode cL_full 8 = .ok (.lastore, 1) := by decide +kernel
theorem dL_full_9 : decode cL_full 9 = .ok (.goto 6, 3) := by decide +kernel
theorem dL_full_12 : decode cL_full 12 = .ok (.astore_n 3, 1) := by decide +kernel
theorem dL_full_13 : decode cL_full 13 = .ok (.iconst 1, 1) := by decide +kernel
theorem dL_full_14 : decode cL_full 14 = .ok (.ireturn, 1) := by decide +kernel
theorem dL_full_15 : decode cL_full 15 = .ok (.iconst 0, 1) := by decide +kernel
theorem dL_full_16 : decode cL_full 16 = .ok (.ireturn, 1) := by decide +kernel
theorem dL_drains_0 : decode cL_drains 0 = .ok (.aload_n 2, 1) := by decide +kernel
theorem dL_drains_1 : decode cL_drains 1 = .ok (.iconst 0, 1) := by decide +kernel
theorem dL_drains_2 : decode cL_drains 2 = .ok (.aload_n 0, 1) := by decide +kernel
theorem dL_drains_3 : decode cL_drains 3 = .ok (.iload_n 1, 1) := by decide +kernel
theorem dL_drains_4 : decode cL_drains 4 = .ok (.invokevirtual 99, 3) := by decide +kernel
theorem dL_drains_7 : decode cL_drains 7 = .ok (.i2l, 1) := by decide +kernel
theorem dL_drains_8 : decode cL_drains 8 = .ok (.lastore, 1) := by decide +kernel
theorem dL_drains_9 : decode cL_drains 9 = .ok (.goto 6, 3) := by decide +kernel
theorem dL_drains_12 : decode cL_drains 12 = .ok (.astore_n 3, 1) := by decide +kernel
theorem dL_drains_13 : decode cL_drains 13 = .ok (.iconst 1, 1) := by decide +kernel
theorem dL_drains_14 : decode cL_drains 14 = .ok (.ireturn, 1) := by decide +kernel
theorem dL_drains_15 : decode cL_drains 15 = .ok (.iconst 0, 1) := by decide +kernel
theorem dL_drains_16 : decode cL_drains 16 = .ok (.ireturn, 1) := by decide +kernel
theorem dL_unread_0 : decode cL_unread 0 = .ok (.aload_n 2, 1) := by decide +kernel
theorem dL_unread_1 : decode cL_unread 1 = .ok (.iconst 0, 1) := by decide +kernel
theorem dL_unread_2 : decode cL_unread 2 = .ok (.aload_n 0, 1) := by decide +kernel
theorem dL_unread_3 : decode cL_unread 3 = .ok (.iload_n 1, 1) := by decide +kernel
theorem dL_unread_4 : decode cL_unread 4 = .ok (.invokevirtual 102, 3) := by decide +kernel
theorem dL_unread_7 : decode cL_unread 7 = .ok (.i2l, 1) := by decide +kernel
theorem dL_unread_8 : decode cL_unread 8 = .ok (.lastore, 1) := by decide +kernel
theorem dL_unread_9 : decode cL_unread 9 = .ok (.goto 6, 3) := by decide +kernel
theorem dL_unread_12 : decode cL_unread 12 = .ok (.astore_n 3, 1) := by decide +kernel
theorem dL_unread_13 : decode cL_unread 13 = .ok (.iconst 1, 1) := by decide +kernel
theorem dL_unread_14 : decode cL_unread 14 = .ok (.ireturn, 1) := by decide +kernel
theorem dL_unread_15 : decode cL_unread 15 = .ok (.iconst 0, 1) := by decide +kernel
theorem dL_unread_16 : decode cL_unread 16 = .ok (.ireturn, 1) := by decide +kernel
theorem dL_coming_0 : decode cL_coming 0 = .ok (.aload_n 3, 1) := by decide +kernel
theorem dL_coming_1 : decode cL_coming 1 = .ok (.iconst 0, 1) := by decide +kernel
theorem dL_coming_2 : decode cL_coming 2 = .ok (.aload_n 0, 1) := by decide +kernel
theorem dL_coming_3 : decode cL_coming 3 = .ok (.iload_n 1, 1) := by decide +kernel
theorem dL_coming_4 : decode cL_coming 4 = .ok (.iload_n 2, 1) := by decide +kernel
theorem dL_coming_5 : decode cL_coming 5 = .ok (.invokevirtual 105, 3) := by decide +kernel
theorem dL_coming_8 : decode cL_coming 8 = .ok (.i2l, 1) := by decide +kernel
theorem dL_coming_9 : decode cL_coming 9 = .ok (.lastore, 1) := by decide +kernel
theorem dL_coming_10 : decode cL_coming 10 = .ok (.goto 11, 3) := by decide +kernel
theorem dL_coming_13 : decode cL_coming 13 = .ok (.astore 4, 2) := by decide +kernel
theorem dL_coming_15 : decode cL_coming 15 = .ok (.iconst 1, 1) := by decide +kernel
theorem dL_coming_16 : decode cL_coming 16 = .ok (.ireturn, 1) := by decide +kernel
theorem dL_coming_17 : decode cL_coming 17 = .ok (.astore 4, 2) := by decide +kernel
theorem dL_coming_19 : decode cL_coming 19 = .ok (.iconst 2, 1) := by decide +kernel
theorem dL_coming_20 : decode cL_coming 20 = .ok (.ireturn, 1) := by decide +kernel
theorem dL_coming_21 : decode cL_coming 21 = .ok (.iconst 0, 1) := by decide +kernel
theorem dL_coming_22 : decode cL_coming 22 = .ok (.ireturn, 1) := by decide +kernel
theorem dL_shared_0 : decode cL_shared 0 = .ok (.aload_n 3, 1) := by decide +kernel
theorem dL_shared_1 : decode cL_shared 1 = .ok (.iconst 0, 1) := by decide +kernel
theorem dL_shared_2 : decode cL_shared 2 = .ok (.aload_n 0, 1) := by decide +kernel
theorem dL_shared_3 : decode cL_shared 3 = .ok (.iload_n 1, 1) := by decide +kernel
theorem dL_shared_4 : decode cL_shared 4 = .ok (.iload_n 2, 1) := by decide +kernel
theorem dL_shared_5 : decode cL_shared 5 = .ok (.invokevirtual 108, 3) := by decide +kernel
theorem dL_shared_8 : decode cL_shared 8 = .ok (.i2l, 1) := by decide +kernel
theorem dL_shared_9 : decode cL_shared 9 = .ok (.lastore, 1) := by decide +kernel
theorem dL_shared_10 : decode cL_shared 10 = .ok (.goto 7, 3) := by decide +kernel
theorem dL_shared_13 : decode cL_shared 13 = .ok (.astore 4, 2) := by decide +kernel
theorem dL_shared_15 : decode cL_shared 15 = .ok (.iconst 1, 1) := by decide +kernel
theorem dL_shared_16 : decode cL_shared 16 = .ok (.ireturn, 1) := by decide +kernel
theorem dL_shared_17 : decode cL_shared 17 = .ok (.iconst 0, 1) := by decide +kernel
theorem dL_shared_18 : decode cL_shared 18 = .ok (.ireturn, 1) := by decide +kernel
theorem dL_summer_0 : decode cL_summer 0 = .ok (.aload 5, 2) := by decide +kernel
theorem dL_summer_2 : decode cL_summer 2 = .ok (.iconst 0, 1) := by decide +kernel
theorem dL_summer_3 : decode cL_summer 3 = .ok (.aload_n 0, 1) := by decide +kernel
theorem dL_summer_4 : decode cL_summer 4 = .ok (.iload_n 1, 1) := by decide +kernel
theorem dL_summer_5 : decode cL_summer 5 = .ok (.iload_n 2, 1) := by decide +kernel
theorem dL_summer_6 : decode cL_summer 6 = .ok (.iload_n 3, 1) := by decide +kernel
theorem dL_summer_7 : decode cL_summer 7 = .ok (.iload 4, 2) := by decide +kernel
theorem dL_summer_9 : decode cL_summer 9 = .ok (.invokevirtual 111, 3) := by decide +kernel
theorem dL_summer_12 : decode cL_summer 12 = .ok (.i2l, 1) := by decide +kernel
theorem dL_summer_13 : decode cL_summer 13 = .ok (.lastore, 1) := by decide +kernel
theorem dL_summer_14 : decode cL_summer 14 = .ok (.goto 7, 3) := by decide +kernel
theorem dL_summer_17 : decode cL_summer 17 = .ok (.astore 6, 2) := by decide +kernel
theorem dL_summer_19 : decode cL_summer 19 = .ok (.iconst 1, 1) := by decide +kernel
theorem dL_summer_20 : decode cL_summer 20 = .ok (.ireturn, 1) := by decide +kernel
theorem dL_summer_21 : decode cL_summer 21 = .ok (.iconst 0, 1) := by decide +kernel
theorem dL_summer_22 : decode cL_summer 22 = .ok (.ireturn, 1) := by decide +kernel
theorem dL_span_0 : decode cL_span 0 = .ok (.aload 7, 2) := by decide +kernel
theorem dL_span_2 : decode cL_span 2 = .ok (.iconst 0, 1) := by decide +kernel
theorem dL_span_3 : decode cL_span 3 = .ok (.aload_n 0, 1) := by decide +kernel
theorem dL_span_4 : decode cL_span 4 = .ok (.iload_n 1, 1) := by decide +kernel
theorem dL_span_5 : decode cL_span 5 = .ok (.iload_n 2, 1) := by decide +kernel
theorem dL_span_6 : decode cL_span 6 = .ok (.iload_n 3, 1) := by decide +kernel
theorem dL_span_7 : decode cL_span 7 = .ok (.iload 4, 2) := by decide +kernel
theorem dL_span_9 : decode cL_span 9 = .ok (.iload 5, 2) := by decide +kernel
theorem dL_span_11 : decode cL_span 11 = .ok (.iload 6, 2) := by decide +kernel
theorem dL_span_13 : decode cL_span 13 = .ok (.invokevirtual 115, 3) := by decide +kernel
theorem dL_span_16 : decode cL_span 16 = .ok (.i2l, 1) := by decide +kernel
theorem dL_span_17 : decode cL_span 17 = .ok (.lastore, 1) := by decide +kernel
theorem dL_span_18 : decode cL_span 18 = .ok (.goto 7, 3) := by decide +kernel
theorem dL_span_21 : decode cL_span 21 = .ok (.astore 8, 2) := by decide +kernel
theorem dL_span_23 : decode cL_span 23 = .ok (.iconst 1, 1) := by decide +kernel
theorem dL_span_24 : decode cL_span 24 = .ok (.ireturn, 1) := by decide +kernel
theorem dL_span_25 : decode cL_span 25 = .ok (.iconst 0, 1) := by decide +kernel
theorem dL_span_26 : decode cL_span 26 = .ok (.ireturn, 1) := by decide +kernel
