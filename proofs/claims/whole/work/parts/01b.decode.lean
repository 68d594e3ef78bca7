theorem dJ6_bitCount_0f7a4_0 : decode cJ6_bitCount_0f7a4 0 = .ok (.iload_n 0, 1) := by decide +kernel
theorem dJ6_bitCount_0f7a4_1 : decode cJ6_bitCount_0f7a4 1 = .ok (.iload_n 0, 1) := by decide +kernel
theorem dJ6_bitCount_0f7a4_2 : decode cJ6_bitCount_0f7a4 2 = .ok (.iconst 1, 1) := by decide +kernel
theorem dJ6_bitCount_0f7a4_3 : decode cJ6_bitCount_0f7a4 3 = .ok (.iushr, 1) := by decide +kernel
theorem dJ6_bitCount_0f7a4_4 : decode cJ6_bitCount_0f7a4 4 = .ok (.ldc_w 265, 3) := by decide +kernel
theorem dJ6_bitCount_0f7a4_7 : decode cJ6_bitCount_0f7a4 7 = .ok (.iand, 1) := by decide +kernel
theorem dJ6_bitCount_0f7a4_8 : decode cJ6_bitCount_0f7a4 8 = .ok (.isub, 1) := by decide +kernel
theorem dJ6_bitCount_0f7a4_9 : decode cJ6_bitCount_0f7a4 9 = .ok (.istore_n 0, 1) := by decide +kernel
theorem dJ6_bitCount_0f7a4_10 : decode cJ6_bitCount_0f7a4 10 = .ok (.iload_n 0, 1) := by decide +kernel
theorem dJ6_bitCount_0f7a4_11 : decode cJ6_bitCount_0f7a4 11 = .ok (.ldc_w 266, 3) := by decide +kernel
theorem dJ6_bitCount_0f7a4_14 : decode cJ6_bitCount_0f7a4 14 = .ok (.iand, 1) := by decide +kernel
theorem dJ6_bitCount_0f7a4_15 : decode cJ6_bitCount_0f7a4 15 = .ok (.iload_n 0, 1) := by decide +kernel
theorem dJ6_bitCount_0f7a4_16 : decode cJ6_bitCount_0f7a4 16 = .ok (.iconst 2, 1) := by decide +kernel
theorem dJ6_bitCount_0f7a4_17 : decode cJ6_bitCount_0f7a4 17 = .ok (.iushr, 1) := by decide +kernel
theorem dJ6_bitCount_0f7a4_18 : decode cJ6_bitCount_0f7a4 18 = .ok (.ldc_w 266, 3) := by decide +kernel
theorem dJ6_bitCount_0f7a4_21 : decode cJ6_bitCount_0f7a4 21 = .ok (.iand, 1) := by decide +kernel
theorem dJ6_bitCount_0f7a4_22 : decode cJ6_bitCount_0f7a4 22 = .ok (.iadd, 1) := by decide +kernel
theorem dJ6_bitCount_0f7a4_23 : decode cJ6_bitCount_0f7a4 23 = .ok (.istore_n 0, 1) := by decide +kernel
theorem dJ6_bitCount_0f7a4_24 : decode cJ6_bitCount_0f7a4 24 = .ok (.iload_n 0, 1) := by decide +kernel
theorem dJ6_bitCount_0f7a4_25 : decode cJ6_bitCount_0f7a4 25 = .ok (.iload_n 0, 1) := by decide +kernel
theorem dJ6_bitCount_0f7a4_26 : decode cJ6_bitCount_0f7a4 26 = .ok (.iconst 4, 1) := by decide +kernel
theorem dJ6_bitCount_0f7a4_27 : decode cJ6_bitCount_0f7a4 27 = .ok (.iushr, 1) := by decide +kernel
theorem dJ6_bitCount_0f7a4_28 : decode cJ6_bitCount_0f7a4 28 = .ok (.iadd, 1) := by decide +kernel
theorem dJ6_bitCount_0f7a4_29 : decode cJ6_bitCount_0f7a4 29 = .ok (.ldc_w 267, 3) := by decide +kernel
theorem dJ6_bitCount_0f7a4_32 : decode cJ6_bitCount_0f7a4 32 = .ok (.iand, 1) := by decide +kernel
theorem dJ6_bitCount_0f7a4_33 : decode cJ6_bitCount_0f7a4 33 = .ok (.istore_n 0, 1) := by decide +kernel
theorem dJ6_bitCount_0f7a4_34 : decode cJ6_bitCount_0f7a4 34 = .ok (.iload_n 0, 1) := by decide +kernel
theorem dJ6_bitCount_0f7a4_35 : decode cJ6_bitCount_0f7a4 35 = .ok (.iload_n 0, 1) := by decide +kernel
theorem dJ6_bitCount_0f7a4_36 : decode cJ6_bitCount_0f7a4 36 = .ok (.bipush 8, 2) := by decide +kernel
theorem dJ6_bitCount_0f7a4_38 : decode cJ6_bitCount_0f7a4 38 = .ok (.iushr, 1) := by decide +kernel
theorem dJ6_bitCount_0f7a4_39 : decode cJ6_bitCount_0f7a4 39 = .ok (.iadd, 1) := by decide +kernel
theorem dJ6_bitCount_0f7a4_40 : decode cJ6_bitCount_0f7a4 40 = .ok (.istore_n 0, 1) := by decide +kernel
theorem dJ6_bitCount_0f7a4_41 : decode cJ6_bitCount_0f7a4 41 = .ok (.iload_n 0, 1) := by decide +kernel
theorem dJ6_bitCount_0f7a4_42 : decode cJ6_bitCount_0f7a4 42 = .ok (.iload_n 0, 1) := by decide +kernel
theorem dJ6_bitCount_0f7a4_43 : decode cJ6_bitCount_0f7a4 43 = .ok (.bipush 16, 2) := by decide +kernel
theorem dJ6_bitCount_0f7a4_45 : decode cJ6_bitCount_0f7a4 45 = .ok (.iushr, 1) := by decide +kernel
theorem dJ6_bitCount_0f7a4_46 : decode cJ6_bitCount_0f7a4 46 = .ok (.iadd, 1) := by decide +kernel
theorem dJ6_bitCount_0f7a4_47 : decode cJ6_bitCount_0f7a4 47 = .ok (.istore_n 0, 1) := by decide +kernel
theorem dJ6_bitCount_0f7a4_48 : decode cJ6_bitCount_0f7a4 48 = .ok (.iload_n 0, 1) := by decide +kernel
theorem dJ6_bitCount_0f7a4_49 : decode cJ6_bitCount_0f7a4 49 = .ok (.bipush 63, 2) := by decide +kernel
theorem dJ6_bitCount_0f7a4_51 : decode cJ6_bitCount_0f7a4 51 = .ok (.iand, 1) := by decide +kernel
theorem dJ6_bitCount_0f7a4_52 : decode cJ6_bitCount_0f7a4 52 = .ok (.ireturn, 1) := by decide +kernel
theorem dJ9_abs_0f7a4_0 : decode cJ9_abs_0f7a4 0 = .ok (.iload_n 0, 1) := by decide +kernel
theorem dJ9_abs_0f7a4_1 : decode cJ9_abs_0f7a4 1 = .ok (.ifCond .ge 8, 3) := by decide +kernel
theorem dJ9_abs_0f7a4_4 : decode cJ9_abs_0f7a4 4 = .ok (.iload_n 0, 1) := by decide +kernel
theorem dJ9_abs_0f7a4_5 : decode cJ9_abs_0f7a4 5 = .ok (.ineg, 1) := by decide +kernel
theorem dJ9_abs_0f7a4_6 : decode cJ9_abs_0f7a4 6 = .ok (.goto 4, 3) := by decide +kernel
theorem dJ9_abs_0f7a4_9 : decode cJ9_abs_0f7a4 9 = .ok (.iload_n 0, 1) := by decide +kernel
theorem dJ9_abs_0f7a4_10 : decode cJ9_abs_0f7a4 10 = .ok (.ireturn, 1) := by decide +kernel
theorem dJ9_max_7cf53_0 : decode cJ9_max_7cf53 0 = .ok (.iload_n 0, 1) := by decide +kernel
theorem dJ9_max_7cf53_1 : decode cJ9_max_7cf53 1 = .ok (.iload_n 1, 1) := by decide +kernel
theorem dJ9_max_7cf53_2 : decode cJ9_max_7cf53 2 = .ok (.if_icmp .lt 7, 3) := by decide +kernel
theorem dJ9_max_7cf53_5 : decode cJ9_max_7cf53 5 = .ok (.iload_n 0, 1) := by decide +kernel
theorem dJ9_max_7cf53_6 : decode cJ9_max_7cf53 6 = .ok (.goto 4, 3) := by decide +kernel
theorem dJ9_max_7cf53_9 : decode cJ9_max_7cf53 9 = .ok (.iload_n 1, 1) := by decide +kernel
theorem dJ9_max_7cf53_10 : decode cJ9_max_7cf53 10 = .ok (.ireturn, 1) := by decide +kernel
theorem dJ9_min_7cf53_0 : decode cJ9_min_7cf53 0 = .ok (.iload_n 0, 1) := by decide +kernel
theorem dJ9_min_7cf53_1 : decode cJ9_min_7cf53 1 = .ok (.iload_n 1, 1) := by decide +kernel
theorem dJ9_min_7cf53_2 : decode cJ9_min_7cf53 2 = .ok (.if_icmp .gt 7, 3) := by decide +kernel
theorem dJ9_min_7cf53_5 : decode cJ9_min_7cf53 5 = .ok (.iload_n 0, 1) := by decide +kernel
theorem dJ9_min_7cf53_6 : decode cJ9_min_7cf53 6 = .ok (.goto 4, 3) := by decide +kernel
theorem dJ9_min_7cf53_9 : decode cJ9_min_7cf53 9 = .ok (.iload_n 1, 1) := by decide +kernel
theorem dJ9_min_7cf53_10 : decode cJ9_min_7cf53 10 = .ok (.ireturn, 1) := by decide +kernel
theorem dJ0_length_8abf5_0 : decode cJ0_length_8abf5 0 = .ok (.aload_n 0, 1) := by decide +kernel
theorem dJ0_length_8abf5_1 : decode cJ0_length_8abf5 1 = .ok (.getfield 9, 3) := by decide +kernel
theorem dJ0_length_8abf5_4 : decode cJ0_length_8abf5 4 = .ok (.arraylength, 1) := by decide +kernel
theorem dJ0_length_8abf5_5 : decode cJ0_length_8abf5 5 = .ok (.aload_n 0, 1) := by decide +kernel
theorem dJ0_length_8abf5_6 : decode cJ0_length_8abf5 6 = .ok (.invokevirtual 335, 3) := by decide +kernel
theorem dJ0_length_8abf5_9 : decode cJ0_length_8abf5 9 = .ok (.ishr, 1) := by decide +kernel
theorem dJ0_length_8abf5_10 : decode cJ0_length_8abf5 10 = .ok (.ireturn, 1) := by decide +kernel
theorem dJ0_charAt_5068e_0 : decode cJ0_charAt_5068e 0 = .ok (.aload_n 0, 1) := by decide +kernel
theorem dJ0_charAt_5068e_1 : decode cJ0_charAt_5068e 1 = .ok (.invokevirtual 492, 3) := by decide +kernel
theorem dJ0_charAt_5068e_4 : decode cJ0_charAt_5068e 4 = .ok (.ifCond .eq 12, 3) := by decide +kernel
theorem dJ0_charAt_5068e_7 : decode cJ0_charAt_5068e 7 = .ok (.aload_n 0, 1) := by decide +kernel
theorem dJ0_charAt_5068e_8 : decode cJ0_charAt_5068e 8 = .ok (.getfield 9, 3) := by decide +kernel
theorem dJ0_charAt_5068e_11 : decode cJ0_charAt_5068e 11 = .ok (.iload_n 1, 1) := by decide +kernel
theorem dJ0_charAt_5068e_12 : decode cJ0_charAt_5068e 12 = .ok (.invokestatic 495, 3) := by decide +kernel
theorem dJ0_charAt_5068e_15 : decode cJ0_charAt_5068e 15 = .ok (.ireturn, 1) := by decide +kernel
theorem dJ0_charAt_5068e_16 : decode cJ0_charAt_5068e 16 = .ok (.aload_n 0, 1) := by decide +kernel
theorem dJ0_charAt_5068e_17 : decode cJ0_charAt_5068e 17 = .ok (.getfield 9, 3) := by decide +kernel
theorem dJ0_charAt_5068e_20 : decode cJ0_charAt_5068e 20 = .ok (.iload_n 1, 1) := by decide +kernel
theorem dJ0_charAt_5068e_21 : decode cJ0_charAt_5068e 21 = .ok (.invokestatic 498, 3) := by decide +kernel
theorem dJ0_charAt_5068e_24 : decode cJ0_charAt_5068e 24 = .ok (.ireturn, 1) := by decide +kernel
theorem dJ0_coder_7d493_0 : decode cJ0_coder_7d493 0 = .ok (.getstatic 38, 3) := by decide +kernel
theorem dJ0_coder_7d493_3 : decode cJ0_coder_7d493 3 = .ok (.ifCond .eq 10, 3) := by decide +kernel
theorem dJ0_coder_7d493_6 : decode cJ0_coder_7d493 6 = .ok (.aload_n 0, 1) := by decide +kernel
theorem dJ0_coder_7d493_7 : decode cJ0_coder_7d493 7 = .ok (.getfield 15, 3) := by decide +kernel
theorem dJ0_coder_7d493_10 : decode cJ0_coder_7d493 10 = .ok (.goto 4, 3) := by decide +kernel
theorem dJ0_coder_7d493_13 : decode cJ0_coder_7d493 13 = .ok (.iconst 1, 1) := by decide +kernel
theorem dJ0_coder_7d493_14 : decode cJ0_coder_7d493 14 = .ok (.ireturn, 1) := by decide +kernel
theorem dJ0_isLatin1_aae02_0 : decode cJ0_isLatin1_aae02 0 = .ok (.getstatic 38, 3) := by decide +kernel
theorem dJ0_isLatin1_aae02_3 : decode cJ0_isLatin1_aae02 3 = .ok (.ifCond .eq 14, 3) := by decide +kernel
theorem dJ0_isLatin1_aae02_6 : decode cJ0_isLatin1_aae02 6 = .ok (.aload_n 0, 1) := by decide +kernel
theorem dJ0_isLatin1_aae02_7 : decode cJ0_isLatin1_aae02 7 = .ok (.getfield 15, 3) := by decide +kernel
theorem dJ0_isLatin1_aae02_10 : decode cJ0_isLatin1_aae02 10 = .ok (.ifCond .ne 7, 3) := by decide +kernel
theorem dJ0_isLatin1_aae02_13 : decode cJ0_isLatin1_aae02 13 = .ok (.iconst 1, 1) := by decide +kernel
theorem dJ0_isLatin1_aae02_14 : decode cJ0_isLatin1_aae02 14 = .ok (.goto 4, 3) := by decide +kernel
theorem dJ0_isLatin1_aae02_17 : decode cJ0_isLatin1_aae02 17 = .ok (.iconst 0, 1) := by decide +kernel
theorem dJ0_isLatin1_aae02_18 : decode cJ0_isLatin1_aae02 18 = .ok (.ireturn, 1) := by decide +kernel
theorem dJ0_checkIndex_df160_0 : decode cJ0_checkIndex_df160 0 = .ok (.iload_n 0, 1) := by decide +kernel
theorem dJ0_checkIndex_df160_1 : decode cJ0_checkIndex_df160 1 = .ok (.iload_n 1, 1) := by decide +kernel
theorem dJ0_checkIndex_df160_2 : decode cJ0_checkIndex_df160 2 = .ok (.getstatic 1053, 3) := by decide +kernel
theorem dJ0_checkIndex_df160_5 : decode cJ0_checkIndex_df160 5 = .ok (.invokestatic 1059, 3) := by decide +kernel
theorem dJ0_checkIndex_df160_8 : decode cJ0_checkIndex_df160 8 = .ok (.pop, 1) := by decide +kernel
theorem dJ0_checkIndex_df160_9 : decode cJ0_checkIndex_df160 9 = .ok (.return_, 1) := by decide +kernel
theorem dJ1_charAt_3b067_0 : decode cJ1_charAt_3b067 0 = .ok (.iload_n 1, 1) := by decide +kernel
theorem dJ1_charAt_3b067_1 : decode cJ1_charAt_3b067 1 = .ok (.aload_n 0, 1) := by decide +kernel
theorem dJ1_charAt_3b067_2 : decode cJ1_charAt_3b067 2 = .ok (.arraylength, 1) := by decide +kernel
theorem dJ1_charAt_3b067_3 : decode cJ1_charAt_3b067 3 = .ok (.invokestatic 9, 3) := by decide +kernel
theorem dJ1_charAt_3b067_6 : decode cJ1_charAt_3b067 6 = .ok (.aload_n 0, 1) := by decide +kernel
theorem dJ1_charAt_3b067_7 : decode cJ1_charAt_3b067 7 = .ok (.iload_n 1, 1) := by decide +kernel
theorem dJ1_charAt_3b067_8 : decode cJ1_charAt_3b067 8 = .ok (.baload, 1) := by decide +kernel
theorem dJ1_charAt_3b067_9 : decode cJ1_charAt_3b067 9 = .ok (.sipush 255, 3) := by decide +kernel
theorem dJ1_charAt_3b067_12 : decode cJ1_charAt_3b067 12 = .ok (.iand, 1) := by decide +kernel
theorem dJ1_charAt_3b067_13 : decode cJ1_charAt_3b067 13 = .ok (.i2c, 1) := by decide +kernel
theorem dJ1_charAt_3b067_14 : decode cJ1_charAt_3b067 14 = .ok (.ireturn, 1) := by decide +kernel
theorem dJ2_getChar_3b067_0 : decode cJ2_getChar_3b067 0 = .ok (.getstatic 44, 3) := by decide +kernel
theorem dJ2_getChar_3b067_3 : decode cJ2_getChar_3b067 3 = .ok (.ifCond .ne 25, 3) := by decide +kernel
theorem dJ2_getChar_3b067_6 : decode cJ2_getChar_3b067 6 = .ok (.iload_n 1, 1) := by decide +kernel
theorem dJ2_getChar_3b067_7 : decode cJ2_getChar_3b067 7 = .ok (.ifCond .lt 11, 3) := by decide +kernel
theorem dJ2_getChar_3b067_10 : decode cJ2_getChar_3b067 10 = .ok (.iload_n 1, 1) := by decide +kernel
theorem dJ2_getChar_3b067_11 : decode cJ2_getChar_3b067 11 = .ok (.aload_n 0, 1) := by decide +kernel
theorem dJ2_getChar_3b067_12 : decode cJ2_getChar_3b067 12 = .ok (.invokestatic 48, 3) := by decide +kernel
theorem dJ2_getChar_3b067_15 : decode cJ2_getChar_3b067 15 = .ok (.if_icmp .lt 13, 3) := by decide +kernel
theorem dJ2_getChar_3b067_18 : decode cJ2_getChar_3b067 18 = .ok (.new 52, 3) := by decide +kernel
theorem dJ2_getChar_3b067_21 : decode cJ2_getChar_3b067 21 = .ok (.dup, 1) := by decide +kernel
theorem dJ2_getChar_3b067_22 : decode cJ2_getChar_3b067 22 = .ok (.ldc 54, 2) := by decide +kernel
theorem dJ2_getChar_3b067_24 : decode cJ2_getChar_3b067 24 = .ok (.invokespecial 56, 3) := by decide +kernel
theorem dJ2_getChar_3b067_27 : decode cJ2_getChar_3b067 27 = .ok (.athrow, 1) := by decide +kernel
theorem dJ2_getChar_3b067_28 : decode cJ2_getChar_3b067 28 = .ok (.iload_n 1, 1) := by decide +kernel
theorem dJ2_getChar_3b067_29 : decode cJ2_getChar_3b067 29 = .ok (.iconst 1, 1) := by decide +kernel
theorem dJ2_getChar_3b067_30 : decode cJ2_getChar_3b067 30 = .ok (.ishl, 1) := by decide +kernel
theorem dJ2_getChar_3b067_31 : decode cJ2_getChar_3b067 31 = .ok (.istore_n 1, 1) := by decide +kernel
theorem dJ2_getChar_3b067_32 : decode cJ2_getChar_3b067 32 = .ok (.aload_n 0, 1) := by decide +kernel
theorem dJ2_getChar_3b067_33 : decode cJ2_getChar_3b067 33 = .ok (.iload_n 1, 1) := by decide +kernel
theorem dJ2_getChar_3b067_34 : decode cJ2_getChar_3b067 34 = .ok (.iinc 1 1, 3) := by decide +kernel
theorem dJ2_getChar_3b067_37 : decode cJ2_getChar_3b067 37 = .ok (.baload, 1) := by decide +kernel
theorem dJ2_getChar_3b067_38 : decode cJ2_getChar_3b067 38 = .ok (.sipush 255, 3) := by decide +kernel
theorem dJ2_getChar_3b067_41 : decode cJ2_getChar_3b067 41 = .ok (.iand, 1) := by decide +kernel
theorem dJ2_getChar_3b067_42 : decode cJ2_getChar_3b067 42 = .ok (.getstatic 59, 3) := by decide +kernel
theorem dJ2_getChar_3b067_45 : decode cJ2_getChar_3b067 45 = .ok (.ishl, 1) := by decide +kernel
theorem dJ2_getChar_3b067_46 : decode cJ2_getChar_3b067 46 = .ok (.aload_n 0, 1) := by decide +kernel
theorem dJ2_getChar_3b067_47 : decode cJ2_getChar_3b067 47 = .ok (.iload_n 1, 1) := by decide +kernel
theorem dJ2_getChar_3b067_48 : decode cJ2_getChar_3b067 48 = .ok (.baload, 1) := by decide +kernel
theorem dJ2_getChar_3b067_49 : decode cJ2_getChar_3b067 49 = .ok (.sipush 255, 3) := by decide +kernel
theorem dJ2_getChar_3b067_52 : decode cJ2_getChar_3b067 52 = .ok (.iand, 1) := by decide +kernel
theorem dJ2_getChar_3b067_53 : decode cJ2_getChar_3b067 53 = .ok (.getstatic 63, 3) := by decide +kernel
theorem dJ2_getChar_3b067_56 : decode cJ2_getChar_3b067 56 = .ok (.ishl, 1) := by decide +kernel
theorem dJ2_getChar_3b067_57 : decode cJ2_getChar_3b067 57 = .ok (.ior, 1) := by decide +kernel
theorem dJ2_getChar_3b067_58 : decode cJ2_getChar_3b067 58 = .ok (.i2c, 1) := by decide +kernel
theorem dJ2_getChar_3b067_59 : decode cJ2_getChar_3b067 59 = .ok (.ireturn, 1) := by decide +kernel
theorem dJ2_length_9d52b_0 : decode cJ2_length_9d52b 0 = .ok (.aload_n 0, 1) := by decide +kernel
theorem dJ2_length_9d52b_1 : decode cJ2_length_9d52b 1 = .ok (.arraylength, 1) := by decide +kernel
theorem dJ2_length_9d52b_2 : decode cJ2_length_9d52b 2 = .ok (.iconst 1, 1) := by decide +kernel
theorem dJ2_length_9d52b_3 : decode cJ2_length_9d52b 3 = .ok (.ishr, 1) := by decide +kernel
theorem dJ2_length_9d52b_4 : decode cJ2_length_9d52b 4 = .ok (.ireturn, 1) := by decide +kernel
theorem dJ2_charAt_3b067_0 : decode cJ2_charAt_3b067 0 = .ok (.iload_n 1, 1) := by decide +kernel
theorem dJ2_charAt_3b067_1 : decode cJ2_charAt_3b067 1 = .ok (.aload_n 0, 1) := by decide +kernel
theorem dJ2_charAt_3b067_2 : decode cJ2_charAt_3b067 2 = .ok (.invokestatic 67, 3) := by decide +kernel
theorem dJ2_charAt_3b067_5 : decode cJ2_charAt_3b067 5 = .ok (.aload_n 0, 1) := by decide +kernel
theorem dJ2_charAt_3b067_6 : decode cJ2_charAt_3b067 6 = .ok (.iload_n 1, 1) := by decide +kernel
theorem dJ2_charAt_3b067_7 : decode cJ2_charAt_3b067 7 = .ok (.invokestatic 71, 3) := by decide +kernel
theorem dJ2_charAt_3b067_10 : decode cJ2_charAt_3b067 10 = .ok (.ireturn, 1) := by decide +kernel
theorem dJ2_checkIndex_2214a_0 : decode cJ2_checkIndex_2214a 0 = .ok (.iload_n 0, 1) := by decide +kernel
theorem dJ2_checkIndex_2214a_1 : decode cJ2_checkIndex_2214a 1 = .ok (.aload_n 1, 1) := by decide +kernel
theorem dJ2_checkIndex_2214a_2 : decode cJ2_checkIndex_2214a 2 = .ok (.invokestatic 48, 3) := by decide +kernel
theorem dJ2_checkIndex_2214a_5 : decode cJ2_checkIndex_2214a 5 = .ok (.invokestatic 414, 3) := by decide +kernel
theorem dJ2_checkIndex_2214a_8 : decode cJ2_checkIndex_2214a 8 = .ok (.return_, 1) := by decide +kernel
theorem dJ7_fill_53178_0 : decode cJ7_fill_53178 0 = .ok (.iconst 0, 1) := by decide +kernel
theorem dJ7_fill_53178_1 : decode cJ7_fill_53178 1 = .ok (.istore_n 2, 1) := by decide +kernel
theorem dJ7_fill_53178_2 : decode cJ7_fill_53178 2 = .ok (.aload_n 0, 1) := by decide +kernel
theorem dJ7_fill_53178_3 : decode cJ7_fill_53178 3 = .ok (.arraylength, 1) := by decide +kernel
theorem dJ7_fill_53178_4 : decode cJ7_fill_53178 4 = .ok (.istore_n 3, 1) := by decide +kernel
theorem dJ7_fill_53178_5 : decode cJ7_fill_53178 5 = .ok (.iload_n 2, 1) := by decide +kernel
theorem dJ7_fill_53178_6 : decode cJ7_fill_53178 6 = .ok (.iload_n 3, 1) := by decide +kernel
theorem dJ7_fill_53178_7 : decode cJ7_fill_53178 7 = .ok (.if_icmp .ge 13, 3) := by decide +kernel
theorem dJ7_fill_53178_10 : decode cJ7_fill_53178 10 = .ok (.aload_n 0, 1) := by decide +kernel
theorem dJ7_fill_53178_11 : decode cJ7_fill_53178 11 = .ok (.iload_n 2, 1) := by decide +kernel
theorem dJ7_fill_53178_12 : decode cJ7_fill_53178 12 = .ok (.iload_n 1, 1) := by decide +kernel
theorem dJ7_fill_53178_13 : decode cJ7_fill_53178 13 = .ok (.iastore, 1) := by decide +kernel
theorem dJ7_fill_53178_14 : decode cJ7_fill_53178 14 = .ok (.iinc 2 1, 3) := by decide +kernel
theorem dJ7_fill_53178_17 : decode cJ7_fill_53178 17 = .ok (.goto (-12), 3) := by decide +kernel
theorem dJ7_fill_53178_20 : decode cJ7_fill_53178 20 = .ok (.return_, 1) := by decide +kernel
theorem dJ7_copyOf_59c91_0 : decode cJ7_copyOf_59c91 0 = .ok (.iload_n 1, 1) := by decide +kernel
theorem dJ7_copyOf_59c91_1 : decode cJ7_copyOf_59c91 1 = .ok (.aload_n 0, 1) := by decide +kernel
theorem dJ7_copyOf_59c91_2 : decode cJ7_copyOf_59c91 2 = .ok (.arraylength, 1) := by decide +kernel
theorem dJ7_copyOf_59c91_3 : decode cJ7_copyOf_59c91 3 = .ok (.if_icmp .ne 11, 3) := by decide +kernel
theorem dJ7_copyOf_59c91_6 : decode cJ7_copyOf_59c91 6 = .ok (.aload_n 0, 1) := by decide +kernel
theorem dJ7_copyOf_59c91_7 : decode cJ7_copyOf_59c91 7 = .ok (.invokevirtual 316, 3) := by decide +kernel
theorem dJ7_copyOf_59c91_10 : decode cJ7_copyOf_59c91 10 = .ok (.checkcast 317, 3) := by decide +kernel
theorem dJ7_copyOf_59c91_13 : decode cJ7_copyOf_59c91 13 = .ok (.areturn, 1) := by decide +kernel
theorem dJ7_copyOf_59c91_14 : decode cJ7_copyOf_59c91 14 = .ok (.iload_n 1, 1) := by decide +kernel
theorem dJ7_copyOf_59c91_15 : decode cJ7_copyOf_59c91 15 = .ok (.newarray .int, 2) := by decide +kernel
theorem dJ7_copyOf_59c91_17 : decode cJ7_copyOf_59c91 17 = .ok (.astore_n 2, 1) := by decide +kernel
theorem dJ7_copyOf_59c91_18 : decode cJ7_copyOf_59c91 18 = .ok (.aload_n 0, 1) := by decide +kernel
theorem dJ7_copyOf_59c91_19 : decode cJ7_copyOf_59c91 19 = .ok (.iconst 0, 1) := by decide +kernel
theorem dJ7_copyOf_59c91_20 : decode cJ7_copyOf_59c91 20 = .ok (.aload_n 2, 1) := by decide +kernel
theorem dJ7_copyOf_59c91_21 : decode cJ7_copyOf_59c91 21 = .ok (.iconst 0, 1) := by decide +kernel
theorem dJ7_copyOf_59c91_22 : decode cJ7_copyOf_59c91 22 = .ok (.aload_n 0, 1) := by decide +kernel
theorem dJ7_copyOf_59c91_23 : decode cJ7_copyOf_59c91 23 = .ok (.arraylength, 1) := by decide +kernel
theorem dJ7_copyOf_59c91_24 : decode cJ7_copyOf_59c91 24 = .ok (.iload_n 1, 1) := by decide +kernel
theorem dJ7_copyOf_59c91_25 : decode cJ7_copyOf_59c91 25 = .ok (.invokestatic 304, 3) := by decide +kernel
theorem dJ7_copyOf_59c91_28 : decode cJ7_copyOf_59c91 28 = .ok (.invokestatic 150, 3) := by decide +kernel
theorem dJ7_copyOf_59c91_31 : decode cJ7_copyOf_59c91 31 = .ok (.aload_n 2, 1) := by decide +kernel
theorem dJ7_copyOf_59c91_32 : decode cJ7_copyOf_59c91 32 = .ok (.areturn, 1) := by decide +kernel
theorem dJ3_checkIndex_8e157_0 : decode cJ3_checkIndex_8e157 0 = .ok (.iload_n 0, 1) := by decide +kernel
theorem dJ3_checkIndex_8e157_1 : decode cJ3_checkIndex_8e157 1 = .ok (.ifCond .lt 8, 3) := by decide +kernel
theorem dJ3_checkIndex_8e157_4 : decode cJ3_checkIndex_8e157 4 = .ok (.iload_n 0, 1) := by decide +kernel
theorem dJ3_checkIndex_8e157_5 : decode cJ3_checkIndex_8e157 5 = .ok (.iload_n 1, 1) := by decide +kernel
theorem dJ3_checkIndex_8e157_6 : decode cJ3_checkIndex_8e157 6 = .ok (.if_icmp .lt 10, 3) := by decide +kernel
theorem dJ3_checkIndex_8e157_9 : decode cJ3_checkIndex_8e157 9 = .ok (.aload_n 2, 1) := by decide +kernel
theorem dJ3_checkIndex_8e157_10 : decode cJ3_checkIndex_8e157 10 = .ok (.iload_n 0, 1) := by decide +kernel
theorem dJ3_checkIndex_8e157_11 : decode cJ3_checkIndex_8e157 11 = .ok (.iload_n 1, 1) := by decide +kernel
theorem dJ3_checkIndex_8e157_12 : decode cJ3_checkIndex_8e157 12 = .ok (.invokestatic 95, 3) := by decide +kernel
theorem dJ3_checkIndex_8e157_15 : decode cJ3_checkIndex_8e157 15 = .ok (.athrow, 1) := by decide +kernel
theorem dJ3_checkIndex_8e157_16 : decode cJ3_checkIndex_8e157 16 = .ok (.iload_n 0, 1) := by decide +kernel
theorem dJ3_checkIndex_8e157_17 : decode cJ3_checkIndex_8e157 17 = .ok (.ireturn, 1) := by decide +kernel
theorem dL_law_0 : decode cL_law 0 = .ok (.new 7, 3) := by decide +kernel
theorem dL_law_3 : decode cL_law 3 = .ok (.dup, 1) := by decide +kernel
theorem dL_law_4 : decode cL_law 4 = .ok (.invokespecial 9, 3) := by decide +kernel
theorem dL_law_7 : decode cL_law 7 = .ok (.astore_n 1, 1) := by decide +kernel
theorem dL_law_8 : decode cL_law 8 = .ok (.new 10, 3) := by decide +kernel
theorem dL_law_11 : decode cL_law 11 = .ok (.dup, 1) := by decide +kernel
theorem dL_law_12 : decode cL_law 12 = .ok (.invokespecial 12, 3) := by decide +kernel
theorem dL_law_15 : decode cL_law 15 = .ok (.astore_n 2, 1) := by decide +kernel
theorem dL_law_16 : decode cL_law 16 = .ok (.iconst 0, 1) := by decide +kernel
theorem dL_law_17 : decode cL_law 17 = .ok (.istore_n 3, 1) := by decide +kernel
theorem dL_law_18 : decode cL_law 18 = .ok (.iload_n 3, 1) := by decide +kernel
theorem dL_law_19 : decode cL_law 19 = .ok (.aload_n 0, 1) := by decide +kernel
theorem dL_law_20 : decode cL_law 20 = .ok (.arraylength, 1) := by decide +kernel
theorem dL_law_21 : decode cL_law 21 = .ok (.bipush 6, 2) := by decide +kernel
theorem dL_law_23 : decode cL_law 23 = .ok (.isub, 1) := by decide +kernel
theorem dL_law_24 : decode cL_law 24 = .ok (.if_icmp .gt 1305, 3) := by decide +kernel
theorem dL_law_27 : decode cL_law 27 = .ok (.aload_n 0, 1) := by decide +kernel
theorem dL_law_28 : decode cL_law 28 = .ok (.iload_n 3, 1) := by decide +kernel
theorem dL_law_29 : decode cL_law 29 = .ok (.iaload, 1) := by decide +kernel
theorem dL_law_30 : decode cL_law 30 = .ok (.bipush 63, 2) := by decide +kernel
theorem dL_law_32 : decode cL_law 32 = .ok (.iand, 1) := by decide +kernel
theorem dL_law_33 : decode cL_law 33 = .ok (.tableswitch 1290 0 41 #[183, 206, 259, 292, 325, 368, 401, 444, 467, 480, 513, 576, 599, 612, 625, 638, 651, 664, 677, 700, 723, 756, 779, 812, 825, 838, 871, 894, 907, 940, 963, 996, 1029, 1063, 1086, 1109, 1142, 1175, 1208, 1231, 1254, 1277], 183) := by decide +kernel
theorem dL_law_216 : decode cL_law 216 = .ok (.aload_n 1, 1) := by decide +kernel
theorem dL_law_217 : decode cL_law 217 = .ok (.aload_n 0, 1) := by decide +kernel
theorem dL_law_218 : decode cL_law 218 = .ok (.iload_n 3, 1) := by decide +kernel
theorem dL_law_219 : decode cL_law 219 = .ok (.iconst 1, 1) := by decide +kernel
theorem dL_law_220 : decode cL_law 220 = .ok (.iadd, 1) := by decide +kernel
theorem dL_law_221 : decode cL_law 221 = .ok (.iaload, 1) := by decide +kernel
theorem dL_law_222 : decode cL_law 222 = .ok (.invokevirtual 13, 3) := by decide +kernel
theorem dL_law_225 : decode cL_law 225 = .ok (.aload_n 2, 1) := by decide +kernel
theorem dL_law_226 : decode cL_law 226 = .ok (.aload_n 0, 1) := by decide +kernel
theorem dL_law_227 : decode cL_law 227 = .ok (.iload_n 3, 1) := by decide +kernel
theorem dL_law_228 : decode cL_law 228 = .ok (.iconst 1, 1) := by decide +kernel
theorem dL_law_229 : decode cL_law 229 = .ok (.iadd, 1) := by decide +kernel
theorem dL_law_230 : decode cL_law 230 = .ok (.iaload, 1) := by decide +kernel
theorem dL_law_231 : decode cL_law 231 = .ok (.invokevirtual 17, 3) := by decide +kernel
theorem dL_law_234 : decode cL_law 234 = .ok (.if_icmp .eq 1089, 3) := by decide +kernel
theorem dL_law_237 : decode cL_law 237 = .ok (.iconst 0, 1) := by decide +kernel
theorem dL_law_238 : decode cL_law 238 = .ok (.ireturn, 1) := by decide +kernel
theorem dL_law_239 : decode cL_law 239 = .ok (.aload_n 1, 1) := by decide +kernel
theorem dL_law_240 : decode cL_law 240 = .ok (.aload_n 0, 1) := by decide +kernel
theorem dL_law_241 : decode cL_law 241 = .ok (.iload_n 3, 1) := by decide +kernel
theorem dL_law_242 : decode cL_law 242 = .ok (.iconst 1, 1) := by decide +kernel
theorem dL_law_243 : decode cL_law 243 = .ok (.iadd, 1) := by decide +kernel
theorem dL_law_244 : decode cL_law 244 = .ok (.iaload, 1) := by decide +kernel
theorem dL_law_245 : decode cL_law 245 = .ok (.aload_n 0, 1) := by decide +kernel
theorem dL_law_246 : decode cL_law 246 = .ok (.iload_n 3, 1) := by decide +kernel
theorem dL_law_247 : decode cL_law 247 = .ok (.iconst 2, 1) := by decide +kernel
theorem dL_law_248 : decode cL_law 248 = .ok (.iadd, 1) := by decide +kernel
theorem dL_law_249 : decode cL_law 249 = .ok (.iaload, 1) := by decide +kernel
theorem dL_law_250 : decode cL_law 250 = .ok (.aload_n 0, 1) := by decide +kernel
theorem dL_law_251 : decode cL_law 251 = .ok (.iload_n 3, 1) := by decide +kernel
theorem dL_law_252 : decode cL_law 252 = .ok (.iconst 3, 1) := by decide +kernel
theorem dL_law_253 : decode cL_law 253 = .ok (.iadd, 1) := by decide +kernel
theorem dL_law_254 : decode cL_law 254 = .ok (.iaload, 1) := by decide +kernel
theorem dL_law_255 : decode cL_law 255 = .ok (.aload_n 0, 1) := by decide +kernel
theorem dL_law_256 : decode cL_law 256 = .ok (.iload_n 3, 1) := by decide +kernel
theorem dL_law_257 : decode cL_law 257 = .ok (.iconst 4, 1) := by decide +kernel
theorem dL_law_258 : decode cL_law 258 = .ok (.iadd, 1) := by decide +kernel
theorem dL_law_259 : decode cL_law 259 = .ok (.iaload, 1) := by decide +kernel
theorem dL_law_260 : decode cL_law 260 = .ok (.invokevirtual 18, 3) := by decide +kernel
theorem dL_law_263 : decode cL_law 263 = .ok (.aload_n 2, 1) := by decide +kernel
theorem dL_law_264 : decode cL_law 264 = .ok (.aload_n 0, 1) := by decide +kernel
theorem dL_law_265 : decode cL_law 265 = .ok (.iload_n 3, 1) := by decide +kernel
theorem dL_law_266 : decode cL_law 266 = .ok (.iconst 1, 1) := by decide +kernel
theorem dL_law_267 : decode cL_law 267 = .ok (.iadd, 1) := by decide +kernel
theorem dL_law_268 : decode cL_law 268 = .ok (.iaload, 1) := by decide +kernel
theorem dL_law_269 : decode cL_law 269 = .ok (.aload_n 0, 1) := by decide +kernel
theorem dL_law_270 : decode cL_law 270 = .ok (.iload_n 3, 1) := by decide +kernel
theorem dL_law_271 : decode cL_law 271 = .ok (.iconst 2, 1) := by decide +kernel
theorem dL_law_272 : decode cL_law 272 = .ok (.iadd, 1) := by decide +kernel
theorem dL_law_273 : decode cL_law 273 = .ok (.iaload, 1) := by decide +kernel
theorem dL_law_274 : decode cL_law 274 = .ok (.aload_n 0, 1) := by decide +kernel
theorem dL_law_275 : decode cL_law 275 = .ok (.iload_n 3, 1) := by decide +kernel
theorem dL_law_276 : decode cL_law 276 = .ok (.iconst 3, 1) := by decide +kernel
theorem dL_law_277 : decode cL_law 277 = .ok (.iadd, 1) := by decide +kernel
theorem dL_law_278 : decode cL_law 278 = .ok (.iaload, 1) := by decide +kernel
theorem dL_law_279 : decode cL_law 279 = .ok (.aload_n 0, 1) := by decide +kernel
theorem dL_law_280 : decode cL_law 280 = .ok (.iload_n 3, 1) := by decide +kernel
theorem dL_law_281 : decode cL_law 281 = .ok (.iconst 4, 1) := by decide +kernel
theorem dL_law_282 : decode cL_law 282 = .ok (.iadd, 1) := by decide +kernel
theorem dL_law_283 : decode cL_law 283 = .ok (.iaload, 1) := by decide +kernel
theorem dL_law_284 : decode cL_law 284 = .ok (.invokevirtual 22, 3) := by decide +kernel
theorem dL_law_287 : decode cL_law 287 = .ok (.if_icmp .eq 1036, 3) := by decide +kernel
theorem dL_law_290 : decode cL_law 290 = .ok (.iconst 0, 1) := by decide +kernel
theorem dL_law_291 : decode cL_law 291 = .ok (.ireturn, 1) := by decide +kernel
theorem dL_law_292 : decode cL_law 292 = .ok (.aload_n 1, 1) := by decide +kernel
theorem dL_law_293 : decode cL_law 293 = .ok (.aload_n 0, 1) := by decide +kernel
theorem dL_law_294 : decode cL_law 294 = .ok (.iload_n 3, 1) := by decide +kernel
theorem dL_law_295 : decode cL_law 295 = .ok (.iconst 1, 1) := by decide +kernel
theorem dL_law_296 : decode cL_law 296 = .ok (.iadd, 1) := by decide +kernel
theorem dL_law_297 : decode cL_law 297 = .ok (.iaload, 1) := by decide +kernel
theorem dL_law_298 : decode cL_law 298 = .ok (.aload_n 0, 1) := by decide +kernel
theorem dL_law_299 : decode cL_law 299 = .ok (.iload_n 3, 1) := by decide +kernel
theorem dL_law_300 : decode cL_law 300 = .ok (.iconst 2, 1) := by decide +kernel
theorem dL_law_301 : decode cL_law 301 = .ok (.iadd, 1) := by decide +kernel
theorem dL_law_302 : decode cL_law 302 = .ok (.iaload, 1) := by decide +kernel
theorem dL_law_303 : decode cL_law 303 = .ok (.invokevirtual 23, 3) := by decide +kernel
theorem dL_law_306 : decode cL_law 306 = .ok (.aload_n 2, 1) := by decide +kernel
theorem dL_law_307 : decode cL_law 307 = .ok (.aload_n 0, 1) := by decide +kernel
theorem dL_law_308 : decode cL_law 308 = .ok (.iload_n 3, 1) := by decide +kernel
theorem dL_law_309 : decode cL_law 309 = .ok (.iconst 1, 1) := by decide +kernel
theorem dL_law_310 : decode cL_law 310 = .ok (.iadd, 1) := by decide +kernel
theorem dL_law_311 : decode cL_law 311 = .ok (.iaload, 1) := by decide +kernel
theorem dL_law_312 : decode cL_law 312 = .ok (.aload_n 0, 1) := by decide +kernel
theorem dL_law_313 : decode cL_law 313 = .ok (.iload_n 3, 1) := by decide +kernel
theorem dL_law_314 : decode cL_law 314 = .ok (.iconst 2, 1) := by decide +kernel
theorem dL_law_315 : decode cL_law 315 = .ok (.iadd, 1) := by decide +kernel
theorem dL_law_316 : decode cL_law 316 = .ok (.iaload, 1) := by decide +kernel
theorem dL_law_317 : decode cL_law 317 = .ok (.invokevirtual 27, 3) := by decide +kernel
theorem dL_law_320 : decode cL_law 320 = .ok (.if_icmp .eq 1003, 3) := by decide +kernel
theorem dL_law_323 : decode cL_law 323 = .ok (.iconst 0, 1) := by decide +kernel
theorem dL_law_324 : decode cL_law 324 = .ok (.ireturn, 1) := by decide +kernel
theorem dL_law_325 : decode cL_law 325 = .ok (.aload_n 1, 1) := by decide +kernel
theorem dL_law_326 : decode cL_law 326 = .ok (.aload_n 0, 1) := by decide +kernel
theorem dL_law_327 : decode cL_law 327 = .ok (.iload_n 3, 1) := by decide +kernel
theorem dL_law_328 : decode cL_law 328 = .ok (.iconst 1, 1) := by decide +kernel
theorem dL_law_329 : decode cL_law 329 = .ok (.iadd, 1) := by decide +kernel
theorem dL_law_330 : decode cL_law 330 = .ok (.iaload, 1) := by decide +kernel
theorem dL_law_331 : decode cL_law 331 = .ok (.aload_n 0, 1) := by decide +kernel
theorem dL_law_332 : decode cL_law 332 = .ok (.iload_n 3, 1) := by decide +kernel
theorem dL_law_333 : decode cL_law 333 = .ok (.iconst 2, 1) := by decide +kernel
theorem dL_law_334 : decode cL_law 334 = .ok (.iadd, 1) := by decide +kernel
theorem dL_law_335 : decode cL_law 335 = .ok (.iaload, 1) := by decide +kernel
theorem dL_law_336 : decode cL_law 336 = .ok (.invokevirtual 28, 3) := by decide +kernel
theorem dL_law_339 : decode cL_law 339 = .ok (.aload_n 2, 1) := by decide +kernel
theorem dL_law_340 : decode cL_law 340 = .ok (.aload_n 0, 1) := by decide +kernel
theorem dL_law_341 : decode cL_law 341 = .ok (.iload_n 3, 1) := by decide +kernel
theorem dL_law_342 : decode cL_law 342 = .ok (.iconst 1, 1) := by decide +kernel
theorem dL_law_343 : decode cL_law 343 = .ok (.iadd, 1) := by decide +kernel
theorem dL_law_344 : decode cL_law 344 = .ok (.iaload, 1) := by decide +kernel
theorem dL_law_345 : decode cL_law 345 = .ok (.aload_n 0, 1) := by decide +kernel
theorem dL_law_346 : decode cL_law 346 = .ok (.iload_n 3, 1) := by decide +kernel
theorem dL_law_347 : decode cL_law 347 = .ok (.iconst 2, 1) := by decide +kernel
theorem dL_law_348 : decode cL_law 348 = .ok (.iadd, 1) := by decide +kernel
theorem dL_law_349 : decode cL_law 349 = .ok (.iaload, 1) := by decide +kernel
theorem dL_law_350 : decode cL_law 350 = .ok (.invokevirtual 31, 3) := by decide +kernel
theorem dL_law_353 : decode cL_law 353 = .ok (.if_icmp .eq 970, 3) := by decide +kernel
theorem dL_law_356 : decode cL_law 356 = .ok (.iconst 0, 1) := by decide +kernel
theorem dL_law_357 : decode cL_law 357 = .ok (.ireturn, 1) := by decide +kernel
theorem dL_law_358 : decode cL_law 358 = .ok (.aload_n 1, 1) := by decide +kernel
theorem dL_law_359 : decode cL_law 359 = .ok (.aload_n 0, 1) := by decide +kernel
theorem dL_law_360 : decode cL_law 360 = .ok (.iload_n 3, 1) := by decide +kernel
theorem dL_law_361 : decode cL_law 361 = .ok (.iconst 1, 1) := by decide +kernel
theorem dL_law_362 : decode cL_law 362 = .ok (.iadd, 1) := by decide +kernel
theorem dL_law_363 : decode cL_law 363 = .ok (.iaload, 1) := by decide +kernel
theorem dL_law_364 : decode cL_law 364 = .ok (.aload_n 0, 1) := by decide +kernel
theorem dL_law_365 : decode cL_law 365 = .ok (.iload_n 3, 1) := by decide +kernel
theorem dL_law_366 : decode cL_law 366 = .ok (.iconst 2, 1) := by decide +kernel
theorem dL_law_367 : decode cL_law 367 = .ok (.iadd, 1) := by decide +kernel
theorem dL_law_368 : decode cL_law 368 = .ok (.iaload, 1) := by decide +kernel
theorem dL_law_369 : decode cL_law 369 = .ok (.aload_n 0, 1) := by decide +kernel
theorem dL_law_370 : decode cL_law 370 = .ok (.iload_n 3, 1) := by decide +kernel
theorem dL_law_371 : decode cL_law 371 = .ok (.iconst 3, 1) := by decide +kernel
theorem dL_law_372 : decode cL_law 372 = .ok (.iadd, 1) := by decide +kernel
theorem dL_law_373 : decode cL_law 373 = .ok (.iaload, 1) := by decide +kernel
theorem dL_law_374 : decode cL_law 374 = .ok (.invokevirtual 32, 3) := by decide +kernel
theorem dL_law_377 : decode cL_law 377 = .ok (.aload_n 2, 1) := by decide +kernel
theorem dL_law_378 : decode cL_law 378 = .ok (.aload_n 0, 1) := by decide +kernel
theorem dL_law_379 : decode cL_law 379 = .ok (.iload_n 3, 1) := by decide +kernel
theorem dL_law_380 : decode cL_law 380 = .ok (.iconst 1, 1) := by decide +kernel
theorem dL_law_381 : decode cL_law 381 = .ok (.iadd, 1) := by decide +kernel
theorem dL_law_382 : decode cL_law 382 = .ok (.iaload, 1) := by decide +kernel
theorem dL_law_383 : decode cL_law 383 = .ok (.aload_n 0, 1) := by decide +kernel
theorem dL_law_384 : decode cL_law 384 = .ok (.iload_n 3, 1) := by decide +kernel
theorem dL_law_385 : decode cL_law 385 = .ok (.iconst 2, 1) := by decide +kernel
theorem dL_law_386 : decode cL_law 386 = .ok (.iadd, 1) := by decide +kernel
theorem dL_law_387 : decode cL_law 387 = .ok (.iaload, 1) := by decide +kernel
theorem dL_law_388 : decode cL_law 388 = .ok (.aload_n 0, 1) := by decide +kernel
theorem dL_law_389 : decode cL_law 389 = .ok (.iload_n 3, 1) := by decide +kernel
theorem dL_law_390 : decode cL_law 390 = .ok (.iconst 3, 1) := by decide +kernel
theorem dL_law_391 : decode cL_law 391 = .ok (.iadd, 1) := by decide +kernel
theorem dL_law_392 : decode cL_law 392 = .ok (.iaload, 1) := by decide +kernel
theorem dL_law_393 : decode cL_law 393 = .ok (.invokevirtual 36, 3) := by decide +kernel
theorem dL_law_396 : decode cL_law 396 = .ok (.if_icmp .eq 927, 3) := by decide +kernel
theorem dL_law_399 : decode cL_law 399 = .ok (.iconst 0, 1) := by decide +kernel
theorem dL_law_400 : decode cL_law 400 = .ok (.ireturn, 1) := by decide +kernel
theorem dL_law_401 : decode cL_law 401 = .ok (.aload_n 1, 1) := by decide +kernel
theorem dL_law_402 : decode cL_law 402 = .ok (.aload_n 0, 1) := by decide +kernel
theorem dL_law_403 : decode cL_law 403 = .ok (.iload_n 3, 1) := by decide +kernel
theorem dL_law_404 : decode cL_law 404 = .ok (.iconst 1, 1) := by decide +kernel
theorem dL_law_405 : decode cL_law 405 = .ok (.iadd, 1) := by decide +kernel
theorem dL_law_406 : decode cL_law 406 = .ok (.iaload, 1) := by decide +kernel
theorem dL_law_407 : decode cL_law 407 = .ok (.aload_n 0, 1) := by decide +kernel
theorem dL_law_408 : decode cL_law 408 = .ok (.iload_n 3, 1) := by decide +kernel
theorem dL_law_409 : decode cL_law 409 = .ok (.iconst 2, 1) := by decide +kernel
theorem dL_law_410 : decode cL_law 410 = .ok (.iadd, 1) := by decide +kernel
theorem dL_law_411 : decode cL_law 411 = .ok (.iaload, 1) := by decide +kernel
theorem dL_law_412 : decode cL_law 412 = .ok (.invokevirtual 37, 3) := by decide +kernel
theorem dL_law_415 : decode cL_law 415 = .ok (.aload_n 2, 1) := by decide +kernel
theorem dL_law_416 : decode cL_law 416 = .ok (.aload_n 0, 1) := by decide +kernel
theorem dL_law_417 : decode cL_law 417 = .ok (.iload_n 3, 1) := by decide +kernel
theorem dL_law_418 : decode cL_law 418 = .ok (.iconst 1, 1) := by decide +kernel
theorem dL_law_419 : decode cL_law 419 = .ok (.iadd, 1) := by decide +kernel
theorem dL_law_420 : decode cL_law 420 = .ok (.iaload, 1) := by decide +kernel
theorem dL_law_421 : decode cL_law 421 = .ok (.aload_n 0, 1) := by decide +kernel
theorem dL_law_422 : decode cL_law 422 = .ok (.iload_n 3, 1) := by decide +kernel
theorem dL_law_423 : decode cL_law 423 = .ok (.iconst 2, 1) := by decide +kernel
theorem dL_law_424 : decode cL_law 424 = .ok (.iadd, 1) := by decide +kernel
theorem dL_law_425 : decode cL_law 425 = .ok (.iaload, 1) := by decide +kernel
theorem dL_law_426 : decode cL_law 426 = .ok (.invokevirtual 40, 3) := by decide +kernel
theorem dL_law_429 : decode cL_law 429 = .ok (.if_icmp .eq 894, 3) := by decide +kernel
theorem dL_law_432 : decode cL_law 432 = .ok (.iconst 0, 1) := by decide +kernel
theorem dL_law_433 : decode cL_law 433 = .ok (.ireturn, 1) := by decide +kernel
theorem dL_law_434 : decode cL_law 434 = .ok (.aload_n 1, 1) := by decide +kernel
theorem dL_law_435 : decode cL_law 435 = .ok (.aload_n 0, 1) := by decide +kernel
theorem dL_law_436 : decode cL_law 436 = .ok (.iload_n 3, 1) := by decide +kernel
theorem dL_law_437 : decode cL_law 437 = .ok (.iconst 1, 1) := by decide +kernel
theorem dL_law_438 : decode cL_law 438 = .ok (.iadd, 1) := by decide +kernel
theorem dL_law_439 : decode cL_law 439 = .ok (.iaload, 1) := by decide +kernel
theorem dL_law_440 : decode cL_law 440 = .ok (.aload_n 0, 1) := by decide +kernel
theorem dL_law_441 : decode cL_law 441 = .ok (.iload_n 3, 1) := by decide +kernel
theorem dL_law_442 : decode cL_law 442 = .ok (.iconst 2, 1) := by decide +kernel
theorem dL_law_443 : decode cL_law 443 = .ok (.iadd, 1) := by decide +kernel
theorem dL_law_444 : decode cL_law 444 = .ok (.iaload, 1) := by decide +kernel
theorem dL_law_445 : decode cL_law 445 = .ok (.aload_n 0, 1) := by decide +kernel
theorem dL_law_446 : decode cL_law 446 = .ok (.iload_n 3, 1) := by decide +kernel
theorem dL_law_447 : decode cL_law 447 = .ok (.iconst 3, 1) := by decide +kernel
theorem dL_law_448 : decode cL_law 448 = .ok (.iadd, 1) := by decide +kernel
theorem dL_law_449 : decode cL_law 449 = .ok (.iaload, 1) := by decide +kernel
theorem dL_law_450 : decode cL_law 450 = .ok (.invokevirtual 41, 3) := by decide +kernel
theorem dL_law_453 : decode cL_law 453 = .ok (.aload_n 2, 1) := by decide +kernel
theorem dL_law_454 : decode cL_law 454 = .ok (.aload_n 0, 1) := by decide +kernel
theorem dL_law_455 : decode cL_law 455 = .ok (.iload_n 3, 1) := by decide +kernel
theorem dL_law_456 : decode cL_law 456 = .ok (.iconst 1, 1) := by decide +kernel
theorem dL_law_457 : decode cL_law 457 = .ok (.iadd, 1) := by decide +kernel
theorem dL_law_458 : decode cL_law 458 = .ok (.iaload, 1) := by decide +kernel
theorem dL_law_459 : decode cL_law 459 = .ok (.aload_n 0, 1) := by decide +kernel
theorem dL_law_460 : decode cL_law 460 = .ok (.iload_n 3, 1) := by decide +kernel
theorem dL_law_461 : decode cL_law 461 = .ok (.iconst 2, 1) := by decide +kernel
theorem dL_law_462 : decode cL_law 462 = .ok (.iadd, 1) := by decide +kernel
theorem dL_law_463 : decode cL_law 463 = .ok (.iaload, 1) := by decide +kernel
theorem dL_law_464 : decode cL_law 464 = .ok (.aload_n 0, 1) := by decide +kernel
theorem dL_law_465 : decode cL_law 465 = .ok (.iload_n 3, 1) := by decide +kernel
theorem dL_law_466 : decode cL_law 466 = .ok (.iconst 3, 1) := by decide +kernel
theorem dL_law_467 : decode cL_law 467 = .ok (.iadd, 1) := by decide +kernel
theorem dL_law_468 : decode cL_law 468 = .ok (.iaload, 1) := by decide +kernel
theorem dL_law_469 : decode cL_law 469 = .ok (.invokevirtual 44, 3) := by decide +kernel
theorem dL_law_472 : decode cL_law 472 = .ok (.if_icmp .eq 851, 3) := by decide +kernel
theorem dL_law_475 : decode cL_law 475 = .ok (.iconst 0, 1) := by decide +kernel
theorem dL_law_476 : decode cL_law 476 = .ok (.ireturn, 1) := by decide +kernel
theorem dL_law_477 : decode cL_law 477 = .ok (.aload_n 1, 1) := by decide +kernel
theorem dL_law_478 : decode cL_law 478 = .ok (.aload_n 0, 1) := by decide +kernel
theorem dL_law_479 : decode cL_law 479 = .ok (.iload_n 3, 1) := by decide +kernel
theorem dL_law_480 : decode cL_law 480 = .ok (.iconst 1, 1) := by decide +kernel
theorem dL_law_481 : decode cL_law 481 = .ok (.iadd, 1) := by decide +kernel
theorem dL_law_482 : decode cL_law 482 = .ok (.iaload, 1) := by decide +kernel
theorem dL_law_483 : decode cL_law 483 = .ok (.invokevirtual 45, 3) := by decide +kernel
theorem dL_law_486 : decode cL_law 486 = .ok (.aload_n 2, 1) := by decide +kernel
theorem dL_law_487 : decode cL_law 487 = .ok (.aload_n 0, 1) := by decide +kernel
theorem dL_law_488 : decode cL_law 488 = .ok (.iload_n 3, 1) := by decide +kernel
theorem dL_law_489 : decode cL_law 489 = .ok (.iconst 1, 1) := by decide +kernel
theorem dL_law_490 : decode cL_law 490 = .ok (.iadd, 1) := by decide +kernel
theorem dL_law_491 : decode cL_law 491 = .ok (.iaload, 1) := by decide +kernel
theorem dL_law_492 : decode cL_law 492 = .ok (.invokevirtual 48, 3) := by decide +kernel
theorem dL_law_495 : decode cL_law 495 = .ok (.if_icmp .eq 828, 3) := by decide +kernel
theorem dL_law_498 : decode cL_law 498 = .ok (.iconst 0, 1) := by decide +kernel
theorem dL_law_499 : decode cL_law 499 = .ok (.ireturn, 1) := by decide +kernel
theorem dL_law_500 : decode cL_law 500 = .ok (.aload_n 1, 1) := by decide +kernel
theorem dL_law_501 : decode cL_law 501 = .ok (.invokevirtual 49, 3) := by decide +kernel
theorem dL_law_504 : decode cL_law 504 = .ok (.aload_n 2, 1) := by decide +kernel
theorem dL_law_505 : decode cL_law 505 = .ok (.invokevirtual 53, 3) := by decide +kernel
theorem dL_law_508 : decode cL_law 508 = .ok (.if_icmp .eq 815, 3) := by decide +kernel
theorem dL_law_511 : decode cL_law 511 = .ok (.iconst 0, 1) := by decide +kernel
theorem dL_law_512 : decode cL_law 512 = .ok (.ireturn, 1) := by decide +kernel
theorem dL_law_513 : decode cL_law 513 = .ok (.aload_n 1, 1) := by decide +kernel
theorem dL_law_514 : decode cL_law 514 = .ok (.aload_n 0, 1) := by decide +kernel
theorem dL_law_515 : decode cL_law 515 = .ok (.iload_n 3, 1) := by decide +kernel
theorem dL_law_516 : decode cL_law 516 = .ok (.iconst 1, 1) := by decide +kernel
theorem dL_law_517 : decode cL_law 517 = .ok (.iadd, 1) := by decide +kernel
theorem dL_law_518 : decode cL_law 518 = .ok (.iaload, 1) := by decide +kernel
theorem dL_law_519 : decode cL_law 519 = .ok (.aload_n 0, 1) := by decide +kernel
theorem dL_law_520 : decode cL_law 520 = .ok (.iload_n 3, 1) := by decide +kernel
theorem dL_law_521 : decode cL_law 521 = .ok (.iconst 2, 1) := by decide +kernel
theorem dL_law_522 : decode cL_law 522 = .ok (.iadd, 1) := by decide +kernel
theorem dL_law_523 : decode cL_law 523 = .ok (.iaload, 1) := by decide +kernel
theorem dL_law_524 : decode cL_law 524 = .ok (.invokevirtual 54, 3) := by decide +kernel
theorem dL_law_527 : decode cL_law 527 = .ok (.aload_n 2, 1) := by decide +kernel
theorem dL_law_528 : decode cL_law 528 = .ok (.aload_n 0, 1) := by decide +kernel
theorem dL_law_529 : decode cL_law 529 = .ok (.iload_n 3, 1) := by decide +kernel
theorem dL_law_530 : decode cL_law 530 = .ok (.iconst 1, 1) := by decide +kernel
theorem dL_law_531 : decode cL_law 531 = .ok (.iadd, 1) := by decide +kernel
theorem dL_law_532 : decode cL_law 532 = .ok (.iaload, 1) := by decide +kernel
theorem dL_law_533 : decode cL_law 533 = .ok (.aload_n 0, 1) := by decide +kernel
theorem dL_law_534 : decode cL_law 534 = .ok (.iload_n 3, 1) := by decide +kernel
theorem dL_law_535 : decode cL_law 535 = .ok (.iconst 2, 1) := by decide +kernel
theorem dL_law_536 : decode cL_law 536 = .ok (.iadd, 1) := by decide +kernel
theorem dL_law_537 : decode cL_law 537 = .ok (.iaload, 1) := by decide +kernel
theorem dL_law_538 : decode cL_law 538 = .ok (.invokevirtual 57, 3) := by decide +kernel
theorem dL_law_541 : decode cL_law 541 = .ok (.if_icmp .eq 782, 3) := by decide +kernel
theorem dL_law_544 : decode cL_law 544 = .ok (.iconst 0, 1) := by decide +kernel
theorem dL_law_545 : decode cL_law 545 = .ok (.ireturn, 1) := by decide +kernel
theorem dL_law_546 : decode cL_law 546 = .ok (.aload_n 1, 1) := by decide +kernel
theorem dL_law_547 : decode cL_law 547 = .ok (.aload_n 0, 1) := by decide +kernel
theorem dL_law_548 : decode cL_law 548 = .ok (.iload_n 3, 1) := by decide +kernel
theorem dL_law_549 : decode cL_law 549 = .ok (.iconst 1, 1) := by decide +kernel
theorem dL_law_550 : decode cL_law 550 = .ok (.iadd, 1) := by decide +kernel
theorem dL_law_551 : decode cL_law 551 = .ok (.iaload, 1) := by decide +kernel
theorem dL_law_552 : decode cL_law 552 = .ok (.aload_n 0, 1) := by decide +kernel
theorem dL_law_553 : decode cL_law 553 = .ok (.iload_n 3, 1) := by decide +kernel
theorem dL_law_554 : decode cL_law 554 = .ok (.iconst 2, 1) := by decide +kernel
theorem dL_law_555 : decode cL_law 555 = .ok (.iadd, 1) := by decide +kernel
theorem dL_law_556 : decode cL_law 556 = .ok (.iaload, 1) := by decide +kernel
theorem dL_law_557 : decode cL_law 557 = .ok (.aload_n 0, 1) := by decide +kernel
theorem dL_law_558 : decode cL_law 558 = .ok (.iload_n 3, 1) := by decide +kernel
theorem dL_law_559 : decode cL_law 559 = .ok (.iconst 3, 1) := by decide +kernel
theorem dL_law_560 : decode cL_law 560 = .ok (.iadd, 1) := by decide +kernel
theorem dL_law_561 : decode cL_law 561 = .ok (.iaload, 1) := by decide +kernel
theorem dL_law_562 : decode cL_law 562 = .ok (.aload_n 0, 1) := by decide +kernel
theorem dL_law_563 : decode cL_law 563 = .ok (.iload_n 3, 1) := by decide +kernel
theorem dL_law_564 : decode cL_law 564 = .ok (.iconst 4, 1) := by decide +kernel
theorem dL_law_565 : decode cL_law 565 = .ok (.iadd, 1) := by decide +kernel
theorem dL_law_566 : decode cL_law 566 = .ok (.iaload, 1) := by decide +kernel
theorem dL_law_567 : decode cL_law 567 = .ok (.aload_n 0, 1) := by decide +kernel
theorem dL_law_568 : decode cL_law 568 = .ok (.iload_n 3, 1) := by decide +kernel
theorem dL_law_569 : decode cL_law 569 = .ok (.iconst 5, 1) := by decide +kernel
theorem dL_law_570 : decode cL_law 570 = .ok (.iadd, 1) := by decide +kernel
theorem dL_law_571 : decode cL_law 571 = .ok (.iaload, 1) := by decide +kernel
theorem dL_law_572 : decode cL_law 572 = .ok (.invokevirtual 58, 3) := by decide +kernel
theorem dL_law_575 : decode cL_law 575 = .ok (.aload_n 2, 1) := by decide +kernel
theorem dL_law_576 : decode cL_law 576 = .ok (.aload_n 0, 1) := by decide +kernel
theorem dL_law_577 : decode cL_law 577 = .ok (.iload_n 3, 1) := by decide +kernel
theorem dL_law_578 : decode cL_law 578 = .ok (.iconst 1, 1) := by decide +kernel
theorem dL_law_579 : decode cL_law 579 = .ok (.iadd, 1) := by decide +kernel
theorem dL_law_580 : decode cL_law 580 = .ok (.iaload, 1) := by decide +kernel
theorem dL_law_581 : decode cL_law 581 = .ok (.aload_n 0, 1) := by decide +kernel
theorem dL_law_582 : decode cL_law 582 = .ok (.iload_n 3, 1) := by decide +kernel
theorem dL_law_583 : decode cL_law 583 = .ok (.iconst 2, 1) := by decide +kernel
theorem dL_law_584 : decode cL_law 584 = .ok (.iadd, 1) := by decide +kernel
theorem dL_law_585 : decode cL_law 585 = .ok (.iaload, 1) := by decide +kernel
theorem dL_law_586 : decode cL_law 586 = .ok (.aload_n 0, 1) := by decide +kernel
theorem dL_law_587 : decode cL_law 587 = .ok (.iload_n 3, 1) := by decide +kernel
theorem dL_law_588 : decode cL_law 588 = .ok (.iconst 3, 1) := by decide +kernel
theorem dL_law_589 : decode cL_law 589 = .ok (.iadd, 1) := by decide +kernel
theorem dL_law_590 : decode cL_law 590 = .ok (.iaload, 1) := by decide +kernel
theorem dL_law_591 : decode cL_law 591 = .ok (.aload_n 0, 1) := by decide +kernel
theorem dL_law_592 : decode cL_law 592 = .ok (.iload_n 3, 1) := by decide +kernel
theorem dL_law_593 : decode cL_law 593 = .ok (.iconst 4, 1) := by decide +kernel
theorem dL_law_594 : decode cL_law 594 = .ok (.iadd, 1) := by decide +kernel
theorem dL_law_595 : decode cL_law 595 = .ok (.iaload, 1) := by decide +kernel
theorem dL_law_596 : decode cL_law 596 = .ok (.aload_n 0, 1) := by decide +kernel
theorem dL_law_597 : decode cL_law 597 = .ok (.iload_n 3, 1) := by decide +kernel
theorem dL_law_598 : decode cL_law 598 = .ok (.iconst 5, 1) := by decide +kernel
theorem dL_law_599 : decode cL_law 599 = .ok (.iadd, 1) := by decide +kernel
theorem dL_law_600 : decode cL_law 600 = .ok (.iaload, 1) := by decide +kernel
theorem dL_law_601 : decode cL_law 601 = .ok (.invokevirtual 62, 3) := by decide +kernel
theorem dL_law_604 : decode cL_law 604 = .ok (.if_icmp .eq 719, 3) := by decide +kernel
theorem dL_law_607 : decode cL_law 607 = .ok (.iconst 0, 1) := by decide +kernel
theorem dL_law_608 : decode cL_law 608 = .ok (.ireturn, 1) := by decide +kernel
theorem dL_law_609 : decode cL_law 609 = .ok (.aload_n 1, 1) := by decide +kernel
theorem dL_law_610 : decode cL_law 610 = .ok (.aload_n 0, 1) := by decide +kernel
theorem dL_law_611 : decode cL_law 611 = .ok (.iload_n 3, 1) := by decide +kernel
theorem dL_law_612 : decode cL_law 612 = .ok (.iconst 1, 1) := by decide +kernel
theorem dL_law_613 : decode cL_law 613 = .ok (.iadd, 1) := by decide +kernel
theorem dL_law_614 : decode cL_law 614 = .ok (.iaload, 1) := by decide +kernel
theorem dL_law_615 : decode cL_law 615 = .ok (.invokevirtual 63, 3) := by decide +kernel
theorem dL_law_618 : decode cL_law 618 = .ok (.aload_n 2, 1) := by decide +kernel
theorem dL_law_619 : decode cL_law 619 = .ok (.aload_n 0, 1) := by decide +kernel
theorem dL_law_620 : decode cL_law 620 = .ok (.iload_n 3, 1) := by decide +kernel
theorem dL_law_621 : decode cL_law 621 = .ok (.iconst 1, 1) := by decide +kernel
theorem dL_law_622 : decode cL_law 622 = .ok (.iadd, 1) := by decide +kernel
theorem dL_law_623 : decode cL_law 623 = .ok (.iaload, 1) := by decide +kernel
theorem dL_law_624 : decode cL_law 624 = .ok (.invokevirtual 66, 3) := by decide +kernel
theorem dL_law_627 : decode cL_law 627 = .ok (.if_icmp .eq 696, 3) := by decide +kernel
theorem dL_law_630 : decode cL_law 630 = .ok (.iconst 0, 1) := by decide +kernel
theorem dL_law_631 : decode cL_law 631 = .ok (.ireturn, 1) := by decide +kernel
theorem dL_law_632 : decode cL_law 632 = .ok (.aload_n 1, 1) := by decide +kernel
theorem dL_law_633 : decode cL_law 633 = .ok (.invokevirtual 67, 3) := by decide +kernel
theorem dL_law_636 : decode cL_law 636 = .ok (.aload_n 2, 1) := by decide +kernel
theorem dL_law_637 : decode cL_law 637 = .ok (.invokevirtual 70, 3) := by decide +kernel
theorem dL_law_640 : decode cL_law 640 = .ok (.if_icmp .eq 683, 3) := by decide +kernel
theorem dL_law_643 : decode cL_law 643 = .ok (.iconst 0, 1) := by decide +kernel
theorem dL_law_644 : decode cL_law 644 = .ok (.ireturn, 1) := by decide +kernel
theorem dL_law_645 : decode cL_law 645 = .ok (.aload_n 1, 1) := by decide +kernel
theorem dL_law_646 : decode cL_law 646 = .ok (.invokevirtual 71, 3) := by decide +kernel
theorem dL_law_649 : decode cL_law 649 = .ok (.aload_n 2, 1) := by decide +kernel
theorem dL_law_650 : decode cL_law 650 = .ok (.invokevirtual 74, 3) := by decide +kernel
theorem dL_law_653 : decode cL_law 653 = .ok (.if_icmp .eq 670, 3) := by decide +kernel
theorem dL_law_656 : decode cL_law 656 = .ok (.iconst 0, 1) := by decide +kernel
theorem dL_law_657 : decode cL_law 657 = .ok (.ireturn, 1) := by decide +kernel
theorem dL_law_658 : decode cL_law 658 = .ok (.aload_n 1, 1) := by decide +kernel
theorem dL_law_659 : decode cL_law 659 = .ok (.invokevirtual 75, 3) := by decide +kernel
theorem dL_law_662 : decode cL_law 662 = .ok (.aload_n 2, 1) := by decide +kernel
theorem dL_law_663 : decode cL_law 663 = .ok (.invokevirtual 78, 3) := by decide +kernel
theorem dL_law_666 : decode cL_law 666 = .ok (.if_icmp .eq 657, 3) := by decide +kernel
theorem dL_law_669 : decode cL_law 669 = .ok (.iconst 0, 1) := by decide +kernel
theorem dL_law_670 : decode cL_law 670 = .ok (.ireturn, 1) := by decide +kernel
theorem dL_law_671 : decode cL_law 671 = .ok (.aload_n 1, 1) := by decide +kernel
theorem dL_law_672 : decode cL_law 672 = .ok (.invokevirtual 79, 3) := by decide +kernel
theorem dL_law_675 : decode cL_law 675 = .ok (.aload_n 2, 1) := by decide +kernel
theorem dL_law_676 : decode cL_law 676 = .ok (.invokevirtual 82, 3) := by decide +kernel
theorem dL_law_679 : decode cL_law 679 = .ok (.if_icmp .eq 644, 3) := by decide +kernel
theorem dL_law_682 : decode cL_law 682 = .ok (.iconst 0, 1) := by decide +kernel
theorem dL_law_683 : decode cL_law 683 = .ok (.ireturn, 1) := by decide +kernel
theorem dL_law_684 : decode cL_law 684 = .ok (.aload_n 1, 1) := by decide +kernel
theorem dL_law_685 : decode cL_law 685 = .ok (.invokevirtual 83, 3) := by decide +kernel
theorem dL_law_688 : decode cL_law 688 = .ok (.aload_n 2, 1) := by decide +kernel
theorem dL_law_689 : decode cL_law 689 = .ok (.invokevirtual 86, 3) := by decide +kernel
theorem dL_law_692 : decode cL_law 692 = .ok (.if_icmp .eq 631, 3) := by decide +kernel
theorem dL_law_695 : decode cL_law 695 = .ok (.iconst 0, 1) := by decide +kernel
theorem dL_law_696 : decode cL_law 696 = .ok (.ireturn, 1) := by decide +kernel
theorem dL_law_697 : decode cL_law 697 = .ok (.aload_n 1, 1) := by decide +kernel
theorem dL_law_698 : decode cL_law 698 = .ok (.invokevirtual 87, 3) := by decide +kernel
theorem dL_law_701 : decode cL_law 701 = .ok (.aload_n 2, 1) := by decide +kernel
theorem dL_law_702 : decode cL_law 702 = .ok (.invokevirtual 90, 3) := by decide +kernel
theorem dL_law_705 : decode cL_law 705 = .ok (.if_icmp .eq 618, 3) := by decide +kernel
theorem dL_law_708 : decode cL_law 708 = .ok (.iconst 0, 1) := by decide +kernel
theorem dL_law_709 : decode cL_law 709 = .ok (.ireturn, 1) := by decide +kernel
theorem dL_law_710 : decode cL_law 710 = .ok (.aload_n 1, 1) := by decide +kernel
theorem dL_law_711 : decode cL_law 711 = .ok (.aload_n 0, 1) := by decide +kernel
theorem dL_law_712 : decode cL_law 712 = .ok (.iload_n 3, 1) := by decide +kernel
theorem dL_law_713 : decode cL_law 713 = .ok (.iconst 1, 1) := by decide +kernel
theorem dL_law_714 : decode cL_law 714 = .ok (.iadd, 1) := by decide +kernel
theorem dL_law_715 : decode cL_law 715 = .ok (.iaload, 1) := by decide +kernel
theorem dL_law_716 : decode cL_law 716 = .ok (.invokevirtual 91, 3) := by decide +kernel
theorem dL_law_719 : decode cL_law 719 = .ok (.aload_n 2, 1) := by decide +kernel
theorem dL_law_720 : decode cL_law 720 = .ok (.aload_n 0, 1) := by decide +kernel
theorem dL_law_721 : decode cL_law 721 = .ok (.iload_n 3, 1) := by decide +kernel
theorem dL_law_722 : decode cL_law 722 = .ok (.iconst 1, 1) := by decide +kernel
theorem dL_law_723 : decode cL_law 723 = .ok (.iadd, 1) := by decide +kernel
theorem dL_law_724 : decode cL_law 724 = .ok (.iaload, 1) := by decide +kernel
theorem dL_law_725 : decode cL_law 725 = .ok (.invokevirtual 94, 3) := by decide +kernel
theorem dL_law_728 : decode cL_law 728 = .ok (.if_icmp .eq 595, 3) := by decide +kernel
theorem dL_law_731 : decode cL_law 731 = .ok (.iconst 0, 1) := by decide +kernel
theorem dL_law_732 : decode cL_law 732 = .ok (.ireturn, 1) := by decide +kernel
theorem dL_law_733 : decode cL_law 733 = .ok (.aload_n 1, 1) := by decide +kernel
theorem dL_law_734 : decode cL_law 734 = .ok (.aload_n 0, 1) := by decide +kernel
theorem dL_law_735 : decode cL_law 735 = .ok (.iload_n 3, 1) := by decide +kernel
theorem dL_law_736 : decode cL_law 736 = .ok (.iconst 1, 1) := by decide +kernel
theorem dL_law_737 : decode cL_law 737 = .ok (.iadd, 1) := by decide +kernel
theorem dL_law_738 : decode cL_law 738 = .ok (.iaload, 1) := by decide +kernel
theorem dL_law_739 : decode cL_law 739 = .ok (.invokevirtual 95, 3) := by decide +kernel
theorem dL_law_742 : decode cL_law 742 = .ok (.aload_n 2, 1) := by decide +kernel
theorem dL_law_743 : decode cL_law 743 = .ok (.aload_n 0, 1) := by decide +kernel
theorem dL_law_744 : decode cL_law 744 = .ok (.iload_n 3, 1) := by decide +kernel
theorem dL_law_745 : decode cL_law 745 = .ok (.iconst 1, 1) := by decide +kernel
theorem dL_law_746 : decode cL_law 746 = .ok (.iadd, 1) := by decide +kernel
theorem dL_law_747 : decode cL_law 747 = .ok (.iaload, 1) := by decide +kernel
theorem dL_law_748 : decode cL_law 748 = .ok (.invokevirtual 98, 3) := by decide +kernel
theorem dL_law_751 : decode cL_law 751 = .ok (.if_icmp .eq 572, 3) := by decide +kernel
theorem dL_law_754 : decode cL_law 754 = .ok (.iconst 0, 1) := by decide +kernel
theorem dL_law_755 : decode cL_law 755 = .ok (.ireturn, 1) := by decide +kernel
theorem dL_law_756 : decode cL_law 756 = .ok (.aload_n 1, 1) := by decide +kernel
theorem dL_law_757 : decode cL_law 757 = .ok (.aload_n 0, 1) := by decide +kernel
theorem dL_law_758 : decode cL_law 758 = .ok (.iload_n 3, 1) := by decide +kernel
theorem dL_law_759 : decode cL_law 759 = .ok (.iconst 1, 1) := by decide +kernel
theorem dL_law_760 : decode cL_law 760 = .ok (.iadd, 1) := by decide +kernel
theorem dL_law_761 : decode cL_law 761 = .ok (.iaload, 1) := by decide +kernel
theorem dL_law_762 : decode cL_law 762 = .ok (.aload_n 0, 1) := by decide +kernel
theorem dL_law_763 : decode cL_law 763 = .ok (.iload_n 3, 1) := by decide +kernel
theorem dL_law_764 : decode cL_law 764 = .ok (.iconst 2, 1) := by decide +kernel
theorem dL_law_765 : decode cL_law 765 = .ok (.iadd, 1) := by decide +kernel
theorem dL_law_766 : decode cL_law 766 = .ok (.iaload, 1) := by decide +kernel
theorem dL_law_767 : decode cL_law 767 = .ok (.invokevirtual 99, 3) := by decide +kernel
theorem dL_law_770 : decode cL_law 770 = .ok (.aload_n 2, 1) := by decide +kernel
theorem dL_law_771 : decode cL_law 771 = .ok (.aload_n 0, 1) := by decide +kernel
theorem dL_law_772 : decode cL_law 772 = .ok (.iload_n 3, 1) := by decide +kernel
theorem dL_law_773 : decode cL_law 773 = .ok (.iconst 1, 1) := by decide +kernel
theorem dL_law_774 : decode cL_law 774 = .ok (.iadd, 1) := by decide +kernel
theorem dL_law_775 : decode cL_law 775 = .ok (.iaload, 1) := by decide +kernel
theorem dL_law_776 : decode cL_law 776 = .ok (.aload_n 0, 1) := by decide +kernel
theorem dL_law_777 : decode cL_law 777 = .ok (.iload_n 3, 1) := by decide +kernel
theorem dL_law_778 : decode cL_law 778 = .ok (.iconst 2, 1) := by decide +kernel
theorem dL_law_779 : decode cL_law 779 = .ok (.iadd, 1) := by decide +kernel
theorem dL_law_780 : decode cL_law 780 = .ok (.iaload, 1) := by decide +kernel
theorem dL_law_781 : decode cL_law 781 = .ok (.invokevirtual 102, 3) := by decide +kernel
theorem dL_law_784 : decode cL_law 784 = .ok (.if_icmp .eq 539, 3) := by decide +kernel
theorem dL_law_787 : decode cL_law 787 = .ok (.iconst 0, 1) := by decide +kernel
theorem dL_law_788 : decode cL_law 788 = .ok (.ireturn, 1) := by decide +kernel
theorem dL_law_789 : decode cL_law 789 = .ok (.aload_n 1, 1) := by decide +kernel
theorem dL_law_790 : decode cL_law 790 = .ok (.aload_n 0, 1) := by decide +kernel
theorem dL_law_791 : decode cL_law 791 = .ok (.iload_n 3, 1) := by decide +kernel
theorem dL_law_792 : decode cL_law 792 = .ok (.iconst 1, 1) := by decide +kernel
theorem dL_law_793 : decode cL_law 793 = .ok (.iadd, 1) := by decide +kernel
theorem dL_law_794 : decode cL_law 794 = .ok (.iaload, 1) := by decide +kernel
theorem dL_law_795 : decode cL_law 795 = .ok (.invokevirtual 103, 3) := by decide +kernel
theorem dL_law_798 : decode cL_law 798 = .ok (.aload_n 2, 1) := by decide +kernel
theorem dL_law_799 : decode cL_law 799 = .ok (.aload_n 0, 1) := by decide +kernel
theorem dL_law_800 : decode cL_law 800 = .ok (.iload_n 3, 1) := by decide +kernel
theorem dL_law_801 : decode cL_law 801 = .ok (.iconst 1, 1) := by decide +kernel
theorem dL_law_802 : decode cL_law 802 = .ok (.iadd, 1) := by decide +kernel
theorem dL_law_803 : decode cL_law 803 = .ok (.iaload, 1) := by decide +kernel
theorem dL_law_804 : decode cL_law 804 = .ok (.invokevirtual 106, 3) := by decide +kernel
theorem dL_law_807 : decode cL_law 807 = .ok (.if_icmp .eq 516, 3) := by decide +kernel
theorem dL_law_810 : decode cL_law 810 = .ok (.iconst 0, 1) := by decide +kernel
theorem dL_law_811 : decode cL_law 811 = .ok (.ireturn, 1) := by decide +kernel
theorem dL_law_812 : decode cL_law 812 = .ok (.aload_n 1, 1) := by decide +kernel
theorem dL_law_813 : decode cL_law 813 = .ok (.aload_n 0, 1) := by decide +kernel
theorem dL_law_814 : decode cL_law 814 = .ok (.iload_n 3, 1) := by decide +kernel
theorem dL_law_815 : decode cL_law 815 = .ok (.iconst 1, 1) := by decide +kernel
theorem dL_law_816 : decode cL_law 816 = .ok (.iadd, 1) := by decide +kernel
theorem dL_law_817 : decode cL_law 817 = .ok (.iaload, 1) := by decide +kernel
theorem dL_law_818 : decode cL_law 818 = .ok (.aload_n 0, 1) := by decide +kernel
theorem dL_law_819 : decode cL_law 819 = .ok (.iload_n 3, 1) := by decide +kernel
theorem dL_law_820 : decode cL_law 820 = .ok (.iconst 2, 1) := by decide +kernel
theorem dL_law_821 : decode cL_law 821 = .ok (.iadd, 1) := by decide +kernel
theorem dL_law_822 : decode cL_law 822 = .ok (.iaload, 1) := by decide +kernel
theorem dL_law_823 : decode cL_law 823 = .ok (.invokevirtual 107, 3) := by decide +kernel
theorem dL_law_826 : decode cL_law 826 = .ok (.aload_n 2, 1) := by decide +kernel
theorem dL_law_827 : decode cL_law 827 = .ok (.aload_n 0, 1) := by decide +kernel
theorem dL_law_828 : decode cL_law 828 = .ok (.iload_n 3, 1) := by decide +kernel
theorem dL_law_829 : decode cL_law 829 = .ok (.iconst 1, 1) := by decide +kernel
theorem dL_law_830 : decode cL_law 830 = .ok (.iadd, 1) := by decide +kernel
theorem dL_law_831 : decode cL_law 831 = .ok (.iaload, 1) := by decide +kernel
theorem dL_law_832 : decode cL_law 832 = .ok (.aload_n 0, 1) := by decide +kernel
theorem dL_law_833 : decode cL_law 833 = .ok (.iload_n 3, 1) := by decide +kernel
theorem dL_law_834 : decode cL_law 834 = .ok (.iconst 2, 1) := by decide +kernel
theorem dL_law_835 : decode cL_law 835 = .ok (.iadd, 1) := by decide +kernel
theorem dL_law_836 : decode cL_law 836 = .ok (.iaload, 1) := by decide +kernel
theorem dL_law_837 : decode cL_law 837 = .ok (.invokevirtual 110, 3) := by decide +kernel
theorem dL_law_840 : decode cL_law 840 = .ok (.if_icmp .eq 483, 3) := by decide +kernel
theorem dL_law_843 : decode cL_law 843 = .ok (.iconst 0, 1) := by decide +kernel
theorem dL_law_844 : decode cL_law 844 = .ok (.ireturn, 1) := by decide +kernel
theorem dL_law_845 : decode cL_law 845 = .ok (.aload_n 1, 1) := by decide +kernel
theorem dL_law_846 : decode cL_law 846 = .ok (.invokevirtual 111, 3) := by decide +kernel
theorem dL_law_849 : decode cL_law 849 = .ok (.aload_n 2, 1) := by decide +kernel
theorem dL_law_850 : decode cL_law 850 = .ok (.invokevirtual 114, 3) := by decide +kernel
theorem dL_law_853 : decode cL_law 853 = .ok (.if_icmp .eq 470, 3) := by decide +kernel
theorem dL_law_856 : decode cL_law 856 = .ok (.iconst 0, 1) := by decide +kernel
theorem dL_law_857 : decode cL_law 857 = .ok (.ireturn, 1) := by decide +kernel
theorem dL_law_858 : decode cL_law 858 = .ok (.aload_n 1, 1) := by decide +kernel
theorem dL_law_859 : decode cL_law 859 = .ok (.invokevirtual 115, 3) := by decide +kernel
theorem dL_law_862 : decode cL_law 862 = .ok (.aload_n 2, 1) := by decide +kernel
theorem dL_law_863 : decode cL_law 863 = .ok (.invokevirtual 118, 3) := by decide +kernel
theorem dL_law_866 : decode cL_law 866 = .ok (.if_icmp .eq 457, 3) := by decide +kernel
theorem dL_law_869 : decode cL_law 869 = .ok (.iconst 0, 1) := by decide +kernel
theorem dL_law_870 : decode cL_law 870 = .ok (.ireturn, 1) := by decide +kernel
theorem dL_law_871 : decode cL_law 871 = .ok (.aload_n 1, 1) := by decide +kernel
theorem dL_law_872 : decode cL_law 872 = .ok (.aload_n 0, 1) := by decide +kernel
theorem dL_law_873 : decode cL_law 873 = .ok (.iload_n 3, 1) := by decide +kernel
theorem dL_law_874 : decode cL_law 874 = .ok (.iconst 1, 1) := by decide +kernel
theorem dL_law_875 : decode cL_law 875 = .ok (.iadd, 1) := by decide +kernel
theorem dL_law_876 : decode cL_law 876 = .ok (.iaload, 1) := by decide +kernel
theorem dL_law_877 : decode cL_law 877 = .ok (.aload_n 0, 1) := by decide +kernel
theorem dL_law_878 : decode cL_law 878 = .ok (.iload_n 3, 1) := by decide +kernel
theorem dL_law_879 : decode cL_law 879 = .ok (.iconst 2, 1) := by decide +kernel
theorem dL_law_880 : decode cL_law 880 = .ok (.iadd, 1) := by decide +kernel
theorem dL_law_881 : decode cL_law 881 = .ok (.iaload, 1) := by decide +kernel
theorem dL_law_882 : decode cL_law 882 = .ok (.invokevirtual 119, 3) := by decide +kernel
theorem dL_law_885 : decode cL_law 885 = .ok (.aload_n 2, 1) := by decide +kernel
theorem dL_law_886 : decode cL_law 886 = .ok (.aload_n 0, 1) := by decide +kernel
theorem dL_law_887 : decode cL_law 887 = .ok (.iload_n 3, 1) := by decide +kernel
theorem dL_law_888 : decode cL_law 888 = .ok (.iconst 1, 1) := by decide +kernel
theorem dL_law_889 : decode cL_law 889 = .ok (.iadd, 1) := by decide +kernel
theorem dL_law_890 : decode cL_law 890 = .ok (.iaload, 1) := by decide +kernel
theorem dL_law_891 : decode cL_law 891 = .ok (.aload_n 0, 1) := by decide +kernel
theorem dL_law_892 : decode cL_law 892 = .ok (.iload_n 3, 1) := by decide +kernel
theorem dL_law_893 : decode cL_law 893 = .ok (.iconst 2, 1) := by decide +kernel
theorem dL_law_894 : decode cL_law 894 = .ok (.iadd, 1) := by decide +kernel
theorem dL_law_895 : decode cL_law 895 = .ok (.iaload, 1) := by decide +kernel
theorem dL_law_896 : decode cL_law 896 = .ok (.invokevirtual 122, 3) := by decide +kernel
theorem dL_law_899 : decode cL_law 899 = .ok (.if_icmp .eq 424, 3) := by decide +kernel
theorem dL_law_902 : decode cL_law 902 = .ok (.iconst 0, 1) := by decide +kernel
theorem dL_law_903 : decode cL_law 903 = .ok (.ireturn, 1) := by decide +kernel
theorem dL_law_904 : decode cL_law 904 = .ok (.aload_n 1, 1) := by decide +kernel
theorem dL_law_905 : decode cL_law 905 = .ok (.aload_n 0, 1) := by decide +kernel
theorem dL_law_906 : decode cL_law 906 = .ok (.iload_n 3, 1) := by decide +kernel
theorem dL_law_907 : decode cL_law 907 = .ok (.iconst 1, 1) := by decide +kernel
theorem dL_law_908 : decode cL_law 908 = .ok (.iadd, 1) := by decide +kernel
theorem dL_law_909 : decode cL_law 909 = .ok (.iaload, 1) := by decide +kernel
theorem dL_law_910 : decode cL_law 910 = .ok (.invokevirtual 123, 3) := by decide +kernel
theorem dL_law_913 : decode cL_law 913 = .ok (.aload_n 2, 1) := by decide +kernel
theorem dL_law_914 : decode cL_law 914 = .ok (.aload_n 0, 1) := by decide +kernel
theorem dL_law_915 : decode cL_law 915 = .ok (.iload_n 3, 1) := by decide +kernel
theorem dL_law_916 : decode cL_law 916 = .ok (.iconst 1, 1) := by decide +kernel
theorem dL_law_917 : decode cL_law 917 = .ok (.iadd, 1) := by decide +kernel
theorem dL_law_918 : decode cL_law 918 = .ok (.iaload, 1) := by decide +kernel
theorem dL_law_919 : decode cL_law 919 = .ok (.invokevirtual 126, 3) := by decide +kernel
theorem dL_law_922 : decode cL_law 922 = .ok (.if_icmp .eq 401, 3) := by decide +kernel
theorem dL_law_925 : decode cL_law 925 = .ok (.iconst 0, 1) := by decide +kernel
theorem dL_law_926 : decode cL_law 926 = .ok (.ireturn, 1) := by decide +kernel
theorem dL_law_927 : decode cL_law 927 = .ok (.aload_n 1, 1) := by decide +kernel
theorem dL_law_928 : decode cL_law 928 = .ok (.invokevirtual 127, 3) := by decide +kernel
theorem dL_law_931 : decode cL_law 931 = .ok (.aload_n 2, 1) := by decide +kernel
theorem dL_law_932 : decode cL_law 932 = .ok (.invokevirtual 130, 3) := by decide +kernel
theorem dL_law_935 : decode cL_law 935 = .ok (.if_icmp .eq 388, 3) := by decide +kernel
theorem dL_law_938 : decode cL_law 938 = .ok (.iconst 0, 1) := by decide +kernel
theorem dL_law_939 : decode cL_law 939 = .ok (.ireturn, 1) := by decide +kernel
theorem dL_law_940 : decode cL_law 940 = .ok (.aload_n 1, 1) := by decide +kernel
theorem dL_law_941 : decode cL_law 941 = .ok (.aload_n 0, 1) := by decide +kernel
theorem dL_law_942 : decode cL_law 942 = .ok (.iload_n 3, 1) := by decide +kernel
theorem dL_law_943 : decode cL_law 943 = .ok (.iconst 1, 1) := by decide +kernel
theorem dL_law_944 : decode cL_law 944 = .ok (.iadd, 1) := by decide +kernel
theorem dL_law_945 : decode cL_law 945 = .ok (.iaload, 1) := by decide +kernel
theorem dL_law_946 : decode cL_law 946 = .ok (.aload_n 0, 1) := by decide +kernel
theorem dL_law_947 : decode cL_law 947 = .ok (.iload_n 3, 1) := by decide +kernel
theorem dL_law_948 : decode cL_law 948 = .ok (.iconst 2, 1) := by decide +kernel
theorem dL_law_949 : decode cL_law 949 = .ok (.iadd, 1) := by decide +kernel
theorem dL_law_950 : decode cL_law 950 = .ok (.iaload, 1) := by decide +kernel
theorem dL_law_951 : decode cL_law 951 = .ok (.invokevirtual 131, 3) := by decide +kernel
theorem dL_law_954 : decode cL_law 954 = .ok (.aload_n 2, 1) := by decide +kernel
theorem dL_law_955 : decode cL_law 955 = .ok (.aload_n 0, 1) := by decide +kernel
theorem dL_law_956 : decode cL_law 956 = .ok (.iload_n 3, 1) := by decide +kernel
theorem dL_law_957 : decode cL_law 957 = .ok (.iconst 1, 1) := by decide +kernel
theorem dL_law_958 : decode cL_law 958 = .ok (.iadd, 1) := by decide +kernel
theorem dL_law_959 : decode cL_law 959 = .ok (.iaload, 1) := by decide +kernel
theorem dL_law_960 : decode cL_law 960 = .ok (.aload_n 0, 1) := by decide +kernel
theorem dL_law_961 : decode cL_law 961 = .ok (.iload_n 3, 1) := by decide +kernel
theorem dL_law_962 : decode cL_law 962 = .ok (.iconst 2, 1) := by decide +kernel
theorem dL_law_963 : decode cL_law 963 = .ok (.iadd, 1) := by decide +kernel
theorem dL_law_964 : decode cL_law 964 = .ok (.iaload, 1) := by decide +kernel
theorem dL_law_965 : decode cL_law 965 = .ok (.invokevirtual 134, 3) := by decide +kernel
theorem dL_law_968 : decode cL_law 968 = .ok (.if_icmp .eq 355, 3) := by decide +kernel
theorem dL_law_971 : decode cL_law 971 = .ok (.iconst 0, 1) := by decide +kernel
theorem dL_law_972 : decode cL_law 972 = .ok (.ireturn, 1) := by decide +kernel
theorem dL_law_973 : decode cL_law 973 = .ok (.aload_n 1, 1) := by decide +kernel
theorem dL_law_974 : decode cL_law 974 = .ok (.aload_n 0, 1) := by decide +kernel
theorem dL_law_975 : decode cL_law 975 = .ok (.iload_n 3, 1) := by decide +kernel
theorem dL_law_976 : decode cL_law 976 = .ok (.iconst 1, 1) := by decide +kernel
theorem dL_law_977 : decode cL_law 977 = .ok (.iadd, 1) := by decide +kernel
theorem dL_law_978 : decode cL_law 978 = .ok (.iaload, 1) := by decide +kernel
theorem dL_law_979 : decode cL_law 979 = .ok (.invokevirtual 135, 3) := by decide +kernel
theorem dL_law_982 : decode cL_law 982 = .ok (.aload_n 2, 1) := by decide +kernel
theorem dL_law_983 : decode cL_law 983 = .ok (.aload_n 0, 1) := by decide +kernel
theorem dL_law_984 : decode cL_law 984 = .ok (.iload_n 3, 1) := by decide +kernel
theorem dL_law_985 : decode cL_law 985 = .ok (.iconst 1, 1) := by decide +kernel
theorem dL_law_986 : decode cL_law 986 = .ok (.iadd, 1) := by decide +kernel
theorem dL_law_987 : decode cL_law 987 = .ok (.iaload, 1) := by decide +kernel
theorem dL_law_988 : decode cL_law 988 = .ok (.invokevirtual 138, 3) := by decide +kernel
theorem dL_law_991 : decode cL_law 991 = .ok (.if_icmp .eq 332, 3) := by decide +kernel
theorem dL_law_994 : decode cL_law 994 = .ok (.iconst 0, 1) := by decide +kernel
theorem dL_law_995 : decode cL_law 995 = .ok (.ireturn, 1) := by decide +kernel
theorem dL_law_996 : decode cL_law 996 = .ok (.aload_n 1, 1) := by decide +kernel
theorem dL_law_997 : decode cL_law 997 = .ok (.aload_n 0, 1) := by decide +kernel
theorem dL_law_998 : decode cL_law 998 = .ok (.iload_n 3, 1) := by decide +kernel
theorem dL_law_999 : decode cL_law 999 = .ok (.iconst 1, 1) := by decide +kernel
theorem dL_law_1000 : decode cL_law 1000 = .ok (.iadd, 1) := by decide +kernel
theorem dL_law_1001 : decode cL_law 1001 = .ok (.iaload, 1) := by decide +kernel
theorem dL_law_1002 : decode cL_law 1002 = .ok (.aload_n 0, 1) := by decide +kernel
theorem dL_law_1003 : decode cL_law 1003 = .ok (.iload_n 3, 1) := by decide +kernel
theorem dL_law_1004 : decode cL_law 1004 = .ok (.iconst 2, 1) := by decide +kernel
theorem dL_law_1005 : decode cL_law 1005 = .ok (.iadd, 1) := by decide +kernel
theorem dL_law_1006 : decode cL_law 1006 = .ok (.iaload, 1) := by decide +kernel
theorem dL_law_1007 : decode cL_law 1007 = .ok (.invokevirtual 139, 3) := by decide +kernel
theorem dL_law_1010 : decode cL_law 1010 = .ok (.aload_n 2, 1) := by decide +kernel
theorem dL_law_1011 : decode cL_law 1011 = .ok (.aload_n 0, 1) := by decide +kernel
theorem dL_law_1012 : decode cL_law 1012 = .ok (.iload_n 3, 1) := by decide +kernel
theorem dL_law_1013 : decode cL_law 1013 = .ok (.iconst 1, 1) := by decide +kernel
theorem dL_law_1014 : decode cL_law 1014 = .ok (.iadd, 1) := by decide +kernel
theorem dL_law_1015 : decode cL_law 1015 = .ok (.iaload, 1) := by decide +kernel
theorem dL_law_1016 : decode cL_law 1016 = .ok (.aload_n 0, 1) := by decide +kernel
theorem dL_law_1017 : decode cL_law 1017 = .ok (.iload_n 3, 1) := by decide +kernel
theorem dL_law_1018 : decode cL_law 1018 = .ok (.iconst 2, 1) := by decide +kernel
theorem dL_law_1019 : decode cL_law 1019 = .ok (.iadd, 1) := by decide +kernel
theorem dL_law_1020 : decode cL_law 1020 = .ok (.iaload, 1) := by decide +kernel
theorem dL_law_1021 : decode cL_law 1021 = .ok (.invokevirtual 142, 3) := by decide +kernel
theorem dL_law_1024 : decode cL_law 1024 = .ok (.if_icmp .eq 299, 3) := by decide +kernel
theorem dL_law_1027 : decode cL_law 1027 = .ok (.iconst 0, 1) := by decide +kernel
theorem dL_law_1028 : decode cL_law 1028 = .ok (.ireturn, 1) := by decide +kernel
theorem dL_law_1029 : decode cL_law 1029 = .ok (.aload_n 1, 1) := by decide +kernel
theorem dL_law_1030 : decode cL_law 1030 = .ok (.aload_n 0, 1) := by decide +kernel
theorem dL_law_1031 : decode cL_law 1031 = .ok (.iload_n 3, 1) := by decide +kernel
theorem dL_law_1032 : decode cL_law 1032 = .ok (.iconst 1, 1) := by decide +kernel
theorem dL_law_1033 : decode cL_law 1033 = .ok (.iadd, 1) := by decide +kernel
theorem dL_law_1034 : decode cL_law 1034 = .ok (.iaload, 1) := by decide +kernel
theorem dL_law_1035 : decode cL_law 1035 = .ok (.aload_n 0, 1) := by decide +kernel
theorem dL_law_1036 : decode cL_law 1036 = .ok (.iload_n 3, 1) := by decide +kernel
theorem dL_law_1037 : decode cL_law 1037 = .ok (.iconst 2, 1) := by decide +kernel
theorem dL_law_1038 : decode cL_law 1038 = .ok (.iadd, 1) := by decide +kernel
theorem dL_law_1039 : decode cL_law 1039 = .ok (.iaload, 1) := by decide +kernel
theorem dL_law_1040 : decode cL_law 1040 = .ok (.invokevirtual 143, 3) := by decide +kernel
theorem dL_law_1043 : decode cL_law 1043 = .ok (.aload_n 2, 1) := by decide +kernel
theorem dL_law_1044 : decode cL_law 1044 = .ok (.aload_n 0, 1) := by decide +kernel
theorem dL_law_1045 : decode cL_law 1045 = .ok (.iload_n 3, 1) := by decide +kernel
theorem dL_law_1046 : decode cL_law 1046 = .ok (.iconst 1, 1) := by decide +kernel
theorem dL_law_1047 : decode cL_law 1047 = .ok (.iadd, 1) := by decide +kernel
theorem dL_law_1048 : decode cL_law 1048 = .ok (.iaload, 1) := by decide +kernel
theorem dL_law_1049 : decode cL_law 1049 = .ok (.aload_n 0, 1) := by decide +kernel
theorem dL_law_1050 : decode cL_law 1050 = .ok (.iload_n 3, 1) := by decide +kernel
theorem dL_law_1051 : decode cL_law 1051 = .ok (.iconst 2, 1) := by decide +kernel
theorem dL_law_1052 : decode cL_law 1052 = .ok (.iadd, 1) := by decide +kernel
theorem dL_law_1053 : decode cL_law 1053 = .ok (.iaload, 1) := by decide +kernel
theorem dL_law_1054 : decode cL_law 1054 = .ok (.invokevirtual 146, 3) := by decide +kernel
theorem dL_law_1057 : decode cL_law 1057 = .ok (.if_icmp .eq 266, 3) := by decide +kernel
theorem dL_law_1060 : decode cL_law 1060 = .ok (.iconst 0, 1) := by decide +kernel
theorem dL_law_1061 : decode cL_law 1061 = .ok (.ireturn, 1) := by decide +kernel
theorem dL_law_1062 : decode cL_law 1062 = .ok (.aload_n 1, 1) := by decide +kernel
theorem dL_law_1063 : decode cL_law 1063 = .ok (.aload_n 0, 1) := by decide +kernel
theorem dL_law_1064 : decode cL_law 1064 = .ok (.iload_n 3, 1) := by decide +kernel
theorem dL_law_1065 : decode cL_law 1065 = .ok (.iconst 1, 1) := by decide +kernel
theorem dL_law_1066 : decode cL_law 1066 = .ok (.iadd, 1) := by decide +kernel
theorem dL_law_1067 : decode cL_law 1067 = .ok (.iaload, 1) := by decide +kernel
theorem dL_law_1068 : decode cL_law 1068 = .ok (.aload_n 0, 1) := by decide +kernel
theorem dL_law_1069 : decode cL_law 1069 = .ok (.iload_n 3, 1) := by decide +kernel
theorem dL_law_1070 : decode cL_law 1070 = .ok (.iconst 2, 1) := by decide +kernel
theorem dL_law_1071 : decode cL_law 1071 = .ok (.iadd, 1) := by decide +kernel
theorem dL_law_1072 : decode cL_law 1072 = .ok (.iaload, 1) := by decide +kernel
theorem dL_law_1073 : decode cL_law 1073 = .ok (.invokevirtual 147, 3) := by decide +kernel
theorem dL_law_1076 : decode cL_law 1076 = .ok (.aload_n 2, 1) := by decide +kernel
theorem dL_law_1077 : decode cL_law 1077 = .ok (.aload_n 0, 1) := by decide +kernel
theorem dL_law_1078 : decode cL_law 1078 = .ok (.iload_n 3, 1) := by decide +kernel
theorem dL_law_1079 : decode cL_law 1079 = .ok (.iconst 1, 1) := by decide +kernel
theorem dL_law_1080 : decode cL_law 1080 = .ok (.iadd, 1) := by decide +kernel
theorem dL_law_1081 : decode cL_law 1081 = .ok (.iaload, 1) := by decide +kernel
theorem dL_law_1082 : decode cL_law 1082 = .ok (.aload_n 0, 1) := by decide +kernel
theorem dL_law_1083 : decode cL_law 1083 = .ok (.iload_n 3, 1) := by decide +kernel
theorem dL_law_1084 : decode cL_law 1084 = .ok (.iconst 2, 1) := by decide +kernel
theorem dL_law_1085 : decode cL_law 1085 = .ok (.iadd, 1) := by decide +kernel
theorem dL_law_1086 : decode cL_law 1086 = .ok (.iaload, 1) := by decide +kernel
theorem dL_law_1087 : decode cL_law 1087 = .ok (.invokevirtual 151, 3) := by decide +kernel
theorem dL_law_1090 : decode cL_law 1090 = .ok (.lcmp, 1) := by decide +kernel
theorem dL_law_1091 : decode cL_law 1091 = .ok (.ifCond .eq 232, 3) := by decide +kernel
theorem dL_law_1094 : decode cL_law 1094 = .ok (.iconst 0, 1) := by decide +kernel
theorem dL_law_1095 : decode cL_law 1095 = .ok (.ireturn, 1) := by decide +kernel
theorem dL_law_1096 : decode cL_law 1096 = .ok (.aload_n 1, 1) := by decide +kernel
theorem dL_law_1097 : decode cL_law 1097 = .ok (.aload_n 0, 1) := by decide +kernel
theorem dL_law_1098 : decode cL_law 1098 = .ok (.iload_n 3, 1) := by decide +kernel
theorem dL_law_1099 : decode cL_law 1099 = .ok (.iconst 1, 1) := by decide +kernel
theorem dL_law_1100 : decode cL_law 1100 = .ok (.iadd, 1) := by decide +kernel
theorem dL_law_1101 : decode cL_law 1101 = .ok (.iaload, 1) := by decide +kernel
theorem dL_law_1102 : decode cL_law 1102 = .ok (.invokevirtual 152, 3) := by decide +kernel
theorem dL_law_1105 : decode cL_law 1105 = .ok (.aload_n 2, 1) := by decide +kernel
theorem dL_law_1106 : decode cL_law 1106 = .ok (.aload_n 0, 1) := by decide +kernel
theorem dL_law_1107 : decode cL_law 1107 = .ok (.iload_n 3, 1) := by decide +kernel
theorem dL_law_1108 : decode cL_law 1108 = .ok (.iconst 1, 1) := by decide +kernel
theorem dL_law_1109 : decode cL_law 1109 = .ok (.iadd, 1) := by decide +kernel
theorem dL_law_1110 : decode cL_law 1110 = .ok (.iaload, 1) := by decide +kernel
theorem dL_law_1111 : decode cL_law 1111 = .ok (.invokevirtual 155, 3) := by decide +kernel
theorem dL_law_1114 : decode cL_law 1114 = .ok (.if_icmp .eq 209, 3) := by decide +kernel
theorem dL_law_1117 : decode cL_law 1117 = .ok (.iconst 0, 1) := by decide +kernel
theorem dL_law_1118 : decode cL_law 1118 = .ok (.ireturn, 1) := by decide +kernel
theorem dL_law_1119 : decode cL_law 1119 = .ok (.aload_n 1, 1) := by decide +kernel
theorem dL_law_1120 : decode cL_law 1120 = .ok (.aload_n 0, 1) := by decide +kernel
theorem dL_law_1121 : decode cL_law 1121 = .ok (.iload_n 3, 1) := by decide +kernel
theorem dL_law_1122 : decode cL_law 1122 = .ok (.iconst 1, 1) := by decide +kernel
theorem dL_law_1123 : decode cL_law 1123 = .ok (.iadd, 1) := by decide +kernel
theorem dL_law_1124 : decode cL_law 1124 = .ok (.iaload, 1) := by decide +kernel
theorem dL_law_1125 : decode cL_law 1125 = .ok (.invokevirtual 156, 3) := by decide +kernel
theorem dL_law_1128 : decode cL_law 1128 = .ok (.aload_n 2, 1) := by decide +kernel
theorem dL_law_1129 : decode cL_law 1129 = .ok (.aload_n 0, 1) := by decide +kernel
theorem dL_law_1130 : decode cL_law 1130 = .ok (.iload_n 3, 1) := by decide +kernel
theorem dL_law_1131 : decode cL_law 1131 = .ok (.iconst 1, 1) := by decide +kernel
theorem dL_law_1132 : decode cL_law 1132 = .ok (.iadd, 1) := by decide +kernel
theorem dL_law_1133 : decode cL_law 1133 = .ok (.iaload, 1) := by decide +kernel
theorem dL_law_1134 : decode cL_law 1134 = .ok (.invokevirtual 159, 3) := by decide +kernel
theorem dL_law_1137 : decode cL_law 1137 = .ok (.if_icmp .eq 186, 3) := by decide +kernel
theorem dL_law_1140 : decode cL_law 1140 = .ok (.iconst 0, 1) := by decide +kernel
theorem dL_law_1141 : decode cL_law 1141 = .ok (.ireturn, 1) := by decide +kernel
theorem dL_law_1142 : decode cL_law 1142 = .ok (.aload_n 1, 1) := by decide +kernel
theorem dL_law_1143 : decode cL_law 1143 = .ok (.aload_n 0, 1) := by decide +kernel
theorem dL_law_1144 : decode cL_law 1144 = .ok (.iload_n 3, 1) := by decide +kernel
theorem dL_law_1145 : decode cL_law 1145 = .ok (.iconst 1, 1) := by decide +kernel
theorem dL_law_1146 : decode cL_law 1146 = .ok (.iadd, 1) := by decide +kernel
theorem dL_law_1147 : decode cL_law 1147 = .ok (.iaload, 1) := by decide +kernel
theorem dL_law_1148 : decode cL_law 1148 = .ok (.aload_n 0, 1) := by decide +kernel
theorem dL_law_1149 : decode cL_law 1149 = .ok (.iload_n 3, 1) := by decide +kernel
theorem dL_law_1150 : decode cL_law 1150 = .ok (.iconst 2, 1) := by decide +kernel
theorem dL_law_1151 : decode cL_law 1151 = .ok (.iadd, 1) := by decide +kernel
theorem dL_law_1152 : decode cL_law 1152 = .ok (.iaload, 1) := by decide +kernel
theorem dL_law_1153 : decode cL_law 1153 = .ok (.invokevirtual 160, 3) := by decide +kernel
theorem dL_law_1156 : decode cL_law 1156 = .ok (.aload_n 2, 1) := by decide +kernel
theorem dL_law_1157 : decode cL_law 1157 = .ok (.aload_n 0, 1) := by decide +kernel
theorem dL_law_1158 : decode cL_law 1158 = .ok (.iload_n 3, 1) := by decide +kernel
theorem dL_law_1159 : decode cL_law 1159 = .ok (.iconst 1, 1) := by decide +kernel
theorem dL_law_1160 : decode cL_law 1160 = .ok (.iadd, 1) := by decide +kernel
theorem dL_law_1161 : decode cL_law 1161 = .ok (.iaload, 1) := by decide +kernel
theorem dL_law_1162 : decode cL_law 1162 = .ok (.aload_n 0, 1) := by decide +kernel
theorem dL_law_1163 : decode cL_law 1163 = .ok (.iload_n 3, 1) := by decide +kernel
theorem dL_law_1164 : decode cL_law 1164 = .ok (.iconst 2, 1) := by decide +kernel
theorem dL_law_1165 : decode cL_law 1165 = .ok (.iadd, 1) := by decide +kernel
theorem dL_law_1166 : decode cL_law 1166 = .ok (.iaload, 1) := by decide +kernel
theorem dL_law_1167 : decode cL_law 1167 = .ok (.invokevirtual 163, 3) := by decide +kernel
theorem dL_law_1170 : decode cL_law 1170 = .ok (.if_icmp .eq 153, 3) := by decide +kernel
theorem dL_law_1173 : decode cL_law 1173 = .ok (.iconst 0, 1) := by decide +kernel
theorem dL_law_1174 : decode cL_law 1174 = .ok (.ireturn, 1) := by decide +kernel
theorem dL_law_1175 : decode cL_law 1175 = .ok (.aload_n 1, 1) := by decide +kernel
theorem dL_law_1176 : decode cL_law 1176 = .ok (.aload_n 0, 1) := by decide +kernel
theorem dL_law_1177 : decode cL_law 1177 = .ok (.iload_n 3, 1) := by decide +kernel
theorem dL_law_1178 : decode cL_law 1178 = .ok (.iconst 1, 1) := by decide +kernel
theorem dL_law_1179 : decode cL_law 1179 = .ok (.iadd, 1) := by decide +kernel
theorem dL_law_1180 : decode cL_law 1180 = .ok (.iaload, 1) := by decide +kernel
theorem dL_law_1181 : decode cL_law 1181 = .ok (.aload_n 0, 1) := by decide +kernel
theorem dL_law_1182 : decode cL_law 1182 = .ok (.iload_n 3, 1) := by decide +kernel
theorem dL_law_1183 : decode cL_law 1183 = .ok (.iconst 2, 1) := by decide +kernel
theorem dL_law_1184 : decode cL_law 1184 = .ok (.iadd, 1) := by decide +kernel
theorem dL_law_1185 : decode cL_law 1185 = .ok (.iaload, 1) := by decide +kernel
theorem dL_law_1186 : decode cL_law 1186 = .ok (.invokevirtual 164, 3) := by decide +kernel
theorem dL_law_1189 : decode cL_law 1189 = .ok (.aload_n 2, 1) := by decide +kernel
theorem dL_law_1190 : decode cL_law 1190 = .ok (.aload_n 0, 1) := by decide +kernel
theorem dL_law_1191 : decode cL_law 1191 = .ok (.iload_n 3, 1) := by decide +kernel
theorem dL_law_1192 : decode cL_law 1192 = .ok (.iconst 1, 1) := by decide +kernel
theorem dL_law_1193 : decode cL_law 1193 = .ok (.iadd, 1) := by decide +kernel
theorem dL_law_1194 : decode cL_law 1194 = .ok (.iaload, 1) := by decide +kernel
theorem dL_law_1195 : decode cL_law 1195 = .ok (.aload_n 0, 1) := by decide +kernel
theorem dL_law_1196 : decode cL_law 1196 = .ok (.iload_n 3, 1) := by decide +kernel
theorem dL_law_1197 : decode cL_law 1197 = .ok (.iconst 2, 1) := by decide +kernel
theorem dL_law_1198 : decode cL_law 1198 = .ok (.iadd, 1) := by decide +kernel
theorem dL_law_1199 : decode cL_law 1199 = .ok (.iaload, 1) := by decide +kernel
theorem dL_law_1200 : decode cL_law 1200 = .ok (.invokevirtual 167, 3) := by decide +kernel
theorem dL_law_1203 : decode cL_law 1203 = .ok (.if_icmp .eq 120, 3) := by decide +kernel
theorem dL_law_1206 : decode cL_law 1206 = .ok (.iconst 0, 1) := by decide +kernel
theorem dL_law_1207 : decode cL_law 1207 = .ok (.ireturn, 1) := by decide +kernel
theorem dL_law_1208 : decode cL_law 1208 = .ok (.aload_n 1, 1) := by decide +kernel
theorem dL_law_1209 : decode cL_law 1209 = .ok (.aload_n 0, 1) := by decide +kernel
theorem dL_law_1210 : decode cL_law 1210 = .ok (.iload_n 3, 1) := by decide +kernel
theorem dL_law_1211 : decode cL_law 1211 = .ok (.iconst 1, 1) := by decide +kernel
theorem dL_law_1212 : decode cL_law 1212 = .ok (.iadd, 1) := by decide +kernel
theorem dL_law_1213 : decode cL_law 1213 = .ok (.iaload, 1) := by decide +kernel
theorem dL_law_1214 : decode cL_law 1214 = .ok (.aload_n 0, 1) := by decide +kernel
theorem dL_law_1215 : decode cL_law 1215 = .ok (.iload_n 3, 1) := by decide +kernel
theorem dL_law_1216 : decode cL_law 1216 = .ok (.iconst 2, 1) := by decide +kernel
theorem dL_law_1217 : decode cL_law 1217 = .ok (.iadd, 1) := by decide +kernel
theorem dL_law_1218 : decode cL_law 1218 = .ok (.iaload, 1) := by decide +kernel
theorem dL_law_1219 : decode cL_law 1219 = .ok (.invokevirtual 168, 3) := by decide +kernel
theorem dL_law_1222 : decode cL_law 1222 = .ok (.aload_n 2, 1) := by decide +kernel
theorem dL_law_1223 : decode cL_law 1223 = .ok (.aload_n 0, 1) := by decide +kernel
theorem dL_law_1224 : decode cL_law 1224 = .ok (.iload_n 3, 1) := by decide +kernel
theorem dL_law_1225 : decode cL_law 1225 = .ok (.iconst 1, 1) := by decide +kernel
theorem dL_law_1226 : decode cL_law 1226 = .ok (.iadd, 1) := by decide +kernel
theorem dL_law_1227 : decode cL_law 1227 = .ok (.iaload, 1) := by decide +kernel
theorem dL_law_1228 : decode cL_law 1228 = .ok (.aload_n 0, 1) := by decide +kernel
theorem dL_law_1229 : decode cL_law 1229 = .ok (.iload_n 3, 1) := by decide +kernel
theorem dL_law_1230 : decode cL_law 1230 = .ok (.iconst 2, 1) := by decide +kernel
theorem dL_law_1231 : decode cL_law 1231 = .ok (.iadd, 1) := by decide +kernel
theorem dL_law_1232 : decode cL_law 1232 = .ok (.iaload, 1) := by decide +kernel
theorem dL_law_1233 : decode cL_law 1233 = .ok (.invokevirtual 171, 3) := by decide +kernel
theorem dL_law_1236 : decode cL_law 1236 = .ok (.if_icmp .eq 87, 3) := by decide +kernel
theorem dL_law_1239 : decode cL_law 1239 = .ok (.iconst 0, 1) := by decide +kernel
theorem dL_law_1240 : decode cL_law 1240 = .ok (.ireturn, 1) := by decide +kernel
theorem dL_law_1241 : decode cL_law 1241 = .ok (.aload_n 1, 1) := by decide +kernel
theorem dL_law_1242 : decode cL_law 1242 = .ok (.aload_n 0, 1) := by decide +kernel
theorem dL_law_1243 : decode cL_law 1243 = .ok (.iload_n 3, 1) := by decide +kernel
theorem dL_law_1244 : decode cL_law 1244 = .ok (.iconst 1, 1) := by decide +kernel
theorem dL_law_1245 : decode cL_law 1245 = .ok (.iadd, 1) := by decide +kernel
theorem dL_law_1246 : decode cL_law 1246 = .ok (.iaload, 1) := by decide +kernel
theorem dL_law_1247 : decode cL_law 1247 = .ok (.invokevirtual 172, 3) := by decide +kernel
theorem dL_law_1250 : decode cL_law 1250 = .ok (.aload_n 2, 1) := by decide +kernel
theorem dL_law_1251 : decode cL_law 1251 = .ok (.aload_n 0, 1) := by decide +kernel
theorem dL_law_1252 : decode cL_law 1252 = .ok (.iload_n 3, 1) := by decide +kernel
theorem dL_law_1253 : decode cL_law 1253 = .ok (.iconst 1, 1) := by decide +kernel
theorem dL_law_1254 : decode cL_law 1254 = .ok (.iadd, 1) := by decide +kernel
theorem dL_law_1255 : decode cL_law 1255 = .ok (.iaload, 1) := by decide +kernel
theorem dL_law_1256 : decode cL_law 1256 = .ok (.invokevirtual 175, 3) := by decide +kernel
theorem dL_law_1259 : decode cL_law 1259 = .ok (.if_icmp .eq 64, 3) := by decide +kernel
theorem dL_law_1262 : decode cL_law 1262 = .ok (.iconst 0, 1) := by decide +kernel
theorem dL_law_1263 : decode cL_law 1263 = .ok (.ireturn, 1) := by decide +kernel
theorem dL_law_1264 : decode cL_law 1264 = .ok (.aload_n 1, 1) := by decide +kernel
theorem dL_law_1265 : decode cL_law 1265 = .ok (.aload_n 0, 1) := by decide +kernel
theorem dL_law_1266 : decode cL_law 1266 = .ok (.iload_n 3, 1) := by decide +kernel
theorem dL_law_1267 : decode cL_law 1267 = .ok (.iconst 1, 1) := by decide +kernel
theorem dL_law_1268 : decode cL_law 1268 = .ok (.iadd, 1) := by decide +kernel
theorem dL_law_1269 : decode cL_law 1269 = .ok (.iaload, 1) := by decide +kernel
theorem dL_law_1270 : decode cL_law 1270 = .ok (.invokevirtual 176, 3) := by decide +kernel
theorem dL_law_1273 : decode cL_law 1273 = .ok (.aload_n 2, 1) := by decide +kernel
theorem dL_law_1274 : decode cL_law 1274 = .ok (.aload_n 0, 1) := by decide +kernel
theorem dL_law_1275 : decode cL_law 1275 = .ok (.iload_n 3, 1) := by decide +kernel
theorem dL_law_1276 : decode cL_law 1276 = .ok (.iconst 1, 1) := by decide +kernel
theorem dL_law_1277 : decode cL_law 1277 = .ok (.iadd, 1) := by decide +kernel
theorem dL_law_1278 : decode cL_law 1278 = .ok (.iaload, 1) := by decide +kernel
theorem dL_law_1279 : decode cL_law 1279 = .ok (.invokevirtual 179, 3) := by decide +kernel
theorem dL_law_1282 : decode cL_law 1282 = .ok (.if_icmp .eq 41, 3) := by decide +kernel
theorem dL_law_1285 : decode cL_law 1285 = .ok (.iconst 0, 1) := by decide +kernel
theorem dL_law_1286 : decode cL_law 1286 = .ok (.ireturn, 1) := by decide +kernel
theorem dL_law_1287 : decode cL_law 1287 = .ok (.aload_n 1, 1) := by decide +kernel
theorem dL_law_1288 : decode cL_law 1288 = .ok (.aload_n 0, 1) := by decide +kernel
theorem dL_law_1289 : decode cL_law 1289 = .ok (.iload_n 3, 1) := by decide +kernel
theorem dL_law_1290 : decode cL_law 1290 = .ok (.iconst 1, 1) := by decide +kernel
theorem dL_law_1291 : decode cL_law 1291 = .ok (.iadd, 1) := by decide +kernel
theorem dL_law_1292 : decode cL_law 1292 = .ok (.iaload, 1) := by decide +kernel
theorem dL_law_1293 : decode cL_law 1293 = .ok (.invokevirtual 180, 3) := by decide +kernel
theorem dL_law_1296 : decode cL_law 1296 = .ok (.aload_n 2, 1) := by decide +kernel
theorem dL_law_1297 : decode cL_law 1297 = .ok (.aload_n 0, 1) := by decide +kernel
theorem dL_law_1298 : decode cL_law 1298 = .ok (.iload_n 3, 1) := by decide +kernel
theorem dL_law_1299 : decode cL_law 1299 = .ok (.iconst 1, 1) := by decide +kernel
theorem dL_law_1300 : decode cL_law 1300 = .ok (.iadd, 1) := by decide +kernel
theorem dL_law_1301 : decode cL_law 1301 = .ok (.iaload, 1) := by decide +kernel
theorem dL_law_1302 : decode cL_law 1302 = .ok (.invokevirtual 183, 3) := by decide +kernel
theorem dL_law_1305 : decode cL_law 1305 = .ok (.if_icmp .eq 18, 3) := by decide +kernel
theorem dL_law_1308 : decode cL_law 1308 = .ok (.iconst 0, 1) := by decide +kernel
theorem dL_law_1309 : decode cL_law 1309 = .ok (.ireturn, 1) := by decide +kernel
theorem dL_law_1310 : decode cL_law 1310 = .ok (.aload_n 1, 1) := by decide +kernel
theorem dL_law_1311 : decode cL_law 1311 = .ok (.invokevirtual 184, 3) := by decide +kernel
theorem dL_law_1314 : decode cL_law 1314 = .ok (.aload_n 2, 1) := by decide +kernel
theorem dL_law_1315 : decode cL_law 1315 = .ok (.invokevirtual 187, 3) := by decide +kernel
theorem dL_law_1318 : decode cL_law 1318 = .ok (.if_icmp .eq 5, 3) := by decide +kernel
theorem dL_law_1321 : decode cL_law 1321 = .ok (.iconst 0, 1) := by decide +kernel
theorem dL_law_1322 : decode cL_law 1322 = .ok (.ireturn, 1) := by decide +kernel
theorem dL_law_1323 : decode cL_law 1323 = .ok (.iinc 3 6, 3) := by decide +kernel
theorem dL_law_1326 : decode cL_law 1326 = .ok (.goto (-1308), 3) := by decide +kernel
theorem dL_law_1329 : decode cL_law 1329 = .ok (.iconst 1, 1) := by decide +kernel
theorem dL_law_1330 : decode cL_law 1330 = .ok (.ireturn, 1) := by decide +kernel
theorem dX0_init_0 : decode cX0_init 0 = .ok (.aload_n 0, 1) := by decide +kernel
theorem dX0_init_1 : decode cX0_init 1 = .ok (.invokespecial 3, 3) := by decide +kernel
theorem dX0_init_4 : decode cX0_init 4 = .ok (.aload_n 0, 1) := by decide +kernel
theorem dX0_init_5 : decode cX0_init 5 = .ok (.iconst 0, 1) := by decide +kernel
theorem dX0_init_6 : decode cX0_init 6 = .ok (.putfield 9, 3) := by decide +kernel
theorem dX0_init_9 : decode cX0_init 9 = .ok (.aload_n 0, 1) := by decide +kernel
theorem dX0_init_10 : decode cX0_init 10 = .ok (.bipush 8, 2) := by decide +kernel
theorem dX0_init_12 : decode cX0_init 12 = .ok (.newarray .int, 2) := by decide +kernel
theorem dX0_init_14 : decode cX0_init 14 = .ok (.putfield 15, 3) := by decide +kernel
theorem dX0_init_17 : decode cX0_init 17 = .ok (.aload_n 0, 1) := by decide +kernel
theorem dX0_init_18 : decode cX0_init 18 = .ok (.iconst 0, 1) := by decide +kernel
theorem dX0_init_19 : decode cX0_init 19 = .ok (.putfield 19, 3) := by decide +kernel
theorem dX0_init_22 : decode cX0_init 22 = .ok (.aload_n 0, 1) := by decide +kernel
theorem dX0_init_23 : decode cX0_init 23 = .ok (.bipush 8, 2) := by decide +kernel
theorem dX0_init_25 : decode cX0_init 25 = .ok (.newarray .int, 2) := by decide +kernel
theorem dX0_init_27 : decode cX0_init 27 = .ok (.putfield 22, 3) := by decide +kernel
theorem dX0_init_30 : decode cX0_init 30 = .ok (.aload_n 0, 1) := by decide +kernel
theorem dX0_init_31 : decode cX0_init 31 = .ok (.bipush 8, 2) := by decide +kernel
theorem dX0_init_33 : decode cX0_init 33 = .ok (.newarray .int, 2) := by decide +kernel
theorem dX0_init_35 : decode cX0_init 35 = .ok (.putfield 25, 3) := by decide +kernel
theorem dX0_init_38 : decode cX0_init 38 = .ok (.aload_n 0, 1) := by decide +kernel
theorem dX0_init_39 : decode cX0_init 39 = .ok (.bipush 8, 2) := by decide +kernel
theorem dX0_init_41 : decode cX0_init 41 = .ok (.newarray .int, 2) := by decide +kernel
theorem dX0_init_43 : decode cX0_init 43 = .ok (.putfield 28, 3) := by decide +kernel
theorem dX0_init_46 : decode cX0_init 46 = .ok (.aload_n 0, 1) := by decide +kernel
theorem dX0_init_47 : decode cX0_init 47 = .ok (.bipush 8, 2) := by decide +kernel
theorem dX0_init_49 : decode cX0_init 49 = .ok (.newarray .int, 2) := by decide +kernel
theorem dX0_init_51 : decode cX0_init 51 = .ok (.putfield 31, 3) := by decide +kernel
theorem dX0_init_54 : decode cX0_init 54 = .ok (.aload_n 0, 1) := by decide +kernel
theorem dX0_init_55 : decode cX0_init 55 = .ok (.bipush 8, 2) := by decide +kernel
theorem dX0_init_57 : decode cX0_init 57 = .ok (.newarray .int, 2) := by decide +kernel
theorem dX0_init_59 : decode cX0_init 59 = .ok (.putfield 34, 3) := by decide +kernel
theorem dX0_init_62 : decode cX0_init 62 = .ok (.aload_n 0, 1) := by decide +kernel
theorem dX0_init_63 : decode cX0_init 63 = .ok (.bipush 8, 2) := by decide +kernel
theorem dX0_init_65 : decode cX0_init 65 = .ok (.newarray .int, 2) := by decide +kernel
theorem dX0_init_67 : decode cX0_init 67 = .ok (.putfield 37, 3) := by decide +kernel
theorem dX0_init_70 : decode cX0_init 70 = .ok (.aload_n 0, 1) := by decide +kernel
theorem dX0_init_71 : decode cX0_init 71 = .ok (.bipush 8, 2) := by decide +kernel
theorem dX0_init_73 : decode cX0_init 73 = .ok (.newarray .int, 2) := by decide +kernel
theorem dX0_init_75 : decode cX0_init 75 = .ok (.putfield 40, 3) := by decide +kernel
theorem dX0_init_78 : decode cX0_init 78 = .ok (.aload_n 0, 1) := by decide +kernel
theorem dX0_init_79 : decode cX0_init 79 = .ok (.bipush 25, 2) := by decide +kernel
theorem dX0_init_81 : decode cX0_init 81 = .ok (.newarray .int, 2) := by decide +kernel
theorem dX0_init_83 : decode cX0_init 83 = .ok (.putfield 43, 3) := by decide +kernel
theorem dX0_init_86 : decode cX0_init 86 = .ok (.aload_n 0, 1) := by decide +kernel
theorem dX0_init_87 : decode cX0_init 87 = .ok (.bipush 25, 2) := by decide +kernel
theorem dX0_init_89 : decode cX0_init 89 = .ok (.newarray .int, 2) := by decide +kernel
theorem dX0_init_91 : decode cX0_init 91 = .ok (.putfield 46, 3) := by decide +kernel
theorem dX0_init_94 : decode cX0_init 94 = .ok (.aload_n 0, 1) := by decide +kernel
theorem dX0_init_95 : decode cX0_init 95 = .ok (.iconst 0, 1) := by decide +kernel
theorem dX0_init_96 : decode cX0_init 96 = .ok (.putfield 49, 3) := by decide +kernel
theorem dX0_init_99 : decode cX0_init 99 = .ok (.aload_n 0, 1) := by decide +kernel
theorem dX0_init_100 : decode cX0_init 100 = .ok (.bipush 8, 2) := by decide +kernel
theorem dX0_init_102 : decode cX0_init 102 = .ok (.newarray .int, 2) := by decide +kernel
theorem dX0_init_104 : decode cX0_init 104 = .ok (.putfield 52, 3) := by decide +kernel
theorem dX0_init_107 : decode cX0_init 107 = .ok (.aload_n 0, 1) := by decide +kernel
theorem dX0_init_108 : decode cX0_init 108 = .ok (.iconst 0, 1) := by decide +kernel
theorem dX0_init_109 : decode cX0_init 109 = .ok (.putfield 55, 3) := by decide +kernel
theorem dX0_init_112 : decode cX0_init 112 = .ok (.aload_n 0, 1) := by decide +kernel
theorem dX0_init_113 : decode cX0_init 113 = .ok (.iconst 0, 1) := by decide +kernel
theorem dX0_init_114 : decode cX0_init 114 = .ok (.putfield 58, 3) := by decide +kernel
theorem dX0_init_117 : decode cX0_init 117 = .ok (.aload_n 0, 1) := by decide +kernel
theorem dX0_init_118 : decode cX0_init 118 = .ok (.iconst 0, 1) := by decide +kernel
theorem dX0_init_119 : decode cX0_init 119 = .ok (.putfield 61, 3) := by decide +kernel
theorem dX0_init_122 : decode cX0_init 122 = .ok (.aload_n 0, 1) := by decide +kernel
theorem dX0_init_123 : decode cX0_init 123 = .ok (.bipush 6, 2) := by decide +kernel
theorem dX0_init_125 : decode cX0_init 125 = .ok (.anewarray 64, 3) := by decide +kernel
theorem dX0_init_128 : decode cX0_init 128 = .ok (.putfield 66, 3) := by decide +kernel
theorem dX0_init_131 : decode cX0_init 131 = .ok (.aload_n 0, 1) := by decide +kernel
theorem dX0_init_132 : decode cX0_init 132 = .ok (.iconst (-1), 1) := by decide +kernel
theorem dX0_init_133 : decode cX0_init 133 = .ok (.putfield 70, 3) := by decide +kernel
theorem dX0_init_136 : decode cX0_init 136 = .ok (.aload_n 0, 1) := by decide +kernel
theorem dX0_init_137 : decode cX0_init 137 = .ok (.getfield 43, 3) := by decide +kernel
theorem dX0_init_140 : decode cX0_init 140 = .ok (.bipush 10, 2) := by decide +kernel
theorem dX0_init_142 : decode cX0_init 142 = .ok (.invokestatic 73, 3) := by decide +kernel
theorem dX0_init_145 : decode cX0_init 145 = .ok (.return_, 1) := by decide +kernel
theorem dX0_copyFrom_0 : decode cX0_copyFrom 0 = .ok (.aload_n 0, 1) := by decide +kernel
theorem dX0_copyFrom_1 : decode cX0_copyFrom 1 = .ok (.aload_n 1, 1) := by decide +kernel
theorem dX0_copyFrom_2 : decode cX0_copyFrom 2 = .ok (.getfield 9, 3) := by decide +kernel
theorem dX0_copyFrom_5 : decode cX0_copyFrom 5 = .ok (.putfield 9, 3) := by decide +kernel
theorem dX0_copyFrom_8 : decode cX0_copyFrom 8 = .ok (.aload_n 0, 1) := by decide +kernel
theorem dX0_copyFrom_9 : decode cX0_copyFrom 9 = .ok (.aload_n 1, 1) := by decide +kernel
theorem dX0_copyFrom_10 : decode cX0_copyFrom 10 = .ok (.getfield 19, 3) := by decide +kernel
theorem dX0_copyFrom_13 : decode cX0_copyFrom 13 = .ok (.putfield 19, 3) := by decide +kernel
theorem dX0_copyFrom_16 : decode cX0_copyFrom 16 = .ok (.aload_n 0, 1) := by decide +kernel
theorem dX0_copyFrom_17 : decode cX0_copyFrom 17 = .ok (.aload_n 1, 1) := by decide +kernel
theorem dX0_copyFrom_18 : decode cX0_copyFrom 18 = .ok (.getfield 49, 3) := by decide +kernel
theorem dX0_copyFrom_21 : decode cX0_copyFrom 21 = .ok (.putfield 49, 3) := by decide +kernel
theorem dX0_copyFrom_24 : decode cX0_copyFrom 24 = .ok (.aload_n 0, 1) := by decide +kernel
theorem dX0_copyFrom_25 : decode cX0_copyFrom 25 = .ok (.aload_n 1, 1) := by decide +kernel
theorem dX0_copyFrom_26 : decode cX0_copyFrom 26 = .ok (.getfield 55, 3) := by decide +kernel
theorem dX0_copyFrom_29 : decode cX0_copyFrom 29 = .ok (.putfield 55, 3) := by decide +kernel
theorem dX0_copyFrom_32 : decode cX0_copyFrom 32 = .ok (.aload_n 0, 1) := by decide +kernel
theorem dX0_copyFrom_33 : decode cX0_copyFrom 33 = .ok (.aload_n 1, 1) := by decide +kernel
theorem dX0_copyFrom_34 : decode cX0_copyFrom 34 = .ok (.getfield 58, 3) := by decide +kernel
theorem dX0_copyFrom_37 : decode cX0_copyFrom 37 = .ok (.putfield 58, 3) := by decide +kernel
theorem dX0_copyFrom_40 : decode cX0_copyFrom 40 = .ok (.aload_n 0, 1) := by decide +kernel
theorem dX0_copyFrom_41 : decode cX0_copyFrom 41 = .ok (.aload_n 1, 1) := by decide +kernel
theorem dX0_copyFrom_42 : decode cX0_copyFrom 42 = .ok (.getfield 61, 3) := by decide +kernel
theorem dX0_copyFrom_45 : decode cX0_copyFrom 45 = .ok (.putfield 61, 3) := by decide +kernel
theorem dX0_copyFrom_48 : decode cX0_copyFrom 48 = .ok (.aload_n 0, 1) := by decide +kernel
theorem dX0_copyFrom_49 : decode cX0_copyFrom 49 = .ok (.aload_n 1, 1) := by decide +kernel
theorem dX0_copyFrom_50 : decode cX0_copyFrom 50 = .ok (.getfield 70, 3) := by decide +kernel
theorem dX0_copyFrom_53 : decode cX0_copyFrom 53 = .ok (.putfield 70, 3) := by decide +kernel
theorem dX0_copyFrom_56 : decode cX0_copyFrom 56 = .ok (.aload_n 1, 1) := by decide +kernel
theorem dX0_copyFrom_57 : decode cX0_copyFrom 57 = .ok (.getfield 15, 3) := by decide +kernel
theorem dX0_copyFrom_60 : decode cX0_copyFrom 60 = .ok (.iconst 0, 1) := by decide +kernel
theorem dX0_copyFrom_61 : decode cX0_copyFrom 61 = .ok (.aload_n 0, 1) := by decide +kernel
theorem dX0_copyFrom_62 : decode cX0_copyFrom 62 = .ok (.getfield 15, 3) := by decide +kernel
theorem dX0_copyFrom_65 : decode cX0_copyFrom 65 = .ok (.iconst 0, 1) := by decide +kernel
theorem dX0_copyFrom_66 : decode cX0_copyFrom 66 = .ok (.bipush 8, 2) := by decide +kernel
theorem dX0_copyFrom_68 : decode cX0_copyFrom 68 = .ok (.invokestatic 79, 3) := by decide +kernel
theorem dX0_copyFrom_71 : decode cX0_copyFrom 71 = .ok (.aload_n 1, 1) := by decide +kernel
theorem dX0_copyFrom_72 : decode cX0_copyFrom 72 = .ok (.getfield 22, 3) := by decide +kernel
theorem dX0_copyFrom_75 : decode cX0_copyFrom 75 = .ok (.iconst 0, 1) := by decide +kernel
theorem dX0_copyFrom_76 : decode cX0_copyFrom 76 = .ok (.aload_n 0, 1) := by decide +kernel
theorem dX0_copyFrom_77 : decode cX0_copyFrom 77 = .ok (.getfield 22, 3) := by decide +kernel
theorem dX0_copyFrom_80 : decode cX0_copyFrom 80 = .ok (.iconst 0, 1) := by decide +kernel
theorem dX0_copyFrom_81 : decode cX0_copyFrom 81 = .ok (.bipush 8, 2) := by decide +kernel
theorem dX0_copyFrom_83 : decode cX0_copyFrom 83 = .ok (.invokestatic 79, 3) := by decide +kernel
theorem dX0_copyFrom_86 : decode cX0_copyFrom 86 = .ok (.aload_n 1, 1) := by decide +kernel
theorem dX0_copyFrom_87 : decode cX0_copyFrom 87 = .ok (.getfield 25, 3) := by decide +kernel
theorem dX0_copyFrom_90 : decode cX0_copyFrom 90 = .ok (.iconst 0, 1) := by decide +kernel
theorem dX0_copyFrom_91 : decode cX0_copyFrom 91 = .ok (.aload_n 0, 1) := by decide +kernel
theorem dX0_copyFrom_92 : decode cX0_copyFrom 92 = .ok (.getfield 25, 3) := by decide +kernel
theorem dX0_copyFrom_95 : decode cX0_copyFrom 95 = .ok (.iconst 0, 1) := by decide +kernel
theorem dX0_copyFrom_96 : decode cX0_copyFrom 96 = .ok (.bipush 8, 2) := by decide +kernel
theorem dX0_copyFrom_98 : decode cX0_copyFrom 98 = .ok (.invokestatic 79, 3) := by decide +kernel
theorem dX0_copyFrom_101 : decode cX0_copyFrom 101 = .ok (.aload_n 1, 1) := by decide +kernel
theorem dX0_copyFrom_102 : decode cX0_copyFrom 102 = .ok (.getfield 28, 3) := by decide +kernel
theorem dX0_copyFrom_105 : decode cX0_copyFrom 105 = .ok (.iconst 0, 1) := by decide +kernel
theorem dX0_copyFrom_106 : decode cX0_copyFrom 106 = .ok (.aload_n 0, 1) := by decide +kernel
theorem dX0_copyFrom_107 : decode cX0_copyFrom 107 = .ok (.getfield 28, 3) := by decide +kernel
theorem dX0_copyFrom_110 : decode cX0_copyFrom 110 = .ok (.iconst 0, 1) := by decide +kernel
theorem dX0_copyFrom_111 : decode cX0_copyFrom 111 = .ok (.bipush 8, 2) := by decide +kernel
theorem dX0_copyFrom_113 : decode cX0_copyFrom 113 = .ok (.invokestatic 79, 3) := by decide +kernel
theorem dX0_copyFrom_116 : decode cX0_copyFrom 116 = .ok (.aload_n 1, 1) := by decide +kernel
theorem dX0_copyFrom_117 : decode cX0_copyFrom 117 = .ok (.getfield 31, 3) := by decide +kernel
theorem dX0_copyFrom_120 : decode cX0_copyFrom 120 = .ok (.iconst 0, 1) := by decide +kernel
theorem dX0_copyFrom_121 : decode cX0_copyFrom 121 = .ok (.aload_n 0, 1) := by decide +kernel
theorem dX0_copyFrom_122 : decode cX0_copyFrom 122 = .ok (.getfield 31, 3) := by decide +kernel
theorem dX0_copyFrom_125 : decode cX0_copyFrom 125 = .ok (.iconst 0, 1) := by decide +kernel
theorem dX0_copyFrom_126 : decode cX0_copyFrom 126 = .ok (.bipush 8, 2) := by decide +kernel
theorem dX0_copyFrom_128 : decode cX0_copyFrom 128 = .ok (.invokestatic 79, 3) := by decide +kernel
theorem dX0_copyFrom_131 : decode cX0_copyFrom 131 = .ok (.aload_n 1, 1) := by decide +kernel
theorem dX0_copyFrom_132 : decode cX0_copyFrom 132 = .ok (.getfield 34, 3) := by decide +kernel
theorem dX0_copyFrom_135 : decode cX0_copyFrom 135 = .ok (.iconst 0, 1) := by decide +kernel
theorem dX0_copyFrom_136 : decode cX0_copyFrom 136 = .ok (.aload_n 0, 1) := by decide +kernel
theorem dX0_copyFrom_137 : decode cX0_copyFrom 137 = .ok (.getfield 34, 3) := by decide +kernel
theorem dX0_copyFrom_140 : decode cX0_copyFrom 140 = .ok (.iconst 0, 1) := by decide +kernel
theorem dX0_copyFrom_141 : decode cX0_copyFrom 141 = .ok (.bipush 8, 2) := by decide +kernel
theorem dX0_copyFrom_143 : decode cX0_copyFrom 143 = .ok (.invokestatic 79, 3) := by decide +kernel
theorem dX0_copyFrom_146 : decode cX0_copyFrom 146 = .ok (.aload_n 1, 1) := by decide +kernel
theorem dX0_copyFrom_147 : decode cX0_copyFrom 147 = .ok (.getfield 37, 3) := by decide +kernel
theorem dX0_copyFrom_150 : decode cX0_copyFrom 150 = .ok (.iconst 0, 1) := by decide +kernel
theorem dX0_copyFrom_151 : decode cX0_copyFrom 151 = .ok (.aload_n 0, 1) := by decide +kernel
theorem dX0_copyFrom_152 : decode cX0_copyFrom 152 = .ok (.getfield 37, 3) := by decide +kernel
theorem dX0_copyFrom_155 : decode cX0_copyFrom 155 = .ok (.iconst 0, 1) := by decide +kernel
theorem dX0_copyFrom_156 : decode cX0_copyFrom 156 = .ok (.bipush 8, 2) := by decide +kernel
theorem dX0_copyFrom_158 : decode cX0_copyFrom 158 = .ok (.invokestatic 79, 3) := by decide +kernel
theorem dX0_copyFrom_161 : decode cX0_copyFrom 161 = .ok (.aload_n 1, 1) := by decide +kernel
theorem dX0_copyFrom_162 : decode cX0_copyFrom 162 = .ok (.getfield 40, 3) := by decide +kernel
theorem dX0_copyFrom_165 : decode cX0_copyFrom 165 = .ok (.iconst 0, 1) := by decide +kernel
theorem dX0_copyFrom_166 : decode cX0_copyFrom 166 = .ok (.aload_n 0, 1) := by decide +kernel
theorem dX0_copyFrom_167 : decode cX0_copyFrom 167 = .ok (.getfield 40, 3) := by decide +kernel
theorem dX0_copyFrom_170 : decode cX0_copyFrom 170 = .ok (.iconst 0, 1) := by decide +kernel
theorem dX0_copyFrom_171 : decode cX0_copyFrom 171 = .ok (.bipush 8, 2) := by decide +kernel
theorem dX0_copyFrom_173 : decode cX0_copyFrom 173 = .ok (.invokestatic 79, 3) := by decide +kernel
theorem dX0_copyFrom_176 : decode cX0_copyFrom 176 = .ok (.aload_n 1, 1) := by decide +kernel
theorem dX0_copyFrom_177 : decode cX0_copyFrom 177 = .ok (.getfield 43, 3) := by decide +kernel
theorem dX0_copyFrom_180 : decode cX0_copyFrom 180 = .ok (.iconst 0, 1) := by decide +kernel
theorem dX0_copyFrom_181 : decode cX0_copyFrom 181 = .ok (.aload_n 0, 1) := by decide +kernel
theorem dX0_copyFrom_182 : decode cX0_copyFrom 182 = .ok (.getfield 43, 3) := by decide +kernel
theorem dX0_copyFrom_185 : decode cX0_copyFrom 185 = .ok (.iconst 0, 1) := by decide +kernel
theorem dX0_copyFrom_186 : decode cX0_copyFrom 186 = .ok (.bipush 25, 2) := by decide +kernel
theorem dX0_copyFrom_188 : decode cX0_copyFrom 188 = .ok (.invokestatic 79, 3) := by decide +kernel
theorem dX0_copyFrom_191 : decode cX0_copyFrom 191 = .ok (.aload_n 1, 1) := by decide +kernel
theorem dX0_copyFrom_192 : decode cX0_copyFrom 192 = .ok (.getfield 46, 3) := by decide +kernel
theorem dX0_copyFrom_195 : decode cX0_copyFrom 195 = .ok (.iconst 0, 1) := by decide +kernel
theorem dX0_copyFrom_196 : decode cX0_copyFrom 196 = .ok (.aload_n 0, 1) := by decide +kernel
theorem dX0_copyFrom_197 : decode cX0_copyFrom 197 = .ok (.getfield 46, 3) := by decide +kernel
theorem dX0_copyFrom_200 : decode cX0_copyFrom 200 = .ok (.iconst 0, 1) := by decide +kernel
theorem dX0_copyFrom_201 : decode cX0_copyFrom 201 = .ok (.bipush 25, 2) := by decide +kernel
theorem dX0_copyFrom_203 : decode cX0_copyFrom 203 = .ok (.invokestatic 79, 3) := by decide +kernel
theorem dX0_copyFrom_206 : decode cX0_copyFrom 206 = .ok (.aload_n 1, 1) := by decide +kernel
theorem dX0_copyFrom_207 : decode cX0_copyFrom 207 = .ok (.getfield 52, 3) := by decide +kernel
theorem dX0_copyFrom_210 : decode cX0_copyFrom 210 = .ok (.iconst 0, 1) := by decide +kernel
theorem dX0_copyFrom_211 : decode cX0_copyFrom 211 = .ok (.aload_n 0, 1) := by decide +kernel
theorem dX0_copyFrom_212 : decode cX0_copyFrom 212 = .ok (.getfield 52, 3) := by decide +kernel
theorem dX0_copyFrom_215 : decode cX0_copyFrom 215 = .ok (.iconst 0, 1) := by decide +kernel
theorem dX0_copyFrom_216 : decode cX0_copyFrom 216 = .ok (.bipush 8, 2) := by decide +kernel
theorem dX0_copyFrom_218 : decode cX0_copyFrom 218 = .ok (.invokestatic 79, 3) := by decide +kernel
theorem dX0_copyFrom_221 : decode cX0_copyFrom 221 = .ok (.iconst 0, 1) := by decide +kernel
theorem dX0_copyFrom_222 : decode cX0_copyFrom 222 = .ok (.istore_n 2, 1) := by decide +kernel
theorem dX0_copyFrom_223 : decode cX0_copyFrom 223 = .ok (.iload_n 2, 1) := by decide +kernel
theorem dX0_copyFrom_224 : decode cX0_copyFrom 224 = .ok (.bipush 6, 2) := by decide +kernel
theorem dX0_copyFrom_226 : decode cX0_copyFrom 226 = .ok (.if_icmp .ge 21, 3) := by decide +kernel
theorem dX0_copyFrom_229 : decode cX0_copyFrom 229 = .ok (.aload_n 0, 1) := by decide +kernel
theorem dX0_copyFrom_230 : decode cX0_copyFrom 230 = .ok (.getfield 66, 3) := by decide +kernel
theorem dX0_copyFrom_233 : decode cX0_copyFrom 233 = .ok (.iload_n 2, 1) := by decide +kernel
theorem dX0_copyFrom_234 : decode cX0_copyFrom 234 = .ok (.aload_n 1, 1) := by decide +kernel
theorem dX0_copyFrom_235 : decode cX0_copyFrom 235 = .ok (.getfield 66, 3) := by decide +kernel
theorem dX0_copyFrom_238 : decode cX0_copyFrom 238 = .ok (.iload_n 2, 1) := by decide +kernel
theorem dX0_copyFrom_239 : decode cX0_copyFrom 239 = .ok (.aaload, 1) := by decide +kernel
theorem dX0_copyFrom_240 : decode cX0_copyFrom 240 = .ok (.aastore, 1) := by decide +kernel
theorem dX0_copyFrom_241 : decode cX0_copyFrom 241 = .ok (.iinc 2 1, 3) := by decide +kernel
theorem dX0_copyFrom_244 : decode cX0_copyFrom 244 = .ok (.goto (-21), 3) := by decide +kernel
theorem dX0_copyFrom_247 : decode cX0_copyFrom 247 = .ok (.return_, 1) := by decide +kernel
theorem dX0_isHouse_0 : decode cX0_isHouse 0 = .ok (.iload_n 1, 1) := by decide +kernel
theorem dX0_isHouse_1 : decode cX0_isHouse 1 = .ok (.ifCond .lt 15, 3) := by decide +kernel
theorem dX0_isHouse_4 : decode cX0_isHouse 4 = .ok (.iload_n 1, 1) := by decide +kernel
theorem dX0_isHouse_5 : decode cX0_isHouse 5 = .ok (.aload_n 0, 1) := by decide +kernel
theorem dX0_isHouse_6 : decode cX0_isHouse 6 = .ok (.getfield 9, 3) := by decide +kernel
theorem dX0_isHouse_9 : decode cX0_isHouse 9 = .ok (.if_icmp .ge 7, 3) := by decide +kernel
theorem dX0_isHouse_12 : decode cX0_isHouse 12 = .ok (.iconst 1, 1) := by decide +kernel
theorem dX0_isHouse_13 : decode cX0_isHouse 13 = .ok (.goto 4, 3) := by decide +kernel
theorem dX0_isHouse_16 : decode cX0_isHouse 16 = .ok (.iconst 0, 1) := by decide +kernel
theorem dX0_isHouse_17 : decode cX0_isHouse 17 = .ok (.ireturn, 1) := by decide +kernel
theorem dX0_isDoor_0 : decode cX0_isDoor 0 = .ok (.iload_n 1, 1) := by decide +kernel
theorem dX0_isDoor_1 : decode cX0_isDoor 1 = .ok (.ifCond .lt 15, 3) := by decide +kernel
theorem dX0_isDoor_4 : decode cX0_isDoor 4 = .ok (.iload_n 1, 1) := by decide +kernel
theorem dX0_isDoor_5 : decode cX0_isDoor 5 = .ok (.aload_n 0, 1) := by decide +kernel
theorem dX0_isDoor_6 : decode cX0_isDoor 6 = .ok (.getfield 19, 3) := by decide +kernel
theorem dX0_isDoor_9 : decode cX0_isDoor 9 = .ok (.if_icmp .ge 7, 3) := by decide +kernel
theorem dX0_isDoor_12 : decode cX0_isDoor 12 = .ok (.iconst 1, 1) := by decide +kernel
theorem dX0_isDoor_13 : decode cX0_isDoor 13 = .ok (.goto 4, 3) := by decide +kernel
theorem dX0_isDoor_16 : decode cX0_isDoor 16 = .ok (.iconst 0, 1) := by decide +kernel
theorem dX0_isDoor_17 : decode cX0_isDoor 17 = .ok (.ireturn, 1) := by decide +kernel
theorem dX0_isLost_0 : decode cX0_isLost 0 = .ok (.aload_n 0, 1) := by decide +kernel
theorem dX0_isLost_1 : decode cX0_isLost 1 = .ok (.getfield 34, 3) := by decide +kernel
theorem dX0_isLost_4 : decode cX0_isLost 4 = .ok (.iload_n 1, 1) := by decide +kernel
theorem dX0_isLost_5 : decode cX0_isLost 5 = .ok (.iaload, 1) := by decide +kernel
theorem dX0_isLost_6 : decode cX0_isLost 6 = .ok (.iconst (-1), 1) := by decide +kernel
theorem dX0_isLost_7 : decode cX0_isLost 7 = .ok (.if_icmp .ne 17, 3) := by decide +kernel
theorem dX0_isLost_10 : decode cX0_isLost 10 = .ok (.aload_n 0, 1) := by decide +kernel
theorem dX0_isLost_11 : decode cX0_isLost 11 = .ok (.getfield 37, 3) := by decide +kernel
theorem dX0_isLost_14 : decode cX0_isLost 14 = .ok (.iload_n 1, 1) := by decide +kernel
theorem dX0_isLost_15 : decode cX0_isLost 15 = .ok (.iaload, 1) := by decide +kernel
theorem dX0_isLost_16 : decode cX0_isLost 16 = .ok (.iconst (-1), 1) := by decide +kernel
theorem dX0_isLost_17 : decode cX0_isLost 17 = .ok (.if_icmp .ne 7, 3) := by decide +kernel
theorem dX0_isLost_20 : decode cX0_isLost 20 = .ok (.iconst 1, 1) := by decide +kernel
theorem dX0_isLost_21 : decode cX0_isLost 21 = .ok (.goto 4, 3) := by decide +kernel
theorem dX0_isLost_24 : decode cX0_isLost 24 = .ok (.iconst 0, 1) := by decide +kernel
theorem dX0_isLost_25 : decode cX0_isLost 25 = .ok (.ireturn, 1) := by decide +kernel
theorem dX0_doorIn_0 : decode cX0_doorIn 0 = .ok (.iconst 0, 1) := by decide +kernel
theorem dX0_doorIn_1 : decode cX0_doorIn 1 = .ok (.istore_n 2, 1) := by decide +kernel
theorem dX0_doorIn_2 : decode cX0_doorIn 2 = .ok (.iload_n 2, 1) := by decide +kernel
theorem dX0_doorIn_3 : decode cX0_doorIn 3 = .ok (.aload_n 0, 1) := by decide +kernel
theorem dX0_doorIn_4 : decode cX0_doorIn 4 = .ok (.getfield 19, 3) := by decide +kernel
theorem dX0_doorIn_7 : decode cX0_doorIn 7 = .ok (.if_icmp .ge 21, 3) := by decide +kernel
theorem dX0_doorIn_10 : decode cX0_doorIn 10 = .ok (.aload_n 0, 1) := by decide +kernel
theorem dX0_doorIn_11 : decode cX0_doorIn 11 = .ok (.getfield 34, 3) := by decide +kernel
theorem dX0_doorIn_14 : decode cX0_doorIn 14 = .ok (.iload_n 2, 1) := by decide +kernel
theorem dX0_doorIn_15 : decode cX0_doorIn 15 = .ok (.iaload, 1) := by decide +kernel
theorem dX0_doorIn_16 : decode cX0_doorIn 16 = .ok (.iload_n 1, 1) := by decide +kernel
theorem dX0_doorIn_17 : decode cX0_doorIn 17 = .ok (.if_icmp .ne 5, 3) := by decide +kernel
theorem dX0_doorIn_20 : decode cX0_doorIn 20 = .ok (.iload_n 2, 1) := by decide +kernel
theorem dX0_doorIn_21 : decode cX0_doorIn 21 = .ok (.ireturn, 1) := by decide +kernel
theorem dX0_doorIn_22 : decode cX0_doorIn 22 = .ok (.iinc 2 1, 3) := by decide +kernel
theorem dX0_doorIn_25 : decode cX0_doorIn 25 = .ok (.goto (-23), 3) := by decide +kernel
theorem dX0_doorIn_28 : decode cX0_doorIn 28 = .ok (.iconst (-1), 1) := by decide +kernel
theorem dX0_doorIn_29 : decode cX0_doorIn 29 = .ok (.ireturn, 1) := by decide +kernel
theorem dX0_open_0 : decode cX0_open 0 = .ok (.iconst 0, 1) := by decide +kernel
theorem dX0_open_1 : decode cX0_open 1 = .ok (.istore_n 1, 1) := by decide +kernel
theorem dX0_open_2 : decode cX0_open 2 = .ok (.iconst 0, 1) := by decide +kernel
theorem dX0_open_3 : decode cX0_open 3 = .ok (.istore_n 2, 1) := by decide +kernel
theorem dX0_open_4 : decode cX0_open 4 = .ok (.iload_n 2, 1) := by decide +kernel
theorem dX0_open_5 : decode cX0_open 5 = .ok (.aload_n 0, 1) := by decide +kernel
theorem dX0_open_6 : decode cX0_open 6 = .ok (.getfield 9, 3) := by decide +kernel
theorem dX0_open_9 : decode cX0_open 9 = .ok (.if_icmp .ge 21, 3) := by decide +kernel
theorem dX0_open_12 : decode cX0_open 12 = .ok (.aload_n 0, 1) := by decide +kernel
theorem dX0_open_13 : decode cX0_open 13 = .ok (.iload_n 2, 1) := by decide +kernel
theorem dX0_open_14 : decode cX0_open 14 = .ok (.invokevirtual 85, 3) := by decide +kernel
theorem dX0_open_17 : decode cX0_open 17 = .ok (.iconst (-1), 1) := by decide +kernel
theorem dX0_open_18 : decode cX0_open 18 = .ok (.if_icmp .ne 6, 3) := by decide +kernel
theorem dX0_open_21 : decode cX0_open 21 = .ok (.iinc 1 1, 3) := by decide +kernel
theorem dX0_open_24 : decode cX0_open 24 = .ok (.iinc 2 1, 3) := by decide +kernel
theorem dX0_open_27 : decode cX0_open 27 = .ok (.goto (-23), 3) := by decide +kernel
theorem dX0_open_30 : decode cX0_open 30 = .ok (.iload_n 1, 1) := by decide +kernel
theorem dX0_open_31 : decode cX0_open 31 = .ok (.ireturn, 1) := by decide +kernel
theorem dX0_lost_0 : decode cX0_lost 0 = .ok (.iconst 0, 1) := by decide +kernel
theorem dX0_lost_1 : decode cX0_lost 1 = .ok (.istore_n 1, 1) := by decide +kernel
theorem dX0_lost_2 : decode cX0_lost 2 = .ok (.iconst 0, 1) := by decide +kernel
theorem dX0_lost_3 : decode cX0_lost 3 = .ok (.istore_n 2, 1) := by decide +kernel
theorem dX0_lost_4 : decode cX0_lost 4 = .ok (.iload_n 2, 1) := by decide +kernel
theorem dX0_lost_5 : decode cX0_lost 5 = .ok (.aload_n 0, 1) := by decide +kernel
theorem dX0_lost_6 : decode cX0_lost 6 = .ok (.getfield 19, 3) := by decide +kernel
theorem dX0_lost_9 : decode cX0_lost 9 = .ok (.if_icmp .ge 20, 3) := by decide +kernel
theorem dX0_lost_12 : decode cX0_lost 12 = .ok (.aload_n 0, 1) := by decide +kernel
theorem dX0_lost_13 : decode cX0_lost 13 = .ok (.iload_n 2, 1) := by decide +kernel
theorem dX0_lost_14 : decode cX0_lost 14 = .ok (.invokevirtual 89, 3) := by decide +kernel
theorem dX0_lost_17 : decode cX0_lost 17 = .ok (.ifCond .eq 6, 3) := by decide +kernel
theorem dX0_lost_20 : decode cX0_lost 20 = .ok (.iinc 1 1, 3) := by decide +kernel
theorem dX0_lost_23 : decode cX0_lost 23 = .ok (.iinc 2 1, 3) := by decide +kernel
theorem dX0_lost_26 : decode cX0_lost 26 = .ok (.goto (-22), 3) := by decide +kernel
theorem dX0_lost_29 : decode cX0_lost 29 = .ok (.iload_n 1, 1) := by decide +kernel
theorem dX0_lost_30 : decode cX0_lost 30 = .ok (.ireturn, 1) := by decide +kernel
theorem dX0_lawInForce_0 : decode cX0_lawInForce 0 = .ok (.aload_n 0, 1) := by decide +kernel
theorem dX0_lawInForce_1 : decode cX0_lawInForce 1 = .ok (.getfield 70, 3) := by decide +kernel
theorem dX0_lawInForce_4 : decode cX0_lawInForce 4 = .ok (.ifCond .lt 26, 3) := by decide +kernel
theorem dX0_lawInForce_7 : decode cX0_lawInForce 7 = .ok (.aload_n 0, 1) := by decide +kernel
theorem dX0_lawInForce_8 : decode cX0_lawInForce 8 = .ok (.getfield 70, 3) := by decide +kernel
theorem dX0_lawInForce_11 : decode cX0_lawInForce 11 = .ok (.aload_n 0, 1) := by decide +kernel
theorem dX0_lawInForce_12 : decode cX0_lawInForce 12 = .ok (.getfield 61, 3) := by decide +kernel
theorem dX0_lawInForce_15 : decode cX0_lawInForce 15 = .ok (.if_icmp .ge 15, 3) := by decide +kernel
theorem dX0_lawInForce_18 : decode cX0_lawInForce 18 = .ok (.aload_n 0, 1) := by decide +kernel
theorem dX0_lawInForce_19 : decode cX0_lawInForce 19 = .ok (.getfield 66, 3) := by decide +kernel
theorem dX0_lawInForce_22 : decode cX0_lawInForce 22 = .ok (.aload_n 0, 1) := by decide +kernel
theorem dX0_lawInForce_23 : decode cX0_lawInForce 23 = .ok (.getfield 70, 3) := by decide +kernel
theorem dX0_lawInForce_26 : decode cX0_lawInForce 26 = .ok (.aaload, 1) := by decide +kernel
theorem dX0_lawInForce_27 : decode cX0_lawInForce 27 = .ok (.goto 4, 3) := by decide +kernel
theorem dX0_lawInForce_30 : decode cX0_lawInForce 30 = .ok (.aconst_null, 1) := by decide +kernel
theorem dX0_lawInForce_31 : decode cX0_lawInForce 31 = .ok (.areturn, 1) := by decide +kernel
theorem dX0_beside_0 : decode cX0_beside 0 = .ok (.iload_n 0, 1) := by decide +kernel
theorem dX0_beside_1 : decode cX0_beside 1 = .ok (.iconst 5, 1) := by decide +kernel
theorem dX0_beside_2 : decode cX0_beside 2 = .ok (.irem, 1) := by decide +kernel
theorem dX0_beside_3 : decode cX0_beside 3 = .ok (.istore_n 2, 1) := by decide +kernel
theorem dX0_beside_4 : decode cX0_beside 4 = .ok (.iload_n 0, 1) := by decide +kernel
theorem dX0_beside_5 : decode cX0_beside 5 = .ok (.iconst 5, 1) := by decide +kernel
theorem dX0_beside_6 : decode cX0_beside 6 = .ok (.idiv, 1) := by decide +kernel
theorem dX0_beside_7 : decode cX0_beside 7 = .ok (.istore_n 3, 1) := by decide +kernel
theorem dX0_beside_8 : decode cX0_beside 8 = .ok (.iload_n 1, 1) := by decide +kernel
theorem dX0_beside_9 : decode cX0_beside 9 = .ok (.iconst 1, 1) := by decide +kernel
theorem dX0_beside_10 : decode cX0_beside 10 = .ok (.if_icmp .ne 9, 3) := by decide +kernel
theorem dX0_beside_13 : decode cX0_beside 13 = .ok (.iinc 3 (-1), 3) := by decide +kernel
theorem dX0_beside_16 : decode cX0_beside 16 = .ok (.goto 33, 3) := by decide +kernel
theorem dX0_beside_19 : decode cX0_beside 19 = .ok (.iload_n 1, 1) := by decide +kernel
theorem dX0_beside_20 : decode cX0_beside 20 = .ok (.iconst 2, 1) := by decide +kernel
theorem dX0_beside_21 : decode cX0_beside 21 = .ok (.if_icmp .ne 9, 3) := by decide +kernel
theorem dX0_beside_24 : decode cX0_beside 24 = .ok (.iinc 2 1, 3) := by decide +kernel
theorem dX0_beside_27 : decode cX0_beside 27 = .ok (.goto 22, 3) := by decide +kernel
theorem dX0_beside_30 : decode cX0_beside 30 = .ok (.iload_n 1, 1) := by decide +kernel
theorem dX0_beside_31 : decode cX0_beside 31 = .ok (.iconst 3, 1) := by decide +kernel
theorem dX0_beside_32 : decode cX0_beside 32 = .ok (.if_icmp .ne 9, 3) := by decide +kernel
theorem dX0_beside_35 : decode cX0_beside 35 = .ok (.iinc 3 1, 3) := by decide +kernel
theorem dX0_beside_38 : decode cX0_beside 38 = .ok (.goto 11, 3) := by decide +kernel
theorem dX0_beside_41 : decode cX0_beside 41 = .ok (.iload_n 1, 1) := by decide +kernel
theorem dX0_beside_42 : decode cX0_beside 42 = .ok (.iconst 4, 1) := by decide +kernel
theorem dX0_beside_43 : decode cX0_beside 43 = .ok (.if_icmp .ne 6, 3) := by decide +kernel
theorem dX0_beside_46 : decode cX0_beside 46 = .ok (.iinc 2 (-1), 3) := by decide +kernel
theorem dX0_beside_49 : decode cX0_beside 49 = .ok (.iload_n 2, 1) := by decide +kernel
theorem dX0_beside_50 : decode cX0_beside 50 = .ok (.ifCond .lt 17, 3) := by decide +kernel
theorem dX0_beside_53 : decode cX0_beside 53 = .ok (.iload_n 3, 1) := by decide +kernel
theorem dX0_beside_54 : decode cX0_beside 54 = .ok (.ifCond .lt 13, 3) := by decide +kernel
theorem dX0_beside_57 : decode cX0_beside 57 = .ok (.iload_n 2, 1) := by decide +kernel
theorem dX0_beside_58 : decode cX0_beside 58 = .ok (.iconst 5, 1) := by decide +kernel
theorem dX0_beside_59 : decode cX0_beside 59 = .ok (.if_icmp .ge 8, 3) := by decide +kernel
theorem dX0_beside_62 : decode cX0_beside 62 = .ok (.iload_n 3, 1) := by decide +kernel
theorem dX0_beside_63 : decode cX0_beside 63 = .ok (.iconst 5, 1) := by decide +kernel
theorem dX0_beside_64 : decode cX0_beside 64 = .ok (.if_icmp .lt 7, 3) := by decide +kernel
theorem dX0_beside_67 : decode cX0_beside 67 = .ok (.iconst (-1), 1) := by decide +kernel
theorem dX0_beside_68 : decode cX0_beside 68 = .ok (.goto 8, 3) := by decide +kernel
theorem dX0_beside_71 : decode cX0_beside 71 = .ok (.iload_n 3, 1) := by decide +kernel
theorem dX0_beside_72 : decode cX0_beside 72 = .ok (.iconst 5, 1) := by decide +kernel
theorem dX0_beside_73 : decode cX0_beside 73 = .ok (.imul, 1) := by decide +kernel
theorem dX0_beside_74 : decode cX0_beside 74 = .ok (.iload_n 2, 1) := by decide +kernel
theorem dX0_beside_75 : decode cX0_beside 75 = .ok (.iadd, 1) := by decide +kernel
theorem dX0_beside_76 : decode cX0_beside 76 = .ok (.ireturn, 1) := by decide +kernel
theorem dX0_driftsTo_0 : decode cX0_driftsTo 0 = .ok (.iload_n 1, 1) := by decide +kernel
theorem dX0_driftsTo_1 : decode cX0_driftsTo 1 = .ok (.istore_n 3, 1) := by decide +kernel
theorem dX0_driftsTo_2 : decode cX0_driftsTo 2 = .ok (.iconst 0, 1) := by decide +kernel
theorem dX0_driftsTo_3 : decode cX0_driftsTo 3 = .ok (.istore 4, 2) := by decide +kernel
theorem dX0_driftsTo_5 : decode cX0_driftsTo 5 = .ok (.iload 4, 2) := by decide +kernel
theorem dX0_driftsTo_7 : decode cX0_driftsTo 7 = .ok (.iload_n 2, 1) := by decide +kernel
theorem dX0_driftsTo_8 : decode cX0_driftsTo 8 = .ok (.if_icmp .ge 27, 3) := by decide +kernel
theorem dX0_driftsTo_11 : decode cX0_driftsTo 11 = .ok (.iload_n 3, 1) := by decide +kernel
theorem dX0_driftsTo_12 : decode cX0_driftsTo 12 = .ok (.invokestatic 93, 3) := by decide +kernel
theorem dX0_driftsTo_15 : decode cX0_driftsTo 15 = .ok (.ifCond .eq 20, 3) := by decide +kernel
theorem dX0_driftsTo_18 : decode cX0_driftsTo 18 = .ok (.iload_n 3, 1) := by decide +kernel
theorem dX0_driftsTo_19 : decode cX0_driftsTo 19 = .ok (.aload_n 0, 1) := by decide +kernel
theorem dX0_driftsTo_20 : decode cX0_driftsTo 20 = .ok (.getfield 46, 3) := by decide +kernel
theorem dX0_driftsTo_23 : decode cX0_driftsTo 23 = .ok (.iload_n 3, 1) := by decide +kernel
theorem dX0_driftsTo_24 : decode cX0_driftsTo 24 = .ok (.iaload, 1) := by decide +kernel
theorem dX0_driftsTo_25 : decode cX0_driftsTo 25 = .ok (.invokestatic 96, 3) := by decide +kernel
theorem dX0_driftsTo_28 : decode cX0_driftsTo 28 = .ok (.istore_n 3, 1) := by decide +kernel
theorem dX0_driftsTo_29 : decode cX0_driftsTo 29 = .ok (.iinc 4 1, 3) := by decide +kernel
theorem dX0_driftsTo_32 : decode cX0_driftsTo 32 = .ok (.goto (-27), 3) := by decide +kernel
theorem dX0_driftsTo_35 : decode cX0_driftsTo 35 = .ok (.iload_n 3, 1) := by decide +kernel
theorem dX0_driftsTo_36 : decode cX0_driftsTo 36 = .ok (.ireturn, 1) := by decide +kernel
theorem dX0_take_0 : decode cX0_take 0 = .ok (.aload_n 0, 1) := by decide +kernel
theorem dX0_take_1 : decode cX0_take 1 = .ok (.getfield 37, 3) := by decide +kernel
theorem dX0_take_4 : decode cX0_take 4 = .ok (.iload_n 1, 1) := by decide +kernel
theorem dX0_take_5 : decode cX0_take 5 = .ok (.iaload, 1) := by decide +kernel
theorem dX0_take_6 : decode cX0_take 6 = .ok (.istore_n 3, 1) := by decide +kernel
theorem dX0_take_7 : decode cX0_take 7 = .ok (.iload_n 3, 1) := by decide +kernel
theorem dX0_take_8 : decode cX0_take 8 = .ok (.invokestatic 93, 3) := by decide +kernel
theorem dX0_take_11 : decode cX0_take 11 = .ok (.ifCond .ne 4, 3) := by decide +kernel
theorem dX0_take_14 : decode cX0_take 14 = .ok (.return_, 1) := by decide +kernel
theorem dX0_take_15 : decode cX0_take 15 = .ok (.aload_n 0, 1) := by decide +kernel
theorem dX0_take_16 : decode cX0_take 16 = .ok (.getfield 40, 3) := by decide +kernel
theorem dX0_take_19 : decode cX0_take 19 = .ok (.iload_n 1, 1) := by decide +kernel
theorem dX0_take_20 : decode cX0_take 20 = .ok (.aload_n 0, 1) := by decide +kernel
theorem dX0_take_21 : decode cX0_take 21 = .ok (.getfield 40, 3) := by decide +kernel
theorem dX0_take_24 : decode cX0_take 24 = .ok (.iload_n 1, 1) := by decide +kernel
theorem dX0_take_25 : decode cX0_take 25 = .ok (.iaload, 1) := by decide +kernel
theorem dX0_take_26 : decode cX0_take 26 = .ok (.iload_n 2, 1) := by decide +kernel
theorem dX0_take_27 : decode cX0_take 27 = .ok (.iadd, 1) := by decide +kernel
theorem dX0_take_28 : decode cX0_take 28 = .ok (.sipush 999, 3) := by decide +kernel
theorem dX0_take_31 : decode cX0_take 31 = .ok (.invokestatic 100, 3) := by decide +kernel
theorem dX0_take_34 : decode cX0_take 34 = .ok (.iastore, 1) := by decide +kernel
theorem dX0_take_35 : decode cX0_take 35 = .ok (.aload_n 0, 1) := by decide +kernel
theorem dX0_take_36 : decode cX0_take 36 = .ok (.getfield 43, 3) := by decide +kernel
theorem dX0_take_39 : decode cX0_take 39 = .ok (.iload_n 3, 1) := by decide +kernel
theorem dX0_take_40 : decode cX0_take 40 = .ok (.dup2, 1) := by decide +kernel
theorem dX0_take_41 : decode cX0_take 41 = .ok (.iaload, 1) := by decide +kernel
theorem dX0_take_42 : decode cX0_take 42 = .ok (.iload_n 2, 1) := by decide +kernel
theorem dX0_take_43 : decode cX0_take 43 = .ok (.isub, 1) := by decide +kernel
theorem dX0_take_44 : decode cX0_take 44 = .ok (.iastore, 1) := by decide +kernel
theorem dX0_take_45 : decode cX0_take 45 = .ok (.return_, 1) := by decide +kernel
theorem dX0_flow_0 : decode cX0_flow 0 = .ok (.iconst 0, 1) := by decide +kernel
theorem dX0_flow_1 : decode cX0_flow 1 = .ok (.istore_n 1, 1) := by decide +kernel
theorem dX0_flow_2 : decode cX0_flow 2 = .ok (.iconst 0, 1) := by decide +kernel
theorem dX0_flow_3 : decode cX0_flow 3 = .ok (.istore_n 2, 1) := by decide +kernel
theorem dX0_flow_4 : decode cX0_flow 4 = .ok (.iload_n 2, 1) := by decide +kernel
theorem dX0_flow_5 : decode cX0_flow 5 = .ok (.aload_n 0, 1) := by decide +kernel
theorem dX0_flow_6 : decode cX0_flow 6 = .ok (.getfield 19, 3) := by decide +kernel
theorem dX0_flow_9 : decode cX0_flow 9 = .ok (.if_icmp .ge 52, 3) := by decide +kernel
theorem dX0_flow_12 : decode cX0_flow 12 = .ok (.aload_n 0, 1) := by decide +kernel
theorem dX0_flow_13 : decode cX0_flow 13 = .ok (.getfield 37, 3) := by decide +kernel
theorem dX0_flow_16 : decode cX0_flow 16 = .ok (.iload_n 2, 1) := by decide +kernel
theorem dX0_flow_17 : decode cX0_flow 17 = .ok (.iaload, 1) := by decide +kernel
theorem dX0_flow_18 : decode cX0_flow 18 = .ok (.iconst (-1), 1) := by decide +kernel
theorem dX0_flow_19 : decode cX0_flow 19 = .ok (.if_icmp .ne 6, 3) := by decide +kernel
theorem dX0_flow_22 : decode cX0_flow 22 = .ok (.goto 33, 3) := by decide +kernel
theorem dX0_flow_25 : decode cX0_flow 25 = .ok (.aload_n 0, 1) := by decide +kernel
theorem dX0_flow_26 : decode cX0_flow 26 = .ok (.getfield 37, 3) := by decide +kernel
theorem dX0_flow_29 : decode cX0_flow 29 = .ok (.iload_n 2, 1) := by decide +kernel
theorem dX0_flow_30 : decode cX0_flow 30 = .ok (.aload_n 0, 1) := by decide +kernel
theorem dX0_flow_31 : decode cX0_flow 31 = .ok (.aload_n 0, 1) := by decide +kernel
theorem dX0_flow_32 : decode cX0_flow 32 = .ok (.getfield 37, 3) := by decide +kernel
theorem dX0_flow_35 : decode cX0_flow 35 = .ok (.iload_n 2, 1) := by decide +kernel
theorem dX0_flow_36 : decode cX0_flow 36 = .ok (.iaload, 1) := by decide +kernel
theorem dX0_flow_37 : decode cX0_flow 37 = .ok (.iconst 1, 1) := by decide +kernel
theorem dX0_flow_38 : decode cX0_flow 38 = .ok (.invokevirtual 105, 3) := by decide +kernel
theorem dX0_flow_41 : decode cX0_flow 41 = .ok (.iastore, 1) := by decide +kernel
theorem dX0_flow_42 : decode cX0_flow 42 = .ok (.aload_n 0, 1) := by decide +kernel
theorem dX0_flow_43 : decode cX0_flow 43 = .ok (.getfield 37, 3) := by decide +kernel
theorem dX0_flow_46 : decode cX0_flow 46 = .ok (.iload_n 2, 1) := by decide +kernel
theorem dX0_flow_47 : decode cX0_flow 47 = .ok (.iaload, 1) := by decide +kernel
theorem dX0_flow_48 : decode cX0_flow 48 = .ok (.iconst (-1), 1) := by decide +kernel
theorem dX0_flow_49 : decode cX0_flow 49 = .ok (.if_icmp .ne 6, 3) := by decide +kernel
theorem dX0_flow_52 : decode cX0_flow 52 = .ok (.iinc 1 1, 3) := by decide +kernel
theorem dX0_flow_55 : decode cX0_flow 55 = .ok (.iinc 2 1, 3) := by decide +kernel
theorem dX0_flow_58 : decode cX0_flow 58 = .ok (.goto (-54), 3) := by decide +kernel
theorem dX0_flow_61 : decode cX0_flow 61 = .ok (.iconst 0, 1) := by decide +kernel
theorem dX0_flow_62 : decode cX0_flow 62 = .ok (.istore_n 2, 1) := by decide +kernel
theorem dX0_flow_63 : decode cX0_flow 63 = .ok (.iload_n 2, 1) := by decide +kernel
theorem dX0_flow_64 : decode cX0_flow 64 = .ok (.bipush 25, 2) := by decide +kernel
theorem dX0_flow_66 : decode cX0_flow 66 = .ok (.if_icmp .ge 28, 3) := by decide +kernel
theorem dX0_flow_69 : decode cX0_flow 69 = .ok (.aload_n 0, 1) := by decide +kernel
theorem dX0_flow_70 : decode cX0_flow 70 = .ok (.getfield 43, 3) := by decide +kernel
theorem dX0_flow_73 : decode cX0_flow 73 = .ok (.iload_n 2, 1) := by decide +kernel
theorem dX0_flow_74 : decode cX0_flow 74 = .ok (.aload_n 0, 1) := by decide +kernel
theorem dX0_flow_75 : decode cX0_flow 75 = .ok (.getfield 43, 3) := by decide +kernel
theorem dX0_flow_78 : decode cX0_flow 78 = .ok (.iload_n 2, 1) := by decide +kernel
theorem dX0_flow_79 : decode cX0_flow 79 = .ok (.iaload, 1) := by decide +kernel
theorem dX0_flow_80 : decode cX0_flow 80 = .ok (.iconst 1, 1) := by decide +kernel
theorem dX0_flow_81 : decode cX0_flow 81 = .ok (.iadd, 1) := by decide +kernel
theorem dX0_flow_82 : decode cX0_flow 82 = .ok (.bipush 99, 2) := by decide +kernel
theorem dX0_flow_84 : decode cX0_flow 84 = .ok (.invokestatic 100, 3) := by decide +kernel
theorem dX0_flow_87 : decode cX0_flow 87 = .ok (.iastore, 1) := by decide +kernel
theorem dX0_flow_88 : decode cX0_flow 88 = .ok (.iinc 2 1, 3) := by decide +kernel
theorem dX0_flow_91 : decode cX0_flow 91 = .ok (.goto (-28), 3) := by decide +kernel
theorem dX0_flow_94 : decode cX0_flow 94 = .ok (.aload_n 0, 1) := by decide +kernel
theorem dX0_flow_95 : decode cX0_flow 95 = .ok (.dup, 1) := by decide +kernel
theorem dX0_flow_96 : decode cX0_flow 96 = .ok (.getfield 55, 3) := by decide +kernel
theorem dX0_flow_99 : decode cX0_flow 99 = .ok (.iconst 1, 1) := by decide +kernel
theorem dX0_flow_100 : decode cX0_flow 100 = .ok (.iadd, 1) := by decide +kernel
theorem dX0_flow_101 : decode cX0_flow 101 = .ok (.putfield 55, 3) := by decide +kernel
theorem dX0_flow_104 : decode cX0_flow 104 = .ok (.iload_n 1, 1) := by decide +kernel
theorem dX0_flow_105 : decode cX0_flow 105 = .ok (.ireturn, 1) := by decide +kernel
theorem dX0_leastUnlike_0 : decode cX0_leastUnlike 0 = .ok (.bipush 6, 2) := by decide +kernel
theorem dX0_leastUnlike_2 : decode cX0_leastUnlike 2 = .ok (.istore_n 2, 1) := by decide +kernel
theorem dX0_leastUnlike_3 : decode cX0_leastUnlike 3 = .ok (.iconst 0, 1) := by decide +kernel
theorem dX0_leastUnlike_4 : decode cX0_leastUnlike 4 = .ok (.istore_n 3, 1) := by decide +kernel
theorem dX0_leastUnlike_5 : decode cX0_leastUnlike 5 = .ok (.iload_n 3, 1) := by decide +kernel
theorem dX0_leastUnlike_6 : decode cX0_leastUnlike 6 = .ok (.aload_n 0, 1) := by decide +kernel
theorem dX0_leastUnlike_7 : decode cX0_leastUnlike 7 = .ok (.getfield 19, 3) := by decide +kernel
theorem dX0_leastUnlike_10 : decode cX0_leastUnlike 10 = .ok (.if_icmp .ge 25, 3) := by decide +kernel
theorem dX0_leastUnlike_13 : decode cX0_leastUnlike 13 = .ok (.iload_n 2, 1) := by decide +kernel
theorem dX0_leastUnlike_14 : decode cX0_leastUnlike 14 = .ok (.aload_n 0, 1) := by decide +kernel
theorem dX0_leastUnlike_15 : decode cX0_leastUnlike 15 = .ok (.getfield 31, 3) := by decide +kernel
theorem dX0_leastUnlike_18 : decode cX0_leastUnlike 18 = .ok (.iload_n 3, 1) := by decide +kernel
theorem dX0_leastUnlike_19 : decode cX0_leastUnlike 19 = .ok (.iaload, 1) := by decide +kernel
theorem dX0_leastUnlike_20 : decode cX0_leastUnlike 20 = .ok (.iload_n 1, 1) := by decide +kernel
theorem dX0_leastUnlike_21 : decode cX0_leastUnlike 21 = .ok (.ixor, 1) := by decide +kernel
theorem dX0_leastUnlike_22 : decode cX0_leastUnlike 22 = .ok (.invokestatic 108, 3) := by decide +kernel
theorem dX0_leastUnlike_25 : decode cX0_leastUnlike 25 = .ok (.invokestatic 100, 3) := by decide +kernel
theorem dX0_leastUnlike_28 : decode cX0_leastUnlike 28 = .ok (.istore_n 2, 1) := by decide +kernel
theorem dX0_leastUnlike_29 : decode cX0_leastUnlike 29 = .ok (.iinc 3 1, 3) := by decide +kernel
theorem dX0_leastUnlike_32 : decode cX0_leastUnlike 32 = .ok (.goto (-27), 3) := by decide +kernel
theorem dX0_leastUnlike_35 : decode cX0_leastUnlike 35 = .ok (.iload_n 2, 1) := by decide +kernel
theorem dX0_leastUnlike_36 : decode cX0_leastUnlike 36 = .ok (.ireturn, 1) := by decide +kernel
theorem dX1_init_0 : decode cX1_init 0 = .ok (.aload_n 0, 1) := by decide +kernel
theorem dX1_init_1 : decode cX1_init 1 = .ok (.invokespecial 3, 3) := by decide +kernel
theorem dX1_init_4 : decode cX1_init 4 = .ok (.aload_n 0, 1) := by decide +kernel
theorem dX1_init_5 : decode cX1_init 5 = .ok (.bipush 38, 2) := by decide +kernel
theorem dX1_init_7 : decode cX1_init 7 = .ok (.newarray .int, 2) := by decide +kernel
theorem dX1_init_9 : decode cX1_init 9 = .ok (.putfield 9, 3) := by decide +kernel
theorem dX1_init_12 : decode cX1_init 12 = .ok (.aload_n 0, 1) := by decide +kernel
theorem dX1_init_13 : decode cX1_init 13 = .ok (.bipush 100, 2) := by decide +kernel
theorem dX1_init_15 : decode cX1_init 15 = .ok (.newarray .int, 2) := by decide +kernel
theorem dX1_init_17 : decode cX1_init 17 = .ok (.putfield 15, 3) := by decide +kernel
theorem dX1_init_20 : decode cX1_init 20 = .ok (.return_, 1) := by decide +kernel
theorem dX1_learn_0 : decode cX1_learn 0 = .ok (.aload_n 0, 1) := by decide +kernel
theorem dX1_learn_1 : decode cX1_learn 1 = .ok (.getfield 9, 3) := by decide +kernel
theorem dX1_learn_4 : decode cX1_learn 4 = .ok (.bipush 9, 2) := by decide +kernel
theorem dX1_learn_6 : decode cX1_learn 6 = .ok (.aload_n 1, 1) := by decide +kernel
theorem dX1_learn_7 : decode cX1_learn 7 = .ok (.getfield 18, 3) := by decide +kernel
theorem dX1_learn_10 : decode cX1_learn 10 = .ok (.iastore, 1) := by decide +kernel
theorem dX1_learn_11 : decode cX1_learn 11 = .ok (.aload_n 0, 1) := by decide +kernel
theorem dX1_learn_12 : decode cX1_learn 12 = .ok (.getfield 9, 3) := by decide +kernel
theorem dX1_learn_15 : decode cX1_learn 15 = .ok (.bipush 11, 2) := by decide +kernel
theorem dX1_learn_17 : decode cX1_learn 17 = .ok (.iload_n 2, 1) := by decide +kernel
theorem dX1_learn_18 : decode cX1_learn 18 = .ok (.iastore, 1) := by decide +kernel
theorem dX1_learn_19 : decode cX1_learn 19 = .ok (.aload_n 0, 1) := by decide +kernel
theorem dX1_learn_20 : decode cX1_learn 20 = .ok (.getfield 9, 3) := by decide +kernel
theorem dX1_learn_23 : decode cX1_learn 23 = .ok (.bipush 12, 2) := by decide +kernel
theorem dX1_learn_25 : decode cX1_learn 25 = .ok (.iload_n 3, 1) := by decide +kernel
theorem dX1_learn_26 : decode cX1_learn 26 = .ok (.iastore, 1) := by decide +kernel
theorem dX1_learn_27 : decode cX1_learn 27 = .ok (.aload_n 0, 1) := by decide +kernel
theorem dX1_learn_28 : decode cX1_learn 28 = .ok (.getfield 9, 3) := by decide +kernel
theorem dX1_learn_31 : decode cX1_learn 31 = .ok (.bipush 13, 2) := by decide +kernel
theorem dX1_learn_33 : decode cX1_learn 33 = .ok (.aload_n 1, 1) := by decide +kernel
theorem dX1_learn_34 : decode cX1_learn 34 = .ok (.invokevirtual 24, 3) := by decide +kernel
theorem dX1_learn_37 : decode cX1_learn 37 = .ok (.iastore, 1) := by decide +kernel
theorem dX1_learn_38 : decode cX1_learn 38 = .ok (.iconst 0, 1) := by decide +kernel
theorem dX1_learn_39 : decode cX1_learn 39 = .ok (.istore 4, 2) := by decide +kernel
theorem dX1_learn_41 : decode cX1_learn 41 = .ok (.iload 4, 2) := by decide +kernel
theorem dX1_learn_43 : decode cX1_learn 43 = .ok (.bipush 8, 2) := by decide +kernel
theorem dX1_learn_45 : decode cX1_learn 45 = .ok (.if_icmp .ge 95, 3) := by decide +kernel
theorem dX1_learn_48 : decode cX1_learn 48 = .ok (.aload_n 1, 1) := by decide +kernel
theorem dX1_learn_49 : decode cX1_learn 49 = .ok (.iload 4, 2) := by decide +kernel
theorem dX1_learn_51 : decode cX1_learn 51 = .ok (.invokevirtual 28, 3) := by decide +kernel
theorem dX1_learn_54 : decode cX1_learn 54 = .ok (.istore 5, 2) := by decide +kernel
theorem dX1_learn_56 : decode cX1_learn 56 = .ok (.aload_n 0, 1) := by decide +kernel
theorem dX1_learn_57 : decode cX1_learn 57 = .ok (.getfield 9, 3) := by decide +kernel
theorem dX1_learn_60 : decode cX1_learn 60 = .ok (.bipush 14, 2) := by decide +kernel
theorem dX1_learn_62 : decode cX1_learn 62 = .ok (.iload 4, 2) := by decide +kernel
theorem dX1_learn_64 : decode cX1_learn 64 = .ok (.iadd, 1) := by decide +kernel
theorem dX1_learn_65 : decode cX1_learn 65 = .ok (.iload 5, 2) := by decide +kernel
theorem dX1_learn_67 : decode cX1_learn 67 = .ok (.ifCond .eq 13, 3) := by decide +kernel
theorem dX1_learn_70 : decode cX1_learn 70 = .ok (.aload_n 1, 1) := by decide +kernel
theorem dX1_learn_71 : decode cX1_learn 71 = .ok (.getfield 32, 3) := by decide +kernel
theorem dX1_learn_74 : decode cX1_learn 74 = .ok (.iload 4, 2) := by decide +kernel
theorem dX1_learn_76 : decode cX1_learn 76 = .ok (.iaload, 1) := by decide +kernel
theorem dX1_learn_77 : decode cX1_learn 77 = .ok (.goto 4, 3) := by decide +kernel
theorem dX1_learn_80 : decode cX1_learn 80 = .ok (.iconst (-1), 1) := by decide +kernel
theorem dX1_learn_81 : decode cX1_learn 81 = .ok (.iastore, 1) := by decide +kernel
theorem dX1_learn_82 : decode cX1_learn 82 = .ok (.aload_n 0, 1) := by decide +kernel
theorem dX1_learn_83 : decode cX1_learn 83 = .ok (.getfield 9, 3) := by decide +kernel
theorem dX1_learn_86 : decode cX1_learn 86 = .ok (.bipush 22, 2) := by decide +kernel
theorem dX1_learn_88 : decode cX1_learn 88 = .ok (.iload 4, 2) := by decide +kernel
theorem dX1_learn_90 : decode cX1_learn 90 = .ok (.iadd, 1) := by decide +kernel
theorem dX1_learn_91 : decode cX1_learn 91 = .ok (.iload 5, 2) := by decide +kernel
theorem dX1_learn_93 : decode cX1_learn 93 = .ok (.ifCond .eq 13, 3) := by decide +kernel
theorem dX1_learn_96 : decode cX1_learn 96 = .ok (.aload_n 1, 1) := by decide +kernel
theorem dX1_learn_97 : decode cX1_learn 97 = .ok (.getfield 35, 3) := by decide +kernel
theorem dX1_learn_100 : decode cX1_learn 100 = .ok (.iload 4, 2) := by decide +kernel
theorem dX1_learn_102 : decode cX1_learn 102 = .ok (.iaload, 1) := by decide +kernel
theorem dX1_learn_103 : decode cX1_learn 103 = .ok (.goto 4, 3) := by decide +kernel
theorem dX1_learn_106 : decode cX1_learn 106 = .ok (.iconst (-1), 1) := by decide +kernel
theorem dX1_learn_107 : decode cX1_learn 107 = .ok (.iastore, 1) := by decide +kernel
theorem dX1_learn_108 : decode cX1_learn 108 = .ok (.aload_n 0, 1) := by decide +kernel
theorem dX1_learn_109 : decode cX1_learn 109 = .ok (.getfield 9, 3) := by decide +kernel
theorem dX1_learn_112 : decode cX1_learn 112 = .ok (.bipush 30, 2) := by decide +kernel
theorem dX1_learn_114 : decode cX1_learn 114 = .ok (.iload 4, 2) := by decide +kernel
theorem dX1_learn_116 : decode cX1_learn 116 = .ok (.iadd, 1) := by decide +kernel
theorem dX1_learn_117 : decode cX1_learn 117 = .ok (.iload 5, 2) := by decide +kernel
theorem dX1_learn_119 : decode cX1_learn 119 = .ok (.ifCond .eq 13, 3) := by decide +kernel
theorem dX1_learn_122 : decode cX1_learn 122 = .ok (.aload_n 1, 1) := by decide +kernel
theorem dX1_learn_123 : decode cX1_learn 123 = .ok (.getfield 38, 3) := by decide +kernel
theorem dX1_learn_126 : decode cX1_learn 126 = .ok (.iload 4, 2) := by decide +kernel
theorem dX1_learn_128 : decode cX1_learn 128 = .ok (.iaload, 1) := by decide +kernel
theorem dX1_learn_129 : decode cX1_learn 129 = .ok (.goto 4, 3) := by decide +kernel
theorem dX1_learn_132 : decode cX1_learn 132 = .ok (.iconst 0, 1) := by decide +kernel
theorem dX1_learn_133 : decode cX1_learn 133 = .ok (.iastore, 1) := by decide +kernel
theorem dX1_learn_134 : decode cX1_learn 134 = .ok (.iinc 4 1, 3) := by decide +kernel
theorem dX1_learn_137 : decode cX1_learn 137 = .ok (.goto (-96), 3) := by decide +kernel
theorem dX1_learn_140 : decode cX1_learn 140 = .ok (.return_, 1) := by decide +kernel
theorem dX1_learnOf_0 : decode cX1_learnOf 0 = .ok (.aload_n 0, 1) := by decide +kernel
theorem dX1_learnOf_1 : decode cX1_learnOf 1 = .ok (.getfield 9, 3) := by decide +kernel
theorem dX1_learnOf_4 : decode cX1_learnOf 4 = .ok (.iconst 0, 1) := by decide +kernel
theorem dX1_learnOf_5 : decode cX1_learnOf 5 = .ok (.iload_n 2, 1) := by decide +kernel
theorem dX1_learnOf_6 : decode cX1_learnOf 6 = .ok (.iastore, 1) := by decide +kernel
theorem dX1_learnOf_7 : decode cX1_learnOf 7 = .ok (.aload_n 0, 1) := by decide +kernel
theorem dX1_learnOf_8 : decode cX1_learnOf 8 = .ok (.getfield 9, 3) := by decide +kernel
theorem dX1_learnOf_11 : decode cX1_learnOf 11 = .ok (.iconst 1, 1) := by decide +kernel
theorem dX1_learnOf_12 : decode cX1_learnOf 12 = .ok (.aload_n 1, 1) := by decide +kernel
theorem dX1_learnOf_13 : decode cX1_learnOf 13 = .ok (.getfield 41, 3) := by decide +kernel
theorem dX1_learnOf_16 : decode cX1_learnOf 16 = .ok (.iload_n 2, 1) := by decide +kernel
theorem dX1_learnOf_17 : decode cX1_learnOf 17 = .ok (.iaload, 1) := by decide +kernel
theorem dX1_learnOf_18 : decode cX1_learnOf 18 = .ok (.iastore, 1) := by decide +kernel
theorem dX1_learnOf_19 : decode cX1_learnOf 19 = .ok (.aload_n 0, 1) := by decide +kernel
theorem dX1_learnOf_20 : decode cX1_learnOf 20 = .ok (.getfield 9, 3) := by decide +kernel
theorem dX1_learnOf_23 : decode cX1_learnOf 23 = .ok (.iconst 2, 1) := by decide +kernel
theorem dX1_learnOf_24 : decode cX1_learnOf 24 = .ok (.aload_n 1, 1) := by decide +kernel
theorem dX1_learnOf_25 : decode cX1_learnOf 25 = .ok (.getfield 44, 3) := by decide +kernel
theorem dX1_learnOf_28 : decode cX1_learnOf 28 = .ok (.iload_n 2, 1) := by decide +kernel
theorem dX1_learnOf_29 : decode cX1_learnOf 29 = .ok (.iaload, 1) := by decide +kernel
theorem dX1_learnOf_30 : decode cX1_learnOf 30 = .ok (.iastore, 1) := by decide +kernel
theorem dX1_learnOf_31 : decode cX1_learnOf 31 = .ok (.aload_n 0, 1) := by decide +kernel
theorem dX1_learnOf_32 : decode cX1_learnOf 32 = .ok (.getfield 9, 3) := by decide +kernel
theorem dX1_learnOf_35 : decode cX1_learnOf 35 = .ok (.iconst 3, 1) := by decide +kernel
theorem dX1_learnOf_36 : decode cX1_learnOf 36 = .ok (.aload_n 1, 1) := by decide +kernel
theorem dX1_learnOf_37 : decode cX1_learnOf 37 = .ok (.getfield 47, 3) := by decide +kernel
theorem dX1_learnOf_40 : decode cX1_learnOf 40 = .ok (.iload_n 2, 1) := by decide +kernel
theorem dX1_learnOf_41 : decode cX1_learnOf 41 = .ok (.iaload, 1) := by decide +kernel
theorem dX1_learnOf_42 : decode cX1_learnOf 42 = .ok (.iastore, 1) := by decide +kernel
theorem dX1_learnOf_43 : decode cX1_learnOf 43 = .ok (.aload_n 0, 1) := by decide +kernel
theorem dX1_learnOf_44 : decode cX1_learnOf 44 = .ok (.getfield 9, 3) := by decide +kernel
theorem dX1_learnOf_47 : decode cX1_learnOf 47 = .ok (.iconst 4, 1) := by decide +kernel
theorem dX1_learnOf_48 : decode cX1_learnOf 48 = .ok (.iload_n 3, 1) := by decide +kernel
theorem dX1_learnOf_49 : decode cX1_learnOf 49 = .ok (.iastore, 1) := by decide +kernel
theorem dX1_learnOf_50 : decode cX1_learnOf 50 = .ok (.aload_n 0, 1) := by decide +kernel
theorem dX1_learnOf_51 : decode cX1_learnOf 51 = .ok (.getfield 9, 3) := by decide +kernel
theorem dX1_learnOf_54 : decode cX1_learnOf 54 = .ok (.iconst 5, 1) := by decide +kernel
theorem dX1_learnOf_55 : decode cX1_learnOf 55 = .ok (.aload_n 1, 1) := by decide +kernel
theorem dX1_learnOf_56 : decode cX1_learnOf 56 = .ok (.iload_n 3, 1) := by decide +kernel
theorem dX1_learnOf_57 : decode cX1_learnOf 57 = .ok (.invokevirtual 50, 3) := by decide +kernel
theorem dX1_learnOf_60 : decode cX1_learnOf 60 = .ok (.ifCond .eq 12, 3) := by decide +kernel
theorem dX1_learnOf_63 : decode cX1_learnOf 63 = .ok (.aload_n 1, 1) := by decide +kernel
theorem dX1_learnOf_64 : decode cX1_learnOf 64 = .ok (.getfield 53, 3) := by decide +kernel
theorem dX1_learnOf_67 : decode cX1_learnOf 67 = .ok (.iload_n 3, 1) := by decide +kernel
theorem dX1_learnOf_68 : decode cX1_learnOf 68 = .ok (.iaload, 1) := by decide +kernel
theorem dX1_learnOf_69 : decode cX1_learnOf 69 = .ok (.goto 4, 3) := by decide +kernel
theorem dX1_learnOf_72 : decode cX1_learnOf 72 = .ok (.iconst (-1), 1) := by decide +kernel
theorem dX1_learnOf_73 : decode cX1_learnOf 73 = .ok (.iastore, 1) := by decide +kernel
theorem dX1_learnOf_74 : decode cX1_learnOf 74 = .ok (.aload_n 0, 1) := by decide +kernel
theorem dX1_learnOf_75 : decode cX1_learnOf 75 = .ok (.getfield 9, 3) := by decide +kernel
theorem dX1_learnOf_78 : decode cX1_learnOf 78 = .ok (.bipush 6, 2) := by decide +kernel
theorem dX1_learnOf_80 : decode cX1_learnOf 80 = .ok (.iload 4, 2) := by decide +kernel
theorem dX1_learnOf_82 : decode cX1_learnOf 82 = .ok (.iastore, 1) := by decide +kernel
theorem dX1_learnOf_83 : decode cX1_learnOf 83 = .ok (.aload_n 0, 1) := by decide +kernel
theorem dX1_learnOf_84 : decode cX1_learnOf 84 = .ok (.getfield 9, 3) := by decide +kernel
theorem dX1_learnOf_87 : decode cX1_learnOf 87 = .ok (.bipush 7, 2) := by decide +kernel
theorem dX1_learnOf_89 : decode cX1_learnOf 89 = .ok (.iload 5, 2) := by decide +kernel
theorem dX1_learnOf_91 : decode cX1_learnOf 91 = .ok (.iastore, 1) := by decide +kernel
theorem dX1_learnOf_92 : decode cX1_learnOf 92 = .ok (.aload_n 0, 1) := by decide +kernel
theorem dX1_learnOf_93 : decode cX1_learnOf 93 = .ok (.getfield 9, 3) := by decide +kernel
theorem dX1_learnOf_96 : decode cX1_learnOf 96 = .ok (.bipush 8, 2) := by decide +kernel
theorem dX1_learnOf_98 : decode cX1_learnOf 98 = .ok (.aload_n 1, 1) := by decide +kernel
theorem dX1_learnOf_99 : decode cX1_learnOf 99 = .ok (.getfield 38, 3) := by decide +kernel
theorem dX1_learnOf_102 : decode cX1_learnOf 102 = .ok (.iload_n 2, 1) := by decide +kernel
theorem dX1_learnOf_103 : decode cX1_learnOf 103 = .ok (.iaload, 1) := by decide +kernel
theorem dX1_learnOf_104 : decode cX1_learnOf 104 = .ok (.iastore, 1) := by decide +kernel
theorem dX1_learnOf_105 : decode cX1_learnOf 105 = .ok (.aload_n 0, 1) := by decide +kernel
theorem dX1_learnOf_106 : decode cX1_learnOf 106 = .ok (.getfield 9, 3) := by decide +kernel
theorem dX1_learnOf_109 : decode cX1_learnOf 109 = .ok (.bipush 9, 2) := by decide +kernel
theorem dX1_learnOf_111 : decode cX1_learnOf 111 = .ok (.aload_n 1, 1) := by decide +kernel
theorem dX1_learnOf_112 : decode cX1_learnOf 112 = .ok (.getfield 18, 3) := by decide +kernel
theorem dX1_learnOf_115 : decode cX1_learnOf 115 = .ok (.iastore, 1) := by decide +kernel
theorem dX1_learnOf_116 : decode cX1_learnOf 116 = .ok (.aload_n 0, 1) := by decide +kernel
theorem dX1_learnOf_117 : decode cX1_learnOf 117 = .ok (.getfield 9, 3) := by decide +kernel
theorem dX1_learnOf_120 : decode cX1_learnOf 120 = .ok (.bipush 10, 2) := by decide +kernel
theorem dX1_learnOf_122 : decode cX1_learnOf 122 = .ok (.aload_n 1, 1) := by decide +kernel
theorem dX1_learnOf_123 : decode cX1_learnOf 123 = .ok (.getfield 56, 3) := by decide +kernel
theorem dX1_learnOf_126 : decode cX1_learnOf 126 = .ok (.iastore, 1) := by decide +kernel
theorem dX1_learnOf_127 : decode cX1_learnOf 127 = .ok (.return_, 1) := by decide +kernel
theorem dX1_catchOf_0 : decode cX1_catchOf 0 = .ok (.aload_n 0, 1) := by decide +kernel
theorem dX1_catchOf_1 : decode cX1_catchOf 1 = .ok (.aload_n 1, 1) := by decide +kernel
theorem dX1_catchOf_2 : decode cX1_catchOf 2 = .ok (.iload_n 2, 1) := by decide +kernel
theorem dX1_catchOf_3 : decode cX1_catchOf 3 = .ok (.iconst (-1), 1) := by decide +kernel
theorem dX1_catchOf_4 : decode cX1_catchOf 4 = .ok (.iload_n 3, 1) := by decide +kernel
theorem dX1_catchOf_5 : decode cX1_catchOf 5 = .ok (.iload 4, 2) := by decide +kernel
theorem dX1_catchOf_7 : decode cX1_catchOf 7 = .ok (.invokevirtual 59, 3) := by decide +kernel
theorem dX1_catchOf_10 : decode cX1_catchOf 10 = .ok (.aload_n 0, 1) := by decide +kernel
theorem dX1_catchOf_11 : decode cX1_catchOf 11 = .ok (.aload_n 1, 1) := by decide +kernel
theorem dX1_catchOf_12 : decode cX1_catchOf 12 = .ok (.invokevirtual 63, 3) := by decide +kernel
theorem dX1_catchOf_15 : decode cX1_catchOf 15 = .ok (.iconst 0, 1) := by decide +kernel
theorem dX1_catchOf_16 : decode cX1_catchOf 16 = .ok (.aload_n 1, 1) := by decide +kernel
theorem dX1_catchOf_17 : decode cX1_catchOf 17 = .ok (.getfield 41, 3) := by decide +kernel
theorem dX1_catchOf_20 : decode cX1_catchOf 20 = .ok (.iload_n 2, 1) := by decide +kernel
theorem dX1_catchOf_21 : decode cX1_catchOf 21 = .ok (.iaload, 1) := by decide +kernel
theorem dX1_catchOf_22 : decode cX1_catchOf 22 = .ok (.iconst 3, 1) := by decide +kernel
theorem dX1_catchOf_23 : decode cX1_catchOf 23 = .ok (.imul, 1) := by decide +kernel
theorem dX1_catchOf_24 : decode cX1_catchOf 24 = .ok (.invokevirtual 67, 3) := by decide +kernel
theorem dX1_catchOf_27 : decode cX1_catchOf 27 = .ok (.istore 5, 2) := by decide +kernel
theorem dX1_catchOf_29 : decode cX1_catchOf 29 = .ok (.iconst 0, 1) := by decide +kernel
theorem dX1_catchOf_30 : decode cX1_catchOf 30 = .ok (.iload 5, 2) := by decide +kernel
theorem dX1_catchOf_32 : decode cX1_catchOf 32 = .ok (.bipush 99, 2) := by decide +kernel
theorem dX1_catchOf_34 : decode cX1_catchOf 34 = .ok (.invokestatic 71, 3) := by decide +kernel
theorem dX1_catchOf_37 : decode cX1_catchOf 37 = .ok (.invokestatic 77, 3) := by decide +kernel
theorem dX1_catchOf_40 : decode cX1_catchOf 40 = .ok (.iload 4, 2) := by decide +kernel
theorem dX1_catchOf_42 : decode cX1_catchOf 42 = .ok (.invokestatic 71, 3) := by decide +kernel
theorem dX1_catchOf_45 : decode cX1_catchOf 45 = .ok (.ireturn, 1) := by decide +kernel
theorem dX1_slamOf_0 : decode cX1_slamOf 0 = .ok (.aload_n 0, 1) := by decide +kernel
theorem dX1_slamOf_1 : decode cX1_slamOf 1 = .ok (.aload_n 1, 1) := by decide +kernel
theorem dX1_slamOf_2 : decode cX1_slamOf 2 = .ok (.iload_n 2, 1) := by decide +kernel
theorem dX1_slamOf_3 : decode cX1_slamOf 3 = .ok (.iconst (-1), 1) := by decide +kernel
theorem dX1_slamOf_4 : decode cX1_slamOf 4 = .ok (.iload_n 3, 1) := by decide +kernel
theorem dX1_slamOf_5 : decode cX1_slamOf 5 = .ok (.aload_n 1, 1) := by decide +kernel
theorem dX1_slamOf_6 : decode cX1_slamOf 6 = .ok (.getfield 80, 3) := by decide +kernel
theorem dX1_slamOf_9 : decode cX1_slamOf 9 = .ok (.iload_n 3, 1) := by decide +kernel
theorem dX1_slamOf_10 : decode cX1_slamOf 10 = .ok (.iaload, 1) := by decide +kernel
theorem dX1_slamOf_11 : decode cX1_slamOf 11 = .ok (.invokevirtual 59, 3) := by decide +kernel
theorem dX1_slamOf_14 : decode cX1_slamOf 14 = .ok (.iconst 0, 1) := by decide +kernel
theorem dX1_slamOf_15 : decode cX1_slamOf 15 = .ok (.aload_n 0, 1) := by decide +kernel
theorem dX1_slamOf_16 : decode cX1_slamOf 16 = .ok (.aload_n 1, 1) := by decide +kernel
theorem dX1_slamOf_17 : decode cX1_slamOf 17 = .ok (.invokevirtual 63, 3) := by decide +kernel
theorem dX1_slamOf_20 : decode cX1_slamOf 20 = .ok (.iconst 1, 1) := by decide +kernel
theorem dX1_slamOf_21 : decode cX1_slamOf 21 = .ok (.iconst 1, 1) := by decide +kernel
theorem dX1_slamOf_22 : decode cX1_slamOf 22 = .ok (.invokevirtual 67, 3) := by decide +kernel
theorem dX1_slamOf_25 : decode cX1_slamOf 25 = .ok (.bipush 10, 2) := by decide +kernel
theorem dX1_slamOf_27 : decode cX1_slamOf 27 = .ok (.invokestatic 71, 3) := by decide +kernel
theorem dX1_slamOf_30 : decode cX1_slamOf 30 = .ok (.invokestatic 77, 3) := by decide +kernel
theorem dX1_slamOf_33 : decode cX1_slamOf 33 = .ok (.ireturn, 1) := by decide +kernel
theorem dX1_isFitting_0 : decode cX1_isFitting 0 = .ok (.aload_n 1, 1) := by decide +kernel
theorem dX1_isFitting_1 : decode cX1_isFitting 1 = .ok (.invokevirtual 63, 3) := by decide +kernel
theorem dX1_isFitting_4 : decode cX1_isFitting 4 = .ok (.astore 4, 2) := by decide +kernel
theorem dX1_isFitting_6 : decode cX1_isFitting 6 = .ok (.aload 4, 2) := by decide +kernel
theorem dX1_isFitting_8 : decode cX1_isFitting 8 = .ok (.ifnull 12, 3) := by decide +kernel
theorem dX1_isFitting_11 : decode cX1_isFitting 11 = .ok (.aload 4, 2) := by decide +kernel
theorem dX1_isFitting_13 : decode cX1_isFitting 13 = .ok (.iconst 2, 1) := by decide +kernel
theorem dX1_isFitting_14 : decode cX1_isFitting 14 = .ok (.invokevirtual 83, 3) := by decide +kernel
theorem dX1_isFitting_17 : decode cX1_isFitting 17 = .ok (.ifCond .ne 29, 3) := by decide +kernel
theorem dX1_isFitting_20 : decode cX1_isFitting 20 = .ok (.aload_n 1, 1) := by decide +kernel
theorem dX1_isFitting_21 : decode cX1_isFitting 21 = .ok (.getfield 41, 3) := by decide +kernel
theorem dX1_isFitting_24 : decode cX1_isFitting 24 = .ok (.iload_n 2, 1) := by decide +kernel
theorem dX1_isFitting_25 : decode cX1_isFitting 25 = .ok (.iaload, 1) := by decide +kernel
theorem dX1_isFitting_26 : decode cX1_isFitting 26 = .ok (.aload_n 1, 1) := by decide +kernel
theorem dX1_isFitting_27 : decode cX1_isFitting 27 = .ok (.getfield 53, 3) := by decide +kernel
theorem dX1_isFitting_30 : decode cX1_isFitting 30 = .ok (.iload_n 3, 1) := by decide +kernel
theorem dX1_isFitting_31 : decode cX1_isFitting 31 = .ok (.iaload, 1) := by decide +kernel
theorem dX1_isFitting_32 : decode cX1_isFitting 32 = .ok (.isub, 1) := by decide +kernel
theorem dX1_isFitting_33 : decode cX1_isFitting 33 = .ok (.invokestatic 88, 3) := by decide +kernel
theorem dX1_isFitting_36 : decode cX1_isFitting 36 = .ok (.iconst 1, 1) := by decide +kernel
theorem dX1_isFitting_37 : decode cX1_isFitting 37 = .ok (.if_icmp .gt 7, 3) := by decide +kernel
theorem dX1_isFitting_40 : decode cX1_isFitting 40 = .ok (.iconst 1, 1) := by decide +kernel
theorem dX1_isFitting_41 : decode cX1_isFitting 41 = .ok (.goto 4, 3) := by decide +kernel
theorem dX1_isFitting_44 : decode cX1_isFitting 44 = .ok (.iconst 0, 1) := by decide +kernel
theorem dX1_isFitting_45 : decode cX1_isFitting 45 = .ok (.ireturn, 1) := by decide +kernel
theorem dX1_isFitting_46 : decode cX1_isFitting 46 = .ok (.aload_n 0, 1) := by decide +kernel
theorem dX1_isFitting_47 : decode cX1_isFitting 47 = .ok (.aload_n 1, 1) := by decide +kernel
theorem dX1_isFitting_48 : decode cX1_isFitting 48 = .ok (.iload_n 2, 1) := by decide +kernel
theorem dX1_isFitting_49 : decode cX1_isFitting 49 = .ok (.iload_n 3, 1) := by decide +kernel
theorem dX1_isFitting_50 : decode cX1_isFitting 50 = .ok (.iconst (-1), 1) := by decide +kernel
theorem dX1_isFitting_51 : decode cX1_isFitting 51 = .ok (.iconst (-1), 1) := by decide +kernel
theorem dX1_isFitting_52 : decode cX1_isFitting 52 = .ok (.invokevirtual 59, 3) := by decide +kernel
theorem dX1_isFitting_55 : decode cX1_isFitting 55 = .ok (.aload_n 0, 1) := by decide +kernel
theorem dX1_isFitting_56 : decode cX1_isFitting 56 = .ok (.aload 4, 2) := by decide +kernel
theorem dX1_isFitting_58 : decode cX1_isFitting 58 = .ok (.iconst 2, 1) := by decide +kernel
theorem dX1_isFitting_59 : decode cX1_isFitting 59 = .ok (.iconst 0, 1) := by decide +kernel
theorem dX1_isFitting_60 : decode cX1_isFitting 60 = .ok (.invokevirtual 67, 3) := by decide +kernel
theorem dX1_isFitting_63 : decode cX1_isFitting 63 = .ok (.iconst 1, 1) := by decide +kernel
theorem dX1_isFitting_64 : decode cX1_isFitting 64 = .ok (.if_icmp .ne 7, 3) := by decide +kernel
theorem dX1_isFitting_67 : decode cX1_isFitting 67 = .ok (.iconst 1, 1) := by decide +kernel
theorem dX1_isFitting_68 : decode cX1_isFitting 68 = .ok (.goto 4, 3) := by decide +kernel
theorem dX1_isFitting_71 : decode cX1_isFitting 71 = .ok (.iconst 0, 1) := by decide +kernel
theorem dX1_isFitting_72 : decode cX1_isFitting 72 = .ok (.ireturn, 1) := by decide +kernel
theorem dX1_isBarred_0 : decode cX1_isBarred 0 = .ok (.aload_n 1, 1) := by decide +kernel
theorem dX1_isBarred_1 : decode cX1_isBarred 1 = .ok (.getfield 35, 3) := by decide +kernel
theorem dX1_isBarred_4 : decode cX1_isBarred 4 = .ok (.iload_n 2, 1) := by decide +kernel
theorem dX1_isBarred_5 : decode cX1_isBarred 5 = .ok (.iaload, 1) := by decide +kernel
theorem dX1_isBarred_6 : decode cX1_isBarred 6 = .ok (.istore_n 3, 1) := by decide +kernel
theorem dX1_isBarred_7 : decode cX1_isBarred 7 = .ok (.iload_n 3, 1) := by decide +kernel
theorem dX1_isBarred_8 : decode cX1_isBarred 8 = .ok (.iconst (-1), 1) := by decide +kernel
theorem dX1_isBarred_9 : decode cX1_isBarred 9 = .ok (.if_icmp .ne 5, 3) := by decide +kernel
theorem dX1_isBarred_12 : decode cX1_isBarred 12 = .ok (.iconst 0, 1) := by decide +kernel
theorem dX1_isBarred_13 : decode cX1_isBarred 13 = .ok (.ireturn, 1) := by decide +kernel
theorem dX1_isBarred_14 : decode cX1_isBarred 14 = .ok (.aload_n 0, 1) := by decide +kernel
theorem dX1_isBarred_15 : decode cX1_isBarred 15 = .ok (.aload_n 1, 1) := by decide +kernel
theorem dX1_isBarred_16 : decode cX1_isBarred 16 = .ok (.iload_n 2, 1) := by decide +kernel
theorem dX1_isBarred_17 : decode cX1_isBarred 17 = .ok (.iload_n 3, 1) := by decide +kernel
theorem dX1_isBarred_18 : decode cX1_isBarred 18 = .ok (.iconst (-1), 1) := by decide +kernel
theorem dX1_isBarred_19 : decode cX1_isBarred 19 = .ok (.iconst (-1), 1) := by decide +kernel
theorem dX1_isBarred_20 : decode cX1_isBarred 20 = .ok (.invokevirtual 59, 3) := by decide +kernel
theorem dX1_isBarred_23 : decode cX1_isBarred 23 = .ok (.aload_n 0, 1) := by decide +kernel
theorem dX1_isBarred_24 : decode cX1_isBarred 24 = .ok (.aload_n 1, 1) := by decide +kernel
theorem dX1_isBarred_25 : decode cX1_isBarred 25 = .ok (.invokevirtual 63, 3) := by decide +kernel
theorem dX1_isBarred_28 : decode cX1_isBarred 28 = .ok (.iconst 3, 1) := by decide +kernel
theorem dX1_isBarred_29 : decode cX1_isBarred 29 = .ok (.iconst 0, 1) := by decide +kernel
theorem dX1_isBarred_30 : decode cX1_isBarred 30 = .ok (.invokevirtual 67, 3) := by decide +kernel
theorem dX1_isBarred_33 : decode cX1_isBarred 33 = .ok (.iconst 1, 1) := by decide +kernel
theorem dX1_isBarred_34 : decode cX1_isBarred 34 = .ok (.if_icmp .ne 7, 3) := by decide +kernel
theorem dX1_isBarred_37 : decode cX1_isBarred 37 = .ok (.iconst 1, 1) := by decide +kernel
theorem dX1_isBarred_38 : decode cX1_isBarred 38 = .ok (.goto 4, 3) := by decide +kernel
theorem dX1_isBarred_41 : decode cX1_isBarred 41 = .ok (.iconst 0, 1) := by decide +kernel
theorem dX1_isBarred_42 : decode cX1_isBarred 42 = .ok (.ireturn, 1) := by decide +kernel
theorem dX1_lastTold_0 : decode cX1_lastTold 0 = .ok (.aload_n 1, 1) := by decide +kernel
theorem dX1_lastTold_1 : decode cX1_lastTold 1 = .ok (.ifnonnull 5, 3) := by decide +kernel
theorem dX1_lastTold_4 : decode cX1_lastTold 4 = .ok (.iload_n 3, 1) := by decide +kernel
theorem dX1_lastTold_5 : decode cX1_lastTold 5 = .ok (.ireturn, 1) := by decide +kernel
theorem dX1_lastTold_6 : decode cX1_lastTold 6 = .ok (.aload_n 1, 1) := by decide +kernel
theorem dX1_lastTold_7 : decode cX1_lastTold 7 = .ok (.getfield 92, 3) := by decide +kernel
theorem dX1_lastTold_10 : decode cX1_lastTold 10 = .ok (.iconst 1, 1) := by decide +kernel
theorem dX1_lastTold_11 : decode cX1_lastTold 11 = .ok (.isub, 1) := by decide +kernel
theorem dX1_lastTold_12 : decode cX1_lastTold 12 = .ok (.istore 4, 2) := by decide +kernel
theorem dX1_lastTold_14 : decode cX1_lastTold 14 = .ok (.iload 4, 2) := by decide +kernel
theorem dX1_lastTold_16 : decode cX1_lastTold 16 = .ok (.ifCond .lt 90, 3) := by decide +kernel
theorem dX1_lastTold_19 : decode cX1_lastTold 19 = .ok (.aload_n 1, 1) := by decide +kernel
theorem dX1_lastTold_20 : decode cX1_lastTold 20 = .ok (.iload 4, 2) := by decide +kernel
theorem dX1_lastTold_22 : decode cX1_lastTold 22 = .ok (.iconst 0, 1) := by decide +kernel
theorem dX1_lastTold_23 : decode cX1_lastTold 23 = .ok (.invokevirtual 95, 3) := by decide +kernel
theorem dX1_lastTold_26 : decode cX1_lastTold 26 = .ok (.iload_n 2, 1) := by decide +kernel
theorem dX1_lastTold_27 : decode cX1_lastTold 27 = .ok (.if_icmp .eq 6, 3) := by decide +kernel
theorem dX1_lastTold_30 : decode cX1_lastTold 30 = .ok (.goto 70, 3) := by decide +kernel
theorem dX1_lastTold_33 : decode cX1_lastTold 33 = .ok (.aload_n 1, 1) := by decide +kernel
theorem dX1_lastTold_34 : decode cX1_lastTold 34 = .ok (.iload 4, 2) := by decide +kernel
theorem dX1_lastTold_36 : decode cX1_lastTold 36 = .ok (.iconst 4, 1) := by decide +kernel
theorem dX1_lastTold_37 : decode cX1_lastTold 37 = .ok (.invokevirtual 95, 3) := by decide +kernel
theorem dX1_lastTold_40 : decode cX1_lastTold 40 = .ok (.istore 5, 2) := by decide +kernel
theorem dX1_lastTold_42 : decode cX1_lastTold 42 = .ok (.iload 5, 2) := by decide +kernel
theorem dX1_lastTold_44 : decode cX1_lastTold 44 = .ok (.iconst (-1), 1) := by decide +kernel
theorem dX1_lastTold_45 : decode cX1_lastTold 45 = .ok (.if_icmp .eq 17, 3) := by decide +kernel
theorem dX1_lastTold_48 : decode cX1_lastTold 48 = .ok (.aload_n 0, 1) := by decide +kernel
theorem dX1_lastTold_49 : decode cX1_lastTold 49 = .ok (.aload_n 1, 1) := by decide +kernel
theorem dX1_lastTold_50 : decode cX1_lastTold 50 = .ok (.iload 5, 2) := by decide +kernel
theorem dX1_lastTold_52 : decode cX1_lastTold 52 = .ok (.invokevirtual 98, 3) := by decide +kernel
theorem dX1_lastTold_55 : decode cX1_lastTold 55 = .ok (.iconst 1, 1) := by decide +kernel
theorem dX1_lastTold_56 : decode cX1_lastTold 56 = .ok (.if_icmp .eq 6, 3) := by decide +kernel
theorem dX1_lastTold_59 : decode cX1_lastTold 59 = .ok (.goto 41, 3) := by decide +kernel
theorem dX1_lastTold_62 : decode cX1_lastTold 62 = .ok (.aload_n 1, 1) := by decide +kernel
theorem dX1_lastTold_63 : decode cX1_lastTold 63 = .ok (.iload 4, 2) := by decide +kernel
theorem dX1_lastTold_65 : decode cX1_lastTold 65 = .ok (.iconst 1, 1) := by decide +kernel
theorem dX1_lastTold_66 : decode cX1_lastTold 66 = .ok (.invokevirtual 95, 3) := by decide +kernel
theorem dX1_lastTold_69 : decode cX1_lastTold 69 = .ok (.istore 6, 2) := by decide +kernel
theorem dX1_lastTold_71 : decode cX1_lastTold 71 = .ok (.iload 6, 2) := by decide +kernel
theorem dX1_lastTold_73 : decode cX1_lastTold 73 = .ok (.iconst (-1), 1) := by decide +kernel
theorem dX1_lastTold_74 : decode cX1_lastTold 74 = .ok (.if_icmp .ne 7, 3) := by decide +kernel
theorem dX1_lastTold_77 : decode cX1_lastTold 77 = .ok (.iconst 1, 1) := by decide +kernel
theorem dX1_lastTold_78 : decode cX1_lastTold 78 = .ok (.goto 10, 3) := by decide +kernel
theorem dX1_lastTold_81 : decode cX1_lastTold 81 = .ok (.aload_n 0, 1) := by decide +kernel
theorem dX1_lastTold_82 : decode cX1_lastTold 82 = .ok (.aload_n 1, 1) := by decide +kernel
theorem dX1_lastTold_83 : decode cX1_lastTold 83 = .ok (.iload 6, 2) := by decide +kernel
theorem dX1_lastTold_85 : decode cX1_lastTold 85 = .ok (.invokevirtual 98, 3) := by decide +kernel
theorem dX1_lastTold_88 : decode cX1_lastTold 88 = .ok (.istore 7, 2) := by decide +kernel
theorem dX1_lastTold_90 : decode cX1_lastTold 90 = .ok (.iload 7, 2) := by decide +kernel
theorem dX1_lastTold_92 : decode cX1_lastTold 92 = .ok (.ldc 102, 2) := by decide +kernel
theorem dX1_lastTold_94 : decode cX1_lastTold 94 = .ok (.if_icmp .eq 6, 3) := by decide +kernel
theorem dX1_lastTold_97 : decode cX1_lastTold 97 = .ok (.iload 7, 2) := by decide +kernel
theorem dX1_lastTold_99 : decode cX1_lastTold 99 = .ok (.ireturn, 1) := by decide +kernel
theorem dX1_lastTold_100 : decode cX1_lastTold 100 = .ok (.iinc 4 (-1), 3) := by decide +kernel
theorem dX1_lastTold_103 : decode cX1_lastTold 103 = .ok (.goto (-89), 3) := by decide +kernel
theorem dX1_lastTold_106 : decode cX1_lastTold 106 = .ok (.iload_n 3, 1) := by decide +kernel
theorem dX1_lastTold_107 : decode cX1_lastTold 107 = .ok (.ireturn, 1) := by decide +kernel
theorem dX1_value_0 : decode cX1_value 0 = .ok (.iconst (-1), 1) := by decide +kernel
theorem dX1_value_1 : decode cX1_value 1 = .ok (.istore_n 3, 1) := by decide +kernel
theorem dX1_value_2 : decode cX1_value 2 = .ok (.iload_n 2, 1) := by decide +kernel
theorem dX1_value_3 : decode cX1_value 3 = .ok (.istore 4, 2) := by decide +kernel
theorem dX1_value_5 : decode cX1_value 5 = .ok (.iconst 0, 1) := by decide +kernel
theorem dX1_value_6 : decode cX1_value 6 = .ok (.istore 5, 2) := by decide +kernel
theorem dX1_value_8 : decode cX1_value 8 = .ok (.iload 5, 2) := by decide +kernel
theorem dX1_value_10 : decode cX1_value 10 = .ok (.aload_n 1, 1) := by decide +kernel
theorem dX1_value_11 : decode cX1_value 11 = .ok (.getfield 103, 3) := by decide +kernel
theorem dX1_value_14 : decode cX1_value 14 = .ok (.if_icmp .ge 261, 3) := by decide +kernel
theorem dX1_value_17 : decode cX1_value 17 = .ok (.iload 4, 2) := by decide +kernel
theorem dX1_value_19 : decode cX1_value 19 = .ok (.ifCond .lt 256, 3) := by decide +kernel
theorem dX1_value_22 : decode cX1_value 22 = .ok (.iload 4, 2) := by decide +kernel
theorem dX1_value_24 : decode cX1_value 24 = .ok (.iconst 1, 1) := by decide +kernel
theorem dX1_value_25 : decode cX1_value 25 = .ok (.iadd, 1) := by decide +kernel
theorem dX1_value_26 : decode cX1_value 26 = .ok (.aload_n 1, 1) := by decide +kernel
theorem dX1_value_27 : decode cX1_value 27 = .ok (.getfield 103, 3) := by decide +kernel
theorem dX1_value_30 : decode cX1_value 30 = .ok (.if_icmp .ge 245, 3) := by decide +kernel
theorem dX1_value_33 : decode cX1_value 33 = .ok (.aload_n 1, 1) := by decide +kernel
theorem dX1_value_34 : decode cX1_value 34 = .ok (.getfield 106, 3) := by decide +kernel
theorem dX1_value_37 : decode cX1_value 37 = .ok (.iload 4, 2) := by decide +kernel
theorem dX1_value_39 : decode cX1_value 39 = .ok (.iaload, 1) := by decide +kernel
theorem dX1_value_40 : decode cX1_value 40 = .ok (.istore 6, 2) := by decide +kernel
theorem dX1_value_42 : decode cX1_value 42 = .ok (.aload_n 1, 1) := by decide +kernel
theorem dX1_value_43 : decode cX1_value 43 = .ok (.getfield 106, 3) := by decide +kernel
theorem dX1_value_46 : decode cX1_value 46 = .ok (.iload 4, 2) := by decide +kernel
theorem dX1_value_48 : decode cX1_value 48 = .ok (.iconst 1, 1) := by decide +kernel
theorem dX1_value_49 : decode cX1_value 49 = .ok (.iadd, 1) := by decide +kernel
theorem dX1_value_50 : decode cX1_value 50 = .ok (.iaload, 1) := by decide +kernel
theorem dX1_value_51 : decode cX1_value 51 = .ok (.istore 7, 2) := by decide +kernel
theorem dX1_value_53 : decode cX1_value 53 = .ok (.iinc 4 2, 3) := by decide +kernel
theorem dX1_value_56 : decode cX1_value 56 = .ok (.iload 6, 2) := by decide +kernel
theorem dX1_value_58 : decode cX1_value 58 = .ok (.iconst 1, 1) := by decide +kernel
theorem dX1_value_59 : decode cX1_value 59 = .ok (.if_icmp .eq 9, 3) := by decide +kernel
theorem dX1_value_62 : decode cX1_value 62 = .ok (.iload 6, 2) := by decide +kernel
theorem dX1_value_64 : decode cX1_value 64 = .ok (.iconst 2, 1) := by decide +kernel
theorem dX1_value_65 : decode cX1_value 65 = .ok (.if_icmp .ne 65, 3) := by decide +kernel
theorem dX1_value_68 : decode cX1_value 68 = .ok (.iload_n 3, 1) := by decide +kernel
theorem dX1_value_69 : decode cX1_value 69 = .ok (.iconst 1, 1) := by decide +kernel
theorem dX1_value_70 : decode cX1_value 70 = .ok (.iadd, 1) := by decide +kernel
theorem dX1_value_71 : decode cX1_value 71 = .ok (.aload_n 0, 1) := by decide +kernel
theorem dX1_value_72 : decode cX1_value 72 = .ok (.getfield 15, 3) := by decide +kernel
theorem dX1_value_75 : decode cX1_value 75 = .ok (.arraylength, 1) := by decide +kernel
theorem dX1_value_76 : decode cX1_value 76 = .ok (.if_icmp .ge 21, 3) := by decide +kernel
theorem dX1_value_79 : decode cX1_value 79 = .ok (.iload 6, 2) := by decide +kernel
theorem dX1_value_81 : decode cX1_value 81 = .ok (.iconst 2, 1) := by decide +kernel
theorem dX1_value_82 : decode cX1_value 82 = .ok (.if_icmp .ne 18, 3) := by decide +kernel
theorem dX1_value_85 : decode cX1_value 85 = .ok (.iload 7, 2) := by decide +kernel
theorem dX1_value_87 : decode cX1_value 87 = .ok (.ifCond .lt 10, 3) := by decide +kernel
theorem dX1_value_90 : decode cX1_value 90 = .ok (.iload 7, 2) := by decide +kernel
theorem dX1_value_92 : decode cX1_value 92 = .ok (.bipush 38, 2) := by decide +kernel
theorem dX1_value_94 : decode cX1_value 94 = .ok (.if_icmp .lt 6, 3) := by decide +kernel
theorem dX1_value_97 : decode cX1_value 97 = .ok (.ldc 102, 2) := by decide +kernel
theorem dX1_value_99 : decode cX1_value 99 = .ok (.ireturn, 1) := by decide +kernel
theorem dX1_value_100 : decode cX1_value 100 = .ok (.iinc 3 1, 3) := by decide +kernel
theorem dX1_value_103 : decode cX1_value 103 = .ok (.aload_n 0, 1) := by decide +kernel
theorem dX1_value_104 : decode cX1_value 104 = .ok (.getfield 15, 3) := by decide +kernel
theorem dX1_value_107 : decode cX1_value 107 = .ok (.iload_n 3, 1) := by decide +kernel
theorem dX1_value_108 : decode cX1_value 108 = .ok (.iload 6, 2) := by decide +kernel
theorem dX1_value_110 : decode cX1_value 110 = .ok (.iconst 1, 1) := by decide +kernel
theorem dX1_value_111 : decode cX1_value 111 = .ok (.if_icmp .ne 8, 3) := by decide +kernel
theorem dX1_value_114 : decode cX1_value 114 = .ok (.iload 7, 2) := by decide +kernel
theorem dX1_value_116 : decode cX1_value 116 = .ok (.goto 10, 3) := by decide +kernel
theorem dX1_value_119 : decode cX1_value 119 = .ok (.aload_n 0, 1) := by decide +kernel
theorem dX1_value_120 : decode cX1_value 120 = .ok (.getfield 9, 3) := by decide +kernel
theorem dX1_value_123 : decode cX1_value 123 = .ok (.iload 7, 2) := by decide +kernel
theorem dX1_value_125 : decode cX1_value 125 = .ok (.iaload, 1) := by decide +kernel
theorem dX1_value_126 : decode cX1_value 126 = .ok (.iastore, 1) := by decide +kernel
theorem dX1_value_127 : decode cX1_value 127 = .ok (.goto 142, 3) := by decide +kernel
theorem dX1_value_130 : decode cX1_value 130 = .ok (.iload_n 3, 1) := by decide +kernel
theorem dX1_value_131 : decode cX1_value 131 = .ok (.ifCond .ge 6, 3) := by decide +kernel
theorem dX1_value_134 : decode cX1_value 134 = .ok (.ldc 102, 2) := by decide +kernel
theorem dX1_value_136 : decode cX1_value 136 = .ok (.ireturn, 1) := by decide +kernel
theorem dX1_value_137 : decode cX1_value 137 = .ok (.iload 6, 2) := by decide +kernel
theorem dX1_value_139 : decode cX1_value 139 = .ok (.ifCond .ne 10, 3) := by decide +kernel
theorem dX1_value_142 : decode cX1_value 142 = .ok (.aload_n 0, 1) := by decide +kernel
theorem dX1_value_143 : decode cX1_value 143 = .ok (.getfield 15, 3) := by decide +kernel
theorem dX1_value_146 : decode cX1_value 146 = .ok (.iload_n 3, 1) := by decide +kernel
theorem dX1_value_147 : decode cX1_value 147 = .ok (.iaload, 1) := by decide +kernel
theorem dX1_value_148 : decode cX1_value 148 = .ok (.ireturn, 1) := by decide +kernel
theorem dX1_value_149 : decode cX1_value 149 = .ok (.iload 6, 2) := by decide +kernel
theorem dX1_value_151 : decode cX1_value 151 = .ok (.iconst 3, 1) := by decide +kernel
theorem dX1_value_152 : decode cX1_value 152 = .ok (.if_icmp .ne 20, 3) := by decide +kernel
theorem dX1_value_155 : decode cX1_value 155 = .ok (.aload_n 0, 1) := by decide +kernel
theorem dX1_value_156 : decode cX1_value 156 = .ok (.getfield 15, 3) := by decide +kernel
theorem dX1_value_159 : decode cX1_value 159 = .ok (.iload_n 3, 1) := by decide +kernel
theorem dX1_value_160 : decode cX1_value 160 = .ok (.iconst 1, 1) := by decide +kernel
theorem dX1_value_161 : decode cX1_value 161 = .ok (.aload_n 0, 1) := by decide +kernel
theorem dX1_value_162 : decode cX1_value 162 = .ok (.getfield 15, 3) := by decide +kernel
theorem dX1_value_165 : decode cX1_value 165 = .ok (.iload_n 3, 1) := by decide +kernel
theorem dX1_value_166 : decode cX1_value 166 = .ok (.iaload, 1) := by decide +kernel
theorem dX1_value_167 : decode cX1_value 167 = .ok (.isub, 1) := by decide +kernel
theorem dX1_value_168 : decode cX1_value 168 = .ok (.iastore, 1) := by decide +kernel
theorem dX1_value_169 : decode cX1_value 169 = .ok (.goto 100, 3) := by decide +kernel
theorem dX1_value_172 : decode cX1_value 172 = .ok (.iload 6, 2) := by decide +kernel
theorem dX1_value_174 : decode cX1_value 174 = .ok (.iconst 4, 1) := by decide +kernel
theorem dX1_value_175 : decode cX1_value 175 = .ok (.if_icmp .eq 9, 3) := by decide +kernel
theorem dX1_value_178 : decode cX1_value 178 = .ok (.iload 6, 2) := by decide +kernel
theorem dX1_value_180 : decode cX1_value 180 = .ok (.iconst 5, 1) := by decide +kernel
theorem dX1_value_181 : decode cX1_value 181 = .ok (.if_icmp .ne 36, 3) := by decide +kernel
theorem dX1_value_184 : decode cX1_value 184 = .ok (.aload_n 0, 1) := by decide +kernel
theorem dX1_value_185 : decode cX1_value 185 = .ok (.getfield 15, 3) := by decide +kernel
theorem dX1_value_188 : decode cX1_value 188 = .ok (.iload_n 3, 1) := by decide +kernel
theorem dX1_value_189 : decode cX1_value 189 = .ok (.iaload, 1) := by decide +kernel
theorem dX1_value_190 : decode cX1_value 190 = .ok (.iload 6, 2) := by decide +kernel
theorem dX1_value_192 : decode cX1_value 192 = .ok (.iconst 4, 1) := by decide +kernel
theorem dX1_value_193 : decode cX1_value 193 = .ok (.if_icmp .ne 7, 3) := by decide +kernel
theorem dX1_value_196 : decode cX1_value 196 = .ok (.iconst 1, 1) := by decide +kernel
theorem dX1_value_197 : decode cX1_value 197 = .ok (.goto 4, 3) := by decide +kernel
theorem dX1_value_200 : decode cX1_value 200 = .ok (.iconst 0, 1) := by decide +kernel
theorem dX1_value_201 : decode cX1_value 201 = .ok (.if_icmp .ne 10, 3) := by decide +kernel
theorem dX1_value_204 : decode cX1_value 204 = .ok (.iload 7, 2) := by decide +kernel
theorem dX1_value_206 : decode cX1_value 206 = .ok (.istore 4, 2) := by decide +kernel
theorem dX1_value_208 : decode cX1_value 208 = .ok (.goto 61, 3) := by decide +kernel
theorem dX1_value_211 : decode cX1_value 211 = .ok (.iinc 3 (-1), 3) := by decide +kernel
theorem dX1_value_214 : decode cX1_value 214 = .ok (.goto 55, 3) := by decide +kernel
theorem dX1_value_217 : decode cX1_value 217 = .ok (.iload_n 3, 1) := by decide +kernel
theorem dX1_value_218 : decode cX1_value 218 = .ok (.iconst 1, 1) := by decide +kernel
theorem dX1_value_219 : decode cX1_value 219 = .ok (.if_icmp .ge 6, 3) := by decide +kernel
theorem dX1_value_222 : decode cX1_value 222 = .ok (.ldc 102, 2) := by decide +kernel
theorem dX1_value_224 : decode cX1_value 224 = .ok (.ireturn, 1) := by decide +kernel
theorem dX1_value_225 : decode cX1_value 225 = .ok (.iinc 3 (-1), 3) := by decide +kernel
theorem dX1_value_228 : decode cX1_value 228 = .ok (.aload_n 0, 1) := by decide +kernel
theorem dX1_value_229 : decode cX1_value 229 = .ok (.getfield 15, 3) := by decide +kernel
theorem dX1_value_232 : decode cX1_value 232 = .ok (.iload_n 3, 1) := by decide +kernel
theorem dX1_value_233 : decode cX1_value 233 = .ok (.iload 6, 2) := by decide +kernel
theorem dX1_value_235 : decode cX1_value 235 = .ok (.aload_n 0, 1) := by decide +kernel
theorem dX1_value_236 : decode cX1_value 236 = .ok (.getfield 15, 3) := by decide +kernel
theorem dX1_value_239 : decode cX1_value 239 = .ok (.iload_n 3, 1) := by decide +kernel
theorem dX1_value_240 : decode cX1_value 240 = .ok (.iaload, 1) := by decide +kernel
theorem dX1_value_241 : decode cX1_value 241 = .ok (.i2l, 1) := by decide +kernel
theorem dX1_value_242 : decode cX1_value 242 = .ok (.aload_n 0, 1) := by decide +kernel
theorem dX1_value_243 : decode cX1_value 243 = .ok (.getfield 15, 3) := by decide +kernel
theorem dX1_value_246 : decode cX1_value 246 = .ok (.iload_n 3, 1) := by decide +kernel
theorem dX1_value_247 : decode cX1_value 247 = .ok (.iconst 1, 1) := by decide +kernel
theorem dX1_value_248 : decode cX1_value 248 = .ok (.iadd, 1) := by decide +kernel
theorem dX1_value_249 : decode cX1_value 249 = .ok (.iaload, 1) := by decide +kernel
theorem dX1_value_250 : decode cX1_value 250 = .ok (.i2l, 1) := by decide +kernel
theorem dX1_value_251 : decode cX1_value 251 = .ok (.invokestatic 109, 3) := by decide +kernel
theorem dX1_value_254 : decode cX1_value 254 = .ok (.iastore, 1) := by decide +kernel
theorem dX1_value_255 : decode cX1_value 255 = .ok (.aload_n 0, 1) := by decide +kernel
theorem dX1_value_256 : decode cX1_value 256 = .ok (.getfield 15, 3) := by decide +kernel
theorem dX1_value_259 : decode cX1_value 259 = .ok (.iload_n 3, 1) := by decide +kernel
theorem dX1_value_260 : decode cX1_value 260 = .ok (.iaload, 1) := by decide +kernel
theorem dX1_value_261 : decode cX1_value 261 = .ok (.ldc 102, 2) := by decide +kernel
theorem dX1_value_263 : decode cX1_value 263 = .ok (.if_icmp .ne 6, 3) := by decide +kernel
theorem dX1_value_266 : decode cX1_value 266 = .ok (.ldc 102, 2) := by decide +kernel
theorem dX1_value_268 : decode cX1_value 268 = .ok (.ireturn, 1) := by decide +kernel
theorem dX1_value_269 : decode cX1_value 269 = .ok (.iinc 5 1, 3) := by decide +kernel
theorem dX1_value_272 : decode cX1_value 272 = .ok (.goto (-264), 3) := by decide +kernel
theorem dX1_value_275 : decode cX1_value 275 = .ok (.ldc 102, 2) := by decide +kernel
theorem dX1_value_277 : decode cX1_value 277 = .ok (.ireturn, 1) := by decide +kernel
theorem dX1_joined_0 : decode cX1_joined 0 = .ok (.iload_n 0, 1) := by decide +kernel
theorem dX1_joined_1 : decode cX1_joined 1 = .ok (.tableswitch 231 37 62 #[163, 231, 231, 231, 231, 135, 119, 231, 127, 231, 143, 231, 231, 231, 231, 231, 231, 231, 231, 231, 231, 231, 231, 183, 215, 199], 119) := by decide +kernel
theorem dX1_joined_120 : decode cX1_joined 120 = .ok (.lload_n 1, 1) := by decide +kernel
theorem dX1_joined_121 : decode cX1_joined 121 = .ok (.lload_n 3, 1) := by decide +kernel
theorem dX1_joined_122 : decode cX1_joined 122 = .ok (.ladd, 1) := by decide +kernel
theorem dX1_joined_123 : decode cX1_joined 123 = .ok (.lstore 5, 2) := by decide +kernel
theorem dX1_joined_125 : decode cX1_joined 125 = .ok (.goto 112, 3) := by decide +kernel
theorem dX1_joined_128 : decode cX1_joined 128 = .ok (.lload_n 1, 1) := by decide +kernel
theorem dX1_joined_129 : decode cX1_joined 129 = .ok (.lload_n 3, 1) := by decide +kernel
theorem dX1_joined_130 : decode cX1_joined 130 = .ok (.lsub, 1) := by decide +kernel
theorem dX1_joined_131 : decode cX1_joined 131 = .ok (.lstore 5, 2) := by decide +kernel
theorem dX1_joined_133 : decode cX1_joined 133 = .ok (.goto 104, 3) := by decide +kernel
theorem dX1_joined_136 : decode cX1_joined 136 = .ok (.lload_n 1, 1) := by decide +kernel
theorem dX1_joined_137 : decode cX1_joined 137 = .ok (.lload_n 3, 1) := by decide +kernel
theorem dX1_joined_138 : decode cX1_joined 138 = .ok (.lmul, 1) := by decide +kernel
theorem dX1_joined_139 : decode cX1_joined 139 = .ok (.lstore 5, 2) := by decide +kernel
theorem dX1_joined_141 : decode cX1_joined 141 = .ok (.goto 96, 3) := by decide +kernel
theorem dX1_joined_144 : decode cX1_joined 144 = .ok (.lload_n 3, 1) := by decide +kernel
theorem dX1_joined_145 : decode cX1_joined 145 = .ok (.lconst 0, 1) := by decide +kernel
theorem dX1_joined_146 : decode cX1_joined 146 = .ok (.lcmp, 1) := by decide +kernel
theorem dX1_joined_147 : decode cX1_joined 147 = .ok (.ifCond .ne 9, 3) := by decide +kernel
theorem dX1_joined_150 : decode cX1_joined 150 = .ok (.ldc2_w 113, 3) := by decide +kernel
theorem dX1_joined_153 : decode cX1_joined 153 = .ok (.goto 6, 3) := by decide +kernel
theorem dX1_joined_156 : decode cX1_joined 156 = .ok (.lload_n 1, 1) := by decide +kernel
theorem dX1_joined_157 : decode cX1_joined 157 = .ok (.lload_n 3, 1) := by decide +kernel
theorem dX1_joined_158 : decode cX1_joined 158 = .ok (.ldiv, 1) := by decide +kernel
theorem dX1_joined_159 : decode cX1_joined 159 = .ok (.lstore 5, 2) := by decide +kernel
theorem dX1_joined_161 : decode cX1_joined 161 = .ok (.goto 76, 3) := by decide +kernel
theorem dX1_joined_164 : decode cX1_joined 164 = .ok (.lload_n 3, 1) := by decide +kernel
theorem dX1_joined_165 : decode cX1_joined 165 = .ok (.lconst 0, 1) := by decide +kernel
theorem dX1_joined_166 : decode cX1_joined 166 = .ok (.lcmp, 1) := by decide +kernel
theorem dX1_joined_167 : decode cX1_joined 167 = .ok (.ifCond .ne 9, 3) := by decide +kernel
theorem dX1_joined_170 : decode cX1_joined 170 = .ok (.ldc2_w 113, 3) := by decide +kernel
theorem dX1_joined_173 : decode cX1_joined 173 = .ok (.goto 6, 3) := by decide +kernel
theorem dX1_joined_176 : decode cX1_joined 176 = .ok (.lload_n 1, 1) := by decide +kernel
theorem dX1_joined_177 : decode cX1_joined 177 = .ok (.lload_n 3, 1) := by decide +kernel
theorem dX1_joined_178 : decode cX1_joined 178 = .ok (.lrem, 1) := by decide +kernel
theorem dX1_joined_179 : decode cX1_joined 179 = .ok (.lstore 5, 2) := by decide +kernel
theorem dX1_joined_181 : decode cX1_joined 181 = .ok (.goto 56, 3) := by decide +kernel
theorem dX1_joined_184 : decode cX1_joined 184 = .ok (.lload_n 1, 1) := by decide +kernel
theorem dX1_joined_185 : decode cX1_joined 185 = .ok (.lload_n 3, 1) := by decide +kernel
theorem dX1_joined_186 : decode cX1_joined 186 = .ok (.lcmp, 1) := by decide +kernel
theorem dX1_joined_187 : decode cX1_joined 187 = .ok (.ifCond .ge 7, 3) := by decide +kernel
theorem dX1_joined_190 : decode cX1_joined 190 = .ok (.lconst 1, 1) := by decide +kernel
theorem dX1_joined_191 : decode cX1_joined 191 = .ok (.goto 4, 3) := by decide +kernel
theorem dX1_joined_194 : decode cX1_joined 194 = .ok (.lconst 0, 1) := by decide +kernel
theorem dX1_joined_195 : decode cX1_joined 195 = .ok (.lstore 5, 2) := by decide +kernel
theorem dX1_joined_197 : decode cX1_joined 197 = .ok (.goto 40, 3) := by decide +kernel
theorem dX1_joined_200 : decode cX1_joined 200 = .ok (.lload_n 1, 1) := by decide +kernel
theorem dX1_joined_201 : decode cX1_joined 201 = .ok (.lload_n 3, 1) := by decide +kernel
theorem dX1_joined_202 : decode cX1_joined 202 = .ok (.lcmp, 1) := by decide +kernel
theorem dX1_joined_203 : decode cX1_joined 203 = .ok (.ifCond .le 7, 3) := by decide +kernel
theorem dX1_joined_206 : decode cX1_joined 206 = .ok (.lconst 1, 1) := by decide +kernel
theorem dX1_joined_207 : decode cX1_joined 207 = .ok (.goto 4, 3) := by decide +kernel
theorem dX1_joined_210 : decode cX1_joined 210 = .ok (.lconst 0, 1) := by decide +kernel
theorem dX1_joined_211 : decode cX1_joined 211 = .ok (.lstore 5, 2) := by decide +kernel
theorem dX1_joined_213 : decode cX1_joined 213 = .ok (.goto 24, 3) := by decide +kernel
theorem dX1_joined_216 : decode cX1_joined 216 = .ok (.lload_n 1, 1) := by decide +kernel
theorem dX1_joined_217 : decode cX1_joined 217 = .ok (.lload_n 3, 1) := by decide +kernel
theorem dX1_joined_218 : decode cX1_joined 218 = .ok (.lcmp, 1) := by decide +kernel
theorem dX1_joined_219 : decode cX1_joined 219 = .ok (.ifCond .ne 7, 3) := by decide +kernel
theorem dX1_joined_222 : decode cX1_joined 222 = .ok (.lconst 1, 1) := by decide +kernel
theorem dX1_joined_223 : decode cX1_joined 223 = .ok (.goto 4, 3) := by decide +kernel
theorem dX1_joined_226 : decode cX1_joined 226 = .ok (.lconst 0, 1) := by decide +kernel
theorem dX1_joined_227 : decode cX1_joined 227 = .ok (.lstore 5, 2) := by decide +kernel
theorem dX1_joined_229 : decode cX1_joined 229 = .ok (.goto 8, 3) := by decide +kernel
theorem dX1_joined_232 : decode cX1_joined 232 = .ok (.ldc2_w 113, 3) := by decide +kernel
theorem dX1_joined_235 : decode cX1_joined 235 = .ok (.lstore 5, 2) := by decide +kernel
theorem dX1_joined_237 : decode cX1_joined 237 = .ok (.lload 5, 2) := by decide +kernel
theorem dX1_joined_239 : decode cX1_joined 239 = .ok (.ldc2_w 115, 3) := by decide +kernel
theorem dX1_joined_242 : decode cX1_joined 242 = .ok (.lcmp, 1) := by decide +kernel
theorem dX1_joined_243 : decode cX1_joined 243 = .ok (.ifCond .lt 12, 3) := by decide +kernel
theorem dX1_joined_246 : decode cX1_joined 246 = .ok (.lload 5, 2) := by decide +kernel
theorem dX1_joined_248 : decode cX1_joined 248 = .ok (.ldc2_w 117, 3) := by decide +kernel
theorem dX1_joined_251 : decode cX1_joined 251 = .ok (.lcmp, 1) := by decide +kernel
theorem dX1_joined_252 : decode cX1_joined 252 = .ok (.ifCond .le 8, 3) := by decide +kernel
theorem dX1_joined_255 : decode cX1_joined 255 = .ok (.ldc 102, 2) := by decide +kernel
theorem dX1_joined_257 : decode cX1_joined 257 = .ok (.goto 6, 3) := by decide +kernel
theorem dX1_joined_260 : decode cX1_joined 260 = .ok (.lload 5, 2) := by decide +kernel
theorem dX1_joined_262 : decode cX1_joined 262 = .ok (.l2i, 1) := by decide +kernel
theorem dX1_joined_263 : decode cX1_joined 263 = .ok (.ireturn, 1) := by decide +kernel
theorem dX2_init_0 : decode cX2_init 0 = .ok (.aload_n 0, 1) := by decide +kernel
theorem dX2_init_1 : decode cX2_init 1 = .ok (.invokespecial 3, 3) := by decide +kernel
theorem dX2_init_4 : decode cX2_init 4 = .ok (.aload_n 0, 1) := by decide +kernel
theorem dX2_init_5 : decode cX2_init 5 = .ok (.bipush 64, 2) := by decide +kernel
theorem dX2_init_7 : decode cX2_init 7 = .ok (.newarray .int, 2) := by decide +kernel
theorem dX2_init_9 : decode cX2_init 9 = .ok (.putfield 9, 3) := by decide +kernel
theorem dX2_init_12 : decode cX2_init 12 = .ok (.aload_n 0, 1) := by decide +kernel
theorem dX2_init_13 : decode cX2_init 13 = .ok (.sipush 2304, 3) := by decide +kernel
theorem dX2_init_16 : decode cX2_init 16 = .ok (.newarray .int, 2) := by decide +kernel
theorem dX2_init_18 : decode cX2_init 18 = .ok (.putfield 15, 3) := by decide +kernel
theorem dX2_init_21 : decode cX2_init 21 = .ok (.aload_n 0, 1) := by decide +kernel
theorem dX2_init_22 : decode cX2_init 22 = .ok (.sipush 1024, 3) := by decide +kernel
theorem dX2_init_25 : decode cX2_init 25 = .ok (.newarray .int, 2) := by decide +kernel
theorem dX2_init_27 : decode cX2_init 27 = .ok (.putfield 18, 3) := by decide +kernel
theorem dX2_init_30 : decode cX2_init 30 = .ok (.aload_n 0, 1) := by decide +kernel
theorem dX2_init_31 : decode cX2_init 31 = .ok (.bipush 7, 2) := by decide +kernel
theorem dX2_init_33 : decode cX2_init 33 = .ok (.newarray .int, 2) := by decide +kernel
theorem dX2_init_35 : decode cX2_init 35 = .ok (.putfield 21, 3) := by decide +kernel
theorem dX2_init_38 : decode cX2_init 38 = .ok (.aload_n 0, 1) := by decide +kernel
theorem dX2_init_39 : decode cX2_init 39 = .ok (.bipush 8, 2) := by decide +kernel
theorem dX2_init_41 : decode cX2_init 41 = .ok (.newarray .int, 2) := by decide +kernel
theorem dX2_init_43 : decode cX2_init 43 = .ok (.putfield 24, 3) := by decide +kernel
theorem dX2_init_46 : decode cX2_init 46 = .ok (.aload_n 0, 1) := by decide +kernel
theorem dX2_init_47 : decode cX2_init 47 = .ok (.bipush 8, 2) := by decide +kernel
theorem dX2_init_49 : decode cX2_init 49 = .ok (.newarray .int, 2) := by decide +kernel
theorem dX2_init_51 : decode cX2_init 51 = .ok (.putfield 27, 3) := by decide +kernel
theorem dX2_init_54 : decode cX2_init 54 = .ok (.return_, 1) := by decide +kernel
theorem dX2_fewestFor_0 : decode cX2_fewestFor 0 = .ok (.iconst 0, 1) := by decide +kernel
theorem dX2_fewestFor_1 : decode cX2_fewestFor 1 = .ok (.istore 4, 2) := by decide +kernel
theorem dX2_fewestFor_3 : decode cX2_fewestFor 3 = .ok (.iconst 0, 1) := by decide +kernel
theorem dX2_fewestFor_4 : decode cX2_fewestFor 4 = .ok (.istore 5, 2) := by decide +kernel
theorem dX2_fewestFor_6 : decode cX2_fewestFor 6 = .ok (.iload 5, 2) := by decide +kernel
theorem dX2_fewestFor_8 : decode cX2_fewestFor 8 = .ok (.aload_n 1, 1) := by decide +kernel
theorem dX2_fewestFor_9 : decode cX2_fewestFor 9 = .ok (.getfield 30, 3) := by decide +kernel
theorem dX2_fewestFor_12 : decode cX2_fewestFor 12 = .ok (.if_icmp .ge 59, 3) := by decide +kernel
theorem dX2_fewestFor_15 : decode cX2_fewestFor 15 = .ok (.aload_n 1, 1) := by decide +kernel
theorem dX2_fewestFor_16 : decode cX2_fewestFor 16 = .ok (.getfield 36, 3) := by decide +kernel
theorem dX2_fewestFor_19 : decode cX2_fewestFor 19 = .ok (.iload 5, 2) := by decide +kernel
theorem dX2_fewestFor_21 : decode cX2_fewestFor 21 = .ok (.iaload, 1) := by decide +kernel
theorem dX2_fewestFor_22 : decode cX2_fewestFor 22 = .ok (.iconst (-1), 1) := by decide +kernel
theorem dX2_fewestFor_23 : decode cX2_fewestFor 23 = .ok (.if_icmp .eq 42, 3) := by decide +kernel
theorem dX2_fewestFor_26 : decode cX2_fewestFor 26 = .ok (.aload_n 2, 1) := by decide +kernel
theorem dX2_fewestFor_27 : decode cX2_fewestFor 27 = .ok (.aload_n 1, 1) := by decide +kernel
theorem dX2_fewestFor_28 : decode cX2_fewestFor 28 = .ok (.iload 5, 2) := by decide +kernel
theorem dX2_fewestFor_30 : decode cX2_fewestFor 30 = .ok (.invokevirtual 39, 3) := by decide +kernel
theorem dX2_fewestFor_33 : decode cX2_fewestFor 33 = .ok (.ifCond .eq 6, 3) := by decide +kernel
theorem dX2_fewestFor_36 : decode cX2_fewestFor 36 = .ok (.goto 29, 3) := by decide +kernel
theorem dX2_fewestFor_39 : decode cX2_fewestFor 39 = .ok (.iload 4, 2) := by decide +kernel
theorem dX2_fewestFor_41 : decode cX2_fewestFor 41 = .ok (.iconst 1, 1) := by decide +kernel
theorem dX2_fewestFor_42 : decode cX2_fewestFor 42 = .ok (.iload 5, 2) := by decide +kernel
theorem dX2_fewestFor_44 : decode cX2_fewestFor 44 = .ok (.ishl, 1) := by decide +kernel
theorem dX2_fewestFor_45 : decode cX2_fewestFor 45 = .ok (.ior, 1) := by decide +kernel
theorem dX2_fewestFor_46 : decode cX2_fewestFor 46 = .ok (.istore 4, 2) := by decide +kernel
theorem dX2_fewestFor_48 : decode cX2_fewestFor 48 = .ok (.aload_n 0, 1) := by decide +kernel
theorem dX2_fewestFor_49 : decode cX2_fewestFor 49 = .ok (.getfield 24, 3) := by decide +kernel
theorem dX2_fewestFor_52 : decode cX2_fewestFor 52 = .ok (.iload 5, 2) := by decide +kernel
theorem dX2_fewestFor_54 : decode cX2_fewestFor 54 = .ok (.aload_n 2, 1) := by decide +kernel
theorem dX2_fewestFor_55 : decode cX2_fewestFor 55 = .ok (.aload_n 1, 1) := by decide +kernel
theorem dX2_fewestFor_56 : decode cX2_fewestFor 56 = .ok (.iload 5, 2) := by decide +kernel
theorem dX2_fewestFor_58 : decode cX2_fewestFor 58 = .ok (.iconst 0, 1) := by decide +kernel
theorem dX2_fewestFor_59 : decode cX2_fewestFor 59 = .ok (.bipush 99, 2) := by decide +kernel
theorem dX2_fewestFor_61 : decode cX2_fewestFor 61 = .ok (.invokevirtual 45, 3) := by decide +kernel
theorem dX2_fewestFor_64 : decode cX2_fewestFor 64 = .ok (.iastore, 1) := by decide +kernel
theorem dX2_fewestFor_65 : decode cX2_fewestFor 65 = .ok (.iinc 5 1, 3) := by decide +kernel
theorem dX2_fewestFor_68 : decode cX2_fewestFor 68 = .ok (.goto (-62), 3) := by decide +kernel
theorem dX2_fewestFor_71 : decode cX2_fewestFor 71 = .ok (.iconst (-1), 1) := by decide +kernel
theorem dX2_fewestFor_72 : decode cX2_fewestFor 72 = .ok (.istore 5, 2) := by decide +kernel
theorem dX2_fewestFor_74 : decode cX2_fewestFor 74 = .ok (.iconst 0, 1) := by decide +kernel
theorem dX2_fewestFor_75 : decode cX2_fewestFor 75 = .ok (.istore 6, 2) := by decide +kernel
theorem dX2_fewestFor_77 : decode cX2_fewestFor 77 = .ok (.iload 6, 2) := by decide +kernel
theorem dX2_fewestFor_79 : decode cX2_fewestFor 79 = .ok (.sipush 256, 3) := by decide +kernel
theorem dX2_fewestFor_82 : decode cX2_fewestFor 82 = .ok (.if_icmp .ge 96, 3) := by decide +kernel
theorem dX2_fewestFor_85 : decode cX2_fewestFor 85 = .ok (.iload 6, 2) := by decide +kernel
theorem dX2_fewestFor_87 : decode cX2_fewestFor 87 = .ok (.iload 4, 2) := by decide +kernel
theorem dX2_fewestFor_89 : decode cX2_fewestFor 89 = .ok (.iconst (-1), 1) := by decide +kernel
theorem dX2_fewestFor_90 : decode cX2_fewestFor 90 = .ok (.ixor, 1) := by decide +kernel
theorem dX2_fewestFor_91 : decode cX2_fewestFor 91 = .ok (.iand, 1) := by decide +kernel
theorem dX2_fewestFor_92 : decode cX2_fewestFor 92 = .ok (.ifCond .eq 6, 3) := by decide +kernel
theorem dX2_fewestFor_95 : decode cX2_fewestFor 95 = .ok (.goto 77, 3) := by decide +kernel
theorem dX2_fewestFor_98 : decode cX2_fewestFor 98 = .ok (.iload 5, 2) := by decide +kernel
theorem dX2_fewestFor_100 : decode cX2_fewestFor 100 = .ok (.iconst (-1), 1) := by decide +kernel
theorem dX2_fewestFor_101 : decode cX2_fewestFor 101 = .ok (.if_icmp .eq 19, 3) := by decide +kernel
theorem dX2_fewestFor_104 : decode cX2_fewestFor 104 = .ok (.iload 6, 2) := by decide +kernel
theorem dX2_fewestFor_106 : decode cX2_fewestFor 106 = .ok (.invokestatic 49, 3) := by decide +kernel
theorem dX2_fewestFor_109 : decode cX2_fewestFor 109 = .ok (.iload 5, 2) := by decide +kernel
theorem dX2_fewestFor_111 : decode cX2_fewestFor 111 = .ok (.invokestatic 49, 3) := by decide +kernel
theorem dX2_fewestFor_114 : decode cX2_fewestFor 114 = .ok (.if_icmp .lt 6, 3) := by decide +kernel
theorem dX2_fewestFor_117 : decode cX2_fewestFor 117 = .ok (.goto 55, 3) := by decide +kernel
theorem dX2_fewestFor_120 : decode cX2_fewestFor 120 = .ok (.iconst 0, 1) := by decide +kernel
theorem dX2_fewestFor_121 : decode cX2_fewestFor 121 = .ok (.istore 7, 2) := by decide +kernel
theorem dX2_fewestFor_123 : decode cX2_fewestFor 123 = .ok (.iconst 0, 1) := by decide +kernel
theorem dX2_fewestFor_124 : decode cX2_fewestFor 124 = .ok (.istore 8, 2) := by decide +kernel
theorem dX2_fewestFor_126 : decode cX2_fewestFor 126 = .ok (.iload 8, 2) := by decide +kernel
theorem dX2_fewestFor_128 : decode cX2_fewestFor 128 = .ok (.bipush 8, 2) := by decide +kernel
theorem dX2_fewestFor_130 : decode cX2_fewestFor 130 = .ok (.if_icmp .ge 32, 3) := by decide +kernel
theorem dX2_fewestFor_133 : decode cX2_fewestFor 133 = .ok (.iload 6, 2) := by decide +kernel
theorem dX2_fewestFor_135 : decode cX2_fewestFor 135 = .ok (.iload 8, 2) := by decide +kernel
theorem dX2_fewestFor_137 : decode cX2_fewestFor 137 = .ok (.ishr, 1) := by decide +kernel
theorem dX2_fewestFor_138 : decode cX2_fewestFor 138 = .ok (.iconst 1, 1) := by decide +kernel
theorem dX2_fewestFor_139 : decode cX2_fewestFor 139 = .ok (.iand, 1) := by decide +kernel
theorem dX2_fewestFor_140 : decode cX2_fewestFor 140 = .ok (.iconst 1, 1) := by decide +kernel
theorem dX2_fewestFor_141 : decode cX2_fewestFor 141 = .ok (.if_icmp .ne 15, 3) := by decide +kernel
theorem dX2_fewestFor_144 : decode cX2_fewestFor 144 = .ok (.iload 7, 2) := by decide +kernel
theorem dX2_fewestFor_146 : decode cX2_fewestFor 146 = .ok (.aload_n 0, 1) := by decide +kernel
theorem dX2_fewestFor_147 : decode cX2_fewestFor 147 = .ok (.getfield 24, 3) := by decide +kernel
theorem dX2_fewestFor_150 : decode cX2_fewestFor 150 = .ok (.iload 8, 2) := by decide +kernel
theorem dX2_fewestFor_152 : decode cX2_fewestFor 152 = .ok (.iaload, 1) := by decide +kernel
theorem dX2_fewestFor_153 : decode cX2_fewestFor 153 = .ok (.iadd, 1) := by decide +kernel
theorem dX2_fewestFor_154 : decode cX2_fewestFor 154 = .ok (.istore 7, 2) := by decide +kernel
theorem dX2_fewestFor_156 : decode cX2_fewestFor 156 = .ok (.iinc 8 1, 3) := by decide +kernel
theorem dX2_fewestFor_159 : decode cX2_fewestFor 159 = .ok (.goto (-33), 3) := by decide +kernel
theorem dX2_fewestFor_162 : decode cX2_fewestFor 162 = .ok (.iload 7, 2) := by decide +kernel
theorem dX2_fewestFor_164 : decode cX2_fewestFor 164 = .ok (.iload_n 3, 1) := by decide +kernel
theorem dX2_fewestFor_165 : decode cX2_fewestFor 165 = .ok (.if_icmp .lt 7, 3) := by decide +kernel
theorem dX2_fewestFor_168 : decode cX2_fewestFor 168 = .ok (.iload 6, 2) := by decide +kernel
theorem dX2_fewestFor_170 : decode cX2_fewestFor 170 = .ok (.istore 5, 2) := by decide +kernel
theorem dX2_fewestFor_172 : decode cX2_fewestFor 172 = .ok (.iinc 6 1, 3) := by decide +kernel
theorem dX2_fewestFor_175 : decode cX2_fewestFor 175 = .ok (.goto (-98), 3) := by decide +kernel
theorem dX2_fewestFor_178 : decode cX2_fewestFor 178 = .ok (.iload 5, 2) := by decide +kernel
theorem dX2_fewestFor_180 : decode cX2_fewestFor 180 = .ok (.ireturn, 1) := by decide +kernel
theorem dX2_hangAll_0 : decode cX2_hangAll 0 = .ok (.iconst 0, 1) := by decide +kernel
theorem dX2_hangAll_1 : decode cX2_hangAll 1 = .ok (.istore_n 3, 1) := by decide +kernel
theorem dX2_hangAll_2 : decode cX2_hangAll 2 = .ok (.iload_n 3, 1) := by decide +kernel
theorem dX2_hangAll_3 : decode cX2_hangAll 3 = .ok (.aload_n 1, 1) := by decide +kernel
theorem dX2_hangAll_4 : decode cX2_hangAll 4 = .ok (.getfield 30, 3) := by decide +kernel
theorem dX2_hangAll_7 : decode cX2_hangAll 7 = .ok (.if_icmp .ge 92, 3) := by decide +kernel
theorem dX2_hangAll_10 : decode cX2_hangAll 10 = .ok (.iconst 0, 1) := by decide +kernel
theorem dX2_hangAll_11 : decode cX2_hangAll 11 = .ok (.istore 4, 2) := by decide +kernel
theorem dX2_hangAll_13 : decode cX2_hangAll 13 = .ok (.iload 4, 2) := by decide +kernel
theorem dX2_hangAll_15 : decode cX2_hangAll 15 = .ok (.aload_n 1, 1) := by decide +kernel
theorem dX2_hangAll_16 : decode cX2_hangAll 16 = .ok (.getfield 55, 3) := by decide +kernel
theorem dX2_hangAll_19 : decode cX2_hangAll 19 = .ok (.if_icmp .ge 74, 3) := by decide +kernel
theorem dX2_hangAll_22 : decode cX2_hangAll 22 = .ok (.aload_n 1, 1) := by decide +kernel
theorem dX2_hangAll_23 : decode cX2_hangAll 23 = .ok (.iload_n 3, 1) := by decide +kernel
theorem dX2_hangAll_24 : decode cX2_hangAll 24 = .ok (.invokevirtual 58, 3) := by decide +kernel
theorem dX2_hangAll_27 : decode cX2_hangAll 27 = .ok (.ifCond .ne 18, 3) := by decide +kernel
theorem dX2_hangAll_30 : decode cX2_hangAll 30 = .ok (.aload_n 2, 1) := by decide +kernel
theorem dX2_hangAll_31 : decode cX2_hangAll 31 = .ok (.aload_n 1, 1) := by decide +kernel
theorem dX2_hangAll_32 : decode cX2_hangAll 32 = .ok (.iload_n 3, 1) := by decide +kernel
theorem dX2_hangAll_33 : decode cX2_hangAll 33 = .ok (.iload 4, 2) := by decide +kernel
theorem dX2_hangAll_35 : decode cX2_hangAll 35 = .ok (.invokevirtual 62, 3) := by decide +kernel
theorem dX2_hangAll_38 : decode cX2_hangAll 38 = .ok (.ifCond .eq 7, 3) := by decide +kernel
theorem dX2_hangAll_41 : decode cX2_hangAll 41 = .ok (.iconst 1, 1) := by decide +kernel
theorem dX2_hangAll_42 : decode cX2_hangAll 42 = .ok (.goto 4, 3) := by decide +kernel
theorem dX2_hangAll_45 : decode cX2_hangAll 45 = .ok (.iconst 0, 1) := by decide +kernel
theorem dX2_hangAll_46 : decode cX2_hangAll 46 = .ok (.istore 5, 2) := by decide +kernel
theorem dX2_hangAll_48 : decode cX2_hangAll 48 = .ok (.aload_n 0, 1) := by decide +kernel
theorem dX2_hangAll_49 : decode cX2_hangAll 49 = .ok (.getfield 9, 3) := by decide +kernel
theorem dX2_hangAll_52 : decode cX2_hangAll 52 = .ok (.iload_n 3, 1) := by decide +kernel
theorem dX2_hangAll_53 : decode cX2_hangAll 53 = .ok (.bipush 8, 2) := by decide +kernel
theorem dX2_hangAll_55 : decode cX2_hangAll 55 = .ok (.imul, 1) := by decide +kernel
theorem dX2_hangAll_56 : decode cX2_hangAll 56 = .ok (.iload 4, 2) := by decide +kernel
theorem dX2_hangAll_58 : decode cX2_hangAll 58 = .ok (.iadd, 1) := by decide +kernel
theorem dX2_hangAll_59 : decode cX2_hangAll 59 = .ok (.iload 5, 2) := by decide +kernel
theorem dX2_hangAll_61 : decode cX2_hangAll 61 = .ok (.ifCond .ne 7, 3) := by decide +kernel
theorem dX2_hangAll_64 : decode cX2_hangAll 64 = .ok (.iconst (-1), 1) := by decide +kernel
theorem dX2_hangAll_65 : decode cX2_hangAll 65 = .ok (.goto 21, 3) := by decide +kernel
theorem dX2_hangAll_68 : decode cX2_hangAll 68 = .ok (.aload_n 1, 1) := by decide +kernel
theorem dX2_hangAll_69 : decode cX2_hangAll 69 = .ok (.getfield 66, 3) := by decide +kernel
theorem dX2_hangAll_72 : decode cX2_hangAll 72 = .ok (.iload_n 3, 1) := by decide +kernel
theorem dX2_hangAll_73 : decode cX2_hangAll 73 = .ok (.iaload, 1) := by decide +kernel
theorem dX2_hangAll_74 : decode cX2_hangAll 74 = .ok (.iload 4, 2) := by decide +kernel
theorem dX2_hangAll_76 : decode cX2_hangAll 76 = .ok (.if_icmp .ne 8, 3) := by decide +kernel
theorem dX2_hangAll_79 : decode cX2_hangAll 79 = .ok (.bipush 17, 2) := by decide +kernel
theorem dX2_hangAll_81 : decode cX2_hangAll 81 = .ok (.goto 5, 3) := by decide +kernel
theorem dX2_hangAll_84 : decode cX2_hangAll 84 = .ok (.bipush 16, 2) := by decide +kernel
theorem dX2_hangAll_86 : decode cX2_hangAll 86 = .ok (.iastore, 1) := by decide +kernel
theorem dX2_hangAll_87 : decode cX2_hangAll 87 = .ok (.iinc 4 1, 3) := by decide +kernel
theorem dX2_hangAll_90 : decode cX2_hangAll 90 = .ok (.goto (-77), 3) := by decide +kernel
theorem dX2_hangAll_93 : decode cX2_hangAll 93 = .ok (.iinc 3 1, 3) := by decide +kernel
theorem dX2_hangAll_96 : decode cX2_hangAll 96 = .ok (.goto (-94), 3) := by decide +kernel
theorem dX2_hangAll_99 : decode cX2_hangAll 99 = .ok (.aload_n 0, 1) := by decide +kernel
theorem dX2_hangAll_100 : decode cX2_hangAll 100 = .ok (.aload_n 1, 1) := by decide +kernel
theorem dX2_hangAll_101 : decode cX2_hangAll 101 = .ok (.getfield 30, 3) := by decide +kernel
theorem dX2_hangAll_104 : decode cX2_hangAll 104 = .ok (.aload_n 1, 1) := by decide +kernel
theorem dX2_hangAll_105 : decode cX2_hangAll 105 = .ok (.getfield 55, 3) := by decide +kernel
theorem dX2_hangAll_108 : decode cX2_hangAll 108 = .ok (.invokevirtual 69, 3) := by decide +kernel
theorem dX2_hangAll_111 : decode cX2_hangAll 111 = .ok (.ireturn, 1) := by decide +kernel
theorem dX2_fight_0 : decode cX2_fight 0 = .ok (.iconst 0, 1) := by decide +kernel
theorem dX2_fight_1 : decode cX2_fight 1 = .ok (.istore_n 2, 1) := by decide +kernel
theorem dX2_fight_2 : decode cX2_fight 2 = .ok (.iload_n 2, 1) := by decide +kernel
theorem dX2_fight_3 : decode cX2_fight 3 = .ok (.aload_n 1, 1) := by decide +kernel
theorem dX2_fight_4 : decode cX2_fight 4 = .ok (.getfield 30, 3) := by decide +kernel
theorem dX2_fight_7 : decode cX2_fight 7 = .ok (.if_icmp .ge 68, 3) := by decide +kernel
theorem dX2_fight_10 : decode cX2_fight 10 = .ok (.iconst 0, 1) := by decide +kernel
theorem dX2_fight_11 : decode cX2_fight 11 = .ok (.istore_n 3, 1) := by decide +kernel
theorem dX2_fight_12 : decode cX2_fight 12 = .ok (.iload_n 3, 1) := by decide +kernel
theorem dX2_fight_13 : decode cX2_fight 13 = .ok (.aload_n 1, 1) := by decide +kernel
theorem dX2_fight_14 : decode cX2_fight 14 = .ok (.getfield 73, 3) := by decide +kernel
theorem dX2_fight_17 : decode cX2_fight 17 = .ok (.if_icmp .ge 52, 3) := by decide +kernel
theorem dX2_fight_20 : decode cX2_fight 20 = .ok (.aload_n 0, 1) := by decide +kernel
theorem dX2_fight_21 : decode cX2_fight 21 = .ok (.getfield 9, 3) := by decide +kernel
theorem dX2_fight_24 : decode cX2_fight 24 = .ok (.iload_n 2, 1) := by decide +kernel
theorem dX2_fight_25 : decode cX2_fight 25 = .ok (.bipush 8, 2) := by decide +kernel
theorem dX2_fight_27 : decode cX2_fight 27 = .ok (.imul, 1) := by decide +kernel
theorem dX2_fight_28 : decode cX2_fight 28 = .ok (.iload_n 3, 1) := by decide +kernel
theorem dX2_fight_29 : decode cX2_fight 29 = .ok (.iadd, 1) := by decide +kernel
theorem dX2_fight_30 : decode cX2_fight 30 = .ok (.aload_n 1, 1) := by decide +kernel
theorem dX2_fight_31 : decode cX2_fight 31 = .ok (.iload_n 2, 1) := by decide +kernel
theorem dX2_fight_32 : decode cX2_fight 32 = .ok (.invokevirtual 58, 3) := by decide +kernel
theorem dX2_fight_35 : decode cX2_fight 35 = .ok (.ifCond .eq 7, 3) := by decide +kernel
theorem dX2_fight_38 : decode cX2_fight 38 = .ok (.iconst (-1), 1) := by decide +kernel
theorem dX2_fight_39 : decode cX2_fight 39 = .ok (.goto 23, 3) := by decide +kernel
theorem dX2_fight_42 : decode cX2_fight 42 = .ok (.aload_n 1, 1) := by decide +kernel
theorem dX2_fight_43 : decode cX2_fight 43 = .ok (.getfield 76, 3) := by decide +kernel
theorem dX2_fight_46 : decode cX2_fight 46 = .ok (.iload_n 2, 1) := by decide +kernel
theorem dX2_fight_47 : decode cX2_fight 47 = .ok (.iaload, 1) := by decide +kernel
theorem dX2_fight_48 : decode cX2_fight 48 = .ok (.aload_n 1, 1) := by decide +kernel
theorem dX2_fight_49 : decode cX2_fight 49 = .ok (.getfield 79, 3) := by decide +kernel
theorem dX2_fight_52 : decode cX2_fight 52 = .ok (.iload_n 3, 1) := by decide +kernel
theorem dX2_fight_53 : decode cX2_fight 53 = .ok (.iaload, 1) := by decide +kernel
theorem dX2_fight_54 : decode cX2_fight 54 = .ok (.if_icmp .le 7, 3) := by decide +kernel
theorem dX2_fight_57 : decode cX2_fight 57 = .ok (.iconst 1, 1) := by decide +kernel
theorem dX2_fight_58 : decode cX2_fight 58 = .ok (.goto 4, 3) := by decide +kernel
theorem dX2_fight_61 : decode cX2_fight 61 = .ok (.iconst 0, 1) := by decide +kernel
theorem dX2_fight_62 : decode cX2_fight 62 = .ok (.iastore, 1) := by decide +kernel
theorem dX2_fight_63 : decode cX2_fight 63 = .ok (.iinc 3 1, 3) := by decide +kernel
theorem dX2_fight_66 : decode cX2_fight 66 = .ok (.goto (-54), 3) := by decide +kernel
theorem dX2_fight_69 : decode cX2_fight 69 = .ok (.iinc 2 1, 3) := by decide +kernel
theorem dX2_fight_72 : decode cX2_fight 72 = .ok (.goto (-70), 3) := by decide +kernel
theorem dX2_fight_75 : decode cX2_fight 75 = .ok (.aload_n 0, 1) := by decide +kernel
theorem dX2_fight_76 : decode cX2_fight 76 = .ok (.aload_n 1, 1) := by decide +kernel
theorem dX2_fight_77 : decode cX2_fight 77 = .ok (.getfield 30, 3) := by decide +kernel
theorem dX2_fight_80 : decode cX2_fight 80 = .ok (.aload_n 1, 1) := by decide +kernel
theorem dX2_fight_81 : decode cX2_fight 81 = .ok (.getfield 73, 3) := by decide +kernel
theorem dX2_fight_84 : decode cX2_fight 84 = .ok (.invokevirtual 69, 3) := by decide +kernel
theorem dX2_fight_87 : decode cX2_fight 87 = .ok (.ireturn, 1) := by decide +kernel
theorem dX2_pair_0 : decode cX2_pair 0 = .ok (.iconst 1, 1) := by decide +kernel
theorem dX2_pair_1 : decode cX2_pair 1 = .ok (.iload_n 2, 1) := by decide +kernel
theorem dX2_pair_2 : decode cX2_pair 2 = .ok (.ishl, 1) := by decide +kernel
theorem dX2_pair_3 : decode cX2_pair 3 = .ok (.istore_n 3, 1) := by decide +kernel
theorem dX2_pair_4 : decode cX2_pair 4 = .ok (.iconst 0, 1) := by decide +kernel
theorem dX2_pair_5 : decode cX2_pair 5 = .ok (.istore 4, 2) := by decide +kernel
theorem dX2_pair_7 : decode cX2_pair 7 = .ok (.iload 4, 2) := by decide +kernel
theorem dX2_pair_9 : decode cX2_pair 9 = .ok (.iload_n 3, 1) := by decide +kernel
theorem dX2_pair_10 : decode cX2_pair 10 = .ok (.if_icmp .ge 23, 3) := by decide +kernel
theorem dX2_pair_13 : decode cX2_pair 13 = .ok (.aload_n 0, 1) := by decide +kernel
theorem dX2_pair_14 : decode cX2_pair 14 = .ok (.getfield 15, 3) := by decide +kernel
theorem dX2_pair_17 : decode cX2_pair 17 = .ok (.iload_n 1, 1) := by decide +kernel
theorem dX2_pair_18 : decode cX2_pair 18 = .ok (.sipush 256, 3) := by decide +kernel
theorem dX2_pair_21 : decode cX2_pair 21 = .ok (.imul, 1) := by decide +kernel
theorem dX2_pair_22 : decode cX2_pair 22 = .ok (.iload 4, 2) := by decide +kernel
theorem dX2_pair_24 : decode cX2_pair 24 = .ok (.iadd, 1) := by decide +kernel
theorem dX2_pair_25 : decode cX2_pair 25 = .ok (.iconst 0, 1) := by decide +kernel
theorem dX2_pair_26 : decode cX2_pair 26 = .ok (.iastore, 1) := by decide +kernel
theorem dX2_pair_27 : decode cX2_pair 27 = .ok (.iinc 4 1, 3) := by decide +kernel
theorem dX2_pair_30 : decode cX2_pair 30 = .ok (.goto (-23), 3) := by decide +kernel
theorem dX2_pair_33 : decode cX2_pair 33 = .ok (.iload_n 1, 1) := by decide +kernel
theorem dX2_pair_34 : decode cX2_pair 34 = .ok (.iconst 1, 1) := by decide +kernel
theorem dX2_pair_35 : decode cX2_pair 35 = .ok (.isub, 1) := by decide +kernel
theorem dX2_pair_36 : decode cX2_pair 36 = .ok (.istore 4, 2) := by decide +kernel
theorem dX2_pair_38 : decode cX2_pair 38 = .ok (.iload 4, 2) := by decide +kernel
theorem dX2_pair_40 : decode cX2_pair 40 = .ok (.ifCond .lt 103, 3) := by decide +kernel
theorem dX2_pair_43 : decode cX2_pair 43 = .ok (.iconst 0, 1) := by decide +kernel
theorem dX2_pair_44 : decode cX2_pair 44 = .ok (.istore 5, 2) := by decide +kernel
theorem dX2_pair_46 : decode cX2_pair 46 = .ok (.iload 5, 2) := by decide +kernel
theorem dX2_pair_48 : decode cX2_pair 48 = .ok (.iload_n 3, 1) := by decide +kernel
theorem dX2_pair_49 : decode cX2_pair 49 = .ok (.if_icmp .ge 88, 3) := by decide +kernel
theorem dX2_pair_52 : decode cX2_pair 52 = .ok (.iload 5, 2) := by decide +kernel
theorem dX2_pair_54 : decode cX2_pair 54 = .ok (.invokestatic 49, 3) := by decide +kernel
theorem dX2_pair_57 : decode cX2_pair 57 = .ok (.iload 4, 2) := by decide +kernel
theorem dX2_pair_59 : decode cX2_pair 59 = .ok (.if_icmp .le 6, 3) := by decide +kernel
theorem dX2_pair_62 : decode cX2_pair 62 = .ok (.goto 69, 3) := by decide +kernel
theorem dX2_pair_65 : decode cX2_pair 65 = .ok (.aload_n 0, 1) := by decide +kernel
theorem dX2_pair_66 : decode cX2_pair 66 = .ok (.getfield 15, 3) := by decide +kernel
theorem dX2_pair_69 : decode cX2_pair 69 = .ok (.iload 4, 2) := by decide +kernel
theorem dX2_pair_71 : decode cX2_pair 71 = .ok (.iconst 1, 1) := by decide +kernel
theorem dX2_pair_72 : decode cX2_pair 72 = .ok (.iadd, 1) := by decide +kernel
theorem dX2_pair_73 : decode cX2_pair 73 = .ok (.sipush 256, 3) := by decide +kernel
theorem dX2_pair_76 : decode cX2_pair 76 = .ok (.imul, 1) := by decide +kernel
theorem dX2_pair_77 : decode cX2_pair 77 = .ok (.iload 5, 2) := by decide +kernel
theorem dX2_pair_79 : decode cX2_pair 79 = .ok (.iadd, 1) := by decide +kernel
theorem dX2_pair_80 : decode cX2_pair 80 = .ok (.iaload, 1) := by decide +kernel
theorem dX2_pair_81 : decode cX2_pair 81 = .ok (.istore 6, 2) := by decide +kernel
theorem dX2_pair_83 : decode cX2_pair 83 = .ok (.iconst 0, 1) := by decide +kernel
theorem dX2_pair_84 : decode cX2_pair 84 = .ok (.istore 7, 2) := by decide +kernel
theorem dX2_pair_86 : decode cX2_pair 86 = .ok (.iload 7, 2) := by decide +kernel
theorem dX2_pair_88 : decode cX2_pair 88 = .ok (.iload_n 2, 1) := by decide +kernel
theorem dX2_pair_89 : decode cX2_pair 89 = .ok (.if_icmp .ge 26, 3) := by decide +kernel
theorem dX2_pair_92 : decode cX2_pair 92 = .ok (.iload 6, 2) := by decide +kernel
theorem dX2_pair_94 : decode cX2_pair 94 = .ok (.aload_n 0, 1) := by decide +kernel
theorem dX2_pair_95 : decode cX2_pair 95 = .ok (.iload 4, 2) := by decide +kernel
theorem dX2_pair_97 : decode cX2_pair 97 = .ok (.iload 7, 2) := by decide +kernel
theorem dX2_pair_99 : decode cX2_pair 99 = .ok (.iload 5, 2) := by decide +kernel
theorem dX2_pair_101 : decode cX2_pair 101 = .ok (.invokevirtual 82, 3) := by decide +kernel
theorem dX2_pair_104 : decode cX2_pair 104 = .ok (.invokestatic 86, 3) := by decide +kernel
theorem dX2_pair_107 : decode cX2_pair 107 = .ok (.istore 6, 2) := by decide +kernel
theorem dX2_pair_109 : decode cX2_pair 109 = .ok (.iinc 7 1, 3) := by decide +kernel
theorem dX2_pair_112 : decode cX2_pair 112 = .ok (.goto (-26), 3) := by decide +kernel
theorem dX2_pair_115 : decode cX2_pair 115 = .ok (.aload_n 0, 1) := by decide +kernel
theorem dX2_pair_116 : decode cX2_pair 116 = .ok (.getfield 15, 3) := by decide +kernel
theorem dX2_pair_119 : decode cX2_pair 119 = .ok (.iload 4, 2) := by decide +kernel
theorem dX2_pair_121 : decode cX2_pair 121 = .ok (.sipush 256, 3) := by decide +kernel
theorem dX2_pair_124 : decode cX2_pair 124 = .ok (.imul, 1) := by decide +kernel
theorem dX2_pair_125 : decode cX2_pair 125 = .ok (.iload 5, 2) := by decide +kernel
theorem dX2_pair_127 : decode cX2_pair 127 = .ok (.iadd, 1) := by decide +kernel
theorem dX2_pair_128 : decode cX2_pair 128 = .ok (.iload 6, 2) := by decide +kernel
theorem dX2_pair_130 : decode cX2_pair 130 = .ok (.iastore, 1) := by decide +kernel
theorem dX2_pair_131 : decode cX2_pair 131 = .ok (.iinc 5 1, 3) := by decide +kernel
theorem dX2_pair_134 : decode cX2_pair 134 = .ok (.goto (-88), 3) := by decide +kernel
theorem dX2_pair_137 : decode cX2_pair 137 = .ok (.iinc 4 (-1), 3) := by decide +kernel
theorem dX2_pair_140 : decode cX2_pair 140 = .ok (.goto (-102), 3) := by decide +kernel
theorem dX2_pair_143 : decode cX2_pair 143 = .ok (.iconst 0, 1) := by decide +kernel
theorem dX2_pair_144 : decode cX2_pair 144 = .ok (.istore 4, 2) := by decide +kernel
theorem dX2_pair_146 : decode cX2_pair 146 = .ok (.iconst 0, 1) := by decide +kernel
theorem dX2_pair_147 : decode cX2_pair 147 = .ok (.istore 5, 2) := by decide +kernel
theorem dX2_pair_149 : decode cX2_pair 149 = .ok (.iload 5, 2) := by decide +kernel
theorem dX2_pair_151 : decode cX2_pair 151 = .ok (.iload_n 1, 1) := by decide +kernel
theorem dX2_pair_152 : decode cX2_pair 152 = .ok (.if_icmp .ge 111, 3) := by decide +kernel
theorem dX2_pair_155 : decode cX2_pair 155 = .ok (.aload_n 0, 1) := by decide +kernel
theorem dX2_pair_156 : decode cX2_pair 156 = .ok (.getfield 27, 3) := by decide +kernel
theorem dX2_pair_159 : decode cX2_pair 159 = .ok (.iload 5, 2) := by decide +kernel
theorem dX2_pair_161 : decode cX2_pair 161 = .ok (.bipush 100, 2) := by decide +kernel
theorem dX2_pair_163 : decode cX2_pair 163 = .ok (.iastore, 1) := by decide +kernel
theorem dX2_pair_164 : decode cX2_pair 164 = .ok (.aload_n 0, 1) := by decide +kernel
theorem dX2_pair_165 : decode cX2_pair 165 = .ok (.getfield 15, 3) := by decide +kernel
theorem dX2_pair_168 : decode cX2_pair 168 = .ok (.iload 5, 2) := by decide +kernel
theorem dX2_pair_170 : decode cX2_pair 170 = .ok (.sipush 256, 3) := by decide +kernel
theorem dX2_pair_173 : decode cX2_pair 173 = .ok (.imul, 1) := by decide +kernel
theorem dX2_pair_174 : decode cX2_pair 174 = .ok (.iload 4, 2) := by decide +kernel
theorem dX2_pair_176 : decode cX2_pair 176 = .ok (.iadd, 1) := by decide +kernel
theorem dX2_pair_177 : decode cX2_pair 177 = .ok (.iaload, 1) := by decide +kernel
theorem dX2_pair_178 : decode cX2_pair 178 = .ok (.istore 6, 2) := by decide +kernel
theorem dX2_pair_180 : decode cX2_pair 180 = .ok (.iconst 0, 1) := by decide +kernel
theorem dX2_pair_181 : decode cX2_pair 181 = .ok (.istore 7, 2) := by decide +kernel
theorem dX2_pair_183 : decode cX2_pair 183 = .ok (.iload 7, 2) := by decide +kernel
theorem dX2_pair_185 : decode cX2_pair 185 = .ok (.iload_n 2, 1) := by decide +kernel
theorem dX2_pair_186 : decode cX2_pair 186 = .ok (.if_icmp .ge 45, 3) := by decide +kernel
theorem dX2_pair_189 : decode cX2_pair 189 = .ok (.aload_n 0, 1) := by decide +kernel
theorem dX2_pair_190 : decode cX2_pair 190 = .ok (.getfield 27, 3) := by decide +kernel
theorem dX2_pair_193 : decode cX2_pair 193 = .ok (.iload 5, 2) := by decide +kernel
theorem dX2_pair_195 : decode cX2_pair 195 = .ok (.iaload, 1) := by decide +kernel
theorem dX2_pair_196 : decode cX2_pair 196 = .ok (.bipush 100, 2) := by decide +kernel
theorem dX2_pair_198 : decode cX2_pair 198 = .ok (.if_icmp .ne 33, 3) := by decide +kernel
theorem dX2_pair_201 : decode cX2_pair 201 = .ok (.aload_n 0, 1) := by decide +kernel
theorem dX2_pair_202 : decode cX2_pair 202 = .ok (.iload 5, 2) := by decide +kernel
theorem dX2_pair_204 : decode cX2_pair 204 = .ok (.iload 7, 2) := by decide +kernel
theorem dX2_pair_206 : decode cX2_pair 206 = .ok (.iload 4, 2) := by decide +kernel
theorem dX2_pair_208 : decode cX2_pair 208 = .ok (.invokevirtual 82, 3) := by decide +kernel
theorem dX2_pair_211 : decode cX2_pair 211 = .ok (.iload 6, 2) := by decide +kernel
theorem dX2_pair_213 : decode cX2_pair 213 = .ok (.if_icmp .ne 12, 3) := by decide +kernel
theorem dX2_pair_216 : decode cX2_pair 216 = .ok (.aload_n 0, 1) := by decide +kernel
theorem dX2_pair_217 : decode cX2_pair 217 = .ok (.getfield 27, 3) := by decide +kernel
theorem dX2_pair_220 : decode cX2_pair 220 = .ok (.iload 5, 2) := by decide +kernel
theorem dX2_pair_222 : decode cX2_pair 222 = .ok (.iload 7, 2) := by decide +kernel
theorem dX2_pair_224 : decode cX2_pair 224 = .ok (.iastore, 1) := by decide +kernel
theorem dX2_pair_225 : decode cX2_pair 225 = .ok (.iinc 7 1, 3) := by decide +kernel
theorem dX2_pair_228 : decode cX2_pair 228 = .ok (.goto (-45), 3) := by decide +kernel
theorem dX2_pair_231 : decode cX2_pair 231 = .ok (.aload_n 0, 1) := by decide +kernel
theorem dX2_pair_232 : decode cX2_pair 232 = .ok (.getfield 27, 3) := by decide +kernel
theorem dX2_pair_235 : decode cX2_pair 235 = .ok (.iload 5, 2) := by decide +kernel
theorem dX2_pair_237 : decode cX2_pair 237 = .ok (.iaload, 1) := by decide +kernel
theorem dX2_pair_238 : decode cX2_pair 238 = .ok (.bipush 100, 2) := by decide +kernel
theorem dX2_pair_240 : decode cX2_pair 240 = .ok (.if_icmp .eq 17, 3) := by decide +kernel
theorem dX2_pair_243 : decode cX2_pair 243 = .ok (.iload 4, 2) := by decide +kernel
theorem dX2_pair_245 : decode cX2_pair 245 = .ok (.iconst 1, 1) := by decide +kernel
theorem dX2_pair_246 : decode cX2_pair 246 = .ok (.aload_n 0, 1) := by decide +kernel
theorem dX2_pair_247 : decode cX2_pair 247 = .ok (.getfield 27, 3) := by decide +kernel
theorem dX2_pair_250 : decode cX2_pair 250 = .ok (.iload 5, 2) := by decide +kernel
theorem dX2_pair_252 : decode cX2_pair 252 = .ok (.iaload, 1) := by decide +kernel
theorem dX2_pair_253 : decode cX2_pair 253 = .ok (.ishl, 1) := by decide +kernel
theorem dX2_pair_254 : decode cX2_pair 254 = .ok (.ior, 1) := by decide +kernel
theorem dX2_pair_255 : decode cX2_pair 255 = .ok (.istore 4, 2) := by decide +kernel
theorem dX2_pair_257 : decode cX2_pair 257 = .ok (.iinc 5 1, 3) := by decide +kernel
theorem dX2_pair_260 : decode cX2_pair 260 = .ok (.goto (-111), 3) := by decide +kernel
theorem dX2_pair_263 : decode cX2_pair 263 = .ok (.aload_n 0, 1) := by decide +kernel
theorem dX2_pair_264 : decode cX2_pair 264 = .ok (.getfield 15, 3) := by decide +kernel
theorem dX2_pair_267 : decode cX2_pair 267 = .ok (.iconst 0, 1) := by decide +kernel
theorem dX2_pair_268 : decode cX2_pair 268 = .ok (.iaload, 1) := by decide +kernel
theorem dX2_pair_269 : decode cX2_pair 269 = .ok (.ireturn, 1) := by decide +kernel
theorem dX2_worthOf_0 : decode cX2_worthOf 0 = .ok (.aload_n 0, 1) := by decide +kernel
theorem dX2_worthOf_1 : decode cX2_worthOf 1 = .ok (.getfield 9, 3) := by decide +kernel
theorem dX2_worthOf_4 : decode cX2_worthOf 4 = .ok (.iload_n 1, 1) := by decide +kernel
theorem dX2_worthOf_5 : decode cX2_worthOf 5 = .ok (.bipush 8, 2) := by decide +kernel
theorem dX2_worthOf_7 : decode cX2_worthOf 7 = .ok (.imul, 1) := by decide +kernel
theorem dX2_worthOf_8 : decode cX2_worthOf 8 = .ok (.iload_n 2, 1) := by decide +kernel
theorem dX2_worthOf_9 : decode cX2_worthOf 9 = .ok (.iadd, 1) := by decide +kernel
theorem dX2_worthOf_10 : decode cX2_worthOf 10 = .ok (.iaload, 1) := by decide +kernel
theorem dX2_worthOf_11 : decode cX2_worthOf 11 = .ok (.istore 4, 2) := by decide +kernel
theorem dX2_worthOf_13 : decode cX2_worthOf 13 = .ok (.iload 4, 2) := by decide +kernel
theorem dX2_worthOf_15 : decode cX2_worthOf 15 = .ok (.iconst (-1), 1) := by decide +kernel
theorem dX2_worthOf_16 : decode cX2_worthOf 16 = .ok (.if_icmp .eq 12, 3) := by decide +kernel
theorem dX2_worthOf_19 : decode cX2_worthOf 19 = .ok (.iload_n 3, 1) := by decide +kernel
theorem dX2_worthOf_20 : decode cX2_worthOf 20 = .ok (.iload_n 2, 1) := by decide +kernel
theorem dX2_worthOf_21 : decode cX2_worthOf 21 = .ok (.ishr, 1) := by decide +kernel
theorem dX2_worthOf_22 : decode cX2_worthOf 22 = .ok (.iconst 1, 1) := by decide +kernel
theorem dX2_worthOf_23 : decode cX2_worthOf 23 = .ok (.iand, 1) := by decide +kernel
theorem dX2_worthOf_24 : decode cX2_worthOf 24 = .ok (.iconst 1, 1) := by decide +kernel
theorem dX2_worthOf_25 : decode cX2_worthOf 25 = .ok (.if_icmp .ne 5, 3) := by decide +kernel
theorem dX2_worthOf_28 : decode cX2_worthOf 28 = .ok (.iconst (-1), 1) := by decide +kernel
theorem dX2_worthOf_29 : decode cX2_worthOf 29 = .ok (.ireturn, 1) := by decide +kernel
theorem dX2_worthOf_30 : decode cX2_worthOf 30 = .ok (.iload 4, 2) := by decide +kernel
theorem dX2_worthOf_32 : decode cX2_worthOf 32 = .ok (.aload_n 0, 1) := by decide +kernel
theorem dX2_worthOf_33 : decode cX2_worthOf 33 = .ok (.getfield 15, 3) := by decide +kernel
theorem dX2_worthOf_36 : decode cX2_worthOf 36 = .ok (.iload_n 1, 1) := by decide +kernel
theorem dX2_worthOf_37 : decode cX2_worthOf 37 = .ok (.iconst 1, 1) := by decide +kernel
theorem dX2_worthOf_38 : decode cX2_worthOf 38 = .ok (.iadd, 1) := by decide +kernel
theorem dX2_worthOf_39 : decode cX2_worthOf 39 = .ok (.sipush 256, 3) := by decide +kernel
theorem dX2_worthOf_42 : decode cX2_worthOf 42 = .ok (.imul, 1) := by decide +kernel
theorem dX2_worthOf_43 : decode cX2_worthOf 43 = .ok (.iload_n 3, 1) := by decide +kernel
theorem dX2_worthOf_44 : decode cX2_worthOf 44 = .ok (.iconst 1, 1) := by decide +kernel
theorem dX2_worthOf_45 : decode cX2_worthOf 45 = .ok (.iload_n 2, 1) := by decide +kernel
theorem dX2_worthOf_46 : decode cX2_worthOf 46 = .ok (.ishl, 1) := by decide +kernel
theorem dX2_worthOf_47 : decode cX2_worthOf 47 = .ok (.ior, 1) := by decide +kernel
theorem dX2_worthOf_48 : decode cX2_worthOf 48 = .ok (.iadd, 1) := by decide +kernel
theorem dX2_worthOf_49 : decode cX2_worthOf 49 = .ok (.iaload, 1) := by decide +kernel
theorem dX2_worthOf_50 : decode cX2_worthOf 50 = .ok (.iadd, 1) := by decide +kernel
theorem dX2_worthOf_51 : decode cX2_worthOf 51 = .ok (.ireturn, 1) := by decide +kernel
theorem dX2_fewestSwaps_0 : decode cX2_fewestSwaps 0 = .ok (.iconst 0, 1) := by decide +kernel
theorem dX2_fewestSwaps_1 : decode cX2_fewestSwaps 1 = .ok (.istore_n 2, 1) := by decide +kernel
theorem dX2_fewestSwaps_2 : decode cX2_fewestSwaps 2 = .ok (.iconst 0, 1) := by decide +kernel
theorem dX2_fewestSwaps_3 : decode cX2_fewestSwaps 3 = .ok (.istore_n 3, 1) := by decide +kernel
theorem dX2_fewestSwaps_4 : decode cX2_fewestSwaps 4 = .ok (.iload_n 3, 1) := by decide +kernel
theorem dX2_fewestSwaps_5 : decode cX2_fewestSwaps 5 = .ok (.bipush 8, 2) := by decide +kernel
theorem dX2_fewestSwaps_7 : decode cX2_fewestSwaps 7 = .ok (.if_icmp .ge 16, 3) := by decide +kernel
theorem dX2_fewestSwaps_10 : decode cX2_fewestSwaps 10 = .ok (.aload_n 0, 1) := by decide +kernel
theorem dX2_fewestSwaps_11 : decode cX2_fewestSwaps 11 = .ok (.getfield 27, 3) := by decide +kernel
theorem dX2_fewestSwaps_14 : decode cX2_fewestSwaps 14 = .ok (.iload_n 3, 1) := by decide +kernel
theorem dX2_fewestSwaps_15 : decode cX2_fewestSwaps 15 = .ok (.iconst (-1), 1) := by decide +kernel
theorem dX2_fewestSwaps_16 : decode cX2_fewestSwaps 16 = .ok (.iastore, 1) := by decide +kernel
theorem dX2_fewestSwaps_17 : decode cX2_fewestSwaps 17 = .ok (.iinc 3 1, 3) := by decide +kernel
theorem dX2_fewestSwaps_20 : decode cX2_fewestSwaps 20 = .ok (.goto (-16), 3) := by decide +kernel
theorem dX2_fewestSwaps_23 : decode cX2_fewestSwaps 23 = .ok (.iconst 0, 1) := by decide +kernel
theorem dX2_fewestSwaps_24 : decode cX2_fewestSwaps 24 = .ok (.istore_n 3, 1) := by decide +kernel
theorem dX2_fewestSwaps_25 : decode cX2_fewestSwaps 25 = .ok (.iload_n 3, 1) := by decide +kernel
theorem dX2_fewestSwaps_26 : decode cX2_fewestSwaps 26 = .ok (.aload_n 1, 1) := by decide +kernel
theorem dX2_fewestSwaps_27 : decode cX2_fewestSwaps 27 = .ok (.getfield 30, 3) := by decide +kernel
theorem dX2_fewestSwaps_30 : decode cX2_fewestSwaps 30 = .ok (.if_icmp .ge 58, 3) := by decide +kernel
theorem dX2_fewestSwaps_33 : decode cX2_fewestSwaps 33 = .ok (.aload_n 1, 1) := by decide +kernel
theorem dX2_fewestSwaps_34 : decode cX2_fewestSwaps 34 = .ok (.getfield 36, 3) := by decide +kernel
theorem dX2_fewestSwaps_37 : decode cX2_fewestSwaps 37 = .ok (.iload_n 3, 1) := by decide +kernel
theorem dX2_fewestSwaps_38 : decode cX2_fewestSwaps 38 = .ok (.iaload, 1) := by decide +kernel
theorem dX2_fewestSwaps_39 : decode cX2_fewestSwaps 39 = .ok (.istore 4, 2) := by decide +kernel
theorem dX2_fewestSwaps_41 : decode cX2_fewestSwaps 41 = .ok (.iload 4, 2) := by decide +kernel
theorem dX2_fewestSwaps_43 : decode cX2_fewestSwaps 43 = .ok (.iconst (-1), 1) := by decide +kernel
theorem dX2_fewestSwaps_44 : decode cX2_fewestSwaps 44 = .ok (.if_icmp .ne 6, 3) := by decide +kernel
theorem dX2_fewestSwaps_47 : decode cX2_fewestSwaps 47 = .ok (.goto 35, 3) := by decide +kernel
theorem dX2_fewestSwaps_50 : decode cX2_fewestSwaps 50 = .ok (.iconst 1, 1) := by decide +kernel
theorem dX2_fewestSwaps_51 : decode cX2_fewestSwaps 51 = .ok (.aload_n 1, 1) := by decide +kernel
theorem dX2_fewestSwaps_52 : decode cX2_fewestSwaps 52 = .ok (.getfield 66, 3) := by decide +kernel
theorem dX2_fewestSwaps_55 : decode cX2_fewestSwaps 55 = .ok (.iload_n 3, 1) := by decide +kernel
theorem dX2_fewestSwaps_56 : decode cX2_fewestSwaps 56 = .ok (.iaload, 1) := by decide +kernel
theorem dX2_fewestSwaps_57 : decode cX2_fewestSwaps 57 = .ok (.ishl, 1) := by decide +kernel
theorem dX2_fewestSwaps_58 : decode cX2_fewestSwaps 58 = .ok (.istore 5, 2) := by decide +kernel
theorem dX2_fewestSwaps_60 : decode cX2_fewestSwaps 60 = .ok (.iload_n 2, 1) := by decide +kernel
theorem dX2_fewestSwaps_61 : decode cX2_fewestSwaps 61 = .ok (.iload 5, 2) := by decide +kernel
theorem dX2_fewestSwaps_63 : decode cX2_fewestSwaps 63 = .ok (.iand, 1) := by decide +kernel
theorem dX2_fewestSwaps_64 : decode cX2_fewestSwaps 64 = .ok (.ifCond .eq 5, 3) := by decide +kernel
theorem dX2_fewestSwaps_67 : decode cX2_fewestSwaps 67 = .ok (.iconst (-1), 1) := by decide +kernel
theorem dX2_fewestSwaps_68 : decode cX2_fewestSwaps 68 = .ok (.ireturn, 1) := by decide +kernel
theorem dX2_fewestSwaps_69 : decode cX2_fewestSwaps 69 = .ok (.iload_n 2, 1) := by decide +kernel
theorem dX2_fewestSwaps_70 : decode cX2_fewestSwaps 70 = .ok (.iload 5, 2) := by decide +kernel
theorem dX2_fewestSwaps_72 : decode cX2_fewestSwaps 72 = .ok (.ior, 1) := by decide +kernel
theorem dX2_fewestSwaps_73 : decode cX2_fewestSwaps 73 = .ok (.istore_n 2, 1) := by decide +kernel
theorem dX2_fewestSwaps_74 : decode cX2_fewestSwaps 74 = .ok (.aload_n 0, 1) := by decide +kernel
theorem dX2_fewestSwaps_75 : decode cX2_fewestSwaps 75 = .ok (.getfield 27, 3) := by decide +kernel
theorem dX2_fewestSwaps_78 : decode cX2_fewestSwaps 78 = .ok (.iload 4, 2) := by decide +kernel
theorem dX2_fewestSwaps_80 : decode cX2_fewestSwaps 80 = .ok (.iload_n 3, 1) := by decide +kernel
theorem dX2_fewestSwaps_81 : decode cX2_fewestSwaps 81 = .ok (.iastore, 1) := by decide +kernel
theorem dX2_fewestSwaps_82 : decode cX2_fewestSwaps 82 = .ok (.iinc 3 1, 3) := by decide +kernel
theorem dX2_fewestSwaps_85 : decode cX2_fewestSwaps 85 = .ok (.goto (-60), 3) := by decide +kernel
theorem dX2_fewestSwaps_88 : decode cX2_fewestSwaps 88 = .ok (.iconst 0, 1) := by decide +kernel
theorem dX2_fewestSwaps_89 : decode cX2_fewestSwaps 89 = .ok (.istore_n 3, 1) := by decide +kernel
theorem dX2_fewestSwaps_90 : decode cX2_fewestSwaps 90 = .ok (.iconst 0, 1) := by decide +kernel
theorem dX2_fewestSwaps_91 : decode cX2_fewestSwaps 91 = .ok (.istore 4, 2) := by decide +kernel
theorem dX2_fewestSwaps_93 : decode cX2_fewestSwaps 93 = .ok (.iload 4, 2) := by decide +kernel
theorem dX2_fewestSwaps_95 : decode cX2_fewestSwaps 95 = .ok (.bipush 8, 2) := by decide +kernel
theorem dX2_fewestSwaps_97 : decode cX2_fewestSwaps 97 = .ok (.if_icmp .ge 102, 3) := by decide +kernel
theorem dX2_fewestSwaps_100 : decode cX2_fewestSwaps 100 = .ok (.iconst 0, 1) := by decide +kernel
theorem dX2_fewestSwaps_101 : decode cX2_fewestSwaps 101 = .ok (.istore 5, 2) := by decide +kernel
theorem dX2_fewestSwaps_103 : decode cX2_fewestSwaps 103 = .ok (.iload 5, 2) := by decide +kernel
theorem dX2_fewestSwaps_105 : decode cX2_fewestSwaps 105 = .ok (.bipush 8, 2) := by decide +kernel
theorem dX2_fewestSwaps_107 : decode cX2_fewestSwaps 107 = .ok (.if_icmp .ge 86, 3) := by decide +kernel
theorem dX2_fewestSwaps_110 : decode cX2_fewestSwaps 110 = .ok (.aload_n 0, 1) := by decide +kernel
theorem dX2_fewestSwaps_111 : decode cX2_fewestSwaps 111 = .ok (.getfield 27, 3) := by decide +kernel
theorem dX2_fewestSwaps_114 : decode cX2_fewestSwaps 114 = .ok (.iload 4, 2) := by decide +kernel
theorem dX2_fewestSwaps_116 : decode cX2_fewestSwaps 116 = .ok (.iaload, 1) := by decide +kernel
theorem dX2_fewestSwaps_117 : decode cX2_fewestSwaps 117 = .ok (.iconst (-1), 1) := by decide +kernel
theorem dX2_fewestSwaps_118 : decode cX2_fewestSwaps 118 = .ok (.if_icmp .eq 75, 3) := by decide +kernel
theorem dX2_fewestSwaps_121 : decode cX2_fewestSwaps 121 = .ok (.aload_n 1, 1) := by decide +kernel
theorem dX2_fewestSwaps_122 : decode cX2_fewestSwaps 122 = .ok (.getfield 66, 3) := by decide +kernel
theorem dX2_fewestSwaps_125 : decode cX2_fewestSwaps 125 = .ok (.aload_n 0, 1) := by decide +kernel
theorem dX2_fewestSwaps_126 : decode cX2_fewestSwaps 126 = .ok (.getfield 27, 3) := by decide +kernel
theorem dX2_fewestSwaps_129 : decode cX2_fewestSwaps 129 = .ok (.iload 4, 2) := by decide +kernel
theorem dX2_fewestSwaps_131 : decode cX2_fewestSwaps 131 = .ok (.iaload, 1) := by decide +kernel
theorem dX2_fewestSwaps_132 : decode cX2_fewestSwaps 132 = .ok (.iaload, 1) := by decide +kernel
theorem dX2_fewestSwaps_133 : decode cX2_fewestSwaps 133 = .ok (.iload 4, 2) := by decide +kernel
theorem dX2_fewestSwaps_135 : decode cX2_fewestSwaps 135 = .ok (.if_icmp .eq 58, 3) := by decide +kernel
theorem dX2_fewestSwaps_138 : decode cX2_fewestSwaps 138 = .ok (.aload_n 1, 1) := by decide +kernel
theorem dX2_fewestSwaps_139 : decode cX2_fewestSwaps 139 = .ok (.getfield 66, 3) := by decide +kernel
theorem dX2_fewestSwaps_142 : decode cX2_fewestSwaps 142 = .ok (.aload_n 0, 1) := by decide +kernel
theorem dX2_fewestSwaps_143 : decode cX2_fewestSwaps 143 = .ok (.getfield 27, 3) := by decide +kernel
theorem dX2_fewestSwaps_146 : decode cX2_fewestSwaps 146 = .ok (.iload 4, 2) := by decide +kernel
theorem dX2_fewestSwaps_148 : decode cX2_fewestSwaps 148 = .ok (.iaload, 1) := by decide +kernel
theorem dX2_fewestSwaps_149 : decode cX2_fewestSwaps 149 = .ok (.iaload, 1) := by decide +kernel
theorem dX2_fewestSwaps_150 : decode cX2_fewestSwaps 150 = .ok (.istore 6, 2) := by decide +kernel
theorem dX2_fewestSwaps_152 : decode cX2_fewestSwaps 152 = .ok (.aload_n 0, 1) := by decide +kernel
theorem dX2_fewestSwaps_153 : decode cX2_fewestSwaps 153 = .ok (.getfield 27, 3) := by decide +kernel
theorem dX2_fewestSwaps_156 : decode cX2_fewestSwaps 156 = .ok (.iload 6, 2) := by decide +kernel
theorem dX2_fewestSwaps_158 : decode cX2_fewestSwaps 158 = .ok (.iaload, 1) := by decide +kernel
theorem dX2_fewestSwaps_159 : decode cX2_fewestSwaps 159 = .ok (.istore 7, 2) := by decide +kernel
theorem dX2_fewestSwaps_161 : decode cX2_fewestSwaps 161 = .ok (.aload_n 0, 1) := by decide +kernel
theorem dX2_fewestSwaps_162 : decode cX2_fewestSwaps 162 = .ok (.getfield 27, 3) := by decide +kernel
theorem dX2_fewestSwaps_165 : decode cX2_fewestSwaps 165 = .ok (.iload 6, 2) := by decide +kernel
theorem dX2_fewestSwaps_167 : decode cX2_fewestSwaps 167 = .ok (.aload_n 0, 1) := by decide +kernel
theorem dX2_fewestSwaps_168 : decode cX2_fewestSwaps 168 = .ok (.getfield 27, 3) := by decide +kernel
theorem dX2_fewestSwaps_171 : decode cX2_fewestSwaps 171 = .ok (.iload 4, 2) := by decide +kernel
theorem dX2_fewestSwaps_173 : decode cX2_fewestSwaps 173 = .ok (.iaload, 1) := by decide +kernel
theorem dX2_fewestSwaps_174 : decode cX2_fewestSwaps 174 = .ok (.iastore, 1) := by decide +kernel
theorem dX2_fewestSwaps_175 : decode cX2_fewestSwaps 175 = .ok (.aload_n 0, 1) := by decide +kernel
theorem dX2_fewestSwaps_176 : decode cX2_fewestSwaps 176 = .ok (.getfield 27, 3) := by decide +kernel
theorem dX2_fewestSwaps_179 : decode cX2_fewestSwaps 179 = .ok (.iload 4, 2) := by decide +kernel
theorem dX2_fewestSwaps_181 : decode cX2_fewestSwaps 181 = .ok (.iload 7, 2) := by decide +kernel
theorem dX2_fewestSwaps_183 : decode cX2_fewestSwaps 183 = .ok (.iastore, 1) := by decide +kernel
theorem dX2_fewestSwaps_184 : decode cX2_fewestSwaps 184 = .ok (.iinc 3 1, 3) := by decide +kernel
theorem dX2_fewestSwaps_187 : decode cX2_fewestSwaps 187 = .ok (.iinc 5 1, 3) := by decide +kernel
theorem dX2_fewestSwaps_190 : decode cX2_fewestSwaps 190 = .ok (.goto (-87), 3) := by decide +kernel
theorem dX2_fewestSwaps_193 : decode cX2_fewestSwaps 193 = .ok (.iinc 4 1, 3) := by decide +kernel
theorem dX2_fewestSwaps_196 : decode cX2_fewestSwaps 196 = .ok (.goto (-103), 3) := by decide +kernel
theorem dX2_fewestSwaps_199 : decode cX2_fewestSwaps 199 = .ok (.iload_n 3, 1) := by decide +kernel
theorem dX2_fewestSwaps_200 : decode cX2_fewestSwaps 200 = .ok (.ireturn, 1) := by decide +kernel
theorem dX2_shortestWay_0 : decode cX2_shortestWay 0 = .ok (.iconst 0, 1) := by decide +kernel
theorem dX2_shortestWay_1 : decode cX2_shortestWay 1 = .ok (.istore_n 2, 1) := by decide +kernel
theorem dX2_shortestWay_2 : decode cX2_shortestWay 2 = .ok (.iconst 0, 1) := by decide +kernel
theorem dX2_shortestWay_3 : decode cX2_shortestWay 3 = .ok (.istore_n 3, 1) := by decide +kernel
theorem dX2_shortestWay_4 : decode cX2_shortestWay 4 = .ok (.iload_n 3, 1) := by decide +kernel
theorem dX2_shortestWay_5 : decode cX2_shortestWay 5 = .ok (.bipush 25, 2) := by decide +kernel
theorem dX2_shortestWay_7 : decode cX2_shortestWay 7 = .ok (.if_icmp .ge 34, 3) := by decide +kernel
theorem dX2_shortestWay_10 : decode cX2_shortestWay 10 = .ok (.iload_n 2, 1) := by decide +kernel
theorem dX2_shortestWay_11 : decode cX2_shortestWay 11 = .ok (.bipush 7, 2) := by decide +kernel
theorem dX2_shortestWay_13 : decode cX2_shortestWay 13 = .ok (.if_icmp .ge 28, 3) := by decide +kernel
theorem dX2_shortestWay_16 : decode cX2_shortestWay 16 = .ok (.iload_n 1, 1) := by decide +kernel
theorem dX2_shortestWay_17 : decode cX2_shortestWay 17 = .ok (.iload_n 3, 1) := by decide +kernel
theorem dX2_shortestWay_18 : decode cX2_shortestWay 18 = .ok (.ishr, 1) := by decide +kernel
theorem dX2_shortestWay_19 : decode cX2_shortestWay 19 = .ok (.iconst 1, 1) := by decide +kernel
theorem dX2_shortestWay_20 : decode cX2_shortestWay 20 = .ok (.iand, 1) := by decide +kernel
theorem dX2_shortestWay_21 : decode cX2_shortestWay 21 = .ok (.iconst 1, 1) := by decide +kernel
theorem dX2_shortestWay_22 : decode cX2_shortestWay 22 = .ok (.if_icmp .ne 13, 3) := by decide +kernel
theorem dX2_shortestWay_25 : decode cX2_shortestWay 25 = .ok (.aload_n 0, 1) := by decide +kernel
theorem dX2_shortestWay_26 : decode cX2_shortestWay 26 = .ok (.getfield 21, 3) := by decide +kernel
theorem dX2_shortestWay_29 : decode cX2_shortestWay 29 = .ok (.iload_n 2, 1) := by decide +kernel
theorem dX2_shortestWay_30 : decode cX2_shortestWay 30 = .ok (.iload_n 3, 1) := by decide +kernel
theorem dX2_shortestWay_31 : decode cX2_shortestWay 31 = .ok (.iastore, 1) := by decide +kernel
theorem dX2_shortestWay_32 : decode cX2_shortestWay 32 = .ok (.iinc 2 1, 3) := by decide +kernel
theorem dX2_shortestWay_35 : decode cX2_shortestWay 35 = .ok (.iinc 3 1, 3) := by decide +kernel
theorem dX2_shortestWay_38 : decode cX2_shortestWay 38 = .ok (.goto (-34), 3) := by decide +kernel
theorem dX2_shortestWay_41 : decode cX2_shortestWay 41 = .ok (.iconst 1, 1) := by decide +kernel
theorem dX2_shortestWay_42 : decode cX2_shortestWay 42 = .ok (.iload_n 2, 1) := by decide +kernel
theorem dX2_shortestWay_43 : decode cX2_shortestWay 43 = .ok (.ishl, 1) := by decide +kernel
theorem dX2_shortestWay_44 : decode cX2_shortestWay 44 = .ok (.istore_n 3, 1) := by decide +kernel
theorem dX2_shortestWay_45 : decode cX2_shortestWay 45 = .ok (.iconst 1, 1) := by decide +kernel
theorem dX2_shortestWay_46 : decode cX2_shortestWay 46 = .ok (.istore 4, 2) := by decide +kernel
theorem dX2_shortestWay_48 : decode cX2_shortestWay 48 = .ok (.iload 4, 2) := by decide +kernel
theorem dX2_shortestWay_50 : decode cX2_shortestWay 50 = .ok (.iload_n 3, 1) := by decide +kernel
theorem dX2_shortestWay_51 : decode cX2_shortestWay 51 = .ok (.if_icmp .ge 88, 3) := by decide +kernel
theorem dX2_shortestWay_54 : decode cX2_shortestWay 54 = .ok (.iconst 0, 1) := by decide +kernel
theorem dX2_shortestWay_55 : decode cX2_shortestWay 55 = .ok (.istore 5, 2) := by decide +kernel
theorem dX2_shortestWay_57 : decode cX2_shortestWay 57 = .ok (.iload 5, 2) := by decide +kernel
theorem dX2_shortestWay_59 : decode cX2_shortestWay 59 = .ok (.iload_n 2, 1) := by decide +kernel
theorem dX2_shortestWay_60 : decode cX2_shortestWay 60 = .ok (.if_icmp .gt 73, 3) := by decide +kernel
theorem dX2_shortestWay_63 : decode cX2_shortestWay 63 = .ok (.bipush 70, 2) := by decide +kernel
theorem dX2_shortestWay_65 : decode cX2_shortestWay 65 = .ok (.istore 6, 2) := by decide +kernel
theorem dX2_shortestWay_67 : decode cX2_shortestWay 67 = .ok (.iconst 0, 1) := by decide +kernel
theorem dX2_shortestWay_68 : decode cX2_shortestWay 68 = .ok (.istore 7, 2) := by decide +kernel
theorem dX2_shortestWay_70 : decode cX2_shortestWay 70 = .ok (.iload 7, 2) := by decide +kernel
theorem dX2_shortestWay_72 : decode cX2_shortestWay 72 = .ok (.iload_n 2, 1) := by decide +kernel
theorem dX2_shortestWay_73 : decode cX2_shortestWay 73 = .ok (.if_icmp .ge 38, 3) := by decide +kernel
theorem dX2_shortestWay_76 : decode cX2_shortestWay 76 = .ok (.iload 4, 2) := by decide +kernel
theorem dX2_shortestWay_78 : decode cX2_shortestWay 78 = .ok (.iload 7, 2) := by decide +kernel
theorem dX2_shortestWay_80 : decode cX2_shortestWay 80 = .ok (.ishr, 1) := by decide +kernel
theorem dX2_shortestWay_81 : decode cX2_shortestWay 81 = .ok (.iconst 1, 1) := by decide +kernel
theorem dX2_shortestWay_82 : decode cX2_shortestWay 82 = .ok (.iand, 1) := by decide +kernel
theorem dX2_shortestWay_83 : decode cX2_shortestWay 83 = .ok (.iconst 1, 1) := by decide +kernel
theorem dX2_shortestWay_84 : decode cX2_shortestWay 84 = .ok (.if_icmp .ne 21, 3) := by decide +kernel
theorem dX2_shortestWay_87 : decode cX2_shortestWay 87 = .ok (.iload 6, 2) := by decide +kernel
theorem dX2_shortestWay_89 : decode cX2_shortestWay 89 = .ok (.aload_n 0, 1) := by decide +kernel
theorem dX2_shortestWay_90 : decode cX2_shortestWay 90 = .ok (.iload 5, 2) := by decide +kernel
theorem dX2_shortestWay_92 : decode cX2_shortestWay 92 = .ok (.iload 7, 2) := by decide +kernel
theorem dX2_shortestWay_94 : decode cX2_shortestWay 94 = .ok (.iload 4, 2) := by decide +kernel
theorem dX2_shortestWay_96 : decode cX2_shortestWay 96 = .ok (.iload_n 2, 1) := by decide +kernel
theorem dX2_shortestWay_97 : decode cX2_shortestWay 97 = .ok (.invokevirtual 91, 3) := by decide +kernel
theorem dX2_shortestWay_100 : decode cX2_shortestWay 100 = .ok (.invokestatic 95, 3) := by decide +kernel
theorem dX2_shortestWay_103 : decode cX2_shortestWay 103 = .ok (.istore 6, 2) := by decide +kernel
theorem dX2_shortestWay_105 : decode cX2_shortestWay 105 = .ok (.iinc 7 1, 3) := by decide +kernel
theorem dX2_shortestWay_108 : decode cX2_shortestWay 108 = .ok (.goto (-38), 3) := by decide +kernel
theorem dX2_shortestWay_111 : decode cX2_shortestWay 111 = .ok (.aload_n 0, 1) := by decide +kernel
theorem dX2_shortestWay_112 : decode cX2_shortestWay 112 = .ok (.getfield 18, 3) := by decide +kernel
theorem dX2_shortestWay_115 : decode cX2_shortestWay 115 = .ok (.iload 5, 2) := by decide +kernel
theorem dX2_shortestWay_117 : decode cX2_shortestWay 117 = .ok (.sipush 128, 3) := by decide +kernel
theorem dX2_shortestWay_120 : decode cX2_shortestWay 120 = .ok (.imul, 1) := by decide +kernel
theorem dX2_shortestWay_121 : decode cX2_shortestWay 121 = .ok (.iload 4, 2) := by decide +kernel
theorem dX2_shortestWay_123 : decode cX2_shortestWay 123 = .ok (.iadd, 1) := by decide +kernel
theorem dX2_shortestWay_124 : decode cX2_shortestWay 124 = .ok (.iload 6, 2) := by decide +kernel
theorem dX2_shortestWay_126 : decode cX2_shortestWay 126 = .ok (.iastore, 1) := by decide +kernel
theorem dX2_shortestWay_127 : decode cX2_shortestWay 127 = .ok (.iinc 5 1, 3) := by decide +kernel
theorem dX2_shortestWay_130 : decode cX2_shortestWay 130 = .ok (.goto (-73), 3) := by decide +kernel
theorem dX2_shortestWay_133 : decode cX2_shortestWay 133 = .ok (.iinc 4 1, 3) := by decide +kernel
theorem dX2_shortestWay_136 : decode cX2_shortestWay 136 = .ok (.goto (-88), 3) := by decide +kernel
theorem dX2_shortestWay_139 : decode cX2_shortestWay 139 = .ok (.iload_n 2, 1) := by decide +kernel
theorem dX2_shortestWay_140 : decode cX2_shortestWay 140 = .ok (.istore 4, 2) := by decide +kernel
theorem dX2_shortestWay_142 : decode cX2_shortestWay 142 = .ok (.iload_n 3, 1) := by decide +kernel
theorem dX2_shortestWay_143 : decode cX2_shortestWay 143 = .ok (.iconst 1, 1) := by decide +kernel
theorem dX2_shortestWay_144 : decode cX2_shortestWay 144 = .ok (.isub, 1) := by decide +kernel
theorem dX2_shortestWay_145 : decode cX2_shortestWay 145 = .ok (.istore 5, 2) := by decide +kernel
theorem dX2_shortestWay_147 : decode cX2_shortestWay 147 = .ok (.iconst 0, 1) := by decide +kernel
theorem dX2_shortestWay_148 : decode cX2_shortestWay 148 = .ok (.istore 6, 2) := by decide +kernel
theorem dX2_shortestWay_150 : decode cX2_shortestWay 150 = .ok (.iload 6, 2) := by decide +kernel
theorem dX2_shortestWay_152 : decode cX2_shortestWay 152 = .ok (.iload_n 2, 1) := by decide +kernel
theorem dX2_shortestWay_153 : decode cX2_shortestWay 153 = .ok (.if_icmp .ge 125, 3) := by decide +kernel
theorem dX2_shortestWay_156 : decode cX2_shortestWay 156 = .ok (.iconst (-1), 1) := by decide +kernel
theorem dX2_shortestWay_157 : decode cX2_shortestWay 157 = .ok (.istore 7, 2) := by decide +kernel
theorem dX2_shortestWay_159 : decode cX2_shortestWay 159 = .ok (.iconst 0, 1) := by decide +kernel
theorem dX2_shortestWay_160 : decode cX2_shortestWay 160 = .ok (.istore 8, 2) := by decide +kernel
theorem dX2_shortestWay_162 : decode cX2_shortestWay 162 = .ok (.iload 8, 2) := by decide +kernel
theorem dX2_shortestWay_164 : decode cX2_shortestWay 164 = .ok (.iload_n 2, 1) := by decide +kernel
theorem dX2_shortestWay_165 : decode cX2_shortestWay 165 = .ok (.if_icmp .ge 70, 3) := by decide +kernel
theorem dX2_shortestWay_168 : decode cX2_shortestWay 168 = .ok (.iload 7, 2) := by decide +kernel
theorem dX2_shortestWay_170 : decode cX2_shortestWay 170 = .ok (.iconst (-1), 1) := by decide +kernel
theorem dX2_shortestWay_171 : decode cX2_shortestWay 171 = .ok (.if_icmp .ne 64, 3) := by decide +kernel
theorem dX2_shortestWay_174 : decode cX2_shortestWay 174 = .ok (.iload 5, 2) := by decide +kernel
theorem dX2_shortestWay_176 : decode cX2_shortestWay 176 = .ok (.iload 8, 2) := by decide +kernel
theorem dX2_shortestWay_178 : decode cX2_shortestWay 178 = .ok (.ishr, 1) := by decide +kernel
theorem dX2_shortestWay_179 : decode cX2_shortestWay 179 = .ok (.iconst 1, 1) := by decide +kernel
theorem dX2_shortestWay_180 : decode cX2_shortestWay 180 = .ok (.iand, 1) := by decide +kernel
theorem dX2_shortestWay_181 : decode cX2_shortestWay 181 = .ok (.iconst 1, 1) := by decide +kernel
theorem dX2_shortestWay_182 : decode cX2_shortestWay 182 = .ok (.if_icmp .ne 7, 3) := by decide +kernel
theorem dX2_shortestWay_185 : decode cX2_shortestWay 185 = .ok (.iconst 1, 1) := by decide +kernel
theorem dX2_shortestWay_186 : decode cX2_shortestWay 186 = .ok (.goto 4, 3) := by decide +kernel
theorem dX2_shortestWay_189 : decode cX2_shortestWay 189 = .ok (.iconst 0, 1) := by decide +kernel
theorem dX2_shortestWay_190 : decode cX2_shortestWay 190 = .ok (.istore 9, 2) := by decide +kernel
theorem dX2_shortestWay_192 : decode cX2_shortestWay 192 = .ok (.iload 9, 2) := by decide +kernel
theorem dX2_shortestWay_194 : decode cX2_shortestWay 194 = .ok (.ifCond .eq 35, 3) := by decide +kernel
theorem dX2_shortestWay_197 : decode cX2_shortestWay 197 = .ok (.aload_n 0, 1) := by decide +kernel
theorem dX2_shortestWay_198 : decode cX2_shortestWay 198 = .ok (.iload 4, 2) := by decide +kernel
theorem dX2_shortestWay_200 : decode cX2_shortestWay 200 = .ok (.iload 8, 2) := by decide +kernel
theorem dX2_shortestWay_202 : decode cX2_shortestWay 202 = .ok (.iload 5, 2) := by decide +kernel
theorem dX2_shortestWay_204 : decode cX2_shortestWay 204 = .ok (.iload_n 2, 1) := by decide +kernel
theorem dX2_shortestWay_205 : decode cX2_shortestWay 205 = .ok (.invokevirtual 91, 3) := by decide +kernel
theorem dX2_shortestWay_208 : decode cX2_shortestWay 208 = .ok (.aload_n 0, 1) := by decide +kernel
theorem dX2_shortestWay_209 : decode cX2_shortestWay 209 = .ok (.getfield 18, 3) := by decide +kernel
theorem dX2_shortestWay_212 : decode cX2_shortestWay 212 = .ok (.iload 4, 2) := by decide +kernel
theorem dX2_shortestWay_214 : decode cX2_shortestWay 214 = .ok (.sipush 128, 3) := by decide +kernel
theorem dX2_shortestWay_217 : decode cX2_shortestWay 217 = .ok (.imul, 1) := by decide +kernel
theorem dX2_shortestWay_218 : decode cX2_shortestWay 218 = .ok (.iload 5, 2) := by decide +kernel
theorem dX2_shortestWay_220 : decode cX2_shortestWay 220 = .ok (.iadd, 1) := by decide +kernel
theorem dX2_shortestWay_221 : decode cX2_shortestWay 221 = .ok (.iaload, 1) := by decide +kernel
theorem dX2_shortestWay_222 : decode cX2_shortestWay 222 = .ok (.if_icmp .ne 7, 3) := by decide +kernel
theorem dX2_shortestWay_225 : decode cX2_shortestWay 225 = .ok (.iload 8, 2) := by decide +kernel
theorem dX2_shortestWay_227 : decode cX2_shortestWay 227 = .ok (.istore 7, 2) := by decide +kernel
theorem dX2_shortestWay_229 : decode cX2_shortestWay 229 = .ok (.iinc 8 1, 3) := by decide +kernel
theorem dX2_shortestWay_232 : decode cX2_shortestWay 232 = .ok (.goto (-70), 3) := by decide +kernel
theorem dX2_shortestWay_235 : decode cX2_shortestWay 235 = .ok (.iload 7, 2) := by decide +kernel
theorem dX2_shortestWay_237 : decode cX2_shortestWay 237 = .ok (.iconst (-1), 1) := by decide +kernel
theorem dX2_shortestWay_238 : decode cX2_shortestWay 238 = .ok (.if_icmp .ne 5, 3) := by decide +kernel
theorem dX2_shortestWay_241 : decode cX2_shortestWay 241 = .ok (.iconst (-1), 1) := by decide +kernel
theorem dX2_shortestWay_242 : decode cX2_shortestWay 242 = .ok (.ireturn, 1) := by decide +kernel
theorem dX2_shortestWay_243 : decode cX2_shortestWay 243 = .ok (.aload_n 0, 1) := by decide +kernel
theorem dX2_shortestWay_244 : decode cX2_shortestWay 244 = .ok (.getfield 27, 3) := by decide +kernel
theorem dX2_shortestWay_247 : decode cX2_shortestWay 247 = .ok (.iload 6, 2) := by decide +kernel
theorem dX2_shortestWay_249 : decode cX2_shortestWay 249 = .ok (.aload_n 0, 1) := by decide +kernel
theorem dX2_shortestWay_250 : decode cX2_shortestWay 250 = .ok (.getfield 21, 3) := by decide +kernel
theorem dX2_shortestWay_253 : decode cX2_shortestWay 253 = .ok (.iload 7, 2) := by decide +kernel
theorem dX2_shortestWay_255 : decode cX2_shortestWay 255 = .ok (.iaload, 1) := by decide +kernel
theorem dX2_shortestWay_256 : decode cX2_shortestWay 256 = .ok (.iastore, 1) := by decide +kernel
theorem dX2_shortestWay_257 : decode cX2_shortestWay 257 = .ok (.iload 5, 2) := by decide +kernel
theorem dX2_shortestWay_259 : decode cX2_shortestWay 259 = .ok (.iconst 1, 1) := by decide +kernel
theorem dX2_shortestWay_260 : decode cX2_shortestWay 260 = .ok (.iload 7, 2) := by decide +kernel
theorem dX2_shortestWay_262 : decode cX2_shortestWay 262 = .ok (.ishl, 1) := by decide +kernel
theorem dX2_shortestWay_263 : decode cX2_shortestWay 263 = .ok (.iconst (-1), 1) := by decide +kernel
theorem dX2_shortestWay_264 : decode cX2_shortestWay 264 = .ok (.ixor, 1) := by decide +kernel
theorem dX2_shortestWay_265 : decode cX2_shortestWay 265 = .ok (.iand, 1) := by decide +kernel
theorem dX2_shortestWay_266 : decode cX2_shortestWay 266 = .ok (.istore 5, 2) := by decide +kernel
theorem dX2_shortestWay_268 : decode cX2_shortestWay 268 = .ok (.iload 7, 2) := by decide +kernel
theorem dX2_shortestWay_270 : decode cX2_shortestWay 270 = .ok (.istore 4, 2) := by decide +kernel
theorem dX2_shortestWay_272 : decode cX2_shortestWay 272 = .ok (.iinc 6 1, 3) := by decide +kernel
theorem dX2_shortestWay_275 : decode cX2_shortestWay 275 = .ok (.goto (-125), 3) := by decide +kernel
theorem dX2_shortestWay_278 : decode cX2_shortestWay 278 = .ok (.aload_n 0, 1) := by decide +kernel
theorem dX2_shortestWay_279 : decode cX2_shortestWay 279 = .ok (.getfield 18, 3) := by decide +kernel
theorem dX2_shortestWay_282 : decode cX2_shortestWay 282 = .ok (.iload_n 2, 1) := by decide +kernel
theorem dX2_shortestWay_283 : decode cX2_shortestWay 283 = .ok (.sipush 128, 3) := by decide +kernel
theorem dX2_shortestWay_286 : decode cX2_shortestWay 286 = .ok (.imul, 1) := by decide +kernel
theorem dX2_shortestWay_287 : decode cX2_shortestWay 287 = .ok (.iload_n 3, 1) := by decide +kernel
theorem dX2_shortestWay_288 : decode cX2_shortestWay 288 = .ok (.iadd, 1) := by decide +kernel
theorem dX2_shortestWay_289 : decode cX2_shortestWay 289 = .ok (.iconst 1, 1) := by decide +kernel
theorem dX2_shortestWay_290 : decode cX2_shortestWay 290 = .ok (.isub, 1) := by decide +kernel
theorem dX2_shortestWay_291 : decode cX2_shortestWay 291 = .ok (.iaload, 1) := by decide +kernel
theorem dX2_shortestWay_292 : decode cX2_shortestWay 292 = .ok (.ireturn, 1) := by decide +kernel
theorem dX2_stepsBy_0 : decode cX2_stepsBy 0 = .ok (.iload_n 1, 1) := by decide +kernel
theorem dX2_stepsBy_1 : decode cX2_stepsBy 1 = .ok (.iload 4, 2) := by decide +kernel
theorem dX2_stepsBy_3 : decode cX2_stepsBy 3 = .ok (.if_icmp .ne 7, 3) := by decide +kernel
theorem dX2_stepsBy_6 : decode cX2_stepsBy 6 = .ok (.iconst 0, 1) := by decide +kernel
theorem dX2_stepsBy_7 : decode cX2_stepsBy 7 = .ok (.goto 9, 3) := by decide +kernel
theorem dX2_stepsBy_10 : decode cX2_stepsBy 10 = .ok (.aload_n 0, 1) := by decide +kernel
theorem dX2_stepsBy_11 : decode cX2_stepsBy 11 = .ok (.getfield 21, 3) := by decide +kernel
theorem dX2_stepsBy_14 : decode cX2_stepsBy 14 = .ok (.iload_n 1, 1) := by decide +kernel
theorem dX2_stepsBy_15 : decode cX2_stepsBy 15 = .ok (.iaload, 1) := by decide +kernel
theorem dX2_stepsBy_16 : decode cX2_stepsBy 16 = .ok (.istore 5, 2) := by decide +kernel
theorem dX2_stepsBy_18 : decode cX2_stepsBy 18 = .ok (.iload 5, 2) := by decide +kernel
theorem dX2_stepsBy_20 : decode cX2_stepsBy 20 = .ok (.iconst 5, 1) := by decide +kernel
theorem dX2_stepsBy_21 : decode cX2_stepsBy 21 = .ok (.irem, 1) := by decide +kernel
theorem dX2_stepsBy_22 : decode cX2_stepsBy 22 = .ok (.aload_n 0, 1) := by decide +kernel
theorem dX2_stepsBy_23 : decode cX2_stepsBy 23 = .ok (.getfield 21, 3) := by decide +kernel
theorem dX2_stepsBy_26 : decode cX2_stepsBy 26 = .ok (.iload_n 2, 1) := by decide +kernel
theorem dX2_stepsBy_27 : decode cX2_stepsBy 27 = .ok (.iaload, 1) := by decide +kernel
theorem dX2_stepsBy_28 : decode cX2_stepsBy 28 = .ok (.iconst 5, 1) := by decide +kernel
theorem dX2_stepsBy_29 : decode cX2_stepsBy 29 = .ok (.irem, 1) := by decide +kernel
theorem dX2_stepsBy_30 : decode cX2_stepsBy 30 = .ok (.isub, 1) := by decide +kernel
theorem dX2_stepsBy_31 : decode cX2_stepsBy 31 = .ok (.invokestatic 98, 3) := by decide +kernel
theorem dX2_stepsBy_34 : decode cX2_stepsBy 34 = .ok (.istore 6, 2) := by decide +kernel
theorem dX2_stepsBy_36 : decode cX2_stepsBy 36 = .ok (.iload 5, 2) := by decide +kernel
theorem dX2_stepsBy_38 : decode cX2_stepsBy 38 = .ok (.iconst 5, 1) := by decide +kernel
theorem dX2_stepsBy_39 : decode cX2_stepsBy 39 = .ok (.idiv, 1) := by decide +kernel
theorem dX2_stepsBy_40 : decode cX2_stepsBy 40 = .ok (.aload_n 0, 1) := by decide +kernel
theorem dX2_stepsBy_41 : decode cX2_stepsBy 41 = .ok (.getfield 21, 3) := by decide +kernel
theorem dX2_stepsBy_44 : decode cX2_stepsBy 44 = .ok (.iload_n 2, 1) := by decide +kernel
theorem dX2_stepsBy_45 : decode cX2_stepsBy 45 = .ok (.iaload, 1) := by decide +kernel
theorem dX2_stepsBy_46 : decode cX2_stepsBy 46 = .ok (.iconst 5, 1) := by decide +kernel
theorem dX2_stepsBy_47 : decode cX2_stepsBy 47 = .ok (.idiv, 1) := by decide +kernel
theorem dX2_stepsBy_48 : decode cX2_stepsBy 48 = .ok (.isub, 1) := by decide +kernel
theorem dX2_stepsBy_49 : decode cX2_stepsBy 49 = .ok (.invokestatic 98, 3) := by decide +kernel
theorem dX2_stepsBy_52 : decode cX2_stepsBy 52 = .ok (.istore 7, 2) := by decide +kernel
theorem dX2_stepsBy_54 : decode cX2_stepsBy 54 = .ok (.iload 6, 2) := by decide +kernel
theorem dX2_stepsBy_56 : decode cX2_stepsBy 56 = .ok (.iload 7, 2) := by decide +kernel
theorem dX2_stepsBy_58 : decode cX2_stepsBy 58 = .ok (.iadd, 1) := by decide +kernel
theorem dX2_stepsBy_59 : decode cX2_stepsBy 59 = .ok (.aload_n 0, 1) := by decide +kernel
theorem dX2_stepsBy_60 : decode cX2_stepsBy 60 = .ok (.getfield 18, 3) := by decide +kernel
theorem dX2_stepsBy_63 : decode cX2_stepsBy 63 = .ok (.iload_n 2, 1) := by decide +kernel
theorem dX2_stepsBy_64 : decode cX2_stepsBy 64 = .ok (.sipush 128, 3) := by decide +kernel
theorem dX2_stepsBy_67 : decode cX2_stepsBy 67 = .ok (.imul, 1) := by decide +kernel
theorem dX2_stepsBy_68 : decode cX2_stepsBy 68 = .ok (.iload_n 3, 1) := by decide +kernel
theorem dX2_stepsBy_69 : decode cX2_stepsBy 69 = .ok (.iconst 1, 1) := by decide +kernel
theorem dX2_stepsBy_70 : decode cX2_stepsBy 70 = .ok (.iload_n 2, 1) := by decide +kernel
theorem dX2_stepsBy_71 : decode cX2_stepsBy 71 = .ok (.ishl, 1) := by decide +kernel
theorem dX2_stepsBy_72 : decode cX2_stepsBy 72 = .ok (.iconst (-1), 1) := by decide +kernel
theorem dX2_stepsBy_73 : decode cX2_stepsBy 73 = .ok (.ixor, 1) := by decide +kernel
theorem dX2_stepsBy_74 : decode cX2_stepsBy 74 = .ok (.iand, 1) := by decide +kernel
theorem dX2_stepsBy_75 : decode cX2_stepsBy 75 = .ok (.iadd, 1) := by decide +kernel
theorem dX2_stepsBy_76 : decode cX2_stepsBy 76 = .ok (.iaload, 1) := by decide +kernel
theorem dX2_stepsBy_77 : decode cX2_stepsBy 77 = .ok (.iadd, 1) := by decide +kernel
theorem dX2_stepsBy_78 : decode cX2_stepsBy 78 = .ok (.ireturn, 1) := by decide +kernel
theorem dX2_shareOf_0 : decode cX2_shareOf 0 = .ok (.iconst 0, 1) := by decide +kernel
theorem dX2_shareOf_1 : decode cX2_shareOf 1 = .ok (.istore_n 3, 1) := by decide +kernel
theorem dX2_shareOf_2 : decode cX2_shareOf 2 = .ok (.iconst 0, 1) := by decide +kernel
theorem dX2_shareOf_3 : decode cX2_shareOf 3 = .ok (.istore 4, 2) := by decide +kernel
theorem dX2_shareOf_5 : decode cX2_shareOf 5 = .ok (.iload 4, 2) := by decide +kernel
theorem dX2_shareOf_7 : decode cX2_shareOf 7 = .ok (.aload_n 0, 1) := by decide +kernel
theorem dX2_shareOf_8 : decode cX2_shareOf 8 = .ok (.getfield 30, 3) := by decide +kernel
theorem dX2_shareOf_11 : decode cX2_shareOf 11 = .ok (.if_icmp .ge 30, 3) := by decide +kernel
theorem dX2_shareOf_14 : decode cX2_shareOf 14 = .ok (.aload_n 0, 1) := by decide +kernel
theorem dX2_shareOf_15 : decode cX2_shareOf 15 = .ok (.getfield 101, 3) := by decide +kernel
theorem dX2_shareOf_18 : decode cX2_shareOf 18 = .ok (.iload 4, 2) := by decide +kernel
theorem dX2_shareOf_20 : decode cX2_shareOf 20 = .ok (.iaload, 1) := by decide +kernel
theorem dX2_shareOf_21 : decode cX2_shareOf 21 = .ok (.iconst (-1), 1) := by decide +kernel
theorem dX2_shareOf_22 : decode cX2_shareOf 22 = .ok (.if_icmp .eq 13, 3) := by decide +kernel
theorem dX2_shareOf_25 : decode cX2_shareOf 25 = .ok (.iload_n 3, 1) := by decide +kernel
theorem dX2_shareOf_26 : decode cX2_shareOf 26 = .ok (.aload_n 0, 1) := by decide +kernel
theorem dX2_shareOf_27 : decode cX2_shareOf 27 = .ok (.getfield 76, 3) := by decide +kernel
theorem dX2_shareOf_30 : decode cX2_shareOf 30 = .ok (.iload 4, 2) := by decide +kernel
theorem dX2_shareOf_32 : decode cX2_shareOf 32 = .ok (.iaload, 1) := by decide +kernel
theorem dX2_shareOf_33 : decode cX2_shareOf 33 = .ok (.iadd, 1) := by decide +kernel
theorem dX2_shareOf_34 : decode cX2_shareOf 34 = .ok (.istore_n 3, 1) := by decide +kernel
theorem dX2_shareOf_35 : decode cX2_shareOf 35 = .ok (.iinc 4 1, 3) := by decide +kernel
theorem dX2_shareOf_38 : decode cX2_shareOf 38 = .ok (.goto (-33), 3) := by decide +kernel
theorem dX2_shareOf_41 : decode cX2_shareOf 41 = .ok (.iload_n 3, 1) := by decide +kernel
theorem dX2_shareOf_42 : decode cX2_shareOf 42 = .ok (.ifCond .ne 5, 3) := by decide +kernel
theorem dX2_shareOf_45 : decode cX2_shareOf 45 = .ok (.iconst (-1), 1) := by decide +kernel
theorem dX2_shareOf_46 : decode cX2_shareOf 46 = .ok (.ireturn, 1) := by decide +kernel
theorem dX2_shareOf_47 : decode cX2_shareOf 47 = .ok (.iload_n 1, 1) := by decide +kernel
theorem dX2_shareOf_48 : decode cX2_shareOf 48 = .ok (.istore 4, 2) := by decide +kernel
theorem dX2_shareOf_50 : decode cX2_shareOf 50 = .ok (.iconst 0, 1) := by decide +kernel
theorem dX2_shareOf_51 : decode cX2_shareOf 51 = .ok (.istore 5, 2) := by decide +kernel
theorem dX2_shareOf_53 : decode cX2_shareOf 53 = .ok (.iload_n 1, 1) := by decide +kernel
theorem dX2_shareOf_54 : decode cX2_shareOf 54 = .ok (.aload_n 0, 1) := by decide +kernel
theorem dX2_shareOf_55 : decode cX2_shareOf 55 = .ok (.getfield 76, 3) := by decide +kernel
theorem dX2_shareOf_58 : decode cX2_shareOf 58 = .ok (.iload_n 2, 1) := by decide +kernel
theorem dX2_shareOf_59 : decode cX2_shareOf 59 = .ok (.iaload, 1) := by decide +kernel
theorem dX2_shareOf_60 : decode cX2_shareOf 60 = .ok (.imul, 1) := by decide +kernel
theorem dX2_shareOf_61 : decode cX2_shareOf 61 = .ok (.iload_n 3, 1) := by decide +kernel
theorem dX2_shareOf_62 : decode cX2_shareOf 62 = .ok (.irem, 1) := by decide +kernel
theorem dX2_shareOf_63 : decode cX2_shareOf 63 = .ok (.istore 6, 2) := by decide +kernel
theorem dX2_shareOf_65 : decode cX2_shareOf 65 = .ok (.iconst 0, 1) := by decide +kernel
theorem dX2_shareOf_66 : decode cX2_shareOf 66 = .ok (.istore 7, 2) := by decide +kernel
theorem dX2_shareOf_68 : decode cX2_shareOf 68 = .ok (.iload 7, 2) := by decide +kernel
theorem dX2_shareOf_70 : decode cX2_shareOf 70 = .ok (.aload_n 0, 1) := by decide +kernel
theorem dX2_shareOf_71 : decode cX2_shareOf 71 = .ok (.getfield 30, 3) := by decide +kernel
theorem dX2_shareOf_74 : decode cX2_shareOf 74 = .ok (.if_icmp .ge 75, 3) := by decide +kernel
theorem dX2_shareOf_77 : decode cX2_shareOf 77 = .ok (.aload_n 0, 1) := by decide +kernel
theorem dX2_shareOf_78 : decode cX2_shareOf 78 = .ok (.getfield 101, 3) := by decide +kernel
theorem dX2_shareOf_81 : decode cX2_shareOf 81 = .ok (.iload 7, 2) := by decide +kernel
theorem dX2_shareOf_83 : decode cX2_shareOf 83 = .ok (.iaload, 1) := by decide +kernel
theorem dX2_shareOf_84 : decode cX2_shareOf 84 = .ok (.iconst (-1), 1) := by decide +kernel
theorem dX2_shareOf_85 : decode cX2_shareOf 85 = .ok (.if_icmp .ne 6, 3) := by decide +kernel
theorem dX2_shareOf_88 : decode cX2_shareOf 88 = .ok (.goto 55, 3) := by decide +kernel
theorem dX2_shareOf_91 : decode cX2_shareOf 91 = .ok (.iload 4, 2) := by decide +kernel
theorem dX2_shareOf_93 : decode cX2_shareOf 93 = .ok (.iload_n 1, 1) := by decide +kernel
theorem dX2_shareOf_94 : decode cX2_shareOf 94 = .ok (.aload_n 0, 1) := by decide +kernel
theorem dX2_shareOf_95 : decode cX2_shareOf 95 = .ok (.getfield 76, 3) := by decide +kernel
theorem dX2_shareOf_98 : decode cX2_shareOf 98 = .ok (.iload 7, 2) := by decide +kernel
theorem dX2_shareOf_100 : decode cX2_shareOf 100 = .ok (.iaload, 1) := by decide +kernel
theorem dX2_shareOf_101 : decode cX2_shareOf 101 = .ok (.imul, 1) := by decide +kernel
theorem dX2_shareOf_102 : decode cX2_shareOf 102 = .ok (.iload_n 3, 1) := by decide +kernel
theorem dX2_shareOf_103 : decode cX2_shareOf 103 = .ok (.idiv, 1) := by decide +kernel
theorem dX2_shareOf_104 : decode cX2_shareOf 104 = .ok (.isub, 1) := by decide +kernel
theorem dX2_shareOf_105 : decode cX2_shareOf 105 = .ok (.istore 4, 2) := by decide +kernel
theorem dX2_shareOf_107 : decode cX2_shareOf 107 = .ok (.iload_n 1, 1) := by decide +kernel
theorem dX2_shareOf_108 : decode cX2_shareOf 108 = .ok (.aload_n 0, 1) := by decide +kernel
theorem dX2_shareOf_109 : decode cX2_shareOf 109 = .ok (.getfield 76, 3) := by decide +kernel
theorem dX2_shareOf_112 : decode cX2_shareOf 112 = .ok (.iload 7, 2) := by decide +kernel
theorem dX2_shareOf_114 : decode cX2_shareOf 114 = .ok (.iaload, 1) := by decide +kernel
theorem dX2_shareOf_115 : decode cX2_shareOf 115 = .ok (.imul, 1) := by decide +kernel
theorem dX2_shareOf_116 : decode cX2_shareOf 116 = .ok (.iload_n 3, 1) := by decide +kernel
theorem dX2_shareOf_117 : decode cX2_shareOf 117 = .ok (.irem, 1) := by decide +kernel
theorem dX2_shareOf_118 : decode cX2_shareOf 118 = .ok (.istore 8, 2) := by decide +kernel
theorem dX2_shareOf_120 : decode cX2_shareOf 120 = .ok (.iload 8, 2) := by decide +kernel
theorem dX2_shareOf_122 : decode cX2_shareOf 122 = .ok (.iload 6, 2) := by decide +kernel
theorem dX2_shareOf_124 : decode cX2_shareOf 124 = .ok (.if_icmp .gt 16, 3) := by decide +kernel
theorem dX2_shareOf_127 : decode cX2_shareOf 127 = .ok (.iload 8, 2) := by decide +kernel
theorem dX2_shareOf_129 : decode cX2_shareOf 129 = .ok (.iload 6, 2) := by decide +kernel
theorem dX2_shareOf_131 : decode cX2_shareOf 131 = .ok (.if_icmp .ne 12, 3) := by decide +kernel
theorem dX2_shareOf_134 : decode cX2_shareOf 134 = .ok (.iload 7, 2) := by decide +kernel
theorem dX2_shareOf_136 : decode cX2_shareOf 136 = .ok (.iload_n 2, 1) := by decide +kernel
theorem dX2_shareOf_137 : decode cX2_shareOf 137 = .ok (.if_icmp .ge 6, 3) := by decide +kernel
theorem dX2_shareOf_140 : decode cX2_shareOf 140 = .ok (.iinc 5 1, 3) := by decide +kernel
theorem dX2_shareOf_143 : decode cX2_shareOf 143 = .ok (.iinc 7 1, 3) := by decide +kernel
theorem dX2_shareOf_146 : decode cX2_shareOf 146 = .ok (.goto (-78), 3) := by decide +kernel
theorem dX2_shareOf_149 : decode cX2_shareOf 149 = .ok (.iload_n 1, 1) := by decide +kernel
theorem dX2_shareOf_150 : decode cX2_shareOf 150 = .ok (.aload_n 0, 1) := by decide +kernel
theorem dX2_shareOf_151 : decode cX2_shareOf 151 = .ok (.getfield 76, 3) := by decide +kernel
theorem dX2_shareOf_154 : decode cX2_shareOf 154 = .ok (.iload_n 2, 1) := by decide +kernel
theorem dX2_shareOf_155 : decode cX2_shareOf 155 = .ok (.iaload, 1) := by decide +kernel
theorem dX2_shareOf_156 : decode cX2_shareOf 156 = .ok (.imul, 1) := by decide +kernel
theorem dX2_shareOf_157 : decode cX2_shareOf 157 = .ok (.iload_n 3, 1) := by decide +kernel
theorem dX2_shareOf_158 : decode cX2_shareOf 158 = .ok (.idiv, 1) := by decide +kernel
theorem dX2_shareOf_159 : decode cX2_shareOf 159 = .ok (.iload 5, 2) := by decide +kernel
theorem dX2_shareOf_161 : decode cX2_shareOf 161 = .ok (.iload 4, 2) := by decide +kernel
theorem dX2_shareOf_163 : decode cX2_shareOf 163 = .ok (.if_icmp .ge 7, 3) := by decide +kernel
theorem dX2_shareOf_166 : decode cX2_shareOf 166 = .ok (.iconst 1, 1) := by decide +kernel
theorem dX2_shareOf_167 : decode cX2_shareOf 167 = .ok (.goto 4, 3) := by decide +kernel
theorem dX2_shareOf_170 : decode cX2_shareOf 170 = .ok (.iconst 0, 1) := by decide +kernel
theorem dX2_shareOf_171 : decode cX2_shareOf 171 = .ok (.iadd, 1) := by decide +kernel
theorem dX2_shareOf_172 : decode cX2_shareOf 172 = .ok (.ireturn, 1) := by decide +kernel
