theorem dJ11_isValidCodePoint_9a6ad_0 : decode cJ11_isValidCodePoint_9a6ad 0 = .ok (.iload_n 0, 1) := by decide +kernel
theorem dJ11_isValidCodePoint_9a6ad_1 : decode cJ11_isValidCodePoint_9a6ad 1 = .ok (.bipush 16, 2) := by decide +kernel
theorem dJ11_isValidCodePoint_9a6ad_3 : decode cJ11_isValidCodePoint_9a6ad 3 = .ok (.iushr, 1) := by decide +kernel
theorem dJ11_isValidCodePoint_9a6ad_4 : decode cJ11_isValidCodePoint_9a6ad 4 = .ok (.istore_n 1, 1) := by decide +kernel
theorem dJ11_isValidCodePoint_9a6ad_5 : decode cJ11_isValidCodePoint_9a6ad 5 = .ok (.iload_n 1, 1) := by decide +kernel
theorem dJ11_isValidCodePoint_9a6ad_6 : decode cJ11_isValidCodePoint_9a6ad 6 = .ok (.bipush 17, 2) := by decide +kernel
theorem dJ11_isValidCodePoint_9a6ad_8 : decode cJ11_isValidCodePoint_9a6ad 8 = .ok (.if_icmp .ge 7, 3) := by decide +kernel
theorem dJ11_isValidCodePoint_9a6ad_11 : decode cJ11_isValidCodePoint_9a6ad 11 = .ok (.iconst 1, 1) := by decide +kernel
theorem dJ11_isValidCodePoint_9a6ad_12 : decode cJ11_isValidCodePoint_9a6ad 12 = .ok (.goto 4, 3) := by decide +kernel
theorem dJ11_isValidCodePoint_9a6ad_15 : decode cJ11_isValidCodePoint_9a6ad 15 = .ok (.iconst 0, 1) := by decide +kernel
theorem dJ11_isValidCodePoint_9a6ad_16 : decode cJ11_isValidCodePoint_9a6ad 16 = .ok (.ireturn, 1) := by decide +kernel
theorem dJ11_highSurrogate_5068e_0 : decode cJ11_highSurrogate_5068e 0 = .ok (.iload_n 0, 1) := by decide +kernel
theorem dJ11_highSurrogate_5068e_1 : decode cJ11_highSurrogate_5068e 1 = .ok (.bipush 10, 2) := by decide +kernel
theorem dJ11_highSurrogate_5068e_3 : decode cJ11_highSurrogate_5068e 3 = .ok (.iushr, 1) := by decide +kernel
theorem dJ11_highSurrogate_5068e_4 : decode cJ11_highSurrogate_5068e 4 = .ok (.ldc 110, 2) := by decide +kernel
theorem dJ11_highSurrogate_5068e_6 : decode cJ11_highSurrogate_5068e 6 = .ok (.iadd, 1) := by decide +kernel
theorem dJ11_highSurrogate_5068e_7 : decode cJ11_highSurrogate_5068e 7 = .ok (.i2c, 1) := by decide +kernel
theorem dJ11_highSurrogate_5068e_8 : decode cJ11_highSurrogate_5068e 8 = .ok (.ireturn, 1) := by decide +kernel
theorem dJ11_lowSurrogate_5068e_0 : decode cJ11_lowSurrogate_5068e 0 = .ok (.iload_n 0, 1) := by decide +kernel
theorem dJ11_lowSurrogate_5068e_1 : decode cJ11_lowSurrogate_5068e 1 = .ok (.sipush 1023, 3) := by decide +kernel
theorem dJ11_lowSurrogate_5068e_4 : decode cJ11_lowSurrogate_5068e 4 = .ok (.iand, 1) := by decide +kernel
theorem dJ11_lowSurrogate_5068e_5 : decode cJ11_lowSurrogate_5068e 5 = .ok (.ldc 76, 2) := by decide +kernel
theorem dJ11_lowSurrogate_5068e_7 : decode cJ11_lowSurrogate_5068e 7 = .ok (.iadd, 1) := by decide +kernel
theorem dJ11_lowSurrogate_5068e_8 : decode cJ11_lowSurrogate_5068e 8 = .ok (.i2c, 1) := by decide +kernel
theorem dJ11_lowSurrogate_5068e_9 : decode cJ11_lowSurrogate_5068e 9 = .ok (.ireturn, 1) := by decide +kernel
theorem dJ6_bitCount_0f7a4_0 : decode cJ6_bitCount_0f7a4 0 = .ok (.iload_n 0, 1) := by decide +kernel
theorem dJ6_bitCount_0f7a4_1 : decode cJ6_bitCount_0f7a4 1 = .ok (.iload_n 0, 1) := by decide +kernel
theorem dJ6_bitCount_0f7a4_2 : decode cJ6_bitCount_0f7a4 2 = .ok (.iconst 1, 1) := by decide +kernel
theorem dJ6_bitCount_0f7a4_3 : decode cJ6_bitCount_0f7a4 3 = .ok (.iushr, 1) := by decide +kernel
theorem dJ6_bitCount_0f7a4_4 : decode cJ6_bitCount_0f7a4 4 = .ok (.ldc_w 265, 3) := by decide +kernel
theorem dJ6_bitCount_0f7a4_7 : decode cJ6_bitCount_0f7a4 7 = .ok (.iand, 1) := by decide +kernel
theorem dJ6_bitCount_0f7a4_8 : decode cJ6_bitCount_0f7a4 8 = .ok (.isub, 1) := by decide +kernel
theorem dJ6_bitCount_0f7a4_9 : decode cJ6_bitCount_0f7a4 9 = .ok (.istore_n 0, 1) := by decide +kernel
theorem dJ6_bitCount_0f7a4_10 : decode cJ6_bitCount_0f7a4 10 = .ok (.iload_n 0, 1) := by decide +kernel
theorem dJ6_bitCount_0f7a4_11 : decode cJ6_bitCount_0f7a4 11 = .ok (.ldc_w 266, 3) := by decide +kernel
theorem dJ6_bitCount_0f7a4_14 : decode cJ6_bitCount_0f7a4 14 = .ok (.iand, 1) := by decide +kernel
theorem dJ6_bitCount_0f7a4_15 : decode cJ6_bitCount_0f7a4 15 = .ok (.iload_n 0, 1) := by decide +kernel
theorem dJ6_bitCount_0f7a4_16 : decode cJ6_bitCount_0f7a4 16 = .ok (.iconst 2, 1) := by decide +kernel
theorem dJ6_bitCount_0f7a4_17 : decode cJ6_bitCount_0f7a4 17 = .ok (.iushr, 1) := by decide +kernel
theorem dJ6_bitCount_0f7a4_18 : decode cJ6_bitCount_0f7a4 18 = .ok (.ldc_w 266, 3) := by decide +kernel
theorem dJ6_bitCount_0f7a4_21 : decode cJ6_bitCount_0f7a4 21 = .ok (.iand, 1) := by decide +kernel
theorem dJ6_bitCount_0f7a4_22 : decode cJ6_bitCount_0f7a4 22 = .ok (.iadd, 1) := by decide +kernel
theorem dJ6_bitCount_0f7a4_23 : decode cJ6_bitCount_0f7a4 23 = .ok (.istore_n 0, 1) := by decide +kernel
theorem dJ6_bitCount_0f7a4_24 : decode cJ6_bitCount_0f7a4 24 = .ok (.iload_n 0, 1) := by decide +kernel
theorem dJ6_bitCount_0f7a4_25 : decode cJ6_bitCount_0f7a4 25 = .ok (.iload_n 0, 1) := by decide +kernel
theorem dJ6_bitCount_0f7a4_26 : decode cJ6_bitCount_0f7a4 26 = .ok (.iconst 4, 1) := by decide +kernel
theorem dJ6_bitCount_0f7a4_27 : decode cJ6_bitCount_0f7a4 27 = .ok (.iushr, 1) := by decide +kernel
theorem dJ6_bitCount_0f7a4_28 : decode cJ6_bitCount_0f7a4 28 = .ok (.iadd, 1) := by decide +kernel
theorem dJ6_bitCount_0f7a4_29 : decode cJ6_bitCount_0f7a4 29 = .ok (.ldc_w 267, 3) := by decide +kernel
theorem dJ6_bitCount_0f7a4_32 : decode cJ6_bitCount_0f7a4 32 = .ok (.iand, 1) := by decide +kernel
theorem dJ6_bitCount_0f7a4_33 : decode cJ6_bitCount_0f7a4 33 = .ok (.istore_n 0, 1) := by decide +kernel
theorem dJ6_bitCount_0f7a4_34 : decode cJ6_bitCount_0f7a4 34 = .ok (.iload_n 0, 1) := by decide +kernel
theorem dJ6_bitCount_0f7a4_35 : decode cJ6_bitCount_0f7a4 35 = .ok (.iload_n 0, 1) := by decide +kernel
theorem dJ6_bitCount_0f7a4_36 : decode cJ6_bitCount_0f7a4 36 = .ok (.bipush 8, 2) := by decide +kernel
theorem dJ6_bitCount_0f7a4_38 : decode cJ6_bitCount_0f7a4 38 = .ok (.iushr, 1) := by decide +kernel
theorem dJ6_bitCount_0f7a4_39 : decode cJ6_bitCount_0f7a4 39 = .ok (.iadd, 1) := by decide +kernel
theorem dJ6_bitCount_0f7a4_40 : decode cJ6_bitCount_0f7a4 40 = .ok (.istore_n 0, 1) := by decide +kernel
theorem dJ6_bitCount_0f7a4_41 : decode cJ6_bitCount_0f7a4 41 = .ok (.iload_n 0, 1) := by decide +kernel
theorem dJ6_bitCount_0f7a4_42 : decode cJ6_bitCount_0f7a4 42 = .ok (.iload_n 0, 1) := by decide +kernel
theorem dJ6_bitCount_0f7a4_43 : decode cJ6_bitCount_0f7a4 43 = .ok (.bipush 16, 2) := by decide +kernel
theorem dJ6_bitCount_0f7a4_45 : decode cJ6_bitCount_0f7a4 45 = .ok (.iushr, 1) := by decide +kernel
theorem dJ6_bitCount_0f7a4_46 : decode cJ6_bitCount_0f7a4 46 = .ok (.iadd, 1) := by decide +kernel
theorem dJ6_bitCount_0f7a4_47 : decode cJ6_bitCount_0f7a4 47 = .ok (.istore_n 0, 1) := by decide +kernel
theorem dJ6_bitCount_0f7a4_48 : decode cJ6_bitCount_0f7a4 48 = .ok (.iload_n 0, 1) := by decide +kernel
theorem dJ6_bitCount_0f7a4_49 : decode cJ6_bitCount_0f7a4 49 = .ok (.bipush 63, 2) := by decide +kernel
theorem dJ6_bitCount_0f7a4_51 : decode cJ6_bitCount_0f7a4 51 = .ok (.iand, 1) := by decide +kernel
theorem dJ6_bitCount_0f7a4_52 : decode cJ6_bitCount_0f7a4 52 = .ok (.ireturn, 1) := by decide +kernel
theorem dJ9_abs_0f7a4_0 : decode cJ9_abs_0f7a4 0 = .ok (.iload_n 0, 1) := by decide +kernel
theorem dJ9_abs_0f7a4_1 : decode cJ9_abs_0f7a4 1 = .ok (.ifCond .ge 8, 3) := by decide +kernel
theorem dJ9_abs_0f7a4_4 : decode cJ9_abs_0f7a4 4 = .ok (.iload_n 0, 1) := by decide +kernel
theorem dJ9_abs_0f7a4_5 : decode cJ9_abs_0f7a4 5 = .ok (.ineg, 1) := by decide +kernel
theorem dJ9_abs_0f7a4_6 : decode cJ9_abs_0f7a4 6 = .ok (.goto 4, 3) := by decide +kernel
theorem dJ9_abs_0f7a4_9 : decode cJ9_abs_0f7a4 9 = .ok (.iload_n 0, 1) := by decide +kernel
theorem dJ9_abs_0f7a4_10 : decode cJ9_abs_0f7a4 10 = .ok (.ireturn, 1) := by decide +kernel
theorem dJ9_max_7cf53_0 : decode cJ9_max_7cf53 0 = .ok (.iload_n 0, 1) := by decide +kernel
theorem dJ9_max_7cf53_1 : decode cJ9_max_7cf53 1 = .ok (.iload_n 1, 1) := by decide +kernel
theorem dJ9_max_7cf53_2 : decode cJ9_max_7cf53 2 = .ok (.if_icmp .lt 7, 3) := by decide +kernel
theorem dJ9_max_7cf53_5 : decode cJ9_max_7cf53 5 = .ok (.iload_n 0, 1) := by decide +kernel
theorem dJ9_max_7cf53_6 : decode cJ9_max_7cf53 6 = .ok (.goto 4, 3) := by decide +kernel
theorem dJ9_max_7cf53_9 : decode cJ9_max_7cf53 9 = .ok (.iload_n 1, 1) := by decide +kernel
theorem dJ9_max_7cf53_10 : decode cJ9_max_7cf53 10 = .ok (.ireturn, 1) := by decide +kernel
theorem dJ9_min_7cf53_0 : decode cJ9_min_7cf53 0 = .ok (.iload_n 0, 1) := by decide +kernel
theorem dJ9_min_7cf53_1 : decode cJ9_min_7cf53 1 = .ok (.iload_n 1, 1) := by decide +kernel
theorem dJ9_min_7cf53_2 : decode cJ9_min_7cf53 2 = .ok (.if_icmp .gt 7, 3) := by decide +kernel
theorem dJ9_min_7cf53_5 : decode cJ9_min_7cf53 5 = .ok (.iload_n 0, 1) := by decide +kernel
theorem dJ9_min_7cf53_6 : decode cJ9_min_7cf53 6 = .ok (.goto 4, 3) := by decide +kernel
theorem dJ9_min_7cf53_9 : decode cJ9_min_7cf53 9 = .ok (.iload_n 1, 1) := by decide +kernel
theorem dJ9_min_7cf53_10 : decode cJ9_min_7cf53 10 = .ok (.ireturn, 1) := by decide +kernel
theorem dJ0_length_8abf5_0 : decode cJ0_length_8abf5 0 = .ok (.aload_n 0, 1) := by decide +kernel
theorem dJ0_length_8abf5_1 : decode cJ0_length_8abf5 1 = .ok (.getfield 9, 3) := by decide +kernel
theorem dJ0_length_8abf5_4 : decode cJ0_length_8abf5 4 = .ok (.arraylength, 1) := by decide +kernel
theorem dJ0_length_8abf5_5 : decode cJ0_length_8abf5 5 = .ok (.aload_n 0, 1) := by decide +kernel
theorem dJ0_length_8abf5_6 : decode cJ0_length_8abf5 6 = .ok (.invokevirtual 335, 3) := by decide +kernel
theorem dJ0_length_8abf5_9 : decode cJ0_length_8abf5 9 = .ok (.ishr, 1) := by decide +kernel
theorem dJ0_length_8abf5_10 : decode cJ0_length_8abf5 10 = .ok (.ireturn, 1) := by decide +kernel
theorem dJ0_charAt_5068e_0 : decode cJ0_charAt_5068e 0 = .ok (.aload_n 0, 1) := by decide +kernel
theorem dJ0_charAt_5068e_1 : decode cJ0_charAt_5068e 1 = .ok (.invokevirtual 492, 3) := by decide +kernel
theorem dJ0_charAt_5068e_4 : decode cJ0_charAt_5068e 4 = .ok (.ifCond .eq 12, 3) := by decide +kernel
theorem dJ0_charAt_5068e_7 : decode cJ0_charAt_5068e 7 = .ok (.aload_n 0, 1) := by decide +kernel
theorem dJ0_charAt_5068e_8 : decode cJ0_charAt_5068e 8 = .ok (.getfield 9, 3) := by decide +kernel
theorem dJ0_charAt_5068e_11 : decode cJ0_charAt_5068e 11 = .ok (.iload_n 1, 1) := by decide +kernel
theorem dJ0_charAt_5068e_12 : decode cJ0_charAt_5068e 12 = .ok (.invokestatic 495, 3) := by decide +kernel
theorem dJ0_charAt_5068e_15 : decode cJ0_charAt_5068e 15 = .ok (.ireturn, 1) := by decide +kernel
theorem dJ0_charAt_5068e_16 : decode cJ0_charAt_5068e 16 = .ok (.aload_n 0, 1) := by decide +kernel
theorem dJ0_charAt_5068e_17 : decode cJ0_charAt_5068e 17 = .ok (.getfield 9, 3) := by decide +kernel
theorem dJ0_charAt_5068e_20 : decode cJ0_charAt_5068e 20 = .ok (.iload_n 1, 1) := by decide +kernel
theorem dJ0_charAt_5068e_21 : decode cJ0_charAt_5068e 21 = .ok (.invokestatic 498, 3) := by decide +kernel
theorem dJ0_charAt_5068e_24 : decode cJ0_charAt_5068e 24 = .ok (.ireturn, 1) := by decide +kernel
theorem dJ0_indexOf_0f7a4_0 : decode cJ0_indexOf_0f7a4 0 = .ok (.aload_n 0, 1) := by decide +kernel
theorem dJ0_indexOf_0f7a4_1 : decode cJ0_indexOf_0f7a4 1 = .ok (.iload_n 1, 1) := by decide +kernel
theorem dJ0_indexOf_0f7a4_2 : decode cJ0_indexOf_0f7a4 2 = .ok (.iconst 0, 1) := by decide +kernel
theorem dJ0_indexOf_0f7a4_3 : decode cJ0_indexOf_0f7a4 3 = .ok (.invokevirtual 633, 3) := by decide +kernel
theorem dJ0_indexOf_0f7a4_6 : decode cJ0_indexOf_0f7a4 6 = .ok (.ireturn, 1) := by decide +kernel
theorem dJ0_indexOf_7cf53_0 : decode cJ0_indexOf_7cf53 0 = .ok (.aload_n 0, 1) := by decide +kernel
theorem dJ0_indexOf_7cf53_1 : decode cJ0_indexOf_7cf53 1 = .ok (.invokevirtual 492, 3) := by decide +kernel
theorem dJ0_indexOf_7cf53_4 : decode cJ0_indexOf_7cf53 4 = .ok (.ifCond .eq 19, 3) := by decide +kernel
theorem dJ0_indexOf_7cf53_7 : decode cJ0_indexOf_7cf53 7 = .ok (.aload_n 0, 1) := by decide +kernel
theorem dJ0_indexOf_7cf53_8 : decode cJ0_indexOf_7cf53 8 = .ok (.getfield 9, 3) := by decide +kernel
theorem dJ0_indexOf_7cf53_11 : decode cJ0_indexOf_7cf53 11 = .ok (.iload_n 1, 1) := by decide +kernel
theorem dJ0_indexOf_7cf53_12 : decode cJ0_indexOf_7cf53 12 = .ok (.iload_n 2, 1) := by decide +kernel
theorem dJ0_indexOf_7cf53_13 : decode cJ0_indexOf_7cf53 13 = .ok (.aload_n 0, 1) := by decide +kernel
theorem dJ0_indexOf_7cf53_14 : decode cJ0_indexOf_7cf53 14 = .ok (.invokevirtual 505, 3) := by decide +kernel
theorem dJ0_indexOf_7cf53_17 : decode cJ0_indexOf_7cf53 17 = .ok (.invokestatic 637, 3) := by decide +kernel
theorem dJ0_indexOf_7cf53_20 : decode cJ0_indexOf_7cf53 20 = .ok (.goto 16, 3) := by decide +kernel
theorem dJ0_indexOf_7cf53_23 : decode cJ0_indexOf_7cf53 23 = .ok (.aload_n 0, 1) := by decide +kernel
theorem dJ0_indexOf_7cf53_24 : decode cJ0_indexOf_7cf53 24 = .ok (.getfield 9, 3) := by decide +kernel
theorem dJ0_indexOf_7cf53_27 : decode cJ0_indexOf_7cf53 27 = .ok (.iload_n 1, 1) := by decide +kernel
theorem dJ0_indexOf_7cf53_28 : decode cJ0_indexOf_7cf53 28 = .ok (.iload_n 2, 1) := by decide +kernel
theorem dJ0_indexOf_7cf53_29 : decode cJ0_indexOf_7cf53 29 = .ok (.aload_n 0, 1) := by decide +kernel
theorem dJ0_indexOf_7cf53_30 : decode cJ0_indexOf_7cf53 30 = .ok (.invokevirtual 505, 3) := by decide +kernel
theorem dJ0_indexOf_7cf53_33 : decode cJ0_indexOf_7cf53 33 = .ok (.invokestatic 640, 3) := by decide +kernel
theorem dJ0_indexOf_7cf53_36 : decode cJ0_indexOf_7cf53 36 = .ok (.ireturn, 1) := by decide +kernel
theorem dJ0_coder_7d493_0 : decode cJ0_coder_7d493 0 = .ok (.getstatic 38, 3) := by decide +kernel
theorem dJ0_coder_7d493_3 : decode cJ0_coder_7d493 3 = .ok (.ifCond .eq 10, 3) := by decide +kernel
theorem dJ0_coder_7d493_6 : decode cJ0_coder_7d493 6 = .ok (.aload_n 0, 1) := by decide +kernel
theorem dJ0_coder_7d493_7 : decode cJ0_coder_7d493 7 = .ok (.getfield 15, 3) := by decide +kernel
theorem dJ0_coder_7d493_10 : decode cJ0_coder_7d493 10 = .ok (.goto 4, 3) := by decide +kernel
theorem dJ0_coder_7d493_13 : decode cJ0_coder_7d493 13 = .ok (.iconst 1, 1) := by decide +kernel
theorem dJ0_coder_7d493_14 : decode cJ0_coder_7d493 14 = .ok (.ireturn, 1) := by decide +kernel
theorem dJ0_isLatin1_aae02_0 : decode cJ0_isLatin1_aae02 0 = .ok (.getstatic 38, 3) := by decide +kernel
theorem dJ0_isLatin1_aae02_3 : decode cJ0_isLatin1_aae02 3 = .ok (.ifCond .eq 14, 3) := by decide +kernel
theorem dJ0_isLatin1_aae02_6 : decode cJ0_isLatin1_aae02 6 = .ok (.aload_n 0, 1) := by decide +kernel
theorem dJ0_isLatin1_aae02_7 : decode cJ0_isLatin1_aae02 7 = .ok (.getfield 15, 3) := by decide +kernel
theorem dJ0_isLatin1_aae02_10 : decode cJ0_isLatin1_aae02 10 = .ok (.ifCond .ne 7, 3) := by decide +kernel
theorem dJ0_isLatin1_aae02_13 : decode cJ0_isLatin1_aae02 13 = .ok (.iconst 1, 1) := by decide +kernel
theorem dJ0_isLatin1_aae02_14 : decode cJ0_isLatin1_aae02 14 = .ok (.goto 4, 3) := by decide +kernel
theorem dJ0_isLatin1_aae02_17 : decode cJ0_isLatin1_aae02 17 = .ok (.iconst 0, 1) := by decide +kernel
theorem dJ0_isLatin1_aae02_18 : decode cJ0_isLatin1_aae02 18 = .ok (.ireturn, 1) := by decide +kernel
theorem dJ0_checkIndex_df160_0 : decode cJ0_checkIndex_df160 0 = .ok (.iload_n 0, 1) := by decide +kernel
theorem dJ0_checkIndex_df160_1 : decode cJ0_checkIndex_df160 1 = .ok (.iload_n 1, 1) := by decide +kernel
theorem dJ0_checkIndex_df160_2 : decode cJ0_checkIndex_df160 2 = .ok (.getstatic 1053, 3) := by decide +kernel
theorem dJ0_checkIndex_df160_5 : decode cJ0_checkIndex_df160 5 = .ok (.invokestatic 1059, 3) := by decide +kernel
theorem dJ0_checkIndex_df160_8 : decode cJ0_checkIndex_df160 8 = .ok (.pop, 1) := by decide +kernel
theorem dJ0_checkIndex_df160_9 : decode cJ0_checkIndex_df160 9 = .ok (.return_, 1) := by decide +kernel
theorem dJ0_checkBoundsBeginEnd_23922_0 : decode cJ0_checkBoundsBeginEnd_23922 0 = .ok (.iload_n 0, 1) := by decide +kernel
theorem dJ0_checkBoundsBeginEnd_23922_1 : decode cJ0_checkBoundsBeginEnd_23922 1 = .ok (.iload_n 1, 1) := by decide +kernel
theorem dJ0_checkBoundsBeginEnd_23922_2 : decode cJ0_checkBoundsBeginEnd_23922 2 = .ok (.iload_n 2, 1) := by decide +kernel
theorem dJ0_checkBoundsBeginEnd_23922_3 : decode cJ0_checkBoundsBeginEnd_23922 3 = .ok (.getstatic 1053, 3) := by decide +kernel
theorem dJ0_checkBoundsBeginEnd_23922_6 : decode cJ0_checkBoundsBeginEnd_23922 6 = .ok (.invokestatic 1062, 3) := by decide +kernel
theorem dJ0_checkBoundsBeginEnd_23922_9 : decode cJ0_checkBoundsBeginEnd_23922 9 = .ok (.pop, 1) := by decide +kernel
theorem dJ0_checkBoundsBeginEnd_23922_10 : decode cJ0_checkBoundsBeginEnd_23922 10 = .ok (.return_, 1) := by decide +kernel
theorem dJ1_charAt_3b067_0 : decode cJ1_charAt_3b067 0 = .ok (.iload_n 1, 1) := by decide +kernel
theorem dJ1_charAt_3b067_1 : decode cJ1_charAt_3b067 1 = .ok (.aload_n 0, 1) := by decide +kernel
theorem dJ1_charAt_3b067_2 : decode cJ1_charAt_3b067 2 = .ok (.arraylength, 1) := by decide +kernel
theorem dJ1_charAt_3b067_3 : decode cJ1_charAt_3b067 3 = .ok (.invokestatic 9, 3) := by decide +kernel
theorem dJ1_charAt_3b067_6 : decode cJ1_charAt_3b067 6 = .ok (.aload_n 0, 1) := by decide +kernel
theorem dJ1_charAt_3b067_7 : decode cJ1_charAt_3b067 7 = .ok (.iload_n 1, 1) := by decide +kernel
theorem dJ1_charAt_3b067_8 : decode cJ1_charAt_3b067 8 = .ok (.baload, 1) := by decide +kernel
theorem dJ1_charAt_3b067_9 : decode cJ1_charAt_3b067 9 = .ok (.sipush 255, 3) := by decide +kernel
theorem dJ1_charAt_3b067_12 : decode cJ1_charAt_3b067 12 = .ok (.iand, 1) := by decide +kernel
theorem dJ1_charAt_3b067_13 : decode cJ1_charAt_3b067 13 = .ok (.i2c, 1) := by decide +kernel
theorem dJ1_charAt_3b067_14 : decode cJ1_charAt_3b067 14 = .ok (.ireturn, 1) := by decide +kernel
theorem dJ1_canEncode_9a6ad_0 : decode cJ1_canEncode_9a6ad 0 = .ok (.iload_n 0, 1) := by decide +kernel
theorem dJ1_canEncode_9a6ad_1 : decode cJ1_canEncode_9a6ad 1 = .ok (.ifCond .lt 14, 3) := by decide +kernel
theorem dJ1_canEncode_9a6ad_4 : decode cJ1_canEncode_9a6ad 4 = .ok (.iload_n 0, 1) := by decide +kernel
theorem dJ1_canEncode_9a6ad_5 : decode cJ1_canEncode_9a6ad 5 = .ok (.sipush 255, 3) := by decide +kernel
theorem dJ1_canEncode_9a6ad_8 : decode cJ1_canEncode_9a6ad 8 = .ok (.if_icmp .gt 7, 3) := by decide +kernel
theorem dJ1_canEncode_9a6ad_11 : decode cJ1_canEncode_9a6ad 11 = .ok (.iconst 1, 1) := by decide +kernel
theorem dJ1_canEncode_9a6ad_12 : decode cJ1_canEncode_9a6ad 12 = .ok (.goto 4, 3) := by decide +kernel
theorem dJ1_canEncode_9a6ad_15 : decode cJ1_canEncode_9a6ad 15 = .ok (.iconst 0, 1) := by decide +kernel
theorem dJ1_canEncode_9a6ad_16 : decode cJ1_canEncode_9a6ad 16 = .ok (.ireturn, 1) := by decide +kernel
theorem dJ1_indexOf_4cfef_0 : decode cJ1_indexOf_4cfef 0 = .ok (.iload_n 1, 1) := by decide +kernel
theorem dJ1_indexOf_4cfef_1 : decode cJ1_indexOf_4cfef 1 = .ok (.invokestatic 88, 3) := by decide +kernel
theorem dJ1_indexOf_4cfef_4 : decode cJ1_indexOf_4cfef 4 = .ok (.ifCond .ne 5, 3) := by decide +kernel
theorem dJ1_indexOf_4cfef_7 : decode cJ1_indexOf_4cfef 7 = .ok (.iconst (-1), 1) := by decide +kernel
theorem dJ1_indexOf_4cfef_8 : decode cJ1_indexOf_4cfef 8 = .ok (.ireturn, 1) := by decide +kernel
theorem dJ1_indexOf_4cfef_9 : decode cJ1_indexOf_4cfef 9 = .ok (.iload_n 2, 1) := by decide +kernel
theorem dJ1_indexOf_4cfef_10 : decode cJ1_indexOf_4cfef 10 = .ok (.iconst 0, 1) := by decide +kernel
theorem dJ1_indexOf_4cfef_11 : decode cJ1_indexOf_4cfef 11 = .ok (.invokestatic 92, 3) := by decide +kernel
theorem dJ1_indexOf_4cfef_14 : decode cJ1_indexOf_4cfef 14 = .ok (.istore_n 2, 1) := by decide +kernel
theorem dJ1_indexOf_4cfef_15 : decode cJ1_indexOf_4cfef 15 = .ok (.iload_n 3, 1) := by decide +kernel
theorem dJ1_indexOf_4cfef_16 : decode cJ1_indexOf_4cfef 16 = .ok (.aload_n 0, 1) := by decide +kernel
theorem dJ1_indexOf_4cfef_17 : decode cJ1_indexOf_4cfef 17 = .ok (.arraylength, 1) := by decide +kernel
theorem dJ1_indexOf_4cfef_18 : decode cJ1_indexOf_4cfef 18 = .ok (.invokestatic 38, 3) := by decide +kernel
theorem dJ1_indexOf_4cfef_21 : decode cJ1_indexOf_4cfef 21 = .ok (.istore_n 3, 1) := by decide +kernel
theorem dJ1_indexOf_4cfef_22 : decode cJ1_indexOf_4cfef 22 = .ok (.iload_n 2, 1) := by decide +kernel
theorem dJ1_indexOf_4cfef_23 : decode cJ1_indexOf_4cfef 23 = .ok (.iload_n 3, 1) := by decide +kernel
theorem dJ1_indexOf_4cfef_24 : decode cJ1_indexOf_4cfef 24 = .ok (.if_icmp .lt 5, 3) := by decide +kernel
theorem dJ1_indexOf_4cfef_27 : decode cJ1_indexOf_4cfef 27 = .ok (.iconst (-1), 1) := by decide +kernel
theorem dJ1_indexOf_4cfef_28 : decode cJ1_indexOf_4cfef 28 = .ok (.ireturn, 1) := by decide +kernel
theorem dJ1_indexOf_4cfef_29 : decode cJ1_indexOf_4cfef 29 = .ok (.aload_n 0, 1) := by decide +kernel
theorem dJ1_indexOf_4cfef_30 : decode cJ1_indexOf_4cfef 30 = .ok (.iload_n 1, 1) := by decide +kernel
theorem dJ1_indexOf_4cfef_31 : decode cJ1_indexOf_4cfef 31 = .ok (.iload_n 2, 1) := by decide +kernel
theorem dJ1_indexOf_4cfef_32 : decode cJ1_indexOf_4cfef 32 = .ok (.iload_n 3, 1) := by decide +kernel
theorem dJ1_indexOf_4cfef_33 : decode cJ1_indexOf_4cfef 33 = .ok (.invokestatic 95, 3) := by decide +kernel
theorem dJ1_indexOf_4cfef_36 : decode cJ1_indexOf_4cfef 36 = .ok (.ireturn, 1) := by decide +kernel
theorem dJ1_indexOfChar_4cfef_0 : decode cJ1_indexOfChar_4cfef 0 = .ok (.iload_n 1, 1) := by decide +kernel
theorem dJ1_indexOfChar_4cfef_1 : decode cJ1_indexOfChar_4cfef 1 = .ok (.i2b, 1) := by decide +kernel
theorem dJ1_indexOfChar_4cfef_2 : decode cJ1_indexOfChar_4cfef 2 = .ok (.istore 4, 2) := by decide +kernel
theorem dJ1_indexOfChar_4cfef_4 : decode cJ1_indexOfChar_4cfef 4 = .ok (.iload_n 2, 1) := by decide +kernel
theorem dJ1_indexOfChar_4cfef_5 : decode cJ1_indexOfChar_4cfef 5 = .ok (.istore 5, 2) := by decide +kernel
theorem dJ1_indexOfChar_4cfef_7 : decode cJ1_indexOfChar_4cfef 7 = .ok (.iload 5, 2) := by decide +kernel
theorem dJ1_indexOfChar_4cfef_9 : decode cJ1_indexOfChar_4cfef 9 = .ok (.iload_n 3, 1) := by decide +kernel
theorem dJ1_indexOfChar_4cfef_10 : decode cJ1_indexOfChar_4cfef 10 = .ok (.if_icmp .ge 21, 3) := by decide +kernel
theorem dJ1_indexOfChar_4cfef_13 : decode cJ1_indexOfChar_4cfef 13 = .ok (.aload_n 0, 1) := by decide +kernel
theorem dJ1_indexOfChar_4cfef_14 : decode cJ1_indexOfChar_4cfef 14 = .ok (.iload 5, 2) := by decide +kernel
theorem dJ1_indexOfChar_4cfef_16 : decode cJ1_indexOfChar_4cfef 16 = .ok (.baload, 1) := by decide +kernel
theorem dJ1_indexOfChar_4cfef_17 : decode cJ1_indexOfChar_4cfef 17 = .ok (.iload 4, 2) := by decide +kernel
theorem dJ1_indexOfChar_4cfef_19 : decode cJ1_indexOfChar_4cfef 19 = .ok (.if_icmp .ne 6, 3) := by decide +kernel
theorem dJ1_indexOfChar_4cfef_22 : decode cJ1_indexOfChar_4cfef 22 = .ok (.iload 5, 2) := by decide +kernel
theorem dJ1_indexOfChar_4cfef_24 : decode cJ1_indexOfChar_4cfef 24 = .ok (.ireturn, 1) := by decide +kernel
theorem dJ1_indexOfChar_4cfef_25 : decode cJ1_indexOfChar_4cfef 25 = .ok (.iinc 5 1, 3) := by decide +kernel
theorem dJ1_indexOfChar_4cfef_28 : decode cJ1_indexOfChar_4cfef 28 = .ok (.goto (-21), 3) := by decide +kernel
theorem dJ1_indexOfChar_4cfef_31 : decode cJ1_indexOfChar_4cfef 31 = .ok (.iconst (-1), 1) := by decide +kernel
theorem dJ1_indexOfChar_4cfef_32 : decode cJ1_indexOfChar_4cfef 32 = .ok (.ireturn, 1) := by decide +kernel
theorem dJ2_getChar_3b067_0 : decode cJ2_getChar_3b067 0 = .ok (.getstatic 44, 3) := by decide +kernel
theorem dJ2_getChar_3b067_3 : decode cJ2_getChar_3b067 3 = .ok (.ifCond .ne 25, 3) := by decide +kernel
theorem dJ2_getChar_3b067_6 : decode cJ2_getChar_3b067 6 = .ok (.iload_n 1, 1) := by decide +kernel
theorem dJ2_getChar_3b067_7 : decode cJ2_getChar_3b067 7 = .ok (.ifCond .lt 11, 3) := by decide +kernel
theorem dJ2_getChar_3b067_10 : decode cJ2_getChar_3b067 10 = .ok (.iload_n 1, 1) := by decide +kernel
theorem dJ2_getChar_3b067_11 : decode cJ2_getChar_3b067 11 = .ok (.aload_n 0, 1) := by decide +kernel
theorem dJ2_getChar_3b067_12 : decode cJ2_getChar_3b067 12 = .ok (.invokestatic 48, 3) := by decide +kernel
theorem dJ2_getChar_3b067_15 : decode cJ2_getChar_3b067 15 = .ok (.if_icmp .lt 13, 3) := by decide +kernel
theorem dJ2_getChar_3b067_18 : decode cJ2_getChar_3b067 18 = .ok (.new 52, 3) := by decide +kernel
theorem dJ2_getChar_3b067_21 : decode cJ2_getChar_3b067 21 = .ok (.dup, 1) := by decide +kernel
theorem dJ2_getChar_3b067_22 : decode cJ2_getChar_3b067 22 = .ok (.ldc 54, 2) := by decide +kernel
theorem dJ2_getChar_3b067_24 : decode cJ2_getChar_3b067 24 = .ok (.invokespecial 56, 3) := by decide +kernel
theorem dJ2_getChar_3b067_27 : decode cJ2_getChar_3b067 27 = .ok (.athrow, 1) := by decide +kernel
theorem dJ2_getChar_3b067_28 : decode cJ2_getChar_3b067 28 = .ok (.iload_n 1, 1) := by decide +kernel
theorem dJ2_getChar_3b067_29 : decode cJ2_getChar_3b067 29 = .ok (.iconst 1, 1) := by decide +kernel
theorem dJ2_getChar_3b067_30 : decode cJ2_getChar_3b067 30 = .ok (.ishl, 1) := by decide +kernel
theorem dJ2_getChar_3b067_31 : decode cJ2_getChar_3b067 31 = .ok (.istore_n 1, 1) := by decide +kernel
theorem dJ2_getChar_3b067_32 : decode cJ2_getChar_3b067 32 = .ok (.aload_n 0, 1) := by decide +kernel
theorem dJ2_getChar_3b067_33 : decode cJ2_getChar_3b067 33 = .ok (.iload_n 1, 1) := by decide +kernel
theorem dJ2_getChar_3b067_34 : decode cJ2_getChar_3b067 34 = .ok (.iinc 1 1, 3) := by decide +kernel
theorem dJ2_getChar_3b067_37 : decode cJ2_getChar_3b067 37 = .ok (.baload, 1) := by decide +kernel
theorem dJ2_getChar_3b067_38 : decode cJ2_getChar_3b067 38 = .ok (.sipush 255, 3) := by decide +kernel
theorem dJ2_getChar_3b067_41 : decode cJ2_getChar_3b067 41 = .ok (.iand, 1) := by decide +kernel
theorem dJ2_getChar_3b067_42 : decode cJ2_getChar_3b067 42 = .ok (.getstatic 59, 3) := by decide +kernel
theorem dJ2_getChar_3b067_45 : decode cJ2_getChar_3b067 45 = .ok (.ishl, 1) := by decide +kernel
theorem dJ2_getChar_3b067_46 : decode cJ2_getChar_3b067 46 = .ok (.aload_n 0, 1) := by decide +kernel
theorem dJ2_getChar_3b067_47 : decode cJ2_getChar_3b067 47 = .ok (.iload_n 1, 1) := by decide +kernel
theorem dJ2_getChar_3b067_48 : decode cJ2_getChar_3b067 48 = .ok (.baload, 1) := by decide +kernel
theorem dJ2_getChar_3b067_49 : decode cJ2_getChar_3b067 49 = .ok (.sipush 255, 3) := by decide +kernel
theorem dJ2_getChar_3b067_52 : decode cJ2_getChar_3b067 52 = .ok (.iand, 1) := by decide +kernel
theorem dJ2_getChar_3b067_53 : decode cJ2_getChar_3b067 53 = .ok (.getstatic 63, 3) := by decide +kernel
theorem dJ2_getChar_3b067_56 : decode cJ2_getChar_3b067 56 = .ok (.ishl, 1) := by decide +kernel
theorem dJ2_getChar_3b067_57 : decode cJ2_getChar_3b067 57 = .ok (.ior, 1) := by decide +kernel
theorem dJ2_getChar_3b067_58 : decode cJ2_getChar_3b067 58 = .ok (.i2c, 1) := by decide +kernel
theorem dJ2_getChar_3b067_59 : decode cJ2_getChar_3b067 59 = .ok (.ireturn, 1) := by decide +kernel
theorem dJ2_length_9d52b_0 : decode cJ2_length_9d52b 0 = .ok (.aload_n 0, 1) := by decide +kernel
theorem dJ2_length_9d52b_1 : decode cJ2_length_9d52b 1 = .ok (.arraylength, 1) := by decide +kernel
theorem dJ2_length_9d52b_2 : decode cJ2_length_9d52b 2 = .ok (.iconst 1, 1) := by decide +kernel
theorem dJ2_length_9d52b_3 : decode cJ2_length_9d52b 3 = .ok (.ishr, 1) := by decide +kernel
theorem dJ2_length_9d52b_4 : decode cJ2_length_9d52b 4 = .ok (.ireturn, 1) := by decide +kernel
theorem dJ2_indexOf_4cfef_0 : decode cJ2_indexOf_4cfef 0 = .ok (.iload_n 2, 1) := by decide +kernel
theorem dJ2_indexOf_4cfef_1 : decode cJ2_indexOf_4cfef 1 = .ok (.iconst 0, 1) := by decide +kernel
theorem dJ2_indexOf_4cfef_2 : decode cJ2_indexOf_4cfef 2 = .ok (.invokestatic 224, 3) := by decide +kernel
theorem dJ2_indexOf_4cfef_5 : decode cJ2_indexOf_4cfef 5 = .ok (.istore_n 2, 1) := by decide +kernel
theorem dJ2_indexOf_4cfef_6 : decode cJ2_indexOf_4cfef 6 = .ok (.iload_n 3, 1) := by decide +kernel
theorem dJ2_indexOf_4cfef_7 : decode cJ2_indexOf_4cfef 7 = .ok (.aload_n 0, 1) := by decide +kernel
theorem dJ2_indexOf_4cfef_8 : decode cJ2_indexOf_4cfef 8 = .ok (.arraylength, 1) := by decide +kernel
theorem dJ2_indexOf_4cfef_9 : decode cJ2_indexOf_4cfef 9 = .ok (.iconst 1, 1) := by decide +kernel
theorem dJ2_indexOf_4cfef_10 : decode cJ2_indexOf_4cfef 10 = .ok (.ishr, 1) := by decide +kernel
theorem dJ2_indexOf_4cfef_11 : decode cJ2_indexOf_4cfef 11 = .ok (.invokestatic 183, 3) := by decide +kernel
theorem dJ2_indexOf_4cfef_14 : decode cJ2_indexOf_4cfef 14 = .ok (.istore_n 3, 1) := by decide +kernel
theorem dJ2_indexOf_4cfef_15 : decode cJ2_indexOf_4cfef 15 = .ok (.iload_n 2, 1) := by decide +kernel
theorem dJ2_indexOf_4cfef_16 : decode cJ2_indexOf_4cfef 16 = .ok (.iload_n 3, 1) := by decide +kernel
theorem dJ2_indexOf_4cfef_17 : decode cJ2_indexOf_4cfef 17 = .ok (.if_icmp .lt 5, 3) := by decide +kernel
theorem dJ2_indexOf_4cfef_20 : decode cJ2_indexOf_4cfef 20 = .ok (.iconst (-1), 1) := by decide +kernel
theorem dJ2_indexOf_4cfef_21 : decode cJ2_indexOf_4cfef 21 = .ok (.ireturn, 1) := by decide +kernel
theorem dJ2_indexOf_4cfef_22 : decode cJ2_indexOf_4cfef 22 = .ok (.iload_n 1, 1) := by decide +kernel
theorem dJ2_indexOf_4cfef_23 : decode cJ2_indexOf_4cfef 23 = .ok (.ldc 227, 2) := by decide +kernel
theorem dJ2_indexOf_4cfef_25 : decode cJ2_indexOf_4cfef 25 = .ok (.if_icmp .ge 11, 3) := by decide +kernel
theorem dJ2_indexOf_4cfef_28 : decode cJ2_indexOf_4cfef 28 = .ok (.aload_n 0, 1) := by decide +kernel
theorem dJ2_indexOf_4cfef_29 : decode cJ2_indexOf_4cfef 29 = .ok (.iload_n 1, 1) := by decide +kernel
theorem dJ2_indexOf_4cfef_30 : decode cJ2_indexOf_4cfef 30 = .ok (.iload_n 2, 1) := by decide +kernel
theorem dJ2_indexOf_4cfef_31 : decode cJ2_indexOf_4cfef 31 = .ok (.iload_n 3, 1) := by decide +kernel
theorem dJ2_indexOf_4cfef_32 : decode cJ2_indexOf_4cfef 32 = .ok (.invokestatic 228, 3) := by decide +kernel
theorem dJ2_indexOf_4cfef_35 : decode cJ2_indexOf_4cfef 35 = .ok (.ireturn, 1) := by decide +kernel
theorem dJ2_indexOf_4cfef_36 : decode cJ2_indexOf_4cfef 36 = .ok (.aload_n 0, 1) := by decide +kernel
theorem dJ2_indexOf_4cfef_37 : decode cJ2_indexOf_4cfef 37 = .ok (.iload_n 1, 1) := by decide +kernel
theorem dJ2_indexOf_4cfef_38 : decode cJ2_indexOf_4cfef 38 = .ok (.iload_n 2, 1) := by decide +kernel
theorem dJ2_indexOf_4cfef_39 : decode cJ2_indexOf_4cfef 39 = .ok (.iload_n 3, 1) := by decide +kernel
theorem dJ2_indexOf_4cfef_40 : decode cJ2_indexOf_4cfef 40 = .ok (.invokestatic 232, 3) := by decide +kernel
theorem dJ2_indexOf_4cfef_43 : decode cJ2_indexOf_4cfef 43 = .ok (.ireturn, 1) := by decide +kernel
theorem dJ2_indexOfChar_4cfef_0 : decode cJ2_indexOfChar_4cfef 0 = .ok (.iload_n 2, 1) := by decide +kernel
theorem dJ2_indexOfChar_4cfef_1 : decode cJ2_indexOfChar_4cfef 1 = .ok (.iload_n 3, 1) := by decide +kernel
theorem dJ2_indexOfChar_4cfef_2 : decode cJ2_indexOfChar_4cfef 2 = .ok (.aload_n 0, 1) := by decide +kernel
theorem dJ2_indexOfChar_4cfef_3 : decode cJ2_indexOfChar_4cfef 3 = .ok (.invokestatic 96, 3) := by decide +kernel
theorem dJ2_indexOfChar_4cfef_6 : decode cJ2_indexOfChar_4cfef 6 = .ok (.aload_n 0, 1) := by decide +kernel
theorem dJ2_indexOfChar_4cfef_7 : decode cJ2_indexOfChar_4cfef 7 = .ok (.iload_n 1, 1) := by decide +kernel
theorem dJ2_indexOfChar_4cfef_8 : decode cJ2_indexOfChar_4cfef 8 = .ok (.iload_n 2, 1) := by decide +kernel
theorem dJ2_indexOfChar_4cfef_9 : decode cJ2_indexOfChar_4cfef 9 = .ok (.iload_n 3, 1) := by decide +kernel
theorem dJ2_indexOfChar_4cfef_10 : decode cJ2_indexOfChar_4cfef 10 = .ok (.invokestatic 244, 3) := by decide +kernel
theorem dJ2_indexOfChar_4cfef_13 : decode cJ2_indexOfChar_4cfef 13 = .ok (.ireturn, 1) := by decide +kernel
theorem dJ2_indexOfCharUnsafe_4cfef_0 : decode cJ2_indexOfCharUnsafe_4cfef 0 = .ok (.iload_n 2, 1) := by decide +kernel
theorem dJ2_indexOfCharUnsafe_4cfef_1 : decode cJ2_indexOfCharUnsafe_4cfef 1 = .ok (.istore 4, 2) := by decide +kernel
theorem dJ2_indexOfCharUnsafe_4cfef_3 : decode cJ2_indexOfCharUnsafe_4cfef 3 = .ok (.iload 4, 2) := by decide +kernel
theorem dJ2_indexOfCharUnsafe_4cfef_5 : decode cJ2_indexOfCharUnsafe_4cfef 5 = .ok (.iload_n 3, 1) := by decide +kernel
theorem dJ2_indexOfCharUnsafe_4cfef_6 : decode cJ2_indexOfCharUnsafe_4cfef 6 = .ok (.if_icmp .ge 22, 3) := by decide +kernel
theorem dJ2_indexOfCharUnsafe_4cfef_9 : decode cJ2_indexOfCharUnsafe_4cfef 9 = .ok (.aload_n 0, 1) := by decide +kernel
theorem dJ2_indexOfCharUnsafe_4cfef_10 : decode cJ2_indexOfCharUnsafe_4cfef 10 = .ok (.iload 4, 2) := by decide +kernel
theorem dJ2_indexOfCharUnsafe_4cfef_12 : decode cJ2_indexOfCharUnsafe_4cfef 12 = .ok (.invokestatic 71, 3) := by decide +kernel
theorem dJ2_indexOfCharUnsafe_4cfef_15 : decode cJ2_indexOfCharUnsafe_4cfef 15 = .ok (.iload_n 1, 1) := by decide +kernel
theorem dJ2_indexOfCharUnsafe_4cfef_16 : decode cJ2_indexOfCharUnsafe_4cfef 16 = .ok (.if_icmp .ne 6, 3) := by decide +kernel
theorem dJ2_indexOfCharUnsafe_4cfef_19 : decode cJ2_indexOfCharUnsafe_4cfef 19 = .ok (.iload 4, 2) := by decide +kernel
theorem dJ2_indexOfCharUnsafe_4cfef_21 : decode cJ2_indexOfCharUnsafe_4cfef 21 = .ok (.ireturn, 1) := by decide +kernel
theorem dJ2_indexOfCharUnsafe_4cfef_22 : decode cJ2_indexOfCharUnsafe_4cfef 22 = .ok (.iinc 4 1, 3) := by decide +kernel
theorem dJ2_indexOfCharUnsafe_4cfef_25 : decode cJ2_indexOfCharUnsafe_4cfef 25 = .ok (.goto (-22), 3) := by decide +kernel
theorem dJ2_indexOfCharUnsafe_4cfef_28 : decode cJ2_indexOfCharUnsafe_4cfef 28 = .ok (.iconst (-1), 1) := by decide +kernel
theorem dJ2_indexOfCharUnsafe_4cfef_29 : decode cJ2_indexOfCharUnsafe_4cfef 29 = .ok (.ireturn, 1) := by decide +kernel
theorem dJ2_indexOfSupplementary_4cfef_0 : decode cJ2_indexOfSupplementary_4cfef 0 = .ok (.iload_n 1, 1) := by decide +kernel
theorem dJ2_indexOfSupplementary_4cfef_1 : decode cJ2_indexOfSupplementary_4cfef 1 = .ok (.invokestatic 164, 3) := by decide +kernel
theorem dJ2_indexOfSupplementary_4cfef_4 : decode cJ2_indexOfSupplementary_4cfef 4 = .ok (.ifCond .eq 65, 3) := by decide +kernel
theorem dJ2_indexOfSupplementary_4cfef_7 : decode cJ2_indexOfSupplementary_4cfef 7 = .ok (.iload_n 1, 1) := by decide +kernel
theorem dJ2_indexOfSupplementary_4cfef_8 : decode cJ2_indexOfSupplementary_4cfef 8 = .ok (.invokestatic 157, 3) := by decide +kernel
theorem dJ2_indexOfSupplementary_4cfef_11 : decode cJ2_indexOfSupplementary_4cfef 11 = .ok (.istore 4, 2) := by decide +kernel
theorem dJ2_indexOfSupplementary_4cfef_13 : decode cJ2_indexOfSupplementary_4cfef 13 = .ok (.iload_n 1, 1) := by decide +kernel
theorem dJ2_indexOfSupplementary_4cfef_14 : decode cJ2_indexOfSupplementary_4cfef 14 = .ok (.invokestatic 161, 3) := by decide +kernel
theorem dJ2_indexOfSupplementary_4cfef_17 : decode cJ2_indexOfSupplementary_4cfef 17 = .ok (.istore 5, 2) := by decide +kernel
theorem dJ2_indexOfSupplementary_4cfef_19 : decode cJ2_indexOfSupplementary_4cfef 19 = .ok (.iload_n 2, 1) := by decide +kernel
theorem dJ2_indexOfSupplementary_4cfef_20 : decode cJ2_indexOfSupplementary_4cfef 20 = .ok (.iload_n 3, 1) := by decide +kernel
theorem dJ2_indexOfSupplementary_4cfef_21 : decode cJ2_indexOfSupplementary_4cfef 21 = .ok (.aload_n 0, 1) := by decide +kernel
theorem dJ2_indexOfSupplementary_4cfef_22 : decode cJ2_indexOfSupplementary_4cfef 22 = .ok (.invokestatic 96, 3) := by decide +kernel
theorem dJ2_indexOfSupplementary_4cfef_25 : decode cJ2_indexOfSupplementary_4cfef 25 = .ok (.iload_n 2, 1) := by decide +kernel
theorem dJ2_indexOfSupplementary_4cfef_26 : decode cJ2_indexOfSupplementary_4cfef 26 = .ok (.istore 6, 2) := by decide +kernel
theorem dJ2_indexOfSupplementary_4cfef_28 : decode cJ2_indexOfSupplementary_4cfef 28 = .ok (.iload 6, 2) := by decide +kernel
theorem dJ2_indexOfSupplementary_4cfef_30 : decode cJ2_indexOfSupplementary_4cfef 30 = .ok (.iload_n 3, 1) := by decide +kernel
theorem dJ2_indexOfSupplementary_4cfef_31 : decode cJ2_indexOfSupplementary_4cfef 31 = .ok (.iconst 1, 1) := by decide +kernel
theorem dJ2_indexOfSupplementary_4cfef_32 : decode cJ2_indexOfSupplementary_4cfef 32 = .ok (.isub, 1) := by decide +kernel
theorem dJ2_indexOfSupplementary_4cfef_33 : decode cJ2_indexOfSupplementary_4cfef 33 = .ok (.if_icmp .ge 36, 3) := by decide +kernel
theorem dJ2_indexOfSupplementary_4cfef_36 : decode cJ2_indexOfSupplementary_4cfef 36 = .ok (.aload_n 0, 1) := by decide +kernel
theorem dJ2_indexOfSupplementary_4cfef_37 : decode cJ2_indexOfSupplementary_4cfef 37 = .ok (.iload 6, 2) := by decide +kernel
theorem dJ2_indexOfSupplementary_4cfef_39 : decode cJ2_indexOfSupplementary_4cfef 39 = .ok (.invokestatic 71, 3) := by decide +kernel
theorem dJ2_indexOfSupplementary_4cfef_42 : decode cJ2_indexOfSupplementary_4cfef 42 = .ok (.iload 4, 2) := by decide +kernel
theorem dJ2_indexOfSupplementary_4cfef_44 : decode cJ2_indexOfSupplementary_4cfef 44 = .ok (.if_icmp .ne 19, 3) := by decide +kernel
theorem dJ2_indexOfSupplementary_4cfef_47 : decode cJ2_indexOfSupplementary_4cfef 47 = .ok (.aload_n 0, 1) := by decide +kernel
theorem dJ2_indexOfSupplementary_4cfef_48 : decode cJ2_indexOfSupplementary_4cfef 48 = .ok (.iload 6, 2) := by decide +kernel
theorem dJ2_indexOfSupplementary_4cfef_50 : decode cJ2_indexOfSupplementary_4cfef 50 = .ok (.iconst 1, 1) := by decide +kernel
theorem dJ2_indexOfSupplementary_4cfef_51 : decode cJ2_indexOfSupplementary_4cfef 51 = .ok (.iadd, 1) := by decide +kernel
theorem dJ2_indexOfSupplementary_4cfef_52 : decode cJ2_indexOfSupplementary_4cfef 52 = .ok (.invokestatic 71, 3) := by decide +kernel
theorem dJ2_indexOfSupplementary_4cfef_55 : decode cJ2_indexOfSupplementary_4cfef 55 = .ok (.iload 5, 2) := by decide +kernel
theorem dJ2_indexOfSupplementary_4cfef_57 : decode cJ2_indexOfSupplementary_4cfef 57 = .ok (.if_icmp .ne 6, 3) := by decide +kernel
theorem dJ2_indexOfSupplementary_4cfef_60 : decode cJ2_indexOfSupplementary_4cfef 60 = .ok (.iload 6, 2) := by decide +kernel
theorem dJ2_indexOfSupplementary_4cfef_62 : decode cJ2_indexOfSupplementary_4cfef 62 = .ok (.ireturn, 1) := by decide +kernel
theorem dJ2_indexOfSupplementary_4cfef_63 : decode cJ2_indexOfSupplementary_4cfef 63 = .ok (.iinc 6 1, 3) := by decide +kernel
theorem dJ2_indexOfSupplementary_4cfef_66 : decode cJ2_indexOfSupplementary_4cfef 66 = .ok (.goto (-38), 3) := by decide +kernel
theorem dJ2_indexOfSupplementary_4cfef_69 : decode cJ2_indexOfSupplementary_4cfef 69 = .ok (.iconst (-1), 1) := by decide +kernel
theorem dJ2_indexOfSupplementary_4cfef_70 : decode cJ2_indexOfSupplementary_4cfef 70 = .ok (.ireturn, 1) := by decide +kernel
theorem dJ2_charAt_3b067_0 : decode cJ2_charAt_3b067 0 = .ok (.iload_n 1, 1) := by decide +kernel
theorem dJ2_charAt_3b067_1 : decode cJ2_charAt_3b067 1 = .ok (.aload_n 0, 1) := by decide +kernel
theorem dJ2_charAt_3b067_2 : decode cJ2_charAt_3b067 2 = .ok (.invokestatic 67, 3) := by decide +kernel
theorem dJ2_charAt_3b067_5 : decode cJ2_charAt_3b067 5 = .ok (.aload_n 0, 1) := by decide +kernel
theorem dJ2_charAt_3b067_6 : decode cJ2_charAt_3b067 6 = .ok (.iload_n 1, 1) := by decide +kernel
theorem dJ2_charAt_3b067_7 : decode cJ2_charAt_3b067 7 = .ok (.invokestatic 71, 3) := by decide +kernel
theorem dJ2_charAt_3b067_10 : decode cJ2_charAt_3b067 10 = .ok (.ireturn, 1) := by decide +kernel
theorem dJ2_checkIndex_2214a_0 : decode cJ2_checkIndex_2214a 0 = .ok (.iload_n 0, 1) := by decide +kernel
theorem dJ2_checkIndex_2214a_1 : decode cJ2_checkIndex_2214a 1 = .ok (.aload_n 1, 1) := by decide +kernel
theorem dJ2_checkIndex_2214a_2 : decode cJ2_checkIndex_2214a 2 = .ok (.invokestatic 48, 3) := by decide +kernel
theorem dJ2_checkIndex_2214a_5 : decode cJ2_checkIndex_2214a 5 = .ok (.invokestatic 414, 3) := by decide +kernel
theorem dJ2_checkIndex_2214a_8 : decode cJ2_checkIndex_2214a 8 = .ok (.return_, 1) := by decide +kernel
theorem dJ2_checkBoundsBeginEnd_d044e_0 : decode cJ2_checkBoundsBeginEnd_d044e 0 = .ok (.iload_n 0, 1) := by decide +kernel
theorem dJ2_checkBoundsBeginEnd_d044e_1 : decode cJ2_checkBoundsBeginEnd_d044e 1 = .ok (.iload_n 1, 1) := by decide +kernel
theorem dJ2_checkBoundsBeginEnd_d044e_2 : decode cJ2_checkBoundsBeginEnd_d044e 2 = .ok (.aload_n 2, 1) := by decide +kernel
theorem dJ2_checkBoundsBeginEnd_d044e_3 : decode cJ2_checkBoundsBeginEnd_d044e 3 = .ok (.invokestatic 48, 3) := by decide +kernel
theorem dJ2_checkBoundsBeginEnd_d044e_6 : decode cJ2_checkBoundsBeginEnd_d044e 6 = .ok (.invokestatic 241, 3) := by decide +kernel
theorem dJ2_checkBoundsBeginEnd_d044e_9 : decode cJ2_checkBoundsBeginEnd_d044e 9 = .ok (.return_, 1) := by decide +kernel
theorem dJ3_checkIndex_8e157_0 : decode cJ3_checkIndex_8e157 0 = .ok (.iload_n 0, 1) := by decide +kernel
theorem dJ3_checkIndex_8e157_1 : decode cJ3_checkIndex_8e157 1 = .ok (.ifCond .lt 8, 3) := by decide +kernel
theorem dJ3_checkIndex_8e157_4 : decode cJ3_checkIndex_8e157 4 = .ok (.iload_n 0, 1) := by decide +kernel
theorem dJ3_checkIndex_8e157_5 : decode cJ3_checkIndex_8e157 5 = .ok (.iload_n 1, 1) := by decide +kernel
theorem dJ3_checkIndex_8e157_6 : decode cJ3_checkIndex_8e157 6 = .ok (.if_icmp .lt 10, 3) := by decide +kernel
theorem dJ3_checkIndex_8e157_9 : decode cJ3_checkIndex_8e157 9 = .ok (.aload_n 2, 1) := by decide +kernel
theorem dJ3_checkIndex_8e157_10 : decode cJ3_checkIndex_8e157 10 = .ok (.iload_n 0, 1) := by decide +kernel
theorem dJ3_checkIndex_8e157_11 : decode cJ3_checkIndex_8e157 11 = .ok (.iload_n 1, 1) := by decide +kernel
theorem dJ3_checkIndex_8e157_12 : decode cJ3_checkIndex_8e157 12 = .ok (.invokestatic 95, 3) := by decide +kernel
theorem dJ3_checkIndex_8e157_15 : decode cJ3_checkIndex_8e157 15 = .ok (.athrow, 1) := by decide +kernel
theorem dJ3_checkIndex_8e157_16 : decode cJ3_checkIndex_8e157 16 = .ok (.iload_n 0, 1) := by decide +kernel
theorem dJ3_checkIndex_8e157_17 : decode cJ3_checkIndex_8e157 17 = .ok (.ireturn, 1) := by decide +kernel
theorem dJ3_checkFromToIndex_8c36e_0 : decode cJ3_checkFromToIndex_8c36e 0 = .ok (.iload_n 0, 1) := by decide +kernel
theorem dJ3_checkFromToIndex_8c36e_1 : decode cJ3_checkFromToIndex_8c36e 1 = .ok (.ifCond .lt 13, 3) := by decide +kernel
theorem dJ3_checkFromToIndex_8c36e_4 : decode cJ3_checkFromToIndex_8c36e 4 = .ok (.iload_n 0, 1) := by decide +kernel
theorem dJ3_checkFromToIndex_8c36e_5 : decode cJ3_checkFromToIndex_8c36e 5 = .ok (.iload_n 1, 1) := by decide +kernel
theorem dJ3_checkFromToIndex_8c36e_6 : decode cJ3_checkFromToIndex_8c36e 6 = .ok (.if_icmp .gt 8, 3) := by decide +kernel
theorem dJ3_checkFromToIndex_8c36e_9 : decode cJ3_checkFromToIndex_8c36e 9 = .ok (.iload_n 1, 1) := by decide +kernel
theorem dJ3_checkFromToIndex_8c36e_10 : decode cJ3_checkFromToIndex_8c36e 10 = .ok (.iload_n 2, 1) := by decide +kernel
theorem dJ3_checkFromToIndex_8c36e_11 : decode cJ3_checkFromToIndex_8c36e 11 = .ok (.if_icmp .le 11, 3) := by decide +kernel
theorem dJ3_checkFromToIndex_8c36e_14 : decode cJ3_checkFromToIndex_8c36e 14 = .ok (.aload_n 3, 1) := by decide +kernel
theorem dJ3_checkFromToIndex_8c36e_15 : decode cJ3_checkFromToIndex_8c36e 15 = .ok (.iload_n 0, 1) := by decide +kernel
theorem dJ3_checkFromToIndex_8c36e_16 : decode cJ3_checkFromToIndex_8c36e 16 = .ok (.iload_n 1, 1) := by decide +kernel
theorem dJ3_checkFromToIndex_8c36e_17 : decode cJ3_checkFromToIndex_8c36e 17 = .ok (.iload_n 2, 1) := by decide +kernel
theorem dJ3_checkFromToIndex_8c36e_18 : decode cJ3_checkFromToIndex_8c36e 18 = .ok (.invokestatic 99, 3) := by decide +kernel
theorem dJ3_checkFromToIndex_8c36e_21 : decode cJ3_checkFromToIndex_8c36e 21 = .ok (.athrow, 1) := by decide +kernel
theorem dJ3_checkFromToIndex_8c36e_22 : decode cJ3_checkFromToIndex_8c36e 22 = .ok (.iload_n 0, 1) := by decide +kernel
theorem dJ3_checkFromToIndex_8c36e_23 : decode cJ3_checkFromToIndex_8c36e 23 = .ok (.ireturn, 1) := by decide +kernel
theorem dL_law_0 : decode cL_law 0 = .ok (.new 7, 3) := by decide +kernel
theorem dL_law_3 : decode cL_law 3 = .ok (.dup, 1) := by decide +kernel
theorem dL_law_4 : decode cL_law 4 = .ok (.invokespecial 9, 3) := by decide +kernel
theorem dL_law_7 : decode cL_law 7 = .ok (.astore_n 1, 1) := by decide +kernel
theorem dL_law_8 : decode cL_law 8 = .ok (.new 10, 3) := by decide +kernel
theorem dL_law_11 : decode cL_law 11 = .ok (.dup, 1) := by decide +kernel
theorem dL_law_12 : decode cL_law 12 = .ok (.invokespecial 12, 3) := by decide +kernel
theorem dL_law_15 : decode cL_law 15 = .ok (.astore_n 2, 1) := by decide +kernel
theorem dL_law_16 : decode cL_law 16 = .ok (.iconst 0, 1) := by decide +kernel
theorem dL_law_17 : decode cL_law 17 = .ok (.istore_n 3, 1) := by decide +kernel
theorem dL_law_18 : decode cL_law 18 = .ok (.iload_n 3, 1) := by decide +kernel
theorem dL_law_19 : decode cL_law 19 = .ok (.aload_n 0, 1) := by decide +kernel
theorem dL_law_20 : decode cL_law 20 = .ok (.arraylength, 1) := by decide +kernel
theorem dL_law_21 : decode cL_law 21 = .ok (.bipush 6, 2) := by decide +kernel
theorem dL_law_23 : decode cL_law 23 = .ok (.isub, 1) := by decide +kernel
theorem dL_law_24 : decode cL_law 24 = .ok (.if_icmp .gt 1273, 3) := by decide +kernel
theorem dL_law_27 : decode cL_law 27 = .ok (.aload_n 0, 1) := by decide +kernel
theorem dL_law_28 : decode cL_law 28 = .ok (.iload_n 3, 1) := by decide +kernel
theorem dL_law_29 : decode cL_law 29 = .ok (.iaload, 1) := by decide +kernel
theorem dL_law_30 : decode cL_law 30 = .ok (.bipush 63, 2) := by decide +kernel
theorem dL_law_32 : decode cL_law 32 = .ok (.iand, 1) := by decide +kernel
theorem dL_law_33 : decode cL_law 33 = .ok (.tableswitch 1258 0 40 #[179, 242, 265, 278, 301, 334, 367, 390, 403, 426, 489, 532, 555, 588, 601, 614, 627, 660, 683, 706, 729, 742, 765, 808, 821, 834, 857, 890, 923, 946, 959, 972, 995, 1054, 1077, 1100, 1123, 1156, 1189, 1212, 1235], 179) := by decide +kernel
theorem dL_law_212 : decode cL_law 212 = .ok (.aload_n 1, 1) := by decide +kernel
theorem dL_law_213 : decode cL_law 213 = .ok (.aload_n 0, 1) := by decide +kernel
theorem dL_law_214 : decode cL_law 214 = .ok (.iload_n 3, 1) := by decide +kernel
theorem dL_law_215 : decode cL_law 215 = .ok (.iconst 1, 1) := by decide +kernel
theorem dL_law_216 : decode cL_law 216 = .ok (.iadd, 1) := by decide +kernel
theorem dL_law_217 : decode cL_law 217 = .ok (.iaload, 1) := by decide +kernel
theorem dL_law_218 : decode cL_law 218 = .ok (.aload_n 0, 1) := by decide +kernel
theorem dL_law_219 : decode cL_law 219 = .ok (.iload_n 3, 1) := by decide +kernel
theorem dL_law_220 : decode cL_law 220 = .ok (.iconst 2, 1) := by decide +kernel
theorem dL_law_221 : decode cL_law 221 = .ok (.iadd, 1) := by decide +kernel
theorem dL_law_222 : decode cL_law 222 = .ok (.iaload, 1) := by decide +kernel
theorem dL_law_223 : decode cL_law 223 = .ok (.aload_n 0, 1) := by decide +kernel
theorem dL_law_224 : decode cL_law 224 = .ok (.iload_n 3, 1) := by decide +kernel
theorem dL_law_225 : decode cL_law 225 = .ok (.iconst 3, 1) := by decide +kernel
theorem dL_law_226 : decode cL_law 226 = .ok (.iadd, 1) := by decide +kernel
theorem dL_law_227 : decode cL_law 227 = .ok (.iaload, 1) := by decide +kernel
theorem dL_law_228 : decode cL_law 228 = .ok (.aload_n 0, 1) := by decide +kernel
theorem dL_law_229 : decode cL_law 229 = .ok (.iload_n 3, 1) := by decide +kernel
theorem dL_law_230 : decode cL_law 230 = .ok (.iconst 4, 1) := by decide +kernel
theorem dL_law_231 : decode cL_law 231 = .ok (.iadd, 1) := by decide +kernel
theorem dL_law_232 : decode cL_law 232 = .ok (.iaload, 1) := by decide +kernel
theorem dL_law_233 : decode cL_law 233 = .ok (.aload_n 0, 1) := by decide +kernel
theorem dL_law_234 : decode cL_law 234 = .ok (.iload_n 3, 1) := by decide +kernel
theorem dL_law_235 : decode cL_law 235 = .ok (.iconst 5, 1) := by decide +kernel
theorem dL_law_236 : decode cL_law 236 = .ok (.iadd, 1) := by decide +kernel
theorem dL_law_237 : decode cL_law 237 = .ok (.iaload, 1) := by decide +kernel
theorem dL_law_238 : decode cL_law 238 = .ok (.invokevirtual 13, 3) := by decide +kernel
theorem dL_law_241 : decode cL_law 241 = .ok (.aload_n 2, 1) := by decide +kernel
theorem dL_law_242 : decode cL_law 242 = .ok (.aload_n 0, 1) := by decide +kernel
theorem dL_law_243 : decode cL_law 243 = .ok (.iload_n 3, 1) := by decide +kernel
theorem dL_law_244 : decode cL_law 244 = .ok (.iconst 1, 1) := by decide +kernel
theorem dL_law_245 : decode cL_law 245 = .ok (.iadd, 1) := by decide +kernel
theorem dL_law_246 : decode cL_law 246 = .ok (.iaload, 1) := by decide +kernel
theorem dL_law_247 : decode cL_law 247 = .ok (.aload_n 0, 1) := by decide +kernel
theorem dL_law_248 : decode cL_law 248 = .ok (.iload_n 3, 1) := by decide +kernel
theorem dL_law_249 : decode cL_law 249 = .ok (.iconst 2, 1) := by decide +kernel
theorem dL_law_250 : decode cL_law 250 = .ok (.iadd, 1) := by decide +kernel
theorem dL_law_251 : decode cL_law 251 = .ok (.iaload, 1) := by decide +kernel
theorem dL_law_252 : decode cL_law 252 = .ok (.aload_n 0, 1) := by decide +kernel
theorem dL_law_253 : decode cL_law 253 = .ok (.iload_n 3, 1) := by decide +kernel
theorem dL_law_254 : decode cL_law 254 = .ok (.iconst 3, 1) := by decide +kernel
theorem dL_law_255 : decode cL_law 255 = .ok (.iadd, 1) := by decide +kernel
theorem dL_law_256 : decode cL_law 256 = .ok (.iaload, 1) := by decide +kernel
theorem dL_law_257 : decode cL_law 257 = .ok (.aload_n 0, 1) := by decide +kernel
theorem dL_law_258 : decode cL_law 258 = .ok (.iload_n 3, 1) := by decide +kernel
theorem dL_law_259 : decode cL_law 259 = .ok (.iconst 4, 1) := by decide +kernel
theorem dL_law_260 : decode cL_law 260 = .ok (.iadd, 1) := by decide +kernel
theorem dL_law_261 : decode cL_law 261 = .ok (.iaload, 1) := by decide +kernel
theorem dL_law_262 : decode cL_law 262 = .ok (.aload_n 0, 1) := by decide +kernel
theorem dL_law_263 : decode cL_law 263 = .ok (.iload_n 3, 1) := by decide +kernel
theorem dL_law_264 : decode cL_law 264 = .ok (.iconst 5, 1) := by decide +kernel
theorem dL_law_265 : decode cL_law 265 = .ok (.iadd, 1) := by decide +kernel
theorem dL_law_266 : decode cL_law 266 = .ok (.iaload, 1) := by decide +kernel
theorem dL_law_267 : decode cL_law 267 = .ok (.invokevirtual 17, 3) := by decide +kernel
theorem dL_law_270 : decode cL_law 270 = .ok (.if_icmp .eq 1021, 3) := by decide +kernel
theorem dL_law_273 : decode cL_law 273 = .ok (.iconst 0, 1) := by decide +kernel
theorem dL_law_274 : decode cL_law 274 = .ok (.ireturn, 1) := by decide +kernel
theorem dL_law_275 : decode cL_law 275 = .ok (.aload_n 1, 1) := by decide +kernel
theorem dL_law_276 : decode cL_law 276 = .ok (.aload_n 0, 1) := by decide +kernel
theorem dL_law_277 : decode cL_law 277 = .ok (.iload_n 3, 1) := by decide +kernel
theorem dL_law_278 : decode cL_law 278 = .ok (.iconst 1, 1) := by decide +kernel
theorem dL_law_279 : decode cL_law 279 = .ok (.iadd, 1) := by decide +kernel
theorem dL_law_280 : decode cL_law 280 = .ok (.iaload, 1) := by decide +kernel
theorem dL_law_281 : decode cL_law 281 = .ok (.invokevirtual 18, 3) := by decide +kernel
theorem dL_law_284 : decode cL_law 284 = .ok (.aload_n 2, 1) := by decide +kernel
theorem dL_law_285 : decode cL_law 285 = .ok (.aload_n 0, 1) := by decide +kernel
theorem dL_law_286 : decode cL_law 286 = .ok (.iload_n 3, 1) := by decide +kernel
theorem dL_law_287 : decode cL_law 287 = .ok (.iconst 1, 1) := by decide +kernel
theorem dL_law_288 : decode cL_law 288 = .ok (.iadd, 1) := by decide +kernel
theorem dL_law_289 : decode cL_law 289 = .ok (.iaload, 1) := by decide +kernel
theorem dL_law_290 : decode cL_law 290 = .ok (.invokevirtual 22, 3) := by decide +kernel
theorem dL_law_293 : decode cL_law 293 = .ok (.if_icmp .eq 998, 3) := by decide +kernel
theorem dL_law_296 : decode cL_law 296 = .ok (.iconst 0, 1) := by decide +kernel
theorem dL_law_297 : decode cL_law 297 = .ok (.ireturn, 1) := by decide +kernel
theorem dL_law_298 : decode cL_law 298 = .ok (.aload_n 1, 1) := by decide +kernel
theorem dL_law_299 : decode cL_law 299 = .ok (.invokevirtual 23, 3) := by decide +kernel
theorem dL_law_302 : decode cL_law 302 = .ok (.aload_n 2, 1) := by decide +kernel
theorem dL_law_303 : decode cL_law 303 = .ok (.invokevirtual 27, 3) := by decide +kernel
theorem dL_law_306 : decode cL_law 306 = .ok (.if_icmp .eq 985, 3) := by decide +kernel
theorem dL_law_309 : decode cL_law 309 = .ok (.iconst 0, 1) := by decide +kernel
theorem dL_law_310 : decode cL_law 310 = .ok (.ireturn, 1) := by decide +kernel
theorem dL_law_311 : decode cL_law 311 = .ok (.aload_n 1, 1) := by decide +kernel
theorem dL_law_312 : decode cL_law 312 = .ok (.aload_n 0, 1) := by decide +kernel
theorem dL_law_313 : decode cL_law 313 = .ok (.iload_n 3, 1) := by decide +kernel
theorem dL_law_314 : decode cL_law 314 = .ok (.iconst 1, 1) := by decide +kernel
theorem dL_law_315 : decode cL_law 315 = .ok (.iadd, 1) := by decide +kernel
theorem dL_law_316 : decode cL_law 316 = .ok (.iaload, 1) := by decide +kernel
theorem dL_law_317 : decode cL_law 317 = .ok (.invokevirtual 28, 3) := by decide +kernel
theorem dL_law_320 : decode cL_law 320 = .ok (.aload_n 2, 1) := by decide +kernel
theorem dL_law_321 : decode cL_law 321 = .ok (.aload_n 0, 1) := by decide +kernel
theorem dL_law_322 : decode cL_law 322 = .ok (.iload_n 3, 1) := by decide +kernel
theorem dL_law_323 : decode cL_law 323 = .ok (.iconst 1, 1) := by decide +kernel
theorem dL_law_324 : decode cL_law 324 = .ok (.iadd, 1) := by decide +kernel
theorem dL_law_325 : decode cL_law 325 = .ok (.iaload, 1) := by decide +kernel
theorem dL_law_326 : decode cL_law 326 = .ok (.invokevirtual 31, 3) := by decide +kernel
theorem dL_law_329 : decode cL_law 329 = .ok (.if_icmp .eq 962, 3) := by decide +kernel
theorem dL_law_332 : decode cL_law 332 = .ok (.iconst 0, 1) := by decide +kernel
theorem dL_law_333 : decode cL_law 333 = .ok (.ireturn, 1) := by decide +kernel
theorem dL_law_334 : decode cL_law 334 = .ok (.aload_n 1, 1) := by decide +kernel
theorem dL_law_335 : decode cL_law 335 = .ok (.aload_n 0, 1) := by decide +kernel
theorem dL_law_336 : decode cL_law 336 = .ok (.iload_n 3, 1) := by decide +kernel
theorem dL_law_337 : decode cL_law 337 = .ok (.iconst 1, 1) := by decide +kernel
theorem dL_law_338 : decode cL_law 338 = .ok (.iadd, 1) := by decide +kernel
theorem dL_law_339 : decode cL_law 339 = .ok (.iaload, 1) := by decide +kernel
theorem dL_law_340 : decode cL_law 340 = .ok (.aload_n 0, 1) := by decide +kernel
theorem dL_law_341 : decode cL_law 341 = .ok (.iload_n 3, 1) := by decide +kernel
theorem dL_law_342 : decode cL_law 342 = .ok (.iconst 2, 1) := by decide +kernel
theorem dL_law_343 : decode cL_law 343 = .ok (.iadd, 1) := by decide +kernel
theorem dL_law_344 : decode cL_law 344 = .ok (.iaload, 1) := by decide +kernel
theorem dL_law_345 : decode cL_law 345 = .ok (.invokevirtual 32, 3) := by decide +kernel
theorem dL_law_348 : decode cL_law 348 = .ok (.aload_n 2, 1) := by decide +kernel
theorem dL_law_349 : decode cL_law 349 = .ok (.aload_n 0, 1) := by decide +kernel
theorem dL_law_350 : decode cL_law 350 = .ok (.iload_n 3, 1) := by decide +kernel
theorem dL_law_351 : decode cL_law 351 = .ok (.iconst 1, 1) := by decide +kernel
theorem dL_law_352 : decode cL_law 352 = .ok (.iadd, 1) := by decide +kernel
theorem dL_law_353 : decode cL_law 353 = .ok (.iaload, 1) := by decide +kernel
theorem dL_law_354 : decode cL_law 354 = .ok (.aload_n 0, 1) := by decide +kernel
theorem dL_law_355 : decode cL_law 355 = .ok (.iload_n 3, 1) := by decide +kernel
theorem dL_law_356 : decode cL_law 356 = .ok (.iconst 2, 1) := by decide +kernel
theorem dL_law_357 : decode cL_law 357 = .ok (.iadd, 1) := by decide +kernel
theorem dL_law_358 : decode cL_law 358 = .ok (.iaload, 1) := by decide +kernel
theorem dL_law_359 : decode cL_law 359 = .ok (.invokevirtual 36, 3) := by decide +kernel
theorem dL_law_362 : decode cL_law 362 = .ok (.if_icmp .eq 929, 3) := by decide +kernel
theorem dL_law_365 : decode cL_law 365 = .ok (.iconst 0, 1) := by decide +kernel
theorem dL_law_366 : decode cL_law 366 = .ok (.ireturn, 1) := by decide +kernel
theorem dL_law_367 : decode cL_law 367 = .ok (.aload_n 1, 1) := by decide +kernel
theorem dL_law_368 : decode cL_law 368 = .ok (.aload_n 0, 1) := by decide +kernel
theorem dL_law_369 : decode cL_law 369 = .ok (.iload_n 3, 1) := by decide +kernel
theorem dL_law_370 : decode cL_law 370 = .ok (.iconst 1, 1) := by decide +kernel
theorem dL_law_371 : decode cL_law 371 = .ok (.iadd, 1) := by decide +kernel
theorem dL_law_372 : decode cL_law 372 = .ok (.iaload, 1) := by decide +kernel
theorem dL_law_373 : decode cL_law 373 = .ok (.aload_n 0, 1) := by decide +kernel
theorem dL_law_374 : decode cL_law 374 = .ok (.iload_n 3, 1) := by decide +kernel
theorem dL_law_375 : decode cL_law 375 = .ok (.iconst 2, 1) := by decide +kernel
theorem dL_law_376 : decode cL_law 376 = .ok (.iadd, 1) := by decide +kernel
theorem dL_law_377 : decode cL_law 377 = .ok (.iaload, 1) := by decide +kernel
theorem dL_law_378 : decode cL_law 378 = .ok (.invokevirtual 37, 3) := by decide +kernel
theorem dL_law_381 : decode cL_law 381 = .ok (.aload_n 2, 1) := by decide +kernel
theorem dL_law_382 : decode cL_law 382 = .ok (.aload_n 0, 1) := by decide +kernel
theorem dL_law_383 : decode cL_law 383 = .ok (.iload_n 3, 1) := by decide +kernel
theorem dL_law_384 : decode cL_law 384 = .ok (.iconst 1, 1) := by decide +kernel
theorem dL_law_385 : decode cL_law 385 = .ok (.iadd, 1) := by decide +kernel
theorem dL_law_386 : decode cL_law 386 = .ok (.iaload, 1) := by decide +kernel
theorem dL_law_387 : decode cL_law 387 = .ok (.aload_n 0, 1) := by decide +kernel
theorem dL_law_388 : decode cL_law 388 = .ok (.iload_n 3, 1) := by decide +kernel
theorem dL_law_389 : decode cL_law 389 = .ok (.iconst 2, 1) := by decide +kernel
theorem dL_law_390 : decode cL_law 390 = .ok (.iadd, 1) := by decide +kernel
theorem dL_law_391 : decode cL_law 391 = .ok (.iaload, 1) := by decide +kernel
theorem dL_law_392 : decode cL_law 392 = .ok (.invokevirtual 40, 3) := by decide +kernel
theorem dL_law_395 : decode cL_law 395 = .ok (.if_icmp .eq 896, 3) := by decide +kernel
theorem dL_law_398 : decode cL_law 398 = .ok (.iconst 0, 1) := by decide +kernel
theorem dL_law_399 : decode cL_law 399 = .ok (.ireturn, 1) := by decide +kernel
theorem dL_law_400 : decode cL_law 400 = .ok (.aload_n 1, 1) := by decide +kernel
theorem dL_law_401 : decode cL_law 401 = .ok (.aload_n 0, 1) := by decide +kernel
theorem dL_law_402 : decode cL_law 402 = .ok (.iload_n 3, 1) := by decide +kernel
theorem dL_law_403 : decode cL_law 403 = .ok (.iconst 1, 1) := by decide +kernel
theorem dL_law_404 : decode cL_law 404 = .ok (.iadd, 1) := by decide +kernel
theorem dL_law_405 : decode cL_law 405 = .ok (.iaload, 1) := by decide +kernel
theorem dL_law_406 : decode cL_law 406 = .ok (.invokevirtual 41, 3) := by decide +kernel
theorem dL_law_409 : decode cL_law 409 = .ok (.aload_n 2, 1) := by decide +kernel
theorem dL_law_410 : decode cL_law 410 = .ok (.aload_n 0, 1) := by decide +kernel
theorem dL_law_411 : decode cL_law 411 = .ok (.iload_n 3, 1) := by decide +kernel
theorem dL_law_412 : decode cL_law 412 = .ok (.iconst 1, 1) := by decide +kernel
theorem dL_law_413 : decode cL_law 413 = .ok (.iadd, 1) := by decide +kernel
theorem dL_law_414 : decode cL_law 414 = .ok (.iaload, 1) := by decide +kernel
theorem dL_law_415 : decode cL_law 415 = .ok (.invokevirtual 44, 3) := by decide +kernel
theorem dL_law_418 : decode cL_law 418 = .ok (.if_icmp .eq 873, 3) := by decide +kernel
theorem dL_law_421 : decode cL_law 421 = .ok (.iconst 0, 1) := by decide +kernel
theorem dL_law_422 : decode cL_law 422 = .ok (.ireturn, 1) := by decide +kernel
theorem dL_law_423 : decode cL_law 423 = .ok (.aload_n 1, 1) := by decide +kernel
theorem dL_law_424 : decode cL_law 424 = .ok (.invokevirtual 45, 3) := by decide +kernel
theorem dL_law_427 : decode cL_law 427 = .ok (.aload_n 2, 1) := by decide +kernel
theorem dL_law_428 : decode cL_law 428 = .ok (.invokevirtual 48, 3) := by decide +kernel
theorem dL_law_431 : decode cL_law 431 = .ok (.if_icmp .eq 860, 3) := by decide +kernel
theorem dL_law_434 : decode cL_law 434 = .ok (.iconst 0, 1) := by decide +kernel
theorem dL_law_435 : decode cL_law 435 = .ok (.ireturn, 1) := by decide +kernel
theorem dL_law_436 : decode cL_law 436 = .ok (.aload_n 1, 1) := by decide +kernel
theorem dL_law_437 : decode cL_law 437 = .ok (.aload_n 0, 1) := by decide +kernel
theorem dL_law_438 : decode cL_law 438 = .ok (.iload_n 3, 1) := by decide +kernel
theorem dL_law_439 : decode cL_law 439 = .ok (.iconst 1, 1) := by decide +kernel
theorem dL_law_440 : decode cL_law 440 = .ok (.iadd, 1) := by decide +kernel
theorem dL_law_441 : decode cL_law 441 = .ok (.iaload, 1) := by decide +kernel
theorem dL_law_442 : decode cL_law 442 = .ok (.invokevirtual 49, 3) := by decide +kernel
theorem dL_law_445 : decode cL_law 445 = .ok (.aload_n 2, 1) := by decide +kernel
theorem dL_law_446 : decode cL_law 446 = .ok (.aload_n 0, 1) := by decide +kernel
theorem dL_law_447 : decode cL_law 447 = .ok (.iload_n 3, 1) := by decide +kernel
theorem dL_law_448 : decode cL_law 448 = .ok (.iconst 1, 1) := by decide +kernel
theorem dL_law_449 : decode cL_law 449 = .ok (.iadd, 1) := by decide +kernel
theorem dL_law_450 : decode cL_law 450 = .ok (.iaload, 1) := by decide +kernel
theorem dL_law_451 : decode cL_law 451 = .ok (.invokevirtual 52, 3) := by decide +kernel
theorem dL_law_454 : decode cL_law 454 = .ok (.if_icmp .eq 837, 3) := by decide +kernel
theorem dL_law_457 : decode cL_law 457 = .ok (.iconst 0, 1) := by decide +kernel
theorem dL_law_458 : decode cL_law 458 = .ok (.ireturn, 1) := by decide +kernel
theorem dL_law_459 : decode cL_law 459 = .ok (.aload_n 1, 1) := by decide +kernel
theorem dL_law_460 : decode cL_law 460 = .ok (.aload_n 0, 1) := by decide +kernel
theorem dL_law_461 : decode cL_law 461 = .ok (.iload_n 3, 1) := by decide +kernel
theorem dL_law_462 : decode cL_law 462 = .ok (.iconst 1, 1) := by decide +kernel
theorem dL_law_463 : decode cL_law 463 = .ok (.iadd, 1) := by decide +kernel
theorem dL_law_464 : decode cL_law 464 = .ok (.iaload, 1) := by decide +kernel
theorem dL_law_465 : decode cL_law 465 = .ok (.aload_n 0, 1) := by decide +kernel
theorem dL_law_466 : decode cL_law 466 = .ok (.iload_n 3, 1) := by decide +kernel
theorem dL_law_467 : decode cL_law 467 = .ok (.iconst 2, 1) := by decide +kernel
theorem dL_law_468 : decode cL_law 468 = .ok (.iadd, 1) := by decide +kernel
theorem dL_law_469 : decode cL_law 469 = .ok (.iaload, 1) := by decide +kernel
theorem dL_law_470 : decode cL_law 470 = .ok (.aload_n 0, 1) := by decide +kernel
theorem dL_law_471 : decode cL_law 471 = .ok (.iload_n 3, 1) := by decide +kernel
theorem dL_law_472 : decode cL_law 472 = .ok (.iconst 3, 1) := by decide +kernel
theorem dL_law_473 : decode cL_law 473 = .ok (.iadd, 1) := by decide +kernel
theorem dL_law_474 : decode cL_law 474 = .ok (.iaload, 1) := by decide +kernel
theorem dL_law_475 : decode cL_law 475 = .ok (.aload_n 0, 1) := by decide +kernel
theorem dL_law_476 : decode cL_law 476 = .ok (.iload_n 3, 1) := by decide +kernel
theorem dL_law_477 : decode cL_law 477 = .ok (.iconst 4, 1) := by decide +kernel
theorem dL_law_478 : decode cL_law 478 = .ok (.iadd, 1) := by decide +kernel
theorem dL_law_479 : decode cL_law 479 = .ok (.iaload, 1) := by decide +kernel
theorem dL_law_480 : decode cL_law 480 = .ok (.aload_n 0, 1) := by decide +kernel
theorem dL_law_481 : decode cL_law 481 = .ok (.iload_n 3, 1) := by decide +kernel
theorem dL_law_482 : decode cL_law 482 = .ok (.iconst 5, 1) := by decide +kernel
theorem dL_law_483 : decode cL_law 483 = .ok (.iadd, 1) := by decide +kernel
theorem dL_law_484 : decode cL_law 484 = .ok (.iaload, 1) := by decide +kernel
theorem dL_law_485 : decode cL_law 485 = .ok (.invokevirtual 53, 3) := by decide +kernel
theorem dL_law_488 : decode cL_law 488 = .ok (.aload_n 2, 1) := by decide +kernel
theorem dL_law_489 : decode cL_law 489 = .ok (.aload_n 0, 1) := by decide +kernel
theorem dL_law_490 : decode cL_law 490 = .ok (.iload_n 3, 1) := by decide +kernel
theorem dL_law_491 : decode cL_law 491 = .ok (.iconst 1, 1) := by decide +kernel
theorem dL_law_492 : decode cL_law 492 = .ok (.iadd, 1) := by decide +kernel
theorem dL_law_493 : decode cL_law 493 = .ok (.iaload, 1) := by decide +kernel
theorem dL_law_494 : decode cL_law 494 = .ok (.aload_n 0, 1) := by decide +kernel
theorem dL_law_495 : decode cL_law 495 = .ok (.iload_n 3, 1) := by decide +kernel
theorem dL_law_496 : decode cL_law 496 = .ok (.iconst 2, 1) := by decide +kernel
theorem dL_law_497 : decode cL_law 497 = .ok (.iadd, 1) := by decide +kernel
theorem dL_law_498 : decode cL_law 498 = .ok (.iaload, 1) := by decide +kernel
theorem dL_law_499 : decode cL_law 499 = .ok (.aload_n 0, 1) := by decide +kernel
theorem dL_law_500 : decode cL_law 500 = .ok (.iload_n 3, 1) := by decide +kernel
theorem dL_law_501 : decode cL_law 501 = .ok (.iconst 3, 1) := by decide +kernel
theorem dL_law_502 : decode cL_law 502 = .ok (.iadd, 1) := by decide +kernel
theorem dL_law_503 : decode cL_law 503 = .ok (.iaload, 1) := by decide +kernel
theorem dL_law_504 : decode cL_law 504 = .ok (.aload_n 0, 1) := by decide +kernel
theorem dL_law_505 : decode cL_law 505 = .ok (.iload_n 3, 1) := by decide +kernel
theorem dL_law_506 : decode cL_law 506 = .ok (.iconst 4, 1) := by decide +kernel
theorem dL_law_507 : decode cL_law 507 = .ok (.iadd, 1) := by decide +kernel
theorem dL_law_508 : decode cL_law 508 = .ok (.iaload, 1) := by decide +kernel
theorem dL_law_509 : decode cL_law 509 = .ok (.aload_n 0, 1) := by decide +kernel
theorem dL_law_510 : decode cL_law 510 = .ok (.iload_n 3, 1) := by decide +kernel
theorem dL_law_511 : decode cL_law 511 = .ok (.iconst 5, 1) := by decide +kernel
theorem dL_law_512 : decode cL_law 512 = .ok (.iadd, 1) := by decide +kernel
theorem dL_law_513 : decode cL_law 513 = .ok (.iaload, 1) := by decide +kernel
theorem dL_law_514 : decode cL_law 514 = .ok (.invokevirtual 56, 3) := by decide +kernel
theorem dL_law_517 : decode cL_law 517 = .ok (.if_icmp .eq 774, 3) := by decide +kernel
theorem dL_law_520 : decode cL_law 520 = .ok (.iconst 0, 1) := by decide +kernel
theorem dL_law_521 : decode cL_law 521 = .ok (.ireturn, 1) := by decide +kernel
theorem dL_law_522 : decode cL_law 522 = .ok (.aload_n 1, 1) := by decide +kernel
theorem dL_law_523 : decode cL_law 523 = .ok (.aload_n 0, 1) := by decide +kernel
theorem dL_law_524 : decode cL_law 524 = .ok (.iload_n 3, 1) := by decide +kernel
theorem dL_law_525 : decode cL_law 525 = .ok (.iconst 1, 1) := by decide +kernel
theorem dL_law_526 : decode cL_law 526 = .ok (.iadd, 1) := by decide +kernel
theorem dL_law_527 : decode cL_law 527 = .ok (.iaload, 1) := by decide +kernel
theorem dL_law_528 : decode cL_law 528 = .ok (.aload_n 0, 1) := by decide +kernel
theorem dL_law_529 : decode cL_law 529 = .ok (.iload_n 3, 1) := by decide +kernel
theorem dL_law_530 : decode cL_law 530 = .ok (.iconst 2, 1) := by decide +kernel
theorem dL_law_531 : decode cL_law 531 = .ok (.iadd, 1) := by decide +kernel
theorem dL_law_532 : decode cL_law 532 = .ok (.iaload, 1) := by decide +kernel
theorem dL_law_533 : decode cL_law 533 = .ok (.aload_n 0, 1) := by decide +kernel
theorem dL_law_534 : decode cL_law 534 = .ok (.iload_n 3, 1) := by decide +kernel
theorem dL_law_535 : decode cL_law 535 = .ok (.iconst 3, 1) := by decide +kernel
theorem dL_law_536 : decode cL_law 536 = .ok (.iadd, 1) := by decide +kernel
theorem dL_law_537 : decode cL_law 537 = .ok (.iaload, 1) := by decide +kernel
theorem dL_law_538 : decode cL_law 538 = .ok (.invokevirtual 57, 3) := by decide +kernel
theorem dL_law_541 : decode cL_law 541 = .ok (.aload_n 2, 1) := by decide +kernel
theorem dL_law_542 : decode cL_law 542 = .ok (.aload_n 0, 1) := by decide +kernel
theorem dL_law_543 : decode cL_law 543 = .ok (.iload_n 3, 1) := by decide +kernel
theorem dL_law_544 : decode cL_law 544 = .ok (.iconst 1, 1) := by decide +kernel
theorem dL_law_545 : decode cL_law 545 = .ok (.iadd, 1) := by decide +kernel
theorem dL_law_546 : decode cL_law 546 = .ok (.iaload, 1) := by decide +kernel
theorem dL_law_547 : decode cL_law 547 = .ok (.aload_n 0, 1) := by decide +kernel
theorem dL_law_548 : decode cL_law 548 = .ok (.iload_n 3, 1) := by decide +kernel
theorem dL_law_549 : decode cL_law 549 = .ok (.iconst 2, 1) := by decide +kernel
theorem dL_law_550 : decode cL_law 550 = .ok (.iadd, 1) := by decide +kernel
theorem dL_law_551 : decode cL_law 551 = .ok (.iaload, 1) := by decide +kernel
theorem dL_law_552 : decode cL_law 552 = .ok (.aload_n 0, 1) := by decide +kernel
theorem dL_law_553 : decode cL_law 553 = .ok (.iload_n 3, 1) := by decide +kernel
theorem dL_law_554 : decode cL_law 554 = .ok (.iconst 3, 1) := by decide +kernel
theorem dL_law_555 : decode cL_law 555 = .ok (.iadd, 1) := by decide +kernel
theorem dL_law_556 : decode cL_law 556 = .ok (.iaload, 1) := by decide +kernel
theorem dL_law_557 : decode cL_law 557 = .ok (.invokevirtual 61, 3) := by decide +kernel
theorem dL_law_560 : decode cL_law 560 = .ok (.if_icmp .eq 731, 3) := by decide +kernel
theorem dL_law_563 : decode cL_law 563 = .ok (.iconst 0, 1) := by decide +kernel
theorem dL_law_564 : decode cL_law 564 = .ok (.ireturn, 1) := by decide +kernel
theorem dL_law_565 : decode cL_law 565 = .ok (.aload_n 1, 1) := by decide +kernel
theorem dL_law_566 : decode cL_law 566 = .ok (.aload_n 0, 1) := by decide +kernel
theorem dL_law_567 : decode cL_law 567 = .ok (.iload_n 3, 1) := by decide +kernel
theorem dL_law_568 : decode cL_law 568 = .ok (.iconst 1, 1) := by decide +kernel
theorem dL_law_569 : decode cL_law 569 = .ok (.iadd, 1) := by decide +kernel
theorem dL_law_570 : decode cL_law 570 = .ok (.iaload, 1) := by decide +kernel
theorem dL_law_571 : decode cL_law 571 = .ok (.invokevirtual 62, 3) := by decide +kernel
theorem dL_law_574 : decode cL_law 574 = .ok (.aload_n 2, 1) := by decide +kernel
theorem dL_law_575 : decode cL_law 575 = .ok (.aload_n 0, 1) := by decide +kernel
theorem dL_law_576 : decode cL_law 576 = .ok (.iload_n 3, 1) := by decide +kernel
theorem dL_law_577 : decode cL_law 577 = .ok (.iconst 1, 1) := by decide +kernel
theorem dL_law_578 : decode cL_law 578 = .ok (.iadd, 1) := by decide +kernel
theorem dL_law_579 : decode cL_law 579 = .ok (.iaload, 1) := by decide +kernel
theorem dL_law_580 : decode cL_law 580 = .ok (.invokevirtual 65, 3) := by decide +kernel
theorem dL_law_583 : decode cL_law 583 = .ok (.if_icmp .eq 708, 3) := by decide +kernel
theorem dL_law_586 : decode cL_law 586 = .ok (.iconst 0, 1) := by decide +kernel
theorem dL_law_587 : decode cL_law 587 = .ok (.ireturn, 1) := by decide +kernel
theorem dL_law_588 : decode cL_law 588 = .ok (.aload_n 1, 1) := by decide +kernel
theorem dL_law_589 : decode cL_law 589 = .ok (.aload_n 0, 1) := by decide +kernel
theorem dL_law_590 : decode cL_law 590 = .ok (.iload_n 3, 1) := by decide +kernel
theorem dL_law_591 : decode cL_law 591 = .ok (.iconst 1, 1) := by decide +kernel
theorem dL_law_592 : decode cL_law 592 = .ok (.iadd, 1) := by decide +kernel
theorem dL_law_593 : decode cL_law 593 = .ok (.iaload, 1) := by decide +kernel
theorem dL_law_594 : decode cL_law 594 = .ok (.aload_n 0, 1) := by decide +kernel
theorem dL_law_595 : decode cL_law 595 = .ok (.iload_n 3, 1) := by decide +kernel
theorem dL_law_596 : decode cL_law 596 = .ok (.iconst 2, 1) := by decide +kernel
theorem dL_law_597 : decode cL_law 597 = .ok (.iadd, 1) := by decide +kernel
theorem dL_law_598 : decode cL_law 598 = .ok (.iaload, 1) := by decide +kernel
theorem dL_law_599 : decode cL_law 599 = .ok (.invokevirtual 66, 3) := by decide +kernel
theorem dL_law_602 : decode cL_law 602 = .ok (.aload_n 2, 1) := by decide +kernel
theorem dL_law_603 : decode cL_law 603 = .ok (.aload_n 0, 1) := by decide +kernel
theorem dL_law_604 : decode cL_law 604 = .ok (.iload_n 3, 1) := by decide +kernel
theorem dL_law_605 : decode cL_law 605 = .ok (.iconst 1, 1) := by decide +kernel
theorem dL_law_606 : decode cL_law 606 = .ok (.iadd, 1) := by decide +kernel
theorem dL_law_607 : decode cL_law 607 = .ok (.iaload, 1) := by decide +kernel
theorem dL_law_608 : decode cL_law 608 = .ok (.aload_n 0, 1) := by decide +kernel
theorem dL_law_609 : decode cL_law 609 = .ok (.iload_n 3, 1) := by decide +kernel
theorem dL_law_610 : decode cL_law 610 = .ok (.iconst 2, 1) := by decide +kernel
theorem dL_law_611 : decode cL_law 611 = .ok (.iadd, 1) := by decide +kernel
theorem dL_law_612 : decode cL_law 612 = .ok (.iaload, 1) := by decide +kernel
theorem dL_law_613 : decode cL_law 613 = .ok (.invokevirtual 69, 3) := by decide +kernel
theorem dL_law_616 : decode cL_law 616 = .ok (.if_icmp .eq 675, 3) := by decide +kernel
theorem dL_law_619 : decode cL_law 619 = .ok (.iconst 0, 1) := by decide +kernel
theorem dL_law_620 : decode cL_law 620 = .ok (.ireturn, 1) := by decide +kernel
theorem dL_law_621 : decode cL_law 621 = .ok (.aload_n 1, 1) := by decide +kernel
theorem dL_law_622 : decode cL_law 622 = .ok (.invokevirtual 70, 3) := by decide +kernel
theorem dL_law_625 : decode cL_law 625 = .ok (.aload_n 2, 1) := by decide +kernel
theorem dL_law_626 : decode cL_law 626 = .ok (.invokevirtual 73, 3) := by decide +kernel
theorem dL_law_629 : decode cL_law 629 = .ok (.if_icmp .eq 662, 3) := by decide +kernel
theorem dL_law_632 : decode cL_law 632 = .ok (.iconst 0, 1) := by decide +kernel
theorem dL_law_633 : decode cL_law 633 = .ok (.ireturn, 1) := by decide +kernel
theorem dL_law_634 : decode cL_law 634 = .ok (.aload_n 1, 1) := by decide +kernel
theorem dL_law_635 : decode cL_law 635 = .ok (.invokevirtual 74, 3) := by decide +kernel
theorem dL_law_638 : decode cL_law 638 = .ok (.aload_n 2, 1) := by decide +kernel
theorem dL_law_639 : decode cL_law 639 = .ok (.invokevirtual 78, 3) := by decide +kernel
theorem dL_law_642 : decode cL_law 642 = .ok (.if_icmp .eq 649, 3) := by decide +kernel
theorem dL_law_645 : decode cL_law 645 = .ok (.iconst 0, 1) := by decide +kernel
theorem dL_law_646 : decode cL_law 646 = .ok (.ireturn, 1) := by decide +kernel
theorem dL_law_647 : decode cL_law 647 = .ok (.aload_n 1, 1) := by decide +kernel
theorem dL_law_648 : decode cL_law 648 = .ok (.invokevirtual 79, 3) := by decide +kernel
theorem dL_law_651 : decode cL_law 651 = .ok (.aload_n 2, 1) := by decide +kernel
theorem dL_law_652 : decode cL_law 652 = .ok (.invokevirtual 82, 3) := by decide +kernel
theorem dL_law_655 : decode cL_law 655 = .ok (.if_icmp .eq 636, 3) := by decide +kernel
theorem dL_law_658 : decode cL_law 658 = .ok (.iconst 0, 1) := by decide +kernel
theorem dL_law_659 : decode cL_law 659 = .ok (.ireturn, 1) := by decide +kernel
theorem dL_law_660 : decode cL_law 660 = .ok (.aload_n 1, 1) := by decide +kernel
theorem dL_law_661 : decode cL_law 661 = .ok (.aload_n 0, 1) := by decide +kernel
theorem dL_law_662 : decode cL_law 662 = .ok (.iload_n 3, 1) := by decide +kernel
theorem dL_law_663 : decode cL_law 663 = .ok (.iconst 1, 1) := by decide +kernel
theorem dL_law_664 : decode cL_law 664 = .ok (.iadd, 1) := by decide +kernel
theorem dL_law_665 : decode cL_law 665 = .ok (.iaload, 1) := by decide +kernel
theorem dL_law_666 : decode cL_law 666 = .ok (.aload_n 0, 1) := by decide +kernel
theorem dL_law_667 : decode cL_law 667 = .ok (.iload_n 3, 1) := by decide +kernel
theorem dL_law_668 : decode cL_law 668 = .ok (.iconst 2, 1) := by decide +kernel
theorem dL_law_669 : decode cL_law 669 = .ok (.iadd, 1) := by decide +kernel
theorem dL_law_670 : decode cL_law 670 = .ok (.iaload, 1) := by decide +kernel
theorem dL_law_671 : decode cL_law 671 = .ok (.invokevirtual 83, 3) := by decide +kernel
theorem dL_law_674 : decode cL_law 674 = .ok (.aload_n 2, 1) := by decide +kernel
theorem dL_law_675 : decode cL_law 675 = .ok (.aload_n 0, 1) := by decide +kernel
theorem dL_law_676 : decode cL_law 676 = .ok (.iload_n 3, 1) := by decide +kernel
theorem dL_law_677 : decode cL_law 677 = .ok (.iconst 1, 1) := by decide +kernel
theorem dL_law_678 : decode cL_law 678 = .ok (.iadd, 1) := by decide +kernel
theorem dL_law_679 : decode cL_law 679 = .ok (.iaload, 1) := by decide +kernel
theorem dL_law_680 : decode cL_law 680 = .ok (.aload_n 0, 1) := by decide +kernel
theorem dL_law_681 : decode cL_law 681 = .ok (.iload_n 3, 1) := by decide +kernel
theorem dL_law_682 : decode cL_law 682 = .ok (.iconst 2, 1) := by decide +kernel
theorem dL_law_683 : decode cL_law 683 = .ok (.iadd, 1) := by decide +kernel
theorem dL_law_684 : decode cL_law 684 = .ok (.iaload, 1) := by decide +kernel
theorem dL_law_685 : decode cL_law 685 = .ok (.invokevirtual 86, 3) := by decide +kernel
theorem dL_law_688 : decode cL_law 688 = .ok (.if_icmp .eq 603, 3) := by decide +kernel
theorem dL_law_691 : decode cL_law 691 = .ok (.iconst 0, 1) := by decide +kernel
theorem dL_law_692 : decode cL_law 692 = .ok (.ireturn, 1) := by decide +kernel
theorem dL_law_693 : decode cL_law 693 = .ok (.aload_n 1, 1) := by decide +kernel
theorem dL_law_694 : decode cL_law 694 = .ok (.aload_n 0, 1) := by decide +kernel
theorem dL_law_695 : decode cL_law 695 = .ok (.iload_n 3, 1) := by decide +kernel
theorem dL_law_696 : decode cL_law 696 = .ok (.iconst 1, 1) := by decide +kernel
theorem dL_law_697 : decode cL_law 697 = .ok (.iadd, 1) := by decide +kernel
theorem dL_law_698 : decode cL_law 698 = .ok (.iaload, 1) := by decide +kernel
theorem dL_law_699 : decode cL_law 699 = .ok (.invokevirtual 87, 3) := by decide +kernel
theorem dL_law_702 : decode cL_law 702 = .ok (.aload_n 2, 1) := by decide +kernel
theorem dL_law_703 : decode cL_law 703 = .ok (.aload_n 0, 1) := by decide +kernel
theorem dL_law_704 : decode cL_law 704 = .ok (.iload_n 3, 1) := by decide +kernel
theorem dL_law_705 : decode cL_law 705 = .ok (.iconst 1, 1) := by decide +kernel
theorem dL_law_706 : decode cL_law 706 = .ok (.iadd, 1) := by decide +kernel
theorem dL_law_707 : decode cL_law 707 = .ok (.iaload, 1) := by decide +kernel
theorem dL_law_708 : decode cL_law 708 = .ok (.invokevirtual 90, 3) := by decide +kernel
theorem dL_law_711 : decode cL_law 711 = .ok (.if_icmp .eq 580, 3) := by decide +kernel
theorem dL_law_714 : decode cL_law 714 = .ok (.iconst 0, 1) := by decide +kernel
theorem dL_law_715 : decode cL_law 715 = .ok (.ireturn, 1) := by decide +kernel
theorem dL_law_716 : decode cL_law 716 = .ok (.aload_n 1, 1) := by decide +kernel
theorem dL_law_717 : decode cL_law 717 = .ok (.aload_n 0, 1) := by decide +kernel
theorem dL_law_718 : decode cL_law 718 = .ok (.iload_n 3, 1) := by decide +kernel
theorem dL_law_719 : decode cL_law 719 = .ok (.iconst 1, 1) := by decide +kernel
theorem dL_law_720 : decode cL_law 720 = .ok (.iadd, 1) := by decide +kernel
theorem dL_law_721 : decode cL_law 721 = .ok (.iaload, 1) := by decide +kernel
theorem dL_law_722 : decode cL_law 722 = .ok (.invokevirtual 91, 3) := by decide +kernel
theorem dL_law_725 : decode cL_law 725 = .ok (.aload_n 2, 1) := by decide +kernel
theorem dL_law_726 : decode cL_law 726 = .ok (.aload_n 0, 1) := by decide +kernel
theorem dL_law_727 : decode cL_law 727 = .ok (.iload_n 3, 1) := by decide +kernel
theorem dL_law_728 : decode cL_law 728 = .ok (.iconst 1, 1) := by decide +kernel
theorem dL_law_729 : decode cL_law 729 = .ok (.iadd, 1) := by decide +kernel
theorem dL_law_730 : decode cL_law 730 = .ok (.iaload, 1) := by decide +kernel
theorem dL_law_731 : decode cL_law 731 = .ok (.invokevirtual 94, 3) := by decide +kernel
theorem dL_law_734 : decode cL_law 734 = .ok (.if_icmp .eq 557, 3) := by decide +kernel
theorem dL_law_737 : decode cL_law 737 = .ok (.iconst 0, 1) := by decide +kernel
theorem dL_law_738 : decode cL_law 738 = .ok (.ireturn, 1) := by decide +kernel
theorem dL_law_739 : decode cL_law 739 = .ok (.aload_n 1, 1) := by decide +kernel
theorem dL_law_740 : decode cL_law 740 = .ok (.aload_n 0, 1) := by decide +kernel
theorem dL_law_741 : decode cL_law 741 = .ok (.iload_n 3, 1) := by decide +kernel
theorem dL_law_742 : decode cL_law 742 = .ok (.iconst 1, 1) := by decide +kernel
theorem dL_law_743 : decode cL_law 743 = .ok (.iadd, 1) := by decide +kernel
theorem dL_law_744 : decode cL_law 744 = .ok (.iaload, 1) := by decide +kernel
theorem dL_law_745 : decode cL_law 745 = .ok (.invokevirtual 95, 3) := by decide +kernel
theorem dL_law_748 : decode cL_law 748 = .ok (.aload_n 2, 1) := by decide +kernel
theorem dL_law_749 : decode cL_law 749 = .ok (.aload_n 0, 1) := by decide +kernel
theorem dL_law_750 : decode cL_law 750 = .ok (.iload_n 3, 1) := by decide +kernel
theorem dL_law_751 : decode cL_law 751 = .ok (.iconst 1, 1) := by decide +kernel
theorem dL_law_752 : decode cL_law 752 = .ok (.iadd, 1) := by decide +kernel
theorem dL_law_753 : decode cL_law 753 = .ok (.iaload, 1) := by decide +kernel
theorem dL_law_754 : decode cL_law 754 = .ok (.invokevirtual 98, 3) := by decide +kernel
theorem dL_law_757 : decode cL_law 757 = .ok (.if_icmp .eq 534, 3) := by decide +kernel
theorem dL_law_760 : decode cL_law 760 = .ok (.iconst 0, 1) := by decide +kernel
theorem dL_law_761 : decode cL_law 761 = .ok (.ireturn, 1) := by decide +kernel
theorem dL_law_762 : decode cL_law 762 = .ok (.aload_n 1, 1) := by decide +kernel
theorem dL_law_763 : decode cL_law 763 = .ok (.invokevirtual 99, 3) := by decide +kernel
theorem dL_law_766 : decode cL_law 766 = .ok (.aload_n 2, 1) := by decide +kernel
theorem dL_law_767 : decode cL_law 767 = .ok (.invokevirtual 102, 3) := by decide +kernel
theorem dL_law_770 : decode cL_law 770 = .ok (.if_icmp .eq 521, 3) := by decide +kernel
theorem dL_law_773 : decode cL_law 773 = .ok (.iconst 0, 1) := by decide +kernel
theorem dL_law_774 : decode cL_law 774 = .ok (.ireturn, 1) := by decide +kernel
theorem dL_law_775 : decode cL_law 775 = .ok (.aload_n 1, 1) := by decide +kernel
theorem dL_law_776 : decode cL_law 776 = .ok (.aload_n 0, 1) := by decide +kernel
theorem dL_law_777 : decode cL_law 777 = .ok (.iload_n 3, 1) := by decide +kernel
theorem dL_law_778 : decode cL_law 778 = .ok (.iconst 1, 1) := by decide +kernel
theorem dL_law_779 : decode cL_law 779 = .ok (.iadd, 1) := by decide +kernel
theorem dL_law_780 : decode cL_law 780 = .ok (.iaload, 1) := by decide +kernel
theorem dL_law_781 : decode cL_law 781 = .ok (.invokevirtual 103, 3) := by decide +kernel
theorem dL_law_784 : decode cL_law 784 = .ok (.aload_n 2, 1) := by decide +kernel
theorem dL_law_785 : decode cL_law 785 = .ok (.aload_n 0, 1) := by decide +kernel
theorem dL_law_786 : decode cL_law 786 = .ok (.iload_n 3, 1) := by decide +kernel
theorem dL_law_787 : decode cL_law 787 = .ok (.iconst 1, 1) := by decide +kernel
theorem dL_law_788 : decode cL_law 788 = .ok (.iadd, 1) := by decide +kernel
theorem dL_law_789 : decode cL_law 789 = .ok (.iaload, 1) := by decide +kernel
theorem dL_law_790 : decode cL_law 790 = .ok (.invokevirtual 106, 3) := by decide +kernel
theorem dL_law_793 : decode cL_law 793 = .ok (.if_icmp .eq 498, 3) := by decide +kernel
theorem dL_law_796 : decode cL_law 796 = .ok (.iconst 0, 1) := by decide +kernel
theorem dL_law_797 : decode cL_law 797 = .ok (.ireturn, 1) := by decide +kernel
theorem dL_law_798 : decode cL_law 798 = .ok (.aload_n 1, 1) := by decide +kernel
theorem dL_law_799 : decode cL_law 799 = .ok (.aload_n 0, 1) := by decide +kernel
theorem dL_law_800 : decode cL_law 800 = .ok (.iload_n 3, 1) := by decide +kernel
theorem dL_law_801 : decode cL_law 801 = .ok (.iconst 1, 1) := by decide +kernel
theorem dL_law_802 : decode cL_law 802 = .ok (.iadd, 1) := by decide +kernel
theorem dL_law_803 : decode cL_law 803 = .ok (.iaload, 1) := by decide +kernel
theorem dL_law_804 : decode cL_law 804 = .ok (.aload_n 0, 1) := by decide +kernel
theorem dL_law_805 : decode cL_law 805 = .ok (.iload_n 3, 1) := by decide +kernel
theorem dL_law_806 : decode cL_law 806 = .ok (.iconst 2, 1) := by decide +kernel
theorem dL_law_807 : decode cL_law 807 = .ok (.iadd, 1) := by decide +kernel
theorem dL_law_808 : decode cL_law 808 = .ok (.iaload, 1) := by decide +kernel
theorem dL_law_809 : decode cL_law 809 = .ok (.aload_n 0, 1) := by decide +kernel
theorem dL_law_810 : decode cL_law 810 = .ok (.iload_n 3, 1) := by decide +kernel
theorem dL_law_811 : decode cL_law 811 = .ok (.iconst 3, 1) := by decide +kernel
theorem dL_law_812 : decode cL_law 812 = .ok (.iadd, 1) := by decide +kernel
theorem dL_law_813 : decode cL_law 813 = .ok (.iaload, 1) := by decide +kernel
theorem dL_law_814 : decode cL_law 814 = .ok (.invokevirtual 107, 3) := by decide +kernel
theorem dL_law_817 : decode cL_law 817 = .ok (.aload_n 2, 1) := by decide +kernel
theorem dL_law_818 : decode cL_law 818 = .ok (.aload_n 0, 1) := by decide +kernel
theorem dL_law_819 : decode cL_law 819 = .ok (.iload_n 3, 1) := by decide +kernel
theorem dL_law_820 : decode cL_law 820 = .ok (.iconst 1, 1) := by decide +kernel
theorem dL_law_821 : decode cL_law 821 = .ok (.iadd, 1) := by decide +kernel
theorem dL_law_822 : decode cL_law 822 = .ok (.iaload, 1) := by decide +kernel
theorem dL_law_823 : decode cL_law 823 = .ok (.aload_n 0, 1) := by decide +kernel
theorem dL_law_824 : decode cL_law 824 = .ok (.iload_n 3, 1) := by decide +kernel
theorem dL_law_825 : decode cL_law 825 = .ok (.iconst 2, 1) := by decide +kernel
theorem dL_law_826 : decode cL_law 826 = .ok (.iadd, 1) := by decide +kernel
theorem dL_law_827 : decode cL_law 827 = .ok (.iaload, 1) := by decide +kernel
theorem dL_law_828 : decode cL_law 828 = .ok (.aload_n 0, 1) := by decide +kernel
theorem dL_law_829 : decode cL_law 829 = .ok (.iload_n 3, 1) := by decide +kernel
theorem dL_law_830 : decode cL_law 830 = .ok (.iconst 3, 1) := by decide +kernel
theorem dL_law_831 : decode cL_law 831 = .ok (.iadd, 1) := by decide +kernel
theorem dL_law_832 : decode cL_law 832 = .ok (.iaload, 1) := by decide +kernel
theorem dL_law_833 : decode cL_law 833 = .ok (.invokevirtual 110, 3) := by decide +kernel
theorem dL_law_836 : decode cL_law 836 = .ok (.if_icmp .eq 455, 3) := by decide +kernel
theorem dL_law_839 : decode cL_law 839 = .ok (.iconst 0, 1) := by decide +kernel
theorem dL_law_840 : decode cL_law 840 = .ok (.ireturn, 1) := by decide +kernel
theorem dL_law_841 : decode cL_law 841 = .ok (.aload_n 1, 1) := by decide +kernel
theorem dL_law_842 : decode cL_law 842 = .ok (.invokevirtual 111, 3) := by decide +kernel
theorem dL_law_845 : decode cL_law 845 = .ok (.aload_n 2, 1) := by decide +kernel
theorem dL_law_846 : decode cL_law 846 = .ok (.invokevirtual 114, 3) := by decide +kernel
theorem dL_law_849 : decode cL_law 849 = .ok (.if_icmp .eq 442, 3) := by decide +kernel
theorem dL_law_852 : decode cL_law 852 = .ok (.iconst 0, 1) := by decide +kernel
theorem dL_law_853 : decode cL_law 853 = .ok (.ireturn, 1) := by decide +kernel
theorem dL_law_854 : decode cL_law 854 = .ok (.aload_n 1, 1) := by decide +kernel
theorem dL_law_855 : decode cL_law 855 = .ok (.invokevirtual 115, 3) := by decide +kernel
theorem dL_law_858 : decode cL_law 858 = .ok (.aload_n 2, 1) := by decide +kernel
theorem dL_law_859 : decode cL_law 859 = .ok (.invokevirtual 118, 3) := by decide +kernel
theorem dL_law_862 : decode cL_law 862 = .ok (.if_icmp .eq 429, 3) := by decide +kernel
theorem dL_law_865 : decode cL_law 865 = .ok (.iconst 0, 1) := by decide +kernel
theorem dL_law_866 : decode cL_law 866 = .ok (.ireturn, 1) := by decide +kernel
theorem dL_law_867 : decode cL_law 867 = .ok (.aload_n 1, 1) := by decide +kernel
theorem dL_law_868 : decode cL_law 868 = .ok (.aload_n 0, 1) := by decide +kernel
theorem dL_law_869 : decode cL_law 869 = .ok (.iload_n 3, 1) := by decide +kernel
theorem dL_law_870 : decode cL_law 870 = .ok (.iconst 1, 1) := by decide +kernel
theorem dL_law_871 : decode cL_law 871 = .ok (.iadd, 1) := by decide +kernel
theorem dL_law_872 : decode cL_law 872 = .ok (.iaload, 1) := by decide +kernel
theorem dL_law_873 : decode cL_law 873 = .ok (.invokevirtual 119, 3) := by decide +kernel
theorem dL_law_876 : decode cL_law 876 = .ok (.aload_n 2, 1) := by decide +kernel
theorem dL_law_877 : decode cL_law 877 = .ok (.aload_n 0, 1) := by decide +kernel
theorem dL_law_878 : decode cL_law 878 = .ok (.iload_n 3, 1) := by decide +kernel
theorem dL_law_879 : decode cL_law 879 = .ok (.iconst 1, 1) := by decide +kernel
theorem dL_law_880 : decode cL_law 880 = .ok (.iadd, 1) := by decide +kernel
theorem dL_law_881 : decode cL_law 881 = .ok (.iaload, 1) := by decide +kernel
theorem dL_law_882 : decode cL_law 882 = .ok (.invokevirtual 122, 3) := by decide +kernel
theorem dL_law_885 : decode cL_law 885 = .ok (.if_icmp .eq 406, 3) := by decide +kernel
theorem dL_law_888 : decode cL_law 888 = .ok (.iconst 0, 1) := by decide +kernel
theorem dL_law_889 : decode cL_law 889 = .ok (.ireturn, 1) := by decide +kernel
theorem dL_law_890 : decode cL_law 890 = .ok (.aload_n 1, 1) := by decide +kernel
theorem dL_law_891 : decode cL_law 891 = .ok (.aload_n 0, 1) := by decide +kernel
theorem dL_law_892 : decode cL_law 892 = .ok (.iload_n 3, 1) := by decide +kernel
theorem dL_law_893 : decode cL_law 893 = .ok (.iconst 1, 1) := by decide +kernel
theorem dL_law_894 : decode cL_law 894 = .ok (.iadd, 1) := by decide +kernel
theorem dL_law_895 : decode cL_law 895 = .ok (.iaload, 1) := by decide +kernel
theorem dL_law_896 : decode cL_law 896 = .ok (.aload_n 0, 1) := by decide +kernel
theorem dL_law_897 : decode cL_law 897 = .ok (.iload_n 3, 1) := by decide +kernel
theorem dL_law_898 : decode cL_law 898 = .ok (.iconst 2, 1) := by decide +kernel
theorem dL_law_899 : decode cL_law 899 = .ok (.iadd, 1) := by decide +kernel
theorem dL_law_900 : decode cL_law 900 = .ok (.iaload, 1) := by decide +kernel
theorem dL_law_901 : decode cL_law 901 = .ok (.invokevirtual 123, 3) := by decide +kernel
theorem dL_law_904 : decode cL_law 904 = .ok (.aload_n 2, 1) := by decide +kernel
theorem dL_law_905 : decode cL_law 905 = .ok (.aload_n 0, 1) := by decide +kernel
theorem dL_law_906 : decode cL_law 906 = .ok (.iload_n 3, 1) := by decide +kernel
theorem dL_law_907 : decode cL_law 907 = .ok (.iconst 1, 1) := by decide +kernel
theorem dL_law_908 : decode cL_law 908 = .ok (.iadd, 1) := by decide +kernel
theorem dL_law_909 : decode cL_law 909 = .ok (.iaload, 1) := by decide +kernel
theorem dL_law_910 : decode cL_law 910 = .ok (.aload_n 0, 1) := by decide +kernel
theorem dL_law_911 : decode cL_law 911 = .ok (.iload_n 3, 1) := by decide +kernel
theorem dL_law_912 : decode cL_law 912 = .ok (.iconst 2, 1) := by decide +kernel
theorem dL_law_913 : decode cL_law 913 = .ok (.iadd, 1) := by decide +kernel
theorem dL_law_914 : decode cL_law 914 = .ok (.iaload, 1) := by decide +kernel
theorem dL_law_915 : decode cL_law 915 = .ok (.invokevirtual 126, 3) := by decide +kernel
theorem dL_law_918 : decode cL_law 918 = .ok (.if_icmp .eq 373, 3) := by decide +kernel
theorem dL_law_921 : decode cL_law 921 = .ok (.iconst 0, 1) := by decide +kernel
theorem dL_law_922 : decode cL_law 922 = .ok (.ireturn, 1) := by decide +kernel
theorem dL_law_923 : decode cL_law 923 = .ok (.aload_n 1, 1) := by decide +kernel
theorem dL_law_924 : decode cL_law 924 = .ok (.aload_n 0, 1) := by decide +kernel
theorem dL_law_925 : decode cL_law 925 = .ok (.iload_n 3, 1) := by decide +kernel
theorem dL_law_926 : decode cL_law 926 = .ok (.iconst 1, 1) := by decide +kernel
theorem dL_law_927 : decode cL_law 927 = .ok (.iadd, 1) := by decide +kernel
theorem dL_law_928 : decode cL_law 928 = .ok (.iaload, 1) := by decide +kernel
theorem dL_law_929 : decode cL_law 929 = .ok (.aload_n 0, 1) := by decide +kernel
theorem dL_law_930 : decode cL_law 930 = .ok (.iload_n 3, 1) := by decide +kernel
theorem dL_law_931 : decode cL_law 931 = .ok (.iconst 2, 1) := by decide +kernel
theorem dL_law_932 : decode cL_law 932 = .ok (.iadd, 1) := by decide +kernel
theorem dL_law_933 : decode cL_law 933 = .ok (.iaload, 1) := by decide +kernel
theorem dL_law_934 : decode cL_law 934 = .ok (.invokevirtual 127, 3) := by decide +kernel
theorem dL_law_937 : decode cL_law 937 = .ok (.aload_n 2, 1) := by decide +kernel
theorem dL_law_938 : decode cL_law 938 = .ok (.aload_n 0, 1) := by decide +kernel
theorem dL_law_939 : decode cL_law 939 = .ok (.iload_n 3, 1) := by decide +kernel
theorem dL_law_940 : decode cL_law 940 = .ok (.iconst 1, 1) := by decide +kernel
theorem dL_law_941 : decode cL_law 941 = .ok (.iadd, 1) := by decide +kernel
theorem dL_law_942 : decode cL_law 942 = .ok (.iaload, 1) := by decide +kernel
theorem dL_law_943 : decode cL_law 943 = .ok (.aload_n 0, 1) := by decide +kernel
theorem dL_law_944 : decode cL_law 944 = .ok (.iload_n 3, 1) := by decide +kernel
theorem dL_law_945 : decode cL_law 945 = .ok (.iconst 2, 1) := by decide +kernel
theorem dL_law_946 : decode cL_law 946 = .ok (.iadd, 1) := by decide +kernel
theorem dL_law_947 : decode cL_law 947 = .ok (.iaload, 1) := by decide +kernel
theorem dL_law_948 : decode cL_law 948 = .ok (.invokevirtual 130, 3) := by decide +kernel
theorem dL_law_951 : decode cL_law 951 = .ok (.if_icmp .eq 340, 3) := by decide +kernel
theorem dL_law_954 : decode cL_law 954 = .ok (.iconst 0, 1) := by decide +kernel
theorem dL_law_955 : decode cL_law 955 = .ok (.ireturn, 1) := by decide +kernel
theorem dL_law_956 : decode cL_law 956 = .ok (.aload_n 1, 1) := by decide +kernel
theorem dL_law_957 : decode cL_law 957 = .ok (.aload_n 0, 1) := by decide +kernel
theorem dL_law_958 : decode cL_law 958 = .ok (.iload_n 3, 1) := by decide +kernel
theorem dL_law_959 : decode cL_law 959 = .ok (.iconst 1, 1) := by decide +kernel
theorem dL_law_960 : decode cL_law 960 = .ok (.iadd, 1) := by decide +kernel
theorem dL_law_961 : decode cL_law 961 = .ok (.iaload, 1) := by decide +kernel
theorem dL_law_962 : decode cL_law 962 = .ok (.invokevirtual 131, 3) := by decide +kernel
theorem dL_law_965 : decode cL_law 965 = .ok (.aload_n 2, 1) := by decide +kernel
theorem dL_law_966 : decode cL_law 966 = .ok (.aload_n 0, 1) := by decide +kernel
theorem dL_law_967 : decode cL_law 967 = .ok (.iload_n 3, 1) := by decide +kernel
theorem dL_law_968 : decode cL_law 968 = .ok (.iconst 1, 1) := by decide +kernel
theorem dL_law_969 : decode cL_law 969 = .ok (.iadd, 1) := by decide +kernel
theorem dL_law_970 : decode cL_law 970 = .ok (.iaload, 1) := by decide +kernel
theorem dL_law_971 : decode cL_law 971 = .ok (.invokevirtual 134, 3) := by decide +kernel
theorem dL_law_974 : decode cL_law 974 = .ok (.if_icmp .eq 317, 3) := by decide +kernel
theorem dL_law_977 : decode cL_law 977 = .ok (.iconst 0, 1) := by decide +kernel
theorem dL_law_978 : decode cL_law 978 = .ok (.ireturn, 1) := by decide +kernel
theorem dL_law_979 : decode cL_law 979 = .ok (.aload_n 1, 1) := by decide +kernel
theorem dL_law_980 : decode cL_law 980 = .ok (.invokevirtual 135, 3) := by decide +kernel
theorem dL_law_983 : decode cL_law 983 = .ok (.aload_n 2, 1) := by decide +kernel
theorem dL_law_984 : decode cL_law 984 = .ok (.invokevirtual 138, 3) := by decide +kernel
theorem dL_law_987 : decode cL_law 987 = .ok (.if_icmp .eq 304, 3) := by decide +kernel
theorem dL_law_990 : decode cL_law 990 = .ok (.iconst 0, 1) := by decide +kernel
theorem dL_law_991 : decode cL_law 991 = .ok (.ireturn, 1) := by decide +kernel
theorem dL_law_992 : decode cL_law 992 = .ok (.aload_n 1, 1) := by decide +kernel
theorem dL_law_993 : decode cL_law 993 = .ok (.invokevirtual 139, 3) := by decide +kernel
theorem dL_law_996 : decode cL_law 996 = .ok (.aload_n 2, 1) := by decide +kernel
theorem dL_law_997 : decode cL_law 997 = .ok (.invokevirtual 142, 3) := by decide +kernel
theorem dL_law_1000 : decode cL_law 1000 = .ok (.if_icmp .eq 291, 3) := by decide +kernel
theorem dL_law_1003 : decode cL_law 1003 = .ok (.iconst 0, 1) := by decide +kernel
theorem dL_law_1004 : decode cL_law 1004 = .ok (.ireturn, 1) := by decide +kernel
theorem dL_law_1005 : decode cL_law 1005 = .ok (.aload_n 1, 1) := by decide +kernel
theorem dL_law_1006 : decode cL_law 1006 = .ok (.aload_n 0, 1) := by decide +kernel
theorem dL_law_1007 : decode cL_law 1007 = .ok (.iload_n 3, 1) := by decide +kernel
theorem dL_law_1008 : decode cL_law 1008 = .ok (.iconst 1, 1) := by decide +kernel
theorem dL_law_1009 : decode cL_law 1009 = .ok (.iadd, 1) := by decide +kernel
theorem dL_law_1010 : decode cL_law 1010 = .ok (.iaload, 1) := by decide +kernel
theorem dL_law_1011 : decode cL_law 1011 = .ok (.invokevirtual 143, 3) := by decide +kernel
theorem dL_law_1014 : decode cL_law 1014 = .ok (.aload_n 2, 1) := by decide +kernel
theorem dL_law_1015 : decode cL_law 1015 = .ok (.aload_n 0, 1) := by decide +kernel
theorem dL_law_1016 : decode cL_law 1016 = .ok (.iload_n 3, 1) := by decide +kernel
theorem dL_law_1017 : decode cL_law 1017 = .ok (.iconst 1, 1) := by decide +kernel
theorem dL_law_1018 : decode cL_law 1018 = .ok (.iadd, 1) := by decide +kernel
theorem dL_law_1019 : decode cL_law 1019 = .ok (.iaload, 1) := by decide +kernel
theorem dL_law_1020 : decode cL_law 1020 = .ok (.invokevirtual 146, 3) := by decide +kernel
theorem dL_law_1023 : decode cL_law 1023 = .ok (.if_icmp .eq 268, 3) := by decide +kernel
theorem dL_law_1026 : decode cL_law 1026 = .ok (.iconst 0, 1) := by decide +kernel
theorem dL_law_1027 : decode cL_law 1027 = .ok (.ireturn, 1) := by decide +kernel
theorem dL_law_1028 : decode cL_law 1028 = .ok (.aload_n 1, 1) := by decide +kernel
theorem dL_law_1029 : decode cL_law 1029 = .ok (.aload_n 0, 1) := by decide +kernel
theorem dL_law_1030 : decode cL_law 1030 = .ok (.iload_n 3, 1) := by decide +kernel
theorem dL_law_1031 : decode cL_law 1031 = .ok (.iconst 1, 1) := by decide +kernel
theorem dL_law_1032 : decode cL_law 1032 = .ok (.iadd, 1) := by decide +kernel
theorem dL_law_1033 : decode cL_law 1033 = .ok (.iaload, 1) := by decide +kernel
theorem dL_law_1034 : decode cL_law 1034 = .ok (.aload_n 0, 1) := by decide +kernel
theorem dL_law_1035 : decode cL_law 1035 = .ok (.iload_n 3, 1) := by decide +kernel
theorem dL_law_1036 : decode cL_law 1036 = .ok (.iconst 2, 1) := by decide +kernel
theorem dL_law_1037 : decode cL_law 1037 = .ok (.iadd, 1) := by decide +kernel
theorem dL_law_1038 : decode cL_law 1038 = .ok (.iaload, 1) := by decide +kernel
theorem dL_law_1039 : decode cL_law 1039 = .ok (.aload_n 0, 1) := by decide +kernel
theorem dL_law_1040 : decode cL_law 1040 = .ok (.iload_n 3, 1) := by decide +kernel
theorem dL_law_1041 : decode cL_law 1041 = .ok (.iconst 3, 1) := by decide +kernel
theorem dL_law_1042 : decode cL_law 1042 = .ok (.iadd, 1) := by decide +kernel
theorem dL_law_1043 : decode cL_law 1043 = .ok (.iaload, 1) := by decide +kernel
theorem dL_law_1044 : decode cL_law 1044 = .ok (.ifCond .eq 7, 3) := by decide +kernel
theorem dL_law_1047 : decode cL_law 1047 = .ok (.iconst 1, 1) := by decide +kernel
theorem dL_law_1048 : decode cL_law 1048 = .ok (.goto 4, 3) := by decide +kernel
theorem dL_law_1051 : decode cL_law 1051 = .ok (.iconst 0, 1) := by decide +kernel
theorem dL_law_1052 : decode cL_law 1052 = .ok (.invokevirtual 147, 3) := by decide +kernel
theorem dL_law_1055 : decode cL_law 1055 = .ok (.aload_n 2, 1) := by decide +kernel
theorem dL_law_1056 : decode cL_law 1056 = .ok (.aload_n 0, 1) := by decide +kernel
theorem dL_law_1057 : decode cL_law 1057 = .ok (.iload_n 3, 1) := by decide +kernel
theorem dL_law_1058 : decode cL_law 1058 = .ok (.iconst 1, 1) := by decide +kernel
theorem dL_law_1059 : decode cL_law 1059 = .ok (.iadd, 1) := by decide +kernel
theorem dL_law_1060 : decode cL_law 1060 = .ok (.iaload, 1) := by decide +kernel
theorem dL_law_1061 : decode cL_law 1061 = .ok (.aload_n 0, 1) := by decide +kernel
theorem dL_law_1062 : decode cL_law 1062 = .ok (.iload_n 3, 1) := by decide +kernel
theorem dL_law_1063 : decode cL_law 1063 = .ok (.iconst 2, 1) := by decide +kernel
theorem dL_law_1064 : decode cL_law 1064 = .ok (.iadd, 1) := by decide +kernel
theorem dL_law_1065 : decode cL_law 1065 = .ok (.iaload, 1) := by decide +kernel
theorem dL_law_1066 : decode cL_law 1066 = .ok (.aload_n 0, 1) := by decide +kernel
theorem dL_law_1067 : decode cL_law 1067 = .ok (.iload_n 3, 1) := by decide +kernel
theorem dL_law_1068 : decode cL_law 1068 = .ok (.iconst 3, 1) := by decide +kernel
theorem dL_law_1069 : decode cL_law 1069 = .ok (.iadd, 1) := by decide +kernel
theorem dL_law_1070 : decode cL_law 1070 = .ok (.iaload, 1) := by decide +kernel
theorem dL_law_1071 : decode cL_law 1071 = .ok (.ifCond .eq 7, 3) := by decide +kernel
theorem dL_law_1074 : decode cL_law 1074 = .ok (.iconst 1, 1) := by decide +kernel
theorem dL_law_1075 : decode cL_law 1075 = .ok (.goto 4, 3) := by decide +kernel
theorem dL_law_1078 : decode cL_law 1078 = .ok (.iconst 0, 1) := by decide +kernel
theorem dL_law_1079 : decode cL_law 1079 = .ok (.invokevirtual 151, 3) := by decide +kernel
theorem dL_law_1082 : decode cL_law 1082 = .ok (.if_icmp .eq 209, 3) := by decide +kernel
theorem dL_law_1085 : decode cL_law 1085 = .ok (.iconst 0, 1) := by decide +kernel
theorem dL_law_1086 : decode cL_law 1086 = .ok (.ireturn, 1) := by decide +kernel
theorem dL_law_1087 : decode cL_law 1087 = .ok (.aload_n 1, 1) := by decide +kernel
theorem dL_law_1088 : decode cL_law 1088 = .ok (.aload_n 0, 1) := by decide +kernel
theorem dL_law_1089 : decode cL_law 1089 = .ok (.iload_n 3, 1) := by decide +kernel
theorem dL_law_1090 : decode cL_law 1090 = .ok (.iconst 1, 1) := by decide +kernel
theorem dL_law_1091 : decode cL_law 1091 = .ok (.iadd, 1) := by decide +kernel
theorem dL_law_1092 : decode cL_law 1092 = .ok (.iaload, 1) := by decide +kernel
theorem dL_law_1093 : decode cL_law 1093 = .ok (.invokevirtual 152, 3) := by decide +kernel
theorem dL_law_1096 : decode cL_law 1096 = .ok (.aload_n 2, 1) := by decide +kernel
theorem dL_law_1097 : decode cL_law 1097 = .ok (.aload_n 0, 1) := by decide +kernel
theorem dL_law_1098 : decode cL_law 1098 = .ok (.iload_n 3, 1) := by decide +kernel
theorem dL_law_1099 : decode cL_law 1099 = .ok (.iconst 1, 1) := by decide +kernel
theorem dL_law_1100 : decode cL_law 1100 = .ok (.iadd, 1) := by decide +kernel
theorem dL_law_1101 : decode cL_law 1101 = .ok (.iaload, 1) := by decide +kernel
theorem dL_law_1102 : decode cL_law 1102 = .ok (.invokevirtual 156, 3) := by decide +kernel
theorem dL_law_1105 : decode cL_law 1105 = .ok (.if_icmp .eq 186, 3) := by decide +kernel
theorem dL_law_1108 : decode cL_law 1108 = .ok (.iconst 0, 1) := by decide +kernel
theorem dL_law_1109 : decode cL_law 1109 = .ok (.ireturn, 1) := by decide +kernel
theorem dL_law_1110 : decode cL_law 1110 = .ok (.aload_n 1, 1) := by decide +kernel
theorem dL_law_1111 : decode cL_law 1111 = .ok (.aload_n 0, 1) := by decide +kernel
theorem dL_law_1112 : decode cL_law 1112 = .ok (.iload_n 3, 1) := by decide +kernel
theorem dL_law_1113 : decode cL_law 1113 = .ok (.iconst 1, 1) := by decide +kernel
theorem dL_law_1114 : decode cL_law 1114 = .ok (.iadd, 1) := by decide +kernel
theorem dL_law_1115 : decode cL_law 1115 = .ok (.iaload, 1) := by decide +kernel
theorem dL_law_1116 : decode cL_law 1116 = .ok (.invokevirtual 157, 3) := by decide +kernel
theorem dL_law_1119 : decode cL_law 1119 = .ok (.aload_n 2, 1) := by decide +kernel
theorem dL_law_1120 : decode cL_law 1120 = .ok (.aload_n 0, 1) := by decide +kernel
theorem dL_law_1121 : decode cL_law 1121 = .ok (.iload_n 3, 1) := by decide +kernel
theorem dL_law_1122 : decode cL_law 1122 = .ok (.iconst 1, 1) := by decide +kernel
theorem dL_law_1123 : decode cL_law 1123 = .ok (.iadd, 1) := by decide +kernel
theorem dL_law_1124 : decode cL_law 1124 = .ok (.iaload, 1) := by decide +kernel
theorem dL_law_1125 : decode cL_law 1125 = .ok (.invokevirtual 160, 3) := by decide +kernel
theorem dL_law_1128 : decode cL_law 1128 = .ok (.if_icmp .eq 163, 3) := by decide +kernel
theorem dL_law_1131 : decode cL_law 1131 = .ok (.iconst 0, 1) := by decide +kernel
theorem dL_law_1132 : decode cL_law 1132 = .ok (.ireturn, 1) := by decide +kernel
theorem dL_law_1133 : decode cL_law 1133 = .ok (.aload_n 1, 1) := by decide +kernel
theorem dL_law_1134 : decode cL_law 1134 = .ok (.aload_n 0, 1) := by decide +kernel
theorem dL_law_1135 : decode cL_law 1135 = .ok (.iload_n 3, 1) := by decide +kernel
theorem dL_law_1136 : decode cL_law 1136 = .ok (.iconst 1, 1) := by decide +kernel
theorem dL_law_1137 : decode cL_law 1137 = .ok (.iadd, 1) := by decide +kernel
theorem dL_law_1138 : decode cL_law 1138 = .ok (.iaload, 1) := by decide +kernel
theorem dL_law_1139 : decode cL_law 1139 = .ok (.invokevirtual 161, 3) := by decide +kernel
theorem dL_law_1142 : decode cL_law 1142 = .ok (.aload_n 2, 1) := by decide +kernel
theorem dL_law_1143 : decode cL_law 1143 = .ok (.aload_n 0, 1) := by decide +kernel
theorem dL_law_1144 : decode cL_law 1144 = .ok (.iload_n 3, 1) := by decide +kernel
theorem dL_law_1145 : decode cL_law 1145 = .ok (.iconst 1, 1) := by decide +kernel
theorem dL_law_1146 : decode cL_law 1146 = .ok (.iadd, 1) := by decide +kernel
theorem dL_law_1147 : decode cL_law 1147 = .ok (.iaload, 1) := by decide +kernel
theorem dL_law_1148 : decode cL_law 1148 = .ok (.invokevirtual 164, 3) := by decide +kernel
theorem dL_law_1151 : decode cL_law 1151 = .ok (.if_icmp .eq 140, 3) := by decide +kernel
theorem dL_law_1154 : decode cL_law 1154 = .ok (.iconst 0, 1) := by decide +kernel
theorem dL_law_1155 : decode cL_law 1155 = .ok (.ireturn, 1) := by decide +kernel
theorem dL_law_1156 : decode cL_law 1156 = .ok (.aload_n 1, 1) := by decide +kernel
theorem dL_law_1157 : decode cL_law 1157 = .ok (.aload_n 0, 1) := by decide +kernel
theorem dL_law_1158 : decode cL_law 1158 = .ok (.iload_n 3, 1) := by decide +kernel
theorem dL_law_1159 : decode cL_law 1159 = .ok (.iconst 1, 1) := by decide +kernel
theorem dL_law_1160 : decode cL_law 1160 = .ok (.iadd, 1) := by decide +kernel
theorem dL_law_1161 : decode cL_law 1161 = .ok (.iaload, 1) := by decide +kernel
theorem dL_law_1162 : decode cL_law 1162 = .ok (.aload_n 0, 1) := by decide +kernel
theorem dL_law_1163 : decode cL_law 1163 = .ok (.iload_n 3, 1) := by decide +kernel
theorem dL_law_1164 : decode cL_law 1164 = .ok (.iconst 2, 1) := by decide +kernel
theorem dL_law_1165 : decode cL_law 1165 = .ok (.iadd, 1) := by decide +kernel
theorem dL_law_1166 : decode cL_law 1166 = .ok (.iaload, 1) := by decide +kernel
theorem dL_law_1167 : decode cL_law 1167 = .ok (.invokevirtual 165, 3) := by decide +kernel
theorem dL_law_1170 : decode cL_law 1170 = .ok (.aload_n 2, 1) := by decide +kernel
theorem dL_law_1171 : decode cL_law 1171 = .ok (.aload_n 0, 1) := by decide +kernel
theorem dL_law_1172 : decode cL_law 1172 = .ok (.iload_n 3, 1) := by decide +kernel
theorem dL_law_1173 : decode cL_law 1173 = .ok (.iconst 1, 1) := by decide +kernel
theorem dL_law_1174 : decode cL_law 1174 = .ok (.iadd, 1) := by decide +kernel
theorem dL_law_1175 : decode cL_law 1175 = .ok (.iaload, 1) := by decide +kernel
theorem dL_law_1176 : decode cL_law 1176 = .ok (.aload_n 0, 1) := by decide +kernel
theorem dL_law_1177 : decode cL_law 1177 = .ok (.iload_n 3, 1) := by decide +kernel
theorem dL_law_1178 : decode cL_law 1178 = .ok (.iconst 2, 1) := by decide +kernel
theorem dL_law_1179 : decode cL_law 1179 = .ok (.iadd, 1) := by decide +kernel
theorem dL_law_1180 : decode cL_law 1180 = .ok (.iaload, 1) := by decide +kernel
theorem dL_law_1181 : decode cL_law 1181 = .ok (.invokevirtual 168, 3) := by decide +kernel
theorem dL_law_1184 : decode cL_law 1184 = .ok (.if_icmp .eq 107, 3) := by decide +kernel
theorem dL_law_1187 : decode cL_law 1187 = .ok (.iconst 0, 1) := by decide +kernel
theorem dL_law_1188 : decode cL_law 1188 = .ok (.ireturn, 1) := by decide +kernel
theorem dL_law_1189 : decode cL_law 1189 = .ok (.aload_n 1, 1) := by decide +kernel
theorem dL_law_1190 : decode cL_law 1190 = .ok (.aload_n 0, 1) := by decide +kernel
theorem dL_law_1191 : decode cL_law 1191 = .ok (.iload_n 3, 1) := by decide +kernel
theorem dL_law_1192 : decode cL_law 1192 = .ok (.iconst 1, 1) := by decide +kernel
theorem dL_law_1193 : decode cL_law 1193 = .ok (.iadd, 1) := by decide +kernel
theorem dL_law_1194 : decode cL_law 1194 = .ok (.iaload, 1) := by decide +kernel
theorem dL_law_1195 : decode cL_law 1195 = .ok (.aload_n 0, 1) := by decide +kernel
theorem dL_law_1196 : decode cL_law 1196 = .ok (.iload_n 3, 1) := by decide +kernel
theorem dL_law_1197 : decode cL_law 1197 = .ok (.iconst 2, 1) := by decide +kernel
theorem dL_law_1198 : decode cL_law 1198 = .ok (.iadd, 1) := by decide +kernel
theorem dL_law_1199 : decode cL_law 1199 = .ok (.iaload, 1) := by decide +kernel
theorem dL_law_1200 : decode cL_law 1200 = .ok (.invokevirtual 169, 3) := by decide +kernel
theorem dL_law_1203 : decode cL_law 1203 = .ok (.aload_n 2, 1) := by decide +kernel
theorem dL_law_1204 : decode cL_law 1204 = .ok (.aload_n 0, 1) := by decide +kernel
theorem dL_law_1205 : decode cL_law 1205 = .ok (.iload_n 3, 1) := by decide +kernel
theorem dL_law_1206 : decode cL_law 1206 = .ok (.iconst 1, 1) := by decide +kernel
theorem dL_law_1207 : decode cL_law 1207 = .ok (.iadd, 1) := by decide +kernel
theorem dL_law_1208 : decode cL_law 1208 = .ok (.iaload, 1) := by decide +kernel
theorem dL_law_1209 : decode cL_law 1209 = .ok (.aload_n 0, 1) := by decide +kernel
theorem dL_law_1210 : decode cL_law 1210 = .ok (.iload_n 3, 1) := by decide +kernel
theorem dL_law_1211 : decode cL_law 1211 = .ok (.iconst 2, 1) := by decide +kernel
theorem dL_law_1212 : decode cL_law 1212 = .ok (.iadd, 1) := by decide +kernel
theorem dL_law_1213 : decode cL_law 1213 = .ok (.iaload, 1) := by decide +kernel
theorem dL_law_1214 : decode cL_law 1214 = .ok (.invokevirtual 172, 3) := by decide +kernel
theorem dL_law_1217 : decode cL_law 1217 = .ok (.if_icmp .eq 74, 3) := by decide +kernel
theorem dL_law_1220 : decode cL_law 1220 = .ok (.iconst 0, 1) := by decide +kernel
theorem dL_law_1221 : decode cL_law 1221 = .ok (.ireturn, 1) := by decide +kernel
theorem dL_law_1222 : decode cL_law 1222 = .ok (.aload_n 1, 1) := by decide +kernel
theorem dL_law_1223 : decode cL_law 1223 = .ok (.aload_n 0, 1) := by decide +kernel
theorem dL_law_1224 : decode cL_law 1224 = .ok (.iload_n 3, 1) := by decide +kernel
theorem dL_law_1225 : decode cL_law 1225 = .ok (.iconst 1, 1) := by decide +kernel
theorem dL_law_1226 : decode cL_law 1226 = .ok (.iadd, 1) := by decide +kernel
theorem dL_law_1227 : decode cL_law 1227 = .ok (.iaload, 1) := by decide +kernel
theorem dL_law_1228 : decode cL_law 1228 = .ok (.invokevirtual 173, 3) := by decide +kernel
theorem dL_law_1231 : decode cL_law 1231 = .ok (.aload_n 2, 1) := by decide +kernel
theorem dL_law_1232 : decode cL_law 1232 = .ok (.aload_n 0, 1) := by decide +kernel
theorem dL_law_1233 : decode cL_law 1233 = .ok (.iload_n 3, 1) := by decide +kernel
theorem dL_law_1234 : decode cL_law 1234 = .ok (.iconst 1, 1) := by decide +kernel
theorem dL_law_1235 : decode cL_law 1235 = .ok (.iadd, 1) := by decide +kernel
theorem dL_law_1236 : decode cL_law 1236 = .ok (.iaload, 1) := by decide +kernel
theorem dL_law_1237 : decode cL_law 1237 = .ok (.invokevirtual 176, 3) := by decide +kernel
theorem dL_law_1240 : decode cL_law 1240 = .ok (.if_icmp .eq 51, 3) := by decide +kernel
theorem dL_law_1243 : decode cL_law 1243 = .ok (.iconst 0, 1) := by decide +kernel
theorem dL_law_1244 : decode cL_law 1244 = .ok (.ireturn, 1) := by decide +kernel
theorem dL_law_1245 : decode cL_law 1245 = .ok (.aload_n 1, 1) := by decide +kernel
theorem dL_law_1246 : decode cL_law 1246 = .ok (.aload_n 0, 1) := by decide +kernel
theorem dL_law_1247 : decode cL_law 1247 = .ok (.iload_n 3, 1) := by decide +kernel
theorem dL_law_1248 : decode cL_law 1248 = .ok (.iconst 1, 1) := by decide +kernel
theorem dL_law_1249 : decode cL_law 1249 = .ok (.iadd, 1) := by decide +kernel
theorem dL_law_1250 : decode cL_law 1250 = .ok (.iaload, 1) := by decide +kernel
theorem dL_law_1251 : decode cL_law 1251 = .ok (.invokevirtual 177, 3) := by decide +kernel
theorem dL_law_1254 : decode cL_law 1254 = .ok (.aload_n 2, 1) := by decide +kernel
theorem dL_law_1255 : decode cL_law 1255 = .ok (.aload_n 0, 1) := by decide +kernel
theorem dL_law_1256 : decode cL_law 1256 = .ok (.iload_n 3, 1) := by decide +kernel
theorem dL_law_1257 : decode cL_law 1257 = .ok (.iconst 1, 1) := by decide +kernel
theorem dL_law_1258 : decode cL_law 1258 = .ok (.iadd, 1) := by decide +kernel
theorem dL_law_1259 : decode cL_law 1259 = .ok (.iaload, 1) := by decide +kernel
theorem dL_law_1260 : decode cL_law 1260 = .ok (.invokevirtual 180, 3) := by decide +kernel
theorem dL_law_1263 : decode cL_law 1263 = .ok (.if_icmp .eq 28, 3) := by decide +kernel
theorem dL_law_1266 : decode cL_law 1266 = .ok (.iconst 0, 1) := by decide +kernel
theorem dL_law_1267 : decode cL_law 1267 = .ok (.ireturn, 1) := by decide +kernel
theorem dL_law_1268 : decode cL_law 1268 = .ok (.aload_n 1, 1) := by decide +kernel
theorem dL_law_1269 : decode cL_law 1269 = .ok (.aload_n 0, 1) := by decide +kernel
theorem dL_law_1270 : decode cL_law 1270 = .ok (.iload_n 3, 1) := by decide +kernel
theorem dL_law_1271 : decode cL_law 1271 = .ok (.iconst 1, 1) := by decide +kernel
theorem dL_law_1272 : decode cL_law 1272 = .ok (.iadd, 1) := by decide +kernel
theorem dL_law_1273 : decode cL_law 1273 = .ok (.iaload, 1) := by decide +kernel
theorem dL_law_1274 : decode cL_law 1274 = .ok (.invokevirtual 181, 3) := by decide +kernel
theorem dL_law_1277 : decode cL_law 1277 = .ok (.aload_n 2, 1) := by decide +kernel
theorem dL_law_1278 : decode cL_law 1278 = .ok (.aload_n 0, 1) := by decide +kernel
theorem dL_law_1279 : decode cL_law 1279 = .ok (.iload_n 3, 1) := by decide +kernel
theorem dL_law_1280 : decode cL_law 1280 = .ok (.iconst 1, 1) := by decide +kernel
theorem dL_law_1281 : decode cL_law 1281 = .ok (.iadd, 1) := by decide +kernel
theorem dL_law_1282 : decode cL_law 1282 = .ok (.iaload, 1) := by decide +kernel
theorem dL_law_1283 : decode cL_law 1283 = .ok (.invokevirtual 184, 3) := by decide +kernel
theorem dL_law_1286 : decode cL_law 1286 = .ok (.if_icmp .eq 5, 3) := by decide +kernel
theorem dL_law_1289 : decode cL_law 1289 = .ok (.iconst 0, 1) := by decide +kernel
theorem dL_law_1290 : decode cL_law 1290 = .ok (.ireturn, 1) := by decide +kernel
theorem dL_law_1291 : decode cL_law 1291 = .ok (.iinc 3 6, 3) := by decide +kernel
theorem dL_law_1294 : decode cL_law 1294 = .ok (.goto (-1276), 3) := by decide +kernel
theorem dL_law_1297 : decode cL_law 1297 = .ok (.iconst 1, 1) := by decide +kernel
theorem dL_law_1298 : decode cL_law 1298 = .ok (.ireturn, 1) := by decide +kernel
