theorem dJ0_length_8abf5_0 : decode cJ0_length_8abf5 0 = .ok (.aload_n 0, 1) := by decide +kernel
theorem dJ0_length_8abf5_1 : decode cJ0_length_8abf5 1 = .ok (.getfield 9, 3) := by decide +kernel
theorem dJ0_length_8abf5_4 : decode cJ0_length_8abf5 4 = .ok (.arraylength, 1) := by decide +kernel
theorem dJ0_length_8abf5_5 : decode cJ0_length_8abf5 5 = .ok (.aload_n 0, 1) := by decide +kernel
theorem dJ0_length_8abf5_6 : decode cJ0_length_8abf5 6 = .ok (.invokevirtual 335, 3) := by decide +kernel
theorem dJ0_length_8abf5_9 : decode cJ0_length_8abf5 9 = .ok (.ishr, 1) := by decide +kernel
theorem dJ0_length_8abf5_10 : decode cJ0_length_8abf5 10 = .ok (.ireturn, 1) := by decide +kernel
theorem dJ0_charAt_5068e_0 : decode cJ0_charAt_5068e 0 = .ok (.aload_n 0, 1) := by decide +kernel
theorem dJ0_charAt_5068e_1 : decode cJ0_charAt_5068e 1 = .ok (.invokevirtual 492, 3) := by decide +kernel
theorem dJ0_charAt_5068e_4 : decode cJ0_charAt_5068e 4 = .ok (.ifCond .eq 12, 3) := by decide +kernel
theorem dJ0_charAt_5068e_7 : decode cJ0_charAt_5068e 7 = .ok (.aload_n 0, 1) := by decide +kernel
theorem dJ0_charAt_5068e_8 : decode cJ0_charAt_5068e 8 = .ok (.getfield 9, 3) := by decide +kernel
theorem dJ0_charAt_5068e_11 : decode cJ0_charAt_5068e 11 = .ok (.iload_n 1, 1) := by decide +kernel
theorem dJ0_charAt_5068e_12 : decode cJ0_charAt_5068e 12 = .ok (.invokestatic 495, 3) := by decide +kernel
theorem dJ0_charAt_5068e_15 : decode cJ0_charAt_5068e 15 = .ok (.ireturn, 1) := by decide +kernel
theorem dJ0_charAt_5068e_16 : decode cJ0_charAt_5068e 16 = .ok (.aload_n 0, 1) := by decide +kernel
theorem dJ0_charAt_5068e_17 : decode cJ0_charAt_5068e 17 = .ok (.getfield 9, 3) := by decide +kernel
theorem dJ0_charAt_5068e_20 : decode cJ0_charAt_5068e 20 = .ok (.iload_n 1, 1) := by decide +kernel
theorem dJ0_charAt_5068e_21 : decode cJ0_charAt_5068e 21 = .ok (.invokestatic 498, 3) := by decide +kernel
theorem dJ0_charAt_5068e_24 : decode cJ0_charAt_5068e 24 = .ok (.ireturn, 1) := by decide +kernel
theorem dJ0_coder_7d493_0 : decode cJ0_coder_7d493 0 = .ok (.getstatic 38, 3) := by decide +kernel
theorem dJ0_coder_7d493_3 : decode cJ0_coder_7d493 3 = .ok (.ifCond .eq 10, 3) := by decide +kernel
theorem dJ0_coder_7d493_6 : decode cJ0_coder_7d493 6 = .ok (.aload_n 0, 1) := by decide +kernel
theorem dJ0_coder_7d493_7 : decode cJ0_coder_7d493 7 = .ok (.getfield 15, 3) := by decide +kernel
theorem dJ0_coder_7d493_10 : decode cJ0_coder_7d493 10 = .ok (.goto 4, 3) := by decide +kernel
theorem dJ0_coder_7d493_13 : decode cJ0_coder_7d493 13 = .ok (.iconst 1, 1) := by decide +kernel
theorem dJ0_coder_7d493_14 : decode cJ0_coder_7d493 14 = .ok (.ireturn, 1) := by decide +kernel
theorem dJ0_isLatin1_aae02_0 : decode cJ0_isLatin1_aae02 0 = .ok (.getstatic 38, 3) := by decide +kernel
theorem dJ0_isLatin1_aae02_3 : decode cJ0_isLatin1_aae02 3 = .ok (.ifCond .eq 14, 3) := by decide +kernel
theorem dJ0_isLatin1_aae02_6 : decode cJ0_isLatin1_aae02 6 = .ok (.aload_n 0, 1) := by decide +kernel
theorem dJ0_isLatin1_aae02_7 : decode cJ0_isLatin1_aae02 7 = .ok (.getfield 15, 3) := by decide +kernel
theorem dJ0_isLatin1_aae02_10 : decode cJ0_isLatin1_aae02 10 = .ok (.ifCond .ne 7, 3) := by decide +kernel
theorem dJ0_isLatin1_aae02_13 : decode cJ0_isLatin1_aae02 13 = .ok (.iconst 1, 1) := by decide +kernel
theorem dJ0_isLatin1_aae02_14 : decode cJ0_isLatin1_aae02 14 = .ok (.goto 4, 3) := by decide +kernel
theorem dJ0_isLatin1_aae02_17 : decode cJ0_isLatin1_aae02 17 = .ok (.iconst 0, 1) := by decide +kernel
theorem dJ0_isLatin1_aae02_18 : decode cJ0_isLatin1_aae02 18 = .ok (.ireturn, 1) := by decide +kernel
theorem dJ0_checkIndex_df160_0 : decode cJ0_checkIndex_df160 0 = .ok (.iload_n 0, 1) := by decide +kernel
theorem dJ0_checkIndex_df160_1 : decode cJ0_checkIndex_df160 1 = .ok (.iload_n 1, 1) := by decide +kernel
theorem dJ0_checkIndex_df160_2 : decode cJ0_checkIndex_df160 2 = .ok (.getstatic 1053, 3) := by decide +kernel
theorem dJ0_checkIndex_df160_5 : decode cJ0_checkIndex_df160 5 = .ok (.invokestatic 1059, 3) := by decide +kernel
theorem dJ0_checkIndex_df160_8 : decode cJ0_checkIndex_df160 8 = .ok (.pop, 1) := by decide +kernel
theorem dJ0_checkIndex_df160_9 : decode cJ0_checkIndex_df160 9 = .ok (.return_, 1) := by decide +kernel
theorem dJ1_charAt_3b067_0 : decode cJ1_charAt_3b067 0 = .ok (.iload_n 1, 1) := by decide +kernel
theorem dJ1_charAt_3b067_1 : decode cJ1_charAt_3b067 1 = .ok (.aload_n 0, 1) := by decide +kernel
theorem dJ1_charAt_3b067_2 : decode cJ1_charAt_3b067 2 = .ok (.arraylength, 1) := by decide +kernel
theorem dJ1_charAt_3b067_3 : decode cJ1_charAt_3b067 3 = .ok (.invokestatic 9, 3) := by decide +kernel
theorem dJ1_charAt_3b067_6 : decode cJ1_charAt_3b067 6 = .ok (.aload_n 0, 1) := by decide +kernel
theorem dJ1_charAt_3b067_7 : decode cJ1_charAt_3b067 7 = .ok (.iload_n 1, 1) := by decide +kernel
theorem dJ1_charAt_3b067_8 : decode cJ1_charAt_3b067 8 = .ok (.baload, 1) := by decide +kernel
theorem dJ1_charAt_3b067_9 : decode cJ1_charAt_3b067 9 = .ok (.sipush 255, 3) := by decide +kernel
theorem dJ1_charAt_3b067_12 : decode cJ1_charAt_3b067 12 = .ok (.iand, 1) := by decide +kernel
theorem dJ1_charAt_3b067_13 : decode cJ1_charAt_3b067 13 = .ok (.i2c, 1) := by decide +kernel
theorem dJ1_charAt_3b067_14 : decode cJ1_charAt_3b067 14 = .ok (.ireturn, 1) := by decide +kernel
theorem dJ13_bitCount_95d88_0 : decode cJ13_bitCount_95d88 0 = .ok (.lload_n 0, 1) := by decide +kernel
theorem dJ13_bitCount_95d88_1 : decode cJ13_bitCount_95d88 1 = .ok (.lload_n 0, 1) := by decide +kernel
theorem dJ13_bitCount_95d88_2 : decode cJ13_bitCount_95d88 2 = .ok (.iconst 1, 1) := by decide +kernel
theorem dJ13_bitCount_95d88_3 : decode cJ13_bitCount_95d88 3 = .ok (.lushr, 1) := by decide +kernel
theorem dJ13_bitCount_95d88_4 : decode cJ13_bitCount_95d88 4 = .ok (.ldc2_w 314, 3) := by decide +kernel
theorem dJ13_bitCount_95d88_7 : decode cJ13_bitCount_95d88 7 = .ok (.land, 1) := by decide +kernel
theorem dJ13_bitCount_95d88_8 : decode cJ13_bitCount_95d88 8 = .ok (.lsub, 1) := by decide +kernel
theorem dJ13_bitCount_95d88_9 : decode cJ13_bitCount_95d88 9 = .ok (.lstore_n 0, 1) := by decide +kernel
theorem dJ13_bitCount_95d88_10 : decode cJ13_bitCount_95d88 10 = .ok (.lload_n 0, 1) := by decide +kernel
theorem dJ13_bitCount_95d88_11 : decode cJ13_bitCount_95d88 11 = .ok (.ldc2_w 316, 3) := by decide +kernel
theorem dJ13_bitCount_95d88_14 : decode cJ13_bitCount_95d88 14 = .ok (.land, 1) := by decide +kernel
theorem dJ13_bitCount_95d88_15 : decode cJ13_bitCount_95d88 15 = .ok (.lload_n 0, 1) := by decide +kernel
theorem dJ13_bitCount_95d88_16 : decode cJ13_bitCount_95d88 16 = .ok (.iconst 2, 1) := by decide +kernel
theorem dJ13_bitCount_95d88_17 : decode cJ13_bitCount_95d88 17 = .ok (.lushr, 1) := by decide +kernel
theorem dJ13_bitCount_95d88_18 : decode cJ13_bitCount_95d88 18 = .ok (.ldc2_w 316, 3) := by decide +kernel
theorem dJ13_bitCount_95d88_21 : decode cJ13_bitCount_95d88 21 = .ok (.land, 1) := by decide +kernel
theorem dJ13_bitCount_95d88_22 : decode cJ13_bitCount_95d88 22 = .ok (.ladd, 1) := by decide +kernel
theorem dJ13_bitCount_95d88_23 : decode cJ13_bitCount_95d88 23 = .ok (.lstore_n 0, 1) := by decide +kernel
theorem dJ13_bitCount_95d88_24 : decode cJ13_bitCount_95d88 24 = .ok (.lload_n 0, 1) := by decide +kernel
theorem dJ13_bitCount_95d88_25 : decode cJ13_bitCount_95d88 25 = .ok (.lload_n 0, 1) := by decide +kernel
theorem dJ13_bitCount_95d88_26 : decode cJ13_bitCount_95d88 26 = .ok (.iconst 4, 1) := by decide +kernel
theorem dJ13_bitCount_95d88_27 : decode cJ13_bitCount_95d88 27 = .ok (.lushr, 1) := by decide +kernel
theorem dJ13_bitCount_95d88_28 : decode cJ13_bitCount_95d88 28 = .ok (.ladd, 1) := by decide +kernel
theorem dJ13_bitCount_95d88_29 : decode cJ13_bitCount_95d88 29 = .ok (.ldc2_w 318, 3) := by decide +kernel
theorem dJ13_bitCount_95d88_32 : decode cJ13_bitCount_95d88 32 = .ok (.land, 1) := by decide +kernel
theorem dJ13_bitCount_95d88_33 : decode cJ13_bitCount_95d88 33 = .ok (.lstore_n 0, 1) := by decide +kernel
theorem dJ13_bitCount_95d88_34 : decode cJ13_bitCount_95d88 34 = .ok (.lload_n 0, 1) := by decide +kernel
theorem dJ13_bitCount_95d88_35 : decode cJ13_bitCount_95d88 35 = .ok (.lload_n 0, 1) := by decide +kernel
theorem dJ13_bitCount_95d88_36 : decode cJ13_bitCount_95d88 36 = .ok (.bipush 8, 2) := by decide +kernel
theorem dJ13_bitCount_95d88_38 : decode cJ13_bitCount_95d88 38 = .ok (.lushr, 1) := by decide +kernel
theorem dJ13_bitCount_95d88_39 : decode cJ13_bitCount_95d88 39 = .ok (.ladd, 1) := by decide +kernel
theorem dJ13_bitCount_95d88_40 : decode cJ13_bitCount_95d88 40 = .ok (.lstore_n 0, 1) := by decide +kernel
theorem dJ13_bitCount_95d88_41 : decode cJ13_bitCount_95d88 41 = .ok (.lload_n 0, 1) := by decide +kernel
theorem dJ13_bitCount_95d88_42 : decode cJ13_bitCount_95d88 42 = .ok (.lload_n 0, 1) := by decide +kernel
theorem dJ13_bitCount_95d88_43 : decode cJ13_bitCount_95d88 43 = .ok (.bipush 16, 2) := by decide +kernel
theorem dJ13_bitCount_95d88_45 : decode cJ13_bitCount_95d88 45 = .ok (.lushr, 1) := by decide +kernel
theorem dJ13_bitCount_95d88_46 : decode cJ13_bitCount_95d88 46 = .ok (.ladd, 1) := by decide +kernel
theorem dJ13_bitCount_95d88_47 : decode cJ13_bitCount_95d88 47 = .ok (.lstore_n 0, 1) := by decide +kernel
theorem dJ13_bitCount_95d88_48 : decode cJ13_bitCount_95d88 48 = .ok (.lload_n 0, 1) := by decide +kernel
theorem dJ13_bitCount_95d88_49 : decode cJ13_bitCount_95d88 49 = .ok (.lload_n 0, 1) := by decide +kernel
theorem dJ13_bitCount_95d88_50 : decode cJ13_bitCount_95d88 50 = .ok (.bipush 32, 2) := by decide +kernel
theorem dJ13_bitCount_95d88_52 : decode cJ13_bitCount_95d88 52 = .ok (.lushr, 1) := by decide +kernel
theorem dJ13_bitCount_95d88_53 : decode cJ13_bitCount_95d88 53 = .ok (.ladd, 1) := by decide +kernel
theorem dJ13_bitCount_95d88_54 : decode cJ13_bitCount_95d88 54 = .ok (.lstore_n 0, 1) := by decide +kernel
theorem dJ13_bitCount_95d88_55 : decode cJ13_bitCount_95d88 55 = .ok (.lload_n 0, 1) := by decide +kernel
theorem dJ13_bitCount_95d88_56 : decode cJ13_bitCount_95d88 56 = .ok (.l2i, 1) := by decide +kernel
theorem dJ13_bitCount_95d88_57 : decode cJ13_bitCount_95d88 57 = .ok (.bipush 127, 2) := by decide +kernel
theorem dJ13_bitCount_95d88_59 : decode cJ13_bitCount_95d88 59 = .ok (.iand, 1) := by decide +kernel
theorem dJ13_bitCount_95d88_60 : decode cJ13_bitCount_95d88 60 = .ok (.ireturn, 1) := by decide +kernel
theorem dJ2_getChar_3b067_0 : decode cJ2_getChar_3b067 0 = .ok (.getstatic 44, 3) := by decide +kernel
theorem dJ2_getChar_3b067_3 : decode cJ2_getChar_3b067 3 = .ok (.ifCond .ne 25, 3) := by decide +kernel
theorem dJ2_getChar_3b067_6 : decode cJ2_getChar_3b067 6 = .ok (.iload_n 1, 1) := by decide +kernel
theorem dJ2_getChar_3b067_7 : decode cJ2_getChar_3b067 7 = .ok (.ifCond .lt 11, 3) := by decide +kernel
theorem dJ2_getChar_3b067_10 : decode cJ2_getChar_3b067 10 = .ok (.iload_n 1, 1) := by decide +kernel
theorem dJ2_getChar_3b067_11 : decode cJ2_getChar_3b067 11 = .ok (.aload_n 0, 1) := by decide +kernel
theorem dJ2_getChar_3b067_12 : decode cJ2_getChar_3b067 12 = .ok (.invokestatic 48, 3) := by decide +kernel
theorem dJ2_getChar_3b067_15 : decode cJ2_getChar_3b067 15 = .ok (.if_icmp .lt 13, 3) := by decide +kernel
theorem dJ2_getChar_3b067_18 : decode cJ2_getChar_3b067 18 = .ok (.new 52, 3) := by decide +kernel
theorem dJ2_getChar_3b067_21 : decode cJ2_getChar_3b067 21 = .ok (.dup, 1) := by decide +kernel
theorem dJ2_getChar_3b067_22 : decode cJ2_getChar_3b067 22 = .ok (.ldc 54, 2) := by decide +kernel
theorem dJ2_getChar_3b067_24 : decode cJ2_getChar_3b067 24 = .ok (.invokespecial 56, 3) := by decide +kernel
theorem dJ2_getChar_3b067_27 : decode cJ2_getChar_3b067 27 = .ok (.athrow, 1) := by decide +kernel
theorem dJ2_getChar_3b067_28 : decode cJ2_getChar_3b067 28 = .ok (.iload_n 1, 1) := by decide +kernel
theorem dJ2_getChar_3b067_29 : decode cJ2_getChar_3b067 29 = .ok (.iconst 1, 1) := by decide +kernel
theorem dJ2_getChar_3b067_30 : decode cJ2_getChar_3b067 30 = .ok (.ishl, 1) := by decide +kernel
theorem dJ2_getChar_3b067_31 : decode cJ2_getChar_3b067 31 = .ok (.istore_n 1, 1) := by decide +kernel
theorem dJ2_getChar_3b067_32 : decode cJ2_getChar_3b067 32 = .ok (.aload_n 0, 1) := by decide +kernel
theorem dJ2_getChar_3b067_33 : decode cJ2_getChar_3b067 33 = .ok (.iload_n 1, 1) := by decide +kernel
theorem dJ2_getChar_3b067_34 : decode cJ2_getChar_3b067 34 = .ok (.iinc 1 1, 3) := by decide +kernel
theorem dJ2_getChar_3b067_37 : decode cJ2_getChar_3b067 37 = .ok (.baload, 1) := by decide +kernel
theorem dJ2_getChar_3b067_38 : decode cJ2_getChar_3b067 38 = .ok (.sipush 255, 3) := by decide +kernel
theorem dJ2_getChar_3b067_41 : decode cJ2_getChar_3b067 41 = .ok (.iand, 1) := by decide +kernel
theorem dJ2_getChar_3b067_42 : decode cJ2_getChar_3b067 42 = .ok (.getstatic 59, 3) := by decide +kernel
theorem dJ2_getChar_3b067_45 : decode cJ2_getChar_3b067 45 = .ok (.ishl, 1) := by decide +kernel
theorem dJ2_getChar_3b067_46 : decode cJ2_getChar_3b067 46 = .ok (.aload_n 0, 1) := by decide +kernel
theorem dJ2_getChar_3b067_47 : decode cJ2_getChar_3b067 47 = .ok (.iload_n 1, 1) := by decide +kernel
theorem dJ2_getChar_3b067_48 : decode cJ2_getChar_3b067 48 = .ok (.baload, 1) := by decide +kernel
theorem dJ2_getChar_3b067_49 : decode cJ2_getChar_3b067 49 = .ok (.sipush 255, 3) := by decide +kernel
theorem dJ2_getChar_3b067_52 : decode cJ2_getChar_3b067 52 = .ok (.iand, 1) := by decide +kernel
theorem dJ2_getChar_3b067_53 : decode cJ2_getChar_3b067 53 = .ok (.getstatic 63, 3) := by decide +kernel
theorem dJ2_getChar_3b067_56 : decode cJ2_getChar_3b067 56 = .ok (.ishl, 1) := by decide +kernel
theorem dJ2_getChar_3b067_57 : decode cJ2_getChar_3b067 57 = .ok (.ior, 1) := by decide +kernel
theorem dJ2_getChar_3b067_58 : decode cJ2_getChar_3b067 58 = .ok (.i2c, 1) := by decide +kernel
theorem dJ2_getChar_3b067_59 : decode cJ2_getChar_3b067 59 = .ok (.ireturn, 1) := by decide +kernel
theorem dJ2_length_9d52b_0 : decode cJ2_length_9d52b 0 = .ok (.aload_n 0, 1) := by decide +kernel
theorem dJ2_length_9d52b_1 : decode cJ2_length_9d52b 1 = .ok (.arraylength, 1) := by decide +kernel
theorem dJ2_length_9d52b_2 : decode cJ2_length_9d52b 2 = .ok (.iconst 1, 1) := by decide +kernel
theorem dJ2_length_9d52b_3 : decode cJ2_length_9d52b 3 = .ok (.ishr, 1) := by decide +kernel
theorem dJ2_length_9d52b_4 : decode cJ2_length_9d52b 4 = .ok (.ireturn, 1) := by decide +kernel
theorem dJ2_charAt_3b067_0 : decode cJ2_charAt_3b067 0 = .ok (.iload_n 1, 1) := by decide +kernel
theorem dJ2_charAt_3b067_1 : decode cJ2_charAt_3b067 1 = .ok (.aload_n 0, 1) := by decide +kernel
theorem dJ2_charAt_3b067_2 : decode cJ2_charAt_3b067 2 = .ok (.invokestatic 67, 3) := by decide +kernel
theorem dJ2_charAt_3b067_5 : decode cJ2_charAt_3b067 5 = .ok (.aload_n 0, 1) := by decide +kernel
theorem dJ2_charAt_3b067_6 : decode cJ2_charAt_3b067 6 = .ok (.iload_n 1, 1) := by decide +kernel
theorem dJ2_charAt_3b067_7 : decode cJ2_charAt_3b067 7 = .ok (.invokestatic 71, 3) := by decide +kernel
theorem dJ2_charAt_3b067_10 : decode cJ2_charAt_3b067 10 = .ok (.ireturn, 1) := by decide +kernel
theorem dJ2_checkIndex_2214a_0 : decode cJ2_checkIndex_2214a 0 = .ok (.iload_n 0, 1) := by decide +kernel
theorem dJ2_checkIndex_2214a_1 : decode cJ2_checkIndex_2214a 1 = .ok (.aload_n 1, 1) := by decide +kernel
theorem dJ2_checkIndex_2214a_2 : decode cJ2_checkIndex_2214a 2 = .ok (.invokestatic 48, 3) := by decide +kernel
theorem dJ2_checkIndex_2214a_5 : decode cJ2_checkIndex_2214a 5 = .ok (.invokestatic 414, 3) := by decide +kernel
theorem dJ2_checkIndex_2214a_8 : decode cJ2_checkIndex_2214a 8 = .ok (.return_, 1) := by decide +kernel
theorem dJ3_checkIndex_8e157_0 : decode cJ3_checkIndex_8e157 0 = .ok (.iload_n 0, 1) := by decide +kernel
theorem dJ3_checkIndex_8e157_1 : decode cJ3_checkIndex_8e157 1 = .ok (.ifCond .lt 8, 3) := by decide +kernel
theorem dJ3_checkIndex_8e157_4 : decode cJ3_checkIndex_8e157 4 = .ok (.iload_n 0, 1) := by decide +kernel
theorem dJ3_checkIndex_8e157_5 : decode cJ3_checkIndex_8e157 5 = .ok (.iload_n 1, 1) := by decide +kernel
theorem dJ3_checkIndex_8e157_6 : decode cJ3_checkIndex_8e157 6 = .ok (.if_icmp .lt 10, 3) := by decide +kernel
theorem dJ3_checkIndex_8e157_9 : decode cJ3_checkIndex_8e157 9 = .ok (.aload_n 2, 1) := by decide +kernel
theorem dJ3_checkIndex_8e157_10 : decode cJ3_checkIndex_8e157 10 = .ok (.iload_n 0, 1) := by decide +kernel
theorem dJ3_checkIndex_8e157_11 : decode cJ3_checkIndex_8e157 11 = .ok (.iload_n 1, 1) := by decide +kernel
theorem dJ3_checkIndex_8e157_12 : decode cJ3_checkIndex_8e157 12 = .ok (.invokestatic 95, 3) := by decide +kernel
theorem dJ3_checkIndex_8e157_15 : decode cJ3_checkIndex_8e157 15 = .ok (.athrow, 1) := by decide +kernel
theorem dJ3_checkIndex_8e157_16 : decode cJ3_checkIndex_8e157 16 = .ok (.iload_n 0, 1) := by decide +kernel
theorem dJ3_checkIndex_8e157_17 : decode cJ3_checkIndex_8e157 17 = .ok (.ireturn, 1) := by decide +kernel
theorem dJ6_bitCount_0f7a4_0 : decode cJ6_bitCount_0f7a4 0 = .ok (.iload_n 0, 1) := by decide +kernel
theorem dJ6_bitCount_0f7a4_1 : decode cJ6_bitCount_0f7a4 1 = .ok (.iload_n 0, 1) := by decide +kernel
theorem dJ6_bitCount_0f7a4_2 : decode cJ6_bitCount_0f7a4 2 = .ok (.iconst 1, 1) := by decide +kernel
theorem dJ6_bitCount_0f7a4_3 : decode cJ6_bitCount_0f7a4 3 = .ok (.iushr, 1) := by decide +kernel
theorem dJ6_bitCount_0f7a4_4 : decode cJ6_bitCount_0f7a4 4 = .ok (.ldc_w 265, 3) := by decide +kernel
theorem dJ6_bitCount_0f7a4_7 : decode cJ6_bitCount_0f7a4 7 = .ok (.iand, 1) := by decide +kernel
theorem dJ6_bitCount_0f7a4_8 : decode cJ6_bitCount_0f7a4 8 = .ok (.isub, 1) := by decide +kernel
theorem dJ6_bitCount_0f7a4_9 : decode cJ6_bitCount_0f7a4 9 = .ok (.istore_n 0, 1) := by decide +kernel
theorem dJ6_bitCount_0f7a4_10 : decode cJ6_bitCount_0f7a4 10 = .ok (.iload_n 0, 1) := by decide +kernel
theorem dJ6_bitCount_0f7a4_11 : decode cJ6_bitCount_0f7a4 11 = .ok (.ldc_w 266, 3) := by decide +kernel
theorem dJ6_bitCount_0f7a4_14 : decode cJ6_bitCount_0f7a4 14 = .ok (.iand, 1) := by decide +kernel
theorem dJ6_bitCount_0f7a4_15 : decode cJ6_bitCount_0f7a4 15 = .ok (.iload_n 0, 1) := by decide +kernel
theorem dJ6_bitCount_0f7a4_16 : decode cJ6_bitCount_0f7a4 16 = .ok (.iconst 2, 1) := by decide +kernel
theorem dJ6_bitCount_0f7a4_17 : decode cJ6_bitCount_0f7a4 17 = .ok (.iushr, 1) := by decide +kernel
theorem dJ6_bitCount_0f7a4_18 : decode cJ6_bitCount_0f7a4 18 = .ok (.ldc_w 266, 3) := by decide +kernel
theorem dJ6_bitCount_0f7a4_21 : decode cJ6_bitCount_0f7a4 21 = .ok (.iand, 1) := by decide +kernel
theorem dJ6_bitCount_0f7a4_22 : decode cJ6_bitCount_0f7a4 22 = .ok (.iadd, 1) := by decide +kernel
theorem dJ6_bitCount_0f7a4_23 : decode cJ6_bitCount_0f7a4 23 = .ok (.istore_n 0, 1) := by decide +kernel
theorem dJ6_bitCount_0f7a4_24 : decode cJ6_bitCount_0f7a4 24 = .ok (.iload_n 0, 1) := by decide +kernel
theorem dJ6_bitCount_0f7a4_25 : decode cJ6_bitCount_0f7a4 25 = .ok (.iload_n 0, 1) := by decide +kernel
theorem dJ6_bitCount_0f7a4_26 : decode cJ6_bitCount_0f7a4 26 = .ok (.iconst 4, 1) := by decide +kernel
theorem dJ6_bitCount_0f7a4_27 : decode cJ6_bitCount_0f7a4 27 = .ok (.iushr, 1) := by decide +kernel
theorem dJ6_bitCount_0f7a4_28 : decode cJ6_bitCount_0f7a4 28 = .ok (.iadd, 1) := by decide +kernel
theorem dJ6_bitCount_0f7a4_29 : decode cJ6_bitCount_0f7a4 29 = .ok (.ldc_w 267, 3) := by decide +kernel
theorem dJ6_bitCount_0f7a4_32 : decode cJ6_bitCount_0f7a4 32 = .ok (.iand, 1) := by decide +kernel
theorem dJ6_bitCount_0f7a4_33 : decode cJ6_bitCount_0f7a4 33 = .ok (.istore_n 0, 1) := by decide +kernel
theorem dJ6_bitCount_0f7a4_34 : decode cJ6_bitCount_0f7a4 34 = .ok (.iload_n 0, 1) := by decide +kernel
theorem dJ6_bitCount_0f7a4_35 : decode cJ6_bitCount_0f7a4 35 = .ok (.iload_n 0, 1) := by decide +kernel
theorem dJ6_bitCount_0f7a4_36 : decode cJ6_bitCount_0f7a4 36 = .ok (.bipush 8, 2) := by decide +kernel
theorem dJ6_bitCount_0f7a4_38 : decode cJ6_bitCount_0f7a4 38 = .ok (.iushr, 1) := by decide +kernel
theorem dJ6_bitCount_0f7a4_39 : decode cJ6_bitCount_0f7a4 39 = .ok (.iadd, 1) := by decide +kernel
theorem dJ6_bitCount_0f7a4_40 : decode cJ6_bitCount_0f7a4 40 = .ok (.istore_n 0, 1) := by decide +kernel
theorem dJ6_bitCount_0f7a4_41 : decode cJ6_bitCount_0f7a4 41 = .ok (.iload_n 0, 1) := by decide +kernel
theorem dJ6_bitCount_0f7a4_42 : decode cJ6_bitCount_0f7a4 42 = .ok (.iload_n 0, 1) := by decide +kernel
theorem dJ6_bitCount_0f7a4_43 : decode cJ6_bitCount_0f7a4 43 = .ok (.bipush 16, 2) := by decide +kernel
theorem dJ6_bitCount_0f7a4_45 : decode cJ6_bitCount_0f7a4 45 = .ok (.iushr, 1) := by decide +kernel
theorem dJ6_bitCount_0f7a4_46 : decode cJ6_bitCount_0f7a4 46 = .ok (.iadd, 1) := by decide +kernel
theorem dJ6_bitCount_0f7a4_47 : decode cJ6_bitCount_0f7a4 47 = .ok (.istore_n 0, 1) := by decide +kernel
theorem dJ6_bitCount_0f7a4_48 : decode cJ6_bitCount_0f7a4 48 = .ok (.iload_n 0, 1) := by decide +kernel
theorem dJ6_bitCount_0f7a4_49 : decode cJ6_bitCount_0f7a4 49 = .ok (.bipush 63, 2) := by decide +kernel
theorem dJ6_bitCount_0f7a4_51 : decode cJ6_bitCount_0f7a4 51 = .ok (.iand, 1) := by decide +kernel
theorem dJ6_bitCount_0f7a4_52 : decode cJ6_bitCount_0f7a4 52 = .ok (.ireturn, 1) := by decide +kernel
theorem dJ7_rangeCheck_23922_0 : decode cJ7_rangeCheck_23922 0 = .ok (.iload_n 1, 1) := by decide +kernel
theorem dJ7_rangeCheck_23922_1 : decode cJ7_rangeCheck_23922 1 = .ok (.iload_n 2, 1) := by decide +kernel
theorem dJ7_rangeCheck_23922_2 : decode cJ7_rangeCheck_23922 2 = .ok (.if_icmp .le 44, 3) := by decide +kernel
theorem dJ7_rangeCheck_23922_5 : decode cJ7_rangeCheck_23922 5 = .ok (.new 43, 3) := by decide +kernel
theorem dJ7_rangeCheck_23922_8 : decode cJ7_rangeCheck_23922 8 = .ok (.dup, 1) := by decide +kernel
theorem dJ7_rangeCheck_23922_9 : decode cJ7_rangeCheck_23922 9 = .ok (.new 45, 3) := by decide +kernel
theorem dJ7_rangeCheck_23922_12 : decode cJ7_rangeCheck_23922 12 = .ok (.dup, 1) := by decide +kernel
theorem dJ7_rangeCheck_23922_13 : decode cJ7_rangeCheck_23922 13 = .ok (.invokespecial 47, 3) := by decide +kernel
theorem dJ7_rangeCheck_23922_16 : decode cJ7_rangeCheck_23922 16 = .ok (.ldc 48, 2) := by decide +kernel
theorem dJ7_rangeCheck_23922_18 : decode cJ7_rangeCheck_23922 18 = .ok (.invokevirtual 50, 3) := by decide +kernel
theorem dJ7_rangeCheck_23922_21 : decode cJ7_rangeCheck_23922 21 = .ok (.iload_n 1, 1) := by decide +kernel
theorem dJ7_rangeCheck_23922_22 : decode cJ7_rangeCheck_23922 22 = .ok (.invokevirtual 54, 3) := by decide +kernel
theorem dJ7_rangeCheck_23922_25 : decode cJ7_rangeCheck_23922 25 = .ok (.ldc 57, 2) := by decide +kernel
theorem dJ7_rangeCheck_23922_27 : decode cJ7_rangeCheck_23922 27 = .ok (.invokevirtual 50, 3) := by decide +kernel
theorem dJ7_rangeCheck_23922_30 : decode cJ7_rangeCheck_23922 30 = .ok (.iload_n 2, 1) := by decide +kernel
theorem dJ7_rangeCheck_23922_31 : decode cJ7_rangeCheck_23922 31 = .ok (.invokevirtual 54, 3) := by decide +kernel
theorem dJ7_rangeCheck_23922_34 : decode cJ7_rangeCheck_23922 34 = .ok (.ldc 59, 2) := by decide +kernel
theorem dJ7_rangeCheck_23922_36 : decode cJ7_rangeCheck_23922 36 = .ok (.invokevirtual 50, 3) := by decide +kernel
theorem dJ7_rangeCheck_23922_39 : decode cJ7_rangeCheck_23922 39 = .ok (.invokevirtual 61, 3) := by decide +kernel
theorem dJ7_rangeCheck_23922_42 : decode cJ7_rangeCheck_23922 42 = .ok (.invokespecial 65, 3) := by decide +kernel
theorem dJ7_rangeCheck_23922_45 : decode cJ7_rangeCheck_23922 45 = .ok (.athrow, 1) := by decide +kernel
theorem dJ7_rangeCheck_23922_46 : decode cJ7_rangeCheck_23922 46 = .ok (.iload_n 1, 1) := by decide +kernel
theorem dJ7_rangeCheck_23922_47 : decode cJ7_rangeCheck_23922 47 = .ok (.ifCond .ge 12, 3) := by decide +kernel
theorem dJ7_rangeCheck_23922_50 : decode cJ7_rangeCheck_23922 50 = .ok (.new 68, 3) := by decide +kernel
theorem dJ7_rangeCheck_23922_53 : decode cJ7_rangeCheck_23922 53 = .ok (.dup, 1) := by decide +kernel
theorem dJ7_rangeCheck_23922_54 : decode cJ7_rangeCheck_23922 54 = .ok (.iload_n 1, 1) := by decide +kernel
theorem dJ7_rangeCheck_23922_55 : decode cJ7_rangeCheck_23922 55 = .ok (.invokespecial 70, 3) := by decide +kernel
theorem dJ7_rangeCheck_23922_58 : decode cJ7_rangeCheck_23922 58 = .ok (.athrow, 1) := by decide +kernel
theorem dJ7_rangeCheck_23922_59 : decode cJ7_rangeCheck_23922 59 = .ok (.iload_n 2, 1) := by decide +kernel
theorem dJ7_rangeCheck_23922_60 : decode cJ7_rangeCheck_23922 60 = .ok (.iload_n 0, 1) := by decide +kernel
theorem dJ7_rangeCheck_23922_61 : decode cJ7_rangeCheck_23922 61 = .ok (.if_icmp .le 12, 3) := by decide +kernel
theorem dJ7_rangeCheck_23922_64 : decode cJ7_rangeCheck_23922 64 = .ok (.new 68, 3) := by decide +kernel
theorem dJ7_rangeCheck_23922_67 : decode cJ7_rangeCheck_23922 67 = .ok (.dup, 1) := by decide +kernel
theorem dJ7_rangeCheck_23922_68 : decode cJ7_rangeCheck_23922 68 = .ok (.iload_n 2, 1) := by decide +kernel
theorem dJ7_rangeCheck_23922_69 : decode cJ7_rangeCheck_23922 69 = .ok (.invokespecial 70, 3) := by decide +kernel
theorem dJ7_rangeCheck_23922_72 : decode cJ7_rangeCheck_23922 72 = .ok (.athrow, 1) := by decide +kernel
theorem dJ7_rangeCheck_23922_73 : decode cJ7_rangeCheck_23922 73 = .ok (.return_, 1) := by decide +kernel
theorem dJ7_fill_bad5a_0 : decode cJ7_fill_bad5a 0 = .ok (.aload_n 0, 1) := by decide +kernel
theorem dJ7_fill_bad5a_1 : decode cJ7_fill_bad5a 1 = .ok (.arraylength, 1) := by decide +kernel
theorem dJ7_fill_bad5a_2 : decode cJ7_fill_bad5a 2 = .ok (.iload_n 1, 1) := by decide +kernel
theorem dJ7_fill_bad5a_3 : decode cJ7_fill_bad5a 3 = .ok (.iload_n 2, 1) := by decide +kernel
theorem dJ7_fill_bad5a_4 : decode cJ7_fill_bad5a 4 = .ok (.invokestatic 13, 3) := by decide +kernel
theorem dJ7_fill_bad5a_7 : decode cJ7_fill_bad5a 7 = .ok (.iload_n 1, 1) := by decide +kernel
theorem dJ7_fill_bad5a_8 : decode cJ7_fill_bad5a 8 = .ok (.istore 5, 2) := by decide +kernel
theorem dJ7_fill_bad5a_10 : decode cJ7_fill_bad5a 10 = .ok (.iload 5, 2) := by decide +kernel
theorem dJ7_fill_bad5a_12 : decode cJ7_fill_bad5a 12 = .ok (.iload_n 2, 1) := by decide +kernel
theorem dJ7_fill_bad5a_13 : decode cJ7_fill_bad5a 13 = .ok (.if_icmp .ge 14, 3) := by decide +kernel
theorem dJ7_fill_bad5a_16 : decode cJ7_fill_bad5a 16 = .ok (.aload_n 0, 1) := by decide +kernel
theorem dJ7_fill_bad5a_17 : decode cJ7_fill_bad5a 17 = .ok (.iload 5, 2) := by decide +kernel
theorem dJ7_fill_bad5a_19 : decode cJ7_fill_bad5a 19 = .ok (.lload_n 3, 1) := by decide +kernel
theorem dJ7_fill_bad5a_20 : decode cJ7_fill_bad5a 20 = .ok (.lastore, 1) := by decide +kernel
theorem dJ7_fill_bad5a_21 : decode cJ7_fill_bad5a 21 = .ok (.iinc 5 1, 3) := by decide +kernel
theorem dJ7_fill_bad5a_24 : decode cJ7_fill_bad5a 24 = .ok (.goto (-14), 3) := by decide +kernel
theorem dJ7_fill_bad5a_27 : decode cJ7_fill_bad5a 27 = .ok (.return_, 1) := by decide +kernel
theorem dJ7_fill_53178_0 : decode cJ7_fill_53178 0 = .ok (.iconst 0, 1) := by decide +kernel
theorem dJ7_fill_53178_1 : decode cJ7_fill_53178 1 = .ok (.istore_n 2, 1) := by decide +kernel
theorem dJ7_fill_53178_2 : decode cJ7_fill_53178 2 = .ok (.aload_n 0, 1) := by decide +kernel
theorem dJ7_fill_53178_3 : decode cJ7_fill_53178 3 = .ok (.arraylength, 1) := by decide +kernel
theorem dJ7_fill_53178_4 : decode cJ7_fill_53178 4 = .ok (.istore_n 3, 1) := by decide +kernel
theorem dJ7_fill_53178_5 : decode cJ7_fill_53178 5 = .ok (.iload_n 2, 1) := by decide +kernel
theorem dJ7_fill_53178_6 : decode cJ7_fill_53178 6 = .ok (.iload_n 3, 1) := by decide +kernel
theorem dJ7_fill_53178_7 : decode cJ7_fill_53178 7 = .ok (.if_icmp .ge 13, 3) := by decide +kernel
theorem dJ7_fill_53178_10 : decode cJ7_fill_53178 10 = .ok (.aload_n 0, 1) := by decide +kernel
theorem dJ7_fill_53178_11 : decode cJ7_fill_53178 11 = .ok (.iload_n 2, 1) := by decide +kernel
theorem dJ7_fill_53178_12 : decode cJ7_fill_53178 12 = .ok (.iload_n 1, 1) := by decide +kernel
theorem dJ7_fill_53178_13 : decode cJ7_fill_53178 13 = .ok (.iastore, 1) := by decide +kernel
theorem dJ7_fill_53178_14 : decode cJ7_fill_53178 14 = .ok (.iinc 2 1, 3) := by decide +kernel
theorem dJ7_fill_53178_17 : decode cJ7_fill_53178 17 = .ok (.goto (-12), 3) := by decide +kernel
theorem dJ7_fill_53178_20 : decode cJ7_fill_53178 20 = .ok (.return_, 1) := by decide +kernel
theorem dJ9_max_7cf53_0 : decode cJ9_max_7cf53 0 = .ok (.iload_n 0, 1) := by decide +kernel
theorem dJ9_max_7cf53_1 : decode cJ9_max_7cf53 1 = .ok (.iload_n 1, 1) := by decide +kernel
theorem dJ9_max_7cf53_2 : decode cJ9_max_7cf53 2 = .ok (.if_icmp .lt 7, 3) := by decide +kernel
theorem dJ9_max_7cf53_5 : decode cJ9_max_7cf53 5 = .ok (.iload_n 0, 1) := by decide +kernel
theorem dJ9_max_7cf53_6 : decode cJ9_max_7cf53 6 = .ok (.goto 4, 3) := by decide +kernel
theorem dJ9_max_7cf53_9 : decode cJ9_max_7cf53 9 = .ok (.iload_n 1, 1) := by decide +kernel
theorem dJ9_max_7cf53_10 : decode cJ9_max_7cf53 10 = .ok (.ireturn, 1) := by decide +kernel
theorem dJ9_min_7cf53_0 : decode cJ9_min_7cf53 0 = .ok (.iload_n 0, 1) := by decide +kernel
theorem dJ9_min_7cf53_1 : decode cJ9_min_7cf53 1 = .ok (.iload_n 1, 1) := by decide +kernel
theorem dJ9_min_7cf53_2 : decode cJ9_min_7cf53 2 = .ok (.if_icmp .gt 7, 3) := by decide +kernel
theorem dJ9_min_7cf53_5 : decode cJ9_min_7cf53 5 = .ok (.iload_n 0, 1) := by decide +kernel
theorem dJ9_min_7cf53_6 : decode cJ9_min_7cf53 6 = .ok (.goto 4, 3) := by decide +kernel
theorem dJ9_min_7cf53_9 : decode cJ9_min_7cf53 9 = .ok (.iload_n 1, 1) := by decide +kernel
theorem dJ9_min_7cf53_10 : decode cJ9_min_7cf53 10 = .ok (.ireturn, 1) := by decide +kernel
theorem dX0_init_0 : decode cX0_init 0 = .ok (.aload_n 0, 1) := by decide +kernel
theorem dX0_init_1 : decode cX0_init 1 = .ok (.invokespecial 3, 3) := by decide +kernel
theorem dX0_init_4 : decode cX0_init 4 = .ok (.aload_n 0, 1) := by decide +kernel
theorem dX0_init_5 : decode cX0_init 5 = .ok (.bipush 8, 2) := by decide +kernel
theorem dX0_init_7 : decode cX0_init 7 = .ok (.newarray .int, 2) := by decide +kernel
theorem dX0_init_9 : decode cX0_init 9 = .ok (.putfield 9, 3) := by decide +kernel
theorem dX0_init_12 : decode cX0_init 12 = .ok (.aload_n 0, 1) := by decide +kernel
theorem dX0_init_13 : decode cX0_init 13 = .ok (.bipush 8, 2) := by decide +kernel
theorem dX0_init_15 : decode cX0_init 15 = .ok (.newarray .int, 2) := by decide +kernel
theorem dX0_init_17 : decode cX0_init 17 = .ok (.putfield 15, 3) := by decide +kernel
theorem dX0_init_20 : decode cX0_init 20 = .ok (.aload_n 0, 1) := by decide +kernel
theorem dX0_init_21 : decode cX0_init 21 = .ok (.sipush 320, 3) := by decide +kernel
theorem dX0_init_24 : decode cX0_init 24 = .ok (.newarray .long, 2) := by decide +kernel
theorem dX0_init_26 : decode cX0_init 26 = .ok (.putfield 18, 3) := by decide +kernel
theorem dX0_init_29 : decode cX0_init 29 = .ok (.aload_n 0, 1) := by decide +kernel
theorem dX0_init_30 : decode cX0_init 30 = .ok (.getfield 9, 3) := by decide +kernel
theorem dX0_init_33 : decode cX0_init 33 = .ok (.iconst (-1), 1) := by decide +kernel
theorem dX0_init_34 : decode cX0_init 34 = .ok (.invokestatic 22, 3) := by decide +kernel
theorem dX0_init_37 : decode cX0_init 37 = .ok (.return_, 1) := by decide +kernel
theorem dX0_holdingOf_0 : decode cX0_holdingOf 0 = .ok (.iload_n 1, 1) := by decide +kernel
theorem dX0_holdingOf_1 : decode cX0_holdingOf 1 = .ok (.invokestatic 28, 3) := by decide +kernel
theorem dX0_holdingOf_4 : decode cX0_holdingOf 4 = .ok (.ifCond .eq 12, 3) := by decide +kernel
theorem dX0_holdingOf_7 : decode cX0_holdingOf 7 = .ok (.aload_n 0, 1) := by decide +kernel
theorem dX0_holdingOf_8 : decode cX0_holdingOf 8 = .ok (.getfield 9, 3) := by decide +kernel
theorem dX0_holdingOf_11 : decode cX0_holdingOf 11 = .ok (.iload_n 1, 1) := by decide +kernel
theorem dX0_holdingOf_12 : decode cX0_holdingOf 12 = .ok (.iaload, 1) := by decide +kernel
theorem dX0_holdingOf_13 : decode cX0_holdingOf 13 = .ok (.goto 4, 3) := by decide +kernel
theorem dX0_holdingOf_16 : decode cX0_holdingOf 16 = .ok (.iconst (-1), 1) := by decide +kernel
theorem dX0_holdingOf_17 : decode cX0_holdingOf 17 = .ok (.ireturn, 1) := by decide +kernel
theorem dX0_isBare_0 : decode cX0_isBare 0 = .ok (.aload_n 0, 1) := by decide +kernel
theorem dX0_isBare_1 : decode cX0_isBare 1 = .ok (.iload_n 1, 1) := by decide +kernel
theorem dX0_isBare_2 : decode cX0_isBare 2 = .ok (.invokevirtual 32, 3) := by decide +kernel
theorem dX0_isBare_5 : decode cX0_isBare 5 = .ok (.iconst (-1), 1) := by decide +kernel
theorem dX0_isBare_6 : decode cX0_isBare 6 = .ok (.if_icmp .ne 7, 3) := by decide +kernel
theorem dX0_isBare_9 : decode cX0_isBare 9 = .ok (.iconst 1, 1) := by decide +kernel
theorem dX0_isBare_10 : decode cX0_isBare 10 = .ok (.goto 4, 3) := by decide +kernel
theorem dX0_isBare_13 : decode cX0_isBare 13 = .ok (.iconst 0, 1) := by decide +kernel
theorem dX0_isBare_14 : decode cX0_isBare 14 = .ok (.ireturn, 1) := by decide +kernel
theorem dX0_hasVoice_0 : decode cX0_hasVoice 0 = .ok (.aload_n 0, 1) := by decide +kernel
theorem dX0_hasVoice_1 : decode cX0_hasVoice 1 = .ok (.iload_n 1, 1) := by decide +kernel
theorem dX0_hasVoice_2 : decode cX0_hasVoice 2 = .ok (.invokevirtual 32, 3) := by decide +kernel
theorem dX0_hasVoice_5 : decode cX0_hasVoice 5 = .ok (.bipush 10, 2) := by decide +kernel
theorem dX0_hasVoice_7 : decode cX0_hasVoice 7 = .ok (.if_icmp .lt 7, 3) := by decide +kernel
theorem dX0_hasVoice_10 : decode cX0_hasVoice 10 = .ok (.iconst 1, 1) := by decide +kernel
theorem dX0_hasVoice_11 : decode cX0_hasVoice 11 = .ok (.goto 4, 3) := by decide +kernel
theorem dX0_hasVoice_14 : decode cX0_hasVoice 14 = .ok (.iconst 0, 1) := by decide +kernel
theorem dX0_hasVoice_15 : decode cX0_hasVoice 15 = .ok (.ireturn, 1) := by decide +kernel
theorem dX0_haveTwoSorts_0 : decode cX0_haveTwoSorts 0 = .ok (.aload_n 0, 1) := by decide +kernel
theorem dX0_haveTwoSorts_1 : decode cX0_haveTwoSorts 1 = .ok (.iload_n 1, 1) := by decide +kernel
theorem dX0_haveTwoSorts_2 : decode cX0_haveTwoSorts 2 = .ok (.invokevirtual 36, 3) := by decide +kernel
theorem dX0_haveTwoSorts_5 : decode cX0_haveTwoSorts 5 = .ok (.ifCond .ne 28, 3) := by decide +kernel
theorem dX0_haveTwoSorts_8 : decode cX0_haveTwoSorts 8 = .ok (.aload_n 0, 1) := by decide +kernel
theorem dX0_haveTwoSorts_9 : decode cX0_haveTwoSorts 9 = .ok (.iload_n 2, 1) := by decide +kernel
theorem dX0_haveTwoSorts_10 : decode cX0_haveTwoSorts 10 = .ok (.invokevirtual 36, 3) := by decide +kernel
theorem dX0_haveTwoSorts_13 : decode cX0_haveTwoSorts 13 = .ok (.ifCond .ne 20, 3) := by decide +kernel
theorem dX0_haveTwoSorts_16 : decode cX0_haveTwoSorts 16 = .ok (.aload_n 0, 1) := by decide +kernel
theorem dX0_haveTwoSorts_17 : decode cX0_haveTwoSorts 17 = .ok (.iload_n 1, 1) := by decide +kernel
theorem dX0_haveTwoSorts_18 : decode cX0_haveTwoSorts 18 = .ok (.invokevirtual 32, 3) := by decide +kernel
theorem dX0_haveTwoSorts_21 : decode cX0_haveTwoSorts 21 = .ok (.aload_n 0, 1) := by decide +kernel
theorem dX0_haveTwoSorts_22 : decode cX0_haveTwoSorts 22 = .ok (.iload_n 2, 1) := by decide +kernel
theorem dX0_haveTwoSorts_23 : decode cX0_haveTwoSorts 23 = .ok (.invokevirtual 32, 3) := by decide +kernel
theorem dX0_haveTwoSorts_26 : decode cX0_haveTwoSorts 26 = .ok (.if_icmp .eq 7, 3) := by decide +kernel
theorem dX0_haveTwoSorts_29 : decode cX0_haveTwoSorts 29 = .ok (.iconst 1, 1) := by decide +kernel
theorem dX0_haveTwoSorts_30 : decode cX0_haveTwoSorts 30 = .ok (.goto 4, 3) := by decide +kernel
theorem dX0_haveTwoSorts_33 : decode cX0_haveTwoSorts 33 = .ok (.iconst 0, 1) := by decide +kernel
theorem dX0_haveTwoSorts_34 : decode cX0_haveTwoSorts 34 = .ok (.ireturn, 1) := by decide +kernel
theorem dX0_hasPlaces_0 : decode cX0_hasPlaces 0 = .ok (.iload_n 1, 1) := by decide +kernel
theorem dX0_hasPlaces_1 : decode cX0_hasPlaces 1 = .ok (.invokestatic 28, 3) := by decide +kernel
theorem dX0_hasPlaces_4 : decode cX0_hasPlaces 4 = .ok (.ifCond .eq 37, 3) := by decide +kernel
theorem dX0_hasPlaces_7 : decode cX0_hasPlaces 7 = .ok (.iload_n 3, 1) := by decide +kernel
theorem dX0_hasPlaces_8 : decode cX0_hasPlaces 8 = .ok (.iconst 0, 1) := by decide +kernel
theorem dX0_hasPlaces_9 : decode cX0_hasPlaces 9 = .ok (.aload_n 0, 1) := by decide +kernel
theorem dX0_hasPlaces_10 : decode cX0_hasPlaces 10 = .ok (.getfield 15, 3) := by decide +kernel
theorem dX0_hasPlaces_13 : decode cX0_hasPlaces 13 = .ok (.iload_n 1, 1) := by decide +kernel
theorem dX0_hasPlaces_14 : decode cX0_hasPlaces 14 = .ok (.iaload, 1) := by decide +kernel
theorem dX0_hasPlaces_15 : decode cX0_hasPlaces 15 = .ok (.invokestatic 39, 3) := by decide +kernel
theorem dX0_hasPlaces_18 : decode cX0_hasPlaces 18 = .ok (.ifCond .eq 23, 3) := by decide +kernel
theorem dX0_hasPlaces_21 : decode cX0_hasPlaces 21 = .ok (.iload_n 2, 1) := by decide +kernel
theorem dX0_hasPlaces_22 : decode cX0_hasPlaces 22 = .ok (.iconst 0, 1) := by decide +kernel
theorem dX0_hasPlaces_23 : decode cX0_hasPlaces 23 = .ok (.aload_n 0, 1) := by decide +kernel
theorem dX0_hasPlaces_24 : decode cX0_hasPlaces 24 = .ok (.getfield 15, 3) := by decide +kernel
theorem dX0_hasPlaces_27 : decode cX0_hasPlaces 27 = .ok (.iload_n 1, 1) := by decide +kernel
theorem dX0_hasPlaces_28 : decode cX0_hasPlaces 28 = .ok (.iaload, 1) := by decide +kernel
theorem dX0_hasPlaces_29 : decode cX0_hasPlaces 29 = .ok (.iload_n 3, 1) := by decide +kernel
theorem dX0_hasPlaces_30 : decode cX0_hasPlaces 30 = .ok (.isub, 1) := by decide +kernel
theorem dX0_hasPlaces_31 : decode cX0_hasPlaces 31 = .ok (.invokestatic 39, 3) := by decide +kernel
theorem dX0_hasPlaces_34 : decode cX0_hasPlaces 34 = .ok (.ifCond .eq 7, 3) := by decide +kernel
theorem dX0_hasPlaces_37 : decode cX0_hasPlaces 37 = .ok (.iconst 1, 1) := by decide +kernel
theorem dX0_hasPlaces_38 : decode cX0_hasPlaces 38 = .ok (.goto 4, 3) := by decide +kernel
theorem dX0_hasPlaces_41 : decode cX0_hasPlaces 41 = .ok (.iconst 0, 1) := by decide +kernel
theorem dX0_hasPlaces_42 : decode cX0_hasPlaces 42 = .ok (.ireturn, 1) := by decide +kernel
theorem dX0_putRow_0 : decode cX0_putRow 0 = .ok (.iload_n 1, 1) := by decide +kernel
theorem dX0_putRow_1 : decode cX0_putRow 1 = .ok (.invokestatic 28, 3) := by decide +kernel
theorem dX0_putRow_4 : decode cX0_putRow 4 = .ok (.ifCond .eq 45, 3) := by decide +kernel
theorem dX0_putRow_7 : decode cX0_putRow 7 = .ok (.iload_n 3, 1) := by decide +kernel
theorem dX0_putRow_8 : decode cX0_putRow 8 = .ok (.iconst 0, 1) := by decide +kernel
theorem dX0_putRow_9 : decode cX0_putRow 9 = .ok (.bipush 40, 2) := by decide +kernel
theorem dX0_putRow_11 : decode cX0_putRow 11 = .ok (.invokestatic 39, 3) := by decide +kernel
theorem dX0_putRow_14 : decode cX0_putRow 14 = .ok (.ifCond .eq 35, 3) := by decide +kernel
theorem dX0_putRow_17 : decode cX0_putRow 17 = .ok (.aload_n 0, 1) := by decide +kernel
theorem dX0_putRow_18 : decode cX0_putRow 18 = .ok (.getfield 9, 3) := by decide +kernel
theorem dX0_putRow_21 : decode cX0_putRow 21 = .ok (.iload_n 1, 1) := by decide +kernel
theorem dX0_putRow_22 : decode cX0_putRow 22 = .ok (.iload_n 2, 1) := by decide +kernel
theorem dX0_putRow_23 : decode cX0_putRow 23 = .ok (.iastore, 1) := by decide +kernel
theorem dX0_putRow_24 : decode cX0_putRow 24 = .ok (.aload_n 0, 1) := by decide +kernel
theorem dX0_putRow_25 : decode cX0_putRow 25 = .ok (.getfield 15, 3) := by decide +kernel
theorem dX0_putRow_28 : decode cX0_putRow 28 = .ok (.iload_n 1, 1) := by decide +kernel
theorem dX0_putRow_29 : decode cX0_putRow 29 = .ok (.iload_n 3, 1) := by decide +kernel
theorem dX0_putRow_30 : decode cX0_putRow 30 = .ok (.iastore, 1) := by decide +kernel
theorem dX0_putRow_31 : decode cX0_putRow 31 = .ok (.aload_n 0, 1) := by decide +kernel
theorem dX0_putRow_32 : decode cX0_putRow 32 = .ok (.getfield 18, 3) := by decide +kernel
theorem dX0_putRow_35 : decode cX0_putRow 35 = .ok (.iload_n 1, 1) := by decide +kernel
theorem dX0_putRow_36 : decode cX0_putRow 36 = .ok (.bipush 40, 2) := by decide +kernel
theorem dX0_putRow_38 : decode cX0_putRow 38 = .ok (.imul, 1) := by decide +kernel
theorem dX0_putRow_39 : decode cX0_putRow 39 = .ok (.iload_n 1, 1) := by decide +kernel
theorem dX0_putRow_40 : decode cX0_putRow 40 = .ok (.bipush 40, 2) := by decide +kernel
theorem dX0_putRow_42 : decode cX0_putRow 42 = .ok (.imul, 1) := by decide +kernel
theorem dX0_putRow_43 : decode cX0_putRow 43 = .ok (.iload_n 3, 1) := by decide +kernel
theorem dX0_putRow_44 : decode cX0_putRow 44 = .ok (.iadd, 1) := by decide +kernel
theorem dX0_putRow_45 : decode cX0_putRow 45 = .ok (.lconst 0, 1) := by decide +kernel
theorem dX0_putRow_46 : decode cX0_putRow 46 = .ok (.invokestatic 43, 3) := by decide +kernel
theorem dX0_putRow_49 : decode cX0_putRow 49 = .ok (.return_, 1) := by decide +kernel
theorem dX0_putVoice_0 : decode cX0_putVoice 0 = .ok (.iload_n 1, 1) := by decide +kernel
theorem dX0_putVoice_1 : decode cX0_putVoice 1 = .ok (.invokestatic 28, 3) := by decide +kernel
theorem dX0_putVoice_4 : decode cX0_putVoice 4 = .ok (.ifCond .eq 29, 3) := by decide +kernel
theorem dX0_putVoice_7 : decode cX0_putVoice 7 = .ok (.aload_n 0, 1) := by decide +kernel
theorem dX0_putVoice_8 : decode cX0_putVoice 8 = .ok (.getfield 9, 3) := by decide +kernel
theorem dX0_putVoice_11 : decode cX0_putVoice 11 = .ok (.iload_n 1, 1) := by decide +kernel
theorem dX0_putVoice_12 : decode cX0_putVoice 12 = .ok (.iload_n 2, 1) := by decide +kernel
theorem dX0_putVoice_13 : decode cX0_putVoice 13 = .ok (.iconst (-1), 1) := by decide +kernel
theorem dX0_putVoice_14 : decode cX0_putVoice 14 = .ok (.if_icmp .ne 7, 3) := by decide +kernel
theorem dX0_putVoice_17 : decode cX0_putVoice 17 = .ok (.iconst (-1), 1) := by decide +kernel
theorem dX0_putVoice_18 : decode cX0_putVoice 18 = .ok (.goto 7, 3) := by decide +kernel
theorem dX0_putVoice_21 : decode cX0_putVoice 21 = .ok (.bipush 10, 2) := by decide +kernel
theorem dX0_putVoice_23 : decode cX0_putVoice 23 = .ok (.iload_n 2, 1) := by decide +kernel
theorem dX0_putVoice_24 : decode cX0_putVoice 24 = .ok (.iadd, 1) := by decide +kernel
theorem dX0_putVoice_25 : decode cX0_putVoice 25 = .ok (.iastore, 1) := by decide +kernel
theorem dX0_putVoice_26 : decode cX0_putVoice 26 = .ok (.aload_n 0, 1) := by decide +kernel
theorem dX0_putVoice_27 : decode cX0_putVoice 27 = .ok (.getfield 15, 3) := by decide +kernel
theorem dX0_putVoice_30 : decode cX0_putVoice 30 = .ok (.iload_n 1, 1) := by decide +kernel
theorem dX0_putVoice_31 : decode cX0_putVoice 31 = .ok (.iconst 0, 1) := by decide +kernel
theorem dX0_putVoice_32 : decode cX0_putVoice 32 = .ok (.iastore, 1) := by decide +kernel
theorem dX0_putVoice_33 : decode cX0_putVoice 33 = .ok (.return_, 1) := by decide +kernel
theorem dX0_putElement_0 : decode cX0_putElement 0 = .ok (.aload_n 0, 1) := by decide +kernel
theorem dX0_putElement_1 : decode cX0_putElement 1 = .ok (.iload_n 1, 1) := by decide +kernel
theorem dX0_putElement_2 : decode cX0_putElement 2 = .ok (.iload_n 2, 1) := by decide +kernel
theorem dX0_putElement_3 : decode cX0_putElement 3 = .ok (.iconst 1, 1) := by decide +kernel
theorem dX0_putElement_4 : decode cX0_putElement 4 = .ok (.invokevirtual 46, 3) := by decide +kernel
theorem dX0_putElement_7 : decode cX0_putElement 7 = .ok (.ifCond .eq 23, 3) := by decide +kernel
theorem dX0_putElement_10 : decode cX0_putElement 10 = .ok (.aload_n 0, 1) := by decide +kernel
theorem dX0_putElement_11 : decode cX0_putElement 11 = .ok (.getfield 18, 3) := by decide +kernel
theorem dX0_putElement_14 : decode cX0_putElement 14 = .ok (.iload_n 1, 1) := by decide +kernel
theorem dX0_putElement_15 : decode cX0_putElement 15 = .ok (.bipush 40, 2) := by decide +kernel
theorem dX0_putElement_17 : decode cX0_putElement 17 = .ok (.imul, 1) := by decide +kernel
theorem dX0_putElement_18 : decode cX0_putElement 18 = .ok (.iload_n 2, 1) := by decide +kernel
theorem dX0_putElement_19 : decode cX0_putElement 19 = .ok (.iadd, 1) := by decide +kernel
theorem dX0_putElement_20 : decode cX0_putElement 20 = .ok (.aload_n 0, 1) := by decide +kernel
theorem dX0_putElement_21 : decode cX0_putElement 21 = .ok (.iload_n 1, 1) := by decide +kernel
theorem dX0_putElement_22 : decode cX0_putElement 22 = .ok (.invokevirtual 32, 3) := by decide +kernel
theorem dX0_putElement_25 : decode cX0_putElement 25 = .ok (.lload_n 3, 1) := by decide +kernel
theorem dX0_putElement_26 : decode cX0_putElement 26 = .ok (.invokestatic 49, 3) := by decide +kernel
theorem dX0_putElement_29 : decode cX0_putElement 29 = .ok (.lastore, 1) := by decide +kernel
theorem dX0_putElement_30 : decode cX0_putElement 30 = .ok (.return_, 1) := by decide +kernel
theorem dX0_asKept_0 : decode cX0_asKept 0 = .ok (.iload_n 0, 1) := by decide +kernel
theorem dX0_asKept_1 : decode cX0_asKept 1 = .ok (.tableswitch 61 0 4 #[35, 40, 45, 61, 49], 35) := by decide +kernel
theorem dX0_asKept_36 : decode cX0_asKept 36 = .ok (.lload_n 1, 1) := by decide +kernel
theorem dX0_asKept_37 : decode cX0_asKept 37 = .ok (.l2i, 1) := by decide +kernel
theorem dX0_asKept_38 : decode cX0_asKept 38 = .ok (.i2b, 1) := by decide +kernel
theorem dX0_asKept_39 : decode cX0_asKept 39 = .ok (.i2l, 1) := by decide +kernel
theorem dX0_asKept_40 : decode cX0_asKept 40 = .ok (.lreturn, 1) := by decide +kernel
theorem dX0_asKept_41 : decode cX0_asKept 41 = .ok (.lload_n 1, 1) := by decide +kernel
theorem dX0_asKept_42 : decode cX0_asKept 42 = .ok (.l2i, 1) := by decide +kernel
theorem dX0_asKept_43 : decode cX0_asKept 43 = .ok (.i2s, 1) := by decide +kernel
theorem dX0_asKept_44 : decode cX0_asKept 44 = .ok (.i2l, 1) := by decide +kernel
theorem dX0_asKept_45 : decode cX0_asKept 45 = .ok (.lreturn, 1) := by decide +kernel
theorem dX0_asKept_46 : decode cX0_asKept 46 = .ok (.lload_n 1, 1) := by decide +kernel
theorem dX0_asKept_47 : decode cX0_asKept 47 = .ok (.l2i, 1) := by decide +kernel
theorem dX0_asKept_48 : decode cX0_asKept 48 = .ok (.i2l, 1) := by decide +kernel
theorem dX0_asKept_49 : decode cX0_asKept 49 = .ok (.lreturn, 1) := by decide +kernel
theorem dX0_asKept_50 : decode cX0_asKept 50 = .ok (.lload_n 1, 1) := by decide +kernel
theorem dX0_asKept_51 : decode cX0_asKept 51 = .ok (.lconst 0, 1) := by decide +kernel
theorem dX0_asKept_52 : decode cX0_asKept 52 = .ok (.lcmp, 1) := by decide +kernel
theorem dX0_asKept_53 : decode cX0_asKept 53 = .ok (.ifCond .eq 7, 3) := by decide +kernel
theorem dX0_asKept_56 : decode cX0_asKept 56 = .ok (.lconst 1, 1) := by decide +kernel
theorem dX0_asKept_57 : decode cX0_asKept 57 = .ok (.goto 4, 3) := by decide +kernel
theorem dX0_asKept_60 : decode cX0_asKept 60 = .ok (.lconst 0, 1) := by decide +kernel
theorem dX0_asKept_61 : decode cX0_asKept 61 = .ok (.lreturn, 1) := by decide +kernel
theorem dX0_asKept_62 : decode cX0_asKept 62 = .ok (.lload_n 1, 1) := by decide +kernel
theorem dX0_asKept_63 : decode cX0_asKept 63 = .ok (.lreturn, 1) := by decide +kernel
theorem dX0_elementAt_0 : decode cX0_elementAt 0 = .ok (.aload_n 0, 1) := by decide +kernel
theorem dX0_elementAt_1 : decode cX0_elementAt 1 = .ok (.iload_n 1, 1) := by decide +kernel
theorem dX0_elementAt_2 : decode cX0_elementAt 2 = .ok (.iload_n 2, 1) := by decide +kernel
theorem dX0_elementAt_3 : decode cX0_elementAt 3 = .ok (.iconst 1, 1) := by decide +kernel
theorem dX0_elementAt_4 : decode cX0_elementAt 4 = .ok (.invokevirtual 46, 3) := by decide +kernel
theorem dX0_elementAt_7 : decode cX0_elementAt 7 = .ok (.ifCond .eq 17, 3) := by decide +kernel
theorem dX0_elementAt_10 : decode cX0_elementAt 10 = .ok (.aload_n 0, 1) := by decide +kernel
theorem dX0_elementAt_11 : decode cX0_elementAt 11 = .ok (.getfield 18, 3) := by decide +kernel
theorem dX0_elementAt_14 : decode cX0_elementAt 14 = .ok (.iload_n 1, 1) := by decide +kernel
theorem dX0_elementAt_15 : decode cX0_elementAt 15 = .ok (.bipush 40, 2) := by decide +kernel
theorem dX0_elementAt_17 : decode cX0_elementAt 17 = .ok (.imul, 1) := by decide +kernel
theorem dX0_elementAt_18 : decode cX0_elementAt 18 = .ok (.iload_n 2, 1) := by decide +kernel
theorem dX0_elementAt_19 : decode cX0_elementAt 19 = .ok (.iadd, 1) := by decide +kernel
theorem dX0_elementAt_20 : decode cX0_elementAt 20 = .ok (.laload, 1) := by decide +kernel
theorem dX0_elementAt_21 : decode cX0_elementAt 21 = .ok (.goto 4, 3) := by decide +kernel
theorem dX0_elementAt_24 : decode cX0_elementAt 24 = .ok (.lconst 0, 1) := by decide +kernel
theorem dX0_elementAt_25 : decode cX0_elementAt 25 = .ok (.lreturn, 1) := by decide +kernel
theorem dX0_copyElements_0 : decode cX0_copyElements 0 = .ok (.aload_n 0, 1) := by decide +kernel
theorem dX0_copyElements_1 : decode cX0_copyElements 1 = .ok (.iload_n 1, 1) := by decide +kernel
theorem dX0_copyElements_2 : decode cX0_copyElements 2 = .ok (.iload_n 3, 1) := by decide +kernel
theorem dX0_copyElements_3 : decode cX0_copyElements 3 = .ok (.iload 5, 2) := by decide +kernel
theorem dX0_copyElements_5 : decode cX0_copyElements 5 = .ok (.invokevirtual 46, 3) := by decide +kernel
theorem dX0_copyElements_8 : decode cX0_copyElements 8 = .ok (.ifCond .eq 41, 3) := by decide +kernel
theorem dX0_copyElements_11 : decode cX0_copyElements 11 = .ok (.aload_n 0, 1) := by decide +kernel
theorem dX0_copyElements_12 : decode cX0_copyElements 12 = .ok (.iload_n 2, 1) := by decide +kernel
theorem dX0_copyElements_13 : decode cX0_copyElements 13 = .ok (.iload 4, 2) := by decide +kernel
theorem dX0_copyElements_15 : decode cX0_copyElements 15 = .ok (.iload 5, 2) := by decide +kernel
theorem dX0_copyElements_17 : decode cX0_copyElements 17 = .ok (.invokevirtual 46, 3) := by decide +kernel
theorem dX0_copyElements_20 : decode cX0_copyElements 20 = .ok (.ifCond .eq 29, 3) := by decide +kernel
theorem dX0_copyElements_23 : decode cX0_copyElements 23 = .ok (.aload_n 0, 1) := by decide +kernel
theorem dX0_copyElements_24 : decode cX0_copyElements 24 = .ok (.getfield 18, 3) := by decide +kernel
theorem dX0_copyElements_27 : decode cX0_copyElements 27 = .ok (.iload_n 1, 1) := by decide +kernel
theorem dX0_copyElements_28 : decode cX0_copyElements 28 = .ok (.bipush 40, 2) := by decide +kernel
theorem dX0_copyElements_30 : decode cX0_copyElements 30 = .ok (.imul, 1) := by decide +kernel
theorem dX0_copyElements_31 : decode cX0_copyElements 31 = .ok (.iload_n 3, 1) := by decide +kernel
theorem dX0_copyElements_32 : decode cX0_copyElements 32 = .ok (.iadd, 1) := by decide +kernel
theorem dX0_copyElements_33 : decode cX0_copyElements 33 = .ok (.aload_n 0, 1) := by decide +kernel
theorem dX0_copyElements_34 : decode cX0_copyElements 34 = .ok (.getfield 18, 3) := by decide +kernel
theorem dX0_copyElements_37 : decode cX0_copyElements 37 = .ok (.iload_n 2, 1) := by decide +kernel
theorem dX0_copyElements_38 : decode cX0_copyElements 38 = .ok (.bipush 40, 2) := by decide +kernel
theorem dX0_copyElements_40 : decode cX0_copyElements 40 = .ok (.imul, 1) := by decide +kernel
theorem dX0_copyElements_41 : decode cX0_copyElements 41 = .ok (.iload 4, 2) := by decide +kernel
theorem dX0_copyElements_43 : decode cX0_copyElements 43 = .ok (.iadd, 1) := by decide +kernel
theorem dX0_copyElements_44 : decode cX0_copyElements 44 = .ok (.iload 5, 2) := by decide +kernel
theorem dX0_copyElements_46 : decode cX0_copyElements 46 = .ok (.invokestatic 53, 3) := by decide +kernel
theorem dX0_copyElements_49 : decode cX0_copyElements 49 = .ok (.return_, 1) := by decide +kernel
theorem dX0_dropVoicesFrom_0 : decode cX0_dropVoicesFrom 0 = .ok (.iconst 0, 1) := by decide +kernel
theorem dX0_dropVoicesFrom_1 : decode cX0_dropVoicesFrom 1 = .ok (.istore_n 2, 1) := by decide +kernel
theorem dX0_dropVoicesFrom_2 : decode cX0_dropVoicesFrom 2 = .ok (.iload_n 2, 1) := by decide +kernel
theorem dX0_dropVoicesFrom_3 : decode cX0_dropVoicesFrom 3 = .ok (.bipush 8, 2) := by decide +kernel
theorem dX0_dropVoicesFrom_5 : decode cX0_dropVoicesFrom 5 = .ok (.if_icmp .ge 29, 3) := by decide +kernel
theorem dX0_dropVoicesFrom_8 : decode cX0_dropVoicesFrom 8 = .ok (.aload_n 0, 1) := by decide +kernel
theorem dX0_dropVoicesFrom_9 : decode cX0_dropVoicesFrom 9 = .ok (.getfield 9, 3) := by decide +kernel
theorem dX0_dropVoicesFrom_12 : decode cX0_dropVoicesFrom 12 = .ok (.iload_n 2, 1) := by decide +kernel
theorem dX0_dropVoicesFrom_13 : decode cX0_dropVoicesFrom 13 = .ok (.iaload, 1) := by decide +kernel
theorem dX0_dropVoicesFrom_14 : decode cX0_dropVoicesFrom 14 = .ok (.bipush 10, 2) := by decide +kernel
theorem dX0_dropVoicesFrom_16 : decode cX0_dropVoicesFrom 16 = .ok (.iload_n 1, 1) := by decide +kernel
theorem dX0_dropVoicesFrom_17 : decode cX0_dropVoicesFrom 17 = .ok (.iadd, 1) := by decide +kernel
theorem dX0_dropVoicesFrom_18 : decode cX0_dropVoicesFrom 18 = .ok (.if_icmp .lt 10, 3) := by decide +kernel
theorem dX0_dropVoicesFrom_21 : decode cX0_dropVoicesFrom 21 = .ok (.aload_n 0, 1) := by decide +kernel
theorem dX0_dropVoicesFrom_22 : decode cX0_dropVoicesFrom 22 = .ok (.getfield 9, 3) := by decide +kernel
theorem dX0_dropVoicesFrom_25 : decode cX0_dropVoicesFrom 25 = .ok (.iload_n 2, 1) := by decide +kernel
theorem dX0_dropVoicesFrom_26 : decode cX0_dropVoicesFrom 26 = .ok (.iconst (-1), 1) := by decide +kernel
theorem dX0_dropVoicesFrom_27 : decode cX0_dropVoicesFrom 27 = .ok (.iastore, 1) := by decide +kernel
theorem dX0_dropVoicesFrom_28 : decode cX0_dropVoicesFrom 28 = .ok (.iinc 2 1, 3) := by decide +kernel
theorem dX0_dropVoicesFrom_31 : decode cX0_dropVoicesFrom 31 = .ok (.goto (-29), 3) := by decide +kernel
theorem dX0_dropVoicesFrom_34 : decode cX0_dropVoicesFrom 34 = .ok (.return_, 1) := by decide +kernel
theorem dX0_countHolding_0 : decode cX0_countHolding 0 = .ok (.iconst 0, 1) := by decide +kernel
theorem dX0_countHolding_1 : decode cX0_countHolding 1 = .ok (.istore_n 1, 1) := by decide +kernel
theorem dX0_countHolding_2 : decode cX0_countHolding 2 = .ok (.iconst 0, 1) := by decide +kernel
theorem dX0_countHolding_3 : decode cX0_countHolding 3 = .ok (.istore_n 2, 1) := by decide +kernel
theorem dX0_countHolding_4 : decode cX0_countHolding 4 = .ok (.iload_n 2, 1) := by decide +kernel
theorem dX0_countHolding_5 : decode cX0_countHolding 5 = .ok (.bipush 8, 2) := by decide +kernel
theorem dX0_countHolding_7 : decode cX0_countHolding 7 = .ok (.if_icmp .ge 22, 3) := by decide +kernel
theorem dX0_countHolding_10 : decode cX0_countHolding 10 = .ok (.aload_n 0, 1) := by decide +kernel
theorem dX0_countHolding_11 : decode cX0_countHolding 11 = .ok (.getfield 9, 3) := by decide +kernel
theorem dX0_countHolding_14 : decode cX0_countHolding 14 = .ok (.iload_n 2, 1) := by decide +kernel
theorem dX0_countHolding_15 : decode cX0_countHolding 15 = .ok (.iaload, 1) := by decide +kernel
theorem dX0_countHolding_16 : decode cX0_countHolding 16 = .ok (.iconst (-1), 1) := by decide +kernel
theorem dX0_countHolding_17 : decode cX0_countHolding 17 = .ok (.if_icmp .eq 6, 3) := by decide +kernel
theorem dX0_countHolding_20 : decode cX0_countHolding 20 = .ok (.iinc 1 1, 3) := by decide +kernel
theorem dX0_countHolding_23 : decode cX0_countHolding 23 = .ok (.iinc 2 1, 3) := by decide +kernel
theorem dX0_countHolding_26 : decode cX0_countHolding 26 = .ok (.goto (-22), 3) := by decide +kernel
theorem dX0_countHolding_29 : decode cX0_countHolding 29 = .ok (.iload_n 1, 1) := by decide +kernel
theorem dX0_countHolding_30 : decode cX0_countHolding 30 = .ok (.ireturn, 1) := by decide +kernel
theorem dX1_init_0 : decode cX1_init 0 = .ok (.aload_n 0, 1) := by decide +kernel
theorem dX1_init_1 : decode cX1_init 1 = .ok (.invokespecial 3, 3) := by decide +kernel
theorem dX1_init_4 : decode cX1_init 4 = .ok (.aload_n 0, 1) := by decide +kernel
theorem dX1_init_5 : decode cX1_init 5 = .ok (.bipush 10, 2) := by decide +kernel
theorem dX1_init_7 : decode cX1_init 7 = .ok (.putfield 9, 3) := by decide +kernel
theorem dX1_init_10 : decode cX1_init 10 = .ok (.aload_n 0, 1) := by decide +kernel
theorem dX1_init_11 : decode cX1_init 11 = .ok (.iconst 1, 1) := by decide +kernel
theorem dX1_init_12 : decode cX1_init 12 = .ok (.putfield 15, 3) := by decide +kernel
theorem dX1_init_15 : decode cX1_init 15 = .ok (.aload_n 0, 1) := by decide +kernel
theorem dX1_init_16 : decode cX1_init 16 = .ok (.iconst 5, 1) := by decide +kernel
theorem dX1_init_17 : decode cX1_init 17 = .ok (.putfield 18, 3) := by decide +kernel
theorem dX1_init_20 : decode cX1_init 20 = .ok (.aload_n 0, 1) := by decide +kernel
theorem dX1_init_21 : decode cX1_init 21 = .ok (.iconst 1, 1) := by decide +kernel
theorem dX1_init_22 : decode cX1_init 22 = .ok (.putfield 21, 3) := by decide +kernel
theorem dX1_init_25 : decode cX1_init 25 = .ok (.aload_n 0, 1) := by decide +kernel
theorem dX1_init_26 : decode cX1_init 26 = .ok (.bipush 8, 2) := by decide +kernel
theorem dX1_init_28 : decode cX1_init 28 = .ok (.newarray .int, 2) := by decide +kernel
theorem dX1_init_30 : decode cX1_init 30 = .ok (.putfield 24, 3) := by decide +kernel
theorem dX1_init_33 : decode cX1_init 33 = .ok (.aload_n 0, 1) := by decide +kernel
theorem dX1_init_34 : decode cX1_init 34 = .ok (.bipush 8, 2) := by decide +kernel
theorem dX1_init_36 : decode cX1_init 36 = .ok (.newarray .int, 2) := by decide +kernel
theorem dX1_init_38 : decode cX1_init 38 = .ok (.putfield 28, 3) := by decide +kernel
theorem dX1_init_41 : decode cX1_init 41 = .ok (.aload_n 0, 1) := by decide +kernel
theorem dX1_init_42 : decode cX1_init 42 = .ok (.bipush 8, 2) := by decide +kernel
theorem dX1_init_44 : decode cX1_init 44 = .ok (.newarray .int, 2) := by decide +kernel
theorem dX1_init_46 : decode cX1_init 46 = .ok (.putfield 31, 3) := by decide +kernel
theorem dX1_init_49 : decode cX1_init 49 = .ok (.return_, 1) := by decide +kernel
theorem dX1_becomes_0 : decode cX1_becomes 0 = .ok (.aload_n 0, 1) := by decide +kernel
theorem dX1_becomes_1 : decode cX1_becomes 1 = .ok (.aload_n 1, 1) := by decide +kernel
theorem dX1_becomes_2 : decode cX1_becomes 2 = .ok (.getfield 9, 3) := by decide +kernel
theorem dX1_becomes_5 : decode cX1_becomes 5 = .ok (.putfield 9, 3) := by decide +kernel
theorem dX1_becomes_8 : decode cX1_becomes 8 = .ok (.aload_n 0, 1) := by decide +kernel
theorem dX1_becomes_9 : decode cX1_becomes 9 = .ok (.aload_n 1, 1) := by decide +kernel
theorem dX1_becomes_10 : decode cX1_becomes 10 = .ok (.getfield 15, 3) := by decide +kernel
theorem dX1_becomes_13 : decode cX1_becomes 13 = .ok (.putfield 15, 3) := by decide +kernel
theorem dX1_becomes_16 : decode cX1_becomes 16 = .ok (.aload_n 0, 1) := by decide +kernel
theorem dX1_becomes_17 : decode cX1_becomes 17 = .ok (.aload_n 1, 1) := by decide +kernel
theorem dX1_becomes_18 : decode cX1_becomes 18 = .ok (.getfield 34, 3) := by decide +kernel
theorem dX1_becomes_21 : decode cX1_becomes 21 = .ok (.putfield 34, 3) := by decide +kernel
theorem dX1_becomes_24 : decode cX1_becomes 24 = .ok (.aload_n 0, 1) := by decide +kernel
theorem dX1_becomes_25 : decode cX1_becomes 25 = .ok (.aload_n 1, 1) := by decide +kernel
theorem dX1_becomes_26 : decode cX1_becomes 26 = .ok (.getfield 18, 3) := by decide +kernel
theorem dX1_becomes_29 : decode cX1_becomes 29 = .ok (.putfield 18, 3) := by decide +kernel
theorem dX1_becomes_32 : decode cX1_becomes 32 = .ok (.aload_n 0, 1) := by decide +kernel
theorem dX1_becomes_33 : decode cX1_becomes 33 = .ok (.aload_n 1, 1) := by decide +kernel
theorem dX1_becomes_34 : decode cX1_becomes 34 = .ok (.getfield 37, 3) := by decide +kernel
theorem dX1_becomes_37 : decode cX1_becomes 37 = .ok (.putfield 37, 3) := by decide +kernel
theorem dX1_becomes_40 : decode cX1_becomes 40 = .ok (.aload_n 0, 1) := by decide +kernel
theorem dX1_becomes_41 : decode cX1_becomes 41 = .ok (.aload_n 1, 1) := by decide +kernel
theorem dX1_becomes_42 : decode cX1_becomes 42 = .ok (.getfield 40, 3) := by decide +kernel
theorem dX1_becomes_45 : decode cX1_becomes 45 = .ok (.putfield 40, 3) := by decide +kernel
theorem dX1_becomes_48 : decode cX1_becomes 48 = .ok (.aload_n 0, 1) := by decide +kernel
theorem dX1_becomes_49 : decode cX1_becomes 49 = .ok (.aload_n 1, 1) := by decide +kernel
theorem dX1_becomes_50 : decode cX1_becomes 50 = .ok (.getfield 43, 3) := by decide +kernel
theorem dX1_becomes_53 : decode cX1_becomes 53 = .ok (.putfield 43, 3) := by decide +kernel
theorem dX1_becomes_56 : decode cX1_becomes 56 = .ok (.aload_n 0, 1) := by decide +kernel
theorem dX1_becomes_57 : decode cX1_becomes 57 = .ok (.aload_n 1, 1) := by decide +kernel
theorem dX1_becomes_58 : decode cX1_becomes 58 = .ok (.getfield 21, 3) := by decide +kernel
theorem dX1_becomes_61 : decode cX1_becomes 61 = .ok (.putfield 21, 3) := by decide +kernel
theorem dX1_becomes_64 : decode cX1_becomes 64 = .ok (.aload_n 0, 1) := by decide +kernel
theorem dX1_becomes_65 : decode cX1_becomes 65 = .ok (.aload_n 1, 1) := by decide +kernel
theorem dX1_becomes_66 : decode cX1_becomes 66 = .ok (.getfield 46, 3) := by decide +kernel
theorem dX1_becomes_69 : decode cX1_becomes 69 = .ok (.putfield 46, 3) := by decide +kernel
theorem dX1_becomes_72 : decode cX1_becomes 72 = .ok (.iconst 0, 1) := by decide +kernel
theorem dX1_becomes_73 : decode cX1_becomes 73 = .ok (.istore_n 2, 1) := by decide +kernel
theorem dX1_becomes_74 : decode cX1_becomes 74 = .ok (.iload_n 2, 1) := by decide +kernel
theorem dX1_becomes_75 : decode cX1_becomes 75 = .ok (.bipush 8, 2) := by decide +kernel
theorem dX1_becomes_77 : decode cX1_becomes 77 = .ok (.if_icmp .ge 45, 3) := by decide +kernel
theorem dX1_becomes_80 : decode cX1_becomes 80 = .ok (.aload_n 0, 1) := by decide +kernel
theorem dX1_becomes_81 : decode cX1_becomes 81 = .ok (.getfield 24, 3) := by decide +kernel
theorem dX1_becomes_84 : decode cX1_becomes 84 = .ok (.iload_n 2, 1) := by decide +kernel
theorem dX1_becomes_85 : decode cX1_becomes 85 = .ok (.aload_n 1, 1) := by decide +kernel
theorem dX1_becomes_86 : decode cX1_becomes 86 = .ok (.getfield 24, 3) := by decide +kernel
theorem dX1_becomes_89 : decode cX1_becomes 89 = .ok (.iload_n 2, 1) := by decide +kernel
theorem dX1_becomes_90 : decode cX1_becomes 90 = .ok (.iaload, 1) := by decide +kernel
theorem dX1_becomes_91 : decode cX1_becomes 91 = .ok (.iastore, 1) := by decide +kernel
theorem dX1_becomes_92 : decode cX1_becomes 92 = .ok (.aload_n 0, 1) := by decide +kernel
theorem dX1_becomes_93 : decode cX1_becomes 93 = .ok (.getfield 28, 3) := by decide +kernel
theorem dX1_becomes_96 : decode cX1_becomes 96 = .ok (.iload_n 2, 1) := by decide +kernel
theorem dX1_becomes_97 : decode cX1_becomes 97 = .ok (.aload_n 1, 1) := by decide +kernel
theorem dX1_becomes_98 : decode cX1_becomes 98 = .ok (.getfield 28, 3) := by decide +kernel
theorem dX1_becomes_101 : decode cX1_becomes 101 = .ok (.iload_n 2, 1) := by decide +kernel
theorem dX1_becomes_102 : decode cX1_becomes 102 = .ok (.iaload, 1) := by decide +kernel
theorem dX1_becomes_103 : decode cX1_becomes 103 = .ok (.iastore, 1) := by decide +kernel
theorem dX1_becomes_104 : decode cX1_becomes 104 = .ok (.aload_n 0, 1) := by decide +kernel
theorem dX1_becomes_105 : decode cX1_becomes 105 = .ok (.getfield 31, 3) := by decide +kernel
theorem dX1_becomes_108 : decode cX1_becomes 108 = .ok (.iload_n 2, 1) := by decide +kernel
theorem dX1_becomes_109 : decode cX1_becomes 109 = .ok (.aload_n 1, 1) := by decide +kernel
theorem dX1_becomes_110 : decode cX1_becomes 110 = .ok (.getfield 31, 3) := by decide +kernel
theorem dX1_becomes_113 : decode cX1_becomes 113 = .ok (.iload_n 2, 1) := by decide +kernel
theorem dX1_becomes_114 : decode cX1_becomes 114 = .ok (.iaload, 1) := by decide +kernel
theorem dX1_becomes_115 : decode cX1_becomes 115 = .ok (.iastore, 1) := by decide +kernel
theorem dX1_becomes_116 : decode cX1_becomes 116 = .ok (.iinc 2 1, 3) := by decide +kernel
theorem dX1_becomes_119 : decode cX1_becomes 119 = .ok (.goto (-45), 3) := by decide +kernel
theorem dX1_becomes_122 : decode cX1_becomes 122 = .ok (.return_, 1) := by decide +kernel
theorem dX1_hasRoom_0 : decode cX1_hasRoom 0 = .ok (.aload_n 0, 1) := by decide +kernel
theorem dX1_hasRoom_1 : decode cX1_hasRoom 1 = .ok (.getfield 46, 3) := by decide +kernel
theorem dX1_hasRoom_4 : decode cX1_hasRoom 4 = .ok (.bipush 8, 2) := by decide +kernel
theorem dX1_hasRoom_6 : decode cX1_hasRoom 6 = .ok (.if_icmp .ge 7, 3) := by decide +kernel
theorem dX1_hasRoom_9 : decode cX1_hasRoom 9 = .ok (.iconst 1, 1) := by decide +kernel
theorem dX1_hasRoom_10 : decode cX1_hasRoom 10 = .ok (.goto 4, 3) := by decide +kernel
theorem dX1_hasRoom_13 : decode cX1_hasRoom 13 = .ok (.iconst 0, 1) := by decide +kernel
theorem dX1_hasRoom_14 : decode cX1_hasRoom 14 = .ok (.ireturn, 1) := by decide +kernel
theorem dX1_addVoice_0 : decode cX1_addVoice 0 = .ok (.aload_n 0, 1) := by decide +kernel
theorem dX1_addVoice_1 : decode cX1_addVoice 1 = .ok (.getfield 46, 3) := by decide +kernel
theorem dX1_addVoice_4 : decode cX1_addVoice 4 = .ok (.iconst 0, 1) := by decide +kernel
theorem dX1_addVoice_5 : decode cX1_addVoice 5 = .ok (.bipush 7, 2) := by decide +kernel
theorem dX1_addVoice_7 : decode cX1_addVoice 7 = .ok (.invokestatic 49, 3) := by decide +kernel
theorem dX1_addVoice_10 : decode cX1_addVoice 10 = .ok (.ifCond .eq 43, 3) := by decide +kernel
theorem dX1_addVoice_13 : decode cX1_addVoice 13 = .ok (.aload_n 0, 1) := by decide +kernel
theorem dX1_addVoice_14 : decode cX1_addVoice 14 = .ok (.getfield 24, 3) := by decide +kernel
theorem dX1_addVoice_17 : decode cX1_addVoice 17 = .ok (.aload_n 0, 1) := by decide +kernel
theorem dX1_addVoice_18 : decode cX1_addVoice 18 = .ok (.getfield 46, 3) := by decide +kernel
theorem dX1_addVoice_21 : decode cX1_addVoice 21 = .ok (.iload_n 1, 1) := by decide +kernel
theorem dX1_addVoice_22 : decode cX1_addVoice 22 = .ok (.iastore, 1) := by decide +kernel
theorem dX1_addVoice_23 : decode cX1_addVoice 23 = .ok (.aload_n 0, 1) := by decide +kernel
theorem dX1_addVoice_24 : decode cX1_addVoice 24 = .ok (.getfield 28, 3) := by decide +kernel
theorem dX1_addVoice_27 : decode cX1_addVoice 27 = .ok (.aload_n 0, 1) := by decide +kernel
theorem dX1_addVoice_28 : decode cX1_addVoice 28 = .ok (.getfield 46, 3) := by decide +kernel
theorem dX1_addVoice_31 : decode cX1_addVoice 31 = .ok (.iload_n 2, 1) := by decide +kernel
theorem dX1_addVoice_32 : decode cX1_addVoice 32 = .ok (.iastore, 1) := by decide +kernel
theorem dX1_addVoice_33 : decode cX1_addVoice 33 = .ok (.aload_n 0, 1) := by decide +kernel
theorem dX1_addVoice_34 : decode cX1_addVoice 34 = .ok (.getfield 31, 3) := by decide +kernel
theorem dX1_addVoice_37 : decode cX1_addVoice 37 = .ok (.aload_n 0, 1) := by decide +kernel
theorem dX1_addVoice_38 : decode cX1_addVoice 38 = .ok (.getfield 46, 3) := by decide +kernel
theorem dX1_addVoice_41 : decode cX1_addVoice 41 = .ok (.iload_n 3, 1) := by decide +kernel
theorem dX1_addVoice_42 : decode cX1_addVoice 42 = .ok (.iastore, 1) := by decide +kernel
theorem dX1_addVoice_43 : decode cX1_addVoice 43 = .ok (.aload_n 0, 1) := by decide +kernel
theorem dX1_addVoice_44 : decode cX1_addVoice 44 = .ok (.dup, 1) := by decide +kernel
theorem dX1_addVoice_45 : decode cX1_addVoice 45 = .ok (.getfield 46, 3) := by decide +kernel
theorem dX1_addVoice_48 : decode cX1_addVoice 48 = .ok (.iconst 1, 1) := by decide +kernel
theorem dX1_addVoice_49 : decode cX1_addVoice 49 = .ok (.iadd, 1) := by decide +kernel
theorem dX1_addVoice_50 : decode cX1_addVoice 50 = .ok (.putfield 46, 3) := by decide +kernel
theorem dX1_addVoice_53 : decode cX1_addVoice 53 = .ok (.return_, 1) := by decide +kernel
theorem dX1_kindOf_0 : decode cX1_kindOf 0 = .ok (.iload_n 1, 1) := by decide +kernel
theorem dX1_kindOf_1 : decode cX1_kindOf 1 = .ok (.iconst 0, 1) := by decide +kernel
theorem dX1_kindOf_2 : decode cX1_kindOf 2 = .ok (.bipush 7, 2) := by decide +kernel
theorem dX1_kindOf_4 : decode cX1_kindOf 4 = .ok (.invokestatic 49, 3) := by decide +kernel
theorem dX1_kindOf_7 : decode cX1_kindOf 7 = .ok (.ifCond .eq 12, 3) := by decide +kernel
theorem dX1_kindOf_10 : decode cX1_kindOf 10 = .ok (.aload_n 0, 1) := by decide +kernel
theorem dX1_kindOf_11 : decode cX1_kindOf 11 = .ok (.getfield 24, 3) := by decide +kernel
theorem dX1_kindOf_14 : decode cX1_kindOf 14 = .ok (.iload_n 1, 1) := by decide +kernel
theorem dX1_kindOf_15 : decode cX1_kindOf 15 = .ok (.iaload, 1) := by decide +kernel
theorem dX1_kindOf_16 : decode cX1_kindOf 16 = .ok (.goto 4, 3) := by decide +kernel
theorem dX1_kindOf_19 : decode cX1_kindOf 19 = .ok (.iconst (-1), 1) := by decide +kernel
theorem dX1_kindOf_20 : decode cX1_kindOf 20 = .ok (.ireturn, 1) := by decide +kernel
theorem dX1_aOf_0 : decode cX1_aOf 0 = .ok (.iload_n 1, 1) := by decide +kernel
theorem dX1_aOf_1 : decode cX1_aOf 1 = .ok (.iconst 0, 1) := by decide +kernel
theorem dX1_aOf_2 : decode cX1_aOf 2 = .ok (.bipush 7, 2) := by decide +kernel
theorem dX1_aOf_4 : decode cX1_aOf 4 = .ok (.invokestatic 49, 3) := by decide +kernel
theorem dX1_aOf_7 : decode cX1_aOf 7 = .ok (.ifCond .eq 12, 3) := by decide +kernel
theorem dX1_aOf_10 : decode cX1_aOf 10 = .ok (.aload_n 0, 1) := by decide +kernel
theorem dX1_aOf_11 : decode cX1_aOf 11 = .ok (.getfield 28, 3) := by decide +kernel
theorem dX1_aOf_14 : decode cX1_aOf 14 = .ok (.iload_n 1, 1) := by decide +kernel
theorem dX1_aOf_15 : decode cX1_aOf 15 = .ok (.iaload, 1) := by decide +kernel
theorem dX1_aOf_16 : decode cX1_aOf 16 = .ok (.goto 4, 3) := by decide +kernel
theorem dX1_aOf_19 : decode cX1_aOf 19 = .ok (.iconst (-1), 1) := by decide +kernel
theorem dX1_aOf_20 : decode cX1_aOf 20 = .ok (.ireturn, 1) := by decide +kernel
theorem dX1_pitchOf_0 : decode cX1_pitchOf 0 = .ok (.iload_n 1, 1) := by decide +kernel
theorem dX1_pitchOf_1 : decode cX1_pitchOf 1 = .ok (.iconst 0, 1) := by decide +kernel
theorem dX1_pitchOf_2 : decode cX1_pitchOf 2 = .ok (.bipush 7, 2) := by decide +kernel
theorem dX1_pitchOf_4 : decode cX1_pitchOf 4 = .ok (.invokestatic 49, 3) := by decide +kernel
theorem dX1_pitchOf_7 : decode cX1_pitchOf 7 = .ok (.ifCond .eq 12, 3) := by decide +kernel
theorem dX1_pitchOf_10 : decode cX1_pitchOf 10 = .ok (.aload_n 0, 1) := by decide +kernel
theorem dX1_pitchOf_11 : decode cX1_pitchOf 11 = .ok (.getfield 31, 3) := by decide +kernel
theorem dX1_pitchOf_14 : decode cX1_pitchOf 14 = .ok (.iload_n 1, 1) := by decide +kernel
theorem dX1_pitchOf_15 : decode cX1_pitchOf 15 = .ok (.iaload, 1) := by decide +kernel
theorem dX1_pitchOf_16 : decode cX1_pitchOf 16 = .ok (.goto 4, 3) := by decide +kernel
theorem dX1_pitchOf_19 : decode cX1_pitchOf 19 = .ok (.iconst (-1), 1) := by decide +kernel
theorem dX1_pitchOf_20 : decode cX1_pitchOf 20 = .ok (.ireturn, 1) := by decide +kernel
theorem dX1_putPitch_0 : decode cX1_putPitch 0 = .ok (.iload_n 1, 1) := by decide +kernel
theorem dX1_putPitch_1 : decode cX1_putPitch 1 = .ok (.iconst 0, 1) := by decide +kernel
theorem dX1_putPitch_2 : decode cX1_putPitch 2 = .ok (.bipush 7, 2) := by decide +kernel
theorem dX1_putPitch_4 : decode cX1_putPitch 4 = .ok (.invokestatic 49, 3) := by decide +kernel
theorem dX1_putPitch_7 : decode cX1_putPitch 7 = .ok (.ifCond .eq 10, 3) := by decide +kernel
theorem dX1_putPitch_10 : decode cX1_putPitch 10 = .ok (.aload_n 0, 1) := by decide +kernel
theorem dX1_putPitch_11 : decode cX1_putPitch 11 = .ok (.getfield 31, 3) := by decide +kernel
theorem dX1_putPitch_14 : decode cX1_putPitch 14 = .ok (.iload_n 1, 1) := by decide +kernel
theorem dX1_putPitch_15 : decode cX1_putPitch 15 = .ok (.iload_n 2, 1) := by decide +kernel
theorem dX1_putPitch_16 : decode cX1_putPitch 16 = .ok (.iastore, 1) := by decide +kernel
theorem dX1_putPitch_17 : decode cX1_putPitch 17 = .ok (.return_, 1) := by decide +kernel
theorem dX1_passDay_0 : decode cX1_passDay 0 = .ok (.aload_n 0, 1) := by decide +kernel
theorem dX1_passDay_1 : decode cX1_passDay 1 = .ok (.aload_n 0, 1) := by decide +kernel
theorem dX1_passDay_2 : decode cX1_passDay 2 = .ok (.getfield 9, 3) := by decide +kernel
theorem dX1_passDay_5 : decode cX1_passDay 5 = .ok (.aload_n 0, 1) := by decide +kernel
theorem dX1_passDay_6 : decode cX1_passDay 6 = .ok (.getfield 15, 3) := by decide +kernel
theorem dX1_passDay_9 : decode cX1_passDay 9 = .ok (.invokestatic 53, 3) := by decide +kernel
theorem dX1_passDay_12 : decode cX1_passDay 12 = .ok (.putfield 9, 3) := by decide +kernel
theorem dX1_passDay_15 : decode cX1_passDay 15 = .ok (.aload_n 0, 1) := by decide +kernel
theorem dX1_passDay_16 : decode cX1_passDay 16 = .ok (.aload_n 0, 1) := by decide +kernel
theorem dX1_passDay_17 : decode cX1_passDay 17 = .ok (.getfield 34, 3) := by decide +kernel
theorem dX1_passDay_20 : decode cX1_passDay 20 = .ok (.invokestatic 57, 3) := by decide +kernel
theorem dX1_passDay_23 : decode cX1_passDay 23 = .ok (.putfield 34, 3) := by decide +kernel
theorem dX1_passDay_26 : decode cX1_passDay 26 = .ok (.return_, 1) := by decide +kernel
theorem dX1_draw_0 : decode cX1_draw 0 = .ok (.aload_n 0, 1) := by decide +kernel
theorem dX1_draw_1 : decode cX1_draw 1 = .ok (.aload_n 0, 1) := by decide +kernel
theorem dX1_draw_2 : decode cX1_draw 2 = .ok (.getfield 21, 3) := by decide +kernel
theorem dX1_draw_5 : decode cX1_draw 5 = .ok (.ldc 61, 2) := by decide +kernel
theorem dX1_draw_7 : decode cX1_draw 7 = .ok (.imul, 1) := by decide +kernel
theorem dX1_draw_8 : decode cX1_draw 8 = .ok (.sipush 12345, 3) := by decide +kernel
theorem dX1_draw_11 : decode cX1_draw 11 = .ok (.iadd, 1) := by decide +kernel
theorem dX1_draw_12 : decode cX1_draw 12 = .ok (.putfield 21, 3) := by decide +kernel
theorem dX1_draw_15 : decode cX1_draw 15 = .ok (.iload_n 1, 1) := by decide +kernel
theorem dX1_draw_16 : decode cX1_draw 16 = .ok (.ifCond .le 15, 3) := by decide +kernel
theorem dX1_draw_19 : decode cX1_draw 19 = .ok (.aload_n 0, 1) := by decide +kernel
theorem dX1_draw_20 : decode cX1_draw 20 = .ok (.getfield 21, 3) := by decide +kernel
theorem dX1_draw_23 : decode cX1_draw 23 = .ok (.bipush 16, 2) := by decide +kernel
theorem dX1_draw_25 : decode cX1_draw 25 = .ok (.iushr, 1) := by decide +kernel
theorem dX1_draw_26 : decode cX1_draw 26 = .ok (.iload_n 1, 1) := by decide +kernel
theorem dX1_draw_27 : decode cX1_draw 27 = .ok (.irem, 1) := by decide +kernel
theorem dX1_draw_28 : decode cX1_draw 28 = .ok (.goto 4, 3) := by decide +kernel
theorem dX1_draw_31 : decode cX1_draw 31 = .ok (.iconst 0, 1) := by decide +kernel
theorem dX1_draw_32 : decode cX1_draw 32 = .ok (.ireturn, 1) := by decide +kernel
theorem dX2_init_0 : decode cX2_init 0 = .ok (.aload_n 0, 1) := by decide +kernel
theorem dX2_init_1 : decode cX2_init 1 = .ok (.invokespecial 3, 3) := by decide +kernel
theorem dX2_init_4 : decode cX2_init 4 = .ok (.aload_n 0, 1) := by decide +kernel
theorem dX2_init_5 : decode cX2_init 5 = .ok (.sipush 250, 3) := by decide +kernel
theorem dX2_init_8 : decode cX2_init 8 = .ok (.newarray .int, 2) := by decide +kernel
theorem dX2_init_10 : decode cX2_init 10 = .ok (.putfield 9, 3) := by decide +kernel
theorem dX2_init_13 : decode cX2_init 13 = .ok (.return_, 1) := by decide +kernel
theorem dX2_hasRoom_0 : decode cX2_hasRoom 0 = .ok (.aload_n 0, 1) := by decide +kernel
theorem dX2_hasRoom_1 : decode cX2_hasRoom 1 = .ok (.getfield 15, 3) := by decide +kernel
theorem dX2_hasRoom_4 : decode cX2_hasRoom 4 = .ok (.sipush 250, 3) := by decide +kernel
theorem dX2_hasRoom_7 : decode cX2_hasRoom 7 = .ok (.if_icmp .ge 7, 3) := by decide +kernel
theorem dX2_hasRoom_10 : decode cX2_hasRoom 10 = .ok (.iconst 1, 1) := by decide +kernel
theorem dX2_hasRoom_11 : decode cX2_hasRoom 11 = .ok (.goto 4, 3) := by decide +kernel
theorem dX2_hasRoom_14 : decode cX2_hasRoom 14 = .ok (.iconst 0, 1) := by decide +kernel
theorem dX2_hasRoom_15 : decode cX2_hasRoom 15 = .ok (.ireturn, 1) := by decide +kernel
theorem dX2_put_0 : decode cX2_put 0 = .ok (.aload_n 0, 1) := by decide +kernel
theorem dX2_put_1 : decode cX2_put 1 = .ok (.getfield 15, 3) := by decide +kernel
theorem dX2_put_4 : decode cX2_put 4 = .ok (.iconst 0, 1) := by decide +kernel
theorem dX2_put_5 : decode cX2_put 5 = .ok (.sipush 249, 3) := by decide +kernel
theorem dX2_put_8 : decode cX2_put 8 = .ok (.invokestatic 19, 3) := by decide +kernel
theorem dX2_put_11 : decode cX2_put 11 = .ok (.ifCond .eq 23, 3) := by decide +kernel
theorem dX2_put_14 : decode cX2_put 14 = .ok (.aload_n 0, 1) := by decide +kernel
theorem dX2_put_15 : decode cX2_put 15 = .ok (.getfield 9, 3) := by decide +kernel
theorem dX2_put_18 : decode cX2_put 18 = .ok (.aload_n 0, 1) := by decide +kernel
theorem dX2_put_19 : decode cX2_put 19 = .ok (.getfield 15, 3) := by decide +kernel
theorem dX2_put_22 : decode cX2_put 22 = .ok (.iload_n 1, 1) := by decide +kernel
theorem dX2_put_23 : decode cX2_put 23 = .ok (.iastore, 1) := by decide +kernel
theorem dX2_put_24 : decode cX2_put 24 = .ok (.aload_n 0, 1) := by decide +kernel
theorem dX2_put_25 : decode cX2_put 25 = .ok (.dup, 1) := by decide +kernel
theorem dX2_put_26 : decode cX2_put 26 = .ok (.getfield 15, 3) := by decide +kernel
theorem dX2_put_29 : decode cX2_put 29 = .ok (.iconst 1, 1) := by decide +kernel
theorem dX2_put_30 : decode cX2_put 30 = .ok (.iadd, 1) := by decide +kernel
theorem dX2_put_31 : decode cX2_put 31 = .ok (.putfield 15, 3) := by decide +kernel
theorem dX2_put_34 : decode cX2_put 34 = .ok (.return_, 1) := by decide +kernel
theorem dX2_byteAt_0 : decode cX2_byteAt 0 = .ok (.iload_n 1, 1) := by decide +kernel
theorem dX2_byteAt_1 : decode cX2_byteAt 1 = .ok (.ifCond .lt 27, 3) := by decide +kernel
theorem dX2_byteAt_4 : decode cX2_byteAt 4 = .ok (.iload_n 1, 1) := by decide +kernel
theorem dX2_byteAt_5 : decode cX2_byteAt 5 = .ok (.aload_n 0, 1) := by decide +kernel
theorem dX2_byteAt_6 : decode cX2_byteAt 6 = .ok (.getfield 15, 3) := by decide +kernel
theorem dX2_byteAt_9 : decode cX2_byteAt 9 = .ok (.if_icmp .ge 19, 3) := by decide +kernel
theorem dX2_byteAt_12 : decode cX2_byteAt 12 = .ok (.iload_n 1, 1) := by decide +kernel
theorem dX2_byteAt_13 : decode cX2_byteAt 13 = .ok (.sipush 250, 3) := by decide +kernel
theorem dX2_byteAt_16 : decode cX2_byteAt 16 = .ok (.if_icmp .ge 12, 3) := by decide +kernel
theorem dX2_byteAt_19 : decode cX2_byteAt 19 = .ok (.aload_n 0, 1) := by decide +kernel
theorem dX2_byteAt_20 : decode cX2_byteAt 20 = .ok (.getfield 9, 3) := by decide +kernel
theorem dX2_byteAt_23 : decode cX2_byteAt 23 = .ok (.iload_n 1, 1) := by decide +kernel
theorem dX2_byteAt_24 : decode cX2_byteAt 24 = .ok (.iaload, 1) := by decide +kernel
theorem dX2_byteAt_25 : decode cX2_byteAt 25 = .ok (.goto 4, 3) := by decide +kernel
theorem dX2_byteAt_28 : decode cX2_byteAt 28 = .ok (.iconst (-1), 1) := by decide +kernel
theorem dX2_byteAt_29 : decode cX2_byteAt 29 = .ok (.ireturn, 1) := by decide +kernel
theorem dX2_readInto_0 : decode cX2_readInto 0 = .ok (.aload_n 0, 1) := by decide +kernel
theorem dX2_readInto_1 : decode cX2_readInto 1 = .ok (.iconst 0, 1) := by decide +kernel
theorem dX2_readInto_2 : decode cX2_readInto 2 = .ok (.putfield 23, 3) := by decide +kernel
theorem dX2_readInto_5 : decode cX2_readInto 5 = .ok (.iconst 1, 1) := by decide +kernel
theorem dX2_readInto_6 : decode cX2_readInto 6 = .ok (.istore_n 2, 1) := by decide +kernel
theorem dX2_readInto_7 : decode cX2_readInto 7 = .ok (.iload_n 2, 1) := by decide +kernel
theorem dX2_readInto_8 : decode cX2_readInto 8 = .ok (.sipush 250, 3) := by decide +kernel
theorem dX2_readInto_11 : decode cX2_readInto 11 = .ok (.if_icmp .gt 46, 3) := by decide +kernel
theorem dX2_readInto_14 : decode cX2_readInto 14 = .ok (.aload_n 0, 1) := by decide +kernel
theorem dX2_readInto_15 : decode cX2_readInto 15 = .ok (.invokevirtual 26, 3) := by decide +kernel
theorem dX2_readInto_18 : decode cX2_readInto 18 = .ok (.aload_n 0, 1) := by decide +kernel
theorem dX2_readInto_19 : decode cX2_readInto 19 = .ok (.aload_n 1, 1) := by decide +kernel
theorem dX2_readInto_20 : decode cX2_readInto 20 = .ok (.invokevirtual 29, 3) := by decide +kernel
theorem dX2_readInto_23 : decode cX2_readInto 23 = .ok (.ifCond .ne 5, 3) := by decide +kernel
theorem dX2_readInto_26 : decode cX2_readInto 26 = .ok (.iconst (-1), 1) := by decide +kernel
theorem dX2_readInto_27 : decode cX2_readInto 27 = .ok (.ireturn, 1) := by decide +kernel
theorem dX2_readInto_28 : decode cX2_readInto 28 = .ok (.aload_n 0, 1) := by decide +kernel
theorem dX2_readInto_29 : decode cX2_readInto 29 = .ok (.invokevirtual 26, 3) := by decide +kernel
theorem dX2_readInto_32 : decode cX2_readInto 32 = .ok (.aload_n 0, 1) := by decide +kernel
theorem dX2_readInto_33 : decode cX2_readInto 33 = .ok (.getfield 33, 3) := by decide +kernel
theorem dX2_readInto_36 : decode cX2_readInto 36 = .ok (.ifCond .ne 5, 3) := by decide +kernel
theorem dX2_readInto_39 : decode cX2_readInto 39 = .ok (.iload_n 2, 1) := by decide +kernel
theorem dX2_readInto_40 : decode cX2_readInto 40 = .ok (.ireturn, 1) := by decide +kernel
theorem dX2_readInto_41 : decode cX2_readInto 41 = .ok (.aload_n 0, 1) := by decide +kernel
theorem dX2_readInto_42 : decode cX2_readInto 42 = .ok (.getfield 33, 3) := by decide +kernel
theorem dX2_readInto_45 : decode cX2_readInto 45 = .ok (.iconst 3, 1) := by decide +kernel
theorem dX2_readInto_46 : decode cX2_readInto 46 = .ok (.if_icmp .eq 5, 3) := by decide +kernel
theorem dX2_readInto_49 : decode cX2_readInto 49 = .ok (.iconst (-1), 1) := by decide +kernel
theorem dX2_readInto_50 : decode cX2_readInto 50 = .ok (.ireturn, 1) := by decide +kernel
theorem dX2_readInto_51 : decode cX2_readInto 51 = .ok (.iinc 2 1, 3) := by decide +kernel
theorem dX2_readInto_54 : decode cX2_readInto 54 = .ok (.goto (-47), 3) := by decide +kernel
theorem dX2_readInto_57 : decode cX2_readInto 57 = .ok (.iconst (-1), 1) := by decide +kernel
theorem dX2_readInto_58 : decode cX2_readInto 58 = .ok (.ireturn, 1) := by decide +kernel
theorem dX2_step_0 : decode cX2_step 0 = .ok (.aload_n 0, 1) := by decide +kernel
theorem dX2_step_1 : decode cX2_step 1 = .ok (.aload_n 0, 1) := by decide +kernel
theorem dX2_step_2 : decode cX2_step 2 = .ok (.getfield 23, 3) := by decide +kernel
theorem dX2_step_5 : decode cX2_step 5 = .ok (.putfield 36, 3) := by decide +kernel
theorem dX2_step_8 : decode cX2_step 8 = .ok (.iconst 0, 1) := by decide +kernel
theorem dX2_step_9 : decode cX2_step 9 = .ok (.istore_n 1, 1) := by decide +kernel
theorem dX2_step_10 : decode cX2_step 10 = .ok (.iload_n 1, 1) := by decide +kernel
theorem dX2_step_11 : decode cX2_step 11 = .ok (.sipush 250, 3) := by decide +kernel
theorem dX2_step_14 : decode cX2_step 14 = .ok (.if_icmp .ge 32, 3) := by decide +kernel
theorem dX2_step_17 : decode cX2_step 17 = .ok (.aload_n 0, 1) := by decide +kernel
theorem dX2_step_18 : decode cX2_step 18 = .ok (.aload_n 0, 1) := by decide +kernel
theorem dX2_step_19 : decode cX2_step 19 = .ok (.getfield 36, 3) := by decide +kernel
theorem dX2_step_22 : decode cX2_step 22 = .ok (.invokevirtual 39, 3) := by decide +kernel
theorem dX2_step_25 : decode cX2_step 25 = .ok (.bipush 32, 2) := by decide +kernel
theorem dX2_step_27 : decode cX2_step 27 = .ok (.if_icmp .ne 19, 3) := by decide +kernel
theorem dX2_step_30 : decode cX2_step 30 = .ok (.aload_n 0, 1) := by decide +kernel
theorem dX2_step_31 : decode cX2_step 31 = .ok (.dup, 1) := by decide +kernel
theorem dX2_step_32 : decode cX2_step 32 = .ok (.getfield 36, 3) := by decide +kernel
theorem dX2_step_35 : decode cX2_step 35 = .ok (.iconst 1, 1) := by decide +kernel
theorem dX2_step_36 : decode cX2_step 36 = .ok (.iadd, 1) := by decide +kernel
theorem dX2_step_37 : decode cX2_step 37 = .ok (.putfield 36, 3) := by decide +kernel
theorem dX2_step_40 : decode cX2_step 40 = .ok (.iinc 1 1, 3) := by decide +kernel
theorem dX2_step_43 : decode cX2_step 43 = .ok (.goto (-33), 3) := by decide +kernel
theorem dX2_step_46 : decode cX2_step 46 = .ok (.aload_n 0, 1) := by decide +kernel
theorem dX2_step_47 : decode cX2_step 47 = .ok (.aload_n 0, 1) := by decide +kernel
theorem dX2_step_48 : decode cX2_step 48 = .ok (.aload_n 0, 1) := by decide +kernel
theorem dX2_step_49 : decode cX2_step 49 = .ok (.getfield 36, 3) := by decide +kernel
theorem dX2_step_52 : decode cX2_step 52 = .ok (.invokevirtual 39, 3) := by decide +kernel
theorem dX2_step_55 : decode cX2_step 55 = .ok (.invokestatic 43, 3) := by decide +kernel
theorem dX2_step_58 : decode cX2_step 58 = .ok (.putfield 33, 3) := by decide +kernel
theorem dX2_step_61 : decode cX2_step 61 = .ok (.aload_n 0, 1) := by decide +kernel
theorem dX2_step_62 : decode cX2_step 62 = .ok (.aload_n 0, 1) := by decide +kernel
theorem dX2_step_63 : decode cX2_step 63 = .ok (.getfield 36, 3) := by decide +kernel
theorem dX2_step_66 : decode cX2_step 66 = .ok (.iconst 1, 1) := by decide +kernel
theorem dX2_step_67 : decode cX2_step 67 = .ok (.iadd, 1) := by decide +kernel
theorem dX2_step_68 : decode cX2_step 68 = .ok (.putfield 23, 3) := by decide +kernel
theorem dX2_step_71 : decode cX2_step 71 = .ok (.aload_n 0, 1) := by decide +kernel
theorem dX2_step_72 : decode cX2_step 72 = .ok (.getfield 33, 3) := by decide +kernel
theorem dX2_step_75 : decode cX2_step 75 = .ok (.iconst 1, 1) := by decide +kernel
theorem dX2_step_76 : decode cX2_step 76 = .ok (.if_icmp .eq 11, 3) := by decide +kernel
theorem dX2_step_79 : decode cX2_step 79 = .ok (.aload_n 0, 1) := by decide +kernel
theorem dX2_step_80 : decode cX2_step 80 = .ok (.getfield 33, 3) := by decide +kernel
theorem dX2_step_83 : decode cX2_step 83 = .ok (.iconst 2, 1) := by decide +kernel
theorem dX2_step_84 : decode cX2_step 84 = .ok (.if_icmp .ne 46, 3) := by decide +kernel
theorem dX2_step_87 : decode cX2_step 87 = .ok (.iconst 0, 1) := by decide +kernel
theorem dX2_step_88 : decode cX2_step 88 = .ok (.istore_n 1, 1) := by decide +kernel
theorem dX2_step_89 : decode cX2_step 89 = .ok (.iload_n 1, 1) := by decide +kernel
theorem dX2_step_90 : decode cX2_step 90 = .ok (.sipush 250, 3) := by decide +kernel
theorem dX2_step_93 : decode cX2_step 93 = .ok (.if_icmp .ge 37, 3) := by decide +kernel
theorem dX2_step_96 : decode cX2_step 96 = .ok (.aload_n 0, 1) := by decide +kernel
theorem dX2_step_97 : decode cX2_step 97 = .ok (.aload_n 0, 1) := by decide +kernel
theorem dX2_step_98 : decode cX2_step 98 = .ok (.getfield 23, 3) := by decide +kernel
theorem dX2_step_101 : decode cX2_step 101 = .ok (.invokevirtual 39, 3) := by decide +kernel
theorem dX2_step_104 : decode cX2_step 104 = .ok (.invokestatic 43, 3) := by decide +kernel
theorem dX2_step_107 : decode cX2_step 107 = .ok (.aload_n 0, 1) := by decide +kernel
theorem dX2_step_108 : decode cX2_step 108 = .ok (.getfield 33, 3) := by decide +kernel
theorem dX2_step_111 : decode cX2_step 111 = .ok (.if_icmp .ne 19, 3) := by decide +kernel
theorem dX2_step_114 : decode cX2_step 114 = .ok (.aload_n 0, 1) := by decide +kernel
theorem dX2_step_115 : decode cX2_step 115 = .ok (.dup, 1) := by decide +kernel
theorem dX2_step_116 : decode cX2_step 116 = .ok (.getfield 23, 3) := by decide +kernel
theorem dX2_step_119 : decode cX2_step 119 = .ok (.iconst 1, 1) := by decide +kernel
theorem dX2_step_120 : decode cX2_step 120 = .ok (.iadd, 1) := by decide +kernel
theorem dX2_step_121 : decode cX2_step 121 = .ok (.putfield 23, 3) := by decide +kernel
theorem dX2_step_124 : decode cX2_step 124 = .ok (.iinc 1 1, 3) := by decide +kernel
theorem dX2_step_127 : decode cX2_step 127 = .ok (.goto (-38), 3) := by decide +kernel
theorem dX2_step_130 : decode cX2_step 130 = .ok (.return_, 1) := by decide +kernel
theorem dX2_tokenOf_0 : decode cX2_tokenOf 0 = .ok (.iload_n 0, 1) := by decide +kernel
theorem dX2_tokenOf_1 : decode cX2_tokenOf 1 = .ok (.iconst (-1), 1) := by decide +kernel
theorem dX2_tokenOf_2 : decode cX2_tokenOf 2 = .ok (.if_icmp .ne 5, 3) := by decide +kernel
theorem dX2_tokenOf_5 : decode cX2_tokenOf 5 = .ok (.iconst 0, 1) := by decide +kernel
theorem dX2_tokenOf_6 : decode cX2_tokenOf 6 = .ok (.ireturn, 1) := by decide +kernel
theorem dX2_tokenOf_7 : decode cX2_tokenOf 7 = .ok (.iload_n 0, 1) := by decide +kernel
theorem dX2_tokenOf_8 : decode cX2_tokenOf 8 = .ok (.bipush 97, 2) := by decide +kernel
theorem dX2_tokenOf_10 : decode cX2_tokenOf 10 = .ok (.if_icmp .lt 11, 3) := by decide +kernel
theorem dX2_tokenOf_13 : decode cX2_tokenOf 13 = .ok (.iload_n 0, 1) := by decide +kernel
theorem dX2_tokenOf_14 : decode cX2_tokenOf 14 = .ok (.bipush 122, 2) := by decide +kernel
theorem dX2_tokenOf_16 : decode cX2_tokenOf 16 = .ok (.if_icmp .gt 5, 3) := by decide +kernel
theorem dX2_tokenOf_19 : decode cX2_tokenOf 19 = .ok (.iconst 1, 1) := by decide +kernel
theorem dX2_tokenOf_20 : decode cX2_tokenOf 20 = .ok (.ireturn, 1) := by decide +kernel
theorem dX2_tokenOf_21 : decode cX2_tokenOf 21 = .ok (.iload_n 0, 1) := by decide +kernel
theorem dX2_tokenOf_22 : decode cX2_tokenOf 22 = .ok (.bipush 48, 2) := by decide +kernel
theorem dX2_tokenOf_24 : decode cX2_tokenOf 24 = .ok (.if_icmp .lt 11, 3) := by decide +kernel
theorem dX2_tokenOf_27 : decode cX2_tokenOf 27 = .ok (.iload_n 0, 1) := by decide +kernel
theorem dX2_tokenOf_28 : decode cX2_tokenOf 28 = .ok (.bipush 57, 2) := by decide +kernel
theorem dX2_tokenOf_30 : decode cX2_tokenOf 30 = .ok (.if_icmp .gt 5, 3) := by decide +kernel
theorem dX2_tokenOf_33 : decode cX2_tokenOf 33 = .ok (.iconst 2, 1) := by decide +kernel
theorem dX2_tokenOf_34 : decode cX2_tokenOf 34 = .ok (.ireturn, 1) := by decide +kernel
theorem dX2_tokenOf_35 : decode cX2_tokenOf 35 = .ok (.iload_n 0, 1) := by decide +kernel
theorem dX2_tokenOf_36 : decode cX2_tokenOf 36 = .ok (.bipush 59, 2) := by decide +kernel
theorem dX2_tokenOf_38 : decode cX2_tokenOf 38 = .ok (.if_icmp .ne 7, 3) := by decide +kernel
theorem dX2_tokenOf_41 : decode cX2_tokenOf 41 = .ok (.iconst 3, 1) := by decide +kernel
theorem dX2_tokenOf_42 : decode cX2_tokenOf 42 = .ok (.goto 4, 3) := by decide +kernel
theorem dX2_tokenOf_45 : decode cX2_tokenOf 45 = .ok (.iconst 4, 1) := by decide +kernel
theorem dX2_tokenOf_46 : decode cX2_tokenOf 46 = .ok (.ireturn, 1) := by decide +kernel
theorem dX2_readStatement_0 : decode cX2_readStatement 0 = .ok (.aload_n 0, 1) := by decide +kernel
theorem dX2_readStatement_1 : decode cX2_readStatement 1 = .ok (.ldc 46, 2) := by decide +kernel
theorem dX2_readStatement_3 : decode cX2_readStatement 3 = .ok (.invokevirtual 48, 3) := by decide +kernel
theorem dX2_readStatement_6 : decode cX2_readStatement 6 = .ok (.ifCond .eq 9, 3) := by decide +kernel
theorem dX2_readStatement_9 : decode cX2_readStatement 9 = .ok (.aload_n 0, 1) := by decide +kernel
theorem dX2_readStatement_10 : decode cX2_readStatement 10 = .ok (.aload_n 1, 1) := by decide +kernel
theorem dX2_readStatement_11 : decode cX2_readStatement 11 = .ok (.invokevirtual 52, 3) := by decide +kernel
theorem dX2_readStatement_14 : decode cX2_readStatement 14 = .ok (.ireturn, 1) := by decide +kernel
theorem dX2_readStatement_15 : decode cX2_readStatement 15 = .ok (.aload_n 0, 1) := by decide +kernel
theorem dX2_readStatement_16 : decode cX2_readStatement 16 = .ok (.ldc 55, 2) := by decide +kernel
theorem dX2_readStatement_18 : decode cX2_readStatement 18 = .ok (.invokevirtual 48, 3) := by decide +kernel
theorem dX2_readStatement_21 : decode cX2_readStatement 21 = .ok (.ifCond .eq 9, 3) := by decide +kernel
theorem dX2_readStatement_24 : decode cX2_readStatement 24 = .ok (.aload_n 0, 1) := by decide +kernel
theorem dX2_readStatement_25 : decode cX2_readStatement 25 = .ok (.aload_n 1, 1) := by decide +kernel
theorem dX2_readStatement_26 : decode cX2_readStatement 26 = .ok (.invokevirtual 57, 3) := by decide +kernel
theorem dX2_readStatement_29 : decode cX2_readStatement 29 = .ok (.ireturn, 1) := by decide +kernel
theorem dX2_readStatement_30 : decode cX2_readStatement 30 = .ok (.aload_n 0, 1) := by decide +kernel
theorem dX2_readStatement_31 : decode cX2_readStatement 31 = .ok (.ldc 60, 2) := by decide +kernel
theorem dX2_readStatement_33 : decode cX2_readStatement 33 = .ok (.invokevirtual 48, 3) := by decide +kernel
theorem dX2_readStatement_36 : decode cX2_readStatement 36 = .ok (.ifCond .eq 9, 3) := by decide +kernel
theorem dX2_readStatement_39 : decode cX2_readStatement 39 = .ok (.aload_n 0, 1) := by decide +kernel
theorem dX2_readStatement_40 : decode cX2_readStatement 40 = .ok (.aload_n 1, 1) := by decide +kernel
theorem dX2_readStatement_41 : decode cX2_readStatement 41 = .ok (.invokevirtual 62, 3) := by decide +kernel
theorem dX2_readStatement_44 : decode cX2_readStatement 44 = .ok (.ireturn, 1) := by decide +kernel
theorem dX2_readStatement_45 : decode cX2_readStatement 45 = .ok (.aload_n 0, 1) := by decide +kernel
theorem dX2_readStatement_46 : decode cX2_readStatement 46 = .ok (.ldc 65, 2) := by decide +kernel
theorem dX2_readStatement_48 : decode cX2_readStatement 48 = .ok (.invokevirtual 48, 3) := by decide +kernel
theorem dX2_readStatement_51 : decode cX2_readStatement 51 = .ok (.ifCond .eq 27, 3) := by decide +kernel
theorem dX2_readStatement_54 : decode cX2_readStatement 54 = .ok (.aload_n 0, 1) := by decide +kernel
theorem dX2_readStatement_55 : decode cX2_readStatement 55 = .ok (.iconst 0, 1) := by decide +kernel
theorem dX2_readStatement_56 : decode cX2_readStatement 56 = .ok (.bipush 40, 2) := by decide +kernel
theorem dX2_readStatement_58 : decode cX2_readStatement 58 = .ok (.invokevirtual 67, 3) := by decide +kernel
theorem dX2_readStatement_61 : decode cX2_readStatement 61 = .ok (.istore_n 2, 1) := by decide +kernel
theorem dX2_readStatement_62 : decode cX2_readStatement 62 = .ok (.aload_n 1, 1) := by decide +kernel
theorem dX2_readStatement_63 : decode cX2_readStatement 63 = .ok (.iload_n 2, 1) := by decide +kernel
theorem dX2_readStatement_64 : decode cX2_readStatement 64 = .ok (.putfield 71, 3) := by decide +kernel
theorem dX2_readStatement_67 : decode cX2_readStatement 67 = .ok (.iload_n 2, 1) := by decide +kernel
theorem dX2_readStatement_68 : decode cX2_readStatement 68 = .ok (.iconst (-1), 1) := by decide +kernel
theorem dX2_readStatement_69 : decode cX2_readStatement 69 = .ok (.if_icmp .eq 7, 3) := by decide +kernel
theorem dX2_readStatement_72 : decode cX2_readStatement 72 = .ok (.iconst 1, 1) := by decide +kernel
theorem dX2_readStatement_73 : decode cX2_readStatement 73 = .ok (.goto 4, 3) := by decide +kernel
theorem dX2_readStatement_76 : decode cX2_readStatement 76 = .ok (.iconst 0, 1) := by decide +kernel
theorem dX2_readStatement_77 : decode cX2_readStatement 77 = .ok (.ireturn, 1) := by decide +kernel
theorem dX2_readStatement_78 : decode cX2_readStatement 78 = .ok (.aload_n 0, 1) := by decide +kernel
theorem dX2_readStatement_79 : decode cX2_readStatement 79 = .ok (.ldc 75, 2) := by decide +kernel
theorem dX2_readStatement_81 : decode cX2_readStatement 81 = .ok (.invokevirtual 48, 3) := by decide +kernel
theorem dX2_readStatement_84 : decode cX2_readStatement 84 = .ok (.ifCond .eq 27, 3) := by decide +kernel
theorem dX2_readStatement_87 : decode cX2_readStatement 87 = .ok (.aload_n 0, 1) := by decide +kernel
theorem dX2_readStatement_88 : decode cX2_readStatement 88 = .ok (.iconst 0, 1) := by decide +kernel
theorem dX2_readStatement_89 : decode cX2_readStatement 89 = .ok (.bipush 9, 2) := by decide +kernel
theorem dX2_readStatement_91 : decode cX2_readStatement 91 = .ok (.invokevirtual 67, 3) := by decide +kernel
theorem dX2_readStatement_94 : decode cX2_readStatement 94 = .ok (.istore_n 2, 1) := by decide +kernel
theorem dX2_readStatement_95 : decode cX2_readStatement 95 = .ok (.aload_n 1, 1) := by decide +kernel
theorem dX2_readStatement_96 : decode cX2_readStatement 96 = .ok (.iload_n 2, 1) := by decide +kernel
theorem dX2_readStatement_97 : decode cX2_readStatement 97 = .ok (.putfield 77, 3) := by decide +kernel
theorem dX2_readStatement_100 : decode cX2_readStatement 100 = .ok (.iload_n 2, 1) := by decide +kernel
theorem dX2_readStatement_101 : decode cX2_readStatement 101 = .ok (.iconst (-1), 1) := by decide +kernel
theorem dX2_readStatement_102 : decode cX2_readStatement 102 = .ok (.if_icmp .eq 7, 3) := by decide +kernel
theorem dX2_readStatement_105 : decode cX2_readStatement 105 = .ok (.iconst 1, 1) := by decide +kernel
theorem dX2_readStatement_106 : decode cX2_readStatement 106 = .ok (.goto 4, 3) := by decide +kernel
theorem dX2_readStatement_109 : decode cX2_readStatement 109 = .ok (.iconst 0, 1) := by decide +kernel
theorem dX2_readStatement_110 : decode cX2_readStatement 110 = .ok (.ireturn, 1) := by decide +kernel
theorem dX2_readStatement_111 : decode cX2_readStatement 111 = .ok (.aload_n 0, 1) := by decide +kernel
theorem dX2_readStatement_112 : decode cX2_readStatement 112 = .ok (.ldc 79, 2) := by decide +kernel
theorem dX2_readStatement_114 : decode cX2_readStatement 114 = .ok (.invokevirtual 48, 3) := by decide +kernel
theorem dX2_readStatement_117 : decode cX2_readStatement 117 = .ok (.ifCond .eq 28, 3) := by decide +kernel
theorem dX2_readStatement_120 : decode cX2_readStatement 120 = .ok (.aload_n 0, 1) := by decide +kernel
theorem dX2_readStatement_121 : decode cX2_readStatement 121 = .ok (.iconst 0, 1) := by decide +kernel
theorem dX2_readStatement_122 : decode cX2_readStatement 122 = .ok (.sipush 999, 3) := by decide +kernel
theorem dX2_readStatement_125 : decode cX2_readStatement 125 = .ok (.invokevirtual 67, 3) := by decide +kernel
theorem dX2_readStatement_128 : decode cX2_readStatement 128 = .ok (.istore_n 2, 1) := by decide +kernel
theorem dX2_readStatement_129 : decode cX2_readStatement 129 = .ok (.aload_n 1, 1) := by decide +kernel
theorem dX2_readStatement_130 : decode cX2_readStatement 130 = .ok (.iload_n 2, 1) := by decide +kernel
theorem dX2_readStatement_131 : decode cX2_readStatement 131 = .ok (.putfield 81, 3) := by decide +kernel
theorem dX2_readStatement_134 : decode cX2_readStatement 134 = .ok (.iload_n 2, 1) := by decide +kernel
theorem dX2_readStatement_135 : decode cX2_readStatement 135 = .ok (.iconst (-1), 1) := by decide +kernel
theorem dX2_readStatement_136 : decode cX2_readStatement 136 = .ok (.if_icmp .eq 7, 3) := by decide +kernel
theorem dX2_readStatement_139 : decode cX2_readStatement 139 = .ok (.iconst 1, 1) := by decide +kernel
theorem dX2_readStatement_140 : decode cX2_readStatement 140 = .ok (.goto 4, 3) := by decide +kernel
theorem dX2_readStatement_143 : decode cX2_readStatement 143 = .ok (.iconst 0, 1) := by decide +kernel
theorem dX2_readStatement_144 : decode cX2_readStatement 144 = .ok (.ireturn, 1) := by decide +kernel
theorem dX2_readStatement_145 : decode cX2_readStatement 145 = .ok (.iconst 0, 1) := by decide +kernel
theorem dX2_readStatement_146 : decode cX2_readStatement 146 = .ok (.ireturn, 1) := by decide +kernel
theorem dX2_readVoice_0 : decode cX2_readVoice 0 = .ok (.aload_n 1, 1) := by decide +kernel
theorem dX2_readVoice_1 : decode cX2_readVoice 1 = .ok (.invokevirtual 83, 3) := by decide +kernel
theorem dX2_readVoice_4 : decode cX2_readVoice 4 = .ok (.ifCond .ne 5, 3) := by decide +kernel
theorem dX2_readVoice_7 : decode cX2_readVoice 7 = .ok (.iconst 0, 1) := by decide +kernel
theorem dX2_readVoice_8 : decode cX2_readVoice 8 = .ok (.ireturn, 1) := by decide +kernel
theorem dX2_readVoice_9 : decode cX2_readVoice 9 = .ok (.aload_n 0, 1) := by decide +kernel
theorem dX2_readVoice_10 : decode cX2_readVoice 10 = .ok (.iconst 0, 1) := by decide +kernel
theorem dX2_readVoice_11 : decode cX2_readVoice 11 = .ok (.iconst 5, 1) := by decide +kernel
theorem dX2_readVoice_12 : decode cX2_readVoice 12 = .ok (.invokevirtual 67, 3) := by decide +kernel
theorem dX2_readVoice_15 : decode cX2_readVoice 15 = .ok (.istore_n 2, 1) := by decide +kernel
theorem dX2_readVoice_16 : decode cX2_readVoice 16 = .ok (.iload_n 2, 1) := by decide +kernel
theorem dX2_readVoice_17 : decode cX2_readVoice 17 = .ok (.iconst (-1), 1) := by decide +kernel
theorem dX2_readVoice_18 : decode cX2_readVoice 18 = .ok (.if_icmp .ne 5, 3) := by decide +kernel
theorem dX2_readVoice_21 : decode cX2_readVoice 21 = .ok (.iconst 0, 1) := by decide +kernel
theorem dX2_readVoice_22 : decode cX2_readVoice 22 = .ok (.ireturn, 1) := by decide +kernel
theorem dX2_readVoice_23 : decode cX2_readVoice 23 = .ok (.aload_n 0, 1) := by decide +kernel
theorem dX2_readVoice_24 : decode cX2_readVoice 24 = .ok (.iconst 0, 1) := by decide +kernel
theorem dX2_readVoice_25 : decode cX2_readVoice 25 = .ok (.bipush 9, 2) := by decide +kernel
theorem dX2_readVoice_27 : decode cX2_readVoice 27 = .ok (.invokevirtual 67, 3) := by decide +kernel
theorem dX2_readVoice_30 : decode cX2_readVoice 30 = .ok (.istore_n 3, 1) := by decide +kernel
theorem dX2_readVoice_31 : decode cX2_readVoice 31 = .ok (.iload_n 3, 1) := by decide +kernel
theorem dX2_readVoice_32 : decode cX2_readVoice 32 = .ok (.iconst (-1), 1) := by decide +kernel
theorem dX2_readVoice_33 : decode cX2_readVoice 33 = .ok (.if_icmp .ne 5, 3) := by decide +kernel
theorem dX2_readVoice_36 : decode cX2_readVoice 36 = .ok (.iconst 0, 1) := by decide +kernel
theorem dX2_readVoice_37 : decode cX2_readVoice 37 = .ok (.ireturn, 1) := by decide +kernel
theorem dX2_readVoice_38 : decode cX2_readVoice 38 = .ok (.aload_n 0, 1) := by decide +kernel
theorem dX2_readVoice_39 : decode cX2_readVoice 39 = .ok (.iconst 0, 1) := by decide +kernel
theorem dX2_readVoice_40 : decode cX2_readVoice 40 = .ok (.bipush 20, 2) := by decide +kernel
theorem dX2_readVoice_42 : decode cX2_readVoice 42 = .ok (.invokevirtual 67, 3) := by decide +kernel
theorem dX2_readVoice_45 : decode cX2_readVoice 45 = .ok (.istore 4, 2) := by decide +kernel
theorem dX2_readVoice_47 : decode cX2_readVoice 47 = .ok (.iload 4, 2) := by decide +kernel
theorem dX2_readVoice_49 : decode cX2_readVoice 49 = .ok (.iconst (-1), 1) := by decide +kernel
theorem dX2_readVoice_50 : decode cX2_readVoice 50 = .ok (.if_icmp .ne 5, 3) := by decide +kernel
theorem dX2_readVoice_53 : decode cX2_readVoice 53 = .ok (.iconst 0, 1) := by decide +kernel
theorem dX2_readVoice_54 : decode cX2_readVoice 54 = .ok (.ireturn, 1) := by decide +kernel
theorem dX2_readVoice_55 : decode cX2_readVoice 55 = .ok (.aload_n 1, 1) := by decide +kernel
theorem dX2_readVoice_56 : decode cX2_readVoice 56 = .ok (.iload_n 2, 1) := by decide +kernel
theorem dX2_readVoice_57 : decode cX2_readVoice 57 = .ok (.iload_n 3, 1) := by decide +kernel
theorem dX2_readVoice_58 : decode cX2_readVoice 58 = .ok (.iload 4, 2) := by decide +kernel
theorem dX2_readVoice_60 : decode cX2_readVoice 60 = .ok (.invokevirtual 87, 3) := by decide +kernel
theorem dX2_readVoice_63 : decode cX2_readVoice 63 = .ok (.iconst 1, 1) := by decide +kernel
theorem dX2_readVoice_64 : decode cX2_readVoice 64 = .ok (.ireturn, 1) := by decide +kernel
theorem dX2_readPitch_0 : decode cX2_readPitch 0 = .ok (.aload_n 0, 1) := by decide +kernel
theorem dX2_readPitch_1 : decode cX2_readPitch 1 = .ok (.iconst 0, 1) := by decide +kernel
theorem dX2_readPitch_2 : decode cX2_readPitch 2 = .ok (.aload_n 1, 1) := by decide +kernel
theorem dX2_readPitch_3 : decode cX2_readPitch 3 = .ok (.getfield 91, 3) := by decide +kernel
theorem dX2_readPitch_6 : decode cX2_readPitch 6 = .ok (.iconst 1, 1) := by decide +kernel
theorem dX2_readPitch_7 : decode cX2_readPitch 7 = .ok (.isub, 1) := by decide +kernel
theorem dX2_readPitch_8 : decode cX2_readPitch 8 = .ok (.invokevirtual 67, 3) := by decide +kernel
theorem dX2_readPitch_11 : decode cX2_readPitch 11 = .ok (.istore_n 2, 1) := by decide +kernel
theorem dX2_readPitch_12 : decode cX2_readPitch 12 = .ok (.iload_n 2, 1) := by decide +kernel
theorem dX2_readPitch_13 : decode cX2_readPitch 13 = .ok (.iconst (-1), 1) := by decide +kernel
theorem dX2_readPitch_14 : decode cX2_readPitch 14 = .ok (.if_icmp .ne 5, 3) := by decide +kernel
theorem dX2_readPitch_17 : decode cX2_readPitch 17 = .ok (.iconst 0, 1) := by decide +kernel
theorem dX2_readPitch_18 : decode cX2_readPitch 18 = .ok (.ireturn, 1) := by decide +kernel
theorem dX2_readPitch_19 : decode cX2_readPitch 19 = .ok (.aload_n 0, 1) := by decide +kernel
theorem dX2_readPitch_20 : decode cX2_readPitch 20 = .ok (.iconst 0, 1) := by decide +kernel
theorem dX2_readPitch_21 : decode cX2_readPitch 21 = .ok (.bipush 20, 2) := by decide +kernel
theorem dX2_readPitch_23 : decode cX2_readPitch 23 = .ok (.invokevirtual 67, 3) := by decide +kernel
theorem dX2_readPitch_26 : decode cX2_readPitch 26 = .ok (.istore_n 3, 1) := by decide +kernel
theorem dX2_readPitch_27 : decode cX2_readPitch 27 = .ok (.iload_n 3, 1) := by decide +kernel
theorem dX2_readPitch_28 : decode cX2_readPitch 28 = .ok (.iconst (-1), 1) := by decide +kernel
theorem dX2_readPitch_29 : decode cX2_readPitch 29 = .ok (.if_icmp .ne 5, 3) := by decide +kernel
theorem dX2_readPitch_32 : decode cX2_readPitch 32 = .ok (.iconst 0, 1) := by decide +kernel
theorem dX2_readPitch_33 : decode cX2_readPitch 33 = .ok (.ireturn, 1) := by decide +kernel
theorem dX2_readPitch_34 : decode cX2_readPitch 34 = .ok (.aload_n 1, 1) := by decide +kernel
theorem dX2_readPitch_35 : decode cX2_readPitch 35 = .ok (.iload_n 2, 1) := by decide +kernel
theorem dX2_readPitch_36 : decode cX2_readPitch 36 = .ok (.iload_n 3, 1) := by decide +kernel
theorem dX2_readPitch_37 : decode cX2_readPitch 37 = .ok (.invokevirtual 94, 3) := by decide +kernel
theorem dX2_readPitch_40 : decode cX2_readPitch 40 = .ok (.iconst 1, 1) := by decide +kernel
theorem dX2_readPitch_41 : decode cX2_readPitch 41 = .ok (.ireturn, 1) := by decide +kernel
theorem dX2_readWeight_0 : decode cX2_readWeight 0 = .ok (.aload_n 0, 1) := by decide +kernel
theorem dX2_readWeight_1 : decode cX2_readWeight 1 = .ok (.iconst 2, 1) := by decide +kernel
theorem dX2_readWeight_2 : decode cX2_readWeight 2 = .ok (.bipush 9, 2) := by decide +kernel
theorem dX2_readWeight_4 : decode cX2_readWeight 4 = .ok (.invokevirtual 67, 3) := by decide +kernel
theorem dX2_readWeight_7 : decode cX2_readWeight 7 = .ok (.istore_n 2, 1) := by decide +kernel
theorem dX2_readWeight_8 : decode cX2_readWeight 8 = .ok (.iload_n 2, 1) := by decide +kernel
theorem dX2_readWeight_9 : decode cX2_readWeight 9 = .ok (.iconst (-1), 1) := by decide +kernel
theorem dX2_readWeight_10 : decode cX2_readWeight 10 = .ok (.if_icmp .ne 5, 3) := by decide +kernel
theorem dX2_readWeight_13 : decode cX2_readWeight 13 = .ok (.iconst 0, 1) := by decide +kernel
theorem dX2_readWeight_14 : decode cX2_readWeight 14 = .ok (.ireturn, 1) := by decide +kernel
theorem dX2_readWeight_15 : decode cX2_readWeight 15 = .ok (.aload_n 0, 1) := by decide +kernel
theorem dX2_readWeight_16 : decode cX2_readWeight 16 = .ok (.iconst 0, 1) := by decide +kernel
theorem dX2_readWeight_17 : decode cX2_readWeight 17 = .ok (.iload_n 2, 1) := by decide +kernel
theorem dX2_readWeight_18 : decode cX2_readWeight 18 = .ok (.iconst 1, 1) := by decide +kernel
theorem dX2_readWeight_19 : decode cX2_readWeight 19 = .ok (.isub, 1) := by decide +kernel
theorem dX2_readWeight_20 : decode cX2_readWeight 20 = .ok (.invokevirtual 67, 3) := by decide +kernel
theorem dX2_readWeight_23 : decode cX2_readWeight 23 = .ok (.istore_n 3, 1) := by decide +kernel
theorem dX2_readWeight_24 : decode cX2_readWeight 24 = .ok (.iload_n 3, 1) := by decide +kernel
theorem dX2_readWeight_25 : decode cX2_readWeight 25 = .ok (.iconst (-1), 1) := by decide +kernel
theorem dX2_readWeight_26 : decode cX2_readWeight 26 = .ok (.if_icmp .ne 5, 3) := by decide +kernel
theorem dX2_readWeight_29 : decode cX2_readWeight 29 = .ok (.iconst 0, 1) := by decide +kernel
theorem dX2_readWeight_30 : decode cX2_readWeight 30 = .ok (.ireturn, 1) := by decide +kernel
theorem dX2_readWeight_31 : decode cX2_readWeight 31 = .ok (.aload_n 1, 1) := by decide +kernel
theorem dX2_readWeight_32 : decode cX2_readWeight 32 = .ok (.iload_n 2, 1) := by decide +kernel
theorem dX2_readWeight_33 : decode cX2_readWeight 33 = .ok (.putfield 98, 3) := by decide +kernel
theorem dX2_readWeight_36 : decode cX2_readWeight 36 = .ok (.aload_n 1, 1) := by decide +kernel
theorem dX2_readWeight_37 : decode cX2_readWeight 37 = .ok (.iload_n 3, 1) := by decide +kernel
theorem dX2_readWeight_38 : decode cX2_readWeight 38 = .ok (.putfield 101, 3) := by decide +kernel
theorem dX2_readWeight_41 : decode cX2_readWeight 41 = .ok (.iconst 1, 1) := by decide +kernel
theorem dX2_readWeight_42 : decode cX2_readWeight 42 = .ok (.ireturn, 1) := by decide +kernel
theorem dX2_readNumber_0 : decode cX2_readNumber 0 = .ok (.aload_n 0, 1) := by decide +kernel
theorem dX2_readNumber_1 : decode cX2_readNumber 1 = .ok (.invokevirtual 26, 3) := by decide +kernel
theorem dX2_readNumber_4 : decode cX2_readNumber 4 = .ok (.aload_n 0, 1) := by decide +kernel
theorem dX2_readNumber_5 : decode cX2_readNumber 5 = .ok (.getfield 33, 3) := by decide +kernel
theorem dX2_readNumber_8 : decode cX2_readNumber 8 = .ok (.iconst 2, 1) := by decide +kernel
theorem dX2_readNumber_9 : decode cX2_readNumber 9 = .ok (.if_icmp .ne 16, 3) := by decide +kernel
theorem dX2_readNumber_12 : decode cX2_readNumber 12 = .ok (.aload_n 0, 1) := by decide +kernel
theorem dX2_readNumber_13 : decode cX2_readNumber 13 = .ok (.getfield 23, 3) := by decide +kernel
theorem dX2_readNumber_16 : decode cX2_readNumber 16 = .ok (.aload_n 0, 1) := by decide +kernel
theorem dX2_readNumber_17 : decode cX2_readNumber 17 = .ok (.getfield 36, 3) := by decide +kernel
theorem dX2_readNumber_20 : decode cX2_readNumber 20 = .ok (.isub, 1) := by decide +kernel
theorem dX2_readNumber_21 : decode cX2_readNumber 21 = .ok (.iconst 3, 1) := by decide +kernel
theorem dX2_readNumber_22 : decode cX2_readNumber 22 = .ok (.if_icmp .le 5, 3) := by decide +kernel
theorem dX2_readNumber_25 : decode cX2_readNumber 25 = .ok (.iconst (-1), 1) := by decide +kernel
theorem dX2_readNumber_26 : decode cX2_readNumber 26 = .ok (.ireturn, 1) := by decide +kernel
theorem dX2_readNumber_27 : decode cX2_readNumber 27 = .ok (.iconst 0, 1) := by decide +kernel
theorem dX2_readNumber_28 : decode cX2_readNumber 28 = .ok (.istore_n 3, 1) := by decide +kernel
theorem dX2_readNumber_29 : decode cX2_readNumber 29 = .ok (.aload_n 0, 1) := by decide +kernel
theorem dX2_readNumber_30 : decode cX2_readNumber 30 = .ok (.getfield 36, 3) := by decide +kernel
theorem dX2_readNumber_33 : decode cX2_readNumber 33 = .ok (.istore 4, 2) := by decide +kernel
theorem dX2_readNumber_35 : decode cX2_readNumber 35 = .ok (.iload 4, 2) := by decide +kernel
theorem dX2_readNumber_37 : decode cX2_readNumber 37 = .ok (.aload_n 0, 1) := by decide +kernel
theorem dX2_readNumber_38 : decode cX2_readNumber 38 = .ok (.getfield 23, 3) := by decide +kernel
theorem dX2_readNumber_41 : decode cX2_readNumber 41 = .ok (.if_icmp .ge 24, 3) := by decide +kernel
theorem dX2_readNumber_44 : decode cX2_readNumber 44 = .ok (.bipush 10, 2) := by decide +kernel
theorem dX2_readNumber_46 : decode cX2_readNumber 46 = .ok (.iload_n 3, 1) := by decide +kernel
theorem dX2_readNumber_47 : decode cX2_readNumber 47 = .ok (.imul, 1) := by decide +kernel
theorem dX2_readNumber_48 : decode cX2_readNumber 48 = .ok (.aload_n 0, 1) := by decide +kernel
theorem dX2_readNumber_49 : decode cX2_readNumber 49 = .ok (.iload 4, 2) := by decide +kernel
theorem dX2_readNumber_51 : decode cX2_readNumber 51 = .ok (.invokevirtual 39, 3) := by decide +kernel
theorem dX2_readNumber_54 : decode cX2_readNumber 54 = .ok (.iadd, 1) := by decide +kernel
theorem dX2_readNumber_55 : decode cX2_readNumber 55 = .ok (.bipush 48, 2) := by decide +kernel
theorem dX2_readNumber_57 : decode cX2_readNumber 57 = .ok (.isub, 1) := by decide +kernel
theorem dX2_readNumber_58 : decode cX2_readNumber 58 = .ok (.istore_n 3, 1) := by decide +kernel
theorem dX2_readNumber_59 : decode cX2_readNumber 59 = .ok (.iinc 4 1, 3) := by decide +kernel
theorem dX2_readNumber_62 : decode cX2_readNumber 62 = .ok (.goto (-27), 3) := by decide +kernel
theorem dX2_readNumber_65 : decode cX2_readNumber 65 = .ok (.iload_n 3, 1) := by decide +kernel
theorem dX2_readNumber_66 : decode cX2_readNumber 66 = .ok (.iload_n 1, 1) := by decide +kernel
theorem dX2_readNumber_67 : decode cX2_readNumber 67 = .ok (.iload_n 2, 1) := by decide +kernel
theorem dX2_readNumber_68 : decode cX2_readNumber 68 = .ok (.invokestatic 19, 3) := by decide +kernel
theorem dX2_readNumber_71 : decode cX2_readNumber 71 = .ok (.ifCond .eq 7, 3) := by decide +kernel
theorem dX2_readNumber_74 : decode cX2_readNumber 74 = .ok (.iload_n 3, 1) := by decide +kernel
theorem dX2_readNumber_75 : decode cX2_readNumber 75 = .ok (.goto 4, 3) := by decide +kernel
theorem dX2_readNumber_78 : decode cX2_readNumber 78 = .ok (.iconst (-1), 1) := by decide +kernel
theorem dX2_readNumber_79 : decode cX2_readNumber 79 = .ok (.ireturn, 1) := by decide +kernel
theorem dX2_isAtWord_0 : decode cX2_isAtWord 0 = .ok (.aload_n 0, 1) := by decide +kernel
theorem dX2_isAtWord_1 : decode cX2_isAtWord 1 = .ok (.getfield 33, 3) := by decide +kernel
theorem dX2_isAtWord_4 : decode cX2_isAtWord 4 = .ok (.iconst 1, 1) := by decide +kernel
theorem dX2_isAtWord_5 : decode cX2_isAtWord 5 = .ok (.if_icmp .ne 19, 3) := by decide +kernel
theorem dX2_isAtWord_8 : decode cX2_isAtWord 8 = .ok (.aload_n 0, 1) := by decide +kernel
theorem dX2_isAtWord_9 : decode cX2_isAtWord 9 = .ok (.getfield 23, 3) := by decide +kernel
theorem dX2_isAtWord_12 : decode cX2_isAtWord 12 = .ok (.aload_n 0, 1) := by decide +kernel
theorem dX2_isAtWord_13 : decode cX2_isAtWord 13 = .ok (.getfield 36, 3) := by decide +kernel
theorem dX2_isAtWord_16 : decode cX2_isAtWord 16 = .ok (.isub, 1) := by decide +kernel
theorem dX2_isAtWord_17 : decode cX2_isAtWord 17 = .ok (.aload_n 1, 1) := by decide +kernel
theorem dX2_isAtWord_18 : decode cX2_isAtWord 18 = .ok (.invokevirtual 104, 3) := by decide +kernel
theorem dX2_isAtWord_21 : decode cX2_isAtWord 21 = .ok (.if_icmp .eq 5, 3) := by decide +kernel
theorem dX2_isAtWord_24 : decode cX2_isAtWord 24 = .ok (.iconst 0, 1) := by decide +kernel
theorem dX2_isAtWord_25 : decode cX2_isAtWord 25 = .ok (.ireturn, 1) := by decide +kernel
theorem dX2_isAtWord_26 : decode cX2_isAtWord 26 = .ok (.iconst 0, 1) := by decide +kernel
theorem dX2_isAtWord_27 : decode cX2_isAtWord 27 = .ok (.istore_n 2, 1) := by decide +kernel
theorem dX2_isAtWord_28 : decode cX2_isAtWord 28 = .ok (.iload_n 2, 1) := by decide +kernel
theorem dX2_isAtWord_29 : decode cX2_isAtWord 29 = .ok (.aload_n 1, 1) := by decide +kernel
theorem dX2_isAtWord_30 : decode cX2_isAtWord 30 = .ok (.invokevirtual 104, 3) := by decide +kernel
theorem dX2_isAtWord_33 : decode cX2_isAtWord 33 = .ok (.if_icmp .ge 29, 3) := by decide +kernel
theorem dX2_isAtWord_36 : decode cX2_isAtWord 36 = .ok (.aload_n 0, 1) := by decide +kernel
theorem dX2_isAtWord_37 : decode cX2_isAtWord 37 = .ok (.aload_n 0, 1) := by decide +kernel
theorem dX2_isAtWord_38 : decode cX2_isAtWord 38 = .ok (.getfield 36, 3) := by decide +kernel
theorem dX2_isAtWord_41 : decode cX2_isAtWord 41 = .ok (.iload_n 2, 1) := by decide +kernel
theorem dX2_isAtWord_42 : decode cX2_isAtWord 42 = .ok (.iadd, 1) := by decide +kernel
theorem dX2_isAtWord_43 : decode cX2_isAtWord 43 = .ok (.invokevirtual 39, 3) := by decide +kernel
theorem dX2_isAtWord_46 : decode cX2_isAtWord 46 = .ok (.aload_n 1, 1) := by decide +kernel
theorem dX2_isAtWord_47 : decode cX2_isAtWord 47 = .ok (.iload_n 2, 1) := by decide +kernel
theorem dX2_isAtWord_48 : decode cX2_isAtWord 48 = .ok (.invokevirtual 110, 3) := by decide +kernel
theorem dX2_isAtWord_51 : decode cX2_isAtWord 51 = .ok (.if_icmp .eq 5, 3) := by decide +kernel
theorem dX2_isAtWord_54 : decode cX2_isAtWord 54 = .ok (.iconst 0, 1) := by decide +kernel
theorem dX2_isAtWord_55 : decode cX2_isAtWord 55 = .ok (.ireturn, 1) := by decide +kernel
theorem dX2_isAtWord_56 : decode cX2_isAtWord 56 = .ok (.iinc 2 1, 3) := by decide +kernel
theorem dX2_isAtWord_59 : decode cX2_isAtWord 59 = .ok (.goto (-31), 3) := by decide +kernel
theorem dX2_isAtWord_62 : decode cX2_isAtWord 62 = .ok (.iconst 1, 1) := by decide +kernel
theorem dX2_isAtWord_63 : decode cX2_isAtWord 63 = .ok (.ireturn, 1) := by decide +kernel
theorem dX3_init_0 : decode cX3_init 0 = .ok (.aload_n 0, 1) := by decide +kernel
theorem dX3_init_1 : decode cX3_init 1 = .ok (.invokespecial 3, 3) := by decide +kernel
theorem dX3_init_4 : decode cX3_init 4 = .ok (.aload_n 0, 1) := by decide +kernel
theorem dX3_init_5 : decode cX3_init 5 = .ok (.bipush 13, 2) := by decide +kernel
theorem dX3_init_7 : decode cX3_init 7 = .ok (.newarray .int, 2) := by decide +kernel
theorem dX3_init_9 : decode cX3_init 9 = .ok (.putfield 9, 3) := by decide +kernel
theorem dX3_init_12 : decode cX3_init 12 = .ok (.return_, 1) := by decide +kernel
theorem dX3_standsFor_0 : decode cX3_standsFor 0 = .ok (.aload_n 0, 1) := by decide +kernel
theorem dX3_standsFor_1 : decode cX3_standsFor 1 = .ok (.aload_n 1, 1) := by decide +kernel
theorem dX3_standsFor_2 : decode cX3_standsFor 2 = .ok (.iload_n 2, 1) := by decide +kernel
theorem dX3_standsFor_3 : decode cX3_standsFor 3 = .ok (.invokevirtual 15, 3) := by decide +kernel
theorem dX3_standsFor_6 : decode cX3_standsFor 6 = .ok (.putfield 21, 3) := by decide +kernel
theorem dX3_standsFor_9 : decode cX3_standsFor 9 = .ok (.aload_n 0, 1) := by decide +kernel
theorem dX3_standsFor_10 : decode cX3_standsFor 10 = .ok (.aload_n 1, 1) := by decide +kernel
theorem dX3_standsFor_11 : decode cX3_standsFor 11 = .ok (.iload_n 2, 1) := by decide +kernel
theorem dX3_standsFor_12 : decode cX3_standsFor 12 = .ok (.invokevirtual 25, 3) := by decide +kernel
theorem dX3_standsFor_15 : decode cX3_standsFor 15 = .ok (.putfield 28, 3) := by decide +kernel
theorem dX3_standsFor_18 : decode cX3_standsFor 18 = .ok (.aload_n 0, 1) := by decide +kernel
theorem dX3_standsFor_19 : decode cX3_standsFor 19 = .ok (.aload_n 1, 1) := by decide +kernel
theorem dX3_standsFor_20 : decode cX3_standsFor 20 = .ok (.getfield 31, 3) := by decide +kernel
theorem dX3_standsFor_23 : decode cX3_standsFor 23 = .ok (.putfield 34, 3) := by decide +kernel
theorem dX3_standsFor_26 : decode cX3_standsFor 26 = .ok (.aload_n 0, 1) := by decide +kernel
theorem dX3_standsFor_27 : decode cX3_standsFor 27 = .ok (.aload_n 1, 1) := by decide +kernel
theorem dX3_standsFor_28 : decode cX3_standsFor 28 = .ok (.getfield 35, 3) := by decide +kernel
theorem dX3_standsFor_31 : decode cX3_standsFor 31 = .ok (.putfield 38, 3) := by decide +kernel
theorem dX3_standsFor_34 : decode cX3_standsFor 34 = .ok (.aload_n 0, 1) := by decide +kernel
theorem dX3_standsFor_35 : decode cX3_standsFor 35 = .ok (.aload_n 1, 1) := by decide +kernel
theorem dX3_standsFor_36 : decode cX3_standsFor 36 = .ok (.getfield 39, 3) := by decide +kernel
theorem dX3_standsFor_39 : decode cX3_standsFor 39 = .ok (.putfield 42, 3) := by decide +kernel
theorem dX3_standsFor_42 : decode cX3_standsFor 42 = .ok (.aload_n 0, 1) := by decide +kernel
theorem dX3_standsFor_43 : decode cX3_standsFor 43 = .ok (.aload_n 1, 1) := by decide +kernel
theorem dX3_standsFor_44 : decode cX3_standsFor 44 = .ok (.getfield 43, 3) := by decide +kernel
theorem dX3_standsFor_47 : decode cX3_standsFor 47 = .ok (.putfield 46, 3) := by decide +kernel
theorem dX3_standsFor_50 : decode cX3_standsFor 50 = .ok (.aload_n 0, 1) := by decide +kernel
theorem dX3_standsFor_51 : decode cX3_standsFor 51 = .ok (.aload_n 1, 1) := by decide +kernel
theorem dX3_standsFor_52 : decode cX3_standsFor 52 = .ok (.getfield 47, 3) := by decide +kernel
theorem dX3_standsFor_55 : decode cX3_standsFor 55 = .ok (.putfield 50, 3) := by decide +kernel
theorem dX3_standsFor_58 : decode cX3_standsFor 58 = .ok (.aload_n 0, 1) := by decide +kernel
theorem dX3_standsFor_59 : decode cX3_standsFor 59 = .ok (.iconst 0, 1) := by decide +kernel
theorem dX3_standsFor_60 : decode cX3_standsFor 60 = .ok (.putfield 51, 3) := by decide +kernel
theorem dX3_standsFor_63 : decode cX3_standsFor 63 = .ok (.return_, 1) := by decide +kernel
theorem dX3_passDay_0 : decode cX3_passDay 0 = .ok (.aload_n 0, 1) := by decide +kernel
theorem dX3_passDay_1 : decode cX3_passDay 1 = .ok (.aload_n 0, 1) := by decide +kernel
theorem dX3_passDay_2 : decode cX3_passDay 2 = .ok (.getfield 34, 3) := by decide +kernel
theorem dX3_passDay_5 : decode cX3_passDay 5 = .ok (.aload_n 0, 1) := by decide +kernel
theorem dX3_passDay_6 : decode cX3_passDay 6 = .ok (.getfield 38, 3) := by decide +kernel
theorem dX3_passDay_9 : decode cX3_passDay 9 = .ok (.invokestatic 54, 3) := by decide +kernel
theorem dX3_passDay_12 : decode cX3_passDay 12 = .ok (.putfield 34, 3) := by decide +kernel
theorem dX3_passDay_15 : decode cX3_passDay 15 = .ok (.aload_n 0, 1) := by decide +kernel
theorem dX3_passDay_16 : decode cX3_passDay 16 = .ok (.aload_n 0, 1) := by decide +kernel
theorem dX3_passDay_17 : decode cX3_passDay 17 = .ok (.getfield 42, 3) := by decide +kernel
theorem dX3_passDay_20 : decode cX3_passDay 20 = .ok (.invokestatic 58, 3) := by decide +kernel
theorem dX3_passDay_23 : decode cX3_passDay 23 = .ok (.putfield 42, 3) := by decide +kernel
theorem dX3_passDay_26 : decode cX3_passDay 26 = .ok (.return_, 1) := by decide +kernel
theorem dX3_passDays_0 : decode cX3_passDays 0 = .ok (.iconst 0, 1) := by decide +kernel
theorem dX3_passDays_1 : decode cX3_passDays 1 = .ok (.istore_n 2, 1) := by decide +kernel
theorem dX3_passDays_2 : decode cX3_passDays 2 = .ok (.iload_n 2, 1) := by decide +kernel
theorem dX3_passDays_3 : decode cX3_passDays 3 = .ok (.iload_n 1, 1) := by decide +kernel
theorem dX3_passDays_4 : decode cX3_passDays 4 = .ok (.if_icmp .ge 13, 3) := by decide +kernel
theorem dX3_passDays_7 : decode cX3_passDays 7 = .ok (.aload_n 0, 1) := by decide +kernel
theorem dX3_passDays_8 : decode cX3_passDays 8 = .ok (.invokevirtual 61, 3) := by decide +kernel
theorem dX3_passDays_11 : decode cX3_passDays 11 = .ok (.iinc 2 1, 3) := by decide +kernel
theorem dX3_passDays_14 : decode cX3_passDays 14 = .ok (.goto (-12), 3) := by decide +kernel
theorem dX3_passDays_17 : decode cX3_passDays 17 = .ok (.return_, 1) := by decide +kernel
theorem dX3_pitchToday_0 : decode cX3_pitchToday 0 = .ok (.aload_n 0, 1) := by decide +kernel
theorem dX3_pitchToday_1 : decode cX3_pitchToday 1 = .ok (.getfield 21, 3) := by decide +kernel
theorem dX3_pitchToday_4 : decode cX3_pitchToday 4 = .ok (.iconst 5, 1) := by decide +kernel
theorem dX3_pitchToday_5 : decode cX3_pitchToday 5 = .ok (.if_icmp .ne 18, 3) := by decide +kernel
theorem dX3_pitchToday_8 : decode cX3_pitchToday 8 = .ok (.aload_n 0, 1) := by decide +kernel
theorem dX3_pitchToday_9 : decode cX3_pitchToday 9 = .ok (.getfield 28, 3) := by decide +kernel
theorem dX3_pitchToday_12 : decode cX3_pitchToday 12 = .ok (.aload_n 0, 1) := by decide +kernel
theorem dX3_pitchToday_13 : decode cX3_pitchToday 13 = .ok (.getfield 42, 3) := by decide +kernel
theorem dX3_pitchToday_16 : decode cX3_pitchToday 16 = .ok (.bipush 10, 2) := by decide +kernel
theorem dX3_pitchToday_18 : decode cX3_pitchToday 18 = .ok (.idiv, 1) := by decide +kernel
theorem dX3_pitchToday_19 : decode cX3_pitchToday 19 = .ok (.iadd, 1) := by decide +kernel
theorem dX3_pitchToday_20 : decode cX3_pitchToday 20 = .ok (.goto 7, 3) := by decide +kernel
theorem dX3_pitchToday_23 : decode cX3_pitchToday 23 = .ok (.aload_n 0, 1) := by decide +kernel
theorem dX3_pitchToday_24 : decode cX3_pitchToday 24 = .ok (.getfield 28, 3) := by decide +kernel
theorem dX3_pitchToday_27 : decode cX3_pitchToday 27 = .ok (.ireturn, 1) := by decide +kernel
theorem dX3_returnOf_0 : decode cX3_returnOf 0 = .ok (.aload_n 0, 1) := by decide +kernel
theorem dX3_returnOf_1 : decode cX3_returnOf 1 = .ok (.getfield 21, 3) := by decide +kernel
theorem dX3_returnOf_4 : decode cX3_returnOf 4 = .ok (.iconst 1, 1) := by decide +kernel
theorem dX3_returnOf_5 : decode cX3_returnOf 5 = .ok (.invokestatic 64, 3) := by decide +kernel
theorem dX3_returnOf_8 : decode cX3_returnOf 8 = .ok (.istore_n 2, 1) := by decide +kernel
theorem dX3_returnOf_9 : decode cX3_returnOf 9 = .ok (.aload_n 0, 1) := by decide +kernel
theorem dX3_returnOf_10 : decode cX3_returnOf 10 = .ok (.getfield 21, 3) := by decide +kernel
theorem dX3_returnOf_13 : decode cX3_returnOf 13 = .ok (.iconst 3, 1) := by decide +kernel
theorem dX3_returnOf_14 : decode cX3_returnOf 14 = .ok (.if_icmp .ne 12, 3) := by decide +kernel
theorem dX3_returnOf_17 : decode cX3_returnOf 17 = .ok (.aload_n 0, 1) := by decide +kernel
theorem dX3_returnOf_18 : decode cX3_returnOf 18 = .ok (.getfield 34, 3) := by decide +kernel
theorem dX3_returnOf_21 : decode cX3_returnOf 21 = .ok (.iconst 2, 1) := by decide +kernel
theorem dX3_returnOf_22 : decode cX3_returnOf 22 = .ok (.idiv, 1) := by decide +kernel
theorem dX3_returnOf_23 : decode cX3_returnOf 23 = .ok (.goto 7, 3) := by decide +kernel
theorem dX3_returnOf_26 : decode cX3_returnOf 26 = .ok (.aload_n 0, 1) := by decide +kernel
theorem dX3_returnOf_27 : decode cX3_returnOf 27 = .ok (.getfield 34, 3) := by decide +kernel
theorem dX3_returnOf_30 : decode cX3_returnOf 30 = .ok (.istore_n 3, 1) := by decide +kernel
theorem dX3_returnOf_31 : decode cX3_returnOf 31 = .ok (.iload_n 2, 1) := by decide +kernel
theorem dX3_returnOf_32 : decode cX3_returnOf 32 = .ok (.ifCond .ne 14, 3) := by decide +kernel
theorem dX3_returnOf_35 : decode cX3_returnOf 35 = .ok (.iload_n 1, 1) := by decide +kernel
theorem dX3_returnOf_36 : decode cX3_returnOf 36 = .ok (.iload_n 3, 1) := by decide +kernel
theorem dX3_returnOf_37 : decode cX3_returnOf 37 = .ok (.iadd, 1) := by decide +kernel
theorem dX3_returnOf_38 : decode cX3_returnOf 38 = .ok (.bipush 7, 2) := by decide +kernel
theorem dX3_returnOf_40 : decode cX3_returnOf 40 = .ok (.irem, 1) := by decide +kernel
theorem dX3_returnOf_41 : decode cX3_returnOf 41 = .ok (.ifCond .ne 5, 3) := by decide +kernel
theorem dX3_returnOf_44 : decode cX3_returnOf 44 = .ok (.iconst (-1), 1) := by decide +kernel
theorem dX3_returnOf_45 : decode cX3_returnOf 45 = .ok (.ireturn, 1) := by decide +kernel
theorem dX3_returnOf_46 : decode cX3_returnOf 46 = .ok (.iload_n 1, 1) := by decide +kernel
theorem dX3_returnOf_47 : decode cX3_returnOf 47 = .ok (.iload_n 3, 1) := by decide +kernel
theorem dX3_returnOf_48 : decode cX3_returnOf 48 = .ok (.aload_n 0, 1) := by decide +kernel
theorem dX3_returnOf_49 : decode cX3_returnOf 49 = .ok (.invokevirtual 68, 3) := by decide +kernel
theorem dX3_returnOf_52 : decode cX3_returnOf 52 = .ok (.iadd, 1) := by decide +kernel
theorem dX3_returnOf_53 : decode cX3_returnOf 53 = .ok (.iconst 3, 1) := by decide +kernel
theorem dX3_returnOf_54 : decode cX3_returnOf 54 = .ok (.idiv, 1) := by decide +kernel
theorem dX3_returnOf_55 : decode cX3_returnOf 55 = .ok (.iconst 1, 1) := by decide +kernel
theorem dX3_returnOf_56 : decode cX3_returnOf 56 = .ok (.iload_n 1, 1) := by decide +kernel
theorem dX3_returnOf_57 : decode cX3_returnOf 57 = .ok (.iconst 3, 1) := by decide +kernel
theorem dX3_returnOf_58 : decode cX3_returnOf 58 = .ok (.irem, 1) := by decide +kernel
theorem dX3_returnOf_59 : decode cX3_returnOf 59 = .ok (.iadd, 1) := by decide +kernel
theorem dX3_returnOf_60 : decode cX3_returnOf 60 = .ok (.imul, 1) := by decide +kernel
theorem dX3_returnOf_61 : decode cX3_returnOf 61 = .ok (.iadd, 1) := by decide +kernel
theorem dX3_returnOf_62 : decode cX3_returnOf 62 = .ok (.bipush 40, 2) := by decide +kernel
theorem dX3_returnOf_64 : decode cX3_returnOf 64 = .ok (.irem, 1) := by decide +kernel
theorem dX3_returnOf_65 : decode cX3_returnOf 65 = .ok (.ireturn, 1) := by decide +kernel
theorem dX3_hears_0 : decode cX3_hears 0 = .ok (.aload_n 0, 1) := by decide +kernel
theorem dX3_hears_1 : decode cX3_hears 1 = .ok (.iconst 0, 1) := by decide +kernel
theorem dX3_hears_2 : decode cX3_hears 2 = .ok (.putfield 51, 3) := by decide +kernel
theorem dX3_hears_5 : decode cX3_hears 5 = .ok (.aload_n 1, 1) := by decide +kernel
theorem dX3_hears_6 : decode cX3_hears 6 = .ok (.getfield 72, 3) := by decide +kernel
theorem dX3_hears_9 : decode cX3_hears 9 = .ok (.ifCond .le 23, 3) := by decide +kernel
theorem dX3_hears_12 : decode cX3_hears 12 = .ok (.aload_n 0, 1) := by decide +kernel
theorem dX3_hears_13 : decode cX3_hears 13 = .ok (.getfield 21, 3) := by decide +kernel
theorem dX3_hears_16 : decode cX3_hears 16 = .ok (.iconst 2, 1) := by decide +kernel
theorem dX3_hears_17 : decode cX3_hears 17 = .ok (.invokestatic 64, 3) := by decide +kernel
theorem dX3_hears_20 : decode cX3_hears 20 = .ok (.ifCond .eq 12, 3) := by decide +kernel
theorem dX3_hears_23 : decode cX3_hears 23 = .ok (.aload_n 0, 1) := by decide +kernel
theorem dX3_hears_24 : decode cX3_hears 24 = .ok (.aload_n 1, 1) := by decide +kernel
theorem dX3_hears_25 : decode cX3_hears 25 = .ok (.iconst 0, 1) := by decide +kernel
theorem dX3_hears_26 : decode cX3_hears 26 = .ok (.invokevirtual 77, 3) := by decide +kernel
theorem dX3_hears_29 : decode cX3_hears 29 = .ok (.invokevirtual 80, 3) := by decide +kernel
theorem dX3_hears_32 : decode cX3_hears 32 = .ok (.iconst 0, 1) := by decide +kernel
theorem dX3_hears_33 : decode cX3_hears 33 = .ok (.istore_n 2, 1) := by decide +kernel
theorem dX3_hears_34 : decode cX3_hears 34 = .ok (.iload_n 2, 1) := by decide +kernel
theorem dX3_hears_35 : decode cX3_hears 35 = .ok (.aload_n 1, 1) := by decide +kernel
theorem dX3_hears_36 : decode cX3_hears 36 = .ok (.getfield 72, 3) := by decide +kernel
theorem dX3_hears_39 : decode cX3_hears 39 = .ok (.if_icmp .ge 18, 3) := by decide +kernel
theorem dX3_hears_42 : decode cX3_hears 42 = .ok (.aload_n 0, 1) := by decide +kernel
theorem dX3_hears_43 : decode cX3_hears 43 = .ok (.aload_n 1, 1) := by decide +kernel
theorem dX3_hears_44 : decode cX3_hears 44 = .ok (.iload_n 2, 1) := by decide +kernel
theorem dX3_hears_45 : decode cX3_hears 45 = .ok (.invokevirtual 77, 3) := by decide +kernel
theorem dX3_hears_48 : decode cX3_hears 48 = .ok (.invokevirtual 80, 3) := by decide +kernel
theorem dX3_hears_51 : decode cX3_hears 51 = .ok (.iinc 2 1, 3) := by decide +kernel
theorem dX3_hears_54 : decode cX3_hears 54 = .ok (.goto (-20), 3) := by decide +kernel
theorem dX3_hears_57 : decode cX3_hears 57 = .ok (.aload_n 0, 1) := by decide +kernel
theorem dX3_hears_58 : decode cX3_hears 58 = .ok (.getfield 21, 3) := by decide +kernel
theorem dX3_hears_61 : decode cX3_hears 61 = .ok (.iconst 4, 1) := by decide +kernel
theorem dX3_hears_62 : decode cX3_hears 62 = .ok (.if_icmp .ne 7, 3) := by decide +kernel
theorem dX3_hears_65 : decode cX3_hears 65 = .ok (.aload_n 0, 1) := by decide +kernel
theorem dX3_hears_66 : decode cX3_hears 66 = .ok (.invokevirtual 84, 3) := by decide +kernel
theorem dX3_hears_69 : decode cX3_hears 69 = .ok (.return_, 1) := by decide +kernel
theorem dX3_hearBack_0 : decode cX3_hearBack 0 = .ok (.aload_n 0, 1) := by decide +kernel
theorem dX3_hearBack_1 : decode cX3_hearBack 1 = .ok (.iload_n 1, 1) := by decide +kernel
theorem dX3_hearBack_2 : decode cX3_hearBack 2 = .ok (.invokevirtual 87, 3) := by decide +kernel
theorem dX3_hearBack_5 : decode cX3_hearBack 5 = .ok (.istore_n 2, 1) := by decide +kernel
theorem dX3_hearBack_6 : decode cX3_hearBack 6 = .ok (.iload_n 2, 1) := by decide +kernel
theorem dX3_hearBack_7 : decode cX3_hearBack 7 = .ok (.iconst (-1), 1) := by decide +kernel
theorem dX3_hearBack_8 : decode cX3_hearBack 8 = .ok (.if_icmp .eq 36, 3) := by decide +kernel
theorem dX3_hearBack_11 : decode cX3_hearBack 11 = .ok (.aload_n 0, 1) := by decide +kernel
theorem dX3_hearBack_12 : decode cX3_hearBack 12 = .ok (.getfield 51, 3) := by decide +kernel
theorem dX3_hearBack_15 : decode cX3_hearBack 15 = .ok (.iconst 0, 1) := by decide +kernel
theorem dX3_hearBack_16 : decode cX3_hearBack 16 = .ok (.bipush 12, 2) := by decide +kernel
theorem dX3_hearBack_18 : decode cX3_hearBack 18 = .ok (.invokestatic 90, 3) := by decide +kernel
theorem dX3_hearBack_21 : decode cX3_hearBack 21 = .ok (.ifCond .eq 23, 3) := by decide +kernel
theorem dX3_hearBack_24 : decode cX3_hearBack 24 = .ok (.aload_n 0, 1) := by decide +kernel
theorem dX3_hearBack_25 : decode cX3_hearBack 25 = .ok (.getfield 9, 3) := by decide +kernel
theorem dX3_hearBack_28 : decode cX3_hearBack 28 = .ok (.aload_n 0, 1) := by decide +kernel
theorem dX3_hearBack_29 : decode cX3_hearBack 29 = .ok (.getfield 51, 3) := by decide +kernel
theorem dX3_hearBack_32 : decode cX3_hearBack 32 = .ok (.iload_n 2, 1) := by decide +kernel
theorem dX3_hearBack_33 : decode cX3_hearBack 33 = .ok (.iastore, 1) := by decide +kernel
theorem dX3_hearBack_34 : decode cX3_hearBack 34 = .ok (.aload_n 0, 1) := by decide +kernel
theorem dX3_hearBack_35 : decode cX3_hearBack 35 = .ok (.dup, 1) := by decide +kernel
theorem dX3_hearBack_36 : decode cX3_hearBack 36 = .ok (.getfield 51, 3) := by decide +kernel
theorem dX3_hearBack_39 : decode cX3_hearBack 39 = .ok (.iconst 1, 1) := by decide +kernel
theorem dX3_hearBack_40 : decode cX3_hearBack 40 = .ok (.iadd, 1) := by decide +kernel
theorem dX3_hearBack_41 : decode cX3_hearBack 41 = .ok (.putfield 51, 3) := by decide +kernel
theorem dX3_hearBack_44 : decode cX3_hearBack 44 = .ok (.return_, 1) := by decide +kernel
theorem dX3_turnRound_0 : decode cX3_turnRound 0 = .ok (.iconst 0, 1) := by decide +kernel
theorem dX3_turnRound_1 : decode cX3_turnRound 1 = .ok (.istore_n 1, 1) := by decide +kernel
theorem dX3_turnRound_2 : decode cX3_turnRound 2 = .ok (.iload_n 1, 1) := by decide +kernel
theorem dX3_turnRound_3 : decode cX3_turnRound 3 = .ok (.aload_n 0, 1) := by decide +kernel
theorem dX3_turnRound_4 : decode cX3_turnRound 4 = .ok (.getfield 51, 3) := by decide +kernel
theorem dX3_turnRound_7 : decode cX3_turnRound 7 = .ok (.iconst 2, 1) := by decide +kernel
theorem dX3_turnRound_8 : decode cX3_turnRound 8 = .ok (.idiv, 1) := by decide +kernel
theorem dX3_turnRound_9 : decode cX3_turnRound 9 = .ok (.if_icmp .ge 60, 3) := by decide +kernel
theorem dX3_turnRound_12 : decode cX3_turnRound 12 = .ok (.iload_n 1, 1) := by decide +kernel
theorem dX3_turnRound_13 : decode cX3_turnRound 13 = .ok (.bipush 6, 2) := by decide +kernel
theorem dX3_turnRound_15 : decode cX3_turnRound 15 = .ok (.if_icmp .ge 54, 3) := by decide +kernel
theorem dX3_turnRound_18 : decode cX3_turnRound 18 = .ok (.aload_n 0, 1) := by decide +kernel
theorem dX3_turnRound_19 : decode cX3_turnRound 19 = .ok (.getfield 51, 3) := by decide +kernel
theorem dX3_turnRound_22 : decode cX3_turnRound 22 = .ok (.iconst 1, 1) := by decide +kernel
theorem dX3_turnRound_23 : decode cX3_turnRound 23 = .ok (.isub, 1) := by decide +kernel
theorem dX3_turnRound_24 : decode cX3_turnRound 24 = .ok (.iload_n 1, 1) := by decide +kernel
theorem dX3_turnRound_25 : decode cX3_turnRound 25 = .ok (.isub, 1) := by decide +kernel
theorem dX3_turnRound_26 : decode cX3_turnRound 26 = .ok (.istore_n 2, 1) := by decide +kernel
theorem dX3_turnRound_27 : decode cX3_turnRound 27 = .ok (.iload_n 2, 1) := by decide +kernel
theorem dX3_turnRound_28 : decode cX3_turnRound 28 = .ok (.iconst 0, 1) := by decide +kernel
theorem dX3_turnRound_29 : decode cX3_turnRound 29 = .ok (.bipush 12, 2) := by decide +kernel
theorem dX3_turnRound_31 : decode cX3_turnRound 31 = .ok (.invokestatic 90, 3) := by decide +kernel
theorem dX3_turnRound_34 : decode cX3_turnRound 34 = .ok (.ifCond .eq 29, 3) := by decide +kernel
theorem dX3_turnRound_37 : decode cX3_turnRound 37 = .ok (.aload_n 0, 1) := by decide +kernel
theorem dX3_turnRound_38 : decode cX3_turnRound 38 = .ok (.getfield 9, 3) := by decide +kernel
theorem dX3_turnRound_41 : decode cX3_turnRound 41 = .ok (.iload_n 1, 1) := by decide +kernel
theorem dX3_turnRound_42 : decode cX3_turnRound 42 = .ok (.iaload, 1) := by decide +kernel
theorem dX3_turnRound_43 : decode cX3_turnRound 43 = .ok (.istore_n 3, 1) := by decide +kernel
theorem dX3_turnRound_44 : decode cX3_turnRound 44 = .ok (.aload_n 0, 1) := by decide +kernel
theorem dX3_turnRound_45 : decode cX3_turnRound 45 = .ok (.getfield 9, 3) := by decide +kernel
theorem dX3_turnRound_48 : decode cX3_turnRound 48 = .ok (.iload_n 1, 1) := by decide +kernel
theorem dX3_turnRound_49 : decode cX3_turnRound 49 = .ok (.aload_n 0, 1) := by decide +kernel
theorem dX3_turnRound_50 : decode cX3_turnRound 50 = .ok (.getfield 9, 3) := by decide +kernel
theorem dX3_turnRound_53 : decode cX3_turnRound 53 = .ok (.iload_n 2, 1) := by decide +kernel
theorem dX3_turnRound_54 : decode cX3_turnRound 54 = .ok (.iaload, 1) := by decide +kernel
theorem dX3_turnRound_55 : decode cX3_turnRound 55 = .ok (.iastore, 1) := by decide +kernel
theorem dX3_turnRound_56 : decode cX3_turnRound 56 = .ok (.aload_n 0, 1) := by decide +kernel
theorem dX3_turnRound_57 : decode cX3_turnRound 57 = .ok (.getfield 9, 3) := by decide +kernel
theorem dX3_turnRound_60 : decode cX3_turnRound 60 = .ok (.iload_n 2, 1) := by decide +kernel
theorem dX3_turnRound_61 : decode cX3_turnRound 61 = .ok (.iload_n 3, 1) := by decide +kernel
theorem dX3_turnRound_62 : decode cX3_turnRound 62 = .ok (.iastore, 1) := by decide +kernel
theorem dX3_turnRound_63 : decode cX3_turnRound 63 = .ok (.iinc 1 1, 3) := by decide +kernel
theorem dX3_turnRound_66 : decode cX3_turnRound 66 = .ok (.goto (-64), 3) := by decide +kernel
theorem dX3_turnRound_69 : decode cX3_turnRound 69 = .ok (.return_, 1) := by decide +kernel
theorem dX3_heardAt_0 : decode cX3_heardAt 0 = .ok (.iload_n 1, 1) := by decide +kernel
theorem dX3_heardAt_1 : decode cX3_heardAt 1 = .ok (.aload_n 0, 1) := by decide +kernel
theorem dX3_heardAt_2 : decode cX3_heardAt 2 = .ok (.getfield 51, 3) := by decide +kernel
theorem dX3_heardAt_5 : decode cX3_heardAt 5 = .ok (.if_icmp .ge 22, 3) := by decide +kernel
theorem dX3_heardAt_8 : decode cX3_heardAt 8 = .ok (.iload_n 1, 1) := by decide +kernel
theorem dX3_heardAt_9 : decode cX3_heardAt 9 = .ok (.iconst 0, 1) := by decide +kernel
theorem dX3_heardAt_10 : decode cX3_heardAt 10 = .ok (.bipush 12, 2) := by decide +kernel
theorem dX3_heardAt_12 : decode cX3_heardAt 12 = .ok (.invokestatic 90, 3) := by decide +kernel
theorem dX3_heardAt_15 : decode cX3_heardAt 15 = .ok (.ifCond .eq 12, 3) := by decide +kernel
theorem dX3_heardAt_18 : decode cX3_heardAt 18 = .ok (.aload_n 0, 1) := by decide +kernel
theorem dX3_heardAt_19 : decode cX3_heardAt 19 = .ok (.getfield 9, 3) := by decide +kernel
theorem dX3_heardAt_22 : decode cX3_heardAt 22 = .ok (.iload_n 1, 1) := by decide +kernel
theorem dX3_heardAt_23 : decode cX3_heardAt 23 = .ok (.iaload, 1) := by decide +kernel
theorem dX3_heardAt_24 : decode cX3_heardAt 24 = .ok (.goto 4, 3) := by decide +kernel
theorem dX3_heardAt_27 : decode cX3_heardAt 27 = .ok (.iconst (-1), 1) := by decide +kernel
theorem dX3_heardAt_28 : decode cX3_heardAt 28 = .ok (.ireturn, 1) := by decide +kernel
theorem dX3_heardSameAs_0 : decode cX3_heardSameAs 0 = .ok (.aload_n 0, 1) := by decide +kernel
theorem dX3_heardSameAs_1 : decode cX3_heardSameAs 1 = .ok (.getfield 51, 3) := by decide +kernel
theorem dX3_heardSameAs_4 : decode cX3_heardSameAs 4 = .ok (.aload_n 1, 1) := by decide +kernel
theorem dX3_heardSameAs_5 : decode cX3_heardSameAs 5 = .ok (.getfield 51, 3) := by decide +kernel
theorem dX3_heardSameAs_8 : decode cX3_heardSameAs 8 = .ok (.if_icmp .eq 5, 3) := by decide +kernel
theorem dX3_heardSameAs_11 : decode cX3_heardSameAs 11 = .ok (.iconst 0, 1) := by decide +kernel
theorem dX3_heardSameAs_12 : decode cX3_heardSameAs 12 = .ok (.ireturn, 1) := by decide +kernel
theorem dX3_heardSameAs_13 : decode cX3_heardSameAs 13 = .ok (.iconst 0, 1) := by decide +kernel
theorem dX3_heardSameAs_14 : decode cX3_heardSameAs 14 = .ok (.istore_n 2, 1) := by decide +kernel
theorem dX3_heardSameAs_15 : decode cX3_heardSameAs 15 = .ok (.iload_n 2, 1) := by decide +kernel
theorem dX3_heardSameAs_16 : decode cX3_heardSameAs 16 = .ok (.aload_n 0, 1) := by decide +kernel
theorem dX3_heardSameAs_17 : decode cX3_heardSameAs 17 = .ok (.getfield 51, 3) := by decide +kernel
theorem dX3_heardSameAs_20 : decode cX3_heardSameAs 20 = .ok (.if_icmp .ge 24, 3) := by decide +kernel
theorem dX3_heardSameAs_23 : decode cX3_heardSameAs 23 = .ok (.aload_n 0, 1) := by decide +kernel
theorem dX3_heardSameAs_24 : decode cX3_heardSameAs 24 = .ok (.iload_n 2, 1) := by decide +kernel
theorem dX3_heardSameAs_25 : decode cX3_heardSameAs 25 = .ok (.invokevirtual 94, 3) := by decide +kernel
theorem dX3_heardSameAs_28 : decode cX3_heardSameAs 28 = .ok (.aload_n 1, 1) := by decide +kernel
theorem dX3_heardSameAs_29 : decode cX3_heardSameAs 29 = .ok (.iload_n 2, 1) := by decide +kernel
theorem dX3_heardSameAs_30 : decode cX3_heardSameAs 30 = .ok (.invokevirtual 94, 3) := by decide +kernel
theorem dX3_heardSameAs_33 : decode cX3_heardSameAs 33 = .ok (.if_icmp .eq 5, 3) := by decide +kernel
theorem dX3_heardSameAs_36 : decode cX3_heardSameAs 36 = .ok (.iconst 0, 1) := by decide +kernel
theorem dX3_heardSameAs_37 : decode cX3_heardSameAs 37 = .ok (.ireturn, 1) := by decide +kernel
theorem dX3_heardSameAs_38 : decode cX3_heardSameAs 38 = .ok (.iinc 2 1, 3) := by decide +kernel
theorem dX3_heardSameAs_41 : decode cX3_heardSameAs 41 = .ok (.goto (-26), 3) := by decide +kernel
theorem dX3_heardSameAs_44 : decode cX3_heardSameAs 44 = .ok (.iconst 1, 1) := by decide +kernel
theorem dX3_heardSameAs_45 : decode cX3_heardSameAs 45 = .ok (.ireturn, 1) := by decide +kernel
theorem dX3_total_0 : decode cX3_total 0 = .ok (.iconst 0, 1) := by decide +kernel
theorem dX3_total_1 : decode cX3_total 1 = .ok (.istore_n 1, 1) := by decide +kernel
theorem dX3_total_2 : decode cX3_total 2 = .ok (.iconst 0, 1) := by decide +kernel
theorem dX3_total_3 : decode cX3_total 3 = .ok (.istore_n 2, 1) := by decide +kernel
theorem dX3_total_4 : decode cX3_total 4 = .ok (.iload_n 2, 1) := by decide +kernel
theorem dX3_total_5 : decode cX3_total 5 = .ok (.aload_n 0, 1) := by decide +kernel
theorem dX3_total_6 : decode cX3_total 6 = .ok (.getfield 51, 3) := by decide +kernel
theorem dX3_total_9 : decode cX3_total 9 = .ok (.if_icmp .ge 17, 3) := by decide +kernel
theorem dX3_total_12 : decode cX3_total 12 = .ok (.iload_n 1, 1) := by decide +kernel
theorem dX3_total_13 : decode cX3_total 13 = .ok (.aload_n 0, 1) := by decide +kernel
theorem dX3_total_14 : decode cX3_total 14 = .ok (.iload_n 2, 1) := by decide +kernel
theorem dX3_total_15 : decode cX3_total 15 = .ok (.invokevirtual 94, 3) := by decide +kernel
theorem dX3_total_18 : decode cX3_total 18 = .ok (.iadd, 1) := by decide +kernel
theorem dX3_total_19 : decode cX3_total 19 = .ok (.istore_n 1, 1) := by decide +kernel
theorem dX3_total_20 : decode cX3_total 20 = .ok (.iinc 2 1, 3) := by decide +kernel
theorem dX3_total_23 : decode cX3_total 23 = .ok (.goto (-19), 3) := by decide +kernel
theorem dX3_total_26 : decode cX3_total 26 = .ok (.iload_n 1, 1) := by decide +kernel
theorem dX3_total_27 : decode cX3_total 27 = .ok (.ireturn, 1) := by decide +kernel
theorem dX3_weighs_0 : decode cX3_weighs 0 = .ok (.aload_n 0, 1) := by decide +kernel
theorem dX3_weighs_1 : decode cX3_weighs 1 = .ok (.aload_n 1, 1) := by decide +kernel
theorem dX3_weighs_2 : decode cX3_weighs 2 = .ok (.invokevirtual 97, 3) := by decide +kernel
theorem dX3_weighs_5 : decode cX3_weighs 5 = .ok (.aload_n 0, 1) := by decide +kernel
theorem dX3_weighs_6 : decode cX3_weighs 6 = .ok (.getfield 51, 3) := by decide +kernel
theorem dX3_weighs_9 : decode cX3_weighs 9 = .ok (.ifCond .ne 5, 3) := by decide +kernel
theorem dX3_weighs_12 : decode cX3_weighs 12 = .ok (.iconst (-1), 1) := by decide +kernel
theorem dX3_weighs_13 : decode cX3_weighs 13 = .ok (.ireturn, 1) := by decide +kernel
theorem dX3_weighs_14 : decode cX3_weighs 14 = .ok (.aload_n 0, 1) := by decide +kernel
theorem dX3_weighs_15 : decode cX3_weighs 15 = .ok (.getfield 46, 3) := by decide +kernel
theorem dX3_weighs_18 : decode cX3_weighs 18 = .ok (.ifCond .le 23, 3) := by decide +kernel
theorem dX3_weighs_21 : decode cX3_weighs 21 = .ok (.aload_n 0, 1) := by decide +kernel
theorem dX3_weighs_22 : decode cX3_weighs 22 = .ok (.invokevirtual 101, 3) := by decide +kernel
theorem dX3_weighs_25 : decode cX3_weighs 25 = .ok (.aload_n 0, 1) := by decide +kernel
theorem dX3_weighs_26 : decode cX3_weighs 26 = .ok (.getfield 46, 3) := by decide +kernel
theorem dX3_weighs_29 : decode cX3_weighs 29 = .ok (.irem, 1) := by decide +kernel
theorem dX3_weighs_30 : decode cX3_weighs 30 = .ok (.aload_n 0, 1) := by decide +kernel
theorem dX3_weighs_31 : decode cX3_weighs 31 = .ok (.getfield 50, 3) := by decide +kernel
theorem dX3_weighs_34 : decode cX3_weighs 34 = .ok (.if_icmp .ne 7, 3) := by decide +kernel
theorem dX3_weighs_37 : decode cX3_weighs 37 = .ok (.iconst 1, 1) := by decide +kernel
theorem dX3_weighs_38 : decode cX3_weighs 38 = .ok (.goto 4, 3) := by decide +kernel
theorem dX3_weighs_41 : decode cX3_weighs 41 = .ok (.iconst 0, 1) := by decide +kernel
theorem dX3_weighs_42 : decode cX3_weighs 42 = .ok (.ireturn, 1) := by decide +kernel
theorem dX4_init_0 : decode cX4_init 0 = .ok (.aload_n 0, 1) := by decide +kernel
theorem dX4_init_1 : decode cX4_init 1 = .ok (.invokespecial 3, 3) := by decide +kernel
theorem dX4_init_4 : decode cX4_init 4 = .ok (.aload_n 0, 1) := by decide +kernel
theorem dX4_init_5 : decode cX4_init 5 = .ok (.bipush 12, 2) := by decide +kernel
theorem dX4_init_7 : decode cX4_init 7 = .ok (.newarray .int, 2) := by decide +kernel
theorem dX4_init_9 : decode cX4_init 9 = .ok (.putfield 9, 3) := by decide +kernel
theorem dX4_init_12 : decode cX4_init 12 = .ok (.return_, 1) := by decide +kernel
theorem dX4_clear_0 : decode cX4_clear 0 = .ok (.aload_n 0, 1) := by decide +kernel
theorem dX4_clear_1 : decode cX4_clear 1 = .ok (.iconst 0, 1) := by decide +kernel
theorem dX4_clear_2 : decode cX4_clear 2 = .ok (.putfield 15, 3) := by decide +kernel
theorem dX4_clear_5 : decode cX4_clear 5 = .ok (.return_, 1) := by decide +kernel
theorem dX4_add_0 : decode cX4_add 0 = .ok (.aload_n 0, 1) := by decide +kernel
theorem dX4_add_1 : decode cX4_add 1 = .ok (.getfield 15, 3) := by decide +kernel
theorem dX4_add_4 : decode cX4_add 4 = .ok (.iconst 0, 1) := by decide +kernel
theorem dX4_add_5 : decode cX4_add 5 = .ok (.bipush 11, 2) := by decide +kernel
theorem dX4_add_7 : decode cX4_add 7 = .ok (.invokestatic 19, 3) := by decide +kernel
theorem dX4_add_10 : decode cX4_add 10 = .ok (.ifCond .eq 23, 3) := by decide +kernel
theorem dX4_add_13 : decode cX4_add 13 = .ok (.aload_n 0, 1) := by decide +kernel
theorem dX4_add_14 : decode cX4_add 14 = .ok (.getfield 9, 3) := by decide +kernel
theorem dX4_add_17 : decode cX4_add 17 = .ok (.aload_n 0, 1) := by decide +kernel
theorem dX4_add_18 : decode cX4_add 18 = .ok (.getfield 15, 3) := by decide +kernel
theorem dX4_add_21 : decode cX4_add 21 = .ok (.iload_n 1, 1) := by decide +kernel
theorem dX4_add_22 : decode cX4_add 22 = .ok (.iastore, 1) := by decide +kernel
theorem dX4_add_23 : decode cX4_add 23 = .ok (.aload_n 0, 1) := by decide +kernel
theorem dX4_add_24 : decode cX4_add 24 = .ok (.dup, 1) := by decide +kernel
theorem dX4_add_25 : decode cX4_add 25 = .ok (.getfield 15, 3) := by decide +kernel
theorem dX4_add_28 : decode cX4_add 28 = .ok (.iconst 1, 1) := by decide +kernel
theorem dX4_add_29 : decode cX4_add 29 = .ok (.iadd, 1) := by decide +kernel
theorem dX4_add_30 : decode cX4_add 30 = .ok (.putfield 15, 3) := by decide +kernel
theorem dX4_add_33 : decode cX4_add 33 = .ok (.return_, 1) := by decide +kernel
theorem dX4_soundAt_0 : decode cX4_soundAt 0 = .ok (.iload_n 1, 1) := by decide +kernel
theorem dX4_soundAt_1 : decode cX4_soundAt 1 = .ok (.aload_n 0, 1) := by decide +kernel
theorem dX4_soundAt_2 : decode cX4_soundAt 2 = .ok (.getfield 15, 3) := by decide +kernel
theorem dX4_soundAt_5 : decode cX4_soundAt 5 = .ok (.if_icmp .ge 22, 3) := by decide +kernel
theorem dX4_soundAt_8 : decode cX4_soundAt 8 = .ok (.iload_n 1, 1) := by decide +kernel
theorem dX4_soundAt_9 : decode cX4_soundAt 9 = .ok (.iconst 0, 1) := by decide +kernel
theorem dX4_soundAt_10 : decode cX4_soundAt 10 = .ok (.bipush 11, 2) := by decide +kernel
theorem dX4_soundAt_12 : decode cX4_soundAt 12 = .ok (.invokestatic 19, 3) := by decide +kernel
theorem dX4_soundAt_15 : decode cX4_soundAt 15 = .ok (.ifCond .eq 12, 3) := by decide +kernel
theorem dX4_soundAt_18 : decode cX4_soundAt 18 = .ok (.aload_n 0, 1) := by decide +kernel
theorem dX4_soundAt_19 : decode cX4_soundAt 19 = .ok (.getfield 9, 3) := by decide +kernel
theorem dX4_soundAt_22 : decode cX4_soundAt 22 = .ok (.iload_n 1, 1) := by decide +kernel
theorem dX4_soundAt_23 : decode cX4_soundAt 23 = .ok (.iaload, 1) := by decide +kernel
theorem dX4_soundAt_24 : decode cX4_soundAt 24 = .ok (.goto 4, 3) := by decide +kernel
theorem dX4_soundAt_27 : decode cX4_soundAt 27 = .ok (.iconst (-1), 1) := by decide +kernel
theorem dX4_soundAt_28 : decode cX4_soundAt 28 = .ok (.ireturn, 1) := by decide +kernel
theorem dX4_takes_0 : decode cX4_takes 0 = .ok (.aload_n 0, 1) := by decide +kernel
theorem dX4_takes_1 : decode cX4_takes 1 = .ok (.invokevirtual 23, 3) := by decide +kernel
theorem dX4_takes_4 : decode cX4_takes 4 = .ok (.iconst 0, 1) := by decide +kernel
theorem dX4_takes_5 : decode cX4_takes 5 = .ok (.istore_n 3, 1) := by decide +kernel
theorem dX4_takes_6 : decode cX4_takes 6 = .ok (.iload_n 3, 1) := by decide +kernel
theorem dX4_takes_7 : decode cX4_takes 7 = .ok (.aload_n 1, 1) := by decide +kernel
theorem dX4_takes_8 : decode cX4_takes 8 = .ok (.getfield 15, 3) := by decide +kernel
theorem dX4_takes_11 : decode cX4_takes 11 = .ok (.if_icmp .ge 23, 3) := by decide +kernel
theorem dX4_takes_14 : decode cX4_takes 14 = .ok (.iload_n 3, 1) := by decide +kernel
theorem dX4_takes_15 : decode cX4_takes 15 = .ok (.iload_n 2, 1) := by decide +kernel
theorem dX4_takes_16 : decode cX4_takes 16 = .ok (.if_icmp .eq 12, 3) := by decide +kernel
theorem dX4_takes_19 : decode cX4_takes 19 = .ok (.aload_n 0, 1) := by decide +kernel
theorem dX4_takes_20 : decode cX4_takes 20 = .ok (.aload_n 1, 1) := by decide +kernel
theorem dX4_takes_21 : decode cX4_takes 21 = .ok (.iload_n 3, 1) := by decide +kernel
theorem dX4_takes_22 : decode cX4_takes 22 = .ok (.invokevirtual 26, 3) := by decide +kernel
theorem dX4_takes_25 : decode cX4_takes 25 = .ok (.invokevirtual 30, 3) := by decide +kernel
theorem dX4_takes_28 : decode cX4_takes 28 = .ok (.iinc 3 1, 3) := by decide +kernel
theorem dX4_takes_31 : decode cX4_takes 31 = .ok (.goto (-25), 3) := by decide +kernel
theorem dX4_takes_34 : decode cX4_takes 34 = .ok (.return_, 1) := by decide +kernel
