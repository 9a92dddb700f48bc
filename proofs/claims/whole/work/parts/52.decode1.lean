theorem dJ0_length_8abf5_0 : decode cJ0_length_8abf5 0 = .ok (.aload_n 0, 1) := by decide +kernel
theorem dJ0_length_8abf5_1 : decode cJ0_length_8abf5 1 = .ok (.getfield 9, 3) := by decide +kernel
theorem dJ0_length_8abf5_4 : decode cJ0_length_8abf5 4 = .ok (.arraylength, 1) := by decide +kernel
theorem dJ0_length_8abf5_5 : decode cJ0_length_8abf5 5 = .ok (.aload_n 0, 1) := by decide +kernel
theorem dJ0_length_8abf5_6 : decode cJ0_length_8abf5 6 = .ok (.invokevirtual 335, 3) := by decide +kernel
theorem dJ0_length_8abf5_9 : decode cJ0_length_8abf5 9 = .ok (.ishr, 1) := by decide +kernel
theorem dJ0_length_8abf5_10 : decode cJ0_length_8abf5 10 = .ok (.ireturn, 1) := by decide +kernel
theorem dJ0_charAt_5068e_0 : decode cJ0_charAt_5068e 0 = .ok (.aload_n 0, 1) := by decide +kernel
theorem dJ0_charAt_5068e_1 : decode cJ0_charAt_5068e 1 = .ok (.invokevirtual 492, 3) := by decide +kernel
theorem dJ0_charAt_5068e_4 : decode cJ0_charAt_5068e 4 = .ok (.ifCond .eq 12, 3) := by decide +kernel
theorem dJ0_charAt_5068e_7 : decode cJ0_charAt_5068e 7 = .ok (.aload_n 0, 1) := by decide +kernel
theorem dJ0_charAt_5068e_8 : decode cJ0_charAt_5068e 8 = .ok (.getfield 9, 3) := by decide +kernel
theorem dJ0_charAt_5068e_11 : decode cJ0_charAt_5068e 11 = .ok (.iload_n 1, 1) := by decide +kernel
theorem dJ0_charAt_5068e_12 : decode cJ0_charAt_5068e 12 = .ok (.invokestatic 495, 3) := by decide +kernel
theorem dJ0_charAt_5068e_15 : decode cJ0_charAt_5068e 15 = .ok (.ireturn, 1) := by decide +kernel
theorem dJ0_charAt_5068e_16 : decode cJ0_charAt_5068e 16 = .ok (.aload_n 0, 1) := by decide +kernel
theorem dJ0_charAt_5068e_17 : decode cJ0_charAt_5068e 17 = .ok (.getfield 9, 3) := by decide +kernel
theorem dJ0_charAt_5068e_20 : decode cJ0_charAt_5068e 20 = .ok (.iload_n 1, 1) := by decide +kernel
theorem dJ0_charAt_5068e_21 : decode cJ0_charAt_5068e 21 = .ok (.invokestatic 498, 3) := by decide +kernel
theorem dJ0_charAt_5068e_24 : decode cJ0_charAt_5068e 24 = .ok (.ireturn, 1) := by decide +kernel
theorem dJ0_coder_7d493_0 : decode cJ0_coder_7d493 0 = .ok (.getstatic 38, 3) := by decide +kernel
theorem dJ0_coder_7d493_3 : decode cJ0_coder_7d493 3 = .ok (.ifCond .eq 10, 3) := by decide +kernel
theorem dJ0_coder_7d493_6 : decode cJ0_coder_7d493 6 = .ok (.aload_n 0, 1) := by decide +kernel
theorem dJ0_coder_7d493_7 : decode cJ0_coder_7d493 7 = .ok (.getfield 15, 3) := by decide +kernel
theorem dJ0_coder_7d493_10 : decode cJ0_coder_7d493 10 = .ok (.goto 4, 3) := by decide +kernel
theorem dJ0_coder_7d493_13 : decode cJ0_coder_7d493 13 = .ok (.iconst 1, 1) := by decide +kernel
theorem dJ0_coder_7d493_14 : decode cJ0_coder_7d493 14 = .ok (.ireturn, 1) := by decide +kernel
theorem dJ0_isLatin1_aae02_0 : decode cJ0_isLatin1_aae02 0 = .ok (.getstatic 38, 3) := by decide +kernel
theorem dJ0_isLatin1_aae02_3 : decode cJ0_isLatin1_aae02 3 = .ok (.ifCond .eq 14, 3) := by decide +kernel
theorem dJ0_isLatin1_aae02_6 : decode cJ0_isLatin1_aae02 6 = .ok (.aload_n 0, 1) := by decide +kernel
theorem dJ0_isLatin1_aae02_7 : decode cJ0_isLatin1_aae02 7 = .ok (.getfield 15, 3) := by decide +kernel
theorem dJ0_isLatin1_aae02_10 : decode cJ0_isLatin1_aae02 10 = .ok (.ifCond .ne 7, 3) := by decide +kernel
theorem dJ0_isLatin1_aae02_13 : decode cJ0_isLatin1_aae02 13 = .ok (.iconst 1, 1) := by decide +kernel
theorem dJ0_isLatin1_aae02_14 : decode cJ0_isLatin1_aae02 14 = .ok (.goto 4, 3) := by decide +kernel
theorem dJ0_isLatin1_aae02_17 : decode cJ0_isLatin1_aae02 17 = .ok (.iconst 0, 1) := by decide +kernel
theorem dJ0_isLatin1_aae02_18 : decode cJ0_isLatin1_aae02 18 = .ok (.ireturn, 1) := by decide +kernel
theorem dJ0_checkIndex_df160_0 : decode cJ0_checkIndex_df160 0 = .ok (.iload_n 0, 1) := by decide +kernel
theorem dJ0_checkIndex_df160_1 : decode cJ0_checkIndex_df160 1 = .ok (.iload_n 1, 1) := by decide +kernel
theorem dJ0_checkIndex_df160_2 : decode cJ0_checkIndex_df160 2 = .ok (.getstatic 1053, 3) := by decide +kernel
theorem dJ0_checkIndex_df160_5 : decode cJ0_checkIndex_df160 5 = .ok (.invokestatic 1059, 3) := by decide +kernel
theorem dJ0_checkIndex_df160_8 : decode cJ0_checkIndex_df160 8 = .ok (.pop, 1) := by decide +kernel
theorem dJ0_checkIndex_df160_9 : decode cJ0_checkIndex_df160 9 = .ok (.return_, 1) := by decide +kernel
theorem dJ1_charAt_3b067_0 : decode cJ1_charAt_3b067 0 = .ok (.iload_n 1, 1) := by decide +kernel
theorem dJ1_charAt_3b067_1 : decode cJ1_charAt_3b067 1 = .ok (.aload_n 0, 1) := by decide +kernel
theorem dJ1_charAt_3b067_2 : decode cJ1_charAt_3b067 2 = .ok (.arraylength, 1) := by decide +kernel
theorem dJ1_charAt_3b067_3 : decode cJ1_charAt_3b067 3 = .ok (.invokestatic 9, 3) := by decide +kernel
theorem dJ1_charAt_3b067_6 : decode cJ1_charAt_3b067 6 = .ok (.aload_n 0, 1) := by decide +kernel
theorem dJ1_charAt_3b067_7 : decode cJ1_charAt_3b067 7 = .ok (.iload_n 1, 1) := by decide +kernel
theorem dJ1_charAt_3b067_8 : decode cJ1_charAt_3b067 8 = .ok (.baload, 1) := by decide +kernel
theorem dJ1_charAt_3b067_9 : decode cJ1_charAt_3b067 9 = .ok (.sipush 255, 3) := by decide +kernel
theorem dJ1_charAt_3b067_12 : decode cJ1_charAt_3b067 12 = .ok (.iand, 1) := by decide +kernel
theorem dJ1_charAt_3b067_13 : decode cJ1_charAt_3b067 13 = .ok (.i2c, 1) := by decide +kernel
theorem dJ1_charAt_3b067_14 : decode cJ1_charAt_3b067 14 = .ok (.ireturn, 1) := by decide +kernel
theorem dJ2_getChar_3b067_0 : decode cJ2_getChar_3b067 0 = .ok (.getstatic 44, 3) := by decide +kernel
theorem dJ2_getChar_3b067_3 : decode cJ2_getChar_3b067 3 = .ok (.ifCond .ne 25, 3) := by decide +kernel
theorem dJ2_getChar_3b067_6 : decode cJ2_getChar_3b067 6 = .ok (.iload_n 1, 1) := by decide +kernel
theorem dJ2_getChar_3b067_7 : decode cJ2_getChar_3b067 7 = .ok (.ifCond .lt 11, 3) := by decide +kernel
theorem dJ2_getChar_3b067_10 : decode cJ2_getChar_3b067 10 = .ok (.iload_n 1, 1) := by decide +kernel
theorem dJ2_getChar_3b067_11 : decode cJ2_getChar_3b067 11 = .ok (.aload_n 0, 1) := by decide +kernel
theorem dJ2_getChar_3b067_12 : decode cJ2_getChar_3b067 12 = .ok (.invokestatic 48, 3) := by decide +kernel
theorem dJ2_getChar_3b067_15 : decode cJ2_getChar_3b067 15 = .ok (.if_icmp .lt 13, 3) := by decide +kernel
theorem dJ2_getChar_3b067_18 : decode cJ2_getChar_3b067 18 = .ok (.new 52, 3) := by decide +kernel
theorem dJ2_getChar_3b067_21 : decode cJ2_getChar_3b067 21 = .ok (.dup, 1) := by decide +kernel
theorem dJ2_getChar_3b067_22 : decode cJ2_getChar_3b067 22 = .ok (.ldc 54, 2) := by decide +kernel
theorem dJ2_getChar_3b067_24 : decode cJ2_getChar_3b067 24 = .ok (.invokespecial 56, 3) := by decide +kernel
theorem dJ2_getChar_3b067_27 : decode cJ2_getChar_3b067 27 = .ok (.athrow, 1) := by decide +kernel
theorem dJ2_getChar_3b067_28 : decode cJ2_getChar_3b067 28 = .ok (.iload_n 1, 1) := by decide +kernel
theorem dJ2_getChar_3b067_29 : decode cJ2_getChar_3b067 29 = .ok (.iconst 1, 1) := by decide +kernel
theorem dJ2_getChar_3b067_30 : decode cJ2_getChar_3b067 30 = .ok (.ishl, 1) := by decide +kernel
theorem dJ2_getChar_3b067_31 : decode cJ2_getChar_3b067 31 = .ok (.istore_n 1, 1) := by decide +kernel
theorem dJ2_getChar_3b067_32 : decode cJ2_getChar_3b067 32 = .ok (.aload_n 0, 1) := by decide +kernel
theorem dJ2_getChar_3b067_33 : decode cJ2_getChar_3b067 33 = .ok (.iload_n 1, 1) := by decide +kernel
theorem dJ2_getChar_3b067_34 : decode cJ2_getChar_3b067 34 = .ok (.iinc 1 1, 3) := by decide +kernel
theorem dJ2_getChar_3b067_37 : decode cJ2_getChar_3b067 37 = .ok (.baload, 1) := by decide +kernel
theorem dJ2_getChar_3b067_38 : decode cJ2_getChar_3b067 38 = .ok (.sipush 255, 3) := by decide +kernel
theorem dJ2_getChar_3b067_41 : decode cJ2_getChar_3b067 41 = .ok (.iand, 1) := by decide +kernel
theorem dJ2_getChar_3b067_42 : decode cJ2_getChar_3b067 42 = .ok (.getstatic 59, 3) := by decide +kernel
theorem dJ2_getChar_3b067_45 : decode cJ2_getChar_3b067 45 = .ok (.ishl, 1) := by decide +kernel
theorem dJ2_getChar_3b067_46 : decode cJ2_getChar_3b067 46 = .ok (.aload_n 0, 1) := by decide +kernel
theorem dJ2_getChar_3b067_47 : decode cJ2_getChar_3b067 47 = .ok (.iload_n 1, 1) := by decide +kernel
theorem dJ2_getChar_3b067_48 : decode cJ2_getChar_3b067 48 = .ok (.baload, 1) := by decide +kernel
theorem dJ2_getChar_3b067_49 : decode cJ2_getChar_3b067 49 = .ok (.sipush 255, 3) := by decide +kernel
theorem dJ2_getChar_3b067_52 : decode cJ2_getChar_3b067 52 = .ok (.iand, 1) := by decide +kernel
theorem dJ2_getChar_3b067_53 : decode cJ2_getChar_3b067 53 = .ok (.getstatic 63, 3) := by decide +kernel
theorem dJ2_getChar_3b067_56 : decode cJ2_getChar_3b067 56 = .ok (.ishl, 1) := by decide +kernel
theorem dJ2_getChar_3b067_57 : decode cJ2_getChar_3b067 57 = .ok (.ior, 1) := by decide +kernel
theorem dJ2_getChar_3b067_58 : decode cJ2_getChar_3b067 58 = .ok (.i2c, 1) := by decide +kernel
theorem dJ2_getChar_3b067_59 : decode cJ2_getChar_3b067 59 = .ok (.ireturn, 1) := by decide +kernel
theorem dJ2_length_9d52b_0 : decode cJ2_length_9d52b 0 = .ok (.aload_n 0, 1) := by decide +kernel
theorem dJ2_length_9d52b_1 : decode cJ2_length_9d52b 1 = .ok (.arraylength, 1) := by decide +kernel
theorem dJ2_length_9d52b_2 : decode cJ2_length_9d52b 2 = .ok (.iconst 1, 1) := by decide +kernel
theorem dJ2_length_9d52b_3 : decode cJ2_length_9d52b 3 = .ok (.ishr, 1) := by decide +kernel
theorem dJ2_length_9d52b_4 : decode cJ2_length_9d52b 4 = .ok (.ireturn, 1) := by decide +kernel
theorem dJ2_charAt_3b067_0 : decode cJ2_charAt_3b067 0 = .ok (.iload_n 1, 1) := by decide +kernel
theorem dJ2_charAt_3b067_1 : decode cJ2_charAt_3b067 1 = .ok (.aload_n 0, 1) := by decide +kernel
theorem dJ2_charAt_3b067_2 : decode cJ2_charAt_3b067 2 = .ok (.invokestatic 67, 3) := by decide +kernel
theorem dJ2_charAt_3b067_5 : decode cJ2_charAt_3b067 5 = .ok (.aload_n 0, 1) := by decide +kernel
theorem dJ2_charAt_3b067_6 : decode cJ2_charAt_3b067 6 = .ok (.iload_n 1, 1) := by decide +kernel
theorem dJ2_charAt_3b067_7 : decode cJ2_charAt_3b067 7 = .ok (.invokestatic 71, 3) := by decide +kernel
theorem dJ2_charAt_3b067_10 : decode cJ2_charAt_3b067 10 = .ok (.ireturn, 1) := by decide +kernel
theorem dJ2_checkIndex_2214a_0 : decode cJ2_checkIndex_2214a 0 = .ok (.iload_n 0, 1) := by decide +kernel
theorem dJ2_checkIndex_2214a_1 : decode cJ2_checkIndex_2214a 1 = .ok (.aload_n 1, 1) := by decide +kernel
theorem dJ2_checkIndex_2214a_2 : decode cJ2_checkIndex_2214a 2 = .ok (.invokestatic 48, 3) := by decide +kernel
theorem dJ2_checkIndex_2214a_5 : decode cJ2_checkIndex_2214a 5 = .ok (.invokestatic 414, 3) := by decide +kernel
theorem dJ2_checkIndex_2214a_8 : decode cJ2_checkIndex_2214a 8 = .ok (.return_, 1) := by decide +kernel
theorem dJ3_checkIndex_8e157_0 : decode cJ3_checkIndex_8e157 0 = .ok (.iload_n 0, 1) := by decide +kernel
theorem dJ3_checkIndex_8e157_1 : decode cJ3_checkIndex_8e157 1 = .ok (.ifCond .lt 8, 3) := by decide +kernel
theorem dJ3_checkIndex_8e157_4 : decode cJ3_checkIndex_8e157 4 = .ok (.iload_n 0, 1) := by decide +kernel
theorem dJ3_checkIndex_8e157_5 : decode cJ3_checkIndex_8e157 5 = .ok (.iload_n 1, 1) := by decide +kernel
theorem dJ3_checkIndex_8e157_6 : decode cJ3_checkIndex_8e157 6 = .ok (.if_icmp .lt 10, 3) := by decide +kernel
theorem dJ3_checkIndex_8e157_9 : decode cJ3_checkIndex_8e157 9 = .ok (.aload_n 2, 1) := by decide +kernel
theorem dJ3_checkIndex_8e157_10 : decode cJ3_checkIndex_8e157 10 = .ok (.iload_n 0, 1) := by decide +kernel
theorem dJ3_checkIndex_8e157_11 : decode cJ3_checkIndex_8e157 11 = .ok (.iload_n 1, 1) := by decide +kernel
theorem dJ3_checkIndex_8e157_12 : decode cJ3_checkIndex_8e157 12 = .ok (.invokestatic 95, 3) := by decide +kernel
theorem dJ3_checkIndex_8e157_15 : decode cJ3_checkIndex_8e157 15 = .ok (.athrow, 1) := by decide +kernel
theorem dJ3_checkIndex_8e157_16 : decode cJ3_checkIndex_8e157 16 = .ok (.iload_n 0, 1) := by decide +kernel
theorem dJ3_checkIndex_8e157_17 : decode cJ3_checkIndex_8e157 17 = .ok (.ireturn, 1) := by decide +kernel
theorem dJ7_fill_53178_0 : decode cJ7_fill_53178 0 = .ok (.iconst 0, 1) := by decide +kernel
theorem dJ7_fill_53178_1 : decode cJ7_fill_53178 1 = .ok (.istore_n 2, 1) := by decide +kernel
theorem dJ7_fill_53178_2 : decode cJ7_fill_53178 2 = .ok (.aload_n 0, 1) := by decide +kernel
theorem dJ7_fill_53178_3 : decode cJ7_fill_53178 3 = .ok (.arraylength, 1) := by decide +kernel
theorem dJ7_fill_53178_4 : decode cJ7_fill_53178 4 = .ok (.istore_n 3, 1) := by decide +kernel
theorem dJ7_fill_53178_5 : decode cJ7_fill_53178 5 = .ok (.iload_n 2, 1) := by decide +kernel
theorem dJ7_fill_53178_6 : decode cJ7_fill_53178 6 = .ok (.iload_n 3, 1) := by decide +kernel
theorem dJ7_fill_53178_7 : decode cJ7_fill_53178 7 = .ok (.if_icmp .ge 13, 3) := by decide +kernel
theorem dJ7_fill_53178_10 : decode cJ7_fill_53178 10 = .ok (.aload_n 0, 1) := by decide +kernel
theorem dJ7_fill_53178_11 : decode cJ7_fill_53178 11 = .ok (.iload_n 2, 1) := by decide +kernel
theorem dJ7_fill_53178_12 : decode cJ7_fill_53178 12 = .ok (.iload_n 1, 1) := by decide +kernel
theorem dJ7_fill_53178_13 : decode cJ7_fill_53178 13 = .ok (.iastore, 1) := by decide +kernel
theorem dJ7_fill_53178_14 : decode cJ7_fill_53178 14 = .ok (.iinc 2 1, 3) := by decide +kernel
theorem dJ7_fill_53178_17 : decode cJ7_fill_53178 17 = .ok (.goto (-12), 3) := by decide +kernel
theorem dJ7_fill_53178_20 : decode cJ7_fill_53178 20 = .ok (.return_, 1) := by decide +kernel
theorem dJ9_max_7cf53_0 : decode cJ9_max_7cf53 0 = .ok (.iload_n 0, 1) := by decide +kernel
theorem dJ9_max_7cf53_1 : decode cJ9_max_7cf53 1 = .ok (.iload_n 1, 1) := by decide +kernel
theorem dJ9_max_7cf53_2 : decode cJ9_max_7cf53 2 = .ok (.if_icmp .lt 7, 3) := by decide +kernel
theorem dJ9_max_7cf53_5 : decode cJ9_max_7cf53 5 = .ok (.iload_n 0, 1) := by decide +kernel
theorem dJ9_max_7cf53_6 : decode cJ9_max_7cf53 6 = .ok (.goto 4, 3) := by decide +kernel
theorem dJ9_max_7cf53_9 : decode cJ9_max_7cf53 9 = .ok (.iload_n 1, 1) := by decide +kernel
theorem dJ9_max_7cf53_10 : decode cJ9_max_7cf53 10 = .ok (.ireturn, 1) := by decide +kernel
theorem dJ9_min_7cf53_0 : decode cJ9_min_7cf53 0 = .ok (.iload_n 0, 1) := by decide +kernel
theorem dJ9_min_7cf53_1 : decode cJ9_min_7cf53 1 = .ok (.iload_n 1, 1) := by decide +kernel
theorem dJ9_min_7cf53_2 : decode cJ9_min_7cf53 2 = .ok (.if_icmp .gt 7, 3) := by decide +kernel
theorem dJ9_min_7cf53_5 : decode cJ9_min_7cf53 5 = .ok (.iload_n 0, 1) := by decide +kernel
theorem dJ9_min_7cf53_6 : decode cJ9_min_7cf53 6 = .ok (.goto 4, 3) := by decide +kernel
theorem dJ9_min_7cf53_9 : decode cJ9_min_7cf53 9 = .ok (.iload_n 1, 1) := by decide +kernel
theorem dJ9_min_7cf53_10 : decode cJ9_min_7cf53 10 = .ok (.ireturn, 1) := by decide +kernel
theorem dX0_init_0 : decode cX0_init 0 = .ok (.aload_n 0, 1) := by decide +kernel
theorem dX0_init_1 : decode cX0_init 1 = .ok (.invokespecial 3, 3) := by decide +kernel
theorem dX0_init_4 : decode cX0_init 4 = .ok (.aload_n 0, 1) := by decide +kernel
theorem dX0_init_5 : decode cX0_init 5 = .ok (.bipush 8, 2) := by decide +kernel
theorem dX0_init_7 : decode cX0_init 7 = .ok (.anewarray 9, 3) := by decide +kernel
theorem dX0_init_10 : decode cX0_init 10 = .ok (.putfield 11, 3) := by decide +kernel
theorem dX0_init_13 : decode cX0_init 13 = .ok (.aload_n 0, 1) := by decide +kernel
theorem dX0_init_14 : decode cX0_init 14 = .ok (.iconst 0, 1) := by decide +kernel
theorem dX0_init_15 : decode cX0_init 15 = .ok (.putfield 17, 3) := by decide +kernel
theorem dX0_init_18 : decode cX0_init 18 = .ok (.aload_n 0, 1) := by decide +kernel
theorem dX0_init_19 : decode cX0_init 19 = .ok (.iconst 0, 1) := by decide +kernel
theorem dX0_init_20 : decode cX0_init 20 = .ok (.putfield 21, 3) := by decide +kernel
theorem dX0_init_23 : decode cX0_init 23 = .ok (.iconst 0, 1) := by decide +kernel
theorem dX0_init_24 : decode cX0_init 24 = .ok (.istore_n 2, 1) := by decide +kernel
theorem dX0_init_25 : decode cX0_init 25 = .ok (.iload_n 2, 1) := by decide +kernel
theorem dX0_init_26 : decode cX0_init 26 = .ok (.bipush 8, 2) := by decide +kernel
theorem dX0_init_28 : decode cX0_init 28 = .ok (.if_icmp .ge 23, 3) := by decide +kernel
theorem dX0_init_31 : decode cX0_init 31 = .ok (.aload_n 0, 1) := by decide +kernel
theorem dX0_init_32 : decode cX0_init 32 = .ok (.getfield 11, 3) := by decide +kernel
theorem dX0_init_35 : decode cX0_init 35 = .ok (.iload_n 2, 1) := by decide +kernel
theorem dX0_init_36 : decode cX0_init 36 = .ok (.new 9, 3) := by decide +kernel
theorem dX0_init_39 : decode cX0_init 39 = .ok (.dup, 1) := by decide +kernel
theorem dX0_init_40 : decode cX0_init 40 = .ok (.aload_n 1, 1) := by decide +kernel
theorem dX0_init_41 : decode cX0_init 41 = .ok (.invokespecial 24, 3) := by decide +kernel
theorem dX0_init_44 : decode cX0_init 44 = .ok (.aastore, 1) := by decide +kernel
theorem dX0_init_45 : decode cX0_init 45 = .ok (.iinc 2 1, 3) := by decide +kernel
theorem dX0_init_48 : decode cX0_init 48 = .ok (.goto (-23), 3) := by decide +kernel
theorem dX0_init_51 : decode cX0_init 51 = .ok (.return_, 1) := by decide +kernel
theorem dX0_clear_0 : decode cX0_clear 0 = .ok (.aload_n 0, 1) := by decide +kernel
theorem dX0_clear_1 : decode cX0_clear 1 = .ok (.iconst 0, 1) := by decide +kernel
theorem dX0_clear_2 : decode cX0_clear 2 = .ok (.putfield 17, 3) := by decide +kernel
theorem dX0_clear_5 : decode cX0_clear 5 = .ok (.return_, 1) := by decide +kernel
theorem dX0_keep_0 : decode cX0_keep 0 = .ok (.aload_n 0, 1) := by decide +kernel
theorem dX0_keep_1 : decode cX0_keep 1 = .ok (.getfield 11, 3) := by decide +kernel
theorem dX0_keep_4 : decode cX0_keep 4 = .ok (.aload_n 0, 1) := by decide +kernel
theorem dX0_keep_5 : decode cX0_keep 5 = .ok (.getfield 21, 3) := by decide +kernel
theorem dX0_keep_8 : decode cX0_keep 8 = .ok (.aaload, 1) := by decide +kernel
theorem dX0_keep_9 : decode cX0_keep 9 = .ok (.aload_n 1, 1) := by decide +kernel
theorem dX0_keep_10 : decode cX0_keep 10 = .ok (.invokevirtual 27, 3) := by decide +kernel
theorem dX0_keep_13 : decode cX0_keep 13 = .ok (.aload_n 0, 1) := by decide +kernel
theorem dX0_keep_14 : decode cX0_keep 14 = .ok (.aload_n 0, 1) := by decide +kernel
theorem dX0_keep_15 : decode cX0_keep 15 = .ok (.getfield 21, 3) := by decide +kernel
theorem dX0_keep_18 : decode cX0_keep 18 = .ok (.iconst 1, 1) := by decide +kernel
theorem dX0_keep_19 : decode cX0_keep 19 = .ok (.iadd, 1) := by decide +kernel
theorem dX0_keep_20 : decode cX0_keep 20 = .ok (.bipush 8, 2) := by decide +kernel
theorem dX0_keep_22 : decode cX0_keep 22 = .ok (.irem, 1) := by decide +kernel
theorem dX0_keep_23 : decode cX0_keep 23 = .ok (.putfield 21, 3) := by decide +kernel
theorem dX0_keep_26 : decode cX0_keep 26 = .ok (.aload_n 0, 1) := by decide +kernel
theorem dX0_keep_27 : decode cX0_keep 27 = .ok (.aload_n 0, 1) := by decide +kernel
theorem dX0_keep_28 : decode cX0_keep 28 = .ok (.getfield 17, 3) := by decide +kernel
theorem dX0_keep_31 : decode cX0_keep 31 = .ok (.iconst 1, 1) := by decide +kernel
theorem dX0_keep_32 : decode cX0_keep 32 = .ok (.iadd, 1) := by decide +kernel
theorem dX0_keep_33 : decode cX0_keep 33 = .ok (.bipush 8, 2) := by decide +kernel
theorem dX0_keep_35 : decode cX0_keep 35 = .ok (.invokestatic 31, 3) := by decide +kernel
theorem dX0_keep_38 : decode cX0_keep 38 = .ok (.putfield 17, 3) := by decide +kernel
theorem dX0_keep_41 : decode cX0_keep 41 = .ok (.return_, 1) := by decide +kernel
theorem dX0_giveBack_0 : decode cX0_giveBack 0 = .ok (.aload_n 0, 1) := by decide +kernel
theorem dX0_giveBack_1 : decode cX0_giveBack 1 = .ok (.getfield 17, 3) := by decide +kernel
theorem dX0_giveBack_4 : decode cX0_giveBack 4 = .ok (.iconst 1, 1) := by decide +kernel
theorem dX0_giveBack_5 : decode cX0_giveBack 5 = .ok (.if_icmp .ge 4, 3) := by decide +kernel
theorem dX0_giveBack_8 : decode cX0_giveBack 8 = .ok (.return_, 1) := by decide +kernel
theorem dX0_giveBack_9 : decode cX0_giveBack 9 = .ok (.aload_n 0, 1) := by decide +kernel
theorem dX0_giveBack_10 : decode cX0_giveBack 10 = .ok (.aload_n 0, 1) := by decide +kernel
theorem dX0_giveBack_11 : decode cX0_giveBack 11 = .ok (.getfield 21, 3) := by decide +kernel
theorem dX0_giveBack_14 : decode cX0_giveBack 14 = .ok (.bipush 8, 2) := by decide +kernel
theorem dX0_giveBack_16 : decode cX0_giveBack 16 = .ok (.iadd, 1) := by decide +kernel
theorem dX0_giveBack_17 : decode cX0_giveBack 17 = .ok (.iconst 1, 1) := by decide +kernel
theorem dX0_giveBack_18 : decode cX0_giveBack 18 = .ok (.isub, 1) := by decide +kernel
theorem dX0_giveBack_19 : decode cX0_giveBack 19 = .ok (.bipush 8, 2) := by decide +kernel
theorem dX0_giveBack_21 : decode cX0_giveBack 21 = .ok (.irem, 1) := by decide +kernel
theorem dX0_giveBack_22 : decode cX0_giveBack 22 = .ok (.putfield 21, 3) := by decide +kernel
theorem dX0_giveBack_25 : decode cX0_giveBack 25 = .ok (.aload_n 0, 1) := by decide +kernel
theorem dX0_giveBack_26 : decode cX0_giveBack 26 = .ok (.dup, 1) := by decide +kernel
theorem dX0_giveBack_27 : decode cX0_giveBack 27 = .ok (.getfield 17, 3) := by decide +kernel
theorem dX0_giveBack_30 : decode cX0_giveBack 30 = .ok (.iconst 1, 1) := by decide +kernel
theorem dX0_giveBack_31 : decode cX0_giveBack 31 = .ok (.isub, 1) := by decide +kernel
theorem dX0_giveBack_32 : decode cX0_giveBack 32 = .ok (.putfield 17, 3) := by decide +kernel
theorem dX0_giveBack_35 : decode cX0_giveBack 35 = .ok (.aload_n 1, 1) := by decide +kernel
theorem dX0_giveBack_36 : decode cX0_giveBack 36 = .ok (.aload_n 0, 1) := by decide +kernel
theorem dX0_giveBack_37 : decode cX0_giveBack 37 = .ok (.getfield 11, 3) := by decide +kernel
theorem dX0_giveBack_40 : decode cX0_giveBack 40 = .ok (.aload_n 0, 1) := by decide +kernel
theorem dX0_giveBack_41 : decode cX0_giveBack 41 = .ok (.getfield 21, 3) := by decide +kernel
theorem dX0_giveBack_44 : decode cX0_giveBack 44 = .ok (.aaload, 1) := by decide +kernel
theorem dX0_giveBack_45 : decode cX0_giveBack 45 = .ok (.invokevirtual 27, 3) := by decide +kernel
theorem dX0_giveBack_48 : decode cX0_giveBack 48 = .ok (.return_, 1) := by decide +kernel
theorem dX1_init_0 : decode cX1_init 0 = .ok (.aload_n 0, 1) := by decide +kernel
theorem dX1_init_1 : decode cX1_init 1 = .ok (.invokespecial 3, 3) := by decide +kernel
theorem dX1_init_4 : decode cX1_init 4 = .ok (.aload_n 0, 1) := by decide +kernel
theorem dX1_init_5 : decode cX1_init 5 = .ok (.bipush 6, 2) := by decide +kernel
theorem dX1_init_7 : decode cX1_init 7 = .ok (.newarray .int, 2) := by decide +kernel
theorem dX1_init_9 : decode cX1_init 9 = .ok (.putfield 9, 3) := by decide +kernel
theorem dX1_init_12 : decode cX1_init 12 = .ok (.aload_n 0, 1) := by decide +kernel
theorem dX1_init_13 : decode cX1_init 13 = .ok (.bipush 6, 2) := by decide +kernel
theorem dX1_init_15 : decode cX1_init 15 = .ok (.newarray .int, 2) := by decide +kernel
theorem dX1_init_17 : decode cX1_init 17 = .ok (.putfield 15, 3) := by decide +kernel
theorem dX1_init_20 : decode cX1_init 20 = .ok (.aload_n 0, 1) := by decide +kernel
theorem dX1_init_21 : decode cX1_init 21 = .ok (.bipush 6, 2) := by decide +kernel
theorem dX1_init_23 : decode cX1_init 23 = .ok (.newarray .int, 2) := by decide +kernel
theorem dX1_init_25 : decode cX1_init 25 = .ok (.putfield 18, 3) := by decide +kernel
theorem dX1_init_28 : decode cX1_init 28 = .ok (.aload_n 0, 1) := by decide +kernel
theorem dX1_init_29 : decode cX1_init 29 = .ok (.iconst 5, 1) := by decide +kernel
theorem dX1_init_30 : decode cX1_init 30 = .ok (.newarray .int, 2) := by decide +kernel
theorem dX1_init_32 : decode cX1_init 32 = .ok (.putfield 21, 3) := by decide +kernel
theorem dX1_init_35 : decode cX1_init 35 = .ok (.aload_n 0, 1) := by decide +kernel
theorem dX1_init_36 : decode cX1_init 36 = .ok (.bipush 20, 2) := by decide +kernel
theorem dX1_init_38 : decode cX1_init 38 = .ok (.newarray .int, 2) := by decide +kernel
theorem dX1_init_40 : decode cX1_init 40 = .ok (.putfield 24, 3) := by decide +kernel
theorem dX1_init_43 : decode cX1_init 43 = .ok (.aload_n 0, 1) := by decide +kernel
theorem dX1_init_44 : decode cX1_init 44 = .ok (.bipush 24, 2) := by decide +kernel
theorem dX1_init_46 : decode cX1_init 46 = .ok (.newarray .int, 2) := by decide +kernel
theorem dX1_init_48 : decode cX1_init 48 = .ok (.putfield 27, 3) := by decide +kernel
theorem dX1_init_51 : decode cX1_init 51 = .ok (.aload_n 0, 1) := by decide +kernel
theorem dX1_init_52 : decode cX1_init 52 = .ok (.iconst 1, 1) := by decide +kernel
theorem dX1_init_53 : decode cX1_init 53 = .ok (.putfield 30, 3) := by decide +kernel
theorem dX1_init_56 : decode cX1_init 56 = .ok (.aload_n 0, 1) := by decide +kernel
theorem dX1_init_57 : decode cX1_init 57 = .ok (.iconst 0, 1) := by decide +kernel
theorem dX1_init_58 : decode cX1_init 58 = .ok (.putfield 34, 3) := by decide +kernel
theorem dX1_init_61 : decode cX1_init 61 = .ok (.aload_n 0, 1) := by decide +kernel
theorem dX1_init_62 : decode cX1_init 62 = .ok (.iconst (-1), 1) := by decide +kernel
theorem dX1_init_63 : decode cX1_init 63 = .ok (.putfield 37, 3) := by decide +kernel
theorem dX1_init_66 : decode cX1_init 66 = .ok (.aload_n 0, 1) := by decide +kernel
theorem dX1_init_67 : decode cX1_init 67 = .ok (.iconst (-1), 1) := by decide +kernel
theorem dX1_init_68 : decode cX1_init 68 = .ok (.putfield 40, 3) := by decide +kernel
theorem dX1_init_71 : decode cX1_init 71 = .ok (.aload_n 0, 1) := by decide +kernel
theorem dX1_init_72 : decode cX1_init 72 = .ok (.aload_n 1, 1) := by decide +kernel
theorem dX1_init_73 : decode cX1_init 73 = .ok (.putfield 43, 3) := by decide +kernel
theorem dX1_init_76 : decode cX1_init 76 = .ok (.return_, 1) := by decide +kernel
theorem dX1_startAnew_0 : decode cX1_startAnew 0 = .ok (.aload_n 1, 1) := by decide +kernel
theorem dX1_startAnew_1 : decode cX1_startAnew 1 = .ok (.iconst 0, 1) := by decide +kernel
theorem dX1_startAnew_2 : decode cX1_startAnew 2 = .ok (.aload_n 0, 1) := by decide +kernel
theorem dX1_startAnew_3 : decode cX1_startAnew 3 = .ok (.getfield 21, 3) := by decide +kernel
theorem dX1_startAnew_6 : decode cX1_startAnew 6 = .ok (.iconst 0, 1) := by decide +kernel
theorem dX1_startAnew_7 : decode cX1_startAnew 7 = .ok (.iconst 5, 1) := by decide +kernel
theorem dX1_startAnew_8 : decode cX1_startAnew 8 = .ok (.invokestatic 47, 3) := by decide +kernel
theorem dX1_startAnew_11 : decode cX1_startAnew 11 = .ok (.aload_n 0, 1) := by decide +kernel
theorem dX1_startAnew_12 : decode cX1_startAnew 12 = .ok (.getfield 9, 3) := by decide +kernel
theorem dX1_startAnew_15 : decode cX1_startAnew 15 = .ok (.iconst 0, 1) := by decide +kernel
theorem dX1_startAnew_16 : decode cX1_startAnew 16 = .ok (.invokestatic 53, 3) := by decide +kernel
theorem dX1_startAnew_19 : decode cX1_startAnew 19 = .ok (.aload_n 0, 1) := by decide +kernel
theorem dX1_startAnew_20 : decode cX1_startAnew 20 = .ok (.getfield 15, 3) := by decide +kernel
theorem dX1_startAnew_23 : decode cX1_startAnew 23 = .ok (.iconst 0, 1) := by decide +kernel
theorem dX1_startAnew_24 : decode cX1_startAnew 24 = .ok (.invokestatic 53, 3) := by decide +kernel
theorem dX1_startAnew_27 : decode cX1_startAnew 27 = .ok (.aload_n 0, 1) := by decide +kernel
theorem dX1_startAnew_28 : decode cX1_startAnew 28 = .ok (.getfield 27, 3) := by decide +kernel
theorem dX1_startAnew_31 : decode cX1_startAnew 31 = .ok (.iconst 0, 1) := by decide +kernel
theorem dX1_startAnew_32 : decode cX1_startAnew 32 = .ok (.invokestatic 53, 3) := by decide +kernel
theorem dX1_startAnew_35 : decode cX1_startAnew 35 = .ok (.aload_n 0, 1) := by decide +kernel
theorem dX1_startAnew_36 : decode cX1_startAnew 36 = .ok (.iload_n 2, 1) := by decide +kernel
theorem dX1_startAnew_37 : decode cX1_startAnew 37 = .ok (.putfield 30, 3) := by decide +kernel
theorem dX1_startAnew_40 : decode cX1_startAnew 40 = .ok (.aload_n 0, 1) := by decide +kernel
theorem dX1_startAnew_41 : decode cX1_startAnew 41 = .ok (.iconst 0, 1) := by decide +kernel
theorem dX1_startAnew_42 : decode cX1_startAnew 42 = .ok (.putfield 34, 3) := by decide +kernel
theorem dX1_startAnew_45 : decode cX1_startAnew 45 = .ok (.aload_n 0, 1) := by decide +kernel
theorem dX1_startAnew_46 : decode cX1_startAnew 46 = .ok (.iconst (-1), 1) := by decide +kernel
theorem dX1_startAnew_47 : decode cX1_startAnew 47 = .ok (.putfield 37, 3) := by decide +kernel
theorem dX1_startAnew_50 : decode cX1_startAnew 50 = .ok (.aload_n 0, 1) := by decide +kernel
theorem dX1_startAnew_51 : decode cX1_startAnew 51 = .ok (.iconst (-1), 1) := by decide +kernel
theorem dX1_startAnew_52 : decode cX1_startAnew 52 = .ok (.putfield 40, 3) := by decide +kernel
theorem dX1_startAnew_55 : decode cX1_startAnew 55 = .ok (.aload_n 0, 1) := by decide +kernel
theorem dX1_startAnew_56 : decode cX1_startAnew 56 = .ok (.invokevirtual 59, 3) := by decide +kernel
theorem dX1_startAnew_59 : decode cX1_startAnew 59 = .ok (.return_, 1) := by decide +kernel
theorem dX1_copyFrom_0 : decode cX1_copyFrom 0 = .ok (.aload_n 1, 1) := by decide +kernel
theorem dX1_copyFrom_1 : decode cX1_copyFrom 1 = .ok (.getfield 9, 3) := by decide +kernel
theorem dX1_copyFrom_4 : decode cX1_copyFrom 4 = .ok (.iconst 0, 1) := by decide +kernel
theorem dX1_copyFrom_5 : decode cX1_copyFrom 5 = .ok (.aload_n 0, 1) := by decide +kernel
theorem dX1_copyFrom_6 : decode cX1_copyFrom 6 = .ok (.getfield 9, 3) := by decide +kernel
theorem dX1_copyFrom_9 : decode cX1_copyFrom 9 = .ok (.iconst 0, 1) := by decide +kernel
theorem dX1_copyFrom_10 : decode cX1_copyFrom 10 = .ok (.bipush 6, 2) := by decide +kernel
theorem dX1_copyFrom_12 : decode cX1_copyFrom 12 = .ok (.invokestatic 47, 3) := by decide +kernel
theorem dX1_copyFrom_15 : decode cX1_copyFrom 15 = .ok (.aload_n 1, 1) := by decide +kernel
theorem dX1_copyFrom_16 : decode cX1_copyFrom 16 = .ok (.getfield 15, 3) := by decide +kernel
theorem dX1_copyFrom_19 : decode cX1_copyFrom 19 = .ok (.iconst 0, 1) := by decide +kernel
theorem dX1_copyFrom_20 : decode cX1_copyFrom 20 = .ok (.aload_n 0, 1) := by decide +kernel
theorem dX1_copyFrom_21 : decode cX1_copyFrom 21 = .ok (.getfield 15, 3) := by decide +kernel
theorem dX1_copyFrom_24 : decode cX1_copyFrom 24 = .ok (.iconst 0, 1) := by decide +kernel
theorem dX1_copyFrom_25 : decode cX1_copyFrom 25 = .ok (.bipush 6, 2) := by decide +kernel
theorem dX1_copyFrom_27 : decode cX1_copyFrom 27 = .ok (.invokestatic 47, 3) := by decide +kernel
theorem dX1_copyFrom_30 : decode cX1_copyFrom 30 = .ok (.aload_n 1, 1) := by decide +kernel
theorem dX1_copyFrom_31 : decode cX1_copyFrom 31 = .ok (.getfield 18, 3) := by decide +kernel
theorem dX1_copyFrom_34 : decode cX1_copyFrom 34 = .ok (.iconst 0, 1) := by decide +kernel
theorem dX1_copyFrom_35 : decode cX1_copyFrom 35 = .ok (.aload_n 0, 1) := by decide +kernel
theorem dX1_copyFrom_36 : decode cX1_copyFrom 36 = .ok (.getfield 18, 3) := by decide +kernel
theorem dX1_copyFrom_39 : decode cX1_copyFrom 39 = .ok (.iconst 0, 1) := by decide +kernel
theorem dX1_copyFrom_40 : decode cX1_copyFrom 40 = .ok (.bipush 6, 2) := by decide +kernel
theorem dX1_copyFrom_42 : decode cX1_copyFrom 42 = .ok (.invokestatic 47, 3) := by decide +kernel
theorem dX1_copyFrom_45 : decode cX1_copyFrom 45 = .ok (.aload_n 1, 1) := by decide +kernel
theorem dX1_copyFrom_46 : decode cX1_copyFrom 46 = .ok (.getfield 21, 3) := by decide +kernel
theorem dX1_copyFrom_49 : decode cX1_copyFrom 49 = .ok (.iconst 0, 1) := by decide +kernel
theorem dX1_copyFrom_50 : decode cX1_copyFrom 50 = .ok (.aload_n 0, 1) := by decide +kernel
theorem dX1_copyFrom_51 : decode cX1_copyFrom 51 = .ok (.getfield 21, 3) := by decide +kernel
theorem dX1_copyFrom_54 : decode cX1_copyFrom 54 = .ok (.iconst 0, 1) := by decide +kernel
theorem dX1_copyFrom_55 : decode cX1_copyFrom 55 = .ok (.iconst 5, 1) := by decide +kernel
theorem dX1_copyFrom_56 : decode cX1_copyFrom 56 = .ok (.invokestatic 47, 3) := by decide +kernel
theorem dX1_copyFrom_59 : decode cX1_copyFrom 59 = .ok (.aload_n 1, 1) := by decide +kernel
theorem dX1_copyFrom_60 : decode cX1_copyFrom 60 = .ok (.getfield 24, 3) := by decide +kernel
theorem dX1_copyFrom_63 : decode cX1_copyFrom 63 = .ok (.iconst 0, 1) := by decide +kernel
theorem dX1_copyFrom_64 : decode cX1_copyFrom 64 = .ok (.aload_n 0, 1) := by decide +kernel
theorem dX1_copyFrom_65 : decode cX1_copyFrom 65 = .ok (.getfield 24, 3) := by decide +kernel
theorem dX1_copyFrom_68 : decode cX1_copyFrom 68 = .ok (.iconst 0, 1) := by decide +kernel
theorem dX1_copyFrom_69 : decode cX1_copyFrom 69 = .ok (.bipush 20, 2) := by decide +kernel
theorem dX1_copyFrom_71 : decode cX1_copyFrom 71 = .ok (.invokestatic 47, 3) := by decide +kernel
theorem dX1_copyFrom_74 : decode cX1_copyFrom 74 = .ok (.aload_n 1, 1) := by decide +kernel
theorem dX1_copyFrom_75 : decode cX1_copyFrom 75 = .ok (.getfield 27, 3) := by decide +kernel
theorem dX1_copyFrom_78 : decode cX1_copyFrom 78 = .ok (.iconst 0, 1) := by decide +kernel
theorem dX1_copyFrom_79 : decode cX1_copyFrom 79 = .ok (.aload_n 0, 1) := by decide +kernel
theorem dX1_copyFrom_80 : decode cX1_copyFrom 80 = .ok (.getfield 27, 3) := by decide +kernel
theorem dX1_copyFrom_83 : decode cX1_copyFrom 83 = .ok (.iconst 0, 1) := by decide +kernel
theorem dX1_copyFrom_84 : decode cX1_copyFrom 84 = .ok (.bipush 24, 2) := by decide +kernel
theorem dX1_copyFrom_86 : decode cX1_copyFrom 86 = .ok (.invokestatic 47, 3) := by decide +kernel
theorem dX1_copyFrom_89 : decode cX1_copyFrom 89 = .ok (.aload_n 0, 1) := by decide +kernel
theorem dX1_copyFrom_90 : decode cX1_copyFrom 90 = .ok (.aload_n 1, 1) := by decide +kernel
theorem dX1_copyFrom_91 : decode cX1_copyFrom 91 = .ok (.getfield 30, 3) := by decide +kernel
theorem dX1_copyFrom_94 : decode cX1_copyFrom 94 = .ok (.putfield 30, 3) := by decide +kernel
theorem dX1_copyFrom_97 : decode cX1_copyFrom 97 = .ok (.aload_n 0, 1) := by decide +kernel
theorem dX1_copyFrom_98 : decode cX1_copyFrom 98 = .ok (.aload_n 1, 1) := by decide +kernel
theorem dX1_copyFrom_99 : decode cX1_copyFrom 99 = .ok (.getfield 34, 3) := by decide +kernel
theorem dX1_copyFrom_102 : decode cX1_copyFrom 102 = .ok (.putfield 34, 3) := by decide +kernel
theorem dX1_copyFrom_105 : decode cX1_copyFrom 105 = .ok (.aload_n 0, 1) := by decide +kernel
theorem dX1_copyFrom_106 : decode cX1_copyFrom 106 = .ok (.aload_n 1, 1) := by decide +kernel
theorem dX1_copyFrom_107 : decode cX1_copyFrom 107 = .ok (.getfield 37, 3) := by decide +kernel
theorem dX1_copyFrom_110 : decode cX1_copyFrom 110 = .ok (.putfield 37, 3) := by decide +kernel
theorem dX1_copyFrom_113 : decode cX1_copyFrom 113 = .ok (.aload_n 0, 1) := by decide +kernel
theorem dX1_copyFrom_114 : decode cX1_copyFrom 114 = .ok (.aload_n 1, 1) := by decide +kernel
theorem dX1_copyFrom_115 : decode cX1_copyFrom 115 = .ok (.getfield 40, 3) := by decide +kernel
theorem dX1_copyFrom_118 : decode cX1_copyFrom 118 = .ok (.putfield 40, 3) := by decide +kernel
theorem dX1_copyFrom_121 : decode cX1_copyFrom 121 = .ok (.return_, 1) := by decide +kernel
theorem dX1_out_0 : decode cX1_out 0 = .ok (.aload_n 0, 1) := by decide +kernel
theorem dX1_out_1 : decode cX1_out 1 = .ok (.getfield 43, 3) := by decide +kernel
theorem dX1_out_4 : decode cX1_out 4 = .ok (.getfield 62, 3) := by decide +kernel
theorem dX1_out_7 : decode cX1_out 7 = .ok (.iconst 1, 1) := by decide +kernel
theorem dX1_out_8 : decode cX1_out 8 = .ok (.if_icmp .ge 7, 3) := by decide +kernel
theorem dX1_out_11 : decode cX1_out 11 = .ok (.iconst 0, 1) := by decide +kernel
theorem dX1_out_12 : decode cX1_out 12 = .ok (.goto 17, 3) := by decide +kernel
theorem dX1_out_15 : decode cX1_out 15 = .ok (.aload_n 0, 1) := by decide +kernel
theorem dX1_out_16 : decode cX1_out 16 = .ok (.getfield 15, 3) := by decide +kernel
theorem dX1_out_19 : decode cX1_out 19 = .ok (.aload_n 0, 1) := by decide +kernel
theorem dX1_out_20 : decode cX1_out 20 = .ok (.getfield 43, 3) := by decide +kernel
theorem dX1_out_23 : decode cX1_out 23 = .ok (.getfield 62, 3) := by decide +kernel
theorem dX1_out_26 : decode cX1_out 26 = .ok (.iconst 1, 1) := by decide +kernel
theorem dX1_out_27 : decode cX1_out 27 = .ok (.isub, 1) := by decide +kernel
theorem dX1_out_28 : decode cX1_out 28 = .ok (.iaload, 1) := by decide +kernel
theorem dX1_out_29 : decode cX1_out 29 = .ok (.ireturn, 1) := by decide +kernel
theorem dX1_onTheirWay_0 : decode cX1_onTheirWay 0 = .ok (.aload_n 0, 1) := by decide +kernel
theorem dX1_onTheirWay_1 : decode cX1_onTheirWay 1 = .ok (.getfield 9, 3) := by decide +kernel
theorem dX1_onTheirWay_4 : decode cX1_onTheirWay 4 = .ok (.iconst 0, 1) := by decide +kernel
theorem dX1_onTheirWay_5 : decode cX1_onTheirWay 5 = .ok (.iaload, 1) := by decide +kernel
theorem dX1_onTheirWay_6 : decode cX1_onTheirWay 6 = .ok (.aload_n 0, 1) := by decide +kernel
theorem dX1_onTheirWay_7 : decode cX1_onTheirWay 7 = .ok (.invokevirtual 67, 3) := by decide +kernel
theorem dX1_onTheirWay_10 : decode cX1_onTheirWay 10 = .ok (.isub, 1) := by decide +kernel
theorem dX1_onTheirWay_11 : decode cX1_onTheirWay 11 = .ok (.ireturn, 1) := by decide +kernel
theorem dX1_isIdle_0 : decode cX1_isIdle 0 = .ok (.aload_n 0, 1) := by decide +kernel
theorem dX1_isIdle_1 : decode cX1_isIdle 1 = .ok (.getfield 9, 3) := by decide +kernel
theorem dX1_isIdle_4 : decode cX1_isIdle 4 = .ok (.iload_n 1, 1) := by decide +kernel
theorem dX1_isIdle_5 : decode cX1_isIdle 5 = .ok (.iaload, 1) := by decide +kernel
theorem dX1_isIdle_6 : decode cX1_isIdle 6 = .ok (.aload_n 0, 1) := by decide +kernel
theorem dX1_isIdle_7 : decode cX1_isIdle 7 = .ok (.getfield 15, 3) := by decide +kernel
theorem dX1_isIdle_10 : decode cX1_isIdle 10 = .ok (.iload_n 1, 1) := by decide +kernel
theorem dX1_isIdle_11 : decode cX1_isIdle 11 = .ok (.iaload, 1) := by decide +kernel
theorem dX1_isIdle_12 : decode cX1_isIdle 12 = .ok (.if_icmp .ne 7, 3) := by decide +kernel
theorem dX1_isIdle_15 : decode cX1_isIdle 15 = .ok (.iconst 1, 1) := by decide +kernel
theorem dX1_isIdle_16 : decode cX1_isIdle 16 = .ok (.goto 4, 3) := by decide +kernel
theorem dX1_isIdle_19 : decode cX1_isIdle 19 = .ok (.iconst 0, 1) := by decide +kernel
theorem dX1_isIdle_20 : decode cX1_isIdle 20 = .ok (.ireturn, 1) := by decide +kernel
theorem dX1_waiting_0 : decode cX1_waiting 0 = .ok (.iload_n 1, 1) := by decide +kernel
theorem dX1_waiting_1 : decode cX1_waiting 1 = .ok (.iconst 1, 1) := by decide +kernel
theorem dX1_waiting_2 : decode cX1_waiting 2 = .ok (.if_icmp .ge 7, 3) := by decide +kernel
theorem dX1_waiting_5 : decode cX1_waiting 5 = .ok (.iconst 0, 1) := by decide +kernel
theorem dX1_waiting_6 : decode cX1_waiting 6 = .ok (.goto 18, 3) := by decide +kernel
theorem dX1_waiting_9 : decode cX1_waiting 9 = .ok (.aload_n 0, 1) := by decide +kernel
theorem dX1_waiting_10 : decode cX1_waiting 10 = .ok (.getfield 15, 3) := by decide +kernel
theorem dX1_waiting_13 : decode cX1_waiting 13 = .ok (.iload_n 1, 1) := by decide +kernel
theorem dX1_waiting_14 : decode cX1_waiting 14 = .ok (.iconst 1, 1) := by decide +kernel
theorem dX1_waiting_15 : decode cX1_waiting 15 = .ok (.isub, 1) := by decide +kernel
theorem dX1_waiting_16 : decode cX1_waiting 16 = .ok (.iaload, 1) := by decide +kernel
theorem dX1_waiting_17 : decode cX1_waiting 17 = .ok (.aload_n 0, 1) := by decide +kernel
theorem dX1_waiting_18 : decode cX1_waiting 18 = .ok (.getfield 9, 3) := by decide +kernel
theorem dX1_waiting_21 : decode cX1_waiting 21 = .ok (.iload_n 1, 1) := by decide +kernel
theorem dX1_waiting_22 : decode cX1_waiting 22 = .ok (.iaload, 1) := by decide +kernel
theorem dX1_waiting_23 : decode cX1_waiting 23 = .ok (.isub, 1) := by decide +kernel
theorem dX1_waiting_24 : decode cX1_waiting 24 = .ok (.ireturn, 1) := by decide +kernel
theorem dX1_free_0 : decode cX1_free 0 = .ok (.aload_n 0, 1) := by decide +kernel
theorem dX1_free_1 : decode cX1_free 1 = .ok (.getfield 21, 3) := by decide +kernel
theorem dX1_free_4 : decode cX1_free 4 = .ok (.iload_n 1, 1) := by decide +kernel
theorem dX1_free_5 : decode cX1_free 5 = .ok (.iaload, 1) := by decide +kernel
theorem dX1_free_6 : decode cX1_free 6 = .ok (.aload_n 0, 1) := by decide +kernel
theorem dX1_free_7 : decode cX1_free 7 = .ok (.getfield 9, 3) := by decide +kernel
theorem dX1_free_10 : decode cX1_free 10 = .ok (.aload_n 0, 1) := by decide +kernel
theorem dX1_free_11 : decode cX1_free 11 = .ok (.getfield 43, 3) := by decide +kernel
theorem dX1_free_14 : decode cX1_free 14 = .ok (.getfield 71, 3) := by decide +kernel
theorem dX1_free_17 : decode cX1_free 17 = .ok (.iload_n 1, 1) := by decide +kernel
theorem dX1_free_18 : decode cX1_free 18 = .ok (.iaload, 1) := by decide +kernel
theorem dX1_free_19 : decode cX1_free 19 = .ok (.iaload, 1) := by decide +kernel
theorem dX1_free_20 : decode cX1_free 20 = .ok (.aload_n 0, 1) := by decide +kernel
theorem dX1_free_21 : decode cX1_free 21 = .ok (.getfield 15, 3) := by decide +kernel
theorem dX1_free_24 : decode cX1_free 24 = .ok (.aload_n 0, 1) := by decide +kernel
theorem dX1_free_25 : decode cX1_free 25 = .ok (.getfield 43, 3) := by decide +kernel
theorem dX1_free_28 : decode cX1_free 28 = .ok (.getfield 74, 3) := by decide +kernel
theorem dX1_free_31 : decode cX1_free 31 = .ok (.iload_n 1, 1) := by decide +kernel
theorem dX1_free_32 : decode cX1_free 32 = .ok (.iaload, 1) := by decide +kernel
theorem dX1_free_33 : decode cX1_free 33 = .ok (.iaload, 1) := by decide +kernel
theorem dX1_free_34 : decode cX1_free 34 = .ok (.isub, 1) := by decide +kernel
theorem dX1_free_35 : decode cX1_free 35 = .ok (.isub, 1) := by decide +kernel
theorem dX1_free_36 : decode cX1_free 36 = .ok (.ireturn, 1) := by decide +kernel
theorem dX1_kindOf_0 : decode cX1_kindOf 0 = .ok (.aload_n 0, 1) := by decide +kernel
theorem dX1_kindOf_1 : decode cX1_kindOf 1 = .ok (.getfield 43, 3) := by decide +kernel
theorem dX1_kindOf_4 : decode cX1_kindOf 4 = .ok (.getfield 77, 3) := by decide +kernel
theorem dX1_kindOf_7 : decode cX1_kindOf 7 = .ok (.iconst 1, 1) := by decide +kernel
theorem dX1_kindOf_8 : decode cX1_kindOf 8 = .ok (.if_icmp .lt 15, 3) := by decide +kernel
theorem dX1_kindOf_11 : decode cX1_kindOf 11 = .ok (.aload_n 0, 1) := by decide +kernel
theorem dX1_kindOf_12 : decode cX1_kindOf 12 = .ok (.getfield 30, 3) := by decide +kernel
theorem dX1_kindOf_15 : decode cX1_kindOf 15 = .ok (.iconst 1, 1) := by decide +kernel
theorem dX1_kindOf_16 : decode cX1_kindOf 16 = .ok (.if_icmp .lt 7, 3) := by decide +kernel
theorem dX1_kindOf_19 : decode cX1_kindOf 19 = .ok (.iload_n 1, 1) := by decide +kernel
theorem dX1_kindOf_20 : decode cX1_kindOf 20 = .ok (.ifCond .ge 5, 3) := by decide +kernel
theorem dX1_kindOf_23 : decode cX1_kindOf 23 = .ok (.iconst 0, 1) := by decide +kernel
theorem dX1_kindOf_24 : decode cX1_kindOf 24 = .ok (.ireturn, 1) := by decide +kernel
theorem dX1_kindOf_25 : decode cX1_kindOf 25 = .ok (.aload_n 0, 1) := by decide +kernel
theorem dX1_kindOf_26 : decode cX1_kindOf 26 = .ok (.getfield 43, 3) := by decide +kernel
theorem dX1_kindOf_29 : decode cX1_kindOf 29 = .ok (.getfield 80, 3) := by decide +kernel
theorem dX1_kindOf_32 : decode cX1_kindOf 32 = .ok (.iload_n 1, 1) := by decide +kernel
theorem dX1_kindOf_33 : decode cX1_kindOf 33 = .ok (.aload_n 0, 1) := by decide +kernel
theorem dX1_kindOf_34 : decode cX1_kindOf 34 = .ok (.getfield 30, 3) := by decide +kernel
theorem dX1_kindOf_37 : decode cX1_kindOf 37 = .ok (.idiv, 1) := by decide +kernel
theorem dX1_kindOf_38 : decode cX1_kindOf 38 = .ok (.aload_n 0, 1) := by decide +kernel
theorem dX1_kindOf_39 : decode cX1_kindOf 39 = .ok (.getfield 43, 3) := by decide +kernel
theorem dX1_kindOf_42 : decode cX1_kindOf 42 = .ok (.getfield 77, 3) := by decide +kernel
theorem dX1_kindOf_45 : decode cX1_kindOf 45 = .ok (.irem, 1) := by decide +kernel
theorem dX1_kindOf_46 : decode cX1_kindOf 46 = .ok (.iaload, 1) := by decide +kernel
theorem dX1_kindOf_47 : decode cX1_kindOf 47 = .ok (.ireturn, 1) := by decide +kernel
theorem dX1_kindAt_0 : decode cX1_kindAt 0 = .ok (.aload_n 0, 1) := by decide +kernel
theorem dX1_kindAt_1 : decode cX1_kindAt 1 = .ok (.iload_n 1, 1) := by decide +kernel
theorem dX1_kindAt_2 : decode cX1_kindAt 2 = .ok (.invokevirtual 83, 3) := by decide +kernel
theorem dX1_kindAt_5 : decode cX1_kindAt 5 = .ok (.ifCond .eq 7, 3) := by decide +kernel
theorem dX1_kindAt_8 : decode cX1_kindAt 8 = .ok (.iconst (-1), 1) := by decide +kernel
theorem dX1_kindAt_9 : decode cX1_kindAt 9 = .ok (.goto 15, 3) := by decide +kernel
theorem dX1_kindAt_12 : decode cX1_kindAt 12 = .ok (.aload_n 0, 1) := by decide +kernel
theorem dX1_kindAt_13 : decode cX1_kindAt 13 = .ok (.aload_n 0, 1) := by decide +kernel
theorem dX1_kindAt_14 : decode cX1_kindAt 14 = .ok (.getfield 9, 3) := by decide +kernel
theorem dX1_kindAt_17 : decode cX1_kindAt 17 = .ok (.iload_n 1, 1) := by decide +kernel
theorem dX1_kindAt_18 : decode cX1_kindAt 18 = .ok (.iaload, 1) := by decide +kernel
theorem dX1_kindAt_19 : decode cX1_kindAt 19 = .ok (.iconst 1, 1) := by decide +kernel
theorem dX1_kindAt_20 : decode cX1_kindAt 20 = .ok (.isub, 1) := by decide +kernel
theorem dX1_kindAt_21 : decode cX1_kindAt 21 = .ok (.invokevirtual 87, 3) := by decide +kernel
theorem dX1_kindAt_24 : decode cX1_kindAt 24 = .ok (.ireturn, 1) := by decide +kernel
theorem dX1_placeInRuns_0 : decode cX1_placeInRuns 0 = .ok (.aload_n 0, 1) := by decide +kernel
theorem dX1_placeInRuns_1 : decode cX1_placeInRuns 1 = .ok (.getfield 43, 3) := by decide +kernel
theorem dX1_placeInRuns_4 : decode cX1_placeInRuns 4 = .ok (.getfield 77, 3) := by decide +kernel
theorem dX1_placeInRuns_7 : decode cX1_placeInRuns 7 = .ok (.aload_n 0, 1) := by decide +kernel
theorem dX1_placeInRuns_8 : decode cX1_placeInRuns 8 = .ok (.getfield 30, 3) := by decide +kernel
theorem dX1_placeInRuns_11 : decode cX1_placeInRuns 11 = .ok (.imul, 1) := by decide +kernel
theorem dX1_placeInRuns_12 : decode cX1_placeInRuns 12 = .ok (.istore_n 1, 1) := by decide +kernel
theorem dX1_placeInRuns_13 : decode cX1_placeInRuns 13 = .ok (.iload_n 1, 1) := by decide +kernel
theorem dX1_placeInRuns_14 : decode cX1_placeInRuns 14 = .ok (.iconst 1, 1) := by decide +kernel
theorem dX1_placeInRuns_15 : decode cX1_placeInRuns 15 = .ok (.if_icmp .ge 7, 3) := by decide +kernel
theorem dX1_placeInRuns_18 : decode cX1_placeInRuns 18 = .ok (.iconst 0, 1) := by decide +kernel
theorem dX1_placeInRuns_19 : decode cX1_placeInRuns 19 = .ok (.goto 11, 3) := by decide +kernel
theorem dX1_placeInRuns_22 : decode cX1_placeInRuns 22 = .ok (.aload_n 0, 1) := by decide +kernel
theorem dX1_placeInRuns_23 : decode cX1_placeInRuns 23 = .ok (.getfield 9, 3) := by decide +kernel
theorem dX1_placeInRuns_26 : decode cX1_placeInRuns 26 = .ok (.iconst 0, 1) := by decide +kernel
theorem dX1_placeInRuns_27 : decode cX1_placeInRuns 27 = .ok (.iaload, 1) := by decide +kernel
theorem dX1_placeInRuns_28 : decode cX1_placeInRuns 28 = .ok (.iload_n 1, 1) := by decide +kernel
theorem dX1_placeInRuns_29 : decode cX1_placeInRuns 29 = .ok (.irem, 1) := by decide +kernel
theorem dX1_placeInRuns_30 : decode cX1_placeInRuns 30 = .ok (.ireturn, 1) := by decide +kernel
theorem dX1_setUpAt_0 : decode cX1_setUpAt 0 = .ok (.aload_n 0, 1) := by decide +kernel
theorem dX1_setUpAt_1 : decode cX1_setUpAt 1 = .ok (.getfield 18, 3) := by decide +kernel
theorem dX1_setUpAt_4 : decode cX1_setUpAt 4 = .ok (.iload_n 1, 1) := by decide +kernel
theorem dX1_setUpAt_5 : decode cX1_setUpAt 5 = .ok (.iaload, 1) := by decide +kernel
theorem dX1_setUpAt_6 : decode cX1_setUpAt 6 = .ok (.aload_n 0, 1) := by decide +kernel
theorem dX1_setUpAt_7 : decode cX1_setUpAt 7 = .ok (.getfield 43, 3) := by decide +kernel
theorem dX1_setUpAt_10 : decode cX1_setUpAt 10 = .ok (.getfield 91, 3) := by decide +kernel
theorem dX1_setUpAt_13 : decode cX1_setUpAt 13 = .ok (.iload_n 1, 1) := by decide +kernel
theorem dX1_setUpAt_14 : decode cX1_setUpAt 14 = .ok (.iaload, 1) := by decide +kernel
theorem dX1_setUpAt_15 : decode cX1_setUpAt 15 = .ok (.isub, 1) := by decide +kernel
theorem dX1_setUpAt_16 : decode cX1_setUpAt 16 = .ok (.ireturn, 1) := by decide +kernel
theorem dX1_stateOf_0 : decode cX1_stateOf 0 = .ok (.aload_n 0, 1) := by decide +kernel
theorem dX1_stateOf_1 : decode cX1_stateOf 1 = .ok (.iload_n 1, 1) := by decide +kernel
theorem dX1_stateOf_2 : decode cX1_stateOf 2 = .ok (.invokevirtual 83, 3) := by decide +kernel
theorem dX1_stateOf_5 : decode cX1_stateOf 5 = .ok (.ifCond .ne 21, 3) := by decide +kernel
theorem dX1_stateOf_8 : decode cX1_stateOf 8 = .ok (.aload_n 0, 1) := by decide +kernel
theorem dX1_stateOf_9 : decode cX1_stateOf 9 = .ok (.getfield 34, 3) := by decide +kernel
theorem dX1_stateOf_12 : decode cX1_stateOf 12 = .ok (.aload_n 0, 1) := by decide +kernel
theorem dX1_stateOf_13 : decode cX1_stateOf 13 = .ok (.iload_n 1, 1) := by decide +kernel
theorem dX1_stateOf_14 : decode cX1_stateOf 14 = .ok (.invokevirtual 94, 3) := by decide +kernel
theorem dX1_stateOf_17 : decode cX1_stateOf 17 = .ok (.if_icmp .ge 7, 3) := by decide +kernel
theorem dX1_stateOf_20 : decode cX1_stateOf 20 = .ok (.iconst 2, 1) := by decide +kernel
theorem dX1_stateOf_21 : decode cX1_stateOf 21 = .ok (.goto 4, 3) := by decide +kernel
theorem dX1_stateOf_24 : decode cX1_stateOf 24 = .ok (.iconst 3, 1) := by decide +kernel
theorem dX1_stateOf_25 : decode cX1_stateOf 25 = .ok (.ireturn, 1) := by decide +kernel
theorem dX1_stateOf_26 : decode cX1_stateOf 26 = .ok (.iload_n 1, 1) := by decide +kernel
theorem dX1_stateOf_27 : decode cX1_stateOf 27 = .ok (.ifCond .eq 11, 3) := by decide +kernel
theorem dX1_stateOf_30 : decode cX1_stateOf 30 = .ok (.aload_n 0, 1) := by decide +kernel
theorem dX1_stateOf_31 : decode cX1_stateOf 31 = .ok (.iload_n 1, 1) := by decide +kernel
theorem dX1_stateOf_32 : decode cX1_stateOf 32 = .ok (.invokevirtual 97, 3) := by decide +kernel
theorem dX1_stateOf_35 : decode cX1_stateOf 35 = .ok (.ifCond .le 7, 3) := by decide +kernel
theorem dX1_stateOf_38 : decode cX1_stateOf 38 = .ok (.iconst 1, 1) := by decide +kernel
theorem dX1_stateOf_39 : decode cX1_stateOf 39 = .ok (.goto 4, 3) := by decide +kernel
theorem dX1_stateOf_42 : decode cX1_stateOf 42 = .ok (.iconst 0, 1) := by decide +kernel
theorem dX1_stateOf_43 : decode cX1_stateOf 43 = .ok (.ireturn, 1) := by decide +kernel
theorem dX1_round_0 : decode cX1_round 0 = .ok (.aload_n 0, 1) := by decide +kernel
theorem dX1_round_1 : decode cX1_round 1 = .ok (.getfield 43, 3) := by decide +kernel
theorem dX1_round_4 : decode cX1_round 4 = .ok (.getfield 62, 3) := by decide +kernel
theorem dX1_round_7 : decode cX1_round 7 = .ok (.iconst 1, 1) := by decide +kernel
theorem dX1_round_8 : decode cX1_round 8 = .ok (.isub, 1) := by decide +kernel
theorem dX1_round_9 : decode cX1_round 9 = .ok (.istore_n 1, 1) := by decide +kernel
theorem dX1_round_10 : decode cX1_round 10 = .ok (.iload_n 1, 1) := by decide +kernel
theorem dX1_round_11 : decode cX1_round 11 = .ok (.ifCond .lt 35, 3) := by decide +kernel
theorem dX1_round_14 : decode cX1_round 14 = .ok (.aload_n 0, 1) := by decide +kernel
theorem dX1_round_15 : decode cX1_round 15 = .ok (.iload_n 1, 1) := by decide +kernel
theorem dX1_round_16 : decode cX1_round 16 = .ok (.invokevirtual 83, 3) := by decide +kernel
theorem dX1_round_19 : decode cX1_round 19 = .ok (.ifCond .ne 21, 3) := by decide +kernel
theorem dX1_round_22 : decode cX1_round 22 = .ok (.aload_n 0, 1) := by decide +kernel
theorem dX1_round_23 : decode cX1_round 23 = .ok (.getfield 18, 3) := by decide +kernel
theorem dX1_round_26 : decode cX1_round 26 = .ok (.iload_n 1, 1) := by decide +kernel
theorem dX1_round_27 : decode cX1_round 27 = .ok (.iaload, 1) := by decide +kernel
theorem dX1_round_28 : decode cX1_round 28 = .ok (.aload_n 0, 1) := by decide +kernel
theorem dX1_round_29 : decode cX1_round 29 = .ok (.getfield 34, 3) := by decide +kernel
theorem dX1_round_32 : decode cX1_round 32 = .ok (.if_icmp .gt 8, 3) := by decide +kernel
theorem dX1_round_35 : decode cX1_round 35 = .ok (.aload_n 0, 1) := by decide +kernel
theorem dX1_round_36 : decode cX1_round 36 = .ok (.iload_n 1, 1) := by decide +kernel
theorem dX1_round_37 : decode cX1_round 37 = .ok (.invokevirtual 100, 3) := by decide +kernel
theorem dX1_round_40 : decode cX1_round 40 = .ok (.iinc 1 (-1), 3) := by decide +kernel
theorem dX1_round_43 : decode cX1_round 43 = .ok (.goto (-33), 3) := by decide +kernel
theorem dX1_round_46 : decode cX1_round 46 = .ok (.aload_n 0, 1) := by decide +kernel
theorem dX1_round_47 : decode cX1_round 47 = .ok (.getfield 43, 3) := by decide +kernel
theorem dX1_round_50 : decode cX1_round 50 = .ok (.getfield 62, 3) := by decide +kernel
theorem dX1_round_53 : decode cX1_round 53 = .ok (.iconst 1, 1) := by decide +kernel
theorem dX1_round_54 : decode cX1_round 54 = .ok (.isub, 1) := by decide +kernel
theorem dX1_round_55 : decode cX1_round 55 = .ok (.istore_n 1, 1) := by decide +kernel
theorem dX1_round_56 : decode cX1_round 56 = .ok (.iload_n 1, 1) := by decide +kernel
theorem dX1_round_57 : decode cX1_round 57 = .ok (.ifCond .lt 30, 3) := by decide +kernel
theorem dX1_round_60 : decode cX1_round 60 = .ok (.aload_n 0, 1) := by decide +kernel
theorem dX1_round_61 : decode cX1_round 61 = .ok (.iload_n 1, 1) := by decide +kernel
theorem dX1_round_62 : decode cX1_round 62 = .ok (.invokevirtual 83, 3) := by decide +kernel
theorem dX1_round_65 : decode cX1_round 65 = .ok (.ifCond .eq 16, 3) := by decide +kernel
theorem dX1_round_68 : decode cX1_round 68 = .ok (.aload_n 0, 1) := by decide +kernel
theorem dX1_round_69 : decode cX1_round 69 = .ok (.iload_n 1, 1) := by decide +kernel
theorem dX1_round_70 : decode cX1_round 70 = .ok (.invokevirtual 104, 3) := by decide +kernel
theorem dX1_round_73 : decode cX1_round 73 = .ok (.ifCond .eq 8, 3) := by decide +kernel
theorem dX1_round_76 : decode cX1_round 76 = .ok (.aload_n 0, 1) := by decide +kernel
theorem dX1_round_77 : decode cX1_round 77 = .ok (.iload_n 1, 1) := by decide +kernel
theorem dX1_round_78 : decode cX1_round 78 = .ok (.invokevirtual 107, 3) := by decide +kernel
theorem dX1_round_81 : decode cX1_round 81 = .ok (.iinc 1 (-1), 3) := by decide +kernel
theorem dX1_round_84 : decode cX1_round 84 = .ok (.goto (-28), 3) := by decide +kernel
theorem dX1_round_87 : decode cX1_round 87 = .ok (.return_, 1) := by decide +kernel
theorem dX1_finish_0 : decode cX1_finish 0 = .ok (.aload_n 0, 1) := by decide +kernel
theorem dX1_finish_1 : decode cX1_finish 1 = .ok (.getfield 15, 3) := by decide +kernel
theorem dX1_finish_4 : decode cX1_finish 4 = .ok (.iload_n 1, 1) := by decide +kernel
theorem dX1_finish_5 : decode cX1_finish 5 = .ok (.iaload, 1) := by decide +kernel
theorem dX1_finish_6 : decode cX1_finish 6 = .ok (.istore_n 2, 1) := by decide +kernel
theorem dX1_finish_7 : decode cX1_finish 7 = .ok (.aload_n 0, 1) := by decide +kernel
theorem dX1_finish_8 : decode cX1_finish 8 = .ok (.getfield 15, 3) := by decide +kernel
theorem dX1_finish_11 : decode cX1_finish 11 = .ok (.iload_n 1, 1) := by decide +kernel
theorem dX1_finish_12 : decode cX1_finish 12 = .ok (.dup2, 1) := by decide +kernel
theorem dX1_finish_13 : decode cX1_finish 13 = .ok (.iaload, 1) := by decide +kernel
theorem dX1_finish_14 : decode cX1_finish 14 = .ok (.iconst 1, 1) := by decide +kernel
theorem dX1_finish_15 : decode cX1_finish 15 = .ok (.iadd, 1) := by decide +kernel
theorem dX1_finish_16 : decode cX1_finish 16 = .ok (.iastore, 1) := by decide +kernel
theorem dX1_finish_17 : decode cX1_finish 17 = .ok (.iload_n 1, 1) := by decide +kernel
theorem dX1_finish_18 : decode cX1_finish 18 = .ok (.aload_n 0, 1) := by decide +kernel
theorem dX1_finish_19 : decode cX1_finish 19 = .ok (.getfield 43, 3) := by decide +kernel
theorem dX1_finish_22 : decode cX1_finish 22 = .ok (.getfield 62, 3) := by decide +kernel
theorem dX1_finish_25 : decode cX1_finish 25 = .ok (.iconst 1, 1) := by decide +kernel
theorem dX1_finish_26 : decode cX1_finish 26 = .ok (.isub, 1) := by decide +kernel
theorem dX1_finish_27 : decode cX1_finish 27 = .ok (.if_icmp .ne 36, 3) := by decide +kernel
theorem dX1_finish_30 : decode cX1_finish 30 = .ok (.aload_n 0, 1) := by decide +kernel
theorem dX1_finish_31 : decode cX1_finish 31 = .ok (.aload_n 0, 1) := by decide +kernel
theorem dX1_finish_32 : decode cX1_finish 32 = .ok (.getfield 34, 3) := by decide +kernel
theorem dX1_finish_35 : decode cX1_finish 35 = .ok (.aload_n 0, 1) := by decide +kernel
theorem dX1_finish_36 : decode cX1_finish 36 = .ok (.getfield 24, 3) := by decide +kernel
theorem dX1_finish_39 : decode cX1_finish 39 = .ok (.iload_n 2, 1) := by decide +kernel
theorem dX1_finish_40 : decode cX1_finish 40 = .ok (.bipush 20, 2) := by decide +kernel
theorem dX1_finish_42 : decode cX1_finish 42 = .ok (.irem, 1) := by decide +kernel
theorem dX1_finish_43 : decode cX1_finish 43 = .ok (.iaload, 1) := by decide +kernel
theorem dX1_finish_44 : decode cX1_finish 44 = .ok (.isub, 1) := by decide +kernel
theorem dX1_finish_45 : decode cX1_finish 45 = .ok (.putfield 37, 3) := by decide +kernel
theorem dX1_finish_48 : decode cX1_finish 48 = .ok (.aload_n 0, 1) := by decide +kernel
theorem dX1_finish_49 : decode cX1_finish 49 = .ok (.aload_n 0, 1) := by decide +kernel
theorem dX1_finish_50 : decode cX1_finish 50 = .ok (.getfield 40, 3) := by decide +kernel
theorem dX1_finish_53 : decode cX1_finish 53 = .ok (.aload_n 0, 1) := by decide +kernel
theorem dX1_finish_54 : decode cX1_finish 54 = .ok (.getfield 37, 3) := by decide +kernel
theorem dX1_finish_57 : decode cX1_finish 57 = .ok (.invokestatic 110, 3) := by decide +kernel
theorem dX1_finish_60 : decode cX1_finish 60 = .ok (.putfield 40, 3) := by decide +kernel
theorem dX1_finish_63 : decode cX1_finish 63 = .ok (.return_, 1) := by decide +kernel
theorem dX1_canBegin_0 : decode cX1_canBegin 0 = .ok (.iload_n 1, 1) := by decide +kernel
theorem dX1_canBegin_1 : decode cX1_canBegin 1 = .ok (.ifCond .le 14, 3) := by decide +kernel
theorem dX1_canBegin_4 : decode cX1_canBegin 4 = .ok (.aload_n 0, 1) := by decide +kernel
theorem dX1_canBegin_5 : decode cX1_canBegin 5 = .ok (.iload_n 1, 1) := by decide +kernel
theorem dX1_canBegin_6 : decode cX1_canBegin 6 = .ok (.invokevirtual 97, 3) := by decide +kernel
theorem dX1_canBegin_9 : decode cX1_canBegin 9 = .ok (.iconst 1, 1) := by decide +kernel
theorem dX1_canBegin_10 : decode cX1_canBegin 10 = .ok (.if_icmp .ge 5, 3) := by decide +kernel
theorem dX1_canBegin_13 : decode cX1_canBegin 13 = .ok (.iconst 0, 1) := by decide +kernel
theorem dX1_canBegin_14 : decode cX1_canBegin 14 = .ok (.ireturn, 1) := by decide +kernel
theorem dX1_canBegin_15 : decode cX1_canBegin 15 = .ok (.iconst 0, 1) := by decide +kernel
theorem dX1_canBegin_16 : decode cX1_canBegin 16 = .ok (.istore_n 2, 1) := by decide +kernel
theorem dX1_canBegin_17 : decode cX1_canBegin 17 = .ok (.iload_n 2, 1) := by decide +kernel
theorem dX1_canBegin_18 : decode cX1_canBegin 18 = .ok (.aload_n 0, 1) := by decide +kernel
theorem dX1_canBegin_19 : decode cX1_canBegin 19 = .ok (.getfield 43, 3) := by decide +kernel
theorem dX1_canBegin_22 : decode cX1_canBegin 22 = .ok (.getfield 116, 3) := by decide +kernel
theorem dX1_canBegin_25 : decode cX1_canBegin 25 = .ok (.if_icmp .ge 33, 3) := by decide +kernel
theorem dX1_canBegin_28 : decode cX1_canBegin 28 = .ok (.aload_n 0, 1) := by decide +kernel
theorem dX1_canBegin_29 : decode cX1_canBegin 29 = .ok (.getfield 43, 3) := by decide +kernel
theorem dX1_canBegin_32 : decode cX1_canBegin 32 = .ok (.getfield 71, 3) := by decide +kernel
theorem dX1_canBegin_35 : decode cX1_canBegin 35 = .ok (.iload_n 2, 1) := by decide +kernel
theorem dX1_canBegin_36 : decode cX1_canBegin 36 = .ok (.iaload, 1) := by decide +kernel
theorem dX1_canBegin_37 : decode cX1_canBegin 37 = .ok (.iload_n 1, 1) := by decide +kernel
theorem dX1_canBegin_38 : decode cX1_canBegin 38 = .ok (.if_icmp .ne 14, 3) := by decide +kernel
theorem dX1_canBegin_41 : decode cX1_canBegin 41 = .ok (.aload_n 0, 1) := by decide +kernel
theorem dX1_canBegin_42 : decode cX1_canBegin 42 = .ok (.iload_n 2, 1) := by decide +kernel
theorem dX1_canBegin_43 : decode cX1_canBegin 43 = .ok (.invokevirtual 119, 3) := by decide +kernel
theorem dX1_canBegin_46 : decode cX1_canBegin 46 = .ok (.iconst 1, 1) := by decide +kernel
theorem dX1_canBegin_47 : decode cX1_canBegin 47 = .ok (.if_icmp .ge 5, 3) := by decide +kernel
theorem dX1_canBegin_50 : decode cX1_canBegin 50 = .ok (.iconst 0, 1) := by decide +kernel
theorem dX1_canBegin_51 : decode cX1_canBegin 51 = .ok (.ireturn, 1) := by decide +kernel
theorem dX1_canBegin_52 : decode cX1_canBegin 52 = .ok (.iinc 2 1, 3) := by decide +kernel
theorem dX1_canBegin_55 : decode cX1_canBegin 55 = .ok (.goto (-38), 3) := by decide +kernel
theorem dX1_canBegin_58 : decode cX1_canBegin 58 = .ok (.iconst 1, 1) := by decide +kernel
theorem dX1_canBegin_59 : decode cX1_canBegin 59 = .ok (.ireturn, 1) := by decide +kernel
theorem dX1_begin_0 : decode cX1_begin 0 = .ok (.aload_n 0, 1) := by decide +kernel
theorem dX1_begin_1 : decode cX1_begin 1 = .ok (.getfield 9, 3) := by decide +kernel
theorem dX1_begin_4 : decode cX1_begin 4 = .ok (.iload_n 1, 1) := by decide +kernel
theorem dX1_begin_5 : decode cX1_begin 5 = .ok (.iaload, 1) := by decide +kernel
theorem dX1_begin_6 : decode cX1_begin 6 = .ok (.istore_n 2, 1) := by decide +kernel
theorem dX1_begin_7 : decode cX1_begin 7 = .ok (.aload_n 0, 1) := by decide +kernel
theorem dX1_begin_8 : decode cX1_begin 8 = .ok (.getfield 9, 3) := by decide +kernel
theorem dX1_begin_11 : decode cX1_begin 11 = .ok (.iload_n 1, 1) := by decide +kernel
theorem dX1_begin_12 : decode cX1_begin 12 = .ok (.dup2, 1) := by decide +kernel
theorem dX1_begin_13 : decode cX1_begin 13 = .ok (.iaload, 1) := by decide +kernel
theorem dX1_begin_14 : decode cX1_begin 14 = .ok (.iconst 1, 1) := by decide +kernel
theorem dX1_begin_15 : decode cX1_begin 15 = .ok (.iadd, 1) := by decide +kernel
theorem dX1_begin_16 : decode cX1_begin 16 = .ok (.iastore, 1) := by decide +kernel
theorem dX1_begin_17 : decode cX1_begin 17 = .ok (.iload_n 2, 1) := by decide +kernel
theorem dX1_begin_18 : decode cX1_begin 18 = .ok (.ifCond .le 30, 3) := by decide +kernel
theorem dX1_begin_21 : decode cX1_begin 21 = .ok (.aload_n 0, 1) := by decide +kernel
theorem dX1_begin_22 : decode cX1_begin 22 = .ok (.iload_n 2, 1) := by decide +kernel
theorem dX1_begin_23 : decode cX1_begin 23 = .ok (.iconst 1, 1) := by decide +kernel
theorem dX1_begin_24 : decode cX1_begin 24 = .ok (.isub, 1) := by decide +kernel
theorem dX1_begin_25 : decode cX1_begin 25 = .ok (.invokevirtual 87, 3) := by decide +kernel
theorem dX1_begin_28 : decode cX1_begin 28 = .ok (.aload_n 0, 1) := by decide +kernel
theorem dX1_begin_29 : decode cX1_begin 29 = .ok (.iload_n 2, 1) := by decide +kernel
theorem dX1_begin_30 : decode cX1_begin 30 = .ok (.invokevirtual 87, 3) := by decide +kernel
theorem dX1_begin_33 : decode cX1_begin 33 = .ok (.if_icmp .eq 15, 3) := by decide +kernel
theorem dX1_begin_36 : decode cX1_begin 36 = .ok (.aload_n 0, 1) := by decide +kernel
theorem dX1_begin_37 : decode cX1_begin 37 = .ok (.getfield 43, 3) := by decide +kernel
theorem dX1_begin_40 : decode cX1_begin 40 = .ok (.getfield 122, 3) := by decide +kernel
theorem dX1_begin_43 : decode cX1_begin 43 = .ok (.iload_n 1, 1) := by decide +kernel
theorem dX1_begin_44 : decode cX1_begin 44 = .ok (.iaload, 1) := by decide +kernel
theorem dX1_begin_45 : decode cX1_begin 45 = .ok (.goto 4, 3) := by decide +kernel
theorem dX1_begin_48 : decode cX1_begin 48 = .ok (.iconst 0, 1) := by decide +kernel
theorem dX1_begin_49 : decode cX1_begin 49 = .ok (.istore_n 3, 1) := by decide +kernel
theorem dX1_begin_50 : decode cX1_begin 50 = .ok (.aload_n 0, 1) := by decide +kernel
theorem dX1_begin_51 : decode cX1_begin 51 = .ok (.getfield 18, 3) := by decide +kernel
theorem dX1_begin_54 : decode cX1_begin 54 = .ok (.iload_n 1, 1) := by decide +kernel
theorem dX1_begin_55 : decode cX1_begin 55 = .ok (.aload_n 0, 1) := by decide +kernel
theorem dX1_begin_56 : decode cX1_begin 56 = .ok (.getfield 34, 3) := by decide +kernel
theorem dX1_begin_59 : decode cX1_begin 59 = .ok (.iload_n 3, 1) := by decide +kernel
theorem dX1_begin_60 : decode cX1_begin 60 = .ok (.iadd, 1) := by decide +kernel
theorem dX1_begin_61 : decode cX1_begin 61 = .ok (.aload_n 0, 1) := by decide +kernel
theorem dX1_begin_62 : decode cX1_begin 62 = .ok (.getfield 43, 3) := by decide +kernel
theorem dX1_begin_65 : decode cX1_begin 65 = .ok (.getfield 91, 3) := by decide +kernel
theorem dX1_begin_68 : decode cX1_begin 68 = .ok (.iload_n 1, 1) := by decide +kernel
theorem dX1_begin_69 : decode cX1_begin 69 = .ok (.iaload, 1) := by decide +kernel
theorem dX1_begin_70 : decode cX1_begin 70 = .ok (.iadd, 1) := by decide +kernel
theorem dX1_begin_71 : decode cX1_begin 71 = .ok (.iastore, 1) := by decide +kernel
theorem dX1_begin_72 : decode cX1_begin 72 = .ok (.iload_n 1, 1) := by decide +kernel
theorem dX1_begin_73 : decode cX1_begin 73 = .ok (.ifCond .ne 16, 3) := by decide +kernel
theorem dX1_begin_76 : decode cX1_begin 76 = .ok (.aload_n 0, 1) := by decide +kernel
theorem dX1_begin_77 : decode cX1_begin 77 = .ok (.getfield 24, 3) := by decide +kernel
theorem dX1_begin_80 : decode cX1_begin 80 = .ok (.iload_n 2, 1) := by decide +kernel
theorem dX1_begin_81 : decode cX1_begin 81 = .ok (.bipush 20, 2) := by decide +kernel
theorem dX1_begin_83 : decode cX1_begin 83 = .ok (.irem, 1) := by decide +kernel
theorem dX1_begin_84 : decode cX1_begin 84 = .ok (.aload_n 0, 1) := by decide +kernel
theorem dX1_begin_85 : decode cX1_begin 85 = .ok (.getfield 34, 3) := by decide +kernel
theorem dX1_begin_88 : decode cX1_begin 88 = .ok (.iastore, 1) := by decide +kernel
theorem dX1_begin_89 : decode cX1_begin 89 = .ok (.return_, 1) := by decide +kernel
theorem dX1_nextThrough_0 : decode cX1_nextThrough 0 = .ok (.ldc 125, 2) := by decide +kernel
theorem dX1_nextThrough_2 : decode cX1_nextThrough 2 = .ok (.istore_n 1, 1) := by decide +kernel
theorem dX1_nextThrough_3 : decode cX1_nextThrough 3 = .ok (.iconst 0, 1) := by decide +kernel
theorem dX1_nextThrough_4 : decode cX1_nextThrough 4 = .ok (.istore_n 2, 1) := by decide +kernel
theorem dX1_nextThrough_5 : decode cX1_nextThrough 5 = .ok (.iload_n 2, 1) := by decide +kernel
theorem dX1_nextThrough_6 : decode cX1_nextThrough 6 = .ok (.aload_n 0, 1) := by decide +kernel
theorem dX1_nextThrough_7 : decode cX1_nextThrough 7 = .ok (.getfield 43, 3) := by decide +kernel
theorem dX1_nextThrough_10 : decode cX1_nextThrough 10 = .ok (.getfield 62, 3) := by decide +kernel
theorem dX1_nextThrough_13 : decode cX1_nextThrough 13 = .ok (.if_icmp .ge 34, 3) := by decide +kernel
theorem dX1_nextThrough_16 : decode cX1_nextThrough 16 = .ok (.aload_n 0, 1) := by decide +kernel
theorem dX1_nextThrough_17 : decode cX1_nextThrough 17 = .ok (.iload_n 2, 1) := by decide +kernel
theorem dX1_nextThrough_18 : decode cX1_nextThrough 18 = .ok (.invokevirtual 83, 3) := by decide +kernel
theorem dX1_nextThrough_21 : decode cX1_nextThrough 21 = .ok (.ifCond .ne 20, 3) := by decide +kernel
theorem dX1_nextThrough_24 : decode cX1_nextThrough 24 = .ok (.aload_n 0, 1) := by decide +kernel
theorem dX1_nextThrough_25 : decode cX1_nextThrough 25 = .ok (.getfield 18, 3) := by decide +kernel
theorem dX1_nextThrough_28 : decode cX1_nextThrough 28 = .ok (.iload_n 2, 1) := by decide +kernel
theorem dX1_nextThrough_29 : decode cX1_nextThrough 29 = .ok (.iaload, 1) := by decide +kernel
theorem dX1_nextThrough_30 : decode cX1_nextThrough 30 = .ok (.iload_n 1, 1) := by decide +kernel
theorem dX1_nextThrough_31 : decode cX1_nextThrough 31 = .ok (.if_icmp .ge 10, 3) := by decide +kernel
theorem dX1_nextThrough_34 : decode cX1_nextThrough 34 = .ok (.aload_n 0, 1) := by decide +kernel
theorem dX1_nextThrough_35 : decode cX1_nextThrough 35 = .ok (.getfield 18, 3) := by decide +kernel
theorem dX1_nextThrough_38 : decode cX1_nextThrough 38 = .ok (.iload_n 2, 1) := by decide +kernel
theorem dX1_nextThrough_39 : decode cX1_nextThrough 39 = .ok (.iaload, 1) := by decide +kernel
theorem dX1_nextThrough_40 : decode cX1_nextThrough 40 = .ok (.istore_n 1, 1) := by decide +kernel
theorem dX1_nextThrough_41 : decode cX1_nextThrough 41 = .ok (.iinc 2 1, 3) := by decide +kernel
theorem dX1_nextThrough_44 : decode cX1_nextThrough 44 = .ok (.goto (-39), 3) := by decide +kernel
theorem dX1_nextThrough_47 : decode cX1_nextThrough 47 = .ok (.iload_n 1, 1) := by decide +kernel
theorem dX1_nextThrough_48 : decode cX1_nextThrough 48 = .ok (.ireturn, 1) := by decide +kernel
theorem dX1_leapTillOut_0 : decode cX1_leapTillOut 0 = .ok (.aload_n 0, 1) := by decide +kernel
theorem dX1_leapTillOut_1 : decode cX1_leapTillOut 1 = .ok (.invokevirtual 67, 3) := by decide +kernel
theorem dX1_leapTillOut_4 : decode cX1_leapTillOut 4 = .ok (.istore_n 1, 1) := by decide +kernel
theorem dX1_leapTillOut_5 : decode cX1_leapTillOut 5 = .ok (.iconst 0, 1) := by decide +kernel
theorem dX1_leapTillOut_6 : decode cX1_leapTillOut 6 = .ok (.istore_n 2, 1) := by decide +kernel
theorem dX1_leapTillOut_7 : decode cX1_leapTillOut 7 = .ok (.iload_n 2, 1) := by decide +kernel
theorem dX1_leapTillOut_8 : decode cX1_leapTillOut 8 = .ok (.ldc 126, 2) := by decide +kernel
theorem dX1_leapTillOut_10 : decode cX1_leapTillOut 10 = .ok (.if_icmp .ge 29, 3) := by decide +kernel
theorem dX1_leapTillOut_13 : decode cX1_leapTillOut 13 = .ok (.aload_n 0, 1) := by decide +kernel
theorem dX1_leapTillOut_14 : decode cX1_leapTillOut 14 = .ok (.invokevirtual 67, 3) := by decide +kernel
theorem dX1_leapTillOut_17 : decode cX1_leapTillOut 17 = .ok (.iload_n 1, 1) := by decide +kernel
theorem dX1_leapTillOut_18 : decode cX1_leapTillOut 18 = .ok (.if_icmp .ne 21, 3) := by decide +kernel
theorem dX1_leapTillOut_21 : decode cX1_leapTillOut 21 = .ok (.aload_n 0, 1) := by decide +kernel
theorem dX1_leapTillOut_22 : decode cX1_leapTillOut 22 = .ok (.aload_n 0, 1) := by decide +kernel
theorem dX1_leapTillOut_23 : decode cX1_leapTillOut 23 = .ok (.invokevirtual 127, 3) := by decide +kernel
theorem dX1_leapTillOut_26 : decode cX1_leapTillOut 26 = .ok (.putfield 34, 3) := by decide +kernel
theorem dX1_leapTillOut_29 : decode cX1_leapTillOut 29 = .ok (.aload_n 0, 1) := by decide +kernel
theorem dX1_leapTillOut_30 : decode cX1_leapTillOut 30 = .ok (.invokevirtual 59, 3) := by decide +kernel
theorem dX1_leapTillOut_33 : decode cX1_leapTillOut 33 = .ok (.iinc 2 1, 3) := by decide +kernel
theorem dX1_leapTillOut_36 : decode cX1_leapTillOut 36 = .ok (.goto (-29), 3) := by decide +kernel
theorem dX1_leapTillOut_39 : decode cX1_leapTillOut 39 = .ok (.return_, 1) := by decide +kernel
theorem dX1_moveTo_0 : decode cX1_moveTo 0 = .ok (.iconst 0, 1) := by decide +kernel
theorem dX1_moveTo_1 : decode cX1_moveTo 1 = .ok (.istore_n 2, 1) := by decide +kernel
theorem dX1_moveTo_2 : decode cX1_moveTo 2 = .ok (.iload_n 2, 1) := by decide +kernel
theorem dX1_moveTo_3 : decode cX1_moveTo 3 = .ok (.ldc 126, 2) := by decide +kernel
theorem dX1_moveTo_5 : decode cX1_moveTo 5 = .ok (.if_icmp .ge 40, 3) := by decide +kernel
theorem dX1_moveTo_8 : decode cX1_moveTo 8 = .ok (.aload_n 0, 1) := by decide +kernel
theorem dX1_moveTo_9 : decode cX1_moveTo 9 = .ok (.getfield 34, 3) := by decide +kernel
theorem dX1_moveTo_12 : decode cX1_moveTo 12 = .ok (.iload_n 1, 1) := by decide +kernel
theorem dX1_moveTo_13 : decode cX1_moveTo 13 = .ok (.if_icmp .ge 32, 3) := by decide +kernel
theorem dX1_moveTo_16 : decode cX1_moveTo 16 = .ok (.iload_n 1, 1) := by decide +kernel
theorem dX1_moveTo_17 : decode cX1_moveTo 17 = .ok (.aload_n 0, 1) := by decide +kernel
theorem dX1_moveTo_18 : decode cX1_moveTo 18 = .ok (.invokevirtual 127, 3) := by decide +kernel
theorem dX1_moveTo_21 : decode cX1_moveTo 21 = .ok (.invokestatic 130, 3) := by decide +kernel
theorem dX1_moveTo_24 : decode cX1_moveTo 24 = .ok (.istore_n 3, 1) := by decide +kernel
theorem dX1_moveTo_25 : decode cX1_moveTo 25 = .ok (.aload_n 0, 1) := by decide +kernel
theorem dX1_moveTo_26 : decode cX1_moveTo 26 = .ok (.iload_n 3, 1) := by decide +kernel
theorem dX1_moveTo_27 : decode cX1_moveTo 27 = .ok (.invokevirtual 133, 3) := by decide +kernel
theorem dX1_moveTo_30 : decode cX1_moveTo 30 = .ok (.aload_n 0, 1) := by decide +kernel
theorem dX1_moveTo_31 : decode cX1_moveTo 31 = .ok (.iload_n 3, 1) := by decide +kernel
theorem dX1_moveTo_32 : decode cX1_moveTo 32 = .ok (.putfield 34, 3) := by decide +kernel
theorem dX1_moveTo_35 : decode cX1_moveTo 35 = .ok (.aload_n 0, 1) := by decide +kernel
theorem dX1_moveTo_36 : decode cX1_moveTo 36 = .ok (.invokevirtual 59, 3) := by decide +kernel
theorem dX1_moveTo_39 : decode cX1_moveTo 39 = .ok (.iinc 2 1, 3) := by decide +kernel
theorem dX1_moveTo_42 : decode cX1_moveTo 42 = .ok (.goto (-40), 3) := by decide +kernel
theorem dX1_moveTo_45 : decode cX1_moveTo 45 = .ok (.return_, 1) := by decide +kernel
theorem dX1_countMinutes_0 : decode cX1_countMinutes 0 = .ok (.iconst 0, 1) := by decide +kernel
theorem dX1_countMinutes_1 : decode cX1_countMinutes 1 = .ok (.istore_n 2, 1) := by decide +kernel
theorem dX1_countMinutes_2 : decode cX1_countMinutes 2 = .ok (.iload_n 2, 1) := by decide +kernel
theorem dX1_countMinutes_3 : decode cX1_countMinutes 3 = .ok (.aload_n 0, 1) := by decide +kernel
theorem dX1_countMinutes_4 : decode cX1_countMinutes 4 = .ok (.getfield 43, 3) := by decide +kernel
theorem dX1_countMinutes_7 : decode cX1_countMinutes 7 = .ok (.getfield 62, 3) := by decide +kernel
theorem dX1_countMinutes_10 : decode cX1_countMinutes 10 = .ok (.if_icmp .ge 99, 3) := by decide +kernel
theorem dX1_countMinutes_13 : decode cX1_countMinutes 13 = .ok (.iload_n 1, 1) := by decide +kernel
theorem dX1_countMinutes_14 : decode cX1_countMinutes 14 = .ok (.aload_n 0, 1) := by decide +kernel
theorem dX1_countMinutes_15 : decode cX1_countMinutes 15 = .ok (.getfield 34, 3) := by decide +kernel
theorem dX1_countMinutes_18 : decode cX1_countMinutes 18 = .ok (.isub, 1) := by decide +kernel
theorem dX1_countMinutes_19 : decode cX1_countMinutes 19 = .ok (.istore_n 3, 1) := by decide +kernel
theorem dX1_countMinutes_20 : decode cX1_countMinutes 20 = .ok (.iload_n 2, 1) := by decide +kernel
theorem dX1_countMinutes_21 : decode cX1_countMinutes 21 = .ok (.iconst 4, 1) := by decide +kernel
theorem dX1_countMinutes_22 : decode cX1_countMinutes 22 = .ok (.imul, 1) := by decide +kernel
theorem dX1_countMinutes_23 : decode cX1_countMinutes 23 = .ok (.istore 4, 2) := by decide +kernel
theorem dX1_countMinutes_25 : decode cX1_countMinutes 25 = .ok (.aload_n 0, 1) := by decide +kernel
theorem dX1_countMinutes_26 : decode cX1_countMinutes 26 = .ok (.iload_n 2, 1) := by decide +kernel
theorem dX1_countMinutes_27 : decode cX1_countMinutes 27 = .ok (.invokevirtual 83, 3) := by decide +kernel
theorem dX1_countMinutes_30 : decode cX1_countMinutes 30 = .ok (.ifCond .eq 23, 3) := by decide +kernel
theorem dX1_countMinutes_33 : decode cX1_countMinutes 33 = .ok (.aload_n 0, 1) := by decide +kernel
theorem dX1_countMinutes_34 : decode cX1_countMinutes 34 = .ok (.getfield 27, 3) := by decide +kernel
theorem dX1_countMinutes_37 : decode cX1_countMinutes 37 = .ok (.iload 4, 2) := by decide +kernel
theorem dX1_countMinutes_39 : decode cX1_countMinutes 39 = .ok (.aload_n 0, 1) := by decide +kernel
theorem dX1_countMinutes_40 : decode cX1_countMinutes 40 = .ok (.iload_n 2, 1) := by decide +kernel
theorem dX1_countMinutes_41 : decode cX1_countMinutes 41 = .ok (.invokevirtual 136, 3) := by decide +kernel
theorem dX1_countMinutes_44 : decode cX1_countMinutes 44 = .ok (.iadd, 1) := by decide +kernel
theorem dX1_countMinutes_45 : decode cX1_countMinutes 45 = .ok (.dup2, 1) := by decide +kernel
theorem dX1_countMinutes_46 : decode cX1_countMinutes 46 = .ok (.iaload, 1) := by decide +kernel
theorem dX1_countMinutes_47 : decode cX1_countMinutes 47 = .ok (.iload_n 3, 1) := by decide +kernel
theorem dX1_countMinutes_48 : decode cX1_countMinutes 48 = .ok (.iadd, 1) := by decide +kernel
theorem dX1_countMinutes_49 : decode cX1_countMinutes 49 = .ok (.iastore, 1) := by decide +kernel
theorem dX1_countMinutes_50 : decode cX1_countMinutes 50 = .ok (.goto 53, 3) := by decide +kernel
theorem dX1_countMinutes_53 : decode cX1_countMinutes 53 = .ok (.iconst 0, 1) := by decide +kernel
theorem dX1_countMinutes_54 : decode cX1_countMinutes 54 = .ok (.iload_n 1, 1) := by decide +kernel
theorem dX1_countMinutes_55 : decode cX1_countMinutes 55 = .ok (.aload_n 0, 1) := by decide +kernel
theorem dX1_countMinutes_56 : decode cX1_countMinutes 56 = .ok (.iload_n 2, 1) := by decide +kernel
theorem dX1_countMinutes_57 : decode cX1_countMinutes 57 = .ok (.invokevirtual 94, 3) := by decide +kernel
theorem dX1_countMinutes_60 : decode cX1_countMinutes 60 = .ok (.invokestatic 130, 3) := by decide +kernel
theorem dX1_countMinutes_63 : decode cX1_countMinutes 63 = .ok (.aload_n 0, 1) := by decide +kernel
theorem dX1_countMinutes_64 : decode cX1_countMinutes 64 = .ok (.getfield 34, 3) := by decide +kernel
theorem dX1_countMinutes_67 : decode cX1_countMinutes 67 = .ok (.isub, 1) := by decide +kernel
theorem dX1_countMinutes_68 : decode cX1_countMinutes 68 = .ok (.invokestatic 110, 3) := by decide +kernel
theorem dX1_countMinutes_71 : decode cX1_countMinutes 71 = .ok (.istore 5, 2) := by decide +kernel
theorem dX1_countMinutes_73 : decode cX1_countMinutes 73 = .ok (.aload_n 0, 1) := by decide +kernel
theorem dX1_countMinutes_74 : decode cX1_countMinutes 74 = .ok (.getfield 27, 3) := by decide +kernel
theorem dX1_countMinutes_77 : decode cX1_countMinutes 77 = .ok (.iload 4, 2) := by decide +kernel
theorem dX1_countMinutes_79 : decode cX1_countMinutes 79 = .ok (.iconst 2, 1) := by decide +kernel
theorem dX1_countMinutes_80 : decode cX1_countMinutes 80 = .ok (.iadd, 1) := by decide +kernel
theorem dX1_countMinutes_81 : decode cX1_countMinutes 81 = .ok (.dup2, 1) := by decide +kernel
theorem dX1_countMinutes_82 : decode cX1_countMinutes 82 = .ok (.iaload, 1) := by decide +kernel
theorem dX1_countMinutes_83 : decode cX1_countMinutes 83 = .ok (.iload 5, 2) := by decide +kernel
theorem dX1_countMinutes_85 : decode cX1_countMinutes 85 = .ok (.iadd, 1) := by decide +kernel
theorem dX1_countMinutes_86 : decode cX1_countMinutes 86 = .ok (.iastore, 1) := by decide +kernel
theorem dX1_countMinutes_87 : decode cX1_countMinutes 87 = .ok (.aload_n 0, 1) := by decide +kernel
theorem dX1_countMinutes_88 : decode cX1_countMinutes 88 = .ok (.getfield 27, 3) := by decide +kernel
theorem dX1_countMinutes_91 : decode cX1_countMinutes 91 = .ok (.iload 4, 2) := by decide +kernel
theorem dX1_countMinutes_93 : decode cX1_countMinutes 93 = .ok (.iconst 3, 1) := by decide +kernel
theorem dX1_countMinutes_94 : decode cX1_countMinutes 94 = .ok (.iadd, 1) := by decide +kernel
theorem dX1_countMinutes_95 : decode cX1_countMinutes 95 = .ok (.dup2, 1) := by decide +kernel
theorem dX1_countMinutes_96 : decode cX1_countMinutes 96 = .ok (.iaload, 1) := by decide +kernel
theorem dX1_countMinutes_97 : decode cX1_countMinutes 97 = .ok (.iload_n 3, 1) := by decide +kernel
theorem dX1_countMinutes_98 : decode cX1_countMinutes 98 = .ok (.iload 5, 2) := by decide +kernel
theorem dX1_countMinutes_100 : decode cX1_countMinutes 100 = .ok (.isub, 1) := by decide +kernel
theorem dX1_countMinutes_101 : decode cX1_countMinutes 101 = .ok (.iadd, 1) := by decide +kernel
theorem dX1_countMinutes_102 : decode cX1_countMinutes 102 = .ok (.iastore, 1) := by decide +kernel
theorem dX1_countMinutes_103 : decode cX1_countMinutes 103 = .ok (.iinc 2 1, 3) := by decide +kernel
theorem dX1_countMinutes_106 : decode cX1_countMinutes 106 = .ok (.goto (-104), 3) := by decide +kernel
theorem dX1_countMinutes_109 : decode cX1_countMinutes 109 = .ok (.return_, 1) := by decide +kernel
theorem dX2_init_0 : decode cX2_init 0 = .ok (.aload_n 0, 1) := by decide +kernel
theorem dX2_init_1 : decode cX2_init 1 = .ok (.invokespecial 3, 3) := by decide +kernel
theorem dX2_init_4 : decode cX2_init 4 = .ok (.aload_n 0, 1) := by decide +kernel
theorem dX2_init_5 : decode cX2_init 5 = .ok (.sipush 1500, 3) := by decide +kernel
theorem dX2_init_8 : decode cX2_init 8 = .ok (.newarray .long, 2) := by decide +kernel
theorem dX2_init_10 : decode cX2_init 10 = .ok (.putfield 9, 3) := by decide +kernel
theorem dX2_init_13 : decode cX2_init 13 = .ok (.aload_n 0, 1) := by decide +kernel
theorem dX2_init_14 : decode cX2_init 14 = .ok (.sipush 1500, 3) := by decide +kernel
theorem dX2_init_17 : decode cX2_init 17 = .ok (.newarray .int, 2) := by decide +kernel
theorem dX2_init_19 : decode cX2_init 19 = .ok (.putfield 15, 3) := by decide +kernel
theorem dX2_init_22 : decode cX2_init 22 = .ok (.aload_n 0, 1) := by decide +kernel
theorem dX2_init_23 : decode cX2_init 23 = .ok (.sipush 1500, 3) := by decide +kernel
theorem dX2_init_26 : decode cX2_init 26 = .ok (.newarray .int, 2) := by decide +kernel
theorem dX2_init_28 : decode cX2_init 28 = .ok (.putfield 19, 3) := by decide +kernel
theorem dX2_init_31 : decode cX2_init 31 = .ok (.aload_n 0, 1) := by decide +kernel
theorem dX2_init_32 : decode cX2_init 32 = .ok (.sipush 1024, 3) := by decide +kernel
theorem dX2_init_35 : decode cX2_init 35 = .ok (.newarray .int, 2) := by decide +kernel
theorem dX2_init_37 : decode cX2_init 37 = .ok (.putfield 22, 3) := by decide +kernel
theorem dX2_init_40 : decode cX2_init 40 = .ok (.aload_n 0, 1) := by decide +kernel
theorem dX2_init_41 : decode cX2_init 41 = .ok (.sipush 1500, 3) := by decide +kernel
theorem dX2_init_44 : decode cX2_init 44 = .ok (.newarray .int, 2) := by decide +kernel
theorem dX2_init_46 : decode cX2_init 46 = .ok (.putfield 25, 3) := by decide +kernel
theorem dX2_init_49 : decode cX2_init 49 = .ok (.aload_n 0, 1) := by decide +kernel
theorem dX2_init_50 : decode cX2_init 50 = .ok (.iconst (-1), 1) := by decide +kernel
theorem dX2_init_51 : decode cX2_init 51 = .ok (.putfield 28, 3) := by decide +kernel
theorem dX2_init_54 : decode cX2_init 54 = .ok (.aload_n 0, 1) := by decide +kernel
theorem dX2_init_55 : decode cX2_init 55 = .ok (.iconst (-1), 1) := by decide +kernel
theorem dX2_init_56 : decode cX2_init 56 = .ok (.putfield 32, 3) := by decide +kernel
theorem dX2_init_59 : decode cX2_init 59 = .ok (.aload_n 0, 1) := by decide +kernel
theorem dX2_init_60 : decode cX2_init 60 = .ok (.aload_n 1, 1) := by decide +kernel
theorem dX2_init_61 : decode cX2_init 61 = .ok (.putfield 35, 3) := by decide +kernel
theorem dX2_init_64 : decode cX2_init 64 = .ok (.return_, 1) := by decide +kernel
theorem dX2_search_0 : decode cX2_search 0 = .ok (.aload_n 0, 1) := by decide +kernel
theorem dX2_search_1 : decode cX2_search 1 = .ok (.iconst (-1), 1) := by decide +kernel
theorem dX2_search_2 : decode cX2_search 2 = .ok (.putfield 28, 3) := by decide +kernel
theorem dX2_search_5 : decode cX2_search 5 = .ok (.aload_n 0, 1) := by decide +kernel
theorem dX2_search_6 : decode cX2_search 6 = .ok (.iconst (-1), 1) := by decide +kernel
theorem dX2_search_7 : decode cX2_search 7 = .ok (.putfield 32, 3) := by decide +kernel
theorem dX2_search_10 : decode cX2_search 10 = .ok (.aload_n 0, 1) := by decide +kernel
theorem dX2_search_11 : decode cX2_search 11 = .ok (.getfield 22, 3) := by decide +kernel
theorem dX2_search_14 : decode cX2_search 14 = .ok (.iconst (-1), 1) := by decide +kernel
theorem dX2_search_15 : decode cX2_search 15 = .ok (.invokestatic 39, 3) := by decide +kernel
theorem dX2_search_18 : decode cX2_search 18 = .ok (.aload_n 0, 1) := by decide +kernel
theorem dX2_search_19 : decode cX2_search 19 = .ok (.getfield 35, 3) := by decide +kernel
theorem dX2_search_22 : decode cX2_search 22 = .ok (.aload_n 1, 1) := by decide +kernel
theorem dX2_search_23 : decode cX2_search 23 = .ok (.iload_n 2, 1) := by decide +kernel
theorem dX2_search_24 : decode cX2_search 24 = .ok (.invokevirtual 45, 3) := by decide +kernel
theorem dX2_search_27 : decode cX2_search 27 = .ok (.iconst 0, 1) := by decide +kernel
theorem dX2_search_28 : decode cX2_search 28 = .ok (.istore_n 3, 1) := by decide +kernel
theorem dX2_search_29 : decode cX2_search 29 = .ok (.iload_n 3, 1) := by decide +kernel
theorem dX2_search_30 : decode cX2_search 30 = .ok (.sipush 1500, 3) := by decide +kernel
theorem dX2_search_33 : decode cX2_search 33 = .ok (.if_icmp .ge 90, 3) := by decide +kernel
theorem dX2_search_36 : decode cX2_search 36 = .ok (.aload_n 0, 1) := by decide +kernel
theorem dX2_search_37 : decode cX2_search 37 = .ok (.getfield 35, 3) := by decide +kernel
theorem dX2_search_40 : decode cX2_search 40 = .ok (.invokevirtual 50, 3) := by decide +kernel
theorem dX2_search_43 : decode cX2_search 43 = .ok (.aload_n 0, 1) := by decide +kernel
theorem dX2_search_44 : decode cX2_search 44 = .ok (.iload_n 3, 1) := by decide +kernel
theorem dX2_search_45 : decode cX2_search 45 = .ok (.invokevirtual 53, 3) := by decide +kernel
theorem dX2_search_48 : decode cX2_search 48 = .ok (.aload_n 0, 1) := by decide +kernel
theorem dX2_search_49 : decode cX2_search 49 = .ok (.iload_n 3, 1) := by decide +kernel
theorem dX2_search_50 : decode cX2_search 50 = .ok (.invokevirtual 57, 3) := by decide +kernel
theorem dX2_search_53 : decode cX2_search 53 = .ok (.istore 4, 2) := by decide +kernel
theorem dX2_search_55 : decode cX2_search 55 = .ok (.iload 4, 2) := by decide +kernel
theorem dX2_search_57 : decode cX2_search 57 = .ok (.iconst (-1), 1) := by decide +kernel
theorem dX2_search_58 : decode cX2_search 58 = .ok (.if_icmp .eq 59, 3) := by decide +kernel
theorem dX2_search_61 : decode cX2_search 61 = .ok (.iload_n 3, 1) := by decide +kernel
theorem dX2_search_62 : decode cX2_search 62 = .ok (.iload 4, 2) := by decide +kernel
theorem dX2_search_64 : decode cX2_search 64 = .ok (.isub, 1) := by decide +kernel
theorem dX2_search_65 : decode cX2_search 65 = .ok (.aload_n 0, 1) := by decide +kernel
theorem dX2_search_66 : decode cX2_search 66 = .ok (.getfield 19, 3) := by decide +kernel
theorem dX2_search_69 : decode cX2_search 69 = .ok (.iload_n 3, 1) := by decide +kernel
theorem dX2_search_70 : decode cX2_search 70 = .ok (.iaload, 1) := by decide +kernel
theorem dX2_search_71 : decode cX2_search 71 = .ok (.aload_n 0, 1) := by decide +kernel
theorem dX2_search_72 : decode cX2_search 72 = .ok (.getfield 19, 3) := by decide +kernel
theorem dX2_search_75 : decode cX2_search 75 = .ok (.iload 4, 2) := by decide +kernel
theorem dX2_search_77 : decode cX2_search 77 = .ok (.iaload, 1) := by decide +kernel
theorem dX2_search_78 : decode cX2_search 78 = .ok (.isub, 1) := by decide +kernel
theorem dX2_search_79 : decode cX2_search 79 = .ok (.invokestatic 61, 3) := by decide +kernel
theorem dX2_search_82 : decode cX2_search 82 = .ok (.istore 5, 2) := by decide +kernel
theorem dX2_search_84 : decode cX2_search 84 = .ok (.aload_n 0, 1) := by decide +kernel
theorem dX2_search_85 : decode cX2_search 85 = .ok (.iload_n 3, 1) := by decide +kernel
theorem dX2_search_86 : decode cX2_search 86 = .ok (.iload 4, 2) := by decide +kernel
theorem dX2_search_88 : decode cX2_search 88 = .ok (.isub, 1) := by decide +kernel
theorem dX2_search_89 : decode cX2_search 89 = .ok (.iload 5, 2) := by decide +kernel
theorem dX2_search_91 : decode cX2_search 91 = .ok (.idiv, 1) := by decide +kernel
theorem dX2_search_92 : decode cX2_search 92 = .ok (.putfield 28, 3) := by decide +kernel
theorem dX2_search_95 : decode cX2_search 95 = .ok (.aload_n 0, 1) := by decide +kernel
theorem dX2_search_96 : decode cX2_search 96 = .ok (.aload_n 0, 1) := by decide +kernel
theorem dX2_search_97 : decode cX2_search 97 = .ok (.getfield 19, 3) := by decide +kernel
theorem dX2_search_100 : decode cX2_search 100 = .ok (.iload_n 3, 1) := by decide +kernel
theorem dX2_search_101 : decode cX2_search 101 = .ok (.iaload, 1) := by decide +kernel
theorem dX2_search_102 : decode cX2_search 102 = .ok (.aload_n 0, 1) := by decide +kernel
theorem dX2_search_103 : decode cX2_search 103 = .ok (.getfield 19, 3) := by decide +kernel
theorem dX2_search_106 : decode cX2_search 106 = .ok (.iload 4, 2) := by decide +kernel
theorem dX2_search_108 : decode cX2_search 108 = .ok (.iaload, 1) := by decide +kernel
theorem dX2_search_109 : decode cX2_search 109 = .ok (.isub, 1) := by decide +kernel
theorem dX2_search_110 : decode cX2_search 110 = .ok (.iload 5, 2) := by decide +kernel
theorem dX2_search_112 : decode cX2_search 112 = .ok (.idiv, 1) := by decide +kernel
theorem dX2_search_113 : decode cX2_search 113 = .ok (.putfield 32, 3) := by decide +kernel
theorem dX2_search_116 : decode cX2_search 116 = .ok (.return_, 1) := by decide +kernel
theorem dX2_search_117 : decode cX2_search 117 = .ok (.iinc 3 1, 3) := by decide +kernel
theorem dX2_search_120 : decode cX2_search 120 = .ok (.goto (-91), 3) := by decide +kernel
theorem dX2_search_123 : decode cX2_search 123 = .ok (.return_, 1) := by decide +kernel
theorem dX2_lookAround_0 : decode cX2_lookAround 0 = .ok (.aload_n 0, 1) := by decide +kernel
theorem dX2_lookAround_1 : decode cX2_lookAround 1 = .ok (.getfield 35, 3) := by decide +kernel
theorem dX2_lookAround_4 : decode cX2_lookAround 4 = .ok (.invokevirtual 65, 3) := by decide +kernel
theorem dX2_lookAround_7 : decode cX2_lookAround 7 = .ok (.i2l, 1) := by decide +kernel
theorem dX2_lookAround_8 : decode cX2_lookAround 8 = .ok (.lstore_n 2, 1) := by decide +kernel
theorem dX2_lookAround_9 : decode cX2_lookAround 9 = .ok (.iconst 0, 1) := by decide +kernel
theorem dX2_lookAround_10 : decode cX2_lookAround 10 = .ok (.istore 4, 2) := by decide +kernel
theorem dX2_lookAround_12 : decode cX2_lookAround 12 = .ok (.iconst 0, 1) := by decide +kernel
theorem dX2_lookAround_13 : decode cX2_lookAround 13 = .ok (.istore 5, 2) := by decide +kernel
theorem dX2_lookAround_15 : decode cX2_lookAround 15 = .ok (.iload 5, 2) := by decide +kernel
theorem dX2_lookAround_17 : decode cX2_lookAround 17 = .ok (.aload_n 0, 1) := by decide +kernel
theorem dX2_lookAround_18 : decode cX2_lookAround 18 = .ok (.getfield 35, 3) := by decide +kernel
theorem dX2_lookAround_21 : decode cX2_lookAround 21 = .ok (.getfield 69, 3) := by decide +kernel
theorem dX2_lookAround_24 : decode cX2_lookAround 24 = .ok (.getfield 73, 3) := by decide +kernel
theorem dX2_lookAround_27 : decode cX2_lookAround 27 = .ok (.if_icmp .ge 70, 3) := by decide +kernel
theorem dX2_lookAround_30 : decode cX2_lookAround 30 = .ok (.aload_n 0, 1) := by decide +kernel
theorem dX2_lookAround_31 : decode cX2_lookAround 31 = .ok (.getfield 35, 3) := by decide +kernel
theorem dX2_lookAround_34 : decode cX2_lookAround 34 = .ok (.iload 5, 2) := by decide +kernel
theorem dX2_lookAround_36 : decode cX2_lookAround 36 = .ok (.invokevirtual 78, 3) := by decide +kernel
theorem dX2_lookAround_39 : decode cX2_lookAround 39 = .ok (.ifCond .eq 7, 3) := by decide +kernel
theorem dX2_lookAround_42 : decode cX2_lookAround 42 = .ok (.iconst 0, 1) := by decide +kernel
theorem dX2_lookAround_43 : decode cX2_lookAround 43 = .ok (.goto 21, 3) := by decide +kernel
theorem dX2_lookAround_46 : decode cX2_lookAround 46 = .ok (.aload_n 0, 1) := by decide +kernel
theorem dX2_lookAround_47 : decode cX2_lookAround 47 = .ok (.getfield 35, 3) := by decide +kernel
theorem dX2_lookAround_50 : decode cX2_lookAround 50 = .ok (.getfield 82, 3) := by decide +kernel
theorem dX2_lookAround_53 : decode cX2_lookAround 53 = .ok (.iload 5, 2) := by decide +kernel
theorem dX2_lookAround_55 : decode cX2_lookAround 55 = .ok (.iaload, 1) := by decide +kernel
theorem dX2_lookAround_56 : decode cX2_lookAround 56 = .ok (.aload_n 0, 1) := by decide +kernel
theorem dX2_lookAround_57 : decode cX2_lookAround 57 = .ok (.getfield 35, 3) := by decide +kernel
theorem dX2_lookAround_60 : decode cX2_lookAround 60 = .ok (.getfield 85, 3) := by decide +kernel
theorem dX2_lookAround_63 : decode cX2_lookAround 63 = .ok (.isub, 1) := by decide +kernel
theorem dX2_lookAround_64 : decode cX2_lookAround 64 = .ok (.istore 6, 2) := by decide +kernel
theorem dX2_lookAround_66 : decode cX2_lookAround 66 = .ok (.lload_n 2, 1) := by decide +kernel
theorem dX2_lookAround_67 : decode cX2_lookAround 67 = .ok (.bipush 7, 2) := by decide +kernel
theorem dX2_lookAround_69 : decode cX2_lookAround 69 = .ok (.lshl, 1) := by decide +kernel
theorem dX2_lookAround_70 : decode cX2_lookAround 70 = .ok (.iload 6, 2) := by decide +kernel
theorem dX2_lookAround_72 : decode cX2_lookAround 72 = .ok (.i2l, 1) := by decide +kernel
theorem dX2_lookAround_73 : decode cX2_lookAround 73 = .ok (.ladd, 1) := by decide +kernel
theorem dX2_lookAround_74 : decode cX2_lookAround 74 = .ok (.lstore_n 2, 1) := by decide +kernel
theorem dX2_lookAround_75 : decode cX2_lookAround 75 = .ok (.iload 4, 2) := by decide +kernel
theorem dX2_lookAround_77 : decode cX2_lookAround 77 = .ok (.iconst 5, 1) := by decide +kernel
theorem dX2_lookAround_78 : decode cX2_lookAround 78 = .ok (.ishl, 1) := by decide +kernel
theorem dX2_lookAround_79 : decode cX2_lookAround 79 = .ok (.aload_n 0, 1) := by decide +kernel
theorem dX2_lookAround_80 : decode cX2_lookAround 80 = .ok (.getfield 35, 3) := by decide +kernel
theorem dX2_lookAround_83 : decode cX2_lookAround 83 = .ok (.iload 5, 2) := by decide +kernel
theorem dX2_lookAround_85 : decode cX2_lookAround 85 = .ok (.invokevirtual 88, 3) := by decide +kernel
theorem dX2_lookAround_88 : decode cX2_lookAround 88 = .ok (.iadd, 1) := by decide +kernel
theorem dX2_lookAround_89 : decode cX2_lookAround 89 = .ok (.istore 4, 2) := by decide +kernel
theorem dX2_lookAround_91 : decode cX2_lookAround 91 = .ok (.iinc 5 1, 3) := by decide +kernel
theorem dX2_lookAround_94 : decode cX2_lookAround 94 = .ok (.goto (-79), 3) := by decide +kernel
theorem dX2_lookAround_97 : decode cX2_lookAround 97 = .ok (.aload_n 0, 1) := by decide +kernel
theorem dX2_lookAround_98 : decode cX2_lookAround 98 = .ok (.getfield 9, 3) := by decide +kernel
theorem dX2_lookAround_101 : decode cX2_lookAround 101 = .ok (.iload_n 1, 1) := by decide +kernel
theorem dX2_lookAround_102 : decode cX2_lookAround 102 = .ok (.lload_n 2, 1) := by decide +kernel
theorem dX2_lookAround_103 : decode cX2_lookAround 103 = .ok (.lastore, 1) := by decide +kernel
theorem dX2_lookAround_104 : decode cX2_lookAround 104 = .ok (.aload_n 0, 1) := by decide +kernel
theorem dX2_lookAround_105 : decode cX2_lookAround 105 = .ok (.getfield 15, 3) := by decide +kernel
theorem dX2_lookAround_108 : decode cX2_lookAround 108 = .ok (.iload_n 1, 1) := by decide +kernel
theorem dX2_lookAround_109 : decode cX2_lookAround 109 = .ok (.iload 4, 2) := by decide +kernel
theorem dX2_lookAround_111 : decode cX2_lookAround 111 = .ok (.iastore, 1) := by decide +kernel
theorem dX2_lookAround_112 : decode cX2_lookAround 112 = .ok (.aload_n 0, 1) := by decide +kernel
theorem dX2_lookAround_113 : decode cX2_lookAround 113 = .ok (.getfield 19, 3) := by decide +kernel
theorem dX2_lookAround_116 : decode cX2_lookAround 116 = .ok (.iload_n 1, 1) := by decide +kernel
theorem dX2_lookAround_117 : decode cX2_lookAround 117 = .ok (.aload_n 0, 1) := by decide +kernel
theorem dX2_lookAround_118 : decode cX2_lookAround 118 = .ok (.getfield 35, 3) := by decide +kernel
theorem dX2_lookAround_121 : decode cX2_lookAround 121 = .ok (.getfield 85, 3) := by decide +kernel
theorem dX2_lookAround_124 : decode cX2_lookAround 124 = .ok (.iastore, 1) := by decide +kernel
theorem dX2_lookAround_125 : decode cX2_lookAround 125 = .ok (.return_, 1) := by decide +kernel
theorem dX2_enter_0 : decode cX2_enter 0 = .ok (.aload_n 0, 1) := by decide +kernel
theorem dX2_enter_1 : decode cX2_enter 1 = .ok (.getfield 9, 3) := by decide +kernel
theorem dX2_enter_4 : decode cX2_enter 4 = .ok (.iload_n 1, 1) := by decide +kernel
theorem dX2_enter_5 : decode cX2_enter 5 = .ok (.laload, 1) := by decide +kernel
theorem dX2_enter_6 : decode cX2_enter 6 = .ok (.ldc2_w 91, 3) := by decide +kernel
theorem dX2_enter_9 : decode cX2_enter 9 = .ok (.lmul, 1) := by decide +kernel
theorem dX2_enter_10 : decode cX2_enter 10 = .ok (.aload_n 0, 1) := by decide +kernel
theorem dX2_enter_11 : decode cX2_enter 11 = .ok (.getfield 15, 3) := by decide +kernel
theorem dX2_enter_14 : decode cX2_enter 14 = .ok (.iload_n 1, 1) := by decide +kernel
theorem dX2_enter_15 : decode cX2_enter 15 = .ok (.iaload, 1) := by decide +kernel
theorem dX2_enter_16 : decode cX2_enter 16 = .ok (.i2l, 1) := by decide +kernel
theorem dX2_enter_17 : decode cX2_enter 17 = .ok (.ldc2_w 93, 3) := by decide +kernel
theorem dX2_enter_20 : decode cX2_enter 20 = .ok (.lmul, 1) := by decide +kernel
theorem dX2_enter_21 : decode cX2_enter 21 = .ok (.ladd, 1) := by decide +kernel
theorem dX2_enter_22 : decode cX2_enter 22 = .ok (.lstore_n 2, 1) := by decide +kernel
theorem dX2_enter_23 : decode cX2_enter 23 = .ok (.lload_n 2, 1) := by decide +kernel
theorem dX2_enter_24 : decode cX2_enter 24 = .ok (.bipush 40, 2) := by decide +kernel
theorem dX2_enter_26 : decode cX2_enter 26 = .ok (.lushr, 1) := by decide +kernel
theorem dX2_enter_27 : decode cX2_enter 27 = .ok (.l2i, 1) := by decide +kernel
theorem dX2_enter_28 : decode cX2_enter 28 = .ok (.sipush 1023, 3) := by decide +kernel
theorem dX2_enter_31 : decode cX2_enter 31 = .ok (.iand, 1) := by decide +kernel
theorem dX2_enter_32 : decode cX2_enter 32 = .ok (.istore 4, 2) := by decide +kernel
theorem dX2_enter_34 : decode cX2_enter 34 = .ok (.aload_n 0, 1) := by decide +kernel
theorem dX2_enter_35 : decode cX2_enter 35 = .ok (.getfield 22, 3) := by decide +kernel
theorem dX2_enter_38 : decode cX2_enter 38 = .ok (.iload 4, 2) := by decide +kernel
theorem dX2_enter_40 : decode cX2_enter 40 = .ok (.iaload, 1) := by decide +kernel
theorem dX2_enter_41 : decode cX2_enter 41 = .ok (.istore 5, 2) := by decide +kernel
theorem dX2_enter_43 : decode cX2_enter 43 = .ok (.iconst 0, 1) := by decide +kernel
theorem dX2_enter_44 : decode cX2_enter 44 = .ok (.istore 6, 2) := by decide +kernel
theorem dX2_enter_46 : decode cX2_enter 46 = .ok (.iload 6, 2) := by decide +kernel
theorem dX2_enter_48 : decode cX2_enter 48 = .ok (.sipush 1500, 3) := by decide +kernel
theorem dX2_enter_51 : decode cX2_enter 51 = .ok (.if_icmp .ge 60, 3) := by decide +kernel
theorem dX2_enter_54 : decode cX2_enter 54 = .ok (.iload 5, 2) := by decide +kernel
theorem dX2_enter_56 : decode cX2_enter 56 = .ok (.iconst (-1), 1) := by decide +kernel
theorem dX2_enter_57 : decode cX2_enter 57 = .ok (.if_icmp .eq 54, 3) := by decide +kernel
theorem dX2_enter_60 : decode cX2_enter 60 = .ok (.aload_n 0, 1) := by decide +kernel
theorem dX2_enter_61 : decode cX2_enter 61 = .ok (.getfield 9, 3) := by decide +kernel
theorem dX2_enter_64 : decode cX2_enter 64 = .ok (.iload 5, 2) := by decide +kernel
theorem dX2_enter_66 : decode cX2_enter 66 = .ok (.laload, 1) := by decide +kernel
theorem dX2_enter_67 : decode cX2_enter 67 = .ok (.aload_n 0, 1) := by decide +kernel
theorem dX2_enter_68 : decode cX2_enter 68 = .ok (.getfield 9, 3) := by decide +kernel
theorem dX2_enter_71 : decode cX2_enter 71 = .ok (.iload_n 1, 1) := by decide +kernel
theorem dX2_enter_72 : decode cX2_enter 72 = .ok (.laload, 1) := by decide +kernel
theorem dX2_enter_73 : decode cX2_enter 73 = .ok (.lcmp, 1) := by decide +kernel
theorem dX2_enter_74 : decode cX2_enter 74 = .ok (.ifCond .ne 22, 3) := by decide +kernel
theorem dX2_enter_77 : decode cX2_enter 77 = .ok (.aload_n 0, 1) := by decide +kernel
theorem dX2_enter_78 : decode cX2_enter 78 = .ok (.getfield 15, 3) := by decide +kernel
theorem dX2_enter_81 : decode cX2_enter 81 = .ok (.iload 5, 2) := by decide +kernel
theorem dX2_enter_83 : decode cX2_enter 83 = .ok (.iaload, 1) := by decide +kernel
theorem dX2_enter_84 : decode cX2_enter 84 = .ok (.aload_n 0, 1) := by decide +kernel
theorem dX2_enter_85 : decode cX2_enter 85 = .ok (.getfield 15, 3) := by decide +kernel
theorem dX2_enter_88 : decode cX2_enter 88 = .ok (.iload_n 1, 1) := by decide +kernel
theorem dX2_enter_89 : decode cX2_enter 89 = .ok (.iaload, 1) := by decide +kernel
theorem dX2_enter_90 : decode cX2_enter 90 = .ok (.if_icmp .ne 6, 3) := by decide +kernel
theorem dX2_enter_93 : decode cX2_enter 93 = .ok (.iload 5, 2) := by decide +kernel
theorem dX2_enter_95 : decode cX2_enter 95 = .ok (.ireturn, 1) := by decide +kernel
theorem dX2_enter_96 : decode cX2_enter 96 = .ok (.aload_n 0, 1) := by decide +kernel
theorem dX2_enter_97 : decode cX2_enter 97 = .ok (.getfield 25, 3) := by decide +kernel
theorem dX2_enter_100 : decode cX2_enter 100 = .ok (.iload 5, 2) := by decide +kernel
theorem dX2_enter_102 : decode cX2_enter 102 = .ok (.iaload, 1) := by decide +kernel
theorem dX2_enter_103 : decode cX2_enter 103 = .ok (.istore 5, 2) := by decide +kernel
theorem dX2_enter_105 : decode cX2_enter 105 = .ok (.iinc 6 1, 3) := by decide +kernel
theorem dX2_enter_108 : decode cX2_enter 108 = .ok (.goto (-62), 3) := by decide +kernel
theorem dX2_enter_111 : decode cX2_enter 111 = .ok (.aload_n 0, 1) := by decide +kernel
theorem dX2_enter_112 : decode cX2_enter 112 = .ok (.getfield 25, 3) := by decide +kernel
theorem dX2_enter_115 : decode cX2_enter 115 = .ok (.iload_n 1, 1) := by decide +kernel
theorem dX2_enter_116 : decode cX2_enter 116 = .ok (.aload_n 0, 1) := by decide +kernel
theorem dX2_enter_117 : decode cX2_enter 117 = .ok (.getfield 22, 3) := by decide +kernel
theorem dX2_enter_120 : decode cX2_enter 120 = .ok (.iload 4, 2) := by decide +kernel
theorem dX2_enter_122 : decode cX2_enter 122 = .ok (.iaload, 1) := by decide +kernel
theorem dX2_enter_123 : decode cX2_enter 123 = .ok (.iastore, 1) := by decide +kernel
theorem dX2_enter_124 : decode cX2_enter 124 = .ok (.aload_n 0, 1) := by decide +kernel
theorem dX2_enter_125 : decode cX2_enter 125 = .ok (.getfield 22, 3) := by decide +kernel
theorem dX2_enter_128 : decode cX2_enter 128 = .ok (.iload 4, 2) := by decide +kernel
theorem dX2_enter_130 : decode cX2_enter 130 = .ok (.iload_n 1, 1) := by decide +kernel
theorem dX2_enter_131 : decode cX2_enter 131 = .ok (.iastore, 1) := by decide +kernel
theorem dX2_enter_132 : decode cX2_enter 132 = .ok (.iconst (-1), 1) := by decide +kernel
theorem dX2_enter_133 : decode cX2_enter 133 = .ok (.ireturn, 1) := by decide +kernel
theorem dX3_init_0 : decode cX3_init 0 = .ok (.aload_n 0, 1) := by decide +kernel
theorem dX3_init_1 : decode cX3_init 1 = .ok (.invokespecial 3, 3) := by decide +kernel
theorem dX3_init_4 : decode cX3_init 4 = .ok (.aload_n 0, 1) := by decide +kernel
theorem dX3_init_5 : decode cX3_init 5 = .ok (.bipush 6, 2) := by decide +kernel
theorem dX3_init_7 : decode cX3_init 7 = .ok (.newarray .int, 2) := by decide +kernel
theorem dX3_init_9 : decode cX3_init 9 = .ok (.putfield 9, 3) := by decide +kernel
theorem dX3_init_12 : decode cX3_init 12 = .ok (.aload_n 0, 1) := by decide +kernel
theorem dX3_init_13 : decode cX3_init 13 = .ok (.bipush 6, 2) := by decide +kernel
theorem dX3_init_15 : decode cX3_init 15 = .ok (.newarray .int, 2) := by decide +kernel
theorem dX3_init_17 : decode cX3_init 17 = .ok (.putfield 15, 3) := by decide +kernel
theorem dX3_init_20 : decode cX3_init 20 = .ok (.aload_n 0, 1) := by decide +kernel
theorem dX3_init_21 : decode cX3_init 21 = .ok (.iconst 5, 1) := by decide +kernel
theorem dX3_init_22 : decode cX3_init 22 = .ok (.newarray .int, 2) := by decide +kernel
theorem dX3_init_24 : decode cX3_init 24 = .ok (.putfield 18, 3) := by decide +kernel
theorem dX3_init_27 : decode cX3_init 27 = .ok (.aload_n 0, 1) := by decide +kernel
theorem dX3_init_28 : decode cX3_init 28 = .ok (.iconst 5, 1) := by decide +kernel
theorem dX3_init_29 : decode cX3_init 29 = .ok (.newarray .int, 2) := by decide +kernel
theorem dX3_init_31 : decode cX3_init 31 = .ok (.putfield 21, 3) := by decide +kernel
theorem dX3_init_34 : decode cX3_init 34 = .ok (.aload_n 0, 1) := by decide +kernel
theorem dX3_init_35 : decode cX3_init 35 = .ok (.iconst 5, 1) := by decide +kernel
theorem dX3_init_36 : decode cX3_init 36 = .ok (.newarray .int, 2) := by decide +kernel
theorem dX3_init_38 : decode cX3_init 38 = .ok (.putfield 24, 3) := by decide +kernel
theorem dX3_init_41 : decode cX3_init 41 = .ok (.aload_n 0, 1) := by decide +kernel
theorem dX3_init_42 : decode cX3_init 42 = .ok (.bipush 120, 2) := by decide +kernel
theorem dX3_init_44 : decode cX3_init 44 = .ok (.newarray .int, 2) := by decide +kernel
theorem dX3_init_46 : decode cX3_init 46 = .ok (.putfield 27, 3) := by decide +kernel
theorem dX3_init_49 : decode cX3_init 49 = .ok (.aload_n 0, 1) := by decide +kernel
theorem dX3_init_50 : decode cX3_init 50 = .ok (.iconst 0, 1) := by decide +kernel
theorem dX3_init_51 : decode cX3_init 51 = .ok (.putfield 30, 3) := by decide +kernel
theorem dX3_init_54 : decode cX3_init 54 = .ok (.aload_n 0, 1) := by decide +kernel
theorem dX3_init_55 : decode cX3_init 55 = .ok (.iconst 0, 1) := by decide +kernel
theorem dX3_init_56 : decode cX3_init 56 = .ok (.putfield 34, 3) := by decide +kernel
theorem dX3_init_59 : decode cX3_init 59 = .ok (.aload_n 0, 1) := by decide +kernel
theorem dX3_init_60 : decode cX3_init 60 = .ok (.iconst 0, 1) := by decide +kernel
theorem dX3_init_61 : decode cX3_init 61 = .ok (.putfield 37, 3) := by decide +kernel
theorem dX3_init_64 : decode cX3_init 64 = .ok (.aload_n 0, 1) := by decide +kernel
theorem dX3_init_65 : decode cX3_init 65 = .ok (.iconst 0, 1) := by decide +kernel
theorem dX3_init_66 : decode cX3_init 66 = .ok (.putfield 40, 3) := by decide +kernel
theorem dX3_init_69 : decode cX3_init 69 = .ok (.return_, 1) := by decide +kernel
theorem dX3_clear_0 : decode cX3_clear 0 = .ok (.aload_n 0, 1) := by decide +kernel
theorem dX3_clear_1 : decode cX3_clear 1 = .ok (.iconst 0, 1) := by decide +kernel
theorem dX3_clear_2 : decode cX3_clear 2 = .ok (.putfield 30, 3) := by decide +kernel
theorem dX3_clear_5 : decode cX3_clear 5 = .ok (.aload_n 0, 1) := by decide +kernel
theorem dX3_clear_6 : decode cX3_clear 6 = .ok (.iconst 0, 1) := by decide +kernel
theorem dX3_clear_7 : decode cX3_clear 7 = .ok (.putfield 34, 3) := by decide +kernel
theorem dX3_clear_10 : decode cX3_clear 10 = .ok (.aload_n 0, 1) := by decide +kernel
theorem dX3_clear_11 : decode cX3_clear 11 = .ok (.iconst 0, 1) := by decide +kernel
theorem dX3_clear_12 : decode cX3_clear 12 = .ok (.putfield 37, 3) := by decide +kernel
theorem dX3_clear_15 : decode cX3_clear 15 = .ok (.aload_n 0, 1) := by decide +kernel
theorem dX3_clear_16 : decode cX3_clear 16 = .ok (.iconst 0, 1) := by decide +kernel
theorem dX3_clear_17 : decode cX3_clear 17 = .ok (.putfield 40, 3) := by decide +kernel
theorem dX3_clear_20 : decode cX3_clear 20 = .ok (.return_, 1) := by decide +kernel
theorem dX3_addStation_0 : decode cX3_addStation 0 = .ok (.aload_n 0, 1) := by decide +kernel
theorem dX3_addStation_1 : decode cX3_addStation 1 = .ok (.getfield 30, 3) := by decide +kernel
theorem dX3_addStation_4 : decode cX3_addStation 4 = .ok (.bipush 6, 2) := by decide +kernel
theorem dX3_addStation_6 : decode cX3_addStation 6 = .ok (.if_icmp .lt 4, 3) := by decide +kernel
theorem dX3_addStation_9 : decode cX3_addStation 9 = .ok (.return_, 1) := by decide +kernel
theorem dX3_addStation_10 : decode cX3_addStation 10 = .ok (.aload_n 0, 1) := by decide +kernel
theorem dX3_addStation_11 : decode cX3_addStation 11 = .ok (.getfield 9, 3) := by decide +kernel
theorem dX3_addStation_14 : decode cX3_addStation 14 = .ok (.aload_n 0, 1) := by decide +kernel
theorem dX3_addStation_15 : decode cX3_addStation 15 = .ok (.getfield 30, 3) := by decide +kernel
theorem dX3_addStation_18 : decode cX3_addStation 18 = .ok (.iload_n 1, 1) := by decide +kernel
theorem dX3_addStation_19 : decode cX3_addStation 19 = .ok (.iastore, 1) := by decide +kernel
theorem dX3_addStation_20 : decode cX3_addStation 20 = .ok (.aload_n 0, 1) := by decide +kernel
theorem dX3_addStation_21 : decode cX3_addStation 21 = .ok (.getfield 15, 3) := by decide +kernel
theorem dX3_addStation_24 : decode cX3_addStation 24 = .ok (.aload_n 0, 1) := by decide +kernel
theorem dX3_addStation_25 : decode cX3_addStation 25 = .ok (.getfield 30, 3) := by decide +kernel
theorem dX3_addStation_28 : decode cX3_addStation 28 = .ok (.iload_n 2, 1) := by decide +kernel
theorem dX3_addStation_29 : decode cX3_addStation 29 = .ok (.iastore, 1) := by decide +kernel
theorem dX3_addStation_30 : decode cX3_addStation 30 = .ok (.aload_n 0, 1) := by decide +kernel
theorem dX3_addStation_31 : decode cX3_addStation 31 = .ok (.getfield 21, 3) := by decide +kernel
theorem dX3_addStation_34 : decode cX3_addStation 34 = .ok (.iconst 0, 1) := by decide +kernel
theorem dX3_addStation_35 : decode cX3_addStation 35 = .ok (.aload_n 0, 1) := by decide +kernel
theorem dX3_addStation_36 : decode cX3_addStation 36 = .ok (.getfield 30, 3) := by decide +kernel
theorem dX3_addStation_39 : decode cX3_addStation 39 = .ok (.iastore, 1) := by decide +kernel
theorem dX3_addStation_40 : decode cX3_addStation 40 = .ok (.aload_n 0, 1) := by decide +kernel
theorem dX3_addStation_41 : decode cX3_addStation 41 = .ok (.dup, 1) := by decide +kernel
theorem dX3_addStation_42 : decode cX3_addStation 42 = .ok (.getfield 30, 3) := by decide +kernel
theorem dX3_addStation_45 : decode cX3_addStation 45 = .ok (.iconst 1, 1) := by decide +kernel
theorem dX3_addStation_46 : decode cX3_addStation 46 = .ok (.iadd, 1) := by decide +kernel
theorem dX3_addStation_47 : decode cX3_addStation 47 = .ok (.putfield 30, 3) := by decide +kernel
theorem dX3_addStation_50 : decode cX3_addStation 50 = .ok (.return_, 1) := by decide +kernel
theorem dX3_addLoop_0 : decode cX3_addLoop 0 = .ok (.aload_n 0, 1) := by decide +kernel
theorem dX3_addLoop_1 : decode cX3_addLoop 1 = .ok (.getfield 34, 3) := by decide +kernel
theorem dX3_addLoop_4 : decode cX3_addLoop 4 = .ok (.iconst 5, 1) := by decide +kernel
theorem dX3_addLoop_5 : decode cX3_addLoop 5 = .ok (.if_icmp .lt 4, 3) := by decide +kernel
theorem dX3_addLoop_8 : decode cX3_addLoop 8 = .ok (.return_, 1) := by decide +kernel
theorem dX3_addLoop_9 : decode cX3_addLoop 9 = .ok (.aload_n 0, 1) := by decide +kernel
theorem dX3_addLoop_10 : decode cX3_addLoop 10 = .ok (.getfield 18, 3) := by decide +kernel
theorem dX3_addLoop_13 : decode cX3_addLoop 13 = .ok (.aload_n 0, 1) := by decide +kernel
theorem dX3_addLoop_14 : decode cX3_addLoop 14 = .ok (.getfield 34, 3) := by decide +kernel
theorem dX3_addLoop_17 : decode cX3_addLoop 17 = .ok (.iload_n 1, 1) := by decide +kernel
theorem dX3_addLoop_18 : decode cX3_addLoop 18 = .ok (.iastore, 1) := by decide +kernel
theorem dX3_addLoop_19 : decode cX3_addLoop 19 = .ok (.aload_n 0, 1) := by decide +kernel
theorem dX3_addLoop_20 : decode cX3_addLoop 20 = .ok (.getfield 21, 3) := by decide +kernel
theorem dX3_addLoop_23 : decode cX3_addLoop 23 = .ok (.aload_n 0, 1) := by decide +kernel
theorem dX3_addLoop_24 : decode cX3_addLoop 24 = .ok (.getfield 34, 3) := by decide +kernel
theorem dX3_addLoop_27 : decode cX3_addLoop 27 = .ok (.iload_n 2, 1) := by decide +kernel
theorem dX3_addLoop_28 : decode cX3_addLoop 28 = .ok (.iastore, 1) := by decide +kernel
theorem dX3_addLoop_29 : decode cX3_addLoop 29 = .ok (.aload_n 0, 1) := by decide +kernel
theorem dX3_addLoop_30 : decode cX3_addLoop 30 = .ok (.getfield 24, 3) := by decide +kernel
theorem dX3_addLoop_33 : decode cX3_addLoop 33 = .ok (.aload_n 0, 1) := by decide +kernel
theorem dX3_addLoop_34 : decode cX3_addLoop 34 = .ok (.getfield 34, 3) := by decide +kernel
theorem dX3_addLoop_37 : decode cX3_addLoop 37 = .ok (.iload_n 3, 1) := by decide +kernel
theorem dX3_addLoop_38 : decode cX3_addLoop 38 = .ok (.iastore, 1) := by decide +kernel
theorem dX3_addLoop_39 : decode cX3_addLoop 39 = .ok (.aload_n 0, 1) := by decide +kernel
theorem dX3_addLoop_40 : decode cX3_addLoop 40 = .ok (.dup, 1) := by decide +kernel
theorem dX3_addLoop_41 : decode cX3_addLoop 41 = .ok (.getfield 34, 3) := by decide +kernel
theorem dX3_addLoop_44 : decode cX3_addLoop 44 = .ok (.iconst 1, 1) := by decide +kernel
theorem dX3_addLoop_45 : decode cX3_addLoop 45 = .ok (.iadd, 1) := by decide +kernel
theorem dX3_addLoop_46 : decode cX3_addLoop 46 = .ok (.putfield 34, 3) := by decide +kernel
theorem dX3_addLoop_49 : decode cX3_addLoop 49 = .ok (.return_, 1) := by decide +kernel
theorem dX3_addRun_0 : decode cX3_addRun 0 = .ok (.aload_n 0, 1) := by decide +kernel
theorem dX3_addRun_1 : decode cX3_addRun 1 = .ok (.getfield 37, 3) := by decide +kernel
theorem dX3_addRun_4 : decode cX3_addRun 4 = .ok (.bipush 6, 2) := by decide +kernel
theorem dX3_addRun_6 : decode cX3_addRun 6 = .ok (.if_icmp .lt 4, 3) := by decide +kernel
theorem dX3_addRun_9 : decode cX3_addRun 9 = .ok (.return_, 1) := by decide +kernel
theorem dX3_addRun_10 : decode cX3_addRun 10 = .ok (.iconst 0, 1) := by decide +kernel
theorem dX3_addRun_11 : decode cX3_addRun 11 = .ok (.istore_n 3, 1) := by decide +kernel
theorem dX3_addRun_12 : decode cX3_addRun 12 = .ok (.iload_n 3, 1) := by decide +kernel
theorem dX3_addRun_13 : decode cX3_addRun 13 = .ok (.iload_n 2, 1) := by decide +kernel
theorem dX3_addRun_14 : decode cX3_addRun 14 = .ok (.if_icmp .ge 38, 3) := by decide +kernel
theorem dX3_addRun_17 : decode cX3_addRun 17 = .ok (.aload_n 0, 1) := by decide +kernel
theorem dX3_addRun_18 : decode cX3_addRun 18 = .ok (.getfield 40, 3) := by decide +kernel
theorem dX3_addRun_21 : decode cX3_addRun 21 = .ok (.bipush 120, 2) := by decide +kernel
theorem dX3_addRun_23 : decode cX3_addRun 23 = .ok (.if_icmp .ge 29, 3) := by decide +kernel
theorem dX3_addRun_26 : decode cX3_addRun 26 = .ok (.aload_n 0, 1) := by decide +kernel
theorem dX3_addRun_27 : decode cX3_addRun 27 = .ok (.getfield 27, 3) := by decide +kernel
theorem dX3_addRun_30 : decode cX3_addRun 30 = .ok (.aload_n 0, 1) := by decide +kernel
theorem dX3_addRun_31 : decode cX3_addRun 31 = .ok (.getfield 40, 3) := by decide +kernel
theorem dX3_addRun_34 : decode cX3_addRun 34 = .ok (.iload_n 1, 1) := by decide +kernel
theorem dX3_addRun_35 : decode cX3_addRun 35 = .ok (.iastore, 1) := by decide +kernel
theorem dX3_addRun_36 : decode cX3_addRun 36 = .ok (.aload_n 0, 1) := by decide +kernel
theorem dX3_addRun_37 : decode cX3_addRun 37 = .ok (.dup, 1) := by decide +kernel
theorem dX3_addRun_38 : decode cX3_addRun 38 = .ok (.getfield 40, 3) := by decide +kernel
theorem dX3_addRun_41 : decode cX3_addRun 41 = .ok (.iconst 1, 1) := by decide +kernel
theorem dX3_addRun_42 : decode cX3_addRun 42 = .ok (.iadd, 1) := by decide +kernel
theorem dX3_addRun_43 : decode cX3_addRun 43 = .ok (.putfield 40, 3) := by decide +kernel
theorem dX3_addRun_46 : decode cX3_addRun 46 = .ok (.iinc 3 1, 3) := by decide +kernel
theorem dX3_addRun_49 : decode cX3_addRun 49 = .ok (.goto (-37), 3) := by decide +kernel
theorem dX3_addRun_52 : decode cX3_addRun 52 = .ok (.aload_n 0, 1) := by decide +kernel
theorem dX3_addRun_53 : decode cX3_addRun 53 = .ok (.dup, 1) := by decide +kernel
theorem dX3_addRun_54 : decode cX3_addRun 54 = .ok (.getfield 37, 3) := by decide +kernel
theorem dX3_addRun_57 : decode cX3_addRun 57 = .ok (.iconst 1, 1) := by decide +kernel
theorem dX3_addRun_58 : decode cX3_addRun 58 = .ok (.iadd, 1) := by decide +kernel
theorem dX3_addRun_59 : decode cX3_addRun 59 = .ok (.putfield 37, 3) := by decide +kernel
theorem dX3_addRun_62 : decode cX3_addRun 62 = .ok (.return_, 1) := by decide +kernel
theorem dX3_copyFrom_0 : decode cX3_copyFrom 0 = .ok (.aload_n 1, 1) := by decide +kernel
theorem dX3_copyFrom_1 : decode cX3_copyFrom 1 = .ok (.getfield 9, 3) := by decide +kernel
theorem dX3_copyFrom_4 : decode cX3_copyFrom 4 = .ok (.iconst 0, 1) := by decide +kernel
theorem dX3_copyFrom_5 : decode cX3_copyFrom 5 = .ok (.aload_n 0, 1) := by decide +kernel
theorem dX3_copyFrom_6 : decode cX3_copyFrom 6 = .ok (.getfield 9, 3) := by decide +kernel
theorem dX3_copyFrom_9 : decode cX3_copyFrom 9 = .ok (.iconst 0, 1) := by decide +kernel
theorem dX3_copyFrom_10 : decode cX3_copyFrom 10 = .ok (.bipush 6, 2) := by decide +kernel
theorem dX3_copyFrom_12 : decode cX3_copyFrom 12 = .ok (.invokestatic 43, 3) := by decide +kernel
theorem dX3_copyFrom_15 : decode cX3_copyFrom 15 = .ok (.aload_n 1, 1) := by decide +kernel
theorem dX3_copyFrom_16 : decode cX3_copyFrom 16 = .ok (.getfield 15, 3) := by decide +kernel
theorem dX3_copyFrom_19 : decode cX3_copyFrom 19 = .ok (.iconst 0, 1) := by decide +kernel
theorem dX3_copyFrom_20 : decode cX3_copyFrom 20 = .ok (.aload_n 0, 1) := by decide +kernel
theorem dX3_copyFrom_21 : decode cX3_copyFrom 21 = .ok (.getfield 15, 3) := by decide +kernel
theorem dX3_copyFrom_24 : decode cX3_copyFrom 24 = .ok (.iconst 0, 1) := by decide +kernel
theorem dX3_copyFrom_25 : decode cX3_copyFrom 25 = .ok (.bipush 6, 2) := by decide +kernel
theorem dX3_copyFrom_27 : decode cX3_copyFrom 27 = .ok (.invokestatic 43, 3) := by decide +kernel
theorem dX3_copyFrom_30 : decode cX3_copyFrom 30 = .ok (.aload_n 1, 1) := by decide +kernel
theorem dX3_copyFrom_31 : decode cX3_copyFrom 31 = .ok (.getfield 18, 3) := by decide +kernel
theorem dX3_copyFrom_34 : decode cX3_copyFrom 34 = .ok (.iconst 0, 1) := by decide +kernel
theorem dX3_copyFrom_35 : decode cX3_copyFrom 35 = .ok (.aload_n 0, 1) := by decide +kernel
theorem dX3_copyFrom_36 : decode cX3_copyFrom 36 = .ok (.getfield 18, 3) := by decide +kernel
theorem dX3_copyFrom_39 : decode cX3_copyFrom 39 = .ok (.iconst 0, 1) := by decide +kernel
theorem dX3_copyFrom_40 : decode cX3_copyFrom 40 = .ok (.iconst 5, 1) := by decide +kernel
theorem dX3_copyFrom_41 : decode cX3_copyFrom 41 = .ok (.invokestatic 43, 3) := by decide +kernel
theorem dX3_copyFrom_44 : decode cX3_copyFrom 44 = .ok (.aload_n 1, 1) := by decide +kernel
theorem dX3_copyFrom_45 : decode cX3_copyFrom 45 = .ok (.getfield 21, 3) := by decide +kernel
theorem dX3_copyFrom_48 : decode cX3_copyFrom 48 = .ok (.iconst 0, 1) := by decide +kernel
theorem dX3_copyFrom_49 : decode cX3_copyFrom 49 = .ok (.aload_n 0, 1) := by decide +kernel
theorem dX3_copyFrom_50 : decode cX3_copyFrom 50 = .ok (.getfield 21, 3) := by decide +kernel
theorem dX3_copyFrom_53 : decode cX3_copyFrom 53 = .ok (.iconst 0, 1) := by decide +kernel
theorem dX3_copyFrom_54 : decode cX3_copyFrom 54 = .ok (.iconst 5, 1) := by decide +kernel
theorem dX3_copyFrom_55 : decode cX3_copyFrom 55 = .ok (.invokestatic 43, 3) := by decide +kernel
theorem dX3_copyFrom_58 : decode cX3_copyFrom 58 = .ok (.aload_n 1, 1) := by decide +kernel
theorem dX3_copyFrom_59 : decode cX3_copyFrom 59 = .ok (.getfield 24, 3) := by decide +kernel
theorem dX3_copyFrom_62 : decode cX3_copyFrom 62 = .ok (.iconst 0, 1) := by decide +kernel
theorem dX3_copyFrom_63 : decode cX3_copyFrom 63 = .ok (.aload_n 0, 1) := by decide +kernel
theorem dX3_copyFrom_64 : decode cX3_copyFrom 64 = .ok (.getfield 24, 3) := by decide +kernel
theorem dX3_copyFrom_67 : decode cX3_copyFrom 67 = .ok (.iconst 0, 1) := by decide +kernel
theorem dX3_copyFrom_68 : decode cX3_copyFrom 68 = .ok (.iconst 5, 1) := by decide +kernel
theorem dX3_copyFrom_69 : decode cX3_copyFrom 69 = .ok (.invokestatic 43, 3) := by decide +kernel
theorem dX3_copyFrom_72 : decode cX3_copyFrom 72 = .ok (.aload_n 1, 1) := by decide +kernel
theorem dX3_copyFrom_73 : decode cX3_copyFrom 73 = .ok (.getfield 27, 3) := by decide +kernel
theorem dX3_copyFrom_76 : decode cX3_copyFrom 76 = .ok (.iconst 0, 1) := by decide +kernel
theorem dX3_copyFrom_77 : decode cX3_copyFrom 77 = .ok (.aload_n 0, 1) := by decide +kernel
theorem dX3_copyFrom_78 : decode cX3_copyFrom 78 = .ok (.getfield 27, 3) := by decide +kernel
theorem dX3_copyFrom_81 : decode cX3_copyFrom 81 = .ok (.iconst 0, 1) := by decide +kernel
theorem dX3_copyFrom_82 : decode cX3_copyFrom 82 = .ok (.bipush 120, 2) := by decide +kernel
theorem dX3_copyFrom_84 : decode cX3_copyFrom 84 = .ok (.invokestatic 43, 3) := by decide +kernel
theorem dX3_copyFrom_87 : decode cX3_copyFrom 87 = .ok (.aload_n 0, 1) := by decide +kernel
theorem dX3_copyFrom_88 : decode cX3_copyFrom 88 = .ok (.aload_n 1, 1) := by decide +kernel
theorem dX3_copyFrom_89 : decode cX3_copyFrom 89 = .ok (.getfield 30, 3) := by decide +kernel
theorem dX3_copyFrom_92 : decode cX3_copyFrom 92 = .ok (.putfield 30, 3) := by decide +kernel
theorem dX3_copyFrom_95 : decode cX3_copyFrom 95 = .ok (.aload_n 0, 1) := by decide +kernel
theorem dX3_copyFrom_96 : decode cX3_copyFrom 96 = .ok (.aload_n 1, 1) := by decide +kernel
theorem dX3_copyFrom_97 : decode cX3_copyFrom 97 = .ok (.getfield 34, 3) := by decide +kernel
theorem dX3_copyFrom_100 : decode cX3_copyFrom 100 = .ok (.putfield 34, 3) := by decide +kernel
theorem dX3_copyFrom_103 : decode cX3_copyFrom 103 = .ok (.aload_n 0, 1) := by decide +kernel
theorem dX3_copyFrom_104 : decode cX3_copyFrom 104 = .ok (.aload_n 1, 1) := by decide +kernel
theorem dX3_copyFrom_105 : decode cX3_copyFrom 105 = .ok (.getfield 37, 3) := by decide +kernel
theorem dX3_copyFrom_108 : decode cX3_copyFrom 108 = .ok (.putfield 37, 3) := by decide +kernel
theorem dX3_copyFrom_111 : decode cX3_copyFrom 111 = .ok (.aload_n 0, 1) := by decide +kernel
theorem dX3_copyFrom_112 : decode cX3_copyFrom 112 = .ok (.aload_n 1, 1) := by decide +kernel
theorem dX3_copyFrom_113 : decode cX3_copyFrom 113 = .ok (.getfield 40, 3) := by decide +kernel
theorem dX3_copyFrom_116 : decode cX3_copyFrom 116 = .ok (.putfield 40, 3) := by decide +kernel
theorem dX3_copyFrom_119 : decode cX3_copyFrom 119 = .ok (.return_, 1) := by decide +kernel
theorem dX4_init_0 : decode cX4_init 0 = .ok (.aload_n 0, 1) := by decide +kernel
theorem dX4_init_1 : decode cX4_init 1 = .ok (.invokespecial 3, 3) := by decide +kernel
theorem dX4_init_4 : decode cX4_init 4 = .ok (.aload_n 0, 1) := by decide +kernel
theorem dX4_init_5 : decode cX4_init 5 = .ok (.new 9, 3) := by decide +kernel
theorem dX4_init_8 : decode cX4_init 8 = .ok (.dup, 1) := by decide +kernel
theorem dX4_init_9 : decode cX4_init 9 = .ok (.invokespecial 11, 3) := by decide +kernel
theorem dX4_init_12 : decode cX4_init 12 = .ok (.putfield 12, 3) := by decide +kernel
theorem dX4_init_15 : decode cX4_init 15 = .ok (.aload_n 0, 1) := by decide +kernel
theorem dX4_init_16 : decode cX4_init 16 = .ok (.iconst 0, 1) := by decide +kernel
theorem dX4_init_17 : decode cX4_init 17 = .ok (.putfield 18, 3) := by decide +kernel
theorem dX4_init_20 : decode cX4_init 20 = .ok (.aload_n 0, 1) := by decide +kernel
theorem dX4_init_21 : decode cX4_init 21 = .ok (.iconst 0, 1) := by decide +kernel
theorem dX4_init_22 : decode cX4_init 22 = .ok (.putfield 22, 3) := by decide +kernel
theorem dX4_init_25 : decode cX4_init 25 = .ok (.aload_n 0, 1) := by decide +kernel
theorem dX4_init_26 : decode cX4_init 26 = .ok (.iconst 0, 1) := by decide +kernel
theorem dX4_init_27 : decode cX4_init 27 = .ok (.putfield 25, 3) := by decide +kernel
theorem dX4_init_30 : decode cX4_init 30 = .ok (.aload_n 0, 1) := by decide +kernel
theorem dX4_init_31 : decode cX4_init 31 = .ok (.iconst 0, 1) := by decide +kernel
theorem dX4_init_32 : decode cX4_init 32 = .ok (.putfield 28, 3) := by decide +kernel
theorem dX4_init_35 : decode cX4_init 35 = .ok (.aload_n 0, 1) := by decide +kernel
theorem dX4_init_36 : decode cX4_init 36 = .ok (.iconst 1, 1) := by decide +kernel
theorem dX4_init_37 : decode cX4_init 37 = .ok (.putfield 31, 3) := by decide +kernel
theorem dX4_init_40 : decode cX4_init 40 = .ok (.aload_n 0, 1) := by decide +kernel
theorem dX4_init_41 : decode cX4_init 41 = .ok (.iconst 0, 1) := by decide +kernel
theorem dX4_init_42 : decode cX4_init 42 = .ok (.putfield 34, 3) := by decide +kernel
theorem dX4_init_45 : decode cX4_init 45 = .ok (.aload_n 0, 1) := by decide +kernel
theorem dX4_init_46 : decode cX4_init 46 = .ok (.aload_n 1, 1) := by decide +kernel
theorem dX4_init_47 : decode cX4_init 47 = .ok (.putfield 37, 3) := by decide +kernel
theorem dX4_init_50 : decode cX4_init 50 = .ok (.return_, 1) := by decide +kernel
theorem dX4_read_0 : decode cX4_read 0 = .ok (.aload_n 0, 1) := by decide +kernel
theorem dX4_read_1 : decode cX4_read 1 = .ok (.iload_n 1, 1) := by decide +kernel
theorem dX4_read_2 : decode cX4_read 2 = .ok (.aload_n 0, 1) := by decide +kernel
theorem dX4_read_3 : decode cX4_read 3 = .ok (.getfield 37, 3) := by decide +kernel
theorem dX4_read_6 : decode cX4_read 6 = .ok (.arraylength, 1) := by decide +kernel
theorem dX4_read_7 : decode cX4_read 7 = .ok (.invokestatic 41, 3) := by decide +kernel
theorem dX4_read_10 : decode cX4_read 10 = .ok (.putfield 18, 3) := by decide +kernel
theorem dX4_read_13 : decode cX4_read 13 = .ok (.aload_n 0, 1) := by decide +kernel
theorem dX4_read_14 : decode cX4_read 14 = .ok (.iconst 0, 1) := by decide +kernel
theorem dX4_read_15 : decode cX4_read 15 = .ok (.putfield 28, 3) := by decide +kernel
theorem dX4_read_18 : decode cX4_read 18 = .ok (.aload_n 0, 1) := by decide +kernel
theorem dX4_read_19 : decode cX4_read 19 = .ok (.iconst 0, 1) := by decide +kernel
theorem dX4_read_20 : decode cX4_read 20 = .ok (.putfield 22, 3) := by decide +kernel
theorem dX4_read_23 : decode cX4_read 23 = .ok (.aload_n 0, 1) := by decide +kernel
theorem dX4_read_24 : decode cX4_read 24 = .ok (.getfield 12, 3) := by decide +kernel
theorem dX4_read_27 : decode cX4_read 27 = .ok (.invokevirtual 47, 3) := by decide +kernel
theorem dX4_read_30 : decode cX4_read 30 = .ok (.iconst 0, 1) := by decide +kernel
theorem dX4_read_31 : decode cX4_read 31 = .ok (.istore_n 2, 1) := by decide +kernel
theorem dX4_read_32 : decode cX4_read 32 = .ok (.aload_n 0, 1) := by decide +kernel
theorem dX4_read_33 : decode cX4_read 33 = .ok (.invokevirtual 50, 3) := by decide +kernel
theorem dX4_read_36 : decode cX4_read 36 = .ok (.aload_n 0, 1) := by decide +kernel
theorem dX4_read_37 : decode cX4_read 37 = .ok (.getfield 22, 3) := by decide +kernel
theorem dX4_read_40 : decode cX4_read 40 = .ok (.ifCond .ne 41, 3) := by decide +kernel
theorem dX4_read_43 : decode cX4_read 43 = .ok (.aload_n 0, 1) := by decide +kernel
theorem dX4_read_44 : decode cX4_read 44 = .ok (.getfield 31, 3) := by decide +kernel
theorem dX4_read_47 : decode cX4_read 47 = .ok (.iconst 1, 1) := by decide +kernel
theorem dX4_read_48 : decode cX4_read 48 = .ok (.if_icmp .eq 33, 3) := by decide +kernel
theorem dX4_read_51 : decode cX4_read 51 = .ok (.iload_n 2, 1) := by decide +kernel
theorem dX4_read_52 : decode cX4_read 52 = .ok (.sipush 440, 3) := by decide +kernel
theorem dX4_read_55 : decode cX4_read 55 = .ok (.if_icmp .ge 26, 3) := by decide +kernel
theorem dX4_read_58 : decode cX4_read 58 = .ok (.aload_n 0, 1) := by decide +kernel
theorem dX4_read_59 : decode cX4_read 59 = .ok (.iload_n 2, 1) := by decide +kernel
theorem dX4_read_60 : decode cX4_read 60 = .ok (.ifCond .ne 7, 3) := by decide +kernel
theorem dX4_read_63 : decode cX4_read 63 = .ok (.iconst 1, 1) := by decide +kernel
theorem dX4_read_64 : decode cX4_read 64 = .ok (.goto 4, 3) := by decide +kernel
theorem dX4_read_67 : decode cX4_read 67 = .ok (.iconst 0, 1) := by decide +kernel
theorem dX4_read_68 : decode cX4_read 68 = .ok (.invokevirtual 53, 3) := by decide +kernel
theorem dX4_read_71 : decode cX4_read 71 = .ok (.iinc 2 1, 3) := by decide +kernel
theorem dX4_read_74 : decode cX4_read 74 = .ok (.aload_n 0, 1) := by decide +kernel
theorem dX4_read_75 : decode cX4_read 75 = .ok (.invokevirtual 50, 3) := by decide +kernel
theorem dX4_read_78 : decode cX4_read 78 = .ok (.goto (-42), 3) := by decide +kernel
theorem dX4_read_81 : decode cX4_read 81 = .ok (.aload_n 0, 1) := by decide +kernel
theorem dX4_read_82 : decode cX4_read 82 = .ok (.getfield 22, 3) := by decide +kernel
theorem dX4_read_85 : decode cX4_read 85 = .ok (.ifCond .ne 22, 3) := by decide +kernel
theorem dX4_read_88 : decode cX4_read 88 = .ok (.iload_n 2, 1) := by decide +kernel
theorem dX4_read_89 : decode cX4_read 89 = .ok (.ifCond .le 18, 3) := by decide +kernel
theorem dX4_read_92 : decode cX4_read 92 = .ok (.aload_n 0, 1) := by decide +kernel
theorem dX4_read_93 : decode cX4_read 93 = .ok (.getfield 12, 3) := by decide +kernel
theorem dX4_read_96 : decode cX4_read 96 = .ok (.getfield 57, 3) := by decide +kernel
theorem dX4_read_99 : decode cX4_read 99 = .ok (.ifCond .ne 8, 3) := by decide +kernel
theorem dX4_read_102 : decode cX4_read 102 = .ok (.aload_n 0, 1) := by decide +kernel
theorem dX4_read_103 : decode cX4_read 103 = .ok (.iconst 1, 1) := by decide +kernel
theorem dX4_read_104 : decode cX4_read 104 = .ok (.invokevirtual 60, 3) := by decide +kernel
theorem dX4_read_107 : decode cX4_read 107 = .ok (.aload_n 0, 1) := by decide +kernel
theorem dX4_read_108 : decode cX4_read 108 = .ok (.getfield 22, 3) := by decide +kernel
theorem dX4_read_111 : decode cX4_read 111 = .ok (.ifCond .ne 7, 3) := by decide +kernel
theorem dX4_read_114 : decode cX4_read 114 = .ok (.iload_n 2, 1) := by decide +kernel
theorem dX4_read_115 : decode cX4_read 115 = .ok (.goto 9, 3) := by decide +kernel
theorem dX4_read_118 : decode cX4_read 118 = .ok (.iconst (-1), 1) := by decide +kernel
theorem dX4_read_119 : decode cX4_read 119 = .ok (.aload_n 0, 1) := by decide +kernel
theorem dX4_read_120 : decode cX4_read 120 = .ok (.getfield 25, 3) := by decide +kernel
theorem dX4_read_123 : decode cX4_read 123 = .ok (.isub, 1) := by decide +kernel
theorem dX4_read_124 : decode cX4_read 124 = .ok (.ireturn, 1) := by decide +kernel
theorem dX4_fail_0 : decode cX4_fail 0 = .ok (.aload_n 0, 1) := by decide +kernel
theorem dX4_fail_1 : decode cX4_fail 1 = .ok (.getfield 22, 3) := by decide +kernel
theorem dX4_fail_4 : decode cX4_fail 4 = .ok (.ifCond .ne 16, 3) := by decide +kernel
theorem dX4_fail_7 : decode cX4_fail 7 = .ok (.aload_n 0, 1) := by decide +kernel
theorem dX4_fail_8 : decode cX4_fail 8 = .ok (.iload_n 1, 1) := by decide +kernel
theorem dX4_fail_9 : decode cX4_fail 9 = .ok (.putfield 22, 3) := by decide +kernel
theorem dX4_fail_12 : decode cX4_fail 12 = .ok (.aload_n 0, 1) := by decide +kernel
theorem dX4_fail_13 : decode cX4_fail 13 = .ok (.aload_n 0, 1) := by decide +kernel
theorem dX4_fail_14 : decode cX4_fail 14 = .ok (.getfield 34, 3) := by decide +kernel
theorem dX4_fail_17 : decode cX4_fail 17 = .ok (.putfield 25, 3) := by decide +kernel
theorem dX4_fail_20 : decode cX4_fail 20 = .ok (.return_, 1) := by decide +kernel
theorem dX4_readLine_0 : decode cX4_readLine 0 = .ok (.iload_n 1, 1) := by decide +kernel
theorem dX4_readLine_1 : decode cX4_readLine 1 = .ok (.ifCond .eq 27, 3) := by decide +kernel
theorem dX4_readLine_4 : decode cX4_readLine 4 = .ok (.aload_n 0, 1) := by decide +kernel
theorem dX4_readLine_5 : decode cX4_readLine 5 = .ok (.ldc 64, 2) := by decide +kernel
theorem dX4_readLine_7 : decode cX4_readLine 7 = .ok (.invokevirtual 66, 3) := by decide +kernel
theorem dX4_readLine_10 : decode cX4_readLine 10 = .ok (.ifCond .eq 10, 3) := by decide +kernel
theorem dX4_readLine_13 : decode cX4_readLine 13 = .ok (.aload_n 0, 1) := by decide +kernel
theorem dX4_readLine_14 : decode cX4_readLine 14 = .ok (.invokevirtual 70, 3) := by decide +kernel
theorem dX4_readLine_17 : decode cX4_readLine 17 = .ok (.goto 64, 3) := by decide +kernel
theorem dX4_readLine_20 : decode cX4_readLine 20 = .ok (.aload_n 0, 1) := by decide +kernel
theorem dX4_readLine_21 : decode cX4_readLine 21 = .ok (.iconst 1, 1) := by decide +kernel
theorem dX4_readLine_22 : decode cX4_readLine 22 = .ok (.invokevirtual 60, 3) := by decide +kernel
theorem dX4_readLine_25 : decode cX4_readLine 25 = .ok (.goto 56, 3) := by decide +kernel
theorem dX4_readLine_28 : decode cX4_readLine 28 = .ok (.aload_n 0, 1) := by decide +kernel
theorem dX4_readLine_29 : decode cX4_readLine 29 = .ok (.ldc 73, 2) := by decide +kernel
theorem dX4_readLine_31 : decode cX4_readLine 31 = .ok (.invokevirtual 66, 3) := by decide +kernel
theorem dX4_readLine_34 : decode cX4_readLine 34 = .ok (.ifCond .eq 10, 3) := by decide +kernel
theorem dX4_readLine_37 : decode cX4_readLine 37 = .ok (.aload_n 0, 1) := by decide +kernel
theorem dX4_readLine_38 : decode cX4_readLine 38 = .ok (.invokevirtual 75, 3) := by decide +kernel
theorem dX4_readLine_41 : decode cX4_readLine 41 = .ok (.goto 40, 3) := by decide +kernel
theorem dX4_readLine_44 : decode cX4_readLine 44 = .ok (.aload_n 0, 1) := by decide +kernel
theorem dX4_readLine_45 : decode cX4_readLine 45 = .ok (.ldc 78, 2) := by decide +kernel
theorem dX4_readLine_47 : decode cX4_readLine 47 = .ok (.invokevirtual 66, 3) := by decide +kernel
theorem dX4_readLine_50 : decode cX4_readLine 50 = .ok (.ifCond .eq 10, 3) := by decide +kernel
theorem dX4_readLine_53 : decode cX4_readLine 53 = .ok (.aload_n 0, 1) := by decide +kernel
theorem dX4_readLine_54 : decode cX4_readLine 54 = .ok (.invokevirtual 80, 3) := by decide +kernel
theorem dX4_readLine_57 : decode cX4_readLine 57 = .ok (.goto 24, 3) := by decide +kernel
theorem dX4_readLine_60 : decode cX4_readLine 60 = .ok (.aload_n 0, 1) := by decide +kernel
theorem dX4_readLine_61 : decode cX4_readLine 61 = .ok (.ldc 83, 2) := by decide +kernel
theorem dX4_readLine_63 : decode cX4_readLine 63 = .ok (.invokevirtual 66, 3) := by decide +kernel
theorem dX4_readLine_66 : decode cX4_readLine 66 = .ok (.ifCond .eq 10, 3) := by decide +kernel
theorem dX4_readLine_69 : decode cX4_readLine 69 = .ok (.aload_n 0, 1) := by decide +kernel
theorem dX4_readLine_70 : decode cX4_readLine 70 = .ok (.invokevirtual 85, 3) := by decide +kernel
theorem dX4_readLine_73 : decode cX4_readLine 73 = .ok (.goto 8, 3) := by decide +kernel
theorem dX4_readLine_76 : decode cX4_readLine 76 = .ok (.aload_n 0, 1) := by decide +kernel
theorem dX4_readLine_77 : decode cX4_readLine 77 = .ok (.iconst 1, 1) := by decide +kernel
theorem dX4_readLine_78 : decode cX4_readLine 78 = .ok (.invokevirtual 60, 3) := by decide +kernel
theorem dX4_readLine_81 : decode cX4_readLine 81 = .ok (.return_, 1) := by decide +kernel
theorem dX4_readWorks_0 : decode cX4_readWorks 0 = .ok (.aload_n 0, 1) := by decide +kernel
theorem dX4_readWorks_1 : decode cX4_readWorks 1 = .ok (.iconst 1, 1) := by decide +kernel
theorem dX4_readWorks_2 : decode cX4_readWorks 2 = .ok (.bipush 20, 2) := by decide +kernel
theorem dX4_readWorks_4 : decode cX4_readWorks 4 = .ok (.invokevirtual 88, 3) := by decide +kernel
theorem dX4_readWorks_7 : decode cX4_readWorks 7 = .ok (.istore_n 1, 1) := by decide +kernel
theorem dX4_readWorks_8 : decode cX4_readWorks 8 = .ok (.aload_n 0, 1) := by decide +kernel
theorem dX4_readWorks_9 : decode cX4_readWorks 9 = .ok (.invokevirtual 91, 3) := by decide +kernel
theorem dX4_readWorks_12 : decode cX4_readWorks 12 = .ok (.aload_n 0, 1) := by decide +kernel
theorem dX4_readWorks_13 : decode cX4_readWorks 13 = .ok (.getfield 22, 3) := by decide +kernel
theorem dX4_readWorks_16 : decode cX4_readWorks 16 = .ok (.ifCond .ne 13, 3) := by decide +kernel
theorem dX4_readWorks_19 : decode cX4_readWorks 19 = .ok (.aload_n 0, 1) := by decide +kernel
theorem dX4_readWorks_20 : decode cX4_readWorks 20 = .ok (.getfield 12, 3) := by decide +kernel
theorem dX4_readWorks_23 : decode cX4_readWorks 23 = .ok (.iconst 0, 1) := by decide +kernel
theorem dX4_readWorks_24 : decode cX4_readWorks 24 = .ok (.iconst 0, 1) := by decide +kernel
theorem dX4_readWorks_25 : decode cX4_readWorks 25 = .ok (.iload_n 1, 1) := by decide +kernel
theorem dX4_readWorks_26 : decode cX4_readWorks 26 = .ok (.invokevirtual 94, 3) := by decide +kernel
theorem dX4_readWorks_29 : decode cX4_readWorks 29 = .ok (.return_, 1) := by decide +kernel
theorem dX4_readStation_0 : decode cX4_readStation 0 = .ok (.aload_n 0, 1) := by decide +kernel
theorem dX4_readStation_1 : decode cX4_readStation 1 = .ok (.getfield 12, 3) := by decide +kernel
theorem dX4_readStation_4 : decode cX4_readStation 4 = .ok (.getfield 57, 3) := by decide +kernel
theorem dX4_readStation_7 : decode cX4_readStation 7 = .ok (.bipush 6, 2) := by decide +kernel
theorem dX4_readStation_9 : decode cX4_readStation 9 = .ok (.if_icmp .lt 8, 3) := by decide +kernel
theorem dX4_readStation_12 : decode cX4_readStation 12 = .ok (.aload_n 0, 1) := by decide +kernel
theorem dX4_readStation_13 : decode cX4_readStation 13 = .ok (.iconst 3, 1) := by decide +kernel
theorem dX4_readStation_14 : decode cX4_readStation 14 = .ok (.invokevirtual 60, 3) := by decide +kernel
theorem dX4_readStation_17 : decode cX4_readStation 17 = .ok (.aload_n 0, 1) := by decide +kernel
theorem dX4_readStation_18 : decode cX4_readStation 18 = .ok (.iconst 1, 1) := by decide +kernel
theorem dX4_readStation_19 : decode cX4_readStation 19 = .ok (.bipush 60, 2) := by decide +kernel
theorem dX4_readStation_21 : decode cX4_readStation 21 = .ok (.invokevirtual 88, 3) := by decide +kernel
theorem dX4_readStation_24 : decode cX4_readStation 24 = .ok (.istore_n 1, 1) := by decide +kernel
theorem dX4_readStation_25 : decode cX4_readStation 25 = .ok (.aload_n 0, 1) := by decide +kernel
theorem dX4_readStation_26 : decode cX4_readStation 26 = .ok (.iconst 0, 1) := by decide +kernel
theorem dX4_readStation_27 : decode cX4_readStation 27 = .ok (.bipush 60, 2) := by decide +kernel
theorem dX4_readStation_29 : decode cX4_readStation 29 = .ok (.invokevirtual 88, 3) := by decide +kernel
theorem dX4_readStation_32 : decode cX4_readStation 32 = .ok (.istore_n 2, 1) := by decide +kernel
theorem dX4_readStation_33 : decode cX4_readStation 33 = .ok (.aload_n 0, 1) := by decide +kernel
theorem dX4_readStation_34 : decode cX4_readStation 34 = .ok (.invokevirtual 91, 3) := by decide +kernel
theorem dX4_readStation_37 : decode cX4_readStation 37 = .ok (.aload_n 0, 1) := by decide +kernel
theorem dX4_readStation_38 : decode cX4_readStation 38 = .ok (.getfield 22, 3) := by decide +kernel
theorem dX4_readStation_41 : decode cX4_readStation 41 = .ok (.ifCond .ne 12, 3) := by decide +kernel
theorem dX4_readStation_44 : decode cX4_readStation 44 = .ok (.aload_n 0, 1) := by decide +kernel
theorem dX4_readStation_45 : decode cX4_readStation 45 = .ok (.getfield 12, 3) := by decide +kernel
theorem dX4_readStation_48 : decode cX4_readStation 48 = .ok (.iload_n 1, 1) := by decide +kernel
theorem dX4_readStation_49 : decode cX4_readStation 49 = .ok (.iload_n 2, 1) := by decide +kernel
theorem dX4_readStation_50 : decode cX4_readStation 50 = .ok (.invokevirtual 98, 3) := by decide +kernel
theorem dX4_readStation_53 : decode cX4_readStation 53 = .ok (.return_, 1) := by decide +kernel
theorem dX4_readLoop_0 : decode cX4_readLoop 0 = .ok (.aload_n 0, 1) := by decide +kernel
theorem dX4_readLoop_1 : decode cX4_readLoop 1 = .ok (.getfield 12, 3) := by decide +kernel
theorem dX4_readLoop_4 : decode cX4_readLoop 4 = .ok (.getfield 102, 3) := by decide +kernel
theorem dX4_readLoop_7 : decode cX4_readLoop 7 = .ok (.iconst 5, 1) := by decide +kernel
theorem dX4_readLoop_8 : decode cX4_readLoop 8 = .ok (.if_icmp .lt 8, 3) := by decide +kernel
theorem dX4_readLoop_11 : decode cX4_readLoop 11 = .ok (.aload_n 0, 1) := by decide +kernel
theorem dX4_readLoop_12 : decode cX4_readLoop 12 = .ok (.iconst 3, 1) := by decide +kernel
theorem dX4_readLoop_13 : decode cX4_readLoop 13 = .ok (.invokevirtual 60, 3) := by decide +kernel
theorem dX4_readLoop_16 : decode cX4_readLoop 16 = .ok (.aload_n 0, 1) := by decide +kernel
theorem dX4_readLoop_17 : decode cX4_readLoop 17 = .ok (.iconst 0, 1) := by decide +kernel
theorem dX4_readLoop_18 : decode cX4_readLoop 18 = .ok (.aload_n 0, 1) := by decide +kernel
theorem dX4_readLoop_19 : decode cX4_readLoop 19 = .ok (.getfield 12, 3) := by decide +kernel
theorem dX4_readLoop_22 : decode cX4_readLoop 22 = .ok (.getfield 57, 3) := by decide +kernel
theorem dX4_readLoop_25 : decode cX4_readLoop 25 = .ok (.iconst 1, 1) := by decide +kernel
theorem dX4_readLoop_26 : decode cX4_readLoop 26 = .ok (.isub, 1) := by decide +kernel
theorem dX4_readLoop_27 : decode cX4_readLoop 27 = .ok (.invokevirtual 88, 3) := by decide +kernel
theorem dX4_readLoop_30 : decode cX4_readLoop 30 = .ok (.istore_n 1, 1) := by decide +kernel
theorem dX4_readLoop_31 : decode cX4_readLoop 31 = .ok (.aload_n 0, 1) := by decide +kernel
theorem dX4_readLoop_32 : decode cX4_readLoop 32 = .ok (.iload_n 1, 1) := by decide +kernel
theorem dX4_readLoop_33 : decode cX4_readLoop 33 = .ok (.aload_n 0, 1) := by decide +kernel
theorem dX4_readLoop_34 : decode cX4_readLoop 34 = .ok (.getfield 12, 3) := by decide +kernel
theorem dX4_readLoop_37 : decode cX4_readLoop 37 = .ok (.getfield 57, 3) := by decide +kernel
theorem dX4_readLoop_40 : decode cX4_readLoop 40 = .ok (.iconst 1, 1) := by decide +kernel
theorem dX4_readLoop_41 : decode cX4_readLoop 41 = .ok (.isub, 1) := by decide +kernel
theorem dX4_readLoop_42 : decode cX4_readLoop 42 = .ok (.invokevirtual 88, 3) := by decide +kernel
theorem dX4_readLoop_45 : decode cX4_readLoop 45 = .ok (.istore_n 2, 1) := by decide +kernel
theorem dX4_readLoop_46 : decode cX4_readLoop 46 = .ok (.aload_n 0, 1) := by decide +kernel
theorem dX4_readLoop_47 : decode cX4_readLoop 47 = .ok (.iconst 1, 1) := by decide +kernel
theorem dX4_readLoop_48 : decode cX4_readLoop 48 = .ok (.bipush 20, 2) := by decide +kernel
theorem dX4_readLoop_50 : decode cX4_readLoop 50 = .ok (.invokevirtual 88, 3) := by decide +kernel
theorem dX4_readLoop_53 : decode cX4_readLoop 53 = .ok (.istore_n 3, 1) := by decide +kernel
theorem dX4_readLoop_54 : decode cX4_readLoop 54 = .ok (.aload_n 0, 1) := by decide +kernel
theorem dX4_readLoop_55 : decode cX4_readLoop 55 = .ok (.invokevirtual 91, 3) := by decide +kernel
theorem dX4_readLoop_58 : decode cX4_readLoop 58 = .ok (.aload_n 0, 1) := by decide +kernel
theorem dX4_readLoop_59 : decode cX4_readLoop 59 = .ok (.getfield 22, 3) := by decide +kernel
theorem dX4_readLoop_62 : decode cX4_readLoop 62 = .ok (.ifCond .ne 13, 3) := by decide +kernel
theorem dX4_readLoop_65 : decode cX4_readLoop 65 = .ok (.aload_n 0, 1) := by decide +kernel
theorem dX4_readLoop_66 : decode cX4_readLoop 66 = .ok (.getfield 12, 3) := by decide +kernel
theorem dX4_readLoop_69 : decode cX4_readLoop 69 = .ok (.iload_n 1, 1) := by decide +kernel
theorem dX4_readLoop_70 : decode cX4_readLoop 70 = .ok (.iload_n 2, 1) := by decide +kernel
theorem dX4_readLoop_71 : decode cX4_readLoop 71 = .ok (.iload_n 3, 1) := by decide +kernel
theorem dX4_readLoop_72 : decode cX4_readLoop 72 = .ok (.invokevirtual 94, 3) := by decide +kernel
theorem dX4_readLoop_75 : decode cX4_readLoop 75 = .ok (.return_, 1) := by decide +kernel
theorem dX4_readRun_0 : decode cX4_readRun 0 = .ok (.aload_n 0, 1) := by decide +kernel
theorem dX4_readRun_1 : decode cX4_readRun 1 = .ok (.getfield 12, 3) := by decide +kernel
theorem dX4_readRun_4 : decode cX4_readRun 4 = .ok (.getfield 105, 3) := by decide +kernel
theorem dX4_readRun_7 : decode cX4_readRun 7 = .ok (.bipush 6, 2) := by decide +kernel
theorem dX4_readRun_9 : decode cX4_readRun 9 = .ok (.if_icmp .lt 8, 3) := by decide +kernel
theorem dX4_readRun_12 : decode cX4_readRun 12 = .ok (.aload_n 0, 1) := by decide +kernel
theorem dX4_readRun_13 : decode cX4_readRun 13 = .ok (.iconst 3, 1) := by decide +kernel
theorem dX4_readRun_14 : decode cX4_readRun 14 = .ok (.invokevirtual 60, 3) := by decide +kernel
theorem dX4_readRun_17 : decode cX4_readRun 17 = .ok (.aload_n 0, 1) := by decide +kernel
theorem dX4_readRun_18 : decode cX4_readRun 18 = .ok (.iconst 0, 1) := by decide +kernel
theorem dX4_readRun_19 : decode cX4_readRun 19 = .ok (.iconst 3, 1) := by decide +kernel
theorem dX4_readRun_20 : decode cX4_readRun 20 = .ok (.invokevirtual 88, 3) := by decide +kernel
theorem dX4_readRun_23 : decode cX4_readRun 23 = .ok (.istore_n 1, 1) := by decide +kernel
theorem dX4_readRun_24 : decode cX4_readRun 24 = .ok (.aload_n 0, 1) := by decide +kernel
theorem dX4_readRun_25 : decode cX4_readRun 25 = .ok (.iconst 1, 1) := by decide +kernel
theorem dX4_readRun_26 : decode cX4_readRun 26 = .ok (.bipush 20, 2) := by decide +kernel
theorem dX4_readRun_28 : decode cX4_readRun 28 = .ok (.invokevirtual 88, 3) := by decide +kernel
theorem dX4_readRun_31 : decode cX4_readRun 31 = .ok (.istore_n 2, 1) := by decide +kernel
theorem dX4_readRun_32 : decode cX4_readRun 32 = .ok (.aload_n 0, 1) := by decide +kernel
theorem dX4_readRun_33 : decode cX4_readRun 33 = .ok (.invokevirtual 91, 3) := by decide +kernel
theorem dX4_readRun_36 : decode cX4_readRun 36 = .ok (.aload_n 0, 1) := by decide +kernel
theorem dX4_readRun_37 : decode cX4_readRun 37 = .ok (.getfield 22, 3) := by decide +kernel
theorem dX4_readRun_40 : decode cX4_readRun 40 = .ok (.ifCond .ne 12, 3) := by decide +kernel
theorem dX4_readRun_43 : decode cX4_readRun 43 = .ok (.aload_n 0, 1) := by decide +kernel
theorem dX4_readRun_44 : decode cX4_readRun 44 = .ok (.getfield 12, 3) := by decide +kernel
theorem dX4_readRun_47 : decode cX4_readRun 47 = .ok (.iload_n 1, 1) := by decide +kernel
theorem dX4_readRun_48 : decode cX4_readRun 48 = .ok (.iload_n 2, 1) := by decide +kernel
theorem dX4_readRun_49 : decode cX4_readRun 49 = .ok (.invokevirtual 108, 3) := by decide +kernel
theorem dX4_readRun_52 : decode cX4_readRun 52 = .ok (.return_, 1) := by decide +kernel
theorem dX4_readNumber_0 : decode cX4_readNumber 0 = .ok (.aload_n 0, 1) := by decide +kernel
theorem dX4_readNumber_1 : decode cX4_readNumber 1 = .ok (.invokevirtual 50, 3) := by decide +kernel
theorem dX4_readNumber_4 : decode cX4_readNumber 4 = .ok (.aload_n 0, 1) := by decide +kernel
theorem dX4_readNumber_5 : decode cX4_readNumber 5 = .ok (.getfield 31, 3) := by decide +kernel
theorem dX4_readNumber_8 : decode cX4_readNumber 8 = .ok (.iconst 3, 1) := by decide +kernel
theorem dX4_readNumber_9 : decode cX4_readNumber 9 = .ok (.if_icmp .eq 10, 3) := by decide +kernel
theorem dX4_readNumber_12 : decode cX4_readNumber 12 = .ok (.aload_n 0, 1) := by decide +kernel
theorem dX4_readNumber_13 : decode cX4_readNumber 13 = .ok (.iconst 1, 1) := by decide +kernel
theorem dX4_readNumber_14 : decode cX4_readNumber 14 = .ok (.invokevirtual 60, 3) := by decide +kernel
theorem dX4_readNumber_17 : decode cX4_readNumber 17 = .ok (.iload_n 1, 1) := by decide +kernel
theorem dX4_readNumber_18 : decode cX4_readNumber 18 = .ok (.ireturn, 1) := by decide +kernel
theorem dX4_readNumber_19 : decode cX4_readNumber 19 = .ok (.iconst 0, 1) := by decide +kernel
theorem dX4_readNumber_20 : decode cX4_readNumber 20 = .ok (.istore_n 3, 1) := by decide +kernel
theorem dX4_readNumber_21 : decode cX4_readNumber 21 = .ok (.aload_n 0, 1) := by decide +kernel
theorem dX4_readNumber_22 : decode cX4_readNumber 22 = .ok (.getfield 34, 3) := by decide +kernel
theorem dX4_readNumber_25 : decode cX4_readNumber 25 = .ok (.istore 4, 2) := by decide +kernel
theorem dX4_readNumber_27 : decode cX4_readNumber 27 = .ok (.iload 4, 2) := by decide +kernel
theorem dX4_readNumber_29 : decode cX4_readNumber 29 = .ok (.aload_n 0, 1) := by decide +kernel
theorem dX4_readNumber_30 : decode cX4_readNumber 30 = .ok (.getfield 28, 3) := by decide +kernel
theorem dX4_readNumber_33 : decode cX4_readNumber 33 = .ok (.if_icmp .ge 25, 3) := by decide +kernel
theorem dX4_readNumber_36 : decode cX4_readNumber 36 = .ok (.iload_n 3, 1) := by decide +kernel
theorem dX4_readNumber_37 : decode cX4_readNumber 37 = .ok (.bipush 10, 2) := by decide +kernel
theorem dX4_readNumber_39 : decode cX4_readNumber 39 = .ok (.imul, 1) := by decide +kernel
theorem dX4_readNumber_40 : decode cX4_readNumber 40 = .ok (.aload_n 0, 1) := by decide +kernel
theorem dX4_readNumber_41 : decode cX4_readNumber 41 = .ok (.getfield 37, 3) := by decide +kernel
theorem dX4_readNumber_44 : decode cX4_readNumber 44 = .ok (.iload 4, 2) := by decide +kernel
theorem dX4_readNumber_46 : decode cX4_readNumber 46 = .ok (.iaload, 1) := by decide +kernel
theorem dX4_readNumber_47 : decode cX4_readNumber 47 = .ok (.iadd, 1) := by decide +kernel
theorem dX4_readNumber_48 : decode cX4_readNumber 48 = .ok (.bipush 48, 2) := by decide +kernel
theorem dX4_readNumber_50 : decode cX4_readNumber 50 = .ok (.isub, 1) := by decide +kernel
theorem dX4_readNumber_51 : decode cX4_readNumber 51 = .ok (.istore_n 3, 1) := by decide +kernel
theorem dX4_readNumber_52 : decode cX4_readNumber 52 = .ok (.iinc 4 1, 3) := by decide +kernel
theorem dX4_readNumber_55 : decode cX4_readNumber 55 = .ok (.goto (-28), 3) := by decide +kernel
theorem dX4_readNumber_58 : decode cX4_readNumber 58 = .ok (.iload_n 3, 1) := by decide +kernel
theorem dX4_readNumber_59 : decode cX4_readNumber 59 = .ok (.iload_n 1, 1) := by decide +kernel
theorem dX4_readNumber_60 : decode cX4_readNumber 60 = .ok (.if_icmp .lt 8, 3) := by decide +kernel
theorem dX4_readNumber_63 : decode cX4_readNumber 63 = .ok (.iload_n 3, 1) := by decide +kernel
theorem dX4_readNumber_64 : decode cX4_readNumber 64 = .ok (.iload_n 2, 1) := by decide +kernel
theorem dX4_readNumber_65 : decode cX4_readNumber 65 = .ok (.if_icmp .le 8, 3) := by decide +kernel
theorem dX4_readNumber_68 : decode cX4_readNumber 68 = .ok (.aload_n 0, 1) := by decide +kernel
theorem dX4_readNumber_69 : decode cX4_readNumber 69 = .ok (.iconst 2, 1) := by decide +kernel
theorem dX4_readNumber_70 : decode cX4_readNumber 70 = .ok (.invokevirtual 60, 3) := by decide +kernel
theorem dX4_readNumber_73 : decode cX4_readNumber 73 = .ok (.iload_n 3, 1) := by decide +kernel
theorem dX4_readNumber_74 : decode cX4_readNumber 74 = .ok (.ireturn, 1) := by decide +kernel
theorem dX4_readSign_0 : decode cX4_readSign 0 = .ok (.aload_n 0, 1) := by decide +kernel
theorem dX4_readSign_1 : decode cX4_readSign 1 = .ok (.invokevirtual 50, 3) := by decide +kernel
theorem dX4_readSign_4 : decode cX4_readSign 4 = .ok (.aload_n 0, 1) := by decide +kernel
theorem dX4_readSign_5 : decode cX4_readSign 5 = .ok (.getfield 31, 3) := by decide +kernel
theorem dX4_readSign_8 : decode cX4_readSign 8 = .ok (.iconst 4, 1) := by decide +kernel
theorem dX4_readSign_9 : decode cX4_readSign 9 = .ok (.if_icmp .eq 8, 3) := by decide +kernel
theorem dX4_readSign_12 : decode cX4_readSign 12 = .ok (.aload_n 0, 1) := by decide +kernel
theorem dX4_readSign_13 : decode cX4_readSign 13 = .ok (.iconst 1, 1) := by decide +kernel
theorem dX4_readSign_14 : decode cX4_readSign 14 = .ok (.invokevirtual 60, 3) := by decide +kernel
theorem dX4_readSign_17 : decode cX4_readSign 17 = .ok (.return_, 1) := by decide +kernel
theorem dX4_readToken_0 : decode cX4_readToken 0 = .ok (.aload_n 0, 1) := by decide +kernel
theorem dX4_readToken_1 : decode cX4_readToken 1 = .ok (.getfield 28, 3) := by decide +kernel
theorem dX4_readToken_4 : decode cX4_readToken 4 = .ok (.aload_n 0, 1) := by decide +kernel
theorem dX4_readToken_5 : decode cX4_readToken 5 = .ok (.getfield 18, 3) := by decide +kernel
theorem dX4_readToken_8 : decode cX4_readToken 8 = .ok (.if_icmp .ge 31, 3) := by decide +kernel
theorem dX4_readToken_11 : decode cX4_readToken 11 = .ok (.aload_n 0, 1) := by decide +kernel
theorem dX4_readToken_12 : decode cX4_readToken 12 = .ok (.getfield 37, 3) := by decide +kernel
theorem dX4_readToken_15 : decode cX4_readToken 15 = .ok (.aload_n 0, 1) := by decide +kernel
theorem dX4_readToken_16 : decode cX4_readToken 16 = .ok (.getfield 28, 3) := by decide +kernel
theorem dX4_readToken_19 : decode cX4_readToken 19 = .ok (.iaload, 1) := by decide +kernel
theorem dX4_readToken_20 : decode cX4_readToken 20 = .ok (.invokestatic 111, 3) := by decide +kernel
theorem dX4_readToken_23 : decode cX4_readToken 23 = .ok (.ifCond .eq 16, 3) := by decide +kernel
theorem dX4_readToken_26 : decode cX4_readToken 26 = .ok (.aload_n 0, 1) := by decide +kernel
theorem dX4_readToken_27 : decode cX4_readToken 27 = .ok (.dup, 1) := by decide +kernel
theorem dX4_readToken_28 : decode cX4_readToken 28 = .ok (.getfield 28, 3) := by decide +kernel
theorem dX4_readToken_31 : decode cX4_readToken 31 = .ok (.iconst 1, 1) := by decide +kernel
theorem dX4_readToken_32 : decode cX4_readToken 32 = .ok (.iadd, 1) := by decide +kernel
theorem dX4_readToken_33 : decode cX4_readToken 33 = .ok (.putfield 28, 3) := by decide +kernel
theorem dX4_readToken_36 : decode cX4_readToken 36 = .ok (.goto (-36), 3) := by decide +kernel
theorem dX4_readToken_39 : decode cX4_readToken 39 = .ok (.aload_n 0, 1) := by decide +kernel
theorem dX4_readToken_40 : decode cX4_readToken 40 = .ok (.aload_n 0, 1) := by decide +kernel
theorem dX4_readToken_41 : decode cX4_readToken 41 = .ok (.getfield 28, 3) := by decide +kernel
theorem dX4_readToken_44 : decode cX4_readToken 44 = .ok (.putfield 34, 3) := by decide +kernel
theorem dX4_readToken_47 : decode cX4_readToken 47 = .ok (.aload_n 0, 1) := by decide +kernel
theorem dX4_readToken_48 : decode cX4_readToken 48 = .ok (.getfield 28, 3) := by decide +kernel
theorem dX4_readToken_51 : decode cX4_readToken 51 = .ok (.sipush 400, 3) := by decide +kernel
theorem dX4_readToken_54 : decode cX4_readToken 54 = .ok (.if_icmp .lt 28, 3) := by decide +kernel
theorem dX4_readToken_57 : decode cX4_readToken 57 = .ok (.aload_n 0, 1) := by decide +kernel
theorem dX4_readToken_58 : decode cX4_readToken 58 = .ok (.getfield 18, 3) := by decide +kernel
theorem dX4_readToken_61 : decode cX4_readToken 61 = .ok (.sipush 400, 3) := by decide +kernel
theorem dX4_readToken_64 : decode cX4_readToken 64 = .ok (.if_icmp .le 18, 3) := by decide +kernel
theorem dX4_readToken_67 : decode cX4_readToken 67 = .ok (.aload_n 0, 1) := by decide +kernel
theorem dX4_readToken_68 : decode cX4_readToken 68 = .ok (.sipush 400, 3) := by decide +kernel
theorem dX4_readToken_71 : decode cX4_readToken 71 = .ok (.putfield 34, 3) := by decide +kernel
theorem dX4_readToken_74 : decode cX4_readToken 74 = .ok (.aload_n 0, 1) := by decide +kernel
theorem dX4_readToken_75 : decode cX4_readToken 75 = .ok (.iconst 0, 1) := by decide +kernel
theorem dX4_readToken_76 : decode cX4_readToken 76 = .ok (.putfield 31, 3) := by decide +kernel
theorem dX4_readToken_79 : decode cX4_readToken 79 = .ok (.goto 58, 3) := by decide +kernel
theorem dX4_readToken_82 : decode cX4_readToken 82 = .ok (.aload_n 0, 1) := by decide +kernel
theorem dX4_readToken_83 : decode cX4_readToken 83 = .ok (.getfield 28, 3) := by decide +kernel
theorem dX4_readToken_86 : decode cX4_readToken 86 = .ok (.aload_n 0, 1) := by decide +kernel
theorem dX4_readToken_87 : decode cX4_readToken 87 = .ok (.getfield 18, 3) := by decide +kernel
theorem dX4_readToken_90 : decode cX4_readToken 90 = .ok (.if_icmp .lt 11, 3) := by decide +kernel
theorem dX4_readToken_93 : decode cX4_readToken 93 = .ok (.aload_n 0, 1) := by decide +kernel
theorem dX4_readToken_94 : decode cX4_readToken 94 = .ok (.iconst 1, 1) := by decide +kernel
theorem dX4_readToken_95 : decode cX4_readToken 95 = .ok (.putfield 31, 3) := by decide +kernel
theorem dX4_readToken_98 : decode cX4_readToken 98 = .ok (.goto 39, 3) := by decide +kernel
theorem dX4_readToken_101 : decode cX4_readToken 101 = .ok (.aload_n 0, 1) := by decide +kernel
theorem dX4_readToken_102 : decode cX4_readToken 102 = .ok (.getfield 37, 3) := by decide +kernel
theorem dX4_readToken_105 : decode cX4_readToken 105 = .ok (.aload_n 0, 1) := by decide +kernel
theorem dX4_readToken_106 : decode cX4_readToken 106 = .ok (.getfield 28, 3) := by decide +kernel
theorem dX4_readToken_109 : decode cX4_readToken 109 = .ok (.iaload, 1) := by decide +kernel
theorem dX4_readToken_110 : decode cX4_readToken 110 = .ok (.bipush 59, 2) := by decide +kernel
theorem dX4_readToken_112 : decode cX4_readToken 112 = .ok (.if_icmp .ne 21, 3) := by decide +kernel
theorem dX4_readToken_115 : decode cX4_readToken 115 = .ok (.aload_n 0, 1) := by decide +kernel
theorem dX4_readToken_116 : decode cX4_readToken 116 = .ok (.dup, 1) := by decide +kernel
theorem dX4_readToken_117 : decode cX4_readToken 117 = .ok (.getfield 28, 3) := by decide +kernel
theorem dX4_readToken_120 : decode cX4_readToken 120 = .ok (.iconst 1, 1) := by decide +kernel
theorem dX4_readToken_121 : decode cX4_readToken 121 = .ok (.iadd, 1) := by decide +kernel
theorem dX4_readToken_122 : decode cX4_readToken 122 = .ok (.putfield 28, 3) := by decide +kernel
theorem dX4_readToken_125 : decode cX4_readToken 125 = .ok (.aload_n 0, 1) := by decide +kernel
theorem dX4_readToken_126 : decode cX4_readToken 126 = .ok (.iconst 4, 1) := by decide +kernel
theorem dX4_readToken_127 : decode cX4_readToken 127 = .ok (.putfield 31, 3) := by decide +kernel
theorem dX4_readToken_130 : decode cX4_readToken 130 = .ok (.goto 7, 3) := by decide +kernel
theorem dX4_readToken_133 : decode cX4_readToken 133 = .ok (.aload_n 0, 1) := by decide +kernel
theorem dX4_readToken_134 : decode cX4_readToken 134 = .ok (.invokevirtual 115, 3) := by decide +kernel
theorem dX4_readToken_137 : decode cX4_readToken 137 = .ok (.return_, 1) := by decide +kernel
theorem dX4_readLump_0 : decode cX4_readLump 0 = .ok (.iconst 0, 1) := by decide +kernel
theorem dX4_readLump_1 : decode cX4_readLump 1 = .ok (.istore_n 1, 1) := by decide +kernel
theorem dX4_readLump_2 : decode cX4_readLump 2 = .ok (.iconst 0, 1) := by decide +kernel
theorem dX4_readLump_3 : decode cX4_readLump 3 = .ok (.istore_n 2, 1) := by decide +kernel
theorem dX4_readLump_4 : decode cX4_readLump 4 = .ok (.aload_n 0, 1) := by decide +kernel
theorem dX4_readLump_5 : decode cX4_readLump 5 = .ok (.getfield 28, 3) := by decide +kernel
theorem dX4_readLump_8 : decode cX4_readLump 8 = .ok (.aload_n 0, 1) := by decide +kernel
theorem dX4_readLump_9 : decode cX4_readLump 9 = .ok (.getfield 18, 3) := by decide +kernel
theorem dX4_readLump_12 : decode cX4_readLump 12 = .ok (.if_icmp .ge 59, 3) := by decide +kernel
theorem dX4_readLump_15 : decode cX4_readLump 15 = .ok (.aload_n 0, 1) := by decide +kernel
theorem dX4_readLump_16 : decode cX4_readLump 16 = .ok (.getfield 37, 3) := by decide +kernel
theorem dX4_readLump_19 : decode cX4_readLump 19 = .ok (.aload_n 0, 1) := by decide +kernel
theorem dX4_readLump_20 : decode cX4_readLump 20 = .ok (.getfield 28, 3) := by decide +kernel
theorem dX4_readLump_23 : decode cX4_readLump 23 = .ok (.iaload, 1) := by decide +kernel
theorem dX4_readLump_24 : decode cX4_readLump 24 = .ok (.istore_n 3, 1) := by decide +kernel
theorem dX4_readLump_25 : decode cX4_readLump 25 = .ok (.iload_n 3, 1) := by decide +kernel
theorem dX4_readLump_26 : decode cX4_readLump 26 = .ok (.bipush 97, 2) := by decide +kernel
theorem dX4_readLump_28 : decode cX4_readLump 28 = .ok (.if_icmp .lt 15, 3) := by decide +kernel
theorem dX4_readLump_31 : decode cX4_readLump 31 = .ok (.iload_n 3, 1) := by decide +kernel
theorem dX4_readLump_32 : decode cX4_readLump 32 = .ok (.bipush 122, 2) := by decide +kernel
theorem dX4_readLump_34 : decode cX4_readLump 34 = .ok (.if_icmp .gt 9, 3) := by decide +kernel
theorem dX4_readLump_37 : decode cX4_readLump 37 = .ok (.iinc 1 1, 3) := by decide +kernel
theorem dX4_readLump_40 : decode cX4_readLump 40 = .ok (.goto 18, 3) := by decide +kernel
theorem dX4_readLump_43 : decode cX4_readLump 43 = .ok (.iload_n 3, 1) := by decide +kernel
theorem dX4_readLump_44 : decode cX4_readLump 44 = .ok (.bipush 48, 2) := by decide +kernel
theorem dX4_readLump_46 : decode cX4_readLump 46 = .ok (.if_icmp .lt 25, 3) := by decide +kernel
theorem dX4_readLump_49 : decode cX4_readLump 49 = .ok (.iload_n 3, 1) := by decide +kernel
theorem dX4_readLump_50 : decode cX4_readLump 50 = .ok (.bipush 57, 2) := by decide +kernel
theorem dX4_readLump_52 : decode cX4_readLump 52 = .ok (.if_icmp .gt 19, 3) := by decide +kernel
theorem dX4_readLump_55 : decode cX4_readLump 55 = .ok (.iinc 2 1, 3) := by decide +kernel
theorem dX4_readLump_58 : decode cX4_readLump 58 = .ok (.aload_n 0, 1) := by decide +kernel
theorem dX4_readLump_59 : decode cX4_readLump 59 = .ok (.dup, 1) := by decide +kernel
theorem dX4_readLump_60 : decode cX4_readLump 60 = .ok (.getfield 28, 3) := by decide +kernel
theorem dX4_readLump_63 : decode cX4_readLump 63 = .ok (.iconst 1, 1) := by decide +kernel
theorem dX4_readLump_64 : decode cX4_readLump 64 = .ok (.iadd, 1) := by decide +kernel
theorem dX4_readLump_65 : decode cX4_readLump 65 = .ok (.putfield 28, 3) := by decide +kernel
theorem dX4_readLump_68 : decode cX4_readLump 68 = .ok (.goto (-64), 3) := by decide +kernel
theorem dX4_readLump_71 : decode cX4_readLump 71 = .ok (.iload_n 2, 1) := by decide +kernel
theorem dX4_readLump_72 : decode cX4_readLump 72 = .ok (.ifCond .ne 15, 3) := by decide +kernel
theorem dX4_readLump_75 : decode cX4_readLump 75 = .ok (.iload_n 1, 1) := by decide +kernel
theorem dX4_readLump_76 : decode cX4_readLump 76 = .ok (.ifCond .le 11, 3) := by decide +kernel
theorem dX4_readLump_79 : decode cX4_readLump 79 = .ok (.aload_n 0, 1) := by decide +kernel
theorem dX4_readLump_80 : decode cX4_readLump 80 = .ok (.iconst 2, 1) := by decide +kernel
theorem dX4_readLump_81 : decode cX4_readLump 81 = .ok (.putfield 31, 3) := by decide +kernel
theorem dX4_readLump_84 : decode cX4_readLump 84 = .ok (.goto 29, 3) := by decide +kernel
theorem dX4_readLump_87 : decode cX4_readLump 87 = .ok (.iload_n 1, 1) := by decide +kernel
theorem dX4_readLump_88 : decode cX4_readLump 88 = .ok (.ifCond .ne 20, 3) := by decide +kernel
theorem dX4_readLump_91 : decode cX4_readLump 91 = .ok (.iload_n 2, 1) := by decide +kernel
theorem dX4_readLump_92 : decode cX4_readLump 92 = .ok (.ifCond .le 16, 3) := by decide +kernel
theorem dX4_readLump_95 : decode cX4_readLump 95 = .ok (.iload_n 2, 1) := by decide +kernel
theorem dX4_readLump_96 : decode cX4_readLump 96 = .ok (.iconst 2, 1) := by decide +kernel
theorem dX4_readLump_97 : decode cX4_readLump 97 = .ok (.if_icmp .gt 11, 3) := by decide +kernel
theorem dX4_readLump_100 : decode cX4_readLump 100 = .ok (.aload_n 0, 1) := by decide +kernel
theorem dX4_readLump_101 : decode cX4_readLump 101 = .ok (.iconst 3, 1) := by decide +kernel
theorem dX4_readLump_102 : decode cX4_readLump 102 = .ok (.putfield 31, 3) := by decide +kernel
theorem dX4_readLump_105 : decode cX4_readLump 105 = .ok (.goto 8, 3) := by decide +kernel
theorem dX4_readLump_108 : decode cX4_readLump 108 = .ok (.aload_n 0, 1) := by decide +kernel
theorem dX4_readLump_109 : decode cX4_readLump 109 = .ok (.iconst 0, 1) := by decide +kernel
theorem dX4_readLump_110 : decode cX4_readLump 110 = .ok (.putfield 31, 3) := by decide +kernel
theorem dX4_readLump_113 : decode cX4_readLump 113 = .ok (.return_, 1) := by decide +kernel
theorem dX4_isWord_0 : decode cX4_isWord 0 = .ok (.aload_n 0, 1) := by decide +kernel
theorem dX4_isWord_1 : decode cX4_isWord 1 = .ok (.getfield 31, 3) := by decide +kernel
theorem dX4_isWord_4 : decode cX4_isWord 4 = .ok (.iconst 2, 1) := by decide +kernel
theorem dX4_isWord_5 : decode cX4_isWord 5 = .ok (.if_icmp .ne 19, 3) := by decide +kernel
theorem dX4_isWord_8 : decode cX4_isWord 8 = .ok (.aload_n 0, 1) := by decide +kernel
theorem dX4_isWord_9 : decode cX4_isWord 9 = .ok (.getfield 28, 3) := by decide +kernel
theorem dX4_isWord_12 : decode cX4_isWord 12 = .ok (.aload_n 0, 1) := by decide +kernel
theorem dX4_isWord_13 : decode cX4_isWord 13 = .ok (.getfield 34, 3) := by decide +kernel
theorem dX4_isWord_16 : decode cX4_isWord 16 = .ok (.isub, 1) := by decide +kernel
theorem dX4_isWord_17 : decode cX4_isWord 17 = .ok (.aload_n 1, 1) := by decide +kernel
theorem dX4_isWord_18 : decode cX4_isWord 18 = .ok (.invokevirtual 118, 3) := by decide +kernel
theorem dX4_isWord_21 : decode cX4_isWord 21 = .ok (.if_icmp .eq 5, 3) := by decide +kernel
theorem dX4_isWord_24 : decode cX4_isWord 24 = .ok (.iconst 0, 1) := by decide +kernel
theorem dX4_isWord_25 : decode cX4_isWord 25 = .ok (.ireturn, 1) := by decide +kernel
theorem dX4_isWord_26 : decode cX4_isWord 26 = .ok (.iconst 0, 1) := by decide +kernel
theorem dX4_isWord_27 : decode cX4_isWord 27 = .ok (.istore_n 2, 1) := by decide +kernel
theorem dX4_isWord_28 : decode cX4_isWord 28 = .ok (.iload_n 2, 1) := by decide +kernel
theorem dX4_isWord_29 : decode cX4_isWord 29 = .ok (.aload_n 1, 1) := by decide +kernel
theorem dX4_isWord_30 : decode cX4_isWord 30 = .ok (.invokevirtual 118, 3) := by decide +kernel
theorem dX4_isWord_33 : decode cX4_isWord 33 = .ok (.if_icmp .ge 30, 3) := by decide +kernel
theorem dX4_isWord_36 : decode cX4_isWord 36 = .ok (.aload_n 0, 1) := by decide +kernel
theorem dX4_isWord_37 : decode cX4_isWord 37 = .ok (.getfield 37, 3) := by decide +kernel
theorem dX4_isWord_40 : decode cX4_isWord 40 = .ok (.aload_n 0, 1) := by decide +kernel
theorem dX4_isWord_41 : decode cX4_isWord 41 = .ok (.getfield 34, 3) := by decide +kernel
theorem dX4_isWord_44 : decode cX4_isWord 44 = .ok (.iload_n 2, 1) := by decide +kernel
theorem dX4_isWord_45 : decode cX4_isWord 45 = .ok (.iadd, 1) := by decide +kernel
theorem dX4_isWord_46 : decode cX4_isWord 46 = .ok (.iaload, 1) := by decide +kernel
theorem dX4_isWord_47 : decode cX4_isWord 47 = .ok (.aload_n 1, 1) := by decide +kernel
theorem dX4_isWord_48 : decode cX4_isWord 48 = .ok (.iload_n 2, 1) := by decide +kernel
theorem dX4_isWord_49 : decode cX4_isWord 49 = .ok (.invokevirtual 123, 3) := by decide +kernel
theorem dX4_isWord_52 : decode cX4_isWord 52 = .ok (.if_icmp .eq 5, 3) := by decide +kernel
theorem dX4_isWord_55 : decode cX4_isWord 55 = .ok (.iconst 0, 1) := by decide +kernel
theorem dX4_isWord_56 : decode cX4_isWord 56 = .ok (.ireturn, 1) := by decide +kernel
theorem dX4_isWord_57 : decode cX4_isWord 57 = .ok (.iinc 2 1, 3) := by decide +kernel
theorem dX4_isWord_60 : decode cX4_isWord 60 = .ok (.goto (-32), 3) := by decide +kernel
theorem dX4_isWord_63 : decode cX4_isWord 63 = .ok (.iconst 1, 1) := by decide +kernel
theorem dX4_isWord_64 : decode cX4_isWord 64 = .ok (.ireturn, 1) := by decide +kernel
theorem dX4_isBlank_0 : decode cX4_isBlank 0 = .ok (.iload_n 0, 1) := by decide +kernel
theorem dX4_isBlank_1 : decode cX4_isBlank 1 = .ok (.bipush 32, 2) := by decide +kernel
theorem dX4_isBlank_3 : decode cX4_isBlank 3 = .ok (.if_icmp .eq 9, 3) := by decide +kernel
theorem dX4_isBlank_6 : decode cX4_isBlank 6 = .ok (.iload_n 0, 1) := by decide +kernel
theorem dX4_isBlank_7 : decode cX4_isBlank 7 = .ok (.bipush 10, 2) := by decide +kernel
theorem dX4_isBlank_9 : decode cX4_isBlank 9 = .ok (.if_icmp .ne 7, 3) := by decide +kernel
theorem dX4_isBlank_12 : decode cX4_isBlank 12 = .ok (.iconst 1, 1) := by decide +kernel
theorem dX4_isBlank_13 : decode cX4_isBlank 13 = .ok (.goto 4, 3) := by decide +kernel
theorem dX4_isBlank_16 : decode cX4_isBlank 16 = .ok (.iconst 0, 1) := by decide +kernel
theorem dX4_isBlank_17 : decode cX4_isBlank 17 = .ok (.ireturn, 1) := by decide +kernel
