/-! instructions of JMath JInteger JString JLatin JUtf JPre (written by wip/whole/gen_dec.py) -/
theorem e_JMath_min_0 : decode M_JMath_min.2.1 0 = .ok (.iload_n 0, 1) := by decide +kernel
theorem e_JMath_min_1 : decode M_JMath_min.2.1 1 = .ok (.iload_n 1, 1) := by decide +kernel
theorem e_JMath_min_2 : decode M_JMath_min.2.1 2 = .ok (.if_icmp .gt 7, 3) := by decide +kernel
theorem e_JMath_min_5 : decode M_JMath_min.2.1 5 = .ok (.iload_n 0, 1) := by decide +kernel
theorem e_JMath_min_6 : decode M_JMath_min.2.1 6 = .ok (.goto 4, 3) := by decide +kernel
theorem e_JMath_min_9 : decode M_JMath_min.2.1 9 = .ok (.iload_n 1, 1) := by decide +kernel
theorem e_JMath_min_10 : decode M_JMath_min.2.1 10 = .ok (.ireturn, 1) := by decide +kernel
theorem e_JMath_max_0 : decode M_JMath_max.2.1 0 = .ok (.iload_n 0, 1) := by decide +kernel
theorem e_JMath_max_1 : decode M_JMath_max.2.1 1 = .ok (.iload_n 1, 1) := by decide +kernel
theorem e_JMath_max_2 : decode M_JMath_max.2.1 2 = .ok (.if_icmp .lt 7, 3) := by decide +kernel
theorem e_JMath_max_5 : decode M_JMath_max.2.1 5 = .ok (.iload_n 0, 1) := by decide +kernel
theorem e_JMath_max_6 : decode M_JMath_max.2.1 6 = .ok (.goto 4, 3) := by decide +kernel
theorem e_JMath_max_9 : decode M_JMath_max.2.1 9 = .ok (.iload_n 1, 1) := by decide +kernel
theorem e_JMath_max_10 : decode M_JMath_max.2.1 10 = .ok (.ireturn, 1) := by decide +kernel
theorem e_JString_length_0 : decode M_JString_length.2.1 0 = .ok (.aload_n 0, 1) := by decide +kernel
theorem e_JString_length_1 : decode M_JString_length.2.1 1 = .ok (.getfield 9, 3) := by decide +kernel
theorem e_JString_length_4 : decode M_JString_length.2.1 4 = .ok (.arraylength, 1) := by decide +kernel
theorem e_JString_length_5 : decode M_JString_length.2.1 5 = .ok (.aload_n 0, 1) := by decide +kernel
theorem e_JString_length_6 : decode M_JString_length.2.1 6 = .ok (.invokevirtual 335, 3) := by decide +kernel
theorem e_JString_length_9 : decode M_JString_length.2.1 9 = .ok (.ishr, 1) := by decide +kernel
theorem e_JString_length_10 : decode M_JString_length.2.1 10 = .ok (.ireturn, 1) := by decide +kernel
theorem e_JString_coder_0 : decode M_JString_coder.2.1 0 = .ok (.getstatic 38, 3) := by decide +kernel
theorem e_JString_coder_3 : decode M_JString_coder.2.1 3 = .ok (.ifCond .eq 10, 3) := by decide +kernel
theorem e_JString_coder_6 : decode M_JString_coder.2.1 6 = .ok (.aload_n 0, 1) := by decide +kernel
theorem e_JString_coder_7 : decode M_JString_coder.2.1 7 = .ok (.getfield 15, 3) := by decide +kernel
theorem e_JString_coder_10 : decode M_JString_coder.2.1 10 = .ok (.goto 4, 3) := by decide +kernel
theorem e_JString_coder_13 : decode M_JString_coder.2.1 13 = .ok (.iconst 1, 1) := by decide +kernel
theorem e_JString_coder_14 : decode M_JString_coder.2.1 14 = .ok (.ireturn, 1) := by decide +kernel
theorem e_JString_charAt_0 : decode M_JString_charAt.2.1 0 = .ok (.aload_n 0, 1) := by decide +kernel
theorem e_JString_charAt_1 : decode M_JString_charAt.2.1 1 = .ok (.invokevirtual 492, 3) := by decide +kernel
theorem e_JString_charAt_4 : decode M_JString_charAt.2.1 4 = .ok (.ifCond .eq 12, 3) := by decide +kernel
theorem e_JString_charAt_7 : decode M_JString_charAt.2.1 7 = .ok (.aload_n 0, 1) := by decide +kernel
theorem e_JString_charAt_8 : decode M_JString_charAt.2.1 8 = .ok (.getfield 9, 3) := by decide +kernel
theorem e_JString_charAt_11 : decode M_JString_charAt.2.1 11 = .ok (.iload_n 1, 1) := by decide +kernel
theorem e_JString_charAt_12 : decode M_JString_charAt.2.1 12 = .ok (.invokestatic 495, 3) := by decide +kernel
theorem e_JString_charAt_15 : decode M_JString_charAt.2.1 15 = .ok (.ireturn, 1) := by decide +kernel
theorem e_JString_charAt_16 : decode M_JString_charAt.2.1 16 = .ok (.aload_n 0, 1) := by decide +kernel
theorem e_JString_charAt_17 : decode M_JString_charAt.2.1 17 = .ok (.getfield 9, 3) := by decide +kernel
theorem e_JString_charAt_20 : decode M_JString_charAt.2.1 20 = .ok (.iload_n 1, 1) := by decide +kernel
theorem e_JString_charAt_21 : decode M_JString_charAt.2.1 21 = .ok (.invokestatic 498, 3) := by decide +kernel
theorem e_JString_charAt_24 : decode M_JString_charAt.2.1 24 = .ok (.ireturn, 1) := by decide +kernel
theorem e_JString_isLatin1_0 : decode M_JString_isLatin1.2.1 0 = .ok (.getstatic 38, 3) := by decide +kernel
theorem e_JString_isLatin1_3 : decode M_JString_isLatin1.2.1 3 = .ok (.ifCond .eq 14, 3) := by decide +kernel
theorem e_JString_isLatin1_6 : decode M_JString_isLatin1.2.1 6 = .ok (.aload_n 0, 1) := by decide +kernel
theorem e_JString_isLatin1_7 : decode M_JString_isLatin1.2.1 7 = .ok (.getfield 15, 3) := by decide +kernel
theorem e_JString_isLatin1_10 : decode M_JString_isLatin1.2.1 10 = .ok (.ifCond .ne 7, 3) := by decide +kernel
theorem e_JString_isLatin1_13 : decode M_JString_isLatin1.2.1 13 = .ok (.iconst 1, 1) := by decide +kernel
theorem e_JString_isLatin1_14 : decode M_JString_isLatin1.2.1 14 = .ok (.goto 4, 3) := by decide +kernel
theorem e_JString_isLatin1_17 : decode M_JString_isLatin1.2.1 17 = .ok (.iconst 0, 1) := by decide +kernel
theorem e_JString_isLatin1_18 : decode M_JString_isLatin1.2.1 18 = .ok (.ireturn, 1) := by decide +kernel
theorem e_JLatin_charAt_0 : decode M_JLatin_charAt.2.1 0 = .ok (.iload_n 1, 1) := by decide +kernel
theorem e_JLatin_charAt_1 : decode M_JLatin_charAt.2.1 1 = .ok (.aload_n 0, 1) := by decide +kernel
theorem e_JLatin_charAt_2 : decode M_JLatin_charAt.2.1 2 = .ok (.arraylength, 1) := by decide +kernel
theorem e_JLatin_charAt_3 : decode M_JLatin_charAt.2.1 3 = .ok (.invokestatic 9, 3) := by decide +kernel
theorem e_JLatin_charAt_6 : decode M_JLatin_charAt.2.1 6 = .ok (.aload_n 0, 1) := by decide +kernel
theorem e_JLatin_charAt_7 : decode M_JLatin_charAt.2.1 7 = .ok (.iload_n 1, 1) := by decide +kernel
theorem e_JLatin_charAt_8 : decode M_JLatin_charAt.2.1 8 = .ok (.baload, 1) := by decide +kernel
theorem e_JLatin_charAt_9 : decode M_JLatin_charAt.2.1 9 = .ok (.sipush 255, 3) := by decide +kernel
theorem e_JLatin_charAt_12 : decode M_JLatin_charAt.2.1 12 = .ok (.iand, 1) := by decide +kernel
theorem e_JLatin_charAt_13 : decode M_JLatin_charAt.2.1 13 = .ok (.i2c, 1) := by decide +kernel
theorem e_JLatin_charAt_14 : decode M_JLatin_charAt.2.1 14 = .ok (.ireturn, 1) := by decide +kernel
theorem e_JString_checkIndex_0 : decode M_JString_checkIndex.2.1 0 = .ok (.iload_n 0, 1) := by decide +kernel
theorem e_JString_checkIndex_1 : decode M_JString_checkIndex.2.1 1 = .ok (.iload_n 1, 1) := by decide +kernel
theorem e_JString_checkIndex_2 : decode M_JString_checkIndex.2.1 2 = .ok (.getstatic 1053, 3) := by decide +kernel
theorem e_JString_checkIndex_5 : decode M_JString_checkIndex.2.1 5 = .ok (.invokestatic 1059, 3) := by decide +kernel
theorem e_JString_checkIndex_8 : decode M_JString_checkIndex.2.1 8 = .ok (.pop, 1) := by decide +kernel
theorem e_JString_checkIndex_9 : decode M_JString_checkIndex.2.1 9 = .ok (.return_, 1) := by decide +kernel
theorem e_JPre_checkIndex_0 : decode M_JPre_checkIndex.2.1 0 = .ok (.iload_n 0, 1) := by decide +kernel
theorem e_JPre_checkIndex_1 : decode M_JPre_checkIndex.2.1 1 = .ok (.ifCond .lt 8, 3) := by decide +kernel
theorem e_JPre_checkIndex_4 : decode M_JPre_checkIndex.2.1 4 = .ok (.iload_n 0, 1) := by decide +kernel
theorem e_JPre_checkIndex_5 : decode M_JPre_checkIndex.2.1 5 = .ok (.iload_n 1, 1) := by decide +kernel
theorem e_JPre_checkIndex_6 : decode M_JPre_checkIndex.2.1 6 = .ok (.if_icmp .lt 10, 3) := by decide +kernel
theorem e_JPre_checkIndex_9 : decode M_JPre_checkIndex.2.1 9 = .ok (.aload_n 2, 1) := by decide +kernel
theorem e_JPre_checkIndex_10 : decode M_JPre_checkIndex.2.1 10 = .ok (.iload_n 0, 1) := by decide +kernel
theorem e_JPre_checkIndex_11 : decode M_JPre_checkIndex.2.1 11 = .ok (.iload_n 1, 1) := by decide +kernel
theorem e_JPre_checkIndex_12 : decode M_JPre_checkIndex.2.1 12 = .ok (.invokestatic 95, 3) := by decide +kernel
theorem e_JPre_checkIndex_15 : decode M_JPre_checkIndex.2.1 15 = .ok (.athrow, 1) := by decide +kernel
theorem e_JPre_checkIndex_16 : decode M_JPre_checkIndex.2.1 16 = .ok (.iload_n 0, 1) := by decide +kernel
theorem e_JPre_checkIndex_17 : decode M_JPre_checkIndex.2.1 17 = .ok (.ireturn, 1) := by decide +kernel
theorem e_JUtf_charAt_0 : decode M_JUtf_charAt.2.1 0 = .ok (.iload_n 1, 1) := by decide +kernel
theorem e_JUtf_charAt_1 : decode M_JUtf_charAt.2.1 1 = .ok (.aload_n 0, 1) := by decide +kernel
theorem e_JUtf_charAt_2 : decode M_JUtf_charAt.2.1 2 = .ok (.invokestatic 67, 3) := by decide +kernel
theorem e_JUtf_charAt_5 : decode M_JUtf_charAt.2.1 5 = .ok (.aload_n 0, 1) := by decide +kernel
theorem e_JUtf_charAt_6 : decode M_JUtf_charAt.2.1 6 = .ok (.iload_n 1, 1) := by decide +kernel
theorem e_JUtf_charAt_7 : decode M_JUtf_charAt.2.1 7 = .ok (.invokestatic 71, 3) := by decide +kernel
theorem e_JUtf_charAt_10 : decode M_JUtf_charAt.2.1 10 = .ok (.ireturn, 1) := by decide +kernel
theorem e_JUtf_checkIndex_0 : decode M_JUtf_checkIndex.2.1 0 = .ok (.iload_n 0, 1) := by decide +kernel
theorem e_JUtf_checkIndex_1 : decode M_JUtf_checkIndex.2.1 1 = .ok (.aload_n 1, 1) := by decide +kernel
theorem e_JUtf_checkIndex_2 : decode M_JUtf_checkIndex.2.1 2 = .ok (.invokestatic 48, 3) := by decide +kernel
theorem e_JUtf_checkIndex_5 : decode M_JUtf_checkIndex.2.1 5 = .ok (.invokestatic 414, 3) := by decide +kernel
theorem e_JUtf_checkIndex_8 : decode M_JUtf_checkIndex.2.1 8 = .ok (.return_, 1) := by decide +kernel
theorem e_JUtf_length_0 : decode M_JUtf_length.2.1 0 = .ok (.aload_n 0, 1) := by decide +kernel
theorem e_JUtf_length_1 : decode M_JUtf_length.2.1 1 = .ok (.arraylength, 1) := by decide +kernel
theorem e_JUtf_length_2 : decode M_JUtf_length.2.1 2 = .ok (.iconst 1, 1) := by decide +kernel
theorem e_JUtf_length_3 : decode M_JUtf_length.2.1 3 = .ok (.ishr, 1) := by decide +kernel
theorem e_JUtf_length_4 : decode M_JUtf_length.2.1 4 = .ok (.ireturn, 1) := by decide +kernel
theorem e_JUtf_getChar_0 : decode M_JUtf_getChar.2.1 0 = .ok (.getstatic 44, 3) := by decide +kernel
theorem e_JUtf_getChar_3 : decode M_JUtf_getChar.2.1 3 = .ok (.ifCond .ne 25, 3) := by decide +kernel
theorem e_JUtf_getChar_6 : decode M_JUtf_getChar.2.1 6 = .ok (.iload_n 1, 1) := by decide +kernel
theorem e_JUtf_getChar_7 : decode M_JUtf_getChar.2.1 7 = .ok (.ifCond .lt 11, 3) := by decide +kernel
theorem e_JUtf_getChar_10 : decode M_JUtf_getChar.2.1 10 = .ok (.iload_n 1, 1) := by decide +kernel
theorem e_JUtf_getChar_11 : decode M_JUtf_getChar.2.1 11 = .ok (.aload_n 0, 1) := by decide +kernel
theorem e_JUtf_getChar_12 : decode M_JUtf_getChar.2.1 12 = .ok (.invokestatic 48, 3) := by decide +kernel
theorem e_JUtf_getChar_15 : decode M_JUtf_getChar.2.1 15 = .ok (.if_icmp .lt 13, 3) := by decide +kernel
theorem e_JUtf_getChar_18 : decode M_JUtf_getChar.2.1 18 = .ok (.new 52, 3) := by decide +kernel
theorem e_JUtf_getChar_21 : decode M_JUtf_getChar.2.1 21 = .ok (.dup, 1) := by decide +kernel
theorem e_JUtf_getChar_22 : decode M_JUtf_getChar.2.1 22 = .ok (.ldc 54, 2) := by decide +kernel
theorem e_JUtf_getChar_24 : decode M_JUtf_getChar.2.1 24 = .ok (.invokespecial 56, 3) := by decide +kernel
theorem e_JUtf_getChar_27 : decode M_JUtf_getChar.2.1 27 = .ok (.athrow, 1) := by decide +kernel
theorem e_JUtf_getChar_28 : decode M_JUtf_getChar.2.1 28 = .ok (.iload_n 1, 1) := by decide +kernel
theorem e_JUtf_getChar_29 : decode M_JUtf_getChar.2.1 29 = .ok (.iconst 1, 1) := by decide +kernel
theorem e_JUtf_getChar_30 : decode M_JUtf_getChar.2.1 30 = .ok (.ishl, 1) := by decide +kernel
theorem e_JUtf_getChar_31 : decode M_JUtf_getChar.2.1 31 = .ok (.istore_n 1, 1) := by decide +kernel
theorem e_JUtf_getChar_32 : decode M_JUtf_getChar.2.1 32 = .ok (.aload_n 0, 1) := by decide +kernel
theorem e_JUtf_getChar_33 : decode M_JUtf_getChar.2.1 33 = .ok (.iload_n 1, 1) := by decide +kernel
theorem e_JUtf_getChar_34 : decode M_JUtf_getChar.2.1 34 = .ok (.iinc 1 1, 3) := by decide +kernel
theorem e_JUtf_getChar_37 : decode M_JUtf_getChar.2.1 37 = .ok (.baload, 1) := by decide +kernel
theorem e_JUtf_getChar_38 : decode M_JUtf_getChar.2.1 38 = .ok (.sipush 255, 3) := by decide +kernel
theorem e_JUtf_getChar_41 : decode M_JUtf_getChar.2.1 41 = .ok (.iand, 1) := by decide +kernel
theorem e_JUtf_getChar_42 : decode M_JUtf_getChar.2.1 42 = .ok (.getstatic 59, 3) := by decide +kernel
theorem e_JUtf_getChar_45 : decode M_JUtf_getChar.2.1 45 = .ok (.ishl, 1) := by decide +kernel
theorem e_JUtf_getChar_46 : decode M_JUtf_getChar.2.1 46 = .ok (.aload_n 0, 1) := by decide +kernel
theorem e_JUtf_getChar_47 : decode M_JUtf_getChar.2.1 47 = .ok (.iload_n 1, 1) := by decide +kernel
theorem e_JUtf_getChar_48 : decode M_JUtf_getChar.2.1 48 = .ok (.baload, 1) := by decide +kernel
theorem e_JUtf_getChar_49 : decode M_JUtf_getChar.2.1 49 = .ok (.sipush 255, 3) := by decide +kernel
theorem e_JUtf_getChar_52 : decode M_JUtf_getChar.2.1 52 = .ok (.iand, 1) := by decide +kernel
theorem e_JUtf_getChar_53 : decode M_JUtf_getChar.2.1 53 = .ok (.getstatic 63, 3) := by decide +kernel
theorem e_JUtf_getChar_56 : decode M_JUtf_getChar.2.1 56 = .ok (.ishl, 1) := by decide +kernel
theorem e_JUtf_getChar_57 : decode M_JUtf_getChar.2.1 57 = .ok (.ior, 1) := by decide +kernel
theorem e_JUtf_getChar_58 : decode M_JUtf_getChar.2.1 58 = .ok (.i2c, 1) := by decide +kernel
theorem e_JUtf_getChar_59 : decode M_JUtf_getChar.2.1 59 = .ok (.ireturn, 1) := by decide +kernel
theorem e_JMath_abs_0 : decode M_JMath_abs.2.1 0 = .ok (.iload_n 0, 1) := by decide +kernel
theorem e_JMath_abs_1 : decode M_JMath_abs.2.1 1 = .ok (.ifCond .ge 8, 3) := by decide +kernel
theorem e_JMath_abs_4 : decode M_JMath_abs.2.1 4 = .ok (.iload_n 0, 1) := by decide +kernel
theorem e_JMath_abs_5 : decode M_JMath_abs.2.1 5 = .ok (.ineg, 1) := by decide +kernel
theorem e_JMath_abs_6 : decode M_JMath_abs.2.1 6 = .ok (.goto 4, 3) := by decide +kernel
theorem e_JMath_abs_9 : decode M_JMath_abs.2.1 9 = .ok (.iload_n 0, 1) := by decide +kernel
theorem e_JMath_abs_10 : decode M_JMath_abs.2.1 10 = .ok (.ireturn, 1) := by decide +kernel
theorem e_JInteger_bitCount_0 : decode M_JInteger_bitCount.2.1 0 = .ok (.iload_n 0, 1) := by decide +kernel
theorem e_JInteger_bitCount_1 : decode M_JInteger_bitCount.2.1 1 = .ok (.iload_n 0, 1) := by decide +kernel
theorem e_JInteger_bitCount_2 : decode M_JInteger_bitCount.2.1 2 = .ok (.iconst 1, 1) := by decide +kernel
theorem e_JInteger_bitCount_3 : decode M_JInteger_bitCount.2.1 3 = .ok (.iushr, 1) := by decide +kernel
theorem e_JInteger_bitCount_4 : decode M_JInteger_bitCount.2.1 4 = .ok (.ldc_w 265, 3) := by decide +kernel
theorem e_JInteger_bitCount_7 : decode M_JInteger_bitCount.2.1 7 = .ok (.iand, 1) := by decide +kernel
theorem e_JInteger_bitCount_8 : decode M_JInteger_bitCount.2.1 8 = .ok (.isub, 1) := by decide +kernel
theorem e_JInteger_bitCount_9 : decode M_JInteger_bitCount.2.1 9 = .ok (.istore_n 0, 1) := by decide +kernel
theorem e_JInteger_bitCount_10 : decode M_JInteger_bitCount.2.1 10 = .ok (.iload_n 0, 1) := by decide +kernel
theorem e_JInteger_bitCount_11 : decode M_JInteger_bitCount.2.1 11 = .ok (.ldc_w 266, 3) := by decide +kernel
theorem e_JInteger_bitCount_14 : decode M_JInteger_bitCount.2.1 14 = .ok (.iand, 1) := by decide +kernel
theorem e_JInteger_bitCount_15 : decode M_JInteger_bitCount.2.1 15 = .ok (.iload_n 0, 1) := by decide +kernel
theorem e_JInteger_bitCount_16 : decode M_JInteger_bitCount.2.1 16 = .ok (.iconst 2, 1) := by decide +kernel
theorem e_JInteger_bitCount_17 : decode M_JInteger_bitCount.2.1 17 = .ok (.iushr, 1) := by decide +kernel
theorem e_JInteger_bitCount_18 : decode M_JInteger_bitCount.2.1 18 = .ok (.ldc_w 266, 3) := by decide +kernel
theorem e_JInteger_bitCount_21 : decode M_JInteger_bitCount.2.1 21 = .ok (.iand, 1) := by decide +kernel
theorem e_JInteger_bitCount_22 : decode M_JInteger_bitCount.2.1 22 = .ok (.iadd, 1) := by decide +kernel
theorem e_JInteger_bitCount_23 : decode M_JInteger_bitCount.2.1 23 = .ok (.istore_n 0, 1) := by decide +kernel
theorem e_JInteger_bitCount_24 : decode M_JInteger_bitCount.2.1 24 = .ok (.iload_n 0, 1) := by decide +kernel
theorem e_JInteger_bitCount_25 : decode M_JInteger_bitCount.2.1 25 = .ok (.iload_n 0, 1) := by decide +kernel
theorem e_JInteger_bitCount_26 : decode M_JInteger_bitCount.2.1 26 = .ok (.iconst 4, 1) := by decide +kernel
theorem e_JInteger_bitCount_27 : decode M_JInteger_bitCount.2.1 27 = .ok (.iushr, 1) := by decide +kernel
theorem e_JInteger_bitCount_28 : decode M_JInteger_bitCount.2.1 28 = .ok (.iadd, 1) := by decide +kernel
theorem e_JInteger_bitCount_29 : decode M_JInteger_bitCount.2.1 29 = .ok (.ldc_w 267, 3) := by decide +kernel
theorem e_JInteger_bitCount_32 : decode M_JInteger_bitCount.2.1 32 = .ok (.iand, 1) := by decide +kernel
theorem e_JInteger_bitCount_33 : decode M_JInteger_bitCount.2.1 33 = .ok (.istore_n 0, 1) := by decide +kernel
theorem e_JInteger_bitCount_34 : decode M_JInteger_bitCount.2.1 34 = .ok (.iload_n 0, 1) := by decide +kernel
theorem e_JInteger_bitCount_35 : decode M_JInteger_bitCount.2.1 35 = .ok (.iload_n 0, 1) := by decide +kernel
theorem e_JInteger_bitCount_36 : decode M_JInteger_bitCount.2.1 36 = .ok (.bipush 8, 2) := by decide +kernel
theorem e_JInteger_bitCount_38 : decode M_JInteger_bitCount.2.1 38 = .ok (.iushr, 1) := by decide +kernel
theorem e_JInteger_bitCount_39 : decode M_JInteger_bitCount.2.1 39 = .ok (.iadd, 1) := by decide +kernel
theorem e_JInteger_bitCount_40 : decode M_JInteger_bitCount.2.1 40 = .ok (.istore_n 0, 1) := by decide +kernel
theorem e_JInteger_bitCount_41 : decode M_JInteger_bitCount.2.1 41 = .ok (.iload_n 0, 1) := by decide +kernel
theorem e_JInteger_bitCount_42 : decode M_JInteger_bitCount.2.1 42 = .ok (.iload_n 0, 1) := by decide +kernel
theorem e_JInteger_bitCount_43 : decode M_JInteger_bitCount.2.1 43 = .ok (.bipush 16, 2) := by decide +kernel
theorem e_JInteger_bitCount_45 : decode M_JInteger_bitCount.2.1 45 = .ok (.iushr, 1) := by decide +kernel
theorem e_JInteger_bitCount_46 : decode M_JInteger_bitCount.2.1 46 = .ok (.iadd, 1) := by decide +kernel
theorem e_JInteger_bitCount_47 : decode M_JInteger_bitCount.2.1 47 = .ok (.istore_n 0, 1) := by decide +kernel
theorem e_JInteger_bitCount_48 : decode M_JInteger_bitCount.2.1 48 = .ok (.iload_n 0, 1) := by decide +kernel
theorem e_JInteger_bitCount_49 : decode M_JInteger_bitCount.2.1 49 = .ok (.bipush 63, 2) := by decide +kernel
theorem e_JInteger_bitCount_51 : decode M_JInteger_bitCount.2.1 51 = .ok (.iand, 1) := by decide +kernel
theorem e_JInteger_bitCount_52 : decode M_JInteger_bitCount.2.1 52 = .ok (.ireturn, 1) := by decide +kernel
