theorem dX9_within_0 : decode cX9_within 0 = .ok (.iload_n 1, 1) := by decide +kernel
theorem dX9_within_1 : decode cX9_within 1 = .ok (.iload_n 0, 1) := by decide +kernel
theorem dX9_within_2 : decode cX9_within 2 = .ok (.if_icmp .gt 12, 3) := by decide +kernel
theorem dX9_within_5 : decode cX9_within 5 = .ok (.iload_n 0, 1) := by decide +kernel
theorem dX9_within_6 : decode cX9_within 6 = .ok (.iload_n 2, 1) := by decide +kernel
theorem dX9_within_7 : decode cX9_within 7 = .ok (.if_icmp .gt 7, 3) := by decide +kernel
theorem dX9_within_10 : decode cX9_within 10 = .ok (.iconst 1, 1) := by decide +kernel
theorem dX9_within_11 : decode cX9_within 11 = .ok (.goto 4, 3) := by decide +kernel
theorem dX9_within_14 : decode cX9_within 14 = .ok (.iconst 0, 1) := by decide +kernel
theorem dX9_within_15 : decode cX9_within 15 = .ok (.ireturn, 1) := by decide +kernel
theorem dX10_in_0 : decode cX10_in 0 = .ok (.lload_n 0, 1) := by decide +kernel
theorem dX10_in_1 : decode cX10_in 1 = .ok (.lload_n 2, 1) := by decide +kernel
theorem dX10_in_2 : decode cX10_in 2 = .ok (.lcmp, 1) := by decide +kernel
theorem dX10_in_3 : decode cX10_in 3 = .ok (.ifCond .lt 14, 3) := by decide +kernel
theorem dX10_in_6 : decode cX10_in 6 = .ok (.lload_n 0, 1) := by decide +kernel
theorem dX10_in_7 : decode cX10_in 7 = .ok (.lload 4, 2) := by decide +kernel
theorem dX10_in_9 : decode cX10_in 9 = .ok (.lcmp, 1) := by decide +kernel
theorem dX10_in_10 : decode cX10_in 10 = .ok (.ifCond .gt 7, 3) := by decide +kernel
theorem dX10_in_13 : decode cX10_in 13 = .ok (.iconst 1, 1) := by decide +kernel
theorem dX10_in_14 : decode cX10_in 14 = .ok (.goto 4, 3) := by decide +kernel
theorem dX10_in_17 : decode cX10_in 17 = .ok (.iconst 0, 1) := by decide +kernel
theorem dX10_in_18 : decode cX10_in 18 = .ok (.ireturn, 1) := by decide +kernel
theorem dX4_isLetter_0 : decode cX4_isLetter 0 = .ok (.iload_n 0, 1) := by decide +kernel
theorem dX4_isLetter_1 : decode cX4_isLetter 1 = .ok (.bipush 65, 2) := by decide +kernel
theorem dX4_isLetter_3 : decode cX4_isLetter 3 = .ok (.if_icmp .lt 13, 3) := by decide +kernel
theorem dX4_isLetter_6 : decode cX4_isLetter 6 = .ok (.iload_n 0, 1) := by decide +kernel
theorem dX4_isLetter_7 : decode cX4_isLetter 7 = .ok (.bipush 71, 2) := by decide +kernel
theorem dX4_isLetter_9 : decode cX4_isLetter 9 = .ok (.if_icmp .ge 7, 3) := by decide +kernel
theorem dX4_isLetter_12 : decode cX4_isLetter 12 = .ok (.iconst 1, 1) := by decide +kernel
theorem dX4_isLetter_13 : decode cX4_isLetter 13 = .ok (.goto 4, 3) := by decide +kernel
theorem dX4_isLetter_16 : decode cX4_isLetter 16 = .ok (.iconst 0, 1) := by decide +kernel
theorem dX4_isLetter_17 : decode cX4_isLetter 17 = .ok (.ireturn, 1) := by decide +kernel
theorem dX1_has_0 : decode cX1_has 0 = .ok (.iload_n 1, 1) := by decide +kernel
theorem dX1_has_1 : decode cX1_has 1 = .ok (.ifCond .lt 25, 3) := by decide +kernel
theorem dX1_has_4 : decode cX1_has 4 = .ok (.iload_n 1, 1) := by decide +kernel
theorem dX1_has_5 : decode cX1_has 5 = .ok (.bipush 6, 2) := by decide +kernel
theorem dX1_has_7 : decode cX1_has 7 = .ok (.if_icmp .ge 19, 3) := by decide +kernel
theorem dX1_has_10 : decode cX1_has 10 = .ok (.aload_n 0, 1) := by decide +kernel
theorem dX1_has_11 : decode cX1_has 11 = .ok (.getfield 31, 3) := by decide +kernel
theorem dX1_has_14 : decode cX1_has 14 = .ok (.iload_n 1, 1) := by decide +kernel
theorem dX1_has_15 : decode cX1_has 15 = .ok (.ishr, 1) := by decide +kernel
theorem dX1_has_16 : decode cX1_has 16 = .ok (.iconst 1, 1) := by decide +kernel
theorem dX1_has_17 : decode cX1_has 17 = .ok (.iand, 1) := by decide +kernel
theorem dX1_has_18 : decode cX1_has 18 = .ok (.iconst 1, 1) := by decide +kernel
theorem dX1_has_19 : decode cX1_has 19 = .ok (.if_icmp .ne 7, 3) := by decide +kernel
theorem dX1_has_22 : decode cX1_has 22 = .ok (.iconst 1, 1) := by decide +kernel
theorem dX1_has_23 : decode cX1_has 23 = .ok (.goto 4, 3) := by decide +kernel
theorem dX1_has_26 : decode cX1_has 26 = .ok (.iconst 0, 1) := by decide +kernel
theorem dX1_has_27 : decode cX1_has 27 = .ok (.ireturn, 1) := by decide +kernel
theorem dX10_isOne_0 : decode cX10_isOne 0 = .ok (.iload_n 1, 1) := by decide +kernel
theorem dX10_isOne_1 : decode cX10_isOne 1 = .ok (.i2l, 1) := by decide +kernel
theorem dX10_isOne_2 : decode cX10_isOne 2 = .ok (.lconst 0, 1) := by decide +kernel
theorem dX10_isOne_3 : decode cX10_isOne 3 = .ok (.ldc2_w 92, 3) := by decide +kernel
theorem dX10_isOne_6 : decode cX10_isOne 6 = .ok (.invokestatic 94, 3) := by decide +kernel
theorem dX10_isOne_9 : decode cX10_isOne 9 = .ok (.ifCond .eq 19, 3) := by decide +kernel
theorem dX10_isOne_12 : decode cX10_isOne 12 = .ok (.aload_n 0, 1) := by decide +kernel
theorem dX10_isOne_13 : decode cX10_isOne 13 = .ok (.getfield 98, 3) := by decide +kernel
theorem dX10_isOne_16 : decode cX10_isOne 16 = .ok (.iload_n 1, 1) := by decide +kernel
theorem dX10_isOne_17 : decode cX10_isOne 17 = .ok (.ishr, 1) := by decide +kernel
theorem dX10_isOne_18 : decode cX10_isOne 18 = .ok (.iconst 1, 1) := by decide +kernel
theorem dX10_isOne_19 : decode cX10_isOne 19 = .ok (.iand, 1) := by decide +kernel
theorem dX10_isOne_20 : decode cX10_isOne 20 = .ok (.iconst 1, 1) := by decide +kernel
theorem dX10_isOne_21 : decode cX10_isOne 21 = .ok (.if_icmp .ne 7, 3) := by decide +kernel
theorem dX10_isOne_24 : decode cX10_isOne 24 = .ok (.iconst 1, 1) := by decide +kernel
theorem dX10_isOne_25 : decode cX10_isOne 25 = .ok (.goto 4, 3) := by decide +kernel
theorem dX10_isOne_28 : decode cX10_isOne 28 = .ok (.iconst 0, 1) := by decide +kernel
theorem dX10_isOne_29 : decode cX10_isOne 29 = .ok (.ireturn, 1) := by decide +kernel
theorem dX10_isLetter_0 : decode cX10_isLetter 0 = .ok (.iload_n 0, 1) := by decide +kernel
theorem dX10_isLetter_1 : decode cX10_isLetter 1 = .ok (.i2l, 1) := by decide +kernel
theorem dX10_isLetter_2 : decode cX10_isLetter 2 = .ok (.ldc2_w 127, 3) := by decide +kernel
theorem dX10_isLetter_5 : decode cX10_isLetter 5 = .ok (.ldc2_w 129, 3) := by decide +kernel
theorem dX10_isLetter_8 : decode cX10_isLetter 8 = .ok (.invokestatic 94, 3) := by decide +kernel
theorem dX10_isLetter_11 : decode cX10_isLetter 11 = .ok (.ireturn, 1) := by decide +kernel
theorem dJ6_bitCount_0f7a4_0 : decode cJ6_bitCount_0f7a4 0 = .ok (.iload_n 0, 1) := by decide +kernel
theorem dJ6_bitCount_0f7a4_1 : decode cJ6_bitCount_0f7a4 1 = .ok (.iload_n 0, 1) := by decide +kernel
theorem dJ6_bitCount_0f7a4_2 : decode cJ6_bitCount_0f7a4 2 = .ok (.iconst 1, 1) := by decide +kernel
theorem dJ6_bitCount_0f7a4_3 : decode cJ6_bitCount_0f7a4 3 = .ok (.iushr, 1) := by decide +kernel
theorem dJ6_bitCount_0f7a4_4 : decode cJ6_bitCount_0f7a4 4 = .ok (.ldc_w 265, 3) := by decide +kernel
theorem dJ6_bitCount_0f7a4_7 : decode cJ6_bitCount_0f7a4 7 = .ok (.iand, 1) := by decide +kernel
theorem dJ6_bitCount_0f7a4_8 : decode cJ6_bitCount_0f7a4 8 = .ok (.isub, 1) := by decide +kernel
theorem dJ6_bitCount_0f7a4_9 : decode cJ6_bitCount_0f7a4 9 = .ok (.istore_n 0, 1) := by decide +kernel
theorem dJ6_bitCount_0f7a4_10 : decode cJ6_bitCount_0f7a4 10 = .ok (.iload_n 0, 1) := by decide +kernel
theorem dJ6_bitCount_0f7a4_11 : decode cJ6_bitCount_0f7a4 11 = .ok (.ldc_w 266, 3) := by decide +kernel
theorem dJ6_bitCount_0f7a4_14 : decode cJ6_bitCount_0f7a4 14 = .ok (.iand, 1) := by decide +kernel
theorem dJ6_bitCount_0f7a4_15 : decode cJ6_bitCount_0f7a4 15 = .ok (.iload_n 0, 1) := by decide +kernel
theorem dJ6_bitCount_0f7a4_16 : decode cJ6_bitCount_0f7a4 16 = .ok (.iconst 2, 1) := by decide +kernel
theorem dJ6_bitCount_0f7a4_17 : decode cJ6_bitCount_0f7a4 17 = .ok (.iushr, 1) := by decide +kernel
theorem dJ6_bitCount_0f7a4_18 : decode cJ6_bitCount_0f7a4 18 = .ok (.ldc_w 266, 3) := by decide +kernel
theorem dJ6_bitCount_0f7a4_21 : decode cJ6_bitCount_0f7a4 21 = .ok (.iand, 1) := by decide +kernel
theorem dJ6_bitCount_0f7a4_22 : decode cJ6_bitCount_0f7a4 22 = .ok (.iadd, 1) := by decide +kernel
theorem dJ6_bitCount_0f7a4_23 : decode cJ6_bitCount_0f7a4 23 = .ok (.istore_n 0, 1) := by decide +kernel
theorem dJ6_bitCount_0f7a4_24 : decode cJ6_bitCount_0f7a4 24 = .ok (.iload_n 0, 1) := by decide +kernel
theorem dJ6_bitCount_0f7a4_25 : decode cJ6_bitCount_0f7a4 25 = .ok (.iload_n 0, 1) := by decide +kernel
theorem dJ6_bitCount_0f7a4_26 : decode cJ6_bitCount_0f7a4 26 = .ok (.iconst 4, 1) := by decide +kernel
theorem dJ6_bitCount_0f7a4_27 : decode cJ6_bitCount_0f7a4 27 = .ok (.iushr, 1) := by decide +kernel
theorem dJ6_bitCount_0f7a4_28 : decode cJ6_bitCount_0f7a4 28 = .ok (.iadd, 1) := by decide +kernel
theorem dJ6_bitCount_0f7a4_29 : decode cJ6_bitCount_0f7a4 29 = .ok (.ldc_w 267, 3) := by decide +kernel
theorem dJ6_bitCount_0f7a4_32 : decode cJ6_bitCount_0f7a4 32 = .ok (.iand, 1) := by decide +kernel
theorem dJ6_bitCount_0f7a4_33 : decode cJ6_bitCount_0f7a4 33 = .ok (.istore_n 0, 1) := by decide +kernel
theorem dJ6_bitCount_0f7a4_34 : decode cJ6_bitCount_0f7a4 34 = .ok (.iload_n 0, 1) := by decide +kernel
theorem dJ6_bitCount_0f7a4_35 : decode cJ6_bitCount_0f7a4 35 = .ok (.iload_n 0, 1) := by decide +kernel
theorem dJ6_bitCount_0f7a4_36 : decode cJ6_bitCount_0f7a4 36 = .ok (.bipush 8, 2) := by decide +kernel
theorem dJ6_bitCount_0f7a4_38 : decode cJ6_bitCount_0f7a4 38 = .ok (.iushr, 1) := by decide +kernel
theorem dJ6_bitCount_0f7a4_39 : decode cJ6_bitCount_0f7a4 39 = .ok (.iadd, 1) := by decide +kernel
theorem dJ6_bitCount_0f7a4_40 : decode cJ6_bitCount_0f7a4 40 = .ok (.istore_n 0, 1) := by decide +kernel
theorem dJ6_bitCount_0f7a4_41 : decode cJ6_bitCount_0f7a4 41 = .ok (.iload_n 0, 1) := by decide +kernel
theorem dJ6_bitCount_0f7a4_42 : decode cJ6_bitCount_0f7a4 42 = .ok (.iload_n 0, 1) := by decide +kernel
theorem dJ6_bitCount_0f7a4_43 : decode cJ6_bitCount_0f7a4 43 = .ok (.bipush 16, 2) := by decide +kernel
theorem dJ6_bitCount_0f7a4_45 : decode cJ6_bitCount_0f7a4 45 = .ok (.iushr, 1) := by decide +kernel
theorem dJ6_bitCount_0f7a4_46 : decode cJ6_bitCount_0f7a4 46 = .ok (.iadd, 1) := by decide +kernel
theorem dJ6_bitCount_0f7a4_47 : decode cJ6_bitCount_0f7a4 47 = .ok (.istore_n 0, 1) := by decide +kernel
theorem dJ6_bitCount_0f7a4_48 : decode cJ6_bitCount_0f7a4 48 = .ok (.iload_n 0, 1) := by decide +kernel
theorem dJ6_bitCount_0f7a4_49 : decode cJ6_bitCount_0f7a4 49 = .ok (.bipush 63, 2) := by decide +kernel
theorem dJ6_bitCount_0f7a4_51 : decode cJ6_bitCount_0f7a4 51 = .ok (.iand, 1) := by decide +kernel
theorem dJ6_bitCount_0f7a4_52 : decode cJ6_bitCount_0f7a4 52 = .ok (.ireturn, 1) := by decide +kernel
theorem dX10_ones_0 : decode cX10_ones 0 = .ok (.iconst 0, 1) := by decide +kernel
theorem dX10_ones_1 : decode cX10_ones 1 = .ok (.istore_n 1, 1) := by decide +kernel
theorem dX10_ones_2 : decode cX10_ones 2 = .ok (.iload_n 0, 1) := by decide +kernel
theorem dX10_ones_3 : decode cX10_ones 3 = .ok (.istore_n 2, 1) := by decide +kernel
theorem dX10_ones_4 : decode cX10_ones 4 = .ok (.iload_n 2, 1) := by decide +kernel
theorem dX10_ones_5 : decode cX10_ones 5 = .ok (.ifCond .eq 15, 3) := by decide +kernel
theorem dX10_ones_8 : decode cX10_ones 8 = .ok (.iinc 1 1, 3) := by decide +kernel
theorem dX10_ones_11 : decode cX10_ones 11 = .ok (.iload_n 2, 1) := by decide +kernel
theorem dX10_ones_12 : decode cX10_ones 12 = .ok (.iload_n 2, 1) := by decide +kernel
theorem dX10_ones_13 : decode cX10_ones 13 = .ok (.iconst 1, 1) := by decide +kernel
theorem dX10_ones_14 : decode cX10_ones 14 = .ok (.isub, 1) := by decide +kernel
theorem dX10_ones_15 : decode cX10_ones 15 = .ok (.iand, 1) := by decide +kernel
theorem dX10_ones_16 : decode cX10_ones 16 = .ok (.istore_n 2, 1) := by decide +kernel
theorem dX10_ones_17 : decode cX10_ones 17 = .ok (.goto (-13), 3) := by decide +kernel
theorem dX10_ones_20 : decode cX10_ones 20 = .ok (.iload_n 1, 1) := by decide +kernel
theorem dX10_ones_21 : decode cX10_ones 21 = .ok (.ireturn, 1) := by decide +kernel
theorem dX1_people_0 : decode cX1_people 0 = .ok (.aload_n 0, 1) := by decide +kernel
theorem dX1_people_1 : decode cX1_people 1 = .ok (.getfield 31, 3) := by decide +kernel
theorem dX1_people_4 : decode cX1_people 4 = .ok (.invokestatic 34, 3) := by decide +kernel
theorem dX1_people_7 : decode cX1_people 7 = .ok (.ireturn, 1) := by decide +kernel
theorem dX1_halvesOf_0 : decode cX1_halvesOf 0 = .ok (.iload_n 0, 1) := by decide +kernel
theorem dX1_halvesOf_1 : decode cX1_halvesOf 1 = .ok (.bipush 98, 2) := by decide +kernel
theorem dX1_halvesOf_3 : decode cX1_halvesOf 3 = .ok (.if_icmp .ne 7, 3) := by decide +kernel
theorem dX1_halvesOf_6 : decode cX1_halvesOf 6 = .ok (.iconst 2, 1) := by decide +kernel
theorem dX1_halvesOf_7 : decode cX1_halvesOf 7 = .ok (.goto 4, 3) := by decide +kernel
theorem dX1_halvesOf_10 : decode cX1_halvesOf 10 = .ok (.iconst 1, 1) := by decide +kernel
theorem dX1_halvesOf_11 : decode cX1_halvesOf 11 = .ok (.ireturn, 1) := by decide +kernel
theorem dX10_stateOf_0 : decode cX10_stateOf 0 = .ok (.bipush 26, 2) := by decide +kernel
theorem dX10_stateOf_2 : decode cX10_stateOf 2 = .ok (.bipush 26, 2) := by decide +kernel
theorem dX10_stateOf_4 : decode cX10_stateOf 4 = .ok (.iload_n 0, 1) := by decide +kernel
theorem dX10_stateOf_5 : decode cX10_stateOf 5 = .ok (.imul, 1) := by decide +kernel
theorem dX10_stateOf_6 : decode cX10_stateOf 6 = .ok (.iload_n 1, 1) := by decide +kernel
theorem dX10_stateOf_7 : decode cX10_stateOf 7 = .ok (.iadd, 1) := by decide +kernel
theorem dX10_stateOf_8 : decode cX10_stateOf 8 = .ok (.imul, 1) := by decide +kernel
theorem dX10_stateOf_9 : decode cX10_stateOf 9 = .ok (.iload_n 2, 1) := by decide +kernel
theorem dX10_stateOf_10 : decode cX10_stateOf 10 = .ok (.iadd, 1) := by decide +kernel
theorem dX10_stateOf_11 : decode cX10_stateOf 11 = .ok (.ireturn, 1) := by decide +kernel
theorem dX10_halvesOf_0 : decode cX10_halvesOf 0 = .ok (.iload_n 0, 1) := by decide +kernel
theorem dX10_halvesOf_1 : decode cX10_halvesOf 1 = .ok (.bipush 9, 2) := by decide +kernel
theorem dX10_halvesOf_3 : decode cX10_halvesOf 3 = .ok (.idiv, 1) := by decide +kernel
theorem dX10_halvesOf_4 : decode cX10_halvesOf 4 = .ok (.iload_n 0, 1) := by decide +kernel
theorem dX10_halvesOf_5 : decode cX10_halvesOf 5 = .ok (.iconst 3, 1) := by decide +kernel
theorem dX10_halvesOf_6 : decode cX10_halvesOf 6 = .ok (.idiv, 1) := by decide +kernel
theorem dX10_halvesOf_7 : decode cX10_halvesOf 7 = .ok (.iconst 3, 1) := by decide +kernel
theorem dX10_halvesOf_8 : decode cX10_halvesOf 8 = .ok (.irem, 1) := by decide +kernel
theorem dX10_halvesOf_9 : decode cX10_halvesOf 9 = .ok (.iadd, 1) := by decide +kernel
theorem dX10_halvesOf_10 : decode cX10_halvesOf 10 = .ok (.iload_n 0, 1) := by decide +kernel
theorem dX10_halvesOf_11 : decode cX10_halvesOf 11 = .ok (.iconst 3, 1) := by decide +kernel
theorem dX10_halvesOf_12 : decode cX10_halvesOf 12 = .ok (.irem, 1) := by decide +kernel
theorem dX10_halvesOf_13 : decode cX10_halvesOf 13 = .ok (.iadd, 1) := by decide +kernel
theorem dX10_halvesOf_14 : decode cX10_halvesOf 14 = .ok (.ireturn, 1) := by decide +kernel
theorem dJ6_compare_7cf53_0 : decode cJ6_compare_7cf53 0 = .ok (.iload_n 0, 1) := by decide +kernel
theorem dJ6_compare_7cf53_1 : decode cJ6_compare_7cf53 1 = .ok (.iload_n 1, 1) := by decide +kernel
theorem dJ6_compare_7cf53_2 : decode cJ6_compare_7cf53 2 = .ok (.if_icmp .ge 7, 3) := by decide +kernel
theorem dJ6_compare_7cf53_5 : decode cJ6_compare_7cf53 5 = .ok (.iconst (-1), 1) := by decide +kernel
theorem dJ6_compare_7cf53_6 : decode cJ6_compare_7cf53 6 = .ok (.goto 13, 3) := by decide +kernel
theorem dJ6_compare_7cf53_9 : decode cJ6_compare_7cf53 9 = .ok (.iload_n 0, 1) := by decide +kernel
theorem dJ6_compare_7cf53_10 : decode cJ6_compare_7cf53 10 = .ok (.iload_n 1, 1) := by decide +kernel
theorem dJ6_compare_7cf53_11 : decode cJ6_compare_7cf53 11 = .ok (.if_icmp .ne 7, 3) := by decide +kernel
theorem dJ6_compare_7cf53_14 : decode cJ6_compare_7cf53 14 = .ok (.iconst 0, 1) := by decide +kernel
theorem dJ6_compare_7cf53_15 : decode cJ6_compare_7cf53 15 = .ok (.goto 4, 3) := by decide +kernel
theorem dJ6_compare_7cf53_18 : decode cJ6_compare_7cf53 18 = .ok (.iconst 1, 1) := by decide +kernel
theorem dJ6_compare_7cf53_19 : decode cJ6_compare_7cf53 19 = .ok (.ireturn, 1) := by decide +kernel
theorem dX8_kindOf_0 : decode cX8_kindOf 0 = .ok (.iload_n 0, 1) := by decide +kernel
theorem dX8_kindOf_1 : decode cX8_kindOf 1 = .ok (.tableswitch 57 0 5 #[39, 42, 45, 48, 51, 54], 39) := by decide +kernel
theorem dX8_kindOf_40 : decode cX8_kindOf 40 = .ok (.bipush 98, 2) := by decide +kernel
theorem dX8_kindOf_42 : decode cX8_kindOf 42 = .ok (.ireturn, 1) := by decide +kernel
theorem dX8_kindOf_43 : decode cX8_kindOf 43 = .ok (.bipush 98, 2) := by decide +kernel
theorem dX8_kindOf_45 : decode cX8_kindOf 45 = .ok (.ireturn, 1) := by decide +kernel
theorem dX8_kindOf_46 : decode cX8_kindOf 46 = .ok (.bipush 104, 2) := by decide +kernel
theorem dX8_kindOf_48 : decode cX8_kindOf 48 = .ok (.ireturn, 1) := by decide +kernel
theorem dX8_kindOf_49 : decode cX8_kindOf 49 = .ok (.bipush 104, 2) := by decide +kernel
theorem dX8_kindOf_51 : decode cX8_kindOf 51 = .ok (.ireturn, 1) := by decide +kernel
theorem dX8_kindOf_52 : decode cX8_kindOf 52 = .ok (.bipush 62, 2) := by decide +kernel
theorem dX8_kindOf_54 : decode cX8_kindOf 54 = .ok (.ireturn, 1) := by decide +kernel
theorem dX8_kindOf_55 : decode cX8_kindOf 55 = .ok (.bipush 46, 2) := by decide +kernel
theorem dX8_kindOf_57 : decode cX8_kindOf 57 = .ok (.ireturn, 1) := by decide +kernel
theorem dX8_kindOf_58 : decode cX8_kindOf 58 = .ok (.bipush 33, 2) := by decide +kernel
theorem dX8_kindOf_60 : decode cX8_kindOf 60 = .ok (.ireturn, 1) := by decide +kernel
theorem dX10_lookBehind_0 : decode cX10_lookBehind 0 = .ok (.iload_n 2, 1) := by decide +kernel
theorem dX10_lookBehind_1 : decode cX10_lookBehind 1 = .ok (.aload_n 0, 1) := by decide +kernel
theorem dX10_lookBehind_2 : decode cX10_lookBehind 2 = .ok (.getfield 13, 3) := by decide +kernel
theorem dX10_lookBehind_5 : decode cX10_lookBehind 5 = .ok (.iload_n 1, 1) := by decide +kernel
theorem dX10_lookBehind_6 : decode cX10_lookBehind 6 = .ok (.iaload, 1) := by decide +kernel
theorem dX10_lookBehind_7 : decode cX10_lookBehind 7 = .ok (.isub, 1) := by decide +kernel
theorem dX10_lookBehind_8 : decode cX10_lookBehind 8 = .ok (.aload_n 0, 1) := by decide +kernel
theorem dX10_lookBehind_9 : decode cX10_lookBehind 9 = .ok (.getfield 16, 3) := by decide +kernel
theorem dX10_lookBehind_12 : decode cX10_lookBehind 12 = .ok (.iload_n 1, 1) := by decide +kernel
theorem dX10_lookBehind_13 : decode cX10_lookBehind 13 = .ok (.iaload, 1) := by decide +kernel
theorem dX10_lookBehind_14 : decode cX10_lookBehind 14 = .ok (.if_icmp .le 14, 3) := by decide +kernel
theorem dX10_lookBehind_17 : decode cX10_lookBehind 17 = .ok (.iload_n 2, 1) := by decide +kernel
theorem dX10_lookBehind_18 : decode cX10_lookBehind 18 = .ok (.aload_n 0, 1) := by decide +kernel
theorem dX10_lookBehind_19 : decode cX10_lookBehind 19 = .ok (.getfield 13, 3) := by decide +kernel
theorem dX10_lookBehind_22 : decode cX10_lookBehind 22 = .ok (.iload_n 1, 1) := by decide +kernel
theorem dX10_lookBehind_23 : decode cX10_lookBehind 23 = .ok (.iaload, 1) := by decide +kernel
theorem dX10_lookBehind_24 : decode cX10_lookBehind 24 = .ok (.isub, 1) := by decide +kernel
theorem dX10_lookBehind_25 : decode cX10_lookBehind 25 = .ok (.goto 9, 3) := by decide +kernel
theorem dX10_lookBehind_28 : decode cX10_lookBehind 28 = .ok (.aload_n 0, 1) := by decide +kernel
theorem dX10_lookBehind_29 : decode cX10_lookBehind 29 = .ok (.getfield 16, 3) := by decide +kernel
theorem dX10_lookBehind_32 : decode cX10_lookBehind 32 = .ok (.iload_n 1, 1) := by decide +kernel
theorem dX10_lookBehind_33 : decode cX10_lookBehind 33 = .ok (.iaload, 1) := by decide +kernel
theorem dX10_lookBehind_34 : decode cX10_lookBehind 34 = .ok (.istore 4, 2) := by decide +kernel
theorem dX10_lookBehind_36 : decode cX10_lookBehind 36 = .ok (.iload_n 2, 1) := by decide +kernel
theorem dX10_lookBehind_37 : decode cX10_lookBehind 37 = .ok (.aload_n 0, 1) := by decide +kernel
theorem dX10_lookBehind_38 : decode cX10_lookBehind 38 = .ok (.getfield 13, 3) := by decide +kernel
theorem dX10_lookBehind_41 : decode cX10_lookBehind 41 = .ok (.iload_n 1, 1) := by decide +kernel
theorem dX10_lookBehind_42 : decode cX10_lookBehind 42 = .ok (.iaload, 1) := by decide +kernel
theorem dX10_lookBehind_43 : decode cX10_lookBehind 43 = .ok (.iadd, 1) := by decide +kernel
theorem dX10_lookBehind_44 : decode cX10_lookBehind 44 = .ok (.bipush 99, 2) := by decide +kernel
theorem dX10_lookBehind_46 : decode cX10_lookBehind 46 = .ok (.if_icmp .ge 14, 3) := by decide +kernel
theorem dX10_lookBehind_49 : decode cX10_lookBehind 49 = .ok (.iload_n 2, 1) := by decide +kernel
theorem dX10_lookBehind_50 : decode cX10_lookBehind 50 = .ok (.aload_n 0, 1) := by decide +kernel
theorem dX10_lookBehind_51 : decode cX10_lookBehind 51 = .ok (.getfield 13, 3) := by decide +kernel
theorem dX10_lookBehind_54 : decode cX10_lookBehind 54 = .ok (.iload_n 1, 1) := by decide +kernel
theorem dX10_lookBehind_55 : decode cX10_lookBehind 55 = .ok (.iaload, 1) := by decide +kernel
theorem dX10_lookBehind_56 : decode cX10_lookBehind 56 = .ok (.iadd, 1) := by decide +kernel
theorem dX10_lookBehind_57 : decode cX10_lookBehind 57 = .ok (.goto 5, 3) := by decide +kernel
theorem dX10_lookBehind_60 : decode cX10_lookBehind 60 = .ok (.bipush 99, 2) := by decide +kernel
theorem dX10_lookBehind_62 : decode cX10_lookBehind 62 = .ok (.istore 5, 2) := by decide +kernel
theorem dX10_lookBehind_64 : decode cX10_lookBehind 64 = .ok (.iload_n 3, 1) := by decide +kernel
theorem dX10_lookBehind_65 : decode cX10_lookBehind 65 = .ok (.iconst 2, 1) := by decide +kernel
theorem dX10_lookBehind_66 : decode cX10_lookBehind 66 = .ok (.if_icmp .ne 8, 3) := by decide +kernel
theorem dX10_lookBehind_69 : decode cX10_lookBehind 69 = .ok (.iload 4, 2) := by decide +kernel
theorem dX10_lookBehind_71 : decode cX10_lookBehind 71 = .ok (.goto 14, 3) := by decide +kernel
theorem dX10_lookBehind_74 : decode cX10_lookBehind 74 = .ok (.iload_n 3, 1) := by decide +kernel
theorem dX10_lookBehind_75 : decode cX10_lookBehind 75 = .ok (.iconst 1, 1) := by decide +kernel
theorem dX10_lookBehind_76 : decode cX10_lookBehind 76 = .ok (.if_icmp .ne 7, 3) := by decide +kernel
theorem dX10_lookBehind_79 : decode cX10_lookBehind 79 = .ok (.iload_n 2, 1) := by decide +kernel
theorem dX10_lookBehind_80 : decode cX10_lookBehind 80 = .ok (.goto 5, 3) := by decide +kernel
theorem dX10_lookBehind_83 : decode cX10_lookBehind 83 = .ok (.iload 5, 2) := by decide +kernel
theorem dX10_lookBehind_85 : decode cX10_lookBehind 85 = .ok (.ireturn, 1) := by decide +kernel
theorem dX1_aged_0 : decode cX1_aged 0 = .ok (.aload_n 0, 1) := by decide +kernel
theorem dX1_aged_1 : decode cX1_aged 1 = .ok (.iload_n 1, 1) := by decide +kernel
theorem dX1_aged_2 : decode cX1_aged 2 = .ok (.invokevirtual 40, 3) := by decide +kernel
theorem dX1_aged_5 : decode cX1_aged 5 = .ok (.ifCond .eq 8, 3) := by decide +kernel
theorem dX1_aged_8 : decode cX1_aged 8 = .ok (.iload_n 3, 1) := by decide +kernel
theorem dX1_aged_9 : decode cX1_aged 9 = .ok (.iconst 1, 1) := by decide +kernel
theorem dX1_aged_10 : decode cX1_aged 10 = .ok (.if_icmp .ne 5, 3) := by decide +kernel
theorem dX1_aged_13 : decode cX1_aged 13 = .ok (.iload_n 2, 1) := by decide +kernel
theorem dX1_aged_14 : decode cX1_aged 14 = .ok (.ireturn, 1) := by decide +kernel
theorem dX1_aged_15 : decode cX1_aged 15 = .ok (.iload_n 3, 1) := by decide +kernel
theorem dX1_aged_16 : decode cX1_aged 16 = .ok (.ifCond .ne 19, 3) := by decide +kernel
theorem dX1_aged_19 : decode cX1_aged 19 = .ok (.bipush 99, 2) := by decide +kernel
theorem dX1_aged_21 : decode cX1_aged 21 = .ok (.iload_n 2, 1) := by decide +kernel
theorem dX1_aged_22 : decode cX1_aged 22 = .ok (.aload_n 0, 1) := by decide +kernel
theorem dX1_aged_23 : decode cX1_aged 23 = .ok (.getfield 15, 3) := by decide +kernel
theorem dX1_aged_26 : decode cX1_aged 26 = .ok (.iload_n 1, 1) := by decide +kernel
theorem dX1_aged_27 : decode cX1_aged 27 = .ok (.iaload, 1) := by decide +kernel
theorem dX1_aged_28 : decode cX1_aged 28 = .ok (.iadd, 1) := by decide +kernel
theorem dX1_aged_29 : decode cX1_aged 29 = .ok (.invokestatic 74, 3) := by decide +kernel
theorem dX1_aged_32 : decode cX1_aged 32 = .ok (.goto 20, 3) := by decide +kernel
theorem dX1_aged_35 : decode cX1_aged 35 = .ok (.aload_n 0, 1) := by decide +kernel
theorem dX1_aged_36 : decode cX1_aged 36 = .ok (.getfield 18, 3) := by decide +kernel
theorem dX1_aged_39 : decode cX1_aged 39 = .ok (.iload_n 1, 1) := by decide +kernel
theorem dX1_aged_40 : decode cX1_aged 40 = .ok (.iaload, 1) := by decide +kernel
theorem dX1_aged_41 : decode cX1_aged 41 = .ok (.iload_n 2, 1) := by decide +kernel
theorem dX1_aged_42 : decode cX1_aged 42 = .ok (.aload_n 0, 1) := by decide +kernel
theorem dX1_aged_43 : decode cX1_aged 43 = .ok (.getfield 15, 3) := by decide +kernel
theorem dX1_aged_46 : decode cX1_aged 46 = .ok (.iload_n 1, 1) := by decide +kernel
theorem dX1_aged_47 : decode cX1_aged 47 = .ok (.iaload, 1) := by decide +kernel
theorem dX1_aged_48 : decode cX1_aged 48 = .ok (.isub, 1) := by decide +kernel
theorem dX1_aged_49 : decode cX1_aged 49 = .ok (.invokestatic 79, 3) := by decide +kernel
theorem dX1_aged_52 : decode cX1_aged 52 = .ok (.ireturn, 1) := by decide +kernel
theorem b_X9_within_0 {l : Launch} {z d : Nat} {X : jX} {M : Nat → Int → Int} {Q : Option jV → jM → Prop} {x0 : Int} {x1 : Int} {x2 : Int}   (k1 : x0 < x1 → Q (some (jI 0)) (jG, M)) (k2 : x1 ≤ x0 → x2 < x0 → Q (some (jI 0)) (jG, M)) (k3 : x1 ≤ x0 → x0 ≤ x2 → Q (some (jI 1)) (jG, M)) : J l z X d mX9_within (0, 0) 0 [jI x0, jI x1, jI x2] [] (jG, M) Q :=
  (J_iload_n dX9_within_0 rfl (J_iload_n dX9_within_1 rfl (J_icmp_gt dX9_within_2 (tgt := 14) (by decide) (fun c1 => (J_iconst dX9_within_14 jc_0 (J_zret dX9_within_15 rfl (Or.inl rfl) (k1 c1)))) (fun c1 => (J_iload_n dX9_within_5 rfl (J_iload_n dX9_within_6 rfl (J_icmp_gt dX9_within_7 (tgt := 14) (by decide) (fun c2 => (J_iconst dX9_within_14 jc_0 (J_zret dX9_within_15 rfl (Or.inl rfl) (k2 c1 c2)))) (fun c2 => (J_iconst dX9_within_10 jc_1 (J_goto dX9_within_11 (tgt := 15) (by decide) (J_zret dX9_within_15 rfl (Or.inr rfl) (k3 c1 c2))))))))))))
theorem b_X10_in_0 {l : Launch} {z d : Nat} {X : jX} {M : Nat → Int → Int} {Q : Option jV → jM → Prop} {x0 : Int} {x2 : Int} {x4 : Int}   (k1 : x0 < x2 → Q (some (jI 0)) (jG, M)) (k2 : x2 ≤ x0 → x4 < x0 → Q (some (jI 0)) (jG, M)) (k3 : x2 ≤ x0 → x0 ≤ x4 → Q (some (jI 1)) (jG, M)) : J l z X d mX10_in (0, 0) 0 [jL x0, jN, jL x2, jN, jL x4, jN] [] (jG, M) Q :=
  (J_lload_n dX10_in_0 rfl (J_lload_n dX10_in_1 rfl (J_lif_lt dX10_in_2 dX10_in_3 (tgt := 17) (by decide) (fun c1 => (J_iconst dX10_in_17 jc_0 (J_zret dX10_in_18 rfl (Or.inl rfl) (k1 c1)))) (fun c1 => (J_lload_n dX10_in_6 rfl (J_lload dX10_in_7 rfl (J_lif_gt dX10_in_9 dX10_in_10 (tgt := 17) (by decide) (fun c2 => (J_iconst dX10_in_17 jc_0 (J_zret dX10_in_18 rfl (Or.inl rfl) (k2 c1 c2)))) (fun c2 => (J_iconst dX10_in_13 jc_1 (J_goto dX10_in_14 (tgt := 18) (by decide) (J_zret dX10_in_18 rfl (Or.inr rfl) (k3 c1 c2))))))))))))
theorem b_X4_isLetter_0 {l : Launch} {z d : Nat} {X : jX} {M : Nat → Int → Int} {Q : Option jV → jM → Prop} {x0 : Int}   (k1 : x0 < 65 → Q (some (jI 0)) (jG, M)) (k2 : 65 ≤ x0 → 71 ≤ x0 → Q (some (jI 0)) (jG, M)) (k3 : 65 ≤ x0 → x0 < 71 → Q (some (jI 1)) (jG, M)) : J l z X d mX4_isLetter (0, 0) 0 [jI x0] [] (jG, M) Q :=
  (J_iload_n dX4_isLetter_0 rfl (J_bipush dX4_isLetter_1 jc_65 jb_65 (J_icmp_lt dX4_isLetter_3 (tgt := 16) (by decide) (fun c1 => (J_iconst dX4_isLetter_16 jc_0 (J_zret dX4_isLetter_17 rfl (Or.inl rfl) (k1 c1)))) (fun c1 => (J_iload_n dX4_isLetter_6 rfl (J_bipush dX4_isLetter_7 jc_71 jb_71 (J_icmp_ge dX4_isLetter_9 (tgt := 16) (by decide) (fun c2 => (J_iconst dX4_isLetter_16 jc_0 (J_zret dX4_isLetter_17 rfl (Or.inl rfl) (k2 c1 c2)))) (fun c2 => (J_iconst dX4_isLetter_12 jc_1 (J_goto dX4_isLetter_13 (tgt := 17) (by decide) (J_zret dX4_isLetter_17 rfl (Or.inr rfl) (k3 c1 c2))))))))))))
theorem b_X1_has_0 {l : Launch} {z d : Nat} {X : jX} {M : Nat → Int → Int} {Q : Option jV → jM → Prop} {h : Nat} {x1 : Int} (hh : jHi h)  (k1 : x1 < 0 → Q (some (jI 0)) (jG, M)) (k2 : 0 ≤ x1 → 6 ≤ x1 → Q (some (jI 0)) (jG, M)) (k3 : 0 ≤ x1 → x1 < 6 → (jand (jshr (M h 4) x1) 1) ≠ 1 → Q (some (jI 0)) (jG, M)) (k4 : 0 ≤ x1 → x1 < 6 → (jand (jshr (M h 4) x1) 1) = 1 → Q (some (jI 1)) (jG, M)) : J l z X d mX1_has (0, 0) 0 [jR h, jI x1] [] (jG, M) Q :=
  (J_iload_n dX1_has_0 rfl (J_if_lt dX1_has_1 (tgt := 26) (by decide) (fun c1 => (J_iconst dX1_has_26 jc_0 (J_zret dX1_has_27 rfl (Or.inl rfl) (k1 c1)))) (fun c1 => (J_iload_n dX1_has_4 rfl (J_bipush dX1_has_5 jc_6 jb_6 (J_icmp_ge dX1_has_7 (tgt := 26) (by decide) (fun c2 => (J_iconst dX1_has_26 jc_0 (J_zret dX1_has_27 rfl (Or.inl rfl) (k2 c1 c2)))) (fun c2 => (J_aload_n dX1_has_10 rfl (J_getI (k := 4) (kz := 4) jcl_X1 dX1_has_11 wf_X1_31 hh.1 (Nat.le_of_ble_eq_true rfl) rfl rfl (J_iload_n dX1_has_14 rfl (J_ishr dX1_has_15 (J_iconst dX1_has_16 jc_1 (J_iand dX1_has_17 (J_iconst dX1_has_18 jc_1 (J_icmp_ne dX1_has_19 (tgt := 26) (by decide) (fun c3 => (J_iconst dX1_has_26 jc_0 (J_zret dX1_has_27 rfl (Or.inl rfl) (k3 c1 c2 c3)))) (fun c3 => (J_iconst dX1_has_22 jc_1 (J_goto dX1_has_23 (tgt := 27) (by decide) (J_zret dX1_has_27 rfl (Or.inr rfl) (k4 c1 c2 c3))))))))))))))))))))
theorem b_X10_isOne_0 {l : Launch} {z d : Nat} {X : jX} {M : Nat → Int → Int} {Q : Option jV → jM → Prop} {x1 : Int}   (k1 : J l z X d mX10_in (0, 0) 0 [jL x1, jN, jL 0, jN, jL 5, jN] [] (jG, M) (fun r μ => J l z X (d + 1) mX10_isOne (0, 0) 9 [jR 96, jI x1] (r.toList ++ []) μ Q)) : J l z X (d + 1) mX10_isOne (0, 0) 0 [jR 96, jI x1] [] (jG, M) Q :=
  (J_iload_n dX10_isOne_0 rfl (J_i2l dX10_isOne_1 (J_lconst dX10_isOne_2 jlc_0 jlv_0 (J_ldc2 dX10_isOne_3 (lw_X10_92) lcl_X10_92 rfl (J_callS (a1 := (0, 0)) (a2 := (0, 0)) (mm' := mX10_in) (S := []) [jL x1, jL 0, jL 5] md_X10_in is_X10_in dX10_isOne_6 wm_X10_94 rfl rfl (Nat.le_of_ble_eq_true rfl) (Nat.le_of_ble_eq_true rfl) rfl k1)))))
theorem b_X10_isOne_9 {l : Launch} {z d : Nat} {X : jX} {M : Nat → Int → Int} {Q : Option jV → jM → Prop} {x1 : Int} {t0 : Int}   (k1 : t0 = 0 → Q (some (jI 0)) (jG, M)) (k2 : t0 ≠ 0 → (jand (jshr (M 96 0) x1) 1) ≠ 1 → Q (some (jI 0)) (jG, M)) (k3 : t0 ≠ 0 → (jand (jshr (M 96 0) x1) 1) = 1 → Q (some (jI 1)) (jG, M)) : J l z X (d + 1) mX10_isOne (0, 0) 9 [jR 96, jI x1] [jI t0] (jG, M) Q :=
  (J_if_eq dX10_isOne_9 (tgt := 28) (by decide) (fun c1 => (J_iconst dX10_isOne_28 jc_0 (J_zret dX10_isOne_29 rfl (Or.inl rfl) (k1 c1)))) (fun c1 => (J_aload_n dX10_isOne_12 rfl (J_getI (k := 0) (kz := 0) jcl_X10 dX10_isOne_13 wf_X10_98 g_96 (Nat.le_of_ble_eq_true rfl) rfl rfl (J_iload_n dX10_isOne_16 rfl (J_ishr dX10_isOne_17 (J_iconst dX10_isOne_18 jc_1 (J_iand dX10_isOne_19 (J_iconst dX10_isOne_20 jc_1 (J_icmp_ne dX10_isOne_21 (tgt := 28) (by decide) (fun c2 => (J_iconst dX10_isOne_28 jc_0 (J_zret dX10_isOne_29 rfl (Or.inl rfl) (k2 c1 c2)))) (fun c2 => (J_iconst dX10_isOne_24 jc_1 (J_goto dX10_isOne_25 (tgt := 29) (by decide) (J_zret dX10_isOne_29 rfl (Or.inr rfl) (k3 c1 c2)))))))))))))))
theorem b_X10_isLetter_0 {l : Launch} {z d : Nat} {X : jX} {M : Nat → Int → Int} {Q : Option jV → jM → Prop} {x0 : Int}   (k1 : J l z X d mX10_in (0, 0) 0 [jL x0, jN, jL 65, jN, jL 70, jN] [] (jG, M) (fun r μ => J l z X (d + 1) mX10_isLetter (0, 0) 11 [jI x0] (r.toList ++ []) μ Q)) : J l z X (d + 1) mX10_isLetter (0, 0) 0 [jI x0] [] (jG, M) Q :=
  (J_iload_n dX10_isLetter_0 rfl (J_i2l dX10_isLetter_1 (J_ldc2 dX10_isLetter_2 (lw_X10_127) lcl_X10_127 rfl (J_ldc2 dX10_isLetter_5 (lw_X10_129) lcl_X10_129 rfl (J_callS (a1 := (0, 0)) (a2 := (0, 0)) (mm' := mX10_in) (S := []) [jL x0, jL 65, jL 70] md_X10_in is_X10_in dX10_isLetter_8 wm_X10_94 rfl rfl (Nat.le_of_ble_eq_true rfl) (Nat.le_of_ble_eq_true rfl) rfl k1)))))
theorem b_X10_isLetter_11 {l : Launch} {z d : Nat} {X : jX} {M : Nat → Int → Int} {Q : Option jV → jM → Prop} {x0 : Int} {t0 : Int}  (s1 : t0 = 0 ∨ t0 = 1) (k1 : Q (some (jI t0)) (jG, M)) : J l z X (d + 1) mX10_isLetter (0, 0) 11 [jI x0] [jI t0] (jG, M) Q :=
  (J_zret dX10_isLetter_11 rfl s1 k1)
theorem b_J6_bitCount_0f7a4_0 {l : Launch} {z d : Nat} {X : jX} {M : Nat → Int → Int} {Q : Option jV → jM → Prop} {x0 : Int}  (s1 : jIn (x0 - (jand (jushr x0 1) 1431655765))) (s2 : jIn ((jand (x0 - (jand (jushr x0 1) 1431655765)) 858993459) + (jand (jushr (x0 - (jand (jushr x0 1) 1431655765)) 2) 858993459))) (s3 : jIn (((jand (x0 - (jand (jushr x0 1) 1431655765)) 858993459) + (jand (jushr (x0 - (jand (jushr x0 1) 1431655765)) 2) 858993459)) + (jushr ((jand (x0 - (jand (jushr x0 1) 1431655765)) 858993459) + (jand (jushr (x0 - (jand (jushr x0 1) 1431655765)) 2) 858993459)) 4))) (s4 : jIn ((jand (((jand (x0 - (jand (jushr x0 1) 1431655765)) 858993459) + (jand (jushr (x0 - (jand (jushr x0 1) 1431655765)) 2) 858993459)) + (jushr ((jand (x0 - (jand (jushr x0 1) 1431655765)) 858993459) + (jand (jushr (x0 - (jand (jushr x0 1) 1431655765)) 2) 858993459)) 4)) 252645135) + (jushr (jand (((jand (x0 - (jand (jushr x0 1) 1431655765)) 858993459) + (jand (jushr (x0 - (jand (jushr x0 1) 1431655765)) 2) 858993459)) + (jushr ((jand (x0 - (jand (jushr x0 1) 1431655765)) 858993459) + (jand (jushr (x0 - (jand (jushr x0 1) 1431655765)) 2) 858993459)) 4)) 252645135) 8))) (s5 : jIn (((jand (((jand (x0 - (jand (jushr x0 1) 1431655765)) 858993459) + (jand (jushr (x0 - (jand (jushr x0 1) 1431655765)) 2) 858993459)) + (jushr ((jand (x0 - (jand (jushr x0 1) 1431655765)) 858993459) + (jand (jushr (x0 - (jand (jushr x0 1) 1431655765)) 2) 858993459)) 4)) 252645135) + (jushr (jand (((jand (x0 - (jand (jushr x0 1) 1431655765)) 858993459) + (jand (jushr (x0 - (jand (jushr x0 1) 1431655765)) 2) 858993459)) + (jushr ((jand (x0 - (jand (jushr x0 1) 1431655765)) 858993459) + (jand (jushr (x0 - (jand (jushr x0 1) 1431655765)) 2) 858993459)) 4)) 252645135) 8)) + (jushr ((jand (((jand (x0 - (jand (jushr x0 1) 1431655765)) 858993459) + (jand (jushr (x0 - (jand (jushr x0 1) 1431655765)) 2) 858993459)) + (jushr ((jand (x0 - (jand (jushr x0 1) 1431655765)) 858993459) + (jand (jushr (x0 - (jand (jushr x0 1) 1431655765)) 2) 858993459)) 4)) 252645135) + (jushr (jand (((jand (x0 - (jand (jushr x0 1) 1431655765)) 858993459) + (jand (jushr (x0 - (jand (jushr x0 1) 1431655765)) 2) 858993459)) + (jushr ((jand (x0 - (jand (jushr x0 1) 1431655765)) 858993459) + (jand (jushr (x0 - (jand (jushr x0 1) 1431655765)) 2) 858993459)) 4)) 252645135) 8)) 16))) (k1 : Q (some (jI (jand (((jand (((jand (x0 - (jand (jushr x0 1) 1431655765)) 858993459) + (jand (jushr (x0 - (jand (jushr x0 1) 1431655765)) 2) 858993459)) + (jushr ((jand (x0 - (jand (jushr x0 1) 1431655765)) 858993459) + (jand (jushr (x0 - (jand (jushr x0 1) 1431655765)) 2) 858993459)) 4)) 252645135) + (jushr (jand (((jand (x0 - (jand (jushr x0 1) 1431655765)) 858993459) + (jand (jushr (x0 - (jand (jushr x0 1) 1431655765)) 2) 858993459)) + (jushr ((jand (x0 - (jand (jushr x0 1) 1431655765)) 858993459) + (jand (jushr (x0 - (jand (jushr x0 1) 1431655765)) 2) 858993459)) 4)) 252645135) 8)) + (jushr ((jand (((jand (x0 - (jand (jushr x0 1) 1431655765)) 858993459) + (jand (jushr (x0 - (jand (jushr x0 1) 1431655765)) 2) 858993459)) + (jushr ((jand (x0 - (jand (jushr x0 1) 1431655765)) 858993459) + (jand (jushr (x0 - (jand (jushr x0 1) 1431655765)) 2) 858993459)) 4)) 252645135) + (jushr (jand (((jand (x0 - (jand (jushr x0 1) 1431655765)) 858993459) + (jand (jushr (x0 - (jand (jushr x0 1) 1431655765)) 2) 858993459)) + (jushr ((jand (x0 - (jand (jushr x0 1) 1431655765)) 858993459) + (jand (jushr (x0 - (jand (jushr x0 1) 1431655765)) 2) 858993459)) 4)) 252645135) 8)) 16)) 63))) (jG, M)) : J l z X d mJ6_bitCount_0f7a4 (0, 0) 0 [jI x0] [] (jG, M) Q :=
  (J_iload_n dJ6_bitCount_0f7a4_0 rfl (J_iload_n dJ6_bitCount_0f7a4_1 rfl (J_iconst dJ6_bitCount_0f7a4_2 jc_1 (J_iushr dJ6_bitCount_0f7a4_3 (J_ldcw dJ6_bitCount_0f7a4_4 (lw_J6_265) lcl_J6_265 rfl (J_iand dJ6_bitCount_0f7a4_7 (J_isub dJ6_bitCount_0f7a4_8 s1 (J_istore_n dJ6_bitCount_0f7a4_9 (Nat.le_of_ble_eq_true rfl) (J_iload_n dJ6_bitCount_0f7a4_10 rfl (J_ldcw dJ6_bitCount_0f7a4_11 (lw_J6_266) lcl_J6_266 rfl (J_iand dJ6_bitCount_0f7a4_14 (J_iload_n dJ6_bitCount_0f7a4_15 rfl (J_iconst dJ6_bitCount_0f7a4_16 jc_2 (J_iushr dJ6_bitCount_0f7a4_17 (J_ldcw dJ6_bitCount_0f7a4_18 (lw_J6_266) lcl_J6_266 rfl (J_iand dJ6_bitCount_0f7a4_21 (J_iadd dJ6_bitCount_0f7a4_22 s2 (J_istore_n dJ6_bitCount_0f7a4_23 (Nat.le_of_ble_eq_true rfl) (J_iload_n dJ6_bitCount_0f7a4_24 rfl (J_iload_n dJ6_bitCount_0f7a4_25 rfl (J_iconst dJ6_bitCount_0f7a4_26 jc_4 (J_iushr dJ6_bitCount_0f7a4_27 (J_iadd dJ6_bitCount_0f7a4_28 s3 (J_ldcw dJ6_bitCount_0f7a4_29 (lw_J6_267) lcl_J6_267 rfl (J_iand dJ6_bitCount_0f7a4_32 (J_istore_n dJ6_bitCount_0f7a4_33 (Nat.le_of_ble_eq_true rfl) (J_iload_n dJ6_bitCount_0f7a4_34 rfl (J_iload_n dJ6_bitCount_0f7a4_35 rfl (J_bipush dJ6_bitCount_0f7a4_36 jc_8 jb_8 (J_iushr dJ6_bitCount_0f7a4_38 (J_iadd dJ6_bitCount_0f7a4_39 s4 (J_istore_n dJ6_bitCount_0f7a4_40 (Nat.le_of_ble_eq_true rfl) (J_iload_n dJ6_bitCount_0f7a4_41 rfl (J_iload_n dJ6_bitCount_0f7a4_42 rfl (J_bipush dJ6_bitCount_0f7a4_43 jc_16 jb_16 (J_iushr dJ6_bitCount_0f7a4_45 (J_iadd dJ6_bitCount_0f7a4_46 s5 (J_istore_n dJ6_bitCount_0f7a4_47 (Nat.le_of_ble_eq_true rfl) (J_iload_n dJ6_bitCount_0f7a4_48 rfl (J_bipush dJ6_bitCount_0f7a4_49 jc_63 jb_63 (J_iand dJ6_bitCount_0f7a4_51 (J_iret dJ6_bitCount_0f7a4_52 rfl k1))))))))))))))))))))))))))))))))))))))))))
theorem b_X10_ones_0 {l : Launch} {z d : Nat} {X : jX} {M : Nat → Int → Int} {Q : Option jV → jM → Prop} {x0 : Int}   (k1 : J l z X d mX10_ones (0, 0) 4 [jI x0, jI 0, jI x0] [] (jG, M) Q) : J l z X d mX10_ones (0, 0) 0 [jI x0, jN, jN] [] (jG, M) Q :=
  (J_iconst dX10_ones_0 jc_0 (J_istore_n dX10_ones_1 (Nat.le_of_ble_eq_true rfl) (J_iload_n dX10_ones_2 rfl (J_istore_n dX10_ones_3 (Nat.le_of_ble_eq_true rfl) k1))))
theorem b_X10_ones_4 {l : Launch} {z d : Nat} {X : jX} {M : Nat → Int → Int} {Q : Option jV → jM → Prop} {x0 : Int} {x1 : Int} {x2 : Int}  (s1 : x2 ≠ 0 → jIn (x1 + 1)) (s2 : x2 ≠ 0 → jIn (x2 - 1)) (k1 : x2 = 0 → Q (some (jI x1)) (jG, M)) (k2 : x2 ≠ 0 → J l z X d mX10_ones (0, 0) 4 [jI x0, jI (x1 + 1), jI (jand x2 (x2 - 1))] [] (jG, M) Q) : J l z X d mX10_ones (0, 0) 4 [jI x0, jI x1, jI x2] [] (jG, M) Q :=
  (J_iload_n dX10_ones_4 rfl (J_if_eq dX10_ones_5 (tgt := 20) (by decide) (fun c1 => (J_iload_n dX10_ones_20 rfl (J_iret dX10_ones_21 rfl (k1 c1)))) (fun c1 => (J_iinc dX10_ones_8 rfl jc_1 (s1 c1) (J_iload_n dX10_ones_11 rfl (J_iload_n dX10_ones_12 rfl (J_iconst dX10_ones_13 jc_1 (J_isub dX10_ones_14 (s2 c1) (J_iand dX10_ones_15 (J_istore_n dX10_ones_16 (Nat.le_of_ble_eq_true rfl) (J_goto dX10_ones_17 (tgt := 4) (by decide) (k2 c1))))))))))))
theorem b_X1_people_0 {l : Launch} {z d : Nat} {X : jX} {M : Nat → Int → Int} {Q : Option jV → jM → Prop} {h : Nat} (hh : jHi h)  (k1 : J l z X d mJ6_bitCount_0f7a4 (0, 0) 0 [jI (M h 4)] [] (jG, M) (fun r μ => J l z X (d + 1) mX1_people (0, 0) 7 [jR h] (r.toList ++ []) μ Q)) : J l z X (d + 1) mX1_people (0, 0) 0 [jR h] [] (jG, M) Q :=
  (J_aload_n dX1_people_0 rfl (J_getI (k := 4) (kz := 4) jcl_X1 dX1_people_1 wf_X1_31 hh.1 (Nat.le_of_ble_eq_true rfl) rfl rfl (J_callS (a1 := (0, 0)) (a2 := (0, 0)) (mm' := mJ6_bitCount_0f7a4) (S := []) [jI (M h 4)] md_J6_bitCount_0f7a4 is_J6_bitCount_0f7a4 dX1_people_4 wm_X1_34 rfl rfl (Nat.le_of_ble_eq_true rfl) (Nat.le_of_ble_eq_true rfl) rfl k1)))
theorem b_X1_people_7 {l : Launch} {z d : Nat} {X : jX} {M : Nat → Int → Int} {Q : Option jV → jM → Prop} {h : Nat} {t0 : Int} (hh : jHi h)  (k1 : Q (some (jI t0)) (jG, M)) : J l z X (d + 1) mX1_people (0, 0) 7 [jR h] [jI t0] (jG, M) Q :=
  (J_iret dX1_people_7 rfl k1)
theorem b_X1_halvesOf_0 {l : Launch} {z d : Nat} {X : jX} {M : Nat → Int → Int} {Q : Option jV → jM → Prop} {x0 : Int}   (k1 : x0 ≠ 98 → Q (some (jI 1)) (jG, M)) (k2 : x0 = 98 → Q (some (jI 2)) (jG, M)) : J l z X d mX1_halvesOf (0, 0) 0 [jI x0] [] (jG, M) Q :=
  (J_iload_n dX1_halvesOf_0 rfl (J_bipush dX1_halvesOf_1 jc_98 jb_98 (J_icmp_ne dX1_halvesOf_3 (tgt := 10) (by decide) (fun c1 => (J_iconst dX1_halvesOf_10 jc_1 (J_iret dX1_halvesOf_11 rfl (k1 c1)))) (fun c1 => (J_iconst dX1_halvesOf_6 jc_2 (J_goto dX1_halvesOf_7 (tgt := 11) (by decide) (J_iret dX1_halvesOf_11 rfl (k2 c1))))))))
theorem b_X10_stateOf_0 {l : Launch} {z d : Nat} {X : jX} {M : Nat → Int → Int} {Q : Option jV → jM → Prop} {x0 : Int} {x1 : Int} {x2 : Int}  (s1 : jIn (26 * x0)) (s2 : jIn ((26 * x0) + x1)) (s3 : jIn (26 * ((26 * x0) + x1))) (s4 : jIn ((26 * ((26 * x0) + x1)) + x2)) (k1 : Q (some (jI ((26 * ((26 * x0) + x1)) + x2))) (jG, M)) : J l z X d mX10_stateOf (0, 0) 0 [jI x0, jI x1, jI x2] [] (jG, M) Q :=
  (J_bipush dX10_stateOf_0 jc_26 jb_26 (J_bipush dX10_stateOf_2 jc_26 jb_26 (J_iload_n dX10_stateOf_4 rfl (J_imul dX10_stateOf_5 s1 (J_iload_n dX10_stateOf_6 rfl (J_iadd dX10_stateOf_7 s2 (J_imul dX10_stateOf_8 s3 (J_iload_n dX10_stateOf_9 rfl (J_iadd dX10_stateOf_10 s4 (J_iret dX10_stateOf_11 rfl k1))))))))))
theorem b_X10_halvesOf_0 {l : Launch} {z d : Nat} {X : jX} {M : Nat → Int → Int} {Q : Option jV → jM → Prop} {x0 : Int}  (s1 : 0 ≤ x0) (s2 : 0 ≤ (x0 / 3)) (s3 : jIn ((x0 / 9) + ((x0 / 3) % 3))) (s4 : jIn (((x0 / 9) + ((x0 / 3) % 3)) + (x0 % 3))) (k1 : Q (some (jI (((x0 / 9) + ((x0 / 3) % 3)) + (x0 % 3)))) (jG, M)) : J l z X d mX10_halvesOf (0, 0) 0 [jI x0] [] (jG, M) Q :=
  (J_iload_n dX10_halvesOf_0 rfl (J_bipush dX10_halvesOf_1 jc_9 jb_9 (J_idiv dX10_halvesOf_3 s1 (by decide) (J_iload_n dX10_halvesOf_4 rfl (J_iconst dX10_halvesOf_5 jc_3 (J_idiv dX10_halvesOf_6 s1 (by decide) (J_iconst dX10_halvesOf_7 jc_3 (J_irem dX10_halvesOf_8 s2 (by decide) (J_iadd dX10_halvesOf_9 s3 (J_iload_n dX10_halvesOf_10 rfl (J_iconst dX10_halvesOf_11 jc_3 (J_irem dX10_halvesOf_12 s1 (by decide) (J_iadd dX10_halvesOf_13 s4 (J_iret dX10_halvesOf_14 rfl k1))))))))))))))
theorem b_J6_compare_7cf53_0 {l : Launch} {z d : Nat} {X : jX} {M : Nat → Int → Int} {Q : Option jV → jM → Prop} {x0 : Int} {x1 : Int}   (k1 : x1 ≤ x0 → x0 ≠ x1 → Q (some (jI 1)) (jG, M)) (k2 : x1 ≤ x0 → x0 = x1 → Q (some (jI 0)) (jG, M)) (k3 : x0 < x1 → Q (some (jI (-1))) (jG, M)) : J l z X d mJ6_compare_7cf53 (0, 0) 0 [jI x0, jI x1] [] (jG, M) Q :=
  (J_iload_n dJ6_compare_7cf53_0 rfl (J_iload_n dJ6_compare_7cf53_1 rfl (J_icmp_ge dJ6_compare_7cf53_2 (tgt := 9) (by decide) (fun c1 => (J_iload_n dJ6_compare_7cf53_9 rfl (J_iload_n dJ6_compare_7cf53_10 rfl (J_icmp_ne dJ6_compare_7cf53_11 (tgt := 18) (by decide) (fun c2 => (J_iconst dJ6_compare_7cf53_18 jc_1 (J_iret dJ6_compare_7cf53_19 rfl (k1 c1 c2)))) (fun c2 => (J_iconst dJ6_compare_7cf53_14 jc_0 (J_goto dJ6_compare_7cf53_15 (tgt := 19) (by decide) (J_iret dJ6_compare_7cf53_19 rfl (k2 c1 c2))))))))) (fun c1 => (J_iconst dJ6_compare_7cf53_5 jc_m1 (J_goto dJ6_compare_7cf53_6 (tgt := 19) (by decide) (J_iret dJ6_compare_7cf53_19 rfl (k3 c1))))))))
theorem jsw_X8_kindOf_1 {l : Launch} {z d : Nat} {X : jX} {a : Nat × Nat} {L S : List jV} {μ : jM} {Q : Option jV → jM → Prop} {x : Int} (kd : (x < 0 ∨ 5 < x) → J l z X d mX8_kindOf a 58 L S μ Q) (k0 : x = 0 → J l z X d mX8_kindOf a 40 L S μ Q) (k1 : x = 1 → J l z X d mX8_kindOf a 43 L S μ Q) (k2 : x = 2 → J l z X d mX8_kindOf a 46 L S μ Q) (k3 : x = 3 → J l z X d mX8_kindOf a 49 L S μ Q) (k4 : x = 4 → J l z X d mX8_kindOf a 52 L S μ Q) (k5 : x = 5 → J l z X d mX8_kindOf a 55 L S μ Q) : J l z X d mX8_kindOf a 1 L (jI x :: S) μ Q := by
  refine J_switch (T := fun k => match k with | 0 => 40 | 1 => 43 | 2 => 46 | 3 => 49 | 4 => 52 | _ => 55) dX8_kindOf_1 (tgt := 58) (by decide) (fun k hk => ?_) kd (fun k hk hx => ?_)
  · have hk2 : k < 6 := by omega
    revert hk2
    revert k
    intro k hk hk2
    have hall : ∀ k, k < 6 → ∃ off : Int, (#[39, 42, 45, 48, 51, 54] : Array Int)[k]? = some off ∧ ((1 : Nat) : Int) + off = (((fun k => match k with | 0 => 40 | 1 => 43 | 2 => 46 | 3 => 49 | 4 => 52 | _ => 55 : Nat → Nat) k : Nat) : Int) := by
      intro k hk
      match k, hk with
      | 0, _ => exact ⟨39, rfl, by decide⟩
      | 1, _ => exact ⟨42, rfl, by decide⟩
      | 2, _ => exact ⟨45, rfl, by decide⟩
      | 3, _ => exact ⟨48, rfl, by decide⟩
      | 4, _ => exact ⟨51, rfl, by decide⟩
      | 5, _ => exact ⟨54, rfl, by decide⟩
    exact hall k hk2
  · have hk2 : k < 6 := by omega
    match k, hk2, hx with
    | 0, _, hx => exact k0 (by rw [hx]; rfl)
    | 1, _, hx => exact k1 (by rw [hx]; rfl)
    | 2, _, hx => exact k2 (by rw [hx]; rfl)
    | 3, _, hx => exact k3 (by rw [hx]; rfl)
    | 4, _, hx => exact k4 (by rw [hx]; rfl)
    | 5, _, hx => exact k5 (by rw [hx]; rfl)
theorem b_X8_kindOf_0 {l : Launch} {z d : Nat} {X : jX} {M : Nat → Int → Int} {Q : Option jV → jM → Prop} {x0 : Int}   (k1 : (x0 < 0 ∨ 5 < x0) → Q (some (jI 33)) (jG, M)) (k2 : x0 = 0 → Q (some (jI 98)) (jG, M)) (k3 : x0 = 1 → Q (some (jI 98)) (jG, M)) (k4 : x0 = 2 → Q (some (jI 104)) (jG, M)) (k5 : x0 = 3 → Q (some (jI 104)) (jG, M)) (k6 : x0 = 4 → Q (some (jI 62)) (jG, M)) (k7 : x0 = 5 → Q (some (jI 46)) (jG, M)) : J l z X d mX8_kindOf (0, 0) 0 [jI x0] [] (jG, M) Q :=
  (J_iload_n dX8_kindOf_0 rfl (jsw_X8_kindOf_1 (fun c1 => (J_bipush dX8_kindOf_58 jc_33 jb_33 (J_iret dX8_kindOf_60 rfl (k1 c1)))) (fun c1 => (J_bipush dX8_kindOf_40 jc_98 jb_98 (J_iret dX8_kindOf_42 rfl (k2 c1)))) (fun c1 => (J_bipush dX8_kindOf_43 jc_98 jb_98 (J_iret dX8_kindOf_45 rfl (k3 c1)))) (fun c1 => (J_bipush dX8_kindOf_46 jc_104 jb_104 (J_iret dX8_kindOf_48 rfl (k4 c1)))) (fun c1 => (J_bipush dX8_kindOf_49 jc_104 jb_104 (J_iret dX8_kindOf_51 rfl (k5 c1)))) (fun c1 => (J_bipush dX8_kindOf_52 jc_62 jb_62 (J_iret dX8_kindOf_54 rfl (k6 c1)))) (fun c1 => (J_bipush dX8_kindOf_55 jc_46 jb_46 (J_iret dX8_kindOf_57 rfl (k7 c1))))))
theorem b_X10_lookBehind_0 {l : Launch} {z d : Nat} {X : jX} {M : Nat → Int → Int} {Q : Option jV → jM → Prop} {x1 : Int} {x2 : Int} {x3 : Int}  (s1 : 0 ≤ x1) (s2 : x1 < 6) (s3 : jIn (x2 - (M 98 x1))) (s4 : (x2 - (M 98 x1)) ≤ (M 99 x1) → 0 ≤ x1) (s5 : (x2 - (M 98 x1)) ≤ (M 99 x1) → x1 < 6) (s6 : (M 99 x1) < (x2 - (M 98 x1)) → 0 ≤ x1) (s7 : (M 99 x1) < (x2 - (M 98 x1)) → x1 < 6) (s8 : (M 99 x1) < (x2 - (M 98 x1)) → jIn (x2 - (M 98 x1))) (k1 : (x2 - (M 98 x1)) ≤ (M 99 x1) → J l z X d mX10_lookBehind (0, 0) 34 [jR 96, jI x1, jI x2, jI x3, jN, jN] [jI (M 99 x1)] (jG, M) Q) (k2 : (M 99 x1) < (x2 - (M 98 x1)) → J l z X d mX10_lookBehind (0, 0) 34 [jR 96, jI x1, jI x2, jI x3, jN, jN] [jI (x2 - (M 98 x1))] (jG, M) Q) : J l z X d mX10_lookBehind (0, 0) 0 [jR 96, jI x1, jI x2, jI x3, jN, jN] [] (jG, M) Q :=
  (J_iload_n dX10_lookBehind_0 rfl (J_aload_n dX10_lookBehind_1 rfl (J_getR (k := 5) jcl_X10 dX10_lookBehind_2 wf_X10_13 g_96 (Nat.le_of_ble_eq_true rfl) rfl rfl (J_iload_n dX10_lookBehind_5 rfl (J_iald dX10_lookBehind_6 g_98 s1 s2 (J_isub dX10_lookBehind_7 s3 (J_aload_n dX10_lookBehind_8 rfl (J_getR (k := 6) jcl_X10 dX10_lookBehind_9 wf_X10_16 g_96 (Nat.le_of_ble_eq_true rfl) rfl rfl (J_iload_n dX10_lookBehind_12 rfl (J_iald dX10_lookBehind_13 g_99 s1 s2 (J_icmp_le dX10_lookBehind_14 (tgt := 28) (by decide) (fun c1 => (J_aload_n dX10_lookBehind_28 rfl (J_getR (k := 6) jcl_X10 dX10_lookBehind_29 wf_X10_16 g_96 (Nat.le_of_ble_eq_true rfl) rfl rfl (J_iload_n dX10_lookBehind_32 rfl (J_iald dX10_lookBehind_33 g_99 (s4 c1) (s5 c1) (k1 c1)))))) (fun c1 => (J_iload_n dX10_lookBehind_17 rfl (J_aload_n dX10_lookBehind_18 rfl (J_getR (k := 5) jcl_X10 dX10_lookBehind_19 wf_X10_13 g_96 (Nat.le_of_ble_eq_true rfl) rfl rfl (J_iload_n dX10_lookBehind_22 rfl (J_iald dX10_lookBehind_23 g_98 (s6 c1) (s7 c1) (J_isub dX10_lookBehind_24 (s8 c1) (J_goto dX10_lookBehind_25 (tgt := 34) (by decide) (k2 c1))))))))))))))))))))
theorem b_X10_lookBehind_34 {l : Launch} {z d : Nat} {X : jX} {M : Nat → Int → Int} {Q : Option jV → jM → Prop} {x1 : Int} {x2 : Int} {x3 : Int} {t0 : Int}  (s1 : 0 ≤ x1) (s2 : x1 < 6) (s3 : jIn (x2 + (M 98 x1))) (s4 : (x2 + (M 98 x1)) < 99 → 0 ≤ x1) (s5 : (x2 + (M 98 x1)) < 99 → x1 < 6) (s6 : (x2 + (M 98 x1)) < 99 → jIn (x2 + (M 98 x1))) (k1 : 99 ≤ (x2 + (M 98 x1)) → J l z X d mX10_lookBehind (0, 0) 62 [jR 96, jI x1, jI x2, jI x3, jI t0, jN] [jI 99] (jG, M) Q) (k2 : (x2 + (M 98 x1)) < 99 → J l z X d mX10_lookBehind (0, 0) 62 [jR 96, jI x1, jI x2, jI x3, jI t0, jN] [jI (x2 + (M 98 x1))] (jG, M) Q) : J l z X d mX10_lookBehind (0, 0) 34 [jR 96, jI x1, jI x2, jI x3, jN, jN] [jI t0] (jG, M) Q :=
  (J_istore dX10_lookBehind_34 (Nat.le_of_ble_eq_true rfl) (J_iload_n dX10_lookBehind_36 rfl (J_aload_n dX10_lookBehind_37 rfl (J_getR (k := 5) jcl_X10 dX10_lookBehind_38 wf_X10_13 g_96 (Nat.le_of_ble_eq_true rfl) rfl rfl (J_iload_n dX10_lookBehind_41 rfl (J_iald dX10_lookBehind_42 g_98 s1 s2 (J_iadd dX10_lookBehind_43 s3 (J_bipush dX10_lookBehind_44 jc_99 jb_99 (J_icmp_ge dX10_lookBehind_46 (tgt := 60) (by decide) (fun c1 => (J_bipush dX10_lookBehind_60 jc_99 jb_99 (k1 c1))) (fun c1 => (J_iload_n dX10_lookBehind_49 rfl (J_aload_n dX10_lookBehind_50 rfl (J_getR (k := 5) jcl_X10 dX10_lookBehind_51 wf_X10_13 g_96 (Nat.le_of_ble_eq_true rfl) rfl rfl (J_iload_n dX10_lookBehind_54 rfl (J_iald dX10_lookBehind_55 g_98 (s4 c1) (s5 c1) (J_iadd dX10_lookBehind_56 (s6 c1) (J_goto dX10_lookBehind_57 (tgt := 62) (by decide) (k2 c1))))))))))))))))))
theorem b_X10_lookBehind_62 {l : Launch} {z d : Nat} {X : jX} {M : Nat → Int → Int} {Q : Option jV → jM → Prop} {x1 : Int} {x2 : Int} {x3 : Int} {x4 : Int} {t0 : Int}   (k1 : x3 ≠ 2 → x3 ≠ 1 → Q (some (jI t0)) (jG, M)) (k2 : x3 ≠ 2 → x3 = 1 → Q (some (jI x2)) (jG, M)) (k3 : x3 = 2 → Q (some (jI x4)) (jG, M)) : J l z X d mX10_lookBehind (0, 0) 62 [jR 96, jI x1, jI x2, jI x3, jI x4, jN] [jI t0] (jG, M) Q :=
  (J_istore dX10_lookBehind_62 (Nat.le_of_ble_eq_true rfl) (J_iload_n dX10_lookBehind_64 rfl (J_iconst dX10_lookBehind_65 jc_2 (J_icmp_ne dX10_lookBehind_66 (tgt := 74) (by decide) (fun c1 => (J_iload_n dX10_lookBehind_74 rfl (J_iconst dX10_lookBehind_75 jc_1 (J_icmp_ne dX10_lookBehind_76 (tgt := 83) (by decide) (fun c2 => (J_iload dX10_lookBehind_83 rfl (J_iret dX10_lookBehind_85 rfl (k1 c1 c2)))) (fun c2 => (J_iload_n dX10_lookBehind_79 rfl (J_goto dX10_lookBehind_80 (tgt := 85) (by decide) (J_iret dX10_lookBehind_85 rfl (k2 c1 c2))))))))) (fun c1 => (J_iload dX10_lookBehind_69 rfl (J_goto dX10_lookBehind_71 (tgt := 85) (by decide) (J_iret dX10_lookBehind_85 rfl (k3 c1)))))))))
theorem b_X1_aged_0 {l : Launch} {z d : Nat} {X : jX} {M : Nat → Int → Int} {Q : Option jV → jM → Prop} {h : Nat} {x1 : Int} {x2 : Int} {x3 : Int} (hh : jHi h)  (k1 : J l z X d mX1_has (0, 0) 0 [jR h, jI x1] [] (jG, M) (fun r μ => J l z X (d + 1) mX1_aged (0, 0) 5 [jR h, jI x1, jI x2, jI x3] (r.toList ++ []) μ Q)) : J l z X (d + 1) mX1_aged (0, 0) 0 [jR h, jI x1, jI x2, jI x3] [] (jG, M) Q :=
  (J_aload_n dX1_aged_0 rfl (J_iload_n dX1_aged_1 rfl (J_callV (a1 := (0, 0)) (a2 := (0, 0)) (mm' := mX1_has) (S := []) [jI x1] md_X1_has im_X1_has se_X1_has dX1_aged_2 wm_X1_40 jcl_X1.1 rfl hh.1 rfl rfl (Nat.le_of_ble_eq_true rfl) (Nat.le_of_ble_eq_true rfl) rfl k1)))
theorem b_X1_aged_5 {l : Launch} {z d : Nat} {X : jX} {M : Nat → Int → Int} {Q : Option jV → jM → Prop} {h : Nat} {x1 : Int} {x2 : Int} {x3 : Int} {t0 : Int} (hh : jHi h) (s1 : t0 ≠ 0 → x3 ≠ 1 → x3 ≠ 0 → 0 ≤ x1) (s2 : t0 ≠ 0 → x3 ≠ 1 → x3 ≠ 0 → x1 < 6) (s3 : t0 ≠ 0 → x3 ≠ 1 → x3 ≠ 0 → jIn (x2 - (M (h + 2) x1))) (s4 : t0 ≠ 0 → x3 ≠ 1 → x3 = 0 → 0 ≤ x1) (s5 : t0 ≠ 0 → x3 ≠ 1 → x3 = 0 → x1 < 6) (s6 : t0 ≠ 0 → x3 ≠ 1 → x3 = 0 → jIn (x2 + (M (h + 2) x1))) (k1 : t0 = 0 → Q (some (jI x2)) (jG, M)) (k2 : t0 ≠ 0 → x3 ≠ 1 → x3 ≠ 0 → Q (some (jI (max (M (h + 3) x1) (x2 - (M (h + 2) x1))))) (jG, M)) (k3 : t0 ≠ 0 → x3 ≠ 1 → x3 = 0 → Q (some (jI (min 99 (x2 + (M (h + 2) x1))))) (jG, M)) (k4 : t0 ≠ 0 → x3 = 1 → Q (some (jI x2)) (jG, M)) : J l z X (d + 1) mX1_aged (0, 0) 5 [jR h, jI x1, jI x2, jI x3] [jI t0] (jG, M) Q :=
  (J_if_eq dX1_aged_5 (tgt := 13) (by decide) (fun c1 => (J_iload_n dX1_aged_13 rfl (J_iret dX1_aged_14 rfl (k1 c1)))) (fun c1 => (J_iload_n dX1_aged_8 rfl (J_iconst dX1_aged_9 jc_1 (J_icmp_ne dX1_aged_10 (tgt := 15) (by decide) (fun c2 => (J_iload_n dX1_aged_15 rfl (J_if_ne dX1_aged_16 (tgt := 35) (by decide) (fun c3 => (J_aload_n dX1_aged_35 rfl (J_getR (k := 2) jcl_X1 dX1_aged_36 wf_X1_18 hh.1 (Nat.le_of_ble_eq_true rfl) rfl rfl (J_iload_n dX1_aged_39 rfl (J_iald dX1_aged_40 hh.2.2.2.1 (s1 c1 c2 c3) (s2 c1 c2 c3) (J_iload_n dX1_aged_41 rfl (J_aload_n dX1_aged_42 rfl (J_getR (k := 1) jcl_X1 dX1_aged_43 wf_X1_15 hh.1 (Nat.le_of_ble_eq_true rfl) rfl rfl (J_iload_n dX1_aged_46 rfl (J_iald dX1_aged_47 hh.2.2.1 (s1 c1 c2 c3) (s2 c1 c2 c3) (J_isub dX1_aged_48 (s3 c1 c2 c3) (J_mmax dX1_aged_49 wm_X1_79 is_J9_max_7cf53 wi_J9 mc_J9_max_7cf53 (Nat.succ_le_succ (Nat.zero_le _)) (Nat.le_of_ble_eq_true rfl) (J_iret dX1_aged_52 rfl (k2 c1 c2 c3)))))))))))))) (fun c3 => (J_bipush dX1_aged_19 jc_99 jb_99 (J_iload_n dX1_aged_21 rfl (J_aload_n dX1_aged_22 rfl (J_getR (k := 1) jcl_X1 dX1_aged_23 wf_X1_15 hh.1 (Nat.le_of_ble_eq_true rfl) rfl rfl (J_iload_n dX1_aged_26 rfl (J_iald dX1_aged_27 hh.2.2.1 (s4 c1 c2 c3) (s5 c1 c2 c3) (J_iadd dX1_aged_28 (s6 c1 c2 c3) (J_mmin dX1_aged_29 wm_X1_74 is_J9_min_7cf53 wi_J9 mc_J9_min_7cf53 (Nat.succ_le_succ (Nat.zero_le _)) (Nat.le_of_ble_eq_true rfl) (J_goto dX1_aged_32 (tgt := 52) (by decide) (J_iret dX1_aged_52 rfl (k3 c1 c2 c3))))))))))))))) (fun c2 => (J_iload_n dX1_aged_13 rfl (J_iret dX1_aged_14 rfl (k4 c1 c2)))))))))
